/-! the office: judging, the letters, the events -/
def us (x y : Int32) : Int32 := (x.toUInt32 >>> (y.toUInt32 &&& Int32.toUInt32 31)).toInt32
def irm (x y : Int32) : Int32 := x - x / y * y
def ibc (x : Int32) : Int32 :=
  let a := x - (us x 1 &&& 1431655765)
  let b := (a &&& 858993459) + (us a 2 &&& 858993459)
  let c := (b + us b 4) &&& 252645135
  let d := c + us c 8
  let e := d + us d 16
  e &&& 63
def fmod (x y : Int32) : Int32 := if 0 ≤ x ^^^ y then irm x y else if irm x y = 0 then irm x y else irm x y + y
theorem us8 (x : Int32) : ∃ m, m < 2 ^ 24 ∧ us x 8 = nI m := by
  have h : (us x 8).toBitVec.toNat = x.toBitVec.toNat / 2 ^ 8 := pk_ushr x 8 8 (by decide)
  refine ⟨x.toBitVec.toNat / 2 ^ 8, ?_, ?_⟩
  · have := x.toBitVec.isLt
    omega
  · apply Int32.toBitVec_inj.mp
    apply BitVec.eq_of_toNat_eq
    rw [h, pk_tn]
    have := x.toBitVec.isLt
    omega
theorem irm_in (x : Int32) {n : Nat} (hn : n < 2 ^ 30) : vp_in (irm (us x 8) (nI n + 1)) (n + 1) := by
  obtain ⟨m, hm, e⟩ := us8 x
  unfold irm
  rw [e, nI_1, pk_rem (by omega) (Nat.succ_pos n) (by omega)]
  exact vp_in_nI (Nat.mod_lt _ (Nat.succ_pos n)) (by omega)
def shf1 (S : NSt) (j : Nat) : NSt := itr (fun k T => nput T 8 0 k (vp_nar .char ((97 + nI k).toUInt32 % 65536).toInt32)) j S
def shf2 : Nat → Int32 → NSt → NSt
  | 0, _, T => T
  | n + 1, st, T => shf2 n (st * 1103515245 + 12345) (letExch T (irm (us (st * 1103515245 + 12345) 8) (nI (n + 1) + 1)) (nI (n + 1)))
def shf3 (T : NSt) (j : Nat) : NSt := itr (fun k U => nput U 9 0 (nix (U 8 0 k - 97)) (nI k)) j T
def oShuf (S : NSt) (f : Int32) : NSt := nput (shf3 (shf2 25 f (shf1 S 26)) 26) 7 0 2 1
def lGood (T : NSt) (n : Nat) : Prop := ∀ i, i < n → cSmall (T 8 0 i) = true
theorem nar_small {c : Int32} (h : cSmall c = true) : vp_nar .char c = c := by
  have h1 := cSmall_in h
  obtain ⟨j, hj, e⟩ := vp_in_of h1 (by decide)
  have e2 : c = nI (97 + j) := by
    have : c = (c - 97) + 97 := by rw [Int32.sub_add_cancel]
    rw [this, e, show (97 : Int32) = nI 97 from rfl, nI_add, Nat.add_comm]
  have h3 := (pk_charN (q := 97 + j) (by omega)).1
  rw [e2]
  unfold vp_nar
  rw [h3]
theorem small_nI {k : Nat} (hk : k < 26) : vp_nar .char ((97 + nI k).toUInt32 % 65536).toInt32 = nI (97 + k) ∧ cSmall (nI (97 + k)) = true := by
  have e1 : (97 : Int32) + nI k = nI (97 + k) := by rw [show (97 : Int32) = nI 97 from rfl, nI_add]
  have e2 : ((97 + nI k).toUInt32 % 65536).toInt32 = nI (97 + k) := by
    rw [e1, pk_char, pk_tn (by omega)]
    congr 1
    omega
  have e3 : cSmall (nI (97 + k)) = true := by
    unfold cSmall
    rw [show (97 : Int32) = nI 97 from rfl, show (122 : Int32) = nI 122 from rfl, Bool.and_eq_true, decide_eq_true_eq, decide_eq_true_eq, nI_leI (by omega) (by omega), nI_leI (by omega) (by omega)]
    omega
  rw [e2]
  exact ⟨nar_small e3, e3⟩
theorem shf1_good (S : NSt) : ∀ j, j ≤ 26 → lGood (shf1 S j) j
  | 0, _ => fun i hi => absurd hi (Nat.not_lt_zero i)
  | j + 1, hj => by
    intro i hi
    have h := shf1_good S j (by omega)
    show cSmall (nput (shf1 S j) 8 0 j _ 8 0 i) = true
    unfold nput
    by_cases e : i = j
    · subst e
      rw [if_pos ⟨rfl, rfl, rfl⟩, (small_nI (by omega)).1]
      exact (small_nI (by omega)).2
    · rw [if_neg (fun z => e z.2.1)]
      exact h i (by omega)
theorem letExch_good {T : NSt} {a b : Int32} (ha : nix a < 26) (hb : nix b < 26) (h : lGood T 26) : lGood (letExch T a b) 26 := by
  intro i hi
  unfold letExch nput
  by_cases e1 : i = nix b
  · rw [if_pos ⟨rfl, e1, rfl⟩, nar_small (h _ ha)]
    exact h _ ha
  · rw [if_neg (fun z => e1 z.2.1)]
    by_cases e2 : i = nix a
    · rw [if_pos ⟨rfl, e2, rfl⟩, nar_small (h _ hb)]
      exact h _ hb
    · rw [if_neg (fun z => e2 z.2.1)]
      exact h i hi
theorem shf2_good : ∀ (n : Nat) (st : Int32) (T : NSt), n ≤ 25 → lGood T 26 → lGood (shf2 n st T) 26
  | 0, _, _, _, h => h
  | n + 1, st, T, hn, h => by
    unfold shf2
    refine shf2_good n _ _ (by omega) (letExch_good ?_ ?_ h)
    · exact vp_lt (vp_mono (irm_in _ (by omega)) (by omega))
    · exact vp_lt (vp_in_nI (by omega) (by decide))
theorem shf3_ne (T : NSt) : ∀ (n k i j : Nat), k ≠ 9 → shf3 T n k i j = T k i j
  | 0, _, _, _, _ => rfl
  | n + 1, k, i, j, hk => by
    show nput _ _ _ _ _ k i j = _
    unfold nput
    rw [if_neg (fun z => hk z.1)]
    exact shf3_ne T n k i j hk
def ssv (need : Int32) (T : NSt) (cnt : Nat) (u : Int32) : Nat → Int32 × Int32
  | 0 => (-1, 13)
  | n + 1 => if decide ((nI n &&& (u ^^^ -1)) = 0) && decide (ibc (nI n) < (ssv need T cnt u n).2) && decide (need ≤ oCw T (nI n) cnt) then (nI n, ibc (nI n)) else ssv need T cnt u n
theorem ssv_s (need : Int32) (T : NSt) (cnt : Nat) (u : Int32) (n : Nat) : ssv need T cnt u (n + 1) = if decide ((nI n &&& (u ^^^ -1)) = 0) && decide (ibc (nI n) < (ssv need T cnt u n).2) && decide (need ≤ oCw T (nI n) cnt) then (nI n, ibc (nI n)) else ssv need T cnt u n := rfl
abbrev oG (S : NSt) (x : Int32) : Nat × NSt := gth S x (ons S)
def oUse (S : NSt) (x : Int32) : Int32 := oAll (oG S x).2 (oG S x).1
def oSmall (S : NSt) (x : Int32) : Int32 := (ssv (S 4 (nix (S 11 (nix x) 0)) 0) (oG S x).2 (oG S x).1 (oUse S x) (nix (oUse S x) + 1)).1
def oWd (S : NSt) (f : Int32) : NSt := nput (nput S 0 0 8 (S 0 0 8 ||| (1 <<< (f &&& 31)))) 11 (nix f) 7 (nb (!oOpen S))
def oHap (S : NSt) (x f s t : Int32) : NSt :=
  if x = 0 then calFix S f s t
  else if x = 1 then nput (oJudge S) 1 0 0 (oJudge S 1 0 0 + f)
  else if x = 2 then rollArea S f s
  else if x = 3 then rollVoter S f
  else if x = 4 then nput S 6 (nix f) 0 s
  else if x = 5 then nput S 6 (nix f) 1 0
  else if x = 6 then nput S 6 (nix f) 1 1
  else if x = 7 then oBegin S f s t
  else if x = 8 then oSign S f s
  else if x = 9 then nput S 11 (nix f) 3 (S 11 (nix f) 3 + s)
  else if x = 10 then oWd S f
  else if x = 11 then nput S 11 (nix f) 6 1
  else if x = 12 then paperRenew S (nix f) s
  else if x = 13 then oShuf S f
  else if x = 14 then nput S 11 (nix f) 4 (S 11 (nix f) 4 + s)
  else if x = 15 then nput S 4 (nix f) 2 1
  else S
def oNeed (S : NSt) (x f s : Int32) : Prop := vp_in x 16 ∧ (x = 1 → oOk S) ∧ (x = 2 → vp_in (S 2 0 2) 5) ∧ (x = 3 → vp_in (S 2 0 3) 40) ∧ (x = 4 ∨ x = 5 ∨ x = 6 → vp_in f 40) ∧ (x = 7 → vp_in (S 0 0 6) 12) ∧ (x = 8 → vp_in (S 0 0 7) 150 ∧ vp_in f 12 ∧ vp_in s 40) ∧ (x = 9 ∨ x = 10 ∨ x = 11 ∨ x = 12 ∨ x = 14 → vp_in f 12) ∧ (x = 15 → vp_in f 5)
section NEF
variable {l : Launch} {D : va_G} {dA : Nat → ClassId} {ad : Nat → Nat → Nat → Nat} {on : Nat → Prop}
theorem nM_ofF {y : MethodName} {cc : ByteArray} {maxL : Nat} {ret : Option FieldType} {rm : Room} {av : List Value} {X : NWd} {Qc : Array Value → State → Outcome → State → Prop} (hI : ninj ad on) (hy : plainFor y = true) (hlen : (lg_sl av).length ≤ maxL)
    (body : ∀ (p : Program) (e : Env) (s : State) (m : MethodId) (args : Array Value) (below : List Frame) (meth : Method) (c : Code) (ls : Array Slot), nC p s m args meth c cc maxL y.cls D dA ad on → meth.sig.returnType = ret → (y.name = "<init>" → meth.name = "<init>") → npic D dA ad on X s.heap → lv_has ls maxL (lv_args 0 av) → va_S (nA ad on) s.heap s.heap [] →
      W p l e rm s m args below meth c s.heap [] 0 0 (MQ below Qc args s 0 0 (nA ad on)) (F0 m 0 ls [])) : Met l y (nws y cc maxL ret) rm (va_Pc av (npre D dA ad on X)) Qc 0 0 (nA ad on) := by
  refine va_MetF (cc := cc) (maxL := maxL) (ret := ret) hy rfl ?_
  intro p e s m args below meth c s₁ B hml hv
  obtain ⟨rfl, hT, hP, hZ⟩ := hv
  have hts := atoms_spec (ws := nws y cc maxL ret) B.pre
  have hown : s.vm.findClass y.cls = some m.cls := findClass_of_methodNamed B.named
  have hnm := name_of_methodNamed B.named B.method
  have hl := lv_entry av (n := maxL) hlen
  rw [lg_entry_eq]
  generalize (lg_sl av ++ List.replicate (maxL - (lg_sl av).length) Slot.unset).toArray = ls at hl ⊢
  exact body p e s m av.toArray below meth c ls ⟨B.exec, B.bytes, hml, hown, fun w h => hts w (List.mem_cons_of_mem _ h), hT, hZ, hI, B.notSynchronized⟩ B.returns (fun h => hnm.1.trans h) hP hl va_S.rf
end NEF
section N13
variable {l : Launch} {D : va_G} {dA : Nat → ClassId} {ad : Nat → Nat → Nat → Nat} {on : Nat → Prop} {X : NWd} {o i : Nat} {S : NSt}
set_option maxHeartbeats 4000000 in
set_option maxRecDepth 100000 in
theorem c_J6_bitCount_0f7a4 (hI : ninj ad on) {x : Int32} : nMi l D dA ad on yJ6_bitCount_0f7a4 cJ6_bitCount_0f7a4 1 (some .int) (nrm 1) [.int x] (X) (fun r X' => r = ibc x ∧ X' = X) := by
  refine nM_of hI (by decide +kernel) (Nat.le_of_ble_eq_true rfl) ?_
  intro p e s m args below meth cd ls hc hr _ hP hl hS
  have hx := hc.1
  have hb := hc.2.1
  have hl : lv_has ls 1 [(0, .int x)] := hl
  refine lv_iload_n hx hb dJ6_bitCount_0f7a4_0 rfl (lv_at hl 0 rfl) ?_
  refine lv_iload_n hx hb dJ6_bitCount_0f7a4_1 rfl (lv_at hl 0 rfl) ?_
  refine lv_iconst (v := 1) hx hb dJ6_bitCount_0f7a4_2 (by decide) ?_
  refine lv_iushr (v := _) hx hb dJ6_bitCount_0f7a4_3 rfl ?_
  refine lv_ldcw hx hb hc.2.2.2.1 (hc.2.2.2.2.1 _ q769) dJ6_bitCount_0f7a4_4 ?_
  refine lv_iand hx hb dJ6_bitCount_0f7a4_7 ?_
  refine lv_isub hx hb dJ6_bitCount_0f7a4_8 ?_
  refine lv_istore_n (lv' := [(0, .int _)]) hx hb dJ6_bitCount_0f7a4_9 rfl hl (by decide) rfl (fun ls hl => ?_)
  refine lv_iload_n hx hb dJ6_bitCount_0f7a4_10 rfl (lv_at hl 0 rfl) ?_
  refine lv_ldcw hx hb hc.2.2.2.1 (hc.2.2.2.2.1 _ q770) dJ6_bitCount_0f7a4_11 ?_
  refine lv_iand hx hb dJ6_bitCount_0f7a4_14 ?_
  refine lv_iload_n hx hb dJ6_bitCount_0f7a4_15 rfl (lv_at hl 0 rfl) ?_
  refine lv_iconst (v := 2) hx hb dJ6_bitCount_0f7a4_16 (by decide) ?_
  refine lv_iushr (v := _) hx hb dJ6_bitCount_0f7a4_17 rfl ?_
  refine lv_ldcw hx hb hc.2.2.2.1 (hc.2.2.2.2.1 _ q770) dJ6_bitCount_0f7a4_18 ?_
  refine lv_iand hx hb dJ6_bitCount_0f7a4_21 ?_
  refine lv_iadd hx hb dJ6_bitCount_0f7a4_22 ?_
  refine lv_istore_n (lv' := [(0, .int _)]) hx hb dJ6_bitCount_0f7a4_23 rfl hl (by decide) rfl (fun ls hl => ?_)
  refine lv_iload_n hx hb dJ6_bitCount_0f7a4_24 rfl (lv_at hl 0 rfl) ?_
  refine lv_iload_n hx hb dJ6_bitCount_0f7a4_25 rfl (lv_at hl 0 rfl) ?_
  refine lv_iconst (v := 4) hx hb dJ6_bitCount_0f7a4_26 (by decide) ?_
  refine lv_iushr (v := _) hx hb dJ6_bitCount_0f7a4_27 rfl ?_
  refine lv_iadd hx hb dJ6_bitCount_0f7a4_28 ?_
  refine lv_ldcw hx hb hc.2.2.2.1 (hc.2.2.2.2.1 _ q771) dJ6_bitCount_0f7a4_29 ?_
  refine lv_iand hx hb dJ6_bitCount_0f7a4_32 ?_
  refine lv_istore_n (lv' := [(0, .int _)]) hx hb dJ6_bitCount_0f7a4_33 rfl hl (by decide) rfl (fun ls hl => ?_)
  refine lv_iload_n hx hb dJ6_bitCount_0f7a4_34 rfl (lv_at hl 0 rfl) ?_
  refine lv_iload_n hx hb dJ6_bitCount_0f7a4_35 rfl (lv_at hl 0 rfl) ?_
  refine lv_bipush (v := 8) hx hb dJ6_bitCount_0f7a4_36 (by decide) ?_
  refine lv_iushr (v := _) hx hb dJ6_bitCount_0f7a4_38 rfl ?_
  refine lv_iadd hx hb dJ6_bitCount_0f7a4_39 ?_
  refine lv_istore_n (lv' := [(0, .int _)]) hx hb dJ6_bitCount_0f7a4_40 rfl hl (by decide) rfl (fun ls hl => ?_)
  refine lv_iload_n hx hb dJ6_bitCount_0f7a4_41 rfl (lv_at hl 0 rfl) ?_
  refine lv_iload_n hx hb dJ6_bitCount_0f7a4_42 rfl (lv_at hl 0 rfl) ?_
  refine lv_bipush (v := 16) hx hb dJ6_bitCount_0f7a4_43 (by decide) ?_
  refine lv_iushr (v := _) hx hb dJ6_bitCount_0f7a4_45 rfl ?_
  refine lv_iadd hx hb dJ6_bitCount_0f7a4_46 ?_
  refine lv_istore_n (lv' := [(0, .int _)]) hx hb dJ6_bitCount_0f7a4_47 rfl hl (by decide) rfl (fun ls hl => ?_)
  refine lv_iload_n hx hb dJ6_bitCount_0f7a4_48 rfl (lv_at hl 0 rfl) ?_
  refine lv_bipush (v := 63) hx hb dJ6_bitCount_0f7a4_49 (by decide) ?_
  refine lv_iand hx hb dJ6_bitCount_0f7a4_51 ?_
  exact ne_i hc hP hS hr dJ6_bitCount_0f7a4_52 ⟨rfl, rfl⟩
set_option maxHeartbeats 4000000 in
set_option maxRecDepth 100000 in
theorem c_J9_floorMod_7cf53 (hI : ninj ad on) {x y : Int32} (hy : ¬ y = 0) : nMi l D dA ad on yJ9_floorMod_7cf53 cJ9_floorMod_7cf53 3 (some .int) (nrm 1) [.int x, .int y] (X) (fun r X' => r = fmod x y ∧ X' = X) := by
  refine nM_ofF hI (by decide +kernel) (Nat.le_of_ble_eq_true rfl) ?_
  intro p e s m args below meth cd ls hc hr _ hP hl hS
  have hx := hc.1
  have hb := hc.2.1
  have hl : lv_has ls 3 [(0, .int x), (1, .int y)] := hl
  refine lv_iload_n hx hb dJ9_floorMod_7cf53_0 rfl (lv_at hl 0 rfl) ?_
  refine lv_iload_n hx hb dJ9_floorMod_7cf53_1 rfl (lv_at hl 1 rfl) ?_
  refine lv_irem hx hb dJ9_floorMod_7cf53_2 hy ?_
  refine lv_istore_n (lv' := [(2, .int _), (0, .int _), (1, .int _)]) hx hb dJ9_floorMod_7cf53_3 rfl hl (by decide) rfl (fun ls hl => ?_)
  refine lv_iload_n hx hb dJ9_floorMod_7cf53_4 rfl (lv_at hl 1 rfl) ?_
  refine lv_iload_n hx hb dJ9_floorMod_7cf53_5 rfl (lv_at hl 2 rfl) ?_
  refine lv_ixor hx hb dJ9_floorMod_7cf53_6 ?_
  refine lv_if_ge (tgt := 18) hx hb dJ9_floorMod_7cf53_7 (by decide) (fun c_7 => ?_) (fun c_7 => ?_)
  · refine lv_iload_n hx hb dJ9_floorMod_7cf53_18 rfl (lv_at hl 0 rfl) ?_
    exact ne_i hc hP hS hr dJ9_floorMod_7cf53_19 ⟨by clear hP hS hl hc hx hb hr; simp_all [-Int32.not_le, -Int32.not_lt, i32_lt, fmod, irm, nb_t, nb_f, nb_z, nb_o], rfl⟩
  · refine lv_iload_n hx hb dJ9_floorMod_7cf53_10 rfl (lv_at hl 0 rfl) ?_
    refine lv_if_eq (tgt := 18) hx hb dJ9_floorMod_7cf53_11 (by decide) (fun c_11 => ?_) (fun c_11 => ?_)
    · refine lv_iload_n hx hb dJ9_floorMod_7cf53_18 rfl (lv_at hl 0 rfl) ?_
      exact ne_i hc hP hS hr dJ9_floorMod_7cf53_19 ⟨by clear hP hS hl hc hx hb hr; simp_all [-Int32.not_le, -Int32.not_lt, i32_lt, fmod, irm, nb_t, nb_f, nb_z, nb_o], rfl⟩
    · refine lv_iload_n hx hb dJ9_floorMod_7cf53_14 rfl (lv_at hl 0 rfl) ?_
      refine lv_iload_n hx hb dJ9_floorMod_7cf53_15 rfl (lv_at hl 2 rfl) ?_
      refine lv_iadd hx hb dJ9_floorMod_7cf53_16 ?_
      exact ne_i hc hP hS hr dJ9_floorMod_7cf53_17 ⟨by clear hP hS hl hc hx hb hr; simp_all [-Int32.not_le, -Int32.not_lt, i32_lt, fmod, irm, nb_t, nb_f, nb_z, nb_o], rfl⟩
set_option maxHeartbeats 4000000 in
set_option maxRecDepth 100000 in
theorem c_X4_countWithout (hI : ninj ad on) (hon : on o) (ho : o < 2) {t : Int32} {n : Nat} (hn : n ≤ 150) : nMi l D dA ad on yX4_countWithout cX4_countWithout 5 (some .int) (nrm 1) [.ref (ad o 0 0), .int (nI n), .int t] (wdo X o S) (fun r X' => r = oCw S t n ∧ X' = wdo X o S) := by
  refine nM_of hI (by decide +kernel) (Nat.le_of_ble_eq_true rfl) ?_
  intro p e s m args below meth cd ls hc hr _ hP hl hS
  have hx := hc.1
  have hb := hc.2.1
  have hl : lv_has ls 5 [(0, .ref (ad o 0 0)), (1, .int (nI n)), (2, .int t)] := hl
  have lp : ∀ (r j : Nat) (acc : Int32), j + r = n → acc = isum (fun k => if (S 14 0 k &&& (t ^^^ -1)) = 0 then 1 else 0) j → ∀ (H : Heap) (locs : List Loc) (ls : Array Slot), npic D dA ad on (wdo X o S) H → va_S (nA ad on) s.heap H locs → lv_has ls 5 [(4, .int (nI j)), (3, .int acc), (2, .int t), (1, .int (nI n)), (0, .ref (ad o 0 0))] → W p l e (nrm 1) s m args below meth cd H locs 0 0 (MQ below (va_Qi (fun r X' => r = oCw S t n ∧ X' = wdo X o S) (fun X' t => npic D dA ad on X' t.heap) (nA ad on)) args s 0 0 (nA ad on)) (F0 m 5 ls []) := by
    intro r
    induction r with
    | zero =>
      intro j acc hj ha H locs ls hP hS hl
      have hjn : j = n := by omega
      refine lv_iload hx hb dX4_countWithout_5 (lv_at hl 0 rfl) ?_
      refine lv_iload_n hx hb dX4_countWithout_7 rfl (lv_at hl 3 rfl) ?_
      refine lv_icmp_ge (tgt := 34) hx hb dX4_countWithout_8 (by decide) (fun c_8 => ?_) (fun c_8 => absurd (lp_le rfl hjn) c_8)
      refine lv_iload_n hx hb dX4_countWithout_34 rfl (lv_at hl 1 rfl) ?_
      exact ne_i hc hP hS hr dX4_countWithout_35 ⟨by rw [ha, hjn] <;> rfl, rfl⟩
    | succ r ih =>
      intro j acc hj ha H locs ls hP hS hl
      have hjn : j < n := by omega
      have hj150 : j < 150 := Nat.lt_of_lt_of_le hjn hn
      have ej : nix (nI j) = j := nI_clamp (by omega)
      have hjv : vp_in (nI j) 150 := vp_in_nI hj150 (by decide)
      refine lv_iload hx hb dX4_countWithout_5 (lv_at hl 0 rfl) ?_
      refine lv_iload_n hx hb dX4_countWithout_7 rfl (lv_at hl 3 rfl) ?_
      refine lv_icmp_ge (tgt := 34) hx hb dX4_countWithout_8 (by decide) (fun c_8 => absurd c_8 (lp_gt rfl hjn (by omega))) (fun c_8 => ?_)
      refine lv_aload_n hx hb dX4_countWithout_11 rfl (lv_at hl 4 rfl) ?_
      refine g4_44 hc hP (nv_o hon ho (by decide) Nat.zero_lt_one) dX4_countWithout_12 ?_
      refine lv_iload hx hb dX4_countWithout_15 (lv_at hl 0 rfl) ?_
      refine la_14 hc hP (nv_o hon ho (by decide) Nat.zero_lt_one) hjv dX4_countWithout_17 ?_
      refine lv_iload_n hx hb dX4_countWithout_18 rfl (lv_at hl 2 rfl) ?_
      refine lv_iconst (v := (-1)) hx hb dX4_countWithout_19 (by decide) ?_
      refine lv_ixor hx hb dX4_countWithout_20 ?_
      refine lv_iand hx hb dX4_countWithout_21 ?_
      refine lv_if_ne (tgt := 28) hx hb dX4_countWithout_22 (by decide) (fun c_22 => ?_) (fun c_22 => ?_)
      · refine lv_iinc (v := nI (j + 1)) (lv' := [(4, .int _), (3, .int _), (2, .int _), (1, .int _), (0, .ref _)]) hx hb dX4_countWithout_28 hl (k := 0) rfl (nI_inc j) (by decide) rfl (fun ls hl => ?_)
        refine lv_goto (tgt := 5) hx hb dX4_countWithout_31 (by decide) ?_
        exact ih (j + 1) _ (by omega) (by rw [isum_s, ← ha]; clear hP hS hl hc hx hb hr ih; simp_all [-Int32.not_le, -Int32.not_lt, i32_lt, nb_t, nb_f, nb_z, nb_o]) _ _ _ hP hS (lv_sub hl [0, 1, 2, 3, 4] rfl)
      · refine lv_iinc (v := acc + 1) (lv' := [(3, .int _), (4, .int _), (2, .int _), (1, .int _), (0, .ref _)]) hx hb dX4_countWithout_25 hl (k := 1) rfl (i32_inc acc) (by decide) rfl (fun ls hl => ?_)
        refine lv_iinc (v := nI (j + 1)) (lv' := [(4, .int _), (3, .int _), (2, .int _), (1, .int _), (0, .ref _)]) hx hb dX4_countWithout_28 hl (k := 1) rfl (nI_inc j) (by decide) rfl (fun ls hl => ?_)
        refine lv_goto (tgt := 5) hx hb dX4_countWithout_31 (by decide) ?_
        exact ih (j + 1) _ (by omega) (by rw [isum_s, ← ha]; clear hP hS hl hc hx hb hr ih; simp_all [-Int32.not_le, -Int32.not_lt, i32_lt, nb_t, nb_f, nb_z, nb_o]) _ _ _ hP hS (lv_sub hl [0, 1, 2, 3, 4] rfl)
  refine lv_iconst (v := 0) hx hb dX4_countWithout_0 (by decide) ?_
  refine lv_istore_n (lv' := [(3, .int _), (0, .ref _), (1, .int _), (2, .int _)]) hx hb dX4_countWithout_1 rfl hl (by decide) rfl (fun ls hl => ?_)
  refine lv_iconst (v := nI 0) hx hb dX4_countWithout_2 (by decide) ?_
  refine lv_istore (lv' := [(4, .int _), (3, .int _), (0, .ref _), (1, .int _), (2, .int _)]) hx hb dX4_countWithout_3 hl (by decide) rfl (fun ls hl => ?_)
  exact lp _ 0 _ (Nat.zero_add _) rfl _ _ _ hP hS (lv_sub hl [0, 1, 4, 3, 2] rfl)
set_option maxHeartbeats 4000000 in
set_option maxRecDepth 100000 in
theorem c_X4_allBlockers (hI : ninj ad on) (hon : on o) (ho : o < 2) {n : Nat} (hn : n ≤ 150) : nMi l D dA ad on yX4_allBlockers cX4_allBlockers 4 (some .int) (nrm 1) [.ref (ad o 0 0), .int (nI n)] (wdo X o S) (fun r X' => r = oAll S n ∧ X' = wdo X o S) := by
  refine nM_of hI (by decide +kernel) (Nat.le_of_ble_eq_true rfl) ?_
  intro p e s m args below meth cd ls hc hr _ hP hl hS
  have hx := hc.1
  have hb := hc.2.1
  have hl : lv_has ls 4 [(0, .ref (ad o 0 0)), (1, .int (nI n))] := hl
  have lp : ∀ (r j : Nat) (acc : Int32), j + r = n → acc = iors (fun k => S 14 0 k) j → ∀ (H : Heap) (locs : List Loc) (ls : Array Slot), npic D dA ad on (wdo X o S) H → va_S (nA ad on) s.heap H locs → lv_has ls 4 [(3, .int (nI j)), (2, .int acc), (1, .int (nI n)), (0, .ref (ad o 0 0))] → W p l e (nrm 1) s m args below meth cd H locs 0 0 (MQ below (va_Qi (fun r X' => r = oAll S n ∧ X' = wdo X o S) (fun X' t => npic D dA ad on X' t.heap) (nA ad on)) args s 0 0 (nA ad on)) (F0 m 4 ls []) := by
    intro r
    induction r with
    | zero =>
      intro j acc hj ha H locs ls hP hS hl
      have hjn : j = n := by omega
      refine lv_iload_n hx hb dX4_allBlockers_4 rfl (lv_at hl 0 rfl) ?_
      refine lv_iload_n hx hb dX4_allBlockers_5 rfl (lv_at hl 2 rfl) ?_
      refine lv_icmp_ge (tgt := 24) hx hb dX4_allBlockers_6 (by decide) (fun c_6 => ?_) (fun c_6 => absurd (lp_le rfl hjn) c_6)
      refine lv_iload_n hx hb dX4_allBlockers_24 rfl (lv_at hl 1 rfl) ?_
      exact ne_i hc hP hS hr dX4_allBlockers_25 ⟨by rw [ha, hjn] <;> rfl, rfl⟩
    | succ r ih =>
      intro j acc hj ha H locs ls hP hS hl
      have hjn : j < n := by omega
      have hj150 : j < 150 := Nat.lt_of_lt_of_le hjn hn
      have ej : nix (nI j) = j := nI_clamp (by omega)
      have hjv : vp_in (nI j) 150 := vp_in_nI hj150 (by decide)
      refine lv_iload_n hx hb dX4_allBlockers_4 rfl (lv_at hl 0 rfl) ?_
      refine lv_iload_n hx hb dX4_allBlockers_5 rfl (lv_at hl 2 rfl) ?_
      refine lv_icmp_ge (tgt := 24) hx hb dX4_allBlockers_6 (by decide) (fun c_6 => absurd c_6 (lp_gt rfl hjn (by omega))) (fun c_6 => ?_)
      refine lv_iload_n hx hb dX4_allBlockers_9 rfl (lv_at hl 1 rfl) ?_
      refine lv_aload_n hx hb dX4_allBlockers_10 rfl (lv_at hl 3 rfl) ?_
      refine g4_44 hc hP (nv_o hon ho (by decide) Nat.zero_lt_one) dX4_allBlockers_11 ?_
      refine lv_iload_n hx hb dX4_allBlockers_14 rfl (lv_at hl 0 rfl) ?_
      refine la_14 hc hP (nv_o hon ho (by decide) Nat.zero_lt_one) hjv dX4_allBlockers_15 ?_
      refine lv_ior hx hb dX4_allBlockers_16 ?_
      refine lv_istore_n (lv' := [(2, .int _), (3, .int _), (1, .int _), (0, .ref _)]) hx hb dX4_allBlockers_17 rfl hl (by decide) rfl (fun ls hl => ?_)
      refine lv_iinc (v := nI (j + 1)) (lv' := [(3, .int _), (2, .int _), (1, .int _), (0, .ref _)]) hx hb dX4_allBlockers_18 hl (k := 1) rfl (nI_inc j) (by decide) rfl (fun ls hl => ?_)
      refine lv_goto (tgt := 4) hx hb dX4_allBlockers_21 (by decide) ?_
      exact ih (j + 1) _ (by omega) (by rw [iors_s, ← ha]; clear hP hS hl hc hx hb hr ih; simp_all [-Int32.not_le, -Int32.not_lt, i32_lt, nb_t, nb_f, nb_z, nb_o]) _ _ _ hP hS (lv_sub hl [0, 1, 2, 3] rfl)
  refine lv_iconst (v := 0) hx hb dX4_allBlockers_0 (by decide) ?_
  refine lv_istore_n (lv' := [(2, .int _), (0, .ref _), (1, .int _)]) hx hb dX4_allBlockers_1 rfl hl (by decide) rfl (fun ls hl => ?_)
  refine lv_iconst (v := nI 0) hx hb dX4_allBlockers_2 (by decide) ?_
  refine lv_istore_n (lv' := [(3, .int _), (2, .int _), (0, .ref _), (1, .int _)]) hx hb dX4_allBlockers_3 rfl hl (by decide) rfl (fun ls hl => ?_)
  exact lp _ 0 _ (Nat.zero_add _) rfl _ _ _ hP hS (lv_sub hl [0, 1, 3, 2] rfl)
set_option maxHeartbeats 4000000 in
set_option maxRecDepth 100000 in
theorem c_X4_gatherBlockers (hI : ninj ad on) (hon : on o) (ho : o < 2) {x : Int32} (hok : oOk S) : nMi l D dA ad on yX4_gatherBlockers cX4_gatherBlockers 5 (some .int) (nrm 1) [.ref (ad o 0 0), .int x] (wdo X o S) (fun r X' => r = nI (oG S x).1 ∧ X' = wdo X o (oG S x).2) := by
  refine nM_of hI (by decide +kernel) (Nat.le_of_ble_eq_true rfl) ?_
  intro p e s m args below meth cd ls hc hr _ hP hl hS
  have hx := hc.1
  have hb := hc.2.1
  have hl : lv_has ls 5 [(0, .ref (ad o 0 0)), (1, .int x)] := hl
  have lp : ∀ (r j : Nat) , j + r = ons S → ∀ (H : Heap) (locs : List Loc) (ls : Array Slot), npic D dA ad on (wdo X o (gth S x j).2) H → va_S (nA ad on) s.heap H locs → lv_has ls 5 [(3, .int (nI j)), (2, .int (nI (gth S x j).1)), (1, .int x), (0, .ref (ad o 0 0))] → W p l e (nrm 1) s m args below meth cd H locs 0 0 (MQ below (va_Qi (fun r X' => r = nI (oG S x).1 ∧ X' = wdo X o (oG S x).2) (fun X' t => npic D dA ad on X' t.heap) (nA ad on)) args s 0 0 (nA ad on)) (F0 m 4 ls []) := by
    intro r
    induction r with
    | zero =>
      intro j  hj  H locs ls hP hS hl
      have hjn : j = ons S := by omega
      refine lv_iload_n hx hb dX4_gatherBlockers_4 rfl (lv_at hl 0 rfl) ?_
      refine lv_aload_n hx hb dX4_gatherBlockers_5 rfl (lv_at hl 3 rfl) ?_
      refine g4_60 hc hP (nv_o hon ho (by decide) Nat.zero_lt_one) dX4_gatherBlockers_6 ?_
      refine lv_icmp_ge (tgt := 95) hx hb dX4_gatherBlockers_9 (by decide) (fun c_9 => ?_) (fun c_9 => absurd (lp_le (by rw [gth_ne S x _ 0 0 7 (by decide)]; exact hok.ns) hjn) c_9)
      refine lv_iload_n hx hb dX4_gatherBlockers_95 rfl (lv_at hl 1 rfl) ?_
      exact ne_i hc hP hS hr dX4_gatherBlockers_96 ⟨by rw [hjn], by rw [hjn]⟩
    | succ r ih =>
      intro j  hj  H locs ls hP hS hl
      have hjn : j < ons S := by omega
      have hj150 : j < 150 := Nat.lt_of_lt_of_le hjn hok.ns150
      have ej : nix (nI j) = j := nI_clamp (by omega)
      have hjv : vp_in (nI j) 150 := vp_in_nI hj150 (by decide)
      have e13 : ∀ i q, (gth S x j).2 13 i q = S 13 i q := fun i q => gth_ne S x j 13 i q (by decide)
      have e6 : ∀ i q, (gth S x j).2 6 i q = S 6 i q := fun i q => gth_ne S x j 6 i q (by decide)
      have e0 : ∀ i q, (gth S x j).2 0 i q = S 0 i q := fun i q => gth_ne S x j 0 i q (by decide)
      have hgl := gth_le S x j
      have hjs : vp_in ((gth S x j).2 13 (nix (nI j)) 1) 40 := by rw [e13, ej]; exact hok.sv hjn
      have hcv : vp_in (nI (gth S x j).1) 150 := vp_in_nI (by omega) (by decide)
      refine lv_iload_n hx hb dX4_gatherBlockers_4 rfl (lv_at hl 0 rfl) ?_
      refine lv_aload_n hx hb dX4_gatherBlockers_5 rfl (lv_at hl 3 rfl) ?_
      refine g4_60 hc hP (nv_o hon ho (by decide) Nat.zero_lt_one) dX4_gatherBlockers_6 ?_
      refine lv_icmp_ge (tgt := 95) hx hb dX4_gatherBlockers_9 (by decide) (fun c_9 => absurd c_9 (lp_gt (by rw [gth_ne S x _ 0 0 7 (by decide)]; exact hok.ns) hjn hok.nsL)) (fun c_9 => ?_)
      refine lv_aload_n hx hb dX4_gatherBlockers_12 rfl (lv_at hl 3 rfl) ?_
      refine g4_40 hc hP (nv_o hon ho (by decide) Nat.zero_lt_one) dX4_gatherBlockers_13 ?_
      refine lv_iload_n hx hb dX4_gatherBlockers_16 rfl (lv_at hl 0 rfl) ?_
      refine ga_12 hc hP (nv_o hon ho (by decide) Nat.zero_lt_one) hjv dX4_gatherBlockers_17 ?_
      refine lv_astore (lv' := [(4, .ref _), (3, .int _), (2, .int _), (1, .int _), (0, .ref _)]) hx hb dX4_gatherBlockers_18 hl (by decide) rfl (fun ls hl => ?_)
      refine lv_aload hx hb dX4_gatherBlockers_20 (lv_at hl 0 rfl) ?_
      refine g4_168 hc hP (nv_o hon ho (by decide) (vp_lt hjv)) dX4_gatherBlockers_22 ?_
      refine lv_iload_n hx hb dX4_gatherBlockers_25 rfl (lv_at hl 3 rfl) ?_
      refine lv_icmp_ne (tgt := 89) hx hb dX4_gatherBlockers_26 (by decide) (fun c_26 => ?_) (fun c_26 => ?_)
      · refine lv_iinc (v := nI (j + 1)) (lv' := [(3, .int _), (4, .ref _), (2, .int _), (1, .int _), (0, .ref _)]) hx hb dX4_gatherBlockers_89 hl (k := 1) rfl (nI_inc j) (by decide) rfl (fun ls hl => ?_)
        refine lv_goto (tgt := 4) hx hb dX4_gatherBlockers_92 (by decide) ?_
        have eG : gth S x (j + 1) = gth S x j := by show (if gcond S x j then _ else _) = _; rw [if_neg (by clear hP hS hl hc hx hb hr ih; simp_all [gcond])]
        exact ih (j + 1) (by omega) _ _ _ (by rw [eG]; exact hP) hS (by rw [eG]; exact lv_sub hl [0, 2, 3, 4] rfl)
      · refine lv_aload hx hb dX4_gatherBlockers_29 (lv_at hl 0 rfl) ?_
        refine g4_171 hc hP (nv_o hon ho (by decide) (vp_lt hjv)) dX4_gatherBlockers_31 ?_
        refine lv_if_eq (tgt := 89) hx hb dX4_gatherBlockers_34 (by decide) (fun c_34 => ?_) (fun c_34 => ?_)
        · refine lv_iinc (v := nI (j + 1)) (lv' := [(3, .int _), (4, .ref _), (2, .int _), (1, .int _), (0, .ref _)]) hx hb dX4_gatherBlockers_89 hl (k := 1) rfl (nI_inc j) (by decide) rfl (fun ls hl => ?_)
          refine lv_goto (tgt := 4) hx hb dX4_gatherBlockers_92 (by decide) ?_
          have eG : gth S x (j + 1) = gth S x j := by show (if gcond S x j then _ else _) = _; rw [if_neg (by clear hP hS hl hc hx hb hr ih; simp_all [gcond])]
          exact ih (j + 1) (by omega) _ _ _ (by rw [eG]; exact hP) hS (by rw [eG]; exact lv_sub hl [0, 2, 3, 4] rfl)
        · refine lv_aload_n hx hb dX4_gatherBlockers_37 rfl (lv_at hl 4 rfl) ?_
          refine g4_21 hc hP (nv_o hon ho (by decide) Nat.zero_lt_one) dX4_gatherBlockers_38 ?_
          refine g4_84 hc hP (nv_o hon ho (by decide) Nat.zero_lt_one) dX4_gatherBlockers_41 ?_
          refine lv_aload hx hb dX4_gatherBlockers_44 (lv_at hl 0 rfl) ?_
          refine g4_174 hc hP (nv_o hon ho (by decide) (vp_lt hjv)) dX4_gatherBlockers_46 ?_
          refine ga_5 hc hP (nv_o hon ho (by decide) Nat.zero_lt_one) hjs dX4_gatherBlockers_49 ?_
          refine g4_93 hc hP (nv_o hon ho (by decide) (vp_lt hjs)) dX4_gatherBlockers_50 ?_
          refine lv_if_eq (tgt := 89) hx hb dX4_gatherBlockers_53 (by decide) (fun c_53 => ?_) (fun c_53 => ?_)
          · refine lv_iinc (v := nI (j + 1)) (lv' := [(3, .int _), (4, .ref _), (2, .int _), (1, .int _), (0, .ref _)]) hx hb dX4_gatherBlockers_89 hl (k := 1) rfl (nI_inc j) (by decide) rfl (fun ls hl => ?_)
            refine lv_goto (tgt := 4) hx hb dX4_gatherBlockers_92 (by decide) ?_
            have eG : gth S x (j + 1) = gth S x j := by show (if gcond S x j then _ else _) = _; rw [if_neg (by clear hP hS hl hc hx hb hr ih; simp_all [gcond])]
            exact ih (j + 1) (by omega) _ _ _ (by rw [eG]; exact hP) hS (by rw [eG]; exact lv_sub hl [0, 2, 3, 4] rfl)
          · refine lv_aload hx hb dX4_gatherBlockers_56 (lv_at hl 0 rfl) ?_
            refine g4_181 hc hP (nv_o hon ho (by decide) (vp_lt hjv)) dX4_gatherBlockers_58 ?_
            refine lv_iconst (v := 1) hx hb dX4_gatherBlockers_61 (by decide) ?_
            refine lv_iload_n hx hb dX4_gatherBlockers_62 rfl (lv_at hl 3 rfl) ?_
            refine lv_ishl hx hb dX4_gatherBlockers_63 ?_
            refine lv_iand hx hb dX4_gatherBlockers_64 ?_
            refine lv_if_ne (tgt := 89) hx hb dX4_gatherBlockers_65 (by decide) (fun c_65 => ?_) (fun c_65 => ?_)
            · refine lv_iinc (v := nI (j + 1)) (lv' := [(3, .int _), (4, .ref _), (2, .int _), (1, .int _), (0, .ref _)]) hx hb dX4_gatherBlockers_89 hl (k := 1) rfl (nI_inc j) (by decide) rfl (fun ls hl => ?_)
              refine lv_goto (tgt := 4) hx hb dX4_gatherBlockers_92 (by decide) ?_
              have eG : gth S x (j + 1) = gth S x j := by show (if gcond S x j then _ else _) = _; rw [if_neg (by clear hP hS hl hc hx hb hr ih; simp_all [gcond])]
              exact ih (j + 1) (by omega) _ _ _ (by rw [eG]; exact hP) hS (by rw [eG]; exact lv_sub hl [0, 2, 3, 4] rfl)
            · refine lv_aload_n hx hb dX4_gatherBlockers_68 rfl (lv_at hl 4 rfl) ?_
              refine g4_44 hc hP (nv_o hon ho (by decide) Nat.zero_lt_one) dX4_gatherBlockers_69 ?_
              refine lv_iload_n hx hb dX4_gatherBlockers_72 rfl (lv_at hl 2 rfl) ?_
              refine lv_aload hx hb dX4_gatherBlockers_73 (lv_at hl 0 rfl) ?_
              refine g4_181 hc hP (nv_o hon ho (by decide) (vp_lt hjv)) dX4_gatherBlockers_75 ?_
              refine lv_aload_n hx hb dX4_gatherBlockers_78 rfl (lv_at hl 4 rfl) ?_
              refine g4_63 hc hP (nv_o hon ho (by decide) Nat.zero_lt_one) dX4_gatherBlockers_79 ?_
              refine lv_iconst (v := (-1)) hx hb dX4_gatherBlockers_82 (by decide) ?_
              refine lv_ixor hx hb dX4_gatherBlockers_83 ?_
              refine lv_iand hx hb dX4_gatherBlockers_84 ?_
              refine sa_14 hc hP hS (nv_o hon ho (by decide) Nat.zero_lt_one) hcv dX4_gatherBlockers_85 (fun H locs hP hS => ?_)
              refine lv_iinc (v := nI ((gth S x j).1 + 1)) (lv' := [(2, .int _), (4, .ref _), (3, .int _), (1, .int _), (0, .ref _)]) hx hb dX4_gatherBlockers_86 hl (k := 2) rfl (nI_inc _) (by decide) rfl (fun ls hl => ?_)
              refine lv_iinc (v := nI (j + 1)) (lv' := [(3, .int _), (2, .int _), (4, .ref _), (1, .int _), (0, .ref _)]) hx hb dX4_gatherBlockers_89 hl (k := 2) rfl (nI_inc j) (by decide) rfl (fun ls hl => ?_)
              refine lv_goto (tgt := 4) hx hb dX4_gatherBlockers_92 (by decide) ?_
              have eG : gth S x (j + 1) = ((gth S x j).1 + 1, nput (gth S x j).2 14 0 (gth S x j).1 (S 13 j 3 &&& (S 0 0 8 ^^^ -1))) := by show (if gcond S x j then _ else _) = _; rw [if_pos (by clear hP hS hl hc hx hb hr ih; simp_all [gcond])]
              rw [ej, e13, e0, show nix (nI (gth S x j).1) = (gth S x j).1 from nI_clamp (by omega)] at hP
              exact ih (j + 1) (by omega) _ _ _ (by rw [eG]; exact hP) hS (by rw [eG]; exact lv_sub hl [0, 1, 3, 4] rfl)
  refine lv_iconst (v := nI 0) hx hb dX4_gatherBlockers_0 (by decide) ?_
  refine lv_istore_n (lv' := [(2, .int _), (0, .ref _), (1, .int _)]) hx hb dX4_gatherBlockers_1 rfl hl (by decide) rfl (fun ls hl => ?_)
  refine lv_iconst (v := nI 0) hx hb dX4_gatherBlockers_2 (by decide) ?_
  refine lv_istore_n (lv' := [(3, .int _), (2, .int _), (0, .ref _), (1, .int _)]) hx hb dX4_gatherBlockers_3 rfl hl (by decide) rfl (fun ls hl => ?_)
  exact lp _ 0 (Nat.zero_add _) _ _ _ hP hS (lv_sub hl [0, 1, 3, 2] rfl)
set_option maxHeartbeats 4000000 in
set_option maxRecDepth 100000 in
theorem c_X4_freedBy (hI : ninj ad on) (hon : on o) (ho : o < 2) {x z : Int32} (hok : oOk S) : nMi l D dA ad on yX4_freedBy cX4_freedBy 4 (some .int) (nrm 2) [.ref (ad o 0 0), .int x, .int z] (wdo X o S) (fun r X' => r = oFreed S x z ∧ X' = wdo X o (oG S x).2) := by
  refine nM_of hI (by decide +kernel) (Nat.le_of_ble_eq_true rfl) ?_
  intro p e s m args below meth cd ls hc hr _ hP hl hS
  have hx := hc.1
  have hb := hc.2.1
  have hl : lv_has ls 4 [(0, .ref (ad o 0 0)), (1, .int x), (2, .int z)] := hl
  refine lv_aload_n hx hb dX4_freedBy_0 rfl (lv_at hl 0 rfl) ?_
  refine lv_iload_n hx hb dX4_freedBy_1 rfl (lv_at hl 1 rfl) ?_
  refine nc_Vi (c_X4_gatherBlockers hI hon ho hok) hc hP hS hl.1 gd4_205 (nrecv (q := (RX4, TX4, 9)) hc (npic_eta hP) (nv_o hon ho (by decide) Nat.zero_lt_one) rfl rfl) ⟨rfl, rfl⟩ nok_X4_gatherBlockers rfl ⟨Nat.le_of_ble_eq_true rfl, Nat.le_of_ble_eq_true rfl⟩ ⟨Nat.le_of_ble_eq_true rfl, Nat.le_of_ble_eq_true rfl⟩ dX4_freedBy_2 rfl (Nat.le_of_ble_eq_true rfl) (fun r X1 H locs hp hP hS => ?_)
  obtain ⟨hr9, hX9⟩ := hp
  rw [hX9] at hP
  subst hr9
  refine lv_istore_n (lv' := [(3, .int _), (0, .ref _), (1, .int _), (2, .int _)]) hx hb dX4_freedBy_5 rfl hl (by decide) rfl (fun ls hl => ?_)
  refine lv_aload_n hx hb dX4_freedBy_6 rfl (lv_at hl 1 rfl) ?_
  refine lv_iload_n hx hb dX4_freedBy_7 rfl (lv_at hl 0 rfl) ?_
  refine lv_iconst (v := 1) hx hb dX4_freedBy_8 (by decide) ?_
  refine lv_iload_n hx hb dX4_freedBy_9 rfl (lv_at hl 3 rfl) ?_
  refine lv_ishl hx hb dX4_freedBy_10 ?_
  refine nc_Vi (c_X4_countWithout hI hon ho (n := (oG S x).1) (Nat.le_trans (gth_le _ _ _) hok.ns150)) hc hP hS hl.1 gd4_208 (nrecv (q := (RX4, TX4, 9)) hc (npic_eta hP) (nv_o hon ho (by decide) Nat.zero_lt_one) rfl rfl) ⟨rfl, rfl⟩ nok_X4_countWithout rfl ⟨Nat.le_of_ble_eq_true rfl, Nat.le_of_ble_eq_true rfl⟩ ⟨Nat.le_of_ble_eq_true rfl, Nat.le_of_ble_eq_true rfl⟩ dX4_freedBy_11 rfl (Nat.le_of_ble_eq_true rfl) (fun r X1 H locs hp hP hS => ?_)
  obtain ⟨hr9, hX9⟩ := hp
  rw [hX9] at hP
  subst hr9
  refine lv_aload_n hx hb dX4_freedBy_14 rfl (lv_at hl 1 rfl) ?_
  refine lv_iload_n hx hb dX4_freedBy_15 rfl (lv_at hl 0 rfl) ?_
  refine lv_iconst (v := 0) hx hb dX4_freedBy_16 (by decide) ?_
  refine nc_Vi (c_X4_countWithout hI hon ho (n := (oG S x).1) (Nat.le_trans (gth_le _ _ _) hok.ns150)) hc hP hS hl.1 gd4_208 (nrecv (q := (RX4, TX4, 9)) hc (npic_eta hP) (nv_o hon ho (by decide) Nat.zero_lt_one) rfl rfl) ⟨rfl, rfl⟩ nok_X4_countWithout rfl ⟨Nat.le_of_ble_eq_true rfl, Nat.le_of_ble_eq_true rfl⟩ ⟨Nat.le_of_ble_eq_true rfl, Nat.le_of_ble_eq_true rfl⟩ dX4_freedBy_17 rfl (Nat.le_of_ble_eq_true rfl) (fun r X1 H locs hp hP hS => ?_)
  obtain ⟨hr9, hX9⟩ := hp
  rw [hX9] at hP
  subst hr9
  refine lv_isub hx hb dX4_freedBy_20 ?_
  exact ne_i hc hP hS hr dX4_freedBy_21 ⟨rfl, rfl⟩
set_option maxHeartbeats 4000000 in
set_option maxRecDepth 100000 in
theorem c_X4_smallestSetFor (hI : ninj ad on) (hon : on o) (ho : o < 2) {x : Int32} (hok : oOk S) (hx0 : vp_in x (onp S)) (hu : vp_in (oUse S x) 4096) : nMi l D dA ad on yX4_smallestSetFor cX4_smallestSetFor 8 (some .int) (nrm 3) [.ref (ad o 0 0), .int x] (wdo X o S) (fun r X' => r = oSmall S x ∧ X' = wdo X o (oG S x).2) := by
  refine nM_of hI (by decide +kernel) (Nat.le_of_ble_eq_true rfl) ?_
  intro p e s m args below meth cd ls hc hr _ hP hl hS
  have hx := hc.1
  have hb := hc.2.1
  have hl : lv_has ls 8 [(0, .ref (ad o 0 0)), (1, .int x)] := hl
  have lp : ∀ (r j : Nat) , j + r = nix (oUse S x) + 1 → ∀ (H : Heap) (locs : List Loc) (ls : Array Slot), npic D dA ad on (wdo X o (oG S x).2) H → va_S (nA ad on) s.heap H locs → lv_has ls 8 [(7, .int (nI j)), (6, .int (ssv (S 4 (nix (S 11 (nix x) 0)) 0) (oG S x).2 (oG S x).1 (oUse S x) j).2), (5, .int (ssv (S 4 (nix (S 11 (nix x) 0)) 0) (oG S x).2 (oG S x).1 (oUse S x) j).1), (4, .int (oUse S x)), (3, .int (nI (oG S x).1)), (2, .int (S 4 (nix (S 11 (nix x) 0)) 0)), (1, .int x), (0, .ref (ad o 0 0))] → W p l e (nrm 3) s m args below meth cd H locs 0 0 (MQ below (va_Qi (fun r X' => r = oSmall S x ∧ X' = wdo X o (oG S x).2) (fun X' t => npic D dA ad on X' t.heap) (nA ad on)) args s 0 0 (nA ad on)) (F0 m 44 ls []) := by
    intro r
    induction r with
    | zero =>
      intro j  hj  H locs ls hP hS hl
      have hjn : j = nix (oUse S x) + 1 := by omega
      refine lv_iload hx hb dX4_smallestSetFor_44 (lv_at hl 0 rfl) ?_
      refine lv_iload hx hb dX4_smallestSetFor_46 (lv_at hl 3 rfl) ?_
      refine lv_icmp_gt (tgt := 99) hx hb dX4_smallestSetFor_48 (by decide) (fun c_48 => ?_) (fun c_48 => absurd (by rw [vp_eq hu]; exact nI_lt (by omega) (by have := vp_lt hu; omega)) c_48)
      refine lv_iload hx hb dX4_smallestSetFor_99 (lv_at hl 2 rfl) ?_
      exact ne_i hc hP hS hr dX4_smallestSetFor_101 ⟨by rw [hjn] <;> rfl, rfl⟩
    | succ r ih =>
      intro j  hj  H locs ls hP hS hl
      have hjn : j < nix (oUse S x) + 1 := by omega
      have hu9 := vp_lt hu
      refine lv_iload hx hb dX4_smallestSetFor_44 (lv_at hl 0 rfl) ?_
      refine lv_iload hx hb dX4_smallestSetFor_46 (lv_at hl 3 rfl) ?_
      refine lv_icmp_gt (tgt := 99) hx hb dX4_smallestSetFor_48 (by decide) (fun c_48 => absurd c_48 (by rw [vp_eq hu]; exact nI_nlt (by omega) (by have := vp_lt hu; omega))) (fun c_48 => ?_)
      refine lv_iload hx hb dX4_smallestSetFor_51 (lv_at hl 0 rfl) ?_
      refine lv_iload hx hb dX4_smallestSetFor_53 (lv_at hl 3 rfl) ?_
      refine lv_iconst (v := (-1)) hx hb dX4_smallestSetFor_55 (by decide) ?_
      refine lv_ixor hx hb dX4_smallestSetFor_56 ?_
      refine lv_iand hx hb dX4_smallestSetFor_57 ?_
      refine lv_if_ne (tgt := 93) hx hb dX4_smallestSetFor_58 (by decide) (fun c_58 => ?_) (fun c_58 => ?_)
      · refine lv_iinc (v := nI (j + 1)) (lv' := [(7, .int _), (6, .int _), (5, .int _), (4, .int _), (3, .int _), (2, .int _), (1, .int _), (0, .ref _)]) hx hb dX4_smallestSetFor_93 hl (k := 0) rfl (nI_inc j) (by decide) rfl (fun ls hl => ?_)
        refine lv_goto (tgt := 44) hx hb dX4_smallestSetFor_96 (by decide) ?_
        have eG : ssv (S 4 (nix (S 11 (nix x) 0)) 0) (oG S x).2 (oG S x).1 (oUse S x) (j + 1) = ssv (S 4 (nix (S 11 (nix x) 0)) 0) (oG S x).2 (oG S x).1 (oUse S x) j := by rw [ssv_s, if_neg (by clear hP hS hl hc hx hb hr ih; simp_all [-Int32.not_le, -Int32.not_lt, i32_lt, nb_t, nb_f, nb_z, nb_o])]
        exact ih (j + 1) (by omega) _ _ _ hP hS (by rw [eG]; exact lv_sub hl [0, 1, 2, 3, 4, 5, 6, 7] rfl)
      · refine lv_iload hx hb dX4_smallestSetFor_61 (lv_at hl 0 rfl) ?_
        refine nc_Si (c_J6_bitCount_0f7a4 hI) hc hP hS hl.1 gd4_215 ⟨rfl, rfl⟩ nok_J6_bitCount_0f7a4 rfl ⟨Nat.le_of_ble_eq_true rfl, Nat.le_of_ble_eq_true rfl⟩ ⟨Nat.le_of_ble_eq_true rfl, Nat.le_of_ble_eq_true rfl⟩ dX4_smallestSetFor_63 rfl (Nat.le_of_ble_eq_true rfl) (fun r X1 H locs hp hP hS => ?_)
        obtain ⟨hr9, hX9⟩ := hp
        rw [hX9] at hP
        subst hr9
        refine lv_iload hx hb dX4_smallestSetFor_66 (lv_at hl 1 rfl) ?_
        refine lv_icmp_ge (tgt := 93) hx hb dX4_smallestSetFor_68 (by decide) (fun c_68 => ?_) (fun c_68 => ?_)
        · refine lv_iinc (v := nI (j + 1)) (lv' := [(7, .int _), (6, .int _), (5, .int _), (4, .int _), (3, .int _), (2, .int _), (1, .int _), (0, .ref _)]) hx hb dX4_smallestSetFor_93 hl (k := 0) rfl (nI_inc j) (by decide) rfl (fun ls hl => ?_)
          refine lv_goto (tgt := 44) hx hb dX4_smallestSetFor_96 (by decide) ?_
          have eG : ssv (S 4 (nix (S 11 (nix x) 0)) 0) (oG S x).2 (oG S x).1 (oUse S x) (j + 1) = ssv (S 4 (nix (S 11 (nix x) 0)) 0) (oG S x).2 (oG S x).1 (oUse S x) j := by rw [ssv_s, if_neg (by clear hP hS hl hc hx hb hr ih; simp_all [-Int32.not_le, -Int32.not_lt, i32_lt, nb_t, nb_f, nb_z, nb_o])]
          exact ih (j + 1) (by omega) _ _ _ hP hS (by rw [eG]; exact lv_sub hl [0, 1, 2, 3, 4, 5, 6, 7] rfl)
        · refine lv_aload_n hx hb dX4_smallestSetFor_71 rfl (lv_at hl 7 rfl) ?_
          refine lv_iload_n hx hb dX4_smallestSetFor_72 rfl (lv_at hl 4 rfl) ?_
          refine lv_iload hx hb dX4_smallestSetFor_73 (lv_at hl 0 rfl) ?_
          refine nc_Vi (c_X4_countWithout hI hon ho (n := (oG S x).1) (Nat.le_trans (gth_le _ _ _) hok.ns150)) hc hP hS hl.1 gd4_208 (nrecv (q := (RX4, TX4, 9)) hc (npic_eta hP) (nv_o hon ho (by decide) Nat.zero_lt_one) rfl rfl) ⟨rfl, rfl⟩ nok_X4_countWithout rfl ⟨Nat.le_of_ble_eq_true rfl, Nat.le_of_ble_eq_true rfl⟩ ⟨Nat.le_of_ble_eq_true rfl, Nat.le_of_ble_eq_true rfl⟩ dX4_smallestSetFor_75 rfl (Nat.le_of_ble_eq_true rfl) (fun r X1 H locs hp hP hS => ?_)
          obtain ⟨hr9, hX9⟩ := hp
          rw [hX9] at hP
          subst hr9
          refine lv_iload_n hx hb dX4_smallestSetFor_78 rfl (lv_at hl 5 rfl) ?_
          refine lv_icmp_lt (tgt := 93) hx hb dX4_smallestSetFor_79 (by decide) (fun c_79 => ?_) (fun c_79 => ?_)
          · refine lv_iinc (v := nI (j + 1)) (lv' := [(7, .int _), (6, .int _), (5, .int _), (4, .int _), (3, .int _), (2, .int _), (1, .int _), (0, .ref _)]) hx hb dX4_smallestSetFor_93 hl (k := 0) rfl (nI_inc j) (by decide) rfl (fun ls hl => ?_)
            refine lv_goto (tgt := 44) hx hb dX4_smallestSetFor_96 (by decide) ?_
            have eG : ssv (S 4 (nix (S 11 (nix x) 0)) 0) (oG S x).2 (oG S x).1 (oUse S x) (j + 1) = ssv (S 4 (nix (S 11 (nix x) 0)) 0) (oG S x).2 (oG S x).1 (oUse S x) j := by rw [ssv_s, if_neg (by clear hP hS hl hc hx hb hr ih; simp_all [-Int32.not_le, -Int32.not_lt, i32_lt, nb_t, nb_f, nb_z, nb_o])]
            exact ih (j + 1) (by omega) _ _ _ hP hS (by rw [eG]; exact lv_sub hl [0, 1, 2, 3, 4, 5, 6, 7] rfl)
          · refine lv_iload hx hb dX4_smallestSetFor_82 (lv_at hl 0 rfl) ?_
            refine lv_istore (lv' := [(5, .int _), (7, .int _), (6, .int _), (4, .int _), (3, .int _), (2, .int _), (1, .int _), (0, .ref _)]) hx hb dX4_smallestSetFor_84 hl (by decide) rfl (fun ls hl => ?_)
            refine lv_iload hx hb dX4_smallestSetFor_86 (lv_at hl 1 rfl) ?_
            refine nc_Si (c_J6_bitCount_0f7a4 hI) hc hP hS hl.1 gd4_215 ⟨rfl, rfl⟩ nok_J6_bitCount_0f7a4 rfl ⟨Nat.le_of_ble_eq_true rfl, Nat.le_of_ble_eq_true rfl⟩ ⟨Nat.le_of_ble_eq_true rfl, Nat.le_of_ble_eq_true rfl⟩ dX4_smallestSetFor_88 rfl (Nat.le_of_ble_eq_true rfl) (fun r X1 H locs hp hP hS => ?_)
            obtain ⟨hr9, hX9⟩ := hp
            rw [hX9] at hP
            subst hr9
            refine lv_istore (lv' := [(6, .int _), (5, .int _), (7, .int _), (4, .int _), (3, .int _), (2, .int _), (1, .int _), (0, .ref _)]) hx hb dX4_smallestSetFor_91 hl (by decide) rfl (fun ls hl => ?_)
            refine lv_iinc (v := nI (j + 1)) (lv' := [(7, .int _), (6, .int _), (5, .int _), (4, .int _), (3, .int _), (2, .int _), (1, .int _), (0, .ref _)]) hx hb dX4_smallestSetFor_93 hl (k := 2) rfl (nI_inc j) (by decide) rfl (fun ls hl => ?_)
            refine lv_goto (tgt := 44) hx hb dX4_smallestSetFor_96 (by decide) ?_
            have eG : ssv (S 4 (nix (S 11 (nix x) 0)) 0) (oG S x).2 (oG S x).1 (oUse S x) (j + 1) = (nI j, ibc (nI j)) := by rw [ssv_s, if_pos (by clear hP hS hl hc hx hb hr ih; simp_all [-Int32.not_le, -Int32.not_lt, i32_lt, nb_t, nb_f, nb_z, nb_o])]
            exact ih (j + 1) (by omega) _ _ _ hP hS (by rw [eG]; exact lv_sub hl [0, 1, 2, 3, 4, 5, 6, 7] rfl)
  refine lv_aload_n hx hb dX4_smallestSetFor_0 rfl (lv_at hl 0 rfl) ?_
  refine g4_21 hc hP (nv_o hon ho (by decide) Nat.zero_lt_one) dX4_smallestSetFor_1 ?_
  refine g4_100 hc hP (nv_o hon ho (by decide) Nat.zero_lt_one) dX4_smallestSetFor_4 ?_
  refine lv_aload_n hx hb dX4_smallestSetFor_7 rfl (lv_at hl 0 rfl) ?_
  refine g4_34 hc hP (nv_o hon ho (by decide) Nat.zero_lt_one) dX4_smallestSetFor_8 ?_
  refine lv_iload_n hx hb dX4_smallestSetFor_11 rfl (lv_at hl 1 rfl) ?_
  refine ga_10 hc hP (nv_o hon ho (by decide) Nat.zero_lt_one) (vp_mono hx0 hok.np12) dX4_smallestSetFor_12 ?_
  refine g4_141 hc hP (nv_o hon ho (by decide) (vp_lt (vp_mono hx0 hok.np12))) dX4_smallestSetFor_13 ?_
  refine ga_3 hc hP (nv_o hon ho (by decide) Nat.zero_lt_one) (hok.ar (vp_lt hx0)) dX4_smallestSetFor_16 ?_
  refine g4_187 hc hP (nv_o hon ho (by decide) (vp_lt (hok.ar (vp_lt hx0)))) dX4_smallestSetFor_17 ?_
  refine lv_istore_n (lv' := [(2, .int _), (0, .ref _), (1, .int _)]) hx hb dX4_smallestSetFor_20 rfl hl (by decide) rfl (fun ls hl => ?_)
  refine lv_aload_n hx hb dX4_smallestSetFor_21 rfl (lv_at hl 1 rfl) ?_
  refine lv_iload_n hx hb dX4_smallestSetFor_22 rfl (lv_at hl 2 rfl) ?_
  refine nc_Vi (c_X4_gatherBlockers hI hon ho hok) hc hP hS hl.1 gd4_205 (nrecv (q := (RX4, TX4, 9)) hc (npic_eta hP) (nv_o hon ho (by decide) Nat.zero_lt_one) rfl rfl) ⟨rfl, rfl⟩ nok_X4_gatherBlockers rfl ⟨Nat.le_of_ble_eq_true rfl, Nat.le_of_ble_eq_true rfl⟩ ⟨Nat.le_of_ble_eq_true rfl, Nat.le_of_ble_eq_true rfl⟩ dX4_smallestSetFor_23 rfl (Nat.le_of_ble_eq_true rfl) (fun r X1 H locs hp hP hS => ?_)
  obtain ⟨hr9, hX9⟩ := hp
  rw [hX9] at hP
  subst hr9
  refine lv_istore_n (lv' := [(3, .int _), (2, .int _), (0, .ref _), (1, .int _)]) hx hb dX4_smallestSetFor_26 rfl hl (by decide) rfl (fun ls hl => ?_)
  refine lv_aload_n hx hb dX4_smallestSetFor_27 rfl (lv_at hl 2 rfl) ?_
  refine lv_iload_n hx hb dX4_smallestSetFor_28 rfl (lv_at hl 0 rfl) ?_
  refine nc_Vi (c_X4_allBlockers hI hon ho (n := (oG S x).1) (Nat.le_trans (gth_le _ _ _) hok.ns150)) hc hP hS hl.1 gd4_212 (nrecv (q := (RX4, TX4, 9)) hc (npic_eta hP) (nv_o hon ho (by decide) Nat.zero_lt_one) rfl rfl) ⟨rfl, rfl⟩ nok_X4_allBlockers rfl ⟨Nat.le_of_ble_eq_true rfl, Nat.le_of_ble_eq_true rfl⟩ ⟨Nat.le_of_ble_eq_true rfl, Nat.le_of_ble_eq_true rfl⟩ dX4_smallestSetFor_29 rfl (Nat.le_of_ble_eq_true rfl) (fun r X1 H locs hp hP hS => ?_)
  obtain ⟨hr9, hX9⟩ := hp
  rw [hX9] at hP
  subst hr9
  refine lv_istore (lv' := [(4, .int _), (3, .int _), (2, .int _), (0, .ref _), (1, .int _)]) hx hb dX4_smallestSetFor_32 hl (by decide) rfl (fun ls hl => ?_)
  refine lv_iconst (v := (-1)) hx hb dX4_smallestSetFor_34 (by decide) ?_
  refine lv_istore (lv' := [(5, .int _), (4, .int _), (3, .int _), (2, .int _), (0, .ref _), (1, .int _)]) hx hb dX4_smallestSetFor_35 hl (by decide) rfl (fun ls hl => ?_)
  refine lv_bipush (v := 13) hx hb dX4_smallestSetFor_37 (by decide) ?_
  refine lv_istore (lv' := [(6, .int _), (5, .int _), (4, .int _), (3, .int _), (2, .int _), (0, .ref _), (1, .int _)]) hx hb dX4_smallestSetFor_39 hl (by decide) rfl (fun ls hl => ?_)
  refine lv_iconst (v := nI 0) hx hb dX4_smallestSetFor_41 (by decide) ?_
  refine lv_istore (lv' := [(7, .int _), (6, .int _), (5, .int _), (4, .int _), (3, .int _), (2, .int _), (0, .ref _), (1, .int _)]) hx hb dX4_smallestSetFor_42 hl (by decide) rfl (fun ls hl => ?_)
  exact lp _ 0 (Nat.zero_add _) _ _ _ hP hS (lv_sub hl [0, 1, 2, 3, 4, 5, 7, 6] rfl)
end N13
