/-! The law's small methods. -/
set_option maxRecDepth 20000 in
theorem q_L17 : Cond.constantLong "NominatorLaw" 141 17 ∈ gw := gw_in (List.mem_of_getElem? (i := 952) (by rfl)) (by rfl)
set_option maxRecDepth 20000 in
theorem q_L31 : Cond.constantLong "NominatorLaw" 147 31 ∈ gw := gw_in (List.mem_of_getElem? (i := 953) (by rfl)) (by rfl)
def lfh : List (Nat × Nat × Nat × Nat) := [(44, 78, 79, 113), (44, 78, 84, 115), (44, 78, 89, 117)]
theorem q_file : Cond.codeWith yL_file cL_file 9 (some .int) lfh ∈ gw := q919
theorem l_good {idx maxL : Nat} {y : MethodName} {bytes : ByteArray} {hh : List (Nat × Nat × Nat × Nat)} (q1 : Cond.methodLink "NominatorLaw" idx y ∈ gw) (q2 : Cond.static y ∈ gw) (q4 : Cond.initialized y.cls ∈ gw) (q5 : Cond.codeWith y bytes maxL (some .int) hh ∈ gw) : GoodIn gw (va_wsS "NominatorLaw" idx y (Cond.codeWith y bytes maxL (some .int) hh :: gw)) :=
  gw_good (fun w h => by
    simp only [va_wsS, List.cons_append, List.nil_append, List.mem_cons] at h
    rcases h with rfl | rfl | rfl | rfl | h
    · exact q1
    · exact q2
    · exact q4
    · exact q5
    · exact h)
theorem gL_call : GoodIn gw (va_wsS "NominatorLaw" 149 yL_call (Cond.codeWith yL_call cL_call 5 (some .int) lhh :: gw)) := l_good q351 q352 q0 q_call
theorem gL_file : GoodIn gw (va_wsS "NominatorLaw" 181 yL_file (Cond.codeWith yL_file cL_file 9 (some .int) lfh :: gw)) := l_good q917 q918 q0 q_file
theorem gL_cell : GoodIn gw (va_wsS "NominatorLaw" 170 yL_cell (nws yL_cell cL_cell 2 (some .int))) := ngoodS q343 q344 q0 q345
theorem gL_low : GoodIn gw (va_wsS "NominatorLaw" 138 yL_low (nws yL_low cL_low 2 (some .int))) := ngoodS q347 q348 q0 q349
theorem gL_letter : GoodIn gw (va_wsS "NominatorLaw" 127 yL_letter (nws yL_letter cL_letter 1 (some .char))) := ngoodS q920 q921 q0 q922
theorem gL_name : GoodIn gw (va_wsS "NominatorLaw" 178 yL_name (nws yL_name cL_name 4 (some .int))) := ngoodS q946 q947 q0 q948
theorem gL_state : GoodIn gw (va_wsS "NominatorLaw" 174 yL_state (nws yL_state cL_state 6 (some .long))) := ngoodS q949 q950 q0 q951
theorem gL_sound : GoodIn gw (va_wsS "NominatorLaw" 183 yL_sound (nws yL_sound cL_sound 14 (some .boolean))) := ngoodS q966 q967 q0 q968
theorem land_nn (v : Int32) : ¬ (v &&& 2147483647) < 0 := by
  intro h
  have hm : (v &&& 2147483647).toBitVec.msb = false := by
    rw [Int32.toBitVec_and, BitVec.msb_and, show (2147483647 : Int32).toBitVec.msb = false from by decide, Bool.and_false]
  have h1 := Int32.lt_iff_toInt_lt.mp h
  have h2 : (v &&& 2147483647).toInt = ((v &&& 2147483647).toBitVec.toNat : Int) := BitVec.toInt_eq_toNat_of_msb hm
  rw [h2, show (0 : Int32).toInt = 0 from by decide] at h1
  omega
theorem nI_nle4 {j : Nat} (h : j < 4) : ¬ (4 : Int32) ≤ nI j := fun z => absurd ((nI_leI (a := 4) (b := j) (by decide) (by omega)).mp z) (by omega)
section LS
variable {l : Launch} {D : va_G} {dA : Nat → ClassId} {ad : Nat → Nat → Nat → Nat} {on : Nat → Prop} {X : NWd}
theorem c_low (hI : ninj ad on) {v : Int32} {N : Nat} (h0 : 0 < N) (hN : N < 2 ^ 31) : nMi l D dA ad on yL_low cL_low 2 (some .int) (nrm 1) [.int v, .int (nI N)] X (fun r X' => (∃ j, j < N ∧ r = nI j) ∧ X' = X) := by
  refine nM_of hI (by decide +kernel) (Nat.le_of_ble_eq_true rfl) ?_
  intro p e s m args below meth cd ls hc hr _ hP hl hS
  have hx := hc.1
  have hb := hc.2.1
  have hl : lv_has ls 2 [(0, .int v), (1, .int (nI N))] := hl
  refine lv_iload_n hx hb dL_low_0 rfl (lv_at hl 0 rfl) ?_
  refine lv_ldc hx hb hc.2.2.2.1 (hc.2.2.2.2.1 _ q350) dL_low_1 ?_
  refine lv_iand hx hb dL_low_3 ?_
  refine lv_iload_n hx hb dL_low_4 rfl (lv_at hl 1 rfl) ?_
  refine lv_irem hx hb dL_low_5 (nI_ne0 h0 hN) ?_
  obtain ⟨j, hj, ej⟩ := nI_of (land_nn v)
  rw [ej]
  exact ne_i hc hP hS hr dL_low_6 ⟨⟨j % N, Nat.mod_lt j h0, pk_rem hj h0 hN⟩, rfl⟩
/-- one of the script's ints, or, behind its end, a number of its own -/
def lMc (l : Launch) (D : va_G) (dA : Nat → ClassId) (ad : Nat → Nat → Nat → Nat) (on : Nat → Prop) (X : NWd) (b L K : Nat) (xs : Nat → Int32) : Prop :=
  Met l yL_cell (nws yL_cell cL_cell 2 (some .int)) (nrm 1) (va_Pc [.ref b, .int (nI K)] (fun U => npre D dA ad on X U ∧ va_X b L xs U U.heap ∧ b < U.heap.size ∧ ¬ nA ad on b)) (va_Qi (fun _ X' => X' = X) (fun X' t => npic D dA ad on X' t.heap) (nA ad on)) 0 0 (nA ad on)
theorem lMc_blind {b L K : Nat} {xs : Nat → Int32} : FrameBlind (va_Pc [.ref b, .int (nI K)] (fun U => npre D dA ad on X U ∧ va_X b L xs U U.heap ∧ b < U.heap.size ∧ ¬ nA ad on b)) :=
  fun _ U g mk h => ⟨h.1, npre_calling h.2.1, va_X.moved (u := U) (U := U.calling g mk _) (Vm.Alike.refl U.vm) h.2.2.1, h.2.2.2⟩
theorem c_cell (hI : ninj ad on) {b L K : Nat} {xs : Nat → Int32} (hK : K < 2 ^ 31) (hL : L < 2 ^ 31) : lMc l D dA ad on X b L K xs := by
  refine Met.ofW (cc := cL_cell) (maxL := 2) (ret := some .int) (by decide +kernel) rfl ?_
  intro p e s m args below meth c s₁ B hml hv
  obtain ⟨rfl, ⟨hT, hP, hZ⟩, hX, hbl, hbn⟩ := hv
  have hts := atoms_spec (ws := nws yL_cell cL_cell 2 (some .int)) B.pre
  have hown : s.vm.findClass "NominatorLaw" = some m.cls := findClass_of_methodNamed (x := yL_cell) B.named
  have hl := lv_entry [Value.ref b, Value.int (nI K)] (n := 2) (Nat.le_of_ble_eq_true rfl)
  rw [lg_entry_eq]
  generalize (lg_sl [Value.ref b, Value.int (nI K)] ++ List.replicate (2 - (lg_sl [Value.ref b, Value.int (nI K)]).length) Slot.unset).toArray = ls at hl ⊢
  have hc : nC p s m [Value.ref b, Value.int (nI K)].toArray meth c cL_cell 2 "NominatorLaw" D dA ad on := ⟨B.exec, B.bytes, hml, hown, fun w h => hts w (List.mem_cons_of_mem _ h), hT, hZ, hI, B.notSynchronized⟩
  have hr : meth.sig.returnType = some .int := B.returns
  have hx := hc.1
  have hb := hc.2.1
  have hS : va_S (nA ad on) s.heap s.heap [] := va_S.rf
  have hl : lv_has ls 2 [(0, .ref b), (1, .int (nI K))] := hl
  refine lv_iload_n hx hb dL_cell_0 rfl (lv_at hl 1 rfl) ?_
  refine lv_aload_n hx hb dL_cell_1 rfl (lv_at hl 0 rfl) ?_
  refine va_slen hx hb hX hbl hbn hS dL_cell_2 ?_
  refine lv_icmp_ge (tgt := 12) hx hb dL_cell_3 (by decide) (fun _ => ?_) (fun hg => ?_)
  · refine lv_ldc hx hb hc.2.2.2.1 (hc.2.2.2.2.1 _ q346) dL_cell_12 ?_
    refine lv_iload_n hx hb dL_cell_14 rfl (lv_at hl 1 rfl) ?_
    refine lv_imul hx hb dL_cell_15 ?_
    refine lv_sipush (v := 431) hx hb dL_cell_16 (by decide) ?_
    refine lv_iadd hx hb dL_cell_19 ?_
    exact ne_i hc hP hS hr dL_cell_20 rfl
  · refine lv_aload_n hx hb dL_cell_6 rfl (lv_at hl 0 rfl) ?_
    refine lv_iload_n hx hb dL_cell_7 rfl (lv_at hl 1 rfl) ?_
    have hin : vp_in (nI K) L := vp_in_nI (Classical.not_not.mp (fun z => hg ((nI_leI hL hK).mpr (Nat.le_of_not_lt z)))) hL
    refine va_sld hx hb hX hbl hbn hS hin dL_cell_8 ?_
    refine lv_goto (tgt := 20) hx hb dL_cell_9 (by decide) ?_
    exact ne_i hc hP hS hr dL_cell_20 rfl
theorem c_letter (hI : ninj ad on) {v : Int32} : nMi l D dA ad on yL_letter cL_letter 1 (some .char) (nrm 1) [.int v] X (fun _ X' => X' = X) := by
  refine nM_of hI (by decide +kernel) (Nat.le_of_ble_eq_true rfl) ?_
  intro p e s m args below meth cd ls hc hr _ hP hl hS
  have hx := hc.1
  have hb := hc.2.1
  have hl : lv_has ls 1 [(0, .int v)] := hl
  refine lv_iload_n hx hb dL_letter_0 rfl (lv_at hl 0 rfl) ?_
  refine lv_if_ne (tgt := 9) hx hb dL_letter_1 (by decide) (fun _ => ?_) (fun _ => ?_)
  · refine lv_bipush (v := 97) hx hb dL_letter_9 (by decide) ?_
    refine lv_iload_n hx hb dL_letter_11 rfl (lv_at hl 0 rfl) ?_
    refine lv_iadd hx hb dL_letter_12 ?_
    refine lv_iconst (v := 1) hx hb dL_letter_13 (by decide) ?_
    refine lv_isub hx hb dL_letter_14 ?_
    refine lv_i2c (v := _) hx hb dL_letter_15 rfl ?_
    exact ne_z hc hP hS hr (pk_nc _) dL_letter_16 rfl
  · refine lv_bipush (v := 32) hx hb dL_letter_4 (by decide) ?_
    refine lv_goto (tgt := 16) hx hb dL_letter_6 (by decide) ?_
    exact ne_z hc hP hS hr (by decide +kernel) dL_letter_16 rfl
theorem lA_self {s : State} : lA s ad on (nA ad on) := ⟨fun _ h => h, fun _ h => Or.inl h⟩
theorem c_name (hI : ninj ad on) {v : Int32} : nMi l D dA ad on yL_name cL_name 4 (some .int) (nrm 2) [.int v] X (fun _ X' => X' = X) := by
  refine nM_of hI (by decide +kernel) (Nat.le_of_ble_eq_true rfl) ?_
  intro p e s m args below meth cd ls hc hr _ hP hl hS
  have hx := hc.1
  have hb := hc.2.1
  have hl : lv_has ls 4 [(0, .int v)] := hl
  refine lv_iconst (v := 1) hx hb dL_name_0 (by decide) ?_
  refine lv_iload_n hx hb dL_name_1 rfl (lv_at hl 0 rfl) ?_
  refine lv_iconst (v := 3) hx hb dL_name_2 (by decide) ?_
  refine lv_ishr hx hb dL_name_3 ?_
  refine lv_iconst (v := 4) hx hb dL_name_4 (by decide) ?_
  refine b_S (X := X) (c_low hI (N := 4) (by decide) (by decide)) hc lA_self hP hS hl.1 gL_low ⟨rfl, rfl⟩ nok_L_low rfl ⟨(Nat.le_of_ble_eq_true rfl), (Nat.le_of_ble_eq_true rfl)⟩ ⟨(Nat.le_of_ble_eq_true rfl), (Nat.le_of_ble_eq_true rfl)⟩ dL_name_5 rfl (Nat.le_of_ble_eq_true rfl) ?_
  intro r X2 H locs hp hP _ hS
  obtain ⟨-, e9⟩ := hp
  rw [e9] at hP
  refine lv_iadd hx hb dL_name_8 ?_
  refine lv_istore_n (lv' := [(1, .int _), (0, .int v)]) hx hb dL_name_9 rfl hl (by decide) rfl (fun ls hl => ?_)
  refine lv_iconst (v := 0) hx hb dL_name_10 (by decide) ?_
  refine lv_istore_n (lv' := [(2, .int _), (1, .int _), (0, .int v)]) hx hb dL_name_11 rfl hl (by decide) rfl (fun ls hl => ?_)
  refine lv_iconst (v := 0) hx hb dL_name_12 (by decide) ?_
  refine lv_istore_n (lv' := [(3, .int (nI 0)), (2, .int _), (1, .int _), (0, .int v)]) hx hb dL_name_13 rfl hl (by decide) rfl (fun ls hl => ?_)
  have loop : ∀ (n j : Nat), n + j = 4 → ∀ (sz all : Int32) (H : Heap) (locs : List Loc) (ls : Array Slot), npic D dA ad on X H → va_S (nA ad on) s.heap H locs → lv_has ls 4 [(3, .int (nI j)), (2, .int all), (1, .int sz), (0, .int v)] → W p l e (nrm 2) s m args below meth cd H locs 0 0 (MQ below (va_Qi (fun _ X' => X' = X) (fun X' t => npic D dA ad on X' t.heap) (nA ad on)) args s 0 0 (nA ad on)) (F0 m 14 ls []) := by
    intro n
    induction n with
    | zero =>
      intro j hj sz all H locs ls hP hS hl
      obtain rfl : j = 4 := by omega
      refine lv_iload_n hx hb dL_name_14 rfl (lv_at hl 0 rfl) ?_
      refine lv_iconst (v := 4) hx hb dL_name_15 (by decide) ?_
      refine lv_icmp_ge (tgt := 64) hx hb dL_name_16 (by decide) (fun _ => ?_) (fun z => absurd (by decide) z)
      refine lv_iload_n hx hb dL_name_64 rfl (lv_at hl 1 rfl) ?_
      exact ne_i hc hP hS hr dL_name_65 rfl
    | succ n ih =>
      intro j hj sz all H locs ls hP hS hl
      refine lv_iload_n hx hb dL_name_14 rfl (lv_at hl 0 rfl) ?_
      refine lv_iconst (v := 4) hx hb dL_name_15 (by decide) ?_
      refine lv_icmp_ge (tgt := 64) hx hb dL_name_16 (by decide) (fun z => absurd z (nI_nle4 (by omega))) (fun _ => ?_)
      refine lv_bipush (v := 27) hx hb dL_name_19 (by decide) ?_
      refine lv_iload_n hx hb dL_name_21 rfl (lv_at hl 1 rfl) ?_
      refine lv_imul hx hb dL_name_22 ?_
      refine lv_iload_n hx hb dL_name_23 rfl (lv_at hl 0 rfl) ?_
      refine lv_iload_n hx hb dL_name_24 rfl (lv_at hl 2 rfl) ?_
      have go : ∀ (x : Int32) (H : Heap) (locs : List Loc), npic D dA ad on X H → va_S (nA ad on) s.heap H locs → W p l e (nrm 2) s m args below meth cd H locs 0 0 (MQ below (va_Qi (fun _ X' => X' = X) (fun X' t => npic D dA ad on X' t.heap) (nA ad on)) args s 0 0 (nA ad on)) (F0 m 56 ls [.int x, .int (27 * all)]) := by
        intro x H locs hP hS
        refine lv_iadd hx hb dL_name_56 ?_
        refine lv_istore_n (lv' := [(2, .int _), (3, .int (nI j)), (1, .int sz), (0, .int v)]) hx hb dL_name_57 rfl hl (by decide) rfl (fun ls hl => ?_)
        refine lv_iinc (lv' := [(3, .int (nI (j + 1))), (2, .int _), (1, .int sz), (0, .int v)]) (v := (nI (j + 1))) hx hb dL_name_58 hl (k := 1) rfl (by rw [show Int32.ofInt 1 = 1 from by decide, nI_1]) (by decide) rfl (fun ls hl => ?_)
        refine lv_goto (tgt := 14) hx hb dL_name_61 (by decide) ?_
        exact ih (j + 1) (by omega) sz _ H locs ls hP hS (lv_sub hl [0, 1, 2, 3] rfl)
      refine lv_icmp_ge (tgt := 55) hx hb dL_name_25 (by decide) (fun _ => ?_) (fun _ => ?_)
      · refine lv_iconst (v := 0) hx hb dL_name_55 (by decide) ?_
        exact go _ H locs hP hS
      · refine lv_iconst (v := 1) hx hb dL_name_28 (by decide) ?_
        refine lv_iload_n hx hb dL_name_29 rfl (lv_at hl 3 rfl) ?_
        refine lv_iconst (v := 5) hx hb dL_name_30 (by decide) ?_
        refine lv_iconst (v := 3) hx hb dL_name_31 (by decide) ?_
        refine lv_iload_n hx hb dL_name_32 rfl (lv_at hl 0 rfl) ?_
        refine lv_imul hx hb dL_name_33 ?_
        refine lv_iadd hx hb dL_name_34 ?_
        refine lv_ishr hx hb dL_name_35 ?_
        refine lv_iload_n hx hb dL_name_36 rfl (lv_at hl 3 rfl) ?_
        refine lv_iconst (v := 4) hx hb dL_name_37 (by decide) ?_
        refine lv_iand hx hb dL_name_38 ?_
        have lo : ∀ N : Nat, 0 < N → N < 2 ^ 31 → W p l e (nrm 2) s m args below meth cd H locs 0 0 (MQ below (va_Qi (fun _ X' => X' = X) (fun X' t => npic D dA ad on X' t.heap) (nA ad on)) args s 0 0 (nA ad on)) (F0 m 48 ls [.int (nI N), .int (v >>> ((5 + 3 * nI j) &&& 31)), .int 1, .int (27 * all)]) := by
          intro N h0 hN
          refine b_S (X := X) (c_low hI h0 hN) hc lA_self hP hS hl.1 gL_low ⟨rfl, rfl⟩ nok_L_low rfl ⟨(Nat.le_of_ble_eq_true rfl), (Nat.le_of_ble_eq_true rfl)⟩ ⟨(Nat.le_of_ble_eq_true rfl), (Nat.le_of_ble_eq_true rfl)⟩ dL_name_48 rfl (Nat.le_of_ble_eq_true rfl) ?_
          intro r X3 H locs hp hP _ hS
          obtain ⟨-, e9⟩ := hp
          rw [e9] at hP
          refine lv_iadd hx hb dL_name_51 ?_
          refine lv_goto (tgt := 56) hx hb dL_name_52 (by decide) ?_
          exact go _ H locs hP hS
        refine lv_if_ne (tgt := 47) hx hb dL_name_39 (by decide) (fun _ => ?_) (fun _ => ?_)
        · refine lv_iconst (v := 3) hx hb dL_name_47 (by decide) ?_
          exact lo 3 (by decide) (by decide)
        · refine lv_bipush (v := 26) hx hb dL_name_42 (by decide) ?_
          refine lv_goto (tgt := 48) hx hb dL_name_44 (by decide) ?_
          exact lo 26 (by decide) (by decide)
  exact loop 4 0 rfl _ _ H locs ls hP hS (lv_sub hl [0, 1, 2, 3] rfl)
set_option maxHeartbeats 4000000 in
theorem lk_replace (hfl : l.stackTraces = false) (hI : ninj ad on) (hon0 : on 0) (hon1 : on 1) (hon2 : on 2) (hok : oOk (X 0)) (hd : vp_in (X 2 21 0 4) 513) {q9 nm9 : Int32} : lM l D dA ad on yL_file cL_file 9 lfh [.ref (ad 2 20 0), .int (-1), .int q9, .int nm9] (wdo X 0 (X 0)) 6 (fun r X' => ∃ n1 n2 n3 n4 : Int32, (r, X') = lres (wdo X 0 (X 0)) (nG (inB q9 (onp (X 0))) 2 (nG (nmOk n1 n2 n3 n4) 0 (nG (oRepl (X 0) q9) 1 (.inr (nJ (X 0) 12 q9 (cName n1 n2 n3 n4) 0 11 (nix q9) 5, nEv X (X 0) 12 q9 (cName n1 n2 n3 n4) 0)))))) := by
  refine lM_of hI rfl (by decide +kernel) (Nat.le_of_ble_eq_true rfl) ?_
  intro p e s m args below meth cd ls hc hr hP hl hS
  have hx := hc.1.1
  have hb := hc.1.2.1
  have hl : lv_has ls 9 [(0, .ref (ad 2 20 0)), (1, .int (-1)), (2, .int q9), (3, .int nm9)] := hl
  refine lv_iload_n hx hb dL_file_0 rfl (lv_at hl 3 rfl) ?_
  refine lv_sipush (v := 19683) hx hb dL_file_1 (by decide) ?_
  refine lv_idiv hx hb dL_file_4 (by decide) ?_
  refine b_S (X := wdo X 0 (X 0)) (c_letter hI) hc.1 lA_self hP hS hl.1 gL_letter ⟨rfl, rfl⟩ nok_L_letter rfl ⟨(Nat.le_of_ble_eq_true rfl), (Nat.le_of_ble_eq_true rfl)⟩ ⟨(Nat.le_of_ble_eq_true rfl), (Nat.le_of_ble_eq_true rfl)⟩ dL_file_5 rfl (Nat.le_of_ble_eq_true rfl) ?_
  intro n1 X2 H locs hp hP _ hS
  obtain rfl := hp
  refine lv_istore (lv' := [(4, .int n1), (0, .ref _), (1, .int _), (2, .int _), (3, .int _)]) hx hb dL_file_8 hl (by decide) rfl (fun ls hl => ?_)
  refine lv_iload_n hx hb dL_file_10 rfl (lv_at hl 4 rfl) ?_
  refine lv_sipush (v := 729) hx hb dL_file_11 (by decide) ?_
  refine lv_idiv hx hb dL_file_14 (by decide) ?_
  refine lv_bipush (v := 27) hx hb dL_file_15 (by decide) ?_
  refine lv_irem hx hb dL_file_17 (by decide) ?_
  refine b_S (X := wdo X 0 (X 0)) (c_letter hI) hc.1 lA_self hP hS hl.1 gL_letter ⟨rfl, rfl⟩ nok_L_letter rfl ⟨(Nat.le_of_ble_eq_true rfl), (Nat.le_of_ble_eq_true rfl)⟩ ⟨(Nat.le_of_ble_eq_true rfl), (Nat.le_of_ble_eq_true rfl)⟩ dL_file_18 rfl (Nat.le_of_ble_eq_true rfl) ?_
  intro n2 X2 H locs hp hP _ hS
  obtain rfl := hp
  refine lv_istore (lv' := [(5, .int n2), (4, .int n1), (0, .ref _), (1, .int _), (2, .int _), (3, .int _)]) hx hb dL_file_21 hl (by decide) rfl (fun ls hl => ?_)
  refine lv_iload_n hx hb dL_file_23 rfl (lv_at hl 5 rfl) ?_
  refine lv_bipush (v := 27) hx hb dL_file_24 (by decide) ?_
  refine lv_idiv hx hb dL_file_26 (by decide) ?_
  refine lv_bipush (v := 27) hx hb dL_file_27 (by decide) ?_
  refine lv_irem hx hb dL_file_29 (by decide) ?_
  refine b_S (X := wdo X 0 (X 0)) (c_letter hI) hc.1 lA_self hP hS hl.1 gL_letter ⟨rfl, rfl⟩ nok_L_letter rfl ⟨(Nat.le_of_ble_eq_true rfl), (Nat.le_of_ble_eq_true rfl)⟩ ⟨(Nat.le_of_ble_eq_true rfl), (Nat.le_of_ble_eq_true rfl)⟩ dL_file_30 rfl (Nat.le_of_ble_eq_true rfl) ?_
  intro n3 X2 H locs hp hP _ hS
  obtain rfl := hp
  refine lv_istore (lv' := [(6, .int n3), (5, .int n2), (4, .int n1), (0, .ref _), (1, .int _), (2, .int _), (3, .int _)]) hx hb dL_file_33 hl (by decide) rfl (fun ls hl => ?_)
  refine lv_iload_n hx hb dL_file_35 rfl (lv_at hl 6 rfl) ?_
  refine lv_bipush (v := 27) hx hb dL_file_36 (by decide) ?_
  refine lv_irem hx hb dL_file_38 (by decide) ?_
  refine b_S (X := wdo X 0 (X 0)) (c_letter hI) hc.1 lA_self hP hS hl.1 gL_letter ⟨rfl, rfl⟩ nok_L_letter rfl ⟨(Nat.le_of_ble_eq_true rfl), (Nat.le_of_ble_eq_true rfl)⟩ ⟨(Nat.le_of_ble_eq_true rfl), (Nat.le_of_ble_eq_true rfl)⟩ dL_file_39 rfl (Nat.le_of_ble_eq_true rfl) ?_
  intro n4 X2 H locs hp hP _ hS
  obtain rfl := hp
  refine lv_istore (lv' := [(7, .int n4), (6, .int n3), (5, .int n2), (4, .int n1), (0, .ref _), (1, .int _), (2, .int _), (3, .int _)]) hx hb dL_file_42 hl (by decide) rfl (fun ls hl => ?_)
  refine lv_iload_n hx hb dL_file_44 rfl (lv_at hl 5 rfl) ?_
  refine lv_if_ge (tgt := 64) hx hb dL_file_45 (by decide) (fun z => absurd z (by decide)) (fun _ => ?_)
  refine lv_aload_n hx hb dL_file_48 rfl (lv_at hl 4 rfl) ?_
  refine lv_iload_n hx hb dL_file_49 rfl (lv_at hl 6 rfl) ?_
  refine lv_iload hx hb dL_file_50 (lv_at hl 3 rfl) ?_
  refine lv_iload hx hb dL_file_52 (lv_at hl 2 rfl) ?_
  refine lv_iload hx hb dL_file_54 (lv_at hl 1 rfl) ?_
  refine lv_iload hx hb dL_file_56 (lv_at hl 0 rfl) ?_
  refine l_Xi (X := wdo X 0 (X 0)) (As := [.int q9, .int n1, .int n2, .int n3, .int n4]) (rest := []) (c_X9_replace (S := X 0) (pp := q9) (n1 := n1) (n2 := n2) (n3 := n3) (n4 := n4) hfl hI hon0 hon1 hon2 hok hd) hc hP hS hl.1 (ngoodV q923 q924 q925 q1 q926) (b_rec hc.1 hP hon2) nok_X9_replace rfl ⟨(Nat.le_of_ble_eq_true rfl), (Nat.le_of_ble_eq_true rfl)⟩ ⟨(Nat.le_of_ble_eq_true rfl), (Nat.le_of_ble_eq_true rfl)⟩ dL_file_58 rfl (Nat.le_of_ble_eq_true rfl) ?_ ?_
  · intro k ce r9 H locs hE hP hS hcell hv hcl
    have hE9 : (nG (inB q9 (onp (X 0))) 2 (nG (nmOk n1 n2 n3 n4) 0 (nG (oRepl (X 0) q9) 1 (.inr (nJ (X 0) 12 q9 (cName n1 n2 n3 n4) 0 11 (nix q9) 5, nEv X (X 0) 12 q9 (cName n1 n2 n3 n4) 0)))) : Nat ⊕ (Int32 × NWd)) = .inl k := hE
    have hks : k = 2 ∨ k = 0 ∨ k = 1 := by
      rcases nG_inl hE9 with h9 | h9
      · exact Or.inl h9
      · skip
        rcases nG_inl h9 with h9 | h9
        · exact Or.inr (Or.inl h9)
        · skip
          rcases nG_inl h9 with h9 | h9
          · exact Or.inr (Or.inr (h9))
          · cases h9
    rcases hks with rfl | rfl | rfl
    · refine l_catch (k := 2) (i := 0) (sp := 44) (ep := 78) (hp := 79) hc (by decide) rfl (by decide +kernel) ⟨by decide, by decide⟩ hcell hv hcl ?_
      refine lv_astore (lv' := [(8, .ref _), (7, .int n4), (6, .int n3), (5, .int n2), (4, .int n1), (0, .ref _), (1, .int _), (2, .int _), (3, .int _)]) hx hb dL_file_79 hl (by decide) rfl (fun ls hl => ?_)
      refine lv_bipush (v := -101) hx hb dL_file_81 (by decide) ?_
      exact l_end hc hP hS hr dL_file_83 (Nat.le_of_ble_eq_true rfl) (Nat.le_of_ble_eq_true rfl) ⟨n1, n2, n3, n4, (congrArg (lres (wdo X 0 (X 0))) hE9).symm⟩
    · refine l_catch (k := 0) (i := 1) (sp := 44) (ep := 78) (hp := 84) hc (by decide) rfl (by decide +kernel) ⟨by decide, by decide⟩ hcell hv hcl ?_
      refine lv_astore (lv' := [(8, .ref _), (7, .int n4), (6, .int n3), (5, .int n2), (4, .int n1), (0, .ref _), (1, .int _), (2, .int _), (3, .int _)]) hx hb dL_file_84 hl (by decide) rfl (fun ls hl => ?_)
      refine lv_bipush (v := -102) hx hb dL_file_86 (by decide) ?_
      exact l_end hc hP hS hr dL_file_88 (Nat.le_of_ble_eq_true rfl) (Nat.le_of_ble_eq_true rfl) ⟨n1, n2, n3, n4, (congrArg (lres (wdo X 0 (X 0))) hE9).symm⟩
    · refine l_catch (k := 1) (i := 2) (sp := 44) (ep := 78) (hp := 89) hc (by decide) rfl (by decide +kernel) ⟨by decide, by decide⟩ hcell hv hcl ?_
      refine lv_astore (lv' := [(8, .ref _), (7, .int n4), (6, .int n3), (5, .int n2), (4, .int n1), (0, .ref _), (1, .int _), (2, .int _), (3, .int _)]) hx hb dL_file_89 hl (by decide) rfl (fun ls hl => ?_)
      refine lv_bipush (v := -103) hx hb dL_file_91 (by decide) ?_
      exact l_end hc hP hS hr dL_file_93 (Nat.le_of_ble_eq_true rfl) (Nat.le_of_ble_eq_true rfl) ⟨n1, n2, n3, n4, (congrArg (lres (wdo X 0 (X 0))) hE9).symm⟩
  · intro r X2 H locs hp hP hS
    refine lv_goto (tgt := 78) hx hb dL_file_61 (by decide) ?_
    exact l_end hc hP hS hr dL_file_78 (Nat.le_of_ble_eq_true rfl) (Nat.le_of_ble_eq_true rfl) ⟨n1, n2, n3, n4, (congrArg (lres (wdo X 0 (X 0))) hp).symm⟩
set_option maxHeartbeats 4000000 in
theorem lk_file (hfl : l.stackTraces = false) (hI : ninj ad on) (hon0 : on 0) (hon1 : on 1) (hon2 : on 2) (hok : oOk (X 0)) (hd : vp_in (X 2 21 0 4) 513) {a9 q9 nm9 : Int32} (h0 : 0 ≤ a9) : lM l D dA ad on yL_file cL_file 9 lfh [.ref (ad 2 20 0), .int a9, .int q9, .int nm9] (wdo X 0 (X 0)) 6 (fun r X' => ∃ n1 n2 n3 n4 : Int32, (r, X') = lres (wdo X 0 (X 0)) (nG (inB a9 (ona (X 0))) 2 (nG (decide (-1 ≤ q9) && decide (q9 ≤ 7)) 0 (nG (nmOk n1 n2 n3 n4) 0 (nG (oOpen (X 0)) 1 (nG (decide ((X 0) 0 0 6 < 12)) 1 (.inr (nJ (X 0) 7 a9 q9 (cName n1 n2 n3 n4) 0 0 6 - 1, nEv X (X 0) 7 a9 q9 (cName n1 n2 n3 n4))))))))) := by
  refine lM_of hI rfl (by decide +kernel) (Nat.le_of_ble_eq_true rfl) ?_
  intro p e s m args below meth cd ls hc hr hP hl hS
  have hx := hc.1.1
  have hb := hc.1.2.1
  have hl : lv_has ls 9 [(0, .ref (ad 2 20 0)), (1, .int a9), (2, .int q9), (3, .int nm9)] := hl
  refine lv_iload_n hx hb dL_file_0 rfl (lv_at hl 3 rfl) ?_
  refine lv_sipush (v := 19683) hx hb dL_file_1 (by decide) ?_
  refine lv_idiv hx hb dL_file_4 (by decide) ?_
  refine b_S (X := wdo X 0 (X 0)) (c_letter hI) hc.1 lA_self hP hS hl.1 gL_letter ⟨rfl, rfl⟩ nok_L_letter rfl ⟨(Nat.le_of_ble_eq_true rfl), (Nat.le_of_ble_eq_true rfl)⟩ ⟨(Nat.le_of_ble_eq_true rfl), (Nat.le_of_ble_eq_true rfl)⟩ dL_file_5 rfl (Nat.le_of_ble_eq_true rfl) ?_
  intro n1 X2 H locs hp hP _ hS
  obtain rfl := hp
  refine lv_istore (lv' := [(4, .int n1), (0, .ref _), (1, .int _), (2, .int _), (3, .int _)]) hx hb dL_file_8 hl (by decide) rfl (fun ls hl => ?_)
  refine lv_iload_n hx hb dL_file_10 rfl (lv_at hl 4 rfl) ?_
  refine lv_sipush (v := 729) hx hb dL_file_11 (by decide) ?_
  refine lv_idiv hx hb dL_file_14 (by decide) ?_
  refine lv_bipush (v := 27) hx hb dL_file_15 (by decide) ?_
  refine lv_irem hx hb dL_file_17 (by decide) ?_
  refine b_S (X := wdo X 0 (X 0)) (c_letter hI) hc.1 lA_self hP hS hl.1 gL_letter ⟨rfl, rfl⟩ nok_L_letter rfl ⟨(Nat.le_of_ble_eq_true rfl), (Nat.le_of_ble_eq_true rfl)⟩ ⟨(Nat.le_of_ble_eq_true rfl), (Nat.le_of_ble_eq_true rfl)⟩ dL_file_18 rfl (Nat.le_of_ble_eq_true rfl) ?_
  intro n2 X2 H locs hp hP _ hS
  obtain rfl := hp
  refine lv_istore (lv' := [(5, .int n2), (4, .int n1), (0, .ref _), (1, .int _), (2, .int _), (3, .int _)]) hx hb dL_file_21 hl (by decide) rfl (fun ls hl => ?_)
  refine lv_iload_n hx hb dL_file_23 rfl (lv_at hl 5 rfl) ?_
  refine lv_bipush (v := 27) hx hb dL_file_24 (by decide) ?_
  refine lv_idiv hx hb dL_file_26 (by decide) ?_
  refine lv_bipush (v := 27) hx hb dL_file_27 (by decide) ?_
  refine lv_irem hx hb dL_file_29 (by decide) ?_
  refine b_S (X := wdo X 0 (X 0)) (c_letter hI) hc.1 lA_self hP hS hl.1 gL_letter ⟨rfl, rfl⟩ nok_L_letter rfl ⟨(Nat.le_of_ble_eq_true rfl), (Nat.le_of_ble_eq_true rfl)⟩ ⟨(Nat.le_of_ble_eq_true rfl), (Nat.le_of_ble_eq_true rfl)⟩ dL_file_30 rfl (Nat.le_of_ble_eq_true rfl) ?_
  intro n3 X2 H locs hp hP _ hS
  obtain rfl := hp
  refine lv_istore (lv' := [(6, .int n3), (5, .int n2), (4, .int n1), (0, .ref _), (1, .int _), (2, .int _), (3, .int _)]) hx hb dL_file_33 hl (by decide) rfl (fun ls hl => ?_)
  refine lv_iload_n hx hb dL_file_35 rfl (lv_at hl 6 rfl) ?_
  refine lv_bipush (v := 27) hx hb dL_file_36 (by decide) ?_
  refine lv_irem hx hb dL_file_38 (by decide) ?_
  refine b_S (X := wdo X 0 (X 0)) (c_letter hI) hc.1 lA_self hP hS hl.1 gL_letter ⟨rfl, rfl⟩ nok_L_letter rfl ⟨(Nat.le_of_ble_eq_true rfl), (Nat.le_of_ble_eq_true rfl)⟩ ⟨(Nat.le_of_ble_eq_true rfl), (Nat.le_of_ble_eq_true rfl)⟩ dL_file_39 rfl (Nat.le_of_ble_eq_true rfl) ?_
  intro n4 X2 H locs hp hP _ hS
  obtain rfl := hp
  refine lv_istore (lv' := [(7, .int n4), (6, .int n3), (5, .int n2), (4, .int n1), (0, .ref _), (1, .int _), (2, .int _), (3, .int _)]) hx hb dL_file_42 hl (by decide) rfl (fun ls hl => ?_)
  refine lv_iload_n hx hb dL_file_44 rfl (lv_at hl 5 rfl) ?_
  refine lv_if_ge (tgt := 64) hx hb dL_file_45 (by decide) (fun _ => ?_) (fun z => absurd h0 z)
  refine lv_aload_n hx hb dL_file_64 rfl (lv_at hl 4 rfl) ?_
  refine lv_iload_n hx hb dL_file_65 rfl (lv_at hl 5 rfl) ?_
  refine lv_iload_n hx hb dL_file_66 rfl (lv_at hl 6 rfl) ?_
  refine lv_iload hx hb dL_file_67 (lv_at hl 3 rfl) ?_
  refine lv_iload hx hb dL_file_69 (lv_at hl 2 rfl) ?_
  refine lv_iload hx hb dL_file_71 (lv_at hl 1 rfl) ?_
  refine lv_iload hx hb dL_file_73 (lv_at hl 0 rfl) ?_
  refine l_Xi (X := wdo X 0 (X 0)) (As := [.int a9, .int q9, .int n1, .int n2, .int n3, .int n4]) (rest := []) (c_X9_file (S := X 0) (a := a9) (pp := q9) (n1 := n1) (n2 := n2) (n3 := n3) (n4 := n4) hfl hI hon0 hon1 hon2 hok hd) hc hP hS hl.1 (ngoodV q940 q941 q942 q1 q943) (b_rec hc.1 hP hon2) nok_X9_file rfl ⟨(Nat.le_of_ble_eq_true rfl), (Nat.le_of_ble_eq_true rfl)⟩ ⟨(Nat.le_of_ble_eq_true rfl), (Nat.le_of_ble_eq_true rfl)⟩ dL_file_75 rfl (Nat.le_of_ble_eq_true rfl) ?_ ?_
  · intro k ce r9 H locs hE hP hS hcell hv hcl
    have hE9 : (nG (inB a9 (ona (X 0))) 2 (nG (decide (-1 ≤ q9) && decide (q9 ≤ 7)) 0 (nG (nmOk n1 n2 n3 n4) 0 (nG (oOpen (X 0)) 1 (nG (decide ((X 0) 0 0 6 < 12)) 1 (.inr (nJ (X 0) 7 a9 q9 (cName n1 n2 n3 n4) 0 0 6 - 1, nEv X (X 0) 7 a9 q9 (cName n1 n2 n3 n4))))))) : Nat ⊕ (Int32 × NWd)) = .inl k := hE
    have hks : k = 2 ∨ k = 0 ∨ k = 1 := by
      rcases nG_inl hE9 with h9 | h9
      · exact Or.inl h9
      · skip
        rcases nG_inl h9 with h9 | h9
        · exact Or.inr (Or.inl h9)
        · skip
          rcases nG_inl h9 with h9 | h9
          · exact Or.inr (Or.inl h9)
          · skip
            rcases nG_inl h9 with h9 | h9
            · exact Or.inr (Or.inr (h9))
            · skip
              rcases nG_inl h9 with h9 | h9
              · exact Or.inr (Or.inr (h9))
              · cases h9
    rcases hks with rfl | rfl | rfl
    · refine l_catch (k := 2) (i := 0) (sp := 44) (ep := 78) (hp := 79) hc (by decide) rfl (by decide +kernel) ⟨by decide, by decide⟩ hcell hv hcl ?_
      refine lv_astore (lv' := [(8, .ref _), (7, .int n4), (6, .int n3), (5, .int n2), (4, .int n1), (0, .ref _), (1, .int _), (2, .int _), (3, .int _)]) hx hb dL_file_79 hl (by decide) rfl (fun ls hl => ?_)
      refine lv_bipush (v := -101) hx hb dL_file_81 (by decide) ?_
      exact l_end hc hP hS hr dL_file_83 (Nat.le_of_ble_eq_true rfl) (Nat.le_of_ble_eq_true rfl) ⟨n1, n2, n3, n4, (congrArg (lres (wdo X 0 (X 0))) hE9).symm⟩
    · refine l_catch (k := 0) (i := 1) (sp := 44) (ep := 78) (hp := 84) hc (by decide) rfl (by decide +kernel) ⟨by decide, by decide⟩ hcell hv hcl ?_
      refine lv_astore (lv' := [(8, .ref _), (7, .int n4), (6, .int n3), (5, .int n2), (4, .int n1), (0, .ref _), (1, .int _), (2, .int _), (3, .int _)]) hx hb dL_file_84 hl (by decide) rfl (fun ls hl => ?_)
      refine lv_bipush (v := -102) hx hb dL_file_86 (by decide) ?_
      exact l_end hc hP hS hr dL_file_88 (Nat.le_of_ble_eq_true rfl) (Nat.le_of_ble_eq_true rfl) ⟨n1, n2, n3, n4, (congrArg (lres (wdo X 0 (X 0))) hE9).symm⟩
    · refine l_catch (k := 1) (i := 2) (sp := 44) (ep := 78) (hp := 89) hc (by decide) rfl (by decide +kernel) ⟨by decide, by decide⟩ hcell hv hcl ?_
      refine lv_astore (lv' := [(8, .ref _), (7, .int n4), (6, .int n3), (5, .int n2), (4, .int n1), (0, .ref _), (1, .int _), (2, .int _), (3, .int _)]) hx hb dL_file_89 hl (by decide) rfl (fun ls hl => ?_)
      refine lv_bipush (v := -103) hx hb dL_file_91 (by decide) ?_
      exact l_end hc hP hS hr dL_file_93 (Nat.le_of_ble_eq_true rfl) (Nat.le_of_ble_eq_true rfl) ⟨n1, n2, n3, n4, (congrArg (lres (wdo X 0 (X 0))) hE9).symm⟩
  · intro r X2 H locs hp hP hS
    exact l_end hc hP hS hr dL_file_78 (Nat.le_of_ble_eq_true rfl) (Nat.le_of_ble_eq_true rfl) ⟨n1, n2, n3, n4, (congrArg (lres (wdo X 0 (X 0))) hp).symm⟩
end LS
