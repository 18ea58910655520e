/-! The law's loop over the events. -/
section YL0
variable {p : Program} {l : Launch} {e : Env} {R : Room} {s : State} {m : MethodId} {args : Array Value} {below : List Frame} {meth : Method} {c : Code} {H : Heap} {locs : List Loc} {cells slots : Nat} {Q : State → Prop}
variable {cc : ByteArray} {pc : Nat} {ls : Array Slot} {rest : List Value}
theorem nl_lcmp (hexec : p.tables.exec = Jvm.exec) (hb : c.code = cc) {x y : Int64} (hdg : decode cc pc = .ok (.lcmp, 1))
    (k : W p l e R s m args below meth c H locs cells slots Q (F0 m (pc + 1) ls (.int (ncmpL x y) :: rest))) : W p l e R s m args below meth c H locs cells slots Q (F0 m pc ls (.long y :: .long x :: rest)) := by
  intro T hT X
  obtain ⟨t, a, b⟩ := k T hT X
  refine ⟨t, ?_, b⟩
  unfold ncmpL at a
  by_cases h1 : y < x
  · rw [if_pos h1] at a
    jvm_step X.here [X.here.top, hexec, hb, hdg, h1]
    exact a
  · rw [if_neg h1] at a
    by_cases h2 : x = y
    · rw [if_pos h2] at a
      subst h2
      jvm_step X.here [X.here.top, hexec, hb, hdg, h1]
      exact a
    · rw [if_neg h2] at a
      jvm_step X.here [X.here.top, hexec, hb, hdg, h1, h2]
      exact a
theorem ncmpL_self (x : Int64) : ncmpL x x = 0 := by
  unfold ncmpL
  rw [if_neg (Int64.lt_irrefl), if_pos rfl]
end YL0
section YL
variable {p : Program} {l : Launch} {e9 : Env} {s : State} {m : MethodId} {below : List Frame} {meth : Method} {c : Code} {Q : State → Prop} {b L : Nat} {xs : Nat → Int32} {D : va_G} {dA : Nat → ClassId} {ad : Nat → Nat → Nat → Nat} {on : Nat → Prop} {aP aS nv : Nat}
set_option maxHeartbeats 4000000 in
set_option maxRecDepth 100000 in
theorem y_594 (hG : yG p l s m meth c b L xs D dA ad on aP aS) (hnv : 0 < nv ∧ nv ≤ 40) {j : Nat} (hj : j < 70) (ih : ∀ (X : NWd) (f1 f2 : Nat → Int32) (H : Heap) (locs : List Loc) (ls : Array Slot), yH s D dA ad on aP aS X nv (50 + (j + 1)) f1 f2 H locs → lv_has ls 14 [(5, .int (nI (j + 1))), (4, .int (nI nv)), (3, .ref aS), (2, .ref aP), (1, .ref (ad 2 20 0)), (0, .ref b)] → W p l e9 room_1 s m #[Value.ref b] below meth c H locs (1000 + 7500 * (j + 1)) (9000 + 45000 * (j + 1)) Q (F0 m 172 ls [])) : ∀ (X : NWd) (f1 f2 : Nat → Int32) (H : Heap) (locs : List Loc) (ls : Array Slot) (r : Int32) (w : Int64), yH s D dA ad on aP aS X nv (50 + j + 1) f1 f2 H locs → (r < 0 → hst (X 0) nv = w) → lv_has ls 14 [(13, .int r), (10, .long w), (5, .int (nI j)), (4, .int (nI nv)), (3, .ref aS), (2, .ref aP), (1, .ref (ad 2 20 0)), (0, .ref b)] → W p l e9 room_1 s m #[Value.ref b] below meth c H locs (1000 + 7500 * j + 3150) (9000 + 45000 * j + 18900) Q (F0 m 594 ls []) := by
  have hG9 := hG
  obtain ⟨hc, hfl, hI, hon0, hon1, hon2, hA, ⟨hX9, hbl⟩, hL9, ⟨hp1, hp2⟩, ⟨hs1, hs2⟩, hps⟩ := hG
  have hx := hc.1
  have hb := hc.2.1
  intro X f1 f2 H locs ls r w hH hw hl
  have k611 : ∀ (H : Heap) (locs : List Loc), yH s D dA ad on aP aS X nv (50 + j + 1) f1 f2 H locs → W p l e9 room_1 s m #[Value.ref b] below meth c H locs (1000 + 7500 * j + 6252) (9000 + 45000 * j + 37512) Q (F0 m 611 ls []) := by
    intro H locs hH
    refine lv_aload_n hx hb dL_law_611 rfl (lv_at hl 6 rfl) ?_
    refine lv_aload_n hx hb dL_law_612 rfl (lv_at hl 5 rfl) ?_
    refine lv_aload_n hx hb dL_law_613 rfl (lv_at hl 4 rfl) ?_
    refine lv_iload hx hb dL_law_614 (lv_at hl 3 rfl) ?_
    refine b_sound hG9 hH (by omega) hl.1 ⟨(Nat.le_of_ble_eq_true rfl), (Nat.le_of_ble_eq_true rfl)⟩ ⟨by show _ ≤ 745879; omega, by show _ ≤ 6858280; omega⟩ dL_law_616 rfl (Nat.le_of_ble_eq_true rfl) ?_
    intro X2 H locs hH
    refine lv_if_ne (tgt := 624) hx hb dL_law_619 (by decide) (fun _ => ?_) (fun z => absurd z (by decide))
    refine lv_iinc (lv' := [(5, .int (nI (j + 1))), (13, .int r), (10, .long w), (4, .int (nI nv)), (3, .ref aS), (2, .ref aP), (1, .ref (ad 2 20 0)), (0, .ref b)]) (v := (nI (j + 1))) hx hb dL_law_624 hl (k := 2) rfl (by rw [show Int32.ofInt 1 = 1 from by decide, nI_1]) (by decide) rfl (fun ls hl => ?_)
    refine lv_goto (tgt := 172) hx hb dL_law_627 (by decide) ?_
    exact W.widen (by omega) (by omega) (ih X2 f1 f2 H locs ls hH (lv_sub hl [0, 3, 4, 5, 6, 7] rfl))
  have hH9 := hH
  obtain ⟨hP, hS, hV, ha1, ha2, hag⟩ := hH
  obtain ⟨hok, hd, h01⟩ := hV.ok
  have h12 := hok.np12
  have h150 := hok.ns150
  have enp := hok.np
  have ens := hok.ns
  refine lv_iload hx hb dL_law_594 (lv_at hl 0 rfl) ?_
  refine lv_if_ge (tgt := 611) hx hb dL_law_596 (by decide) (fun _ => W.widen (by omega) (by omega) (k611 H locs hH9)) (fun hneg => ?_)
  refine lv_aload_n hx hb dL_law_599 rfl (lv_at hl 6 rfl) ?_
  refine lv_iload hx hb dL_law_600 (lv_at hl 3 rfl) ?_
  refine b_state hG9 hV hnv.2 hP hS hl.1 ⟨(Nat.le_of_ble_eq_true rfl), (Nat.le_of_ble_eq_true rfl)⟩ ⟨by show _ ≤ 745879; omega, by show _ ≤ 6858280; omega⟩ dL_law_602 rfl (Nat.le_of_ble_eq_true rfl) ?_
  intro H locs hP hk hS
  replace hH9 := hH9.kept hG9 hP hk hS
  refine lv_lload hx hb dL_law_605 (lv_at hl 1 rfl) ?_
  refine nl_lcmp hx hb dL_law_607 ?_
  rw [hw (Int32.not_le.mp hneg), ncmpL_self]
  refine lv_if_ne (tgt := 622) hx hb dL_law_608 (by decide) (fun z => absurd rfl z) (fun _ => ?_)
  exact W.widen (by omega) (by omega) (k611 H locs hH9)
set_option maxHeartbeats 4000000 in
set_option maxRecDepth 100000 in
theorem y_file (hG : yG p l s m meth c b L xs D dA ad on aP aS) (hnv : 0 < nv ∧ nv ≤ 40) {j : Nat} (hj : j < 70) {X : NWd} {f1 f2 : Nat → Int32} {g pv vv so : Int32} (k594 : ∀ (X2 : NWd) (f1 f2 : Nat → Int32) (H : Heap) (locs : List Loc) (ls : Array Slot) (r : Int32), yH s D dA ad on aP aS X2 nv (50 + j + 1) f1 f2 H locs → (r < 0 → hst (X2 0) nv = hst (X 0) nv) → lv_has ls 14 [(13, .int r), (10, .long (hst (X 0) nv)), (5, .int (nI j)), (4, .int (nI nv)), (3, .ref aS), (2, .ref aP), (1, .ref (ad 2 20 0)), (0, .ref b)] → W p l e9 room_1 s m #[Value.ref b] below meth c H locs (1000 + 7500 * j + 3150) (9000 + 45000 * j + 18900) Q (F0 m 594 ls [])) : ∀ (H : Heap) (locs : List Loc) (ls : Array Slot), yH s D dA ad on aP aS X nv (50 + j) f1 f2 H locs → lv_has ls 14 [(13, .int 0), (12, .int (nI (ons (X 0)))), (10, .long (hst (X 0) nv)), (9, .int so), (8, .int vv), (7, .int pv), (6, .int g), (5, .int (nI j)), (4, .int (nI nv)), (3, .ref aS), (2, .ref aP), (1, .ref (ad 2 20 0)), (0, .ref b)] → W p l e9 room_1 s m #[Value.ref b] below meth c H locs (1000 + 7500 * j + 3140) (9000 + 45000 * j + 18840) Q (F0 m 274 ls []) := by
  have hG9 := hG
  obtain ⟨hc, hfl, hI, hon0, hon1, hon2, hA, ⟨hX9, hbl⟩, hL9, ⟨hp1, hp2⟩, ⟨hs1, hs2⟩, hps⟩ := hG
  have hx := hc.1
  have hb := hc.2.1
  intro H locs ls hH hl
  have hH9 := hH
  obtain ⟨hP, hS, hV, ha1, ha2, hag⟩ := hH
  obtain ⟨hok, hd, h01⟩ := hV.ok
  have h12 := hok.np12
  have h150 := hok.ns150
  have enp := hok.np
  have ens := hok.ns
  refine lv_aload_n hx hb dL_law_274 rfl (lv_at hl 11 rfl) ?_
  refine lv_iload hx hb dL_law_275 (lv_at hl 6 rfl) ?_
  refine lv_bipush (v := 13) hx hb dL_law_277 (by decide) ?_
  refine lv_ishr hx hb dL_law_279 ?_
  refine lv_iconst (v := 2) hx hb dL_law_280 (by decide) ?_
  refine b_S (c_low (X := X) hI (N := 2) (by decide) (by decide)) hc hA hP hS hl.1 gL_low ⟨rfl, rfl⟩ nok_L_low rfl ⟨(Nat.le_of_ble_eq_true rfl), (Nat.le_of_ble_eq_true rfl)⟩ ⟨by show _ ≤ 745879; omega, by show _ ≤ 6858280; omega⟩ dL_law_281 rfl (Nat.le_of_ble_eq_true rfl) ?_
  intro ra X8 H locs hp hP hk hS
  obtain ⟨⟨a_ra, b_ra, c_ra⟩, e8⟩ := hp
  rw [e8] at hP
  replace hH9 := hH9.kept hG9 hP hk hS
  refine lv_iload hx hb dL_law_284 (lv_at hl 6 rfl) ?_
  refine lv_bipush (v := 15) hx hb dL_law_286 (by decide) ?_
  refine lv_ishr hx hb dL_law_288 ?_
  refine lv_iconst (v := 5) hx hb dL_law_289 (by decide) ?_
  refine b_S (c_low (X := X) hI (N := 5) (by decide) (by decide)) hc hA hP hS hl.1 gL_low ⟨rfl, rfl⟩ nok_L_low rfl ⟨(Nat.le_of_ble_eq_true rfl), (Nat.le_of_ble_eq_true rfl)⟩ ⟨by show _ ≤ 745879; omega, by show _ ≤ 6858280; omega⟩ dL_law_290 rfl (Nat.le_of_ble_eq_true rfl) ?_
  intro rb X8 H locs hp hP hk hS
  obtain ⟨⟨a_rb, b_rb, c_rb⟩, e8⟩ := hp
  rw [e8] at hP
  replace hH9 := hH9.kept hG9 hP hk hS
  refine lv_iconst (v := 1) hx hb dL_law_293 (by decide) ?_
  refine lv_isub hx hb dL_law_294 ?_
  refine lv_iload hx hb dL_law_295 (lv_at hl 6 rfl) ?_
  refine lv_bipush (v := 7) hx hb dL_law_297 (by decide) ?_
  refine lv_ishr hx hb dL_law_299 ?_
  refine b_S (c_name (X := X) hI) hc hA hP hS hl.1 gL_name ⟨rfl, rfl⟩ nok_L_name rfl ⟨(Nat.le_of_ble_eq_true rfl), (Nat.le_of_ble_eq_true rfl)⟩ ⟨by show _ ≤ 745879; omega, by show _ ≤ 6858280; omega⟩ dL_law_300 rfl (Nat.le_of_ble_eq_true rfl) ?_
  intro nm9 X8 H locs hp hP hk hS
  have e8 : X8 = X := hp
  rw [e8] at hP
  replace hH9 := hH9.kept hG9 hP hk hS
  refine b_L (lk_file (X := X) hfl hI hon0 hon1 hon2 hok hd (by rw [c_ra]; exact nI_pos' (by omega))) hc hA (npic_eta hP) hS hl.1 gL_file nok_L_file rfl ⟨(Nat.le_of_ble_eq_true rfl), (Nat.le_of_ble_eq_true rfl)⟩ ⟨by show _ ≤ 745879; omega, by show _ ≤ 6858280; omega⟩ dL_law_303 rfl (Nat.le_of_ble_eq_true rfl) ?_
  intro r X2 H1 locs1 hp hP1 hk hS1
  obtain ⟨n1, n2, n3, n4, hp⟩ := hp
  obtain ⟨hH2, hw2⟩ := hH9.ev hG9 hP1 hk hS1 (le_file hV (by omega) hp)
  refine lv_istore (lv' := [(13, .int r), (12, .int (nI (ons (X 0)))), (10, .long (hst (X 0) nv)), (9, .int so), (8, .int vv), (7, .int pv), (6, .int g), (5, .int (nI j)), (4, .int (nI nv)), (3, .ref aS), (2, .ref aP), (1, .ref (ad 2 20 0)), (0, .ref b)]) hx hb dL_law_306 hl (by decide) rfl (fun ls hl => ?_)
  refine lv_goto (tgt := 594) hx hb dL_law_308 (by decide) ?_
  exact W.widen (by omega) (by omega) (k594 X2 f1 f2 H1 locs1 ls r hH2 hw2 (lv_sub hl [0, 2, 7, 8, 9, 10, 11, 12] rfl))
set_option maxHeartbeats 4000000 in
set_option maxRecDepth 100000 in
theorem y_sign (hG : yG p l s m meth c b L xs D dA ad on aP aS) (hnv : 0 < nv ∧ nv ≤ 40) {j : Nat} (hj : j < 70) {X : NWd} {f1 f2 : Nat → Int32} {g pv vv so : Int32} (k594 : ∀ (X2 : NWd) (f1 f2 : Nat → Int32) (H : Heap) (locs : List Loc) (ls : Array Slot) (r : Int32), yH s D dA ad on aP aS X2 nv (50 + j + 1) f1 f2 H locs → (r < 0 → hst (X2 0) nv = hst (X 0) nv) → lv_has ls 14 [(13, .int r), (10, .long (hst (X 0) nv)), (5, .int (nI j)), (4, .int (nI nv)), (3, .ref aS), (2, .ref aP), (1, .ref (ad 2 20 0)), (0, .ref b)] → W p l e9 room_1 s m #[Value.ref b] below meth c H locs (1000 + 7500 * j + 3150) (9000 + 45000 * j + 18900) Q (F0 m 594 ls [])) : ∀ (H : Heap) (locs : List Loc) (ls : Array Slot), yH s D dA ad on aP aS X nv (50 + j) f1 f2 H locs → lv_has ls 14 [(13, .int 0), (12, .int (nI (ons (X 0)))), (10, .long (hst (X 0) nv)), (9, .int so), (8, .int vv), (7, .int pv), (6, .int g), (5, .int (nI j)), (4, .int (nI nv)), (3, .ref aS), (2, .ref aP), (1, .ref (ad 2 20 0)), (0, .ref b)] → W p l e9 room_1 s m #[Value.ref b] below meth c H locs (1000 + 7500 * j + 3140) (9000 + 45000 * j + 18840) Q (F0 m 318 ls []) := by
  have hG9 := hG
  obtain ⟨hc, hfl, hI, hon0, hon1, hon2, hA, ⟨hX9, hbl⟩, hL9, ⟨hp1, hp2⟩, ⟨hs1, hs2⟩, hps⟩ := hG
  have hx := hc.1
  have hb := hc.2.1
  intro H locs ls hH hl
  have hH9 := hH
  obtain ⟨hP, hS, hV, ha1, ha2, hag⟩ := hH
  obtain ⟨hok, hd, h01⟩ := hV.ok
  have h12 := hok.np12
  have h150 := hok.ns150
  have enp := hok.np
  have ens := hok.ns
  refine lv_aload_n hx hb dL_law_318 rfl (lv_at hl 11 rfl) ?_
  refine lv_bipush (v := 6) hx hb dL_law_319 (by decide) ?_
  refine lv_iload hx hb dL_law_321 (lv_at hl 5 rfl) ?_
  refine lv_iload hx hb dL_law_323 (lv_at hl 4 rfl) ?_
  refine b_L (lk_sign (X := X) hfl hI hon0 hon1 hon2 hok hd) hc hA (npic_eta hP) hS hl.1 gL_call nok_L_call rfl ⟨(Nat.le_of_ble_eq_true rfl), (Nat.le_of_ble_eq_true rfl)⟩ ⟨by show _ ≤ 745879; omega, by show _ ≤ 6858280; omega⟩ dL_law_325 rfl (Nat.le_of_ble_eq_true rfl) ?_
  intro r X2 H1 locs1 hp hP1 hk hS1
  obtain hs := le_sign hV (by omega) hp
  refine lv_istore (lv' := [(13, .int r), (12, .int (nI (ons (X 0)))), (10, .long (hst (X 0) nv)), (9, .int so), (8, .int vv), (7, .int pv), (6, .int g), (5, .int (nI j)), (4, .int (nI nv)), (3, .ref aS), (2, .ref aP), (1, .ref (ad 2 20 0)), (0, .ref b)]) hx hb dL_law_328 hl (by decide) rfl (fun ls hl => ?_)
  refine lv_iload hx hb dL_law_330 (lv_at hl 0 rfl) ?_
  rcases hs with ⟨hr, hX2⟩ | ⟨hr, hV2, h7, h150b, h13, h14, hrest⟩
  · refine lv_if_lt (tgt := 594) hx hb dL_law_332 (by decide) (fun _ => ?_) (fun z => absurd hr z)
    rw [hX2] at hP1
    exact W.widen (by omega) (by omega) (k594 X f1 f2 H1 locs1 ls r ((hH9.kept hG9 hP1 hk hS1).mono (by omega)) (fun _ => rfl) (lv_sub hl [0, 2, 7, 8, 9, 10, 11, 12] rfl))
  · refine lv_if_lt (tgt := 594) hx hb dL_law_332 (by decide) (fun z => absurd z hr) (fun _ => ?_)
    refine lv_aload_n hx hb dL_law_335 rfl (lv_at hl 10 rfl) ?_
    refine lv_iload hx hb dL_law_336 (lv_at hl 1 rfl) ?_
    refine lv_iload hx hb dL_law_338 (lv_at hl 5 rfl) ?_
    have b1 : lAr D dA aP 150 f1 H1 := ha1.kept hp1 hk
    have b2 : lAr D dA aS 150 f2 H1 := ha2.kept hs1 hk
    refine b_ast hc hS1 b1 hp2 (vp_in_nI h150b (by decide)) dL_law_340 (fun H3 locs3 b3 oq _ hS3 => ?_)
    rw [nix_nI (by omega)] at b3
    replace hP1 := npic_off hP1 hp1 oq
    replace b2 := b2.off hps.symm oq
    refine lv_aload_n hx hb dL_law_341 rfl (lv_at hl 9 rfl) ?_
    refine lv_iload hx hb dL_law_342 (lv_at hl 1 rfl) ?_
    refine lv_iload hx hb dL_law_344 (lv_at hl 4 rfl) ?_
    refine b_ast hc hS3 b2 hs2 (vp_in_nI h150b (by decide)) dL_law_346 (fun H4 locs4 b4 oq _ hS4 => ?_)
    rw [nix_nI (by omega)] at b4
    replace hP1 := npic_off hP1 hs1 oq
    replace b3 := b3.off hps oq
    refine lv_goto (tgt := 594) hx hb dL_law_347 (by decide) ?_
    refine W.widen (by omega) (by omega) (k594 X2 _ _ H4 locs4 ls r ⟨hP1, hS4, hV2, b3, b4, fun k hk9 => ?_⟩ (fun z => absurd z hr) (lv_sub hl [0, 2, 7, 8, 9, 10, 11, 12] rfl))
    by_cases q : k = ons (X 0)
    · subst q
      unfold upd
      rw [if_pos rfl, if_pos rfl, h13, h14]
      exact ⟨rfl, rfl⟩
    · unfold upd
      rw [if_neg q, if_neg q, (hrest k (by omega)).1, (hrest k (by omega)).2]
      exact hag k (by omega)
set_option maxHeartbeats 4000000 in
set_option maxRecDepth 100000 in
theorem y_pay (hG : yG p l s m meth c b L xs D dA ad on aP aS) (hnv : 0 < nv ∧ nv ≤ 40) {j : Nat} (hj : j < 70) {X : NWd} {f1 f2 : Nat → Int32} {g pv vv so : Int32} (k594 : ∀ (X2 : NWd) (f1 f2 : Nat → Int32) (H : Heap) (locs : List Loc) (ls : Array Slot) (r : Int32), yH s D dA ad on aP aS X2 nv (50 + j + 1) f1 f2 H locs → (r < 0 → hst (X2 0) nv = hst (X 0) nv) → lv_has ls 14 [(13, .int r), (10, .long (hst (X 0) nv)), (5, .int (nI j)), (4, .int (nI nv)), (3, .ref aS), (2, .ref aP), (1, .ref (ad 2 20 0)), (0, .ref b)] → W p l e9 room_1 s m #[Value.ref b] below meth c H locs (1000 + 7500 * j + 3150) (9000 + 45000 * j + 18900) Q (F0 m 594 ls [])) : ∀ (H : Heap) (locs : List Loc) (ls : Array Slot), yH s D dA ad on aP aS X nv (50 + j) f1 f2 H locs → lv_has ls 14 [(13, .int 0), (12, .int (nI (ons (X 0)))), (10, .long (hst (X 0) nv)), (9, .int so), (8, .int vv), (7, .int pv), (6, .int g), (5, .int (nI j)), (4, .int (nI nv)), (3, .ref aS), (2, .ref aP), (1, .ref (ad 2 20 0)), (0, .ref b)] → W p l e9 room_1 s m #[Value.ref b] below meth c H locs (1000 + 7500 * j + 3140) (9000 + 45000 * j + 18840) Q (F0 m 357 ls []) := by
  have hG9 := hG
  obtain ⟨hc, hfl, hI, hon0, hon1, hon2, hA, ⟨hX9, hbl⟩, hL9, ⟨hp1, hp2⟩, ⟨hs1, hs2⟩, hps⟩ := hG
  have hx := hc.1
  have hb := hc.2.1
  intro H locs ls hH hl
  have hH9 := hH
  obtain ⟨hP, hS, hV, ha1, ha2, hag⟩ := hH
  obtain ⟨hok, hd, h01⟩ := hV.ok
  have h12 := hok.np12
  have h150 := hok.ns150
  have enp := hok.np
  have ens := hok.ns
  refine lv_aload_n hx hb dL_law_357 rfl (lv_at hl 11 rfl) ?_
  refine lv_bipush (v := 7) hx hb dL_law_358 (by decide) ?_
  refine lv_iload hx hb dL_law_360 (lv_at hl 5 rfl) ?_
  refine lv_iconst (v := 1) hx hb dL_law_362 (by decide) ?_
  refine lv_iload hx hb dL_law_363 (lv_at hl 6 rfl) ?_
  refine lv_bipush (v := 13) hx hb dL_law_365 (by decide) ?_
  refine lv_ishr hx hb dL_law_367 ?_
  refine lv_bipush (v := 40) hx hb dL_law_368 (by decide) ?_
  refine b_S (c_low (X := X) hI (N := 40) (by decide) (by decide)) hc hA hP hS hl.1 gL_low ⟨rfl, rfl⟩ nok_L_low rfl ⟨(Nat.le_of_ble_eq_true rfl), (Nat.le_of_ble_eq_true rfl)⟩ ⟨by show _ ≤ 745879; omega, by show _ ≤ 6858280; omega⟩ dL_law_370 rfl (Nat.le_of_ble_eq_true rfl) ?_
  intro r8 X8 H locs hp hP hk hS
  obtain ⟨⟨a_r8, b_r8, c_r8⟩, e8⟩ := hp
  rw [e8] at hP
  replace hH9 := hH9.kept hG9 hP hk hS
  refine lv_iadd hx hb dL_law_373 ?_
  refine b_L (lk_pay (X := X) hfl hI hon0 hon1 hon2 hok hd) hc hA (npic_eta hP) hS hl.1 gL_call nok_L_call rfl ⟨(Nat.le_of_ble_eq_true rfl), (Nat.le_of_ble_eq_true rfl)⟩ ⟨by show _ ≤ 745879; omega, by show _ ≤ 6858280; omega⟩ dL_law_374 rfl (Nat.le_of_ble_eq_true rfl) ?_
  intro r X2 H1 locs1 hp hP1 hk hS1
  obtain ⟨hH2, hw2⟩ := hH9.ev hG9 hP1 hk hS1 (le_pay hV (by omega) hp)
  refine lv_istore (lv' := [(13, .int r), (12, .int (nI (ons (X 0)))), (10, .long (hst (X 0) nv)), (9, .int so), (8, .int vv), (7, .int pv), (6, .int g), (5, .int (nI j)), (4, .int (nI nv)), (3, .ref aS), (2, .ref aP), (1, .ref (ad 2 20 0)), (0, .ref b)]) hx hb dL_law_377 hl (by decide) rfl (fun ls hl => ?_)
  refine lv_goto (tgt := 594) hx hb dL_law_379 (by decide) ?_
  exact W.widen (by omega) (by omega) (k594 X2 f1 f2 H1 locs1 ls r hH2 hw2 (lv_sub hl [0, 2, 7, 8, 9, 10, 11, 12] rfl))
set_option maxHeartbeats 4000000 in
set_option maxRecDepth 100000 in
theorem y_withdraw (hG : yG p l s m meth c b L xs D dA ad on aP aS) (hnv : 0 < nv ∧ nv ≤ 40) {j : Nat} (hj : j < 70) {X : NWd} {f1 f2 : Nat → Int32} {g pv vv so : Int32} (k594 : ∀ (X2 : NWd) (f1 f2 : Nat → Int32) (H : Heap) (locs : List Loc) (ls : Array Slot) (r : Int32), yH s D dA ad on aP aS X2 nv (50 + j + 1) f1 f2 H locs → (r < 0 → hst (X2 0) nv = hst (X 0) nv) → lv_has ls 14 [(13, .int r), (10, .long (hst (X 0) nv)), (5, .int (nI j)), (4, .int (nI nv)), (3, .ref aS), (2, .ref aP), (1, .ref (ad 2 20 0)), (0, .ref b)] → W p l e9 room_1 s m #[Value.ref b] below meth c H locs (1000 + 7500 * j + 3150) (9000 + 45000 * j + 18900) Q (F0 m 594 ls [])) : ∀ (H : Heap) (locs : List Loc) (ls : Array Slot), yH s D dA ad on aP aS X nv (50 + j) f1 f2 H locs → lv_has ls 14 [(13, .int 0), (12, .int (nI (ons (X 0)))), (10, .long (hst (X 0) nv)), (9, .int so), (8, .int vv), (7, .int pv), (6, .int g), (5, .int (nI j)), (4, .int (nI nv)), (3, .ref aS), (2, .ref aP), (1, .ref (ad 2 20 0)), (0, .ref b)] → W p l e9 room_1 s m #[Value.ref b] below meth c H locs (1000 + 7500 * j + 3140) (9000 + 45000 * j + 18840) Q (F0 m 389 ls []) := by
  have hG9 := hG
  obtain ⟨hc, hfl, hI, hon0, hon1, hon2, hA, ⟨hX9, hbl⟩, hL9, ⟨hp1, hp2⟩, ⟨hs1, hs2⟩, hps⟩ := hG
  have hx := hc.1
  have hb := hc.2.1
  intro H locs ls hH hl
  have hH9 := hH
  obtain ⟨hP, hS, hV, ha1, ha2, hag⟩ := hH
  obtain ⟨hok, hd, h01⟩ := hV.ok
  have h12 := hok.np12
  have h150 := hok.ns150
  have enp := hok.np
  have ens := hok.ns
  refine lv_aload_n hx hb dL_law_389 rfl (lv_at hl 11 rfl) ?_
  refine lv_bipush (v := 8) hx hb dL_law_390 (by decide) ?_
  refine lv_iload hx hb dL_law_392 (lv_at hl 5 rfl) ?_
  refine lv_iconst (v := 0) hx hb dL_law_394 (by decide) ?_
  refine b_L (lk_withdraw (X := X) hfl hI hon0 hon1 hon2 hok hd) hc hA (npic_eta hP) hS hl.1 gL_call nok_L_call rfl ⟨(Nat.le_of_ble_eq_true rfl), (Nat.le_of_ble_eq_true rfl)⟩ ⟨by show _ ≤ 745879; omega, by show _ ≤ 6858280; omega⟩ dL_law_395 rfl (Nat.le_of_ble_eq_true rfl) ?_
  intro r X2 H1 locs1 hp hP1 hk hS1
  obtain ⟨hH2, hw2⟩ := hH9.ev hG9 hP1 hk hS1 (le_withdraw (b9 := 0) hV (by omega) hp)
  refine lv_istore (lv' := [(13, .int r), (12, .int (nI (ons (X 0)))), (10, .long (hst (X 0) nv)), (9, .int so), (8, .int vv), (7, .int pv), (6, .int g), (5, .int (nI j)), (4, .int (nI nv)), (3, .ref aS), (2, .ref aP), (1, .ref (ad 2 20 0)), (0, .ref b)]) hx hb dL_law_398 hl (by decide) rfl (fun ls hl => ?_)
  refine lv_goto (tgt := 594) hx hb dL_law_400 (by decide) ?_
  exact W.widen (by omega) (by omega) (k594 X2 f1 f2 H1 locs1 ls r hH2 hw2 (lv_sub hl [0, 2, 7, 8, 9, 10, 11, 12] rfl))
set_option maxHeartbeats 4000000 in
set_option maxRecDepth 100000 in
theorem y_roll (hG : yG p l s m meth c b L xs D dA ad on aP aS) (hnv : 0 < nv ∧ nv ≤ 40) {j : Nat} (hj : j < 70) {X : NWd} {f1 f2 : Nat → Int32} {g pv vv so : Int32} (k594 : ∀ (X2 : NWd) (f1 f2 : Nat → Int32) (H : Heap) (locs : List Loc) (ls : Array Slot) (r : Int32), yH s D dA ad on aP aS X2 nv (50 + j + 1) f1 f2 H locs → (r < 0 → hst (X2 0) nv = hst (X 0) nv) → lv_has ls 14 [(13, .int r), (10, .long (hst (X 0) nv)), (5, .int (nI j)), (4, .int (nI nv)), (3, .ref aS), (2, .ref aP), (1, .ref (ad 2 20 0)), (0, .ref b)] → W p l e9 room_1 s m #[Value.ref b] below meth c H locs (1000 + 7500 * j + 3150) (9000 + 45000 * j + 18900) Q (F0 m 594 ls [])) : ∀ (H : Heap) (locs : List Loc) (ls : Array Slot), yH s D dA ad on aP aS X nv (50 + j) f1 f2 H locs → lv_has ls 14 [(13, .int 0), (12, .int (nI (ons (X 0)))), (10, .long (hst (X 0) nv)), (9, .int so), (8, .int vv), (7, .int pv), (6, .int g), (5, .int (nI j)), (4, .int (nI nv)), (3, .ref aS), (2, .ref aP), (1, .ref (ad 2 20 0)), (0, .ref b)] → W p l e9 room_1 s m #[Value.ref b] below meth c H locs (1000 + 7500 * j + 3140) (9000 + 45000 * j + 18840) Q (F0 m 410 ls []) := by
  have hG9 := hG
  obtain ⟨hc, hfl, hI, hon0, hon1, hon2, hA, ⟨hX9, hbl⟩, hL9, ⟨hp1, hp2⟩, ⟨hs1, hs2⟩, hps⟩ := hG
  have hx := hc.1
  have hb := hc.2.1
  intro H locs ls hH hl
  have hH9 := hH
  obtain ⟨hP, hS, hV, ha1, ha2, hag⟩ := hH
  obtain ⟨hok, hd, h01⟩ := hV.ok
  have h12 := hok.np12
  have h150 := hok.ns150
  have enp := hok.np
  have ens := hok.ns
  refine lv_aload_n hx hb dL_law_410 rfl (lv_at hl 11 rfl) ?_
  refine lv_bipush (v := 22) hx hb dL_law_411 (by decide) ?_
  refine lv_iload hx hb dL_law_413 (lv_at hl 3 rfl) ?_
  refine lv_isub hx hb dL_law_415 ?_
  refine lv_if_ne (tgt := 423) hx hb dL_law_416 (by decide) (fun _ => ?_) (fun _ => ?_)
  · refine lv_iconst (v := 5) hx hb dL_law_423 (by decide) ?_
    refine lv_iload hx hb dL_law_424 (lv_at hl 4 rfl) ?_
    refine lv_iconst (v := 0) hx hb dL_law_426 (by decide) ?_
    refine b_L (lk_restore (X := X) hfl hI hon0 hon1 hon2 hok hd) hc hA (npic_eta hP) hS hl.1 gL_call nok_L_call rfl ⟨(Nat.le_of_ble_eq_true rfl), (Nat.le_of_ble_eq_true rfl)⟩ ⟨by show _ ≤ 745879; omega, by show _ ≤ 6858280; omega⟩ dL_law_427 rfl (Nat.le_of_ble_eq_true rfl) ?_
    intro r X2 H1 locs1 hp hP1 hk hS1
    obtain ⟨hH2, hw2⟩ := hH9.ev hG9 hP1 hk hS1 (le_restore (b9 := 0) hV (by omega) hp)
    refine lv_istore (lv' := [(13, .int r), (12, .int (nI (ons (X 0)))), (10, .long (hst (X 0) nv)), (9, .int so), (8, .int vv), (7, .int pv), (6, .int g), (5, .int (nI j)), (4, .int (nI nv)), (3, .ref aS), (2, .ref aP), (1, .ref (ad 2 20 0)), (0, .ref b)]) hx hb dL_law_430 hl (by decide) rfl (fun ls hl => ?_)
    refine lv_goto (tgt := 594) hx hb dL_law_432 (by decide) ?_
    exact W.widen (by omega) (by omega) (k594 X2 f1 f2 H1 locs1 ls r hH2 hw2 (lv_sub hl [0, 2, 7, 8, 9, 10, 11, 12] rfl))
  · refine lv_iconst (v := 4) hx hb dL_law_419 (by decide) ?_
    refine lv_goto (tgt := 424) hx hb dL_law_420 (by decide) ?_
    refine lv_iload hx hb dL_law_424 (lv_at hl 4 rfl) ?_
    refine lv_iconst (v := 0) hx hb dL_law_426 (by decide) ?_
    refine b_L (lk_strike (X := X) hfl hI hon0 hon1 hon2 hok hd) hc hA (npic_eta hP) hS hl.1 gL_call nok_L_call rfl ⟨(Nat.le_of_ble_eq_true rfl), (Nat.le_of_ble_eq_true rfl)⟩ ⟨by show _ ≤ 745879; omega, by show _ ≤ 6858280; omega⟩ dL_law_427 rfl (Nat.le_of_ble_eq_true rfl) ?_
    intro r X2 H1 locs1 hp hP1 hk hS1
    obtain ⟨hH2, hw2⟩ := hH9.ev hG9 hP1 hk hS1 (le_strike (b9 := 0) hV (by omega) hp)
    refine lv_istore (lv' := [(13, .int r), (12, .int (nI (ons (X 0)))), (10, .long (hst (X 0) nv)), (9, .int so), (8, .int vv), (7, .int pv), (6, .int g), (5, .int (nI j)), (4, .int (nI nv)), (3, .ref aS), (2, .ref aP), (1, .ref (ad 2 20 0)), (0, .ref b)]) hx hb dL_law_430 hl (by decide) rfl (fun ls hl => ?_)
    refine lv_goto (tgt := 594) hx hb dL_law_432 (by decide) ?_
    exact W.widen (by omega) (by omega) (k594 X2 f1 f2 H1 locs1 ls r hH2 hw2 (lv_sub hl [0, 2, 7, 8, 9, 10, 11, 12] rfl))
set_option maxHeartbeats 4000000 in
set_option maxRecDepth 100000 in
theorem y_move (hG : yG p l s m meth c b L xs D dA ad on aP aS) (hnv : 0 < nv ∧ nv ≤ 40) {j : Nat} (hj : j < 70) {X : NWd} {f1 f2 : Nat → Int32} {g pv vv so : Int32} (k594 : ∀ (X2 : NWd) (f1 f2 : Nat → Int32) (H : Heap) (locs : List Loc) (ls : Array Slot) (r : Int32), yH s D dA ad on aP aS X2 nv (50 + j + 1) f1 f2 H locs → (r < 0 → hst (X2 0) nv = hst (X 0) nv) → lv_has ls 14 [(13, .int r), (10, .long (hst (X 0) nv)), (5, .int (nI j)), (4, .int (nI nv)), (3, .ref aS), (2, .ref aP), (1, .ref (ad 2 20 0)), (0, .ref b)] → W p l e9 room_1 s m #[Value.ref b] below meth c H locs (1000 + 7500 * j + 3150) (9000 + 45000 * j + 18900) Q (F0 m 594 ls [])) : ∀ (H : Heap) (locs : List Loc) (ls : Array Slot), yH s D dA ad on aP aS X nv (50 + j) f1 f2 H locs → lv_has ls 14 [(13, .int 0), (12, .int (nI (ons (X 0)))), (10, .long (hst (X 0) nv)), (9, .int so), (8, .int vv), (7, .int pv), (6, .int g), (5, .int (nI j)), (4, .int (nI nv)), (3, .ref aS), (2, .ref aP), (1, .ref (ad 2 20 0)), (0, .ref b)] → W p l e9 room_1 s m #[Value.ref b] below meth c H locs (1000 + 7500 * j + 3140) (9000 + 45000 * j + 18840) Q (F0 m 442 ls []) := by
  have hG9 := hG
  obtain ⟨hc, hfl, hI, hon0, hon1, hon2, hA, ⟨hX9, hbl⟩, hL9, ⟨hp1, hp2⟩, ⟨hs1, hs2⟩, hps⟩ := hG
  have hx := hc.1
  have hb := hc.2.1
  intro H locs ls hH hl
  have hH9 := hH
  obtain ⟨hP, hS, hV, ha1, ha2, hag⟩ := hH
  obtain ⟨hok, hd, h01⟩ := hV.ok
  have h12 := hok.np12
  have h150 := hok.ns150
  have enp := hok.np
  have ens := hok.ns
  refine lv_aload_n hx hb dL_law_442 rfl (lv_at hl 11 rfl) ?_
  refine lv_iconst (v := 3) hx hb dL_law_443 (by decide) ?_
  refine lv_iload hx hb dL_law_444 (lv_at hl 4 rfl) ?_
  refine lv_iload hx hb dL_law_446 (lv_at hl 6 rfl) ?_
  refine lv_bipush (v := 13) hx hb dL_law_448 (by decide) ?_
  refine lv_ishr hx hb dL_law_450 ?_
  refine lv_iconst (v := 2) hx hb dL_law_451 (by decide) ?_
  refine b_S (c_low (X := X) hI (N := 2) (by decide) (by decide)) hc hA hP hS hl.1 gL_low ⟨rfl, rfl⟩ nok_L_low rfl ⟨(Nat.le_of_ble_eq_true rfl), (Nat.le_of_ble_eq_true rfl)⟩ ⟨by show _ ≤ 745879; omega, by show _ ≤ 6858280; omega⟩ dL_law_452 rfl (Nat.le_of_ble_eq_true rfl) ?_
  intro r8 X8 H locs hp hP hk hS
  obtain ⟨⟨a_r8, b_r8, c_r8⟩, e8⟩ := hp
  rw [e8] at hP
  replace hH9 := hH9.kept hG9 hP hk hS
  refine b_L (lk_move (X := X) hfl hI hon0 hon1 hon2 hok hd) hc hA (npic_eta hP) hS hl.1 gL_call nok_L_call rfl ⟨(Nat.le_of_ble_eq_true rfl), (Nat.le_of_ble_eq_true rfl)⟩ ⟨by show _ ≤ 745879; omega, by show _ ≤ 6858280; omega⟩ dL_law_455 rfl (Nat.le_of_ble_eq_true rfl) ?_
  intro r X2 H1 locs1 hp hP1 hk hS1
  obtain ⟨hH2, hw2⟩ := hH9.ev hG9 hP1 hk hS1 (le_move hV (by omega) hp)
  refine lv_istore (lv' := [(13, .int r), (12, .int (nI (ons (X 0)))), (10, .long (hst (X 0) nv)), (9, .int so), (8, .int vv), (7, .int pv), (6, .int g), (5, .int (nI j)), (4, .int (nI nv)), (3, .ref aS), (2, .ref aP), (1, .ref (ad 2 20 0)), (0, .ref b)]) hx hb dL_law_458 hl (by decide) rfl (fun ls hl => ?_)
  refine lv_goto (tgt := 594) hx hb dL_law_460 (by decide) ?_
  exact W.widen (by omega) (by omega) (k594 X2 f1 f2 H1 locs1 ls r hH2 hw2 (lv_sub hl [0, 2, 7, 8, 9, 10, 11, 12] rfl))
set_option maxHeartbeats 4000000 in
set_option maxRecDepth 100000 in
theorem y_die (hG : yG p l s m meth c b L xs D dA ad on aP aS) (hnv : 0 < nv ∧ nv ≤ 40) {j : Nat} (hj : j < 70) {X : NWd} {f1 f2 : Nat → Int32} {g pv vv so : Int32} (k594 : ∀ (X2 : NWd) (f1 f2 : Nat → Int32) (H : Heap) (locs : List Loc) (ls : Array Slot) (r : Int32), yH s D dA ad on aP aS X2 nv (50 + j + 1) f1 f2 H locs → (r < 0 → hst (X2 0) nv = hst (X 0) nv) → lv_has ls 14 [(13, .int r), (10, .long (hst (X 0) nv)), (5, .int (nI j)), (4, .int (nI nv)), (3, .ref aS), (2, .ref aP), (1, .ref (ad 2 20 0)), (0, .ref b)] → W p l e9 room_1 s m #[Value.ref b] below meth c H locs (1000 + 7500 * j + 3150) (9000 + 45000 * j + 18900) Q (F0 m 594 ls [])) : ∀ (H : Heap) (locs : List Loc) (ls : Array Slot), yH s D dA ad on aP aS X nv (50 + j) f1 f2 H locs → lv_has ls 14 [(13, .int 0), (12, .int (nI (ons (X 0)))), (10, .long (hst (X 0) nv)), (9, .int so), (8, .int vv), (7, .int pv), (6, .int g), (5, .int (nI j)), (4, .int (nI nv)), (3, .ref aS), (2, .ref aP), (1, .ref (ad 2 20 0)), (0, .ref b)] → W p l e9 room_1 s m #[Value.ref b] below meth c H locs (1000 + 7500 * j + 3140) (9000 + 45000 * j + 18840) Q (F0 m 470 ls []) := by
  have hG9 := hG
  obtain ⟨hc, hfl, hI, hon0, hon1, hon2, hA, ⟨hX9, hbl⟩, hL9, ⟨hp1, hp2⟩, ⟨hs1, hs2⟩, hps⟩ := hG
  have hx := hc.1
  have hb := hc.2.1
  intro H locs ls hH hl
  have hH9 := hH
  obtain ⟨hP, hS, hV, ha1, ha2, hag⟩ := hH
  obtain ⟨hok, hd, h01⟩ := hV.ok
  have h12 := hok.np12
  have h150 := hok.ns150
  have enp := hok.np
  have ens := hok.ns
  refine lv_aload_n hx hb dL_law_470 rfl (lv_at hl 11 rfl) ?_
  refine lv_bipush (v := 9) hx hb dL_law_471 (by decide) ?_
  refine lv_iload hx hb dL_law_473 (lv_at hl 5 rfl) ?_
  refine lv_iconst (v := 0) hx hb dL_law_475 (by decide) ?_
  refine b_L (lk_die (X := X) hfl hI hon0 hon1 hon2 hok hd) hc hA (npic_eta hP) hS hl.1 gL_call nok_L_call rfl ⟨(Nat.le_of_ble_eq_true rfl), (Nat.le_of_ble_eq_true rfl)⟩ ⟨by show _ ≤ 745879; omega, by show _ ≤ 6858280; omega⟩ dL_law_476 rfl (Nat.le_of_ble_eq_true rfl) ?_
  intro r X2 H1 locs1 hp hP1 hk hS1
  obtain ⟨hH2, hw2⟩ := hH9.ev hG9 hP1 hk hS1 (le_die (b9 := 0) hV (by omega) hp)
  refine lv_istore (lv' := [(13, .int r), (12, .int (nI (ons (X 0)))), (10, .long (hst (X 0) nv)), (9, .int so), (8, .int vv), (7, .int pv), (6, .int g), (5, .int (nI j)), (4, .int (nI nv)), (3, .ref aS), (2, .ref aP), (1, .ref (ad 2 20 0)), (0, .ref b)]) hx hb dL_law_479 hl (by decide) rfl (fun ls hl => ?_)
  refine lv_goto (tgt := 594) hx hb dL_law_481 (by decide) ?_
  exact W.widen (by omega) (by omega) (k594 X2 f1 f2 H1 locs1 ls r hH2 hw2 (lv_sub hl [0, 2, 7, 8, 9, 10, 11, 12] rfl))
set_option maxHeartbeats 4000000 in
set_option maxRecDepth 100000 in
theorem y_replace (hG : yG p l s m meth c b L xs D dA ad on aP aS) (hnv : 0 < nv ∧ nv ≤ 40) {j : Nat} (hj : j < 70) {X : NWd} {f1 f2 : Nat → Int32} {g pv vv so : Int32} (k594 : ∀ (X2 : NWd) (f1 f2 : Nat → Int32) (H : Heap) (locs : List Loc) (ls : Array Slot) (r : Int32), yH s D dA ad on aP aS X2 nv (50 + j + 1) f1 f2 H locs → (r < 0 → hst (X2 0) nv = hst (X 0) nv) → lv_has ls 14 [(13, .int r), (10, .long (hst (X 0) nv)), (5, .int (nI j)), (4, .int (nI nv)), (3, .ref aS), (2, .ref aP), (1, .ref (ad 2 20 0)), (0, .ref b)] → W p l e9 room_1 s m #[Value.ref b] below meth c H locs (1000 + 7500 * j + 3150) (9000 + 45000 * j + 18900) Q (F0 m 594 ls [])) : ∀ (H : Heap) (locs : List Loc) (ls : Array Slot), yH s D dA ad on aP aS X nv (50 + j) f1 f2 H locs → lv_has ls 14 [(13, .int 0), (12, .int (nI (ons (X 0)))), (10, .long (hst (X 0) nv)), (9, .int so), (8, .int vv), (7, .int pv), (6, .int g), (5, .int (nI j)), (4, .int (nI nv)), (3, .ref aS), (2, .ref aP), (1, .ref (ad 2 20 0)), (0, .ref b)] → W p l e9 room_1 s m #[Value.ref b] below meth c H locs (1000 + 7500 * j + 3140) (9000 + 45000 * j + 18840) Q (F0 m 491 ls []) := by
  have hG9 := hG
  obtain ⟨hc, hfl, hI, hon0, hon1, hon2, hA, ⟨hX9, hbl⟩, hL9, ⟨hp1, hp2⟩, ⟨hs1, hs2⟩, hps⟩ := hG
  have hx := hc.1
  have hb := hc.2.1
  intro H locs ls hH hl
  have hH9 := hH
  obtain ⟨hP, hS, hV, ha1, ha2, hag⟩ := hH
  obtain ⟨hok, hd, h01⟩ := hV.ok
  have h12 := hok.np12
  have h150 := hok.ns150
  have enp := hok.np
  have ens := hok.ns
  refine lv_aload_n hx hb dL_law_491 rfl (lv_at hl 11 rfl) ?_
  refine lv_iconst (v := -1) hx hb dL_law_492 (by decide) ?_
  refine lv_iload hx hb dL_law_493 (lv_at hl 5 rfl) ?_
  refine lv_iload hx hb dL_law_495 (lv_at hl 6 rfl) ?_
  refine lv_bipush (v := 7) hx hb dL_law_497 (by decide) ?_
  refine lv_ishr hx hb dL_law_499 ?_
  refine b_S (c_name (X := X) hI) hc hA hP hS hl.1 gL_name ⟨rfl, rfl⟩ nok_L_name rfl ⟨(Nat.le_of_ble_eq_true rfl), (Nat.le_of_ble_eq_true rfl)⟩ ⟨by show _ ≤ 745879; omega, by show _ ≤ 6858280; omega⟩ dL_law_500 rfl (Nat.le_of_ble_eq_true rfl) ?_
  intro nm9 X8 H locs hp hP hk hS
  have e8 : X8 = X := hp
  rw [e8] at hP
  replace hH9 := hH9.kept hG9 hP hk hS
  refine b_L (lk_replace (X := X) hfl hI hon0 hon1 hon2 hok hd) hc hA (npic_eta hP) hS hl.1 gL_file nok_L_file rfl ⟨(Nat.le_of_ble_eq_true rfl), (Nat.le_of_ble_eq_true rfl)⟩ ⟨by show _ ≤ 745879; omega, by show _ ≤ 6858280; omega⟩ dL_law_503 rfl (Nat.le_of_ble_eq_true rfl) ?_
  intro r X2 H1 locs1 hp hP1 hk hS1
  obtain ⟨n1, n2, n3, n4, hp⟩ := hp
  obtain ⟨hH2, hw2⟩ := hH9.ev hG9 hP1 hk hS1 (le_replace hV (by omega) hp)
  refine lv_istore (lv' := [(13, .int r), (12, .int (nI (ons (X 0)))), (10, .long (hst (X 0) nv)), (9, .int so), (8, .int vv), (7, .int pv), (6, .int g), (5, .int (nI j)), (4, .int (nI nv)), (3, .ref aS), (2, .ref aP), (1, .ref (ad 2 20 0)), (0, .ref b)]) hx hb dL_law_506 hl (by decide) rfl (fun ls hl => ?_)
  refine lv_goto (tgt := 594) hx hb dL_law_508 (by decide) ?_
  exact W.widen (by omega) (by omega) (k594 X2 f1 f2 H1 locs1 ls r hH2 hw2 (lv_sub hl [0, 2, 7, 8, 9, 10, 11, 12] rfl))
set_option maxHeartbeats 4000000 in
set_option maxRecDepth 100000 in
theorem y_pass (hG : yG p l s m meth c b L xs D dA ad on aP aS) (hnv : 0 < nv ∧ nv ≤ 40) {j : Nat} (hj : j < 70) {X : NWd} {f1 f2 : Nat → Int32} {g pv vv so : Int32} (k594 : ∀ (X2 : NWd) (f1 f2 : Nat → Int32) (H : Heap) (locs : List Loc) (ls : Array Slot) (r : Int32), yH s D dA ad on aP aS X2 nv (50 + j + 1) f1 f2 H locs → (r < 0 → hst (X2 0) nv = hst (X 0) nv) → lv_has ls 14 [(13, .int r), (10, .long (hst (X 0) nv)), (5, .int (nI j)), (4, .int (nI nv)), (3, .ref aS), (2, .ref aP), (1, .ref (ad 2 20 0)), (0, .ref b)] → W p l e9 room_1 s m #[Value.ref b] below meth c H locs (1000 + 7500 * j + 3150) (9000 + 45000 * j + 18900) Q (F0 m 594 ls [])) : ∀ (H : Heap) (locs : List Loc) (ls : Array Slot), yH s D dA ad on aP aS X nv (50 + j) f1 f2 H locs → lv_has ls 14 [(13, .int 0), (12, .int (nI (ons (X 0)))), (10, .long (hst (X 0) nv)), (9, .int so), (8, .int vv), (7, .int pv), (6, .int g), (5, .int (nI j)), (4, .int (nI nv)), (3, .ref aS), (2, .ref aP), (1, .ref (ad 2 20 0)), (0, .ref b)] → W p l e9 room_1 s m #[Value.ref b] below meth c H locs (1000 + 7500 * j + 3140) (9000 + 45000 * j + 18840) Q (F0 m 518 ls []) := by
  have hG9 := hG
  obtain ⟨hc, hfl, hI, hon0, hon1, hon2, hA, ⟨hX9, hbl⟩, hL9, ⟨hp1, hp2⟩, ⟨hs1, hs2⟩, hps⟩ := hG
  have hx := hc.1
  have hb := hc.2.1
  intro H locs ls hH hl
  have hH9 := hH
  obtain ⟨hP, hS, hV, ha1, ha2, hag⟩ := hH
  obtain ⟨hok, hd, h01⟩ := hV.ok
  have h12 := hok.np12
  have h150 := hok.ns150
  have enp := hok.np
  have ens := hok.ns
  refine lv_aload_n hx hb dL_law_518 rfl (lv_at hl 11 rfl) ?_
  refine lv_iconst (v := 0) hx hb dL_law_519 (by decide) ?_
  refine lv_iconst (v := 1) hx hb dL_law_520 (by decide) ?_
  refine lv_iload hx hb dL_law_521 (lv_at hl 6 rfl) ?_
  refine lv_bipush (v := 13) hx hb dL_law_523 (by decide) ?_
  refine lv_ishr hx hb dL_law_525 ?_
  refine lv_iconst (v := 5) hx hb dL_law_526 (by decide) ?_
  refine b_S (c_low (X := X) hI (N := 5) (by decide) (by decide)) hc hA hP hS hl.1 gL_low ⟨rfl, rfl⟩ nok_L_low rfl ⟨(Nat.le_of_ble_eq_true rfl), (Nat.le_of_ble_eq_true rfl)⟩ ⟨by show _ ≤ 745879; omega, by show _ ≤ 6858280; omega⟩ dL_law_527 rfl (Nat.le_of_ble_eq_true rfl) ?_
  intro r8 X8 H locs hp hP hk hS
  obtain ⟨⟨a_r8, b_r8, c_r8⟩, e8⟩ := hp
  rw [e8] at hP
  replace hH9 := hH9.kept hG9 hP hk hS
  refine lv_iadd hx hb dL_law_530 ?_
  refine lv_iconst (v := 0) hx hb dL_law_531 (by decide) ?_
  refine b_L (lk_pass (X := X) hfl hI hon0 hon1 hon2 hok hd) hc hA (npic_eta hP) hS hl.1 gL_call nok_L_call rfl ⟨(Nat.le_of_ble_eq_true rfl), (Nat.le_of_ble_eq_true rfl)⟩ ⟨by show _ ≤ 745879; omega, by show _ ≤ 6858280; omega⟩ dL_law_532 rfl (Nat.le_of_ble_eq_true rfl) ?_
  intro r X2 H1 locs1 hp hP1 hk hS1
  obtain ⟨hH2, hw2⟩ := hH9.ev hG9 hP1 hk hS1 (le_pass (b9 := 0) hV (by omega) hp)
  refine lv_istore (lv' := [(13, .int r), (12, .int (nI (ons (X 0)))), (10, .long (hst (X 0) nv)), (9, .int so), (8, .int vv), (7, .int pv), (6, .int g), (5, .int (nI j)), (4, .int (nI nv)), (3, .ref aS), (2, .ref aP), (1, .ref (ad 2 20 0)), (0, .ref b)]) hx hb dL_law_535 hl (by decide) rfl (fun ls hl => ?_)
  refine lv_goto (tgt := 594) hx hb dL_law_537 (by decide) ?_
  exact W.widen (by omega) (by omega) (k594 X2 f1 f2 H1 locs1 ls r hH2 hw2 (lv_sub hl [0, 2, 7, 8, 9, 10, 11, 12] rfl))
set_option maxHeartbeats 4000000 in
set_option maxRecDepth 100000 in
theorem y_votes (hG : yG p l s m meth c b L xs D dA ad on aP aS) (hnv : 0 < nv ∧ nv ≤ 40) {j : Nat} (hj : j < 70) {X : NWd} {f1 f2 : Nat → Int32} {g pv vv so : Int32} (k594 : ∀ (X2 : NWd) (f1 f2 : Nat → Int32) (H : Heap) (locs : List Loc) (ls : Array Slot) (r : Int32), yH s D dA ad on aP aS X2 nv (50 + j + 1) f1 f2 H locs → (r < 0 → hst (X2 0) nv = hst (X 0) nv) → lv_has ls 14 [(13, .int r), (10, .long (hst (X 0) nv)), (5, .int (nI j)), (4, .int (nI nv)), (3, .ref aS), (2, .ref aP), (1, .ref (ad 2 20 0)), (0, .ref b)] → W p l e9 room_1 s m #[Value.ref b] below meth c H locs (1000 + 7500 * j + 3150) (9000 + 45000 * j + 18900) Q (F0 m 594 ls [])) : ∀ (H : Heap) (locs : List Loc) (ls : Array Slot), yH s D dA ad on aP aS X nv (50 + j) f1 f2 H locs → lv_has ls 14 [(13, .int 0), (12, .int (nI (ons (X 0)))), (10, .long (hst (X 0) nv)), (9, .int so), (8, .int vv), (7, .int pv), (6, .int g), (5, .int (nI j)), (4, .int (nI nv)), (3, .ref aS), (2, .ref aP), (1, .ref (ad 2 20 0)), (0, .ref b)] → W p l e9 room_1 s m #[Value.ref b] below meth c H locs (1000 + 7500 * j + 3140) (9000 + 45000 * j + 18840) Q (F0 m 540 ls []) := by
  have hG9 := hG
  obtain ⟨hc, hfl, hI, hon0, hon1, hon2, hA, ⟨hX9, hbl⟩, hL9, ⟨hp1, hp2⟩, ⟨hs1, hs2⟩, hps⟩ := hG
  have hx := hc.1
  have hb := hc.2.1
  intro H locs ls hH hl
  have hH9 := hH
  obtain ⟨hP, hS, hV, ha1, ha2, hag⟩ := hH
  obtain ⟨hok, hd, h01⟩ := hV.ok
  have h12 := hok.np12
  have h150 := hok.ns150
  have enp := hok.np
  have ens := hok.ns
  refine lv_aload_n hx hb dL_law_540 rfl (lv_at hl 11 rfl) ?_
  refine lv_iload hx hb dL_law_541 (lv_at hl 3 rfl) ?_
  refine lv_bipush (v := 30) hx hb dL_law_543 (by decide) ?_
  refine lv_icmp_ne (tgt := 553) hx hb dL_law_545 (by decide) (fun hs => ?_) (fun hs => ?_)
  · refine lv_bipush (v := 24) hx hb dL_law_553 (by decide) ?_
    refine lv_iload hx hb dL_law_555 (lv_at hl 3 rfl) ?_
    refine lv_bipush (v := 30) hx hb dL_law_557 (by decide) ?_
    refine lv_icmp_ne (tgt := 567) hx hb dL_law_559 (by decide) (fun _ => ?_) (fun z => absurd z hs)
    refine lv_iload hx hb dL_law_567 (lv_at hl 6 rfl) ?_
    refine lv_bipush (v := 13) hx hb dL_law_569 (by decide) ?_
    refine lv_ishr hx hb dL_law_571 ?_
    refine lv_iconst (v := 2) hx hb dL_law_572 (by decide) ?_
    refine b_S (c_low (X := X) hI (N := 2) (by decide) (by decide)) hc hA hP hS hl.1 gL_low ⟨rfl, rfl⟩ nok_L_low rfl ⟨(Nat.le_of_ble_eq_true rfl), (Nat.le_of_ble_eq_true rfl)⟩ ⟨by show _ ≤ 745879; omega, by show _ ≤ 6858280; omega⟩ dL_law_573 rfl (Nat.le_of_ble_eq_true rfl) ?_
    intro ra X8 H locs hp hP hk hS
    obtain ⟨⟨a_ra, b_ra, c_ra⟩, e8⟩ := hp
    rw [e8] at hP
    replace hH9 := hH9.kept hG9 hP hk hS
    refine lv_iconst (v := 1) hx hb dL_law_576 (by decide) ?_
    refine lv_iload hx hb dL_law_577 (lv_at hl 6 rfl) ?_
    refine lv_bipush (v := 13) hx hb dL_law_579 (by decide) ?_
    refine lv_ishr hx hb dL_law_581 ?_
    refine lv_sipush (v := 500) hx hb dL_law_582 (by decide) ?_
    refine b_S (c_low (X := X) hI (N := 500) (by decide) (by decide)) hc hA hP hS hl.1 gL_low ⟨rfl, rfl⟩ nok_L_low rfl ⟨(Nat.le_of_ble_eq_true rfl), (Nat.le_of_ble_eq_true rfl)⟩ ⟨by show _ ≤ 745879; omega, by show _ ≤ 6858280; omega⟩ dL_law_585 rfl (Nat.le_of_ble_eq_true rfl) ?_
    intro rb X8 H locs hp hP hk hS
    obtain ⟨⟨a_rb, b_rb, c_rb⟩, e8⟩ := hp
    rw [e8] at hP
    replace hH9 := hH9.kept hG9 hP hk hS
    refine lv_iadd hx hb dL_law_588 ?_
    refine b_L (lk_finish (X := X) hfl hI hon0 hon1 hon2 hok hd) hc hA (npic_eta hP) hS hl.1 gL_call nok_L_call rfl ⟨(Nat.le_of_ble_eq_true rfl), (Nat.le_of_ble_eq_true rfl)⟩ ⟨by show _ ≤ 745879; omega, by show _ ≤ 6858280; omega⟩ dL_law_589 rfl (Nat.le_of_ble_eq_true rfl) ?_
    intro r X2 H1 locs1 hp hP1 hk hS1
    obtain ⟨hH2, hw2⟩ := hH9.ev hG9 hP1 hk hS1 (le_finish (b9 := 0) hV (by omega) hp)
    refine lv_istore (lv' := [(13, .int r), (12, .int (nI (ons (X 0)))), (10, .long (hst (X 0) nv)), (9, .int so), (8, .int vv), (7, .int pv), (6, .int g), (5, .int (nI j)), (4, .int (nI nv)), (3, .ref aS), (2, .ref aP), (1, .ref (ad 2 20 0)), (0, .ref b)]) hx hb dL_law_592 hl (by decide) rfl (fun ls hl => ?_)
    exact W.widen (by omega) (by omega) (k594 X2 f1 f2 H1 locs1 ls r hH2 hw2 (lv_sub hl [0, 2, 7, 8, 9, 10, 11, 12] rfl))
  · refine lv_bipush (v := 23) hx hb dL_law_548 (by decide) ?_
    refine lv_goto (tgt := 555) hx hb dL_law_550 (by decide) ?_
    refine lv_iload hx hb dL_law_555 (lv_at hl 3 rfl) ?_
    refine lv_bipush (v := 30) hx hb dL_law_557 (by decide) ?_
    refine lv_icmp_ne (tgt := 567) hx hb dL_law_559 (by decide) (fun z => absurd hs z) (fun _ => ?_)
    refine lv_iload hx hb dL_law_562 (lv_at hl 5 rfl) ?_
    refine lv_goto (tgt := 576) hx hb dL_law_564 (by decide) ?_
    refine lv_iconst (v := 1) hx hb dL_law_576 (by decide) ?_
    refine lv_iload hx hb dL_law_577 (lv_at hl 6 rfl) ?_
    refine lv_bipush (v := 13) hx hb dL_law_579 (by decide) ?_
    refine lv_ishr hx hb dL_law_581 ?_
    refine lv_sipush (v := 500) hx hb dL_law_582 (by decide) ?_
    refine b_S (c_low (X := X) hI (N := 500) (by decide) (by decide)) hc hA hP hS hl.1 gL_low ⟨rfl, rfl⟩ nok_L_low rfl ⟨(Nat.le_of_ble_eq_true rfl), (Nat.le_of_ble_eq_true rfl)⟩ ⟨by show _ ≤ 745879; omega, by show _ ≤ 6858280; omega⟩ dL_law_585 rfl (Nat.le_of_ble_eq_true rfl) ?_
    intro rb X8 H locs hp hP hk hS
    obtain ⟨⟨a_rb, b_rb, c_rb⟩, e8⟩ := hp
    rw [e8] at hP
    replace hH9 := hH9.kept hG9 hP hk hS
    refine lv_iadd hx hb dL_law_588 ?_
    refine b_L (lk_addVotes (X := X) hfl hI hon0 hon1 hon2 hok hd) hc hA (npic_eta hP) hS hl.1 gL_call nok_L_call rfl ⟨(Nat.le_of_ble_eq_true rfl), (Nat.le_of_ble_eq_true rfl)⟩ ⟨by show _ ≤ 745879; omega, by show _ ≤ 6858280; omega⟩ dL_law_589 rfl (Nat.le_of_ble_eq_true rfl) ?_
    intro r X2 H1 locs1 hp hP1 hk hS1
    obtain ⟨hH2, hw2⟩ := hH9.ev hG9 hP1 hk hS1 (le_addVotes hV (by omega) hp)
    refine lv_istore (lv' := [(13, .int r), (12, .int (nI (ons (X 0)))), (10, .long (hst (X 0) nv)), (9, .int so), (8, .int vv), (7, .int pv), (6, .int g), (5, .int (nI j)), (4, .int (nI nv)), (3, .ref aS), (2, .ref aP), (1, .ref (ad 2 20 0)), (0, .ref b)]) hx hb dL_law_592 hl (by decide) rfl (fun ls hl => ?_)
    exact W.widen (by omega) (by omega) (k594 X2 f1 f2 H1 locs1 ls r hH2 hw2 (lv_sub hl [0, 2, 7, 8, 9, 10, 11, 12] rfl))
set_option maxHeartbeats 4000000 in
set_option maxRecDepth 100000 in
theorem y_268 (hG : yG p l s m meth c b L xs D dA ad on aP aS) (hnv : 0 < nv ∧ nv ≤ 40) {j : Nat} (hj : j < 70) {X : NWd} {f1 f2 : Nat → Int32} {g pv vv so : Int32} (k594 : ∀ (X2 : NWd) (f1 f2 : Nat → Int32) (H : Heap) (locs : List Loc) (ls : Array Slot) (r : Int32), yH s D dA ad on aP aS X2 nv (50 + j + 1) f1 f2 H locs → (r < 0 → hst (X2 0) nv = hst (X 0) nv) → lv_has ls 14 [(13, .int r), (10, .long (hst (X 0) nv)), (5, .int (nI j)), (4, .int (nI nv)), (3, .ref aS), (2, .ref aP), (1, .ref (ad 2 20 0)), (0, .ref b)] → W p l e9 room_1 s m #[Value.ref b] below meth c H locs (1000 + 7500 * j + 3150) (9000 + 45000 * j + 18900) Q (F0 m 594 ls [])) : ∀ (H : Heap) (locs : List Loc) (ls : Array Slot), yH s D dA ad on aP aS X nv (50 + j) f1 f2 H locs → lv_has ls 14 [(13, .int 0), (12, .int (nI (ons (X 0)))), (10, .long (hst (X 0) nv)), (9, .int so), (8, .int vv), (7, .int pv), (6, .int g), (5, .int (nI j)), (4, .int (nI nv)), (3, .ref aS), (2, .ref aP), (1, .ref (ad 2 20 0)), (0, .ref b)] → W p l e9 room_1 s m #[Value.ref b] below meth c H locs (1000 + 7500 * j + 3140) (9000 + 45000 * j + 18840) Q (F0 m 268 ls []) := by
  have hG9 := hG
  obtain ⟨hc, hfl, hI, hon0, hon1, hon2, hA, ⟨hX9, hbl⟩, hL9, ⟨hp1, hp2⟩, ⟨hs1, hs2⟩, hps⟩ := hG
  have hx := hc.1
  have hb := hc.2.1
  intro H locs ls hH hl
  have hH9 := hH
  obtain ⟨hP, hS, hV, ha1, ha2, hag⟩ := hH
  obtain ⟨hok, hd, h01⟩ := hV.ok
  have h12 := hok.np12
  have h150 := hok.ns150
  have enp := hok.np
  have ens := hok.ns
  refine lv_iload hx hb dL_law_268 (lv_at hl 3 rfl) ?_
  refine lv_iconst (v := 3) hx hb dL_law_270 (by decide) ?_
  refine lv_icmp_ge (tgt := 311) hx hb dL_law_271 (by decide) (fun _ => ?_) (fun _ => y_file hG9 hnv hj k594 H locs ls hH9 hl)
  refine lv_iload hx hb dL_law_311 (lv_at hl 3 rfl) ?_
  refine lv_bipush (v := 16) hx hb dL_law_313 (by decide) ?_
  refine lv_icmp_ge (tgt := 350) hx hb dL_law_315 (by decide) (fun _ => ?_) (fun _ => y_sign hG9 hnv hj k594 H locs ls hH9 hl)
  refine lv_iload hx hb dL_law_350 (lv_at hl 3 rfl) ?_
  refine lv_bipush (v := 20) hx hb dL_law_352 (by decide) ?_
  refine lv_icmp_ge (tgt := 382) hx hb dL_law_354 (by decide) (fun _ => ?_) (fun _ => y_pay hG9 hnv hj k594 H locs ls hH9 hl)
  refine lv_iload hx hb dL_law_382 (lv_at hl 3 rfl) ?_
  refine lv_bipush (v := 22) hx hb dL_law_384 (by decide) ?_
  refine lv_icmp_ge (tgt := 403) hx hb dL_law_386 (by decide) (fun _ => ?_) (fun _ => y_withdraw hG9 hnv hj k594 H locs ls hH9 hl)
  refine lv_iload hx hb dL_law_403 (lv_at hl 3 rfl) ?_
  refine lv_bipush (v := 24) hx hb dL_law_405 (by decide) ?_
  refine lv_icmp_ge (tgt := 435) hx hb dL_law_407 (by decide) (fun _ => ?_) (fun _ => y_roll hG9 hnv hj k594 H locs ls hH9 hl)
  refine lv_iload hx hb dL_law_435 (lv_at hl 3 rfl) ?_
  refine lv_bipush (v := 24) hx hb dL_law_437 (by decide) ?_
  refine lv_icmp_ne (tgt := 463) hx hb dL_law_439 (by decide) (fun _ => ?_) (fun _ => y_move hG9 hnv hj k594 H locs ls hH9 hl)
  refine lv_iload hx hb dL_law_463 (lv_at hl 3 rfl) ?_
  refine lv_bipush (v := 27) hx hb dL_law_465 (by decide) ?_
  refine lv_icmp_ge (tgt := 484) hx hb dL_law_467 (by decide) (fun _ => ?_) (fun _ => y_die hG9 hnv hj k594 H locs ls hH9 hl)
  refine lv_iload hx hb dL_law_484 (lv_at hl 3 rfl) ?_
  refine lv_bipush (v := 29) hx hb dL_law_486 (by decide) ?_
  refine lv_icmp_ge (tgt := 511) hx hb dL_law_488 (by decide) (fun _ => ?_) (fun _ => y_replace hG9 hnv hj k594 H locs ls hH9 hl)
  refine lv_iload hx hb dL_law_511 (lv_at hl 3 rfl) ?_
  refine lv_bipush (v := 29) hx hb dL_law_513 (by decide) ?_
  refine lv_icmp_ne (tgt := 540) hx hb dL_law_515 (by decide) (fun _ => ?_) (fun _ => y_pass hG9 hnv hj k594 H locs ls hH9 hl)
  exact y_votes hG9 hnv hj k594 H locs ls hH9 hl
set_option maxHeartbeats 4000000 in
set_option maxRecDepth 100000 in
theorem y_249 (hG : yG p l s m meth c b L xs D dA ad on aP aS) (hnv : 0 < nv ∧ nv ≤ 40) {j : Nat} (hj : j < 70) (ih : ∀ (X : NWd) (f1 f2 : Nat → Int32) (H : Heap) (locs : List Loc) (ls : Array Slot), yH s D dA ad on aP aS X nv (50 + (j + 1)) f1 f2 H locs → lv_has ls 14 [(5, .int (nI (j + 1))), (4, .int (nI nv)), (3, .ref aS), (2, .ref aP), (1, .ref (ad 2 20 0)), (0, .ref b)] → W p l e9 room_1 s m #[Value.ref b] below meth c H locs (1000 + 7500 * (j + 1)) (9000 + 45000 * (j + 1)) Q (F0 m 172 ls [])) : ∀ (X : NWd) (f1 f2 : Nat → Int32) (g pv vv so : Int32) (H : Heap) (locs : List Loc) (ls : Array Slot), yH s D dA ad on aP aS X nv (50 + j) f1 f2 H locs → lv_has ls 14 [(8, .int vv), (7, .int pv), (6, .int g), (5, .int (nI j)), (4, .int (nI nv)), (3, .ref aS), (2, .ref aP), (1, .ref (ad 2 20 0)), (0, .ref b)] → W p l e9 room_1 s m #[Value.ref b] below meth c H locs (1000 + 7500 * j + 24) (9000 + 45000 * j + 144) Q (F0 m 249 ls [.int so]) := by
  have hG9 := hG
  obtain ⟨hc, hfl, hI, hon0, hon1, hon2, hA, ⟨hX9, hbl⟩, hL9, ⟨hp1, hp2⟩, ⟨hs1, hs2⟩, hps⟩ := hG
  have hx := hc.1
  have hb := hc.2.1
  intro X f1 f2 g pv vv so H locs ls hH hl
  have hH9 := hH
  obtain ⟨hP, hS, hV, ha1, ha2, hag⟩ := hH
  obtain ⟨hok, hd, h01⟩ := hV.ok
  have h12 := hok.np12
  have h150 := hok.ns150
  have enp := hok.np
  have ens := hok.ns
  refine lv_istore (lv' := [(9, .int so), (8, .int vv), (7, .int pv), (6, .int g), (5, .int (nI j)), (4, .int (nI nv)), (3, .ref aS), (2, .ref aP), (1, .ref (ad 2 20 0)), (0, .ref b)]) hx hb dL_law_249 hl (by decide) rfl (fun ls hl => ?_)
  refine lv_aload_n hx hb dL_law_251 rfl (lv_at hl 8 rfl) ?_
  refine lv_iload hx hb dL_law_252 (lv_at hl 5 rfl) ?_
  refine b_state hG9 hV hnv.2 hP hS hl.1 ⟨(Nat.le_of_ble_eq_true rfl), (Nat.le_of_ble_eq_true rfl)⟩ ⟨by show _ ≤ 745879; omega, by show _ ≤ 6858280; omega⟩ dL_law_254 rfl (Nat.le_of_ble_eq_true rfl) ?_
  intro H locs hP hk hS
  replace hH9 := hH9.kept hG9 hP hk hS
  refine lv_lstore (lv' := [(10, .long (hst (X 0) nv)), (9, .int so), (8, .int vv), (7, .int pv), (6, .int g), (5, .int (nI j)), (4, .int (nI nv)), (3, .ref aS), (2, .ref aP), (1, .ref (ad 2 20 0)), (0, .ref b)]) hx hb dL_law_257 hl (by decide) rfl (fun ls hl => ?_)
  refine lv_aload_n hx hb dL_law_259 rfl (lv_at hl 9 rfl) ?_
  refine bx (As := []) (c_X9_signatures (X := X) (S := X 0) hfl hI hon0 hon1 hon2 hok hd) hc hA hP hS hl.1 (ngoodV q339 q340 q341 q1 q342) (b_rec hc hP hon2) nok_X9_signatures rfl ⟨(Nat.le_of_ble_eq_true rfl), (Nat.le_of_ble_eq_true rfl)⟩ ⟨by show _ ≤ 745879; omega, by show _ ≤ 6858280; omega⟩ dL_law_260 rfl (Nat.le_of_ble_eq_true rfl) ?_
  intro H locs hP hk hS
  replace hH9 := hH9.kept hG9 hP hk hS
  rw [ens]
  refine lv_istore (lv' := [(12, .int (nI (ons (X 0)))), (10, .long (hst (X 0) nv)), (9, .int so), (8, .int vv), (7, .int pv), (6, .int g), (5, .int (nI j)), (4, .int (nI nv)), (3, .ref aS), (2, .ref aP), (1, .ref (ad 2 20 0)), (0, .ref b)]) hx hb dL_law_263 hl (by decide) rfl (fun ls hl => ?_)
  refine lv_iconst (v := 0) hx hb dL_law_265 (by decide) ?_
  refine lv_istore (lv' := [(13, .int 0), (12, .int (nI (ons (X 0)))), (10, .long (hst (X 0) nv)), (9, .int so), (8, .int vv), (7, .int pv), (6, .int g), (5, .int (nI j)), (4, .int (nI nv)), (3, .ref aS), (2, .ref aP), (1, .ref (ad 2 20 0)), (0, .ref b)]) hx hb dL_law_266 hl (by decide) rfl (fun ls hl => ?_)
  exact W.widen (by omega) (by omega) (y_268 hG9 hnv hj (fun X2 f3 f4 H2 locs2 ls2 r hH2 hw2 hl2 => y_594 hG9 hnv hj ih X2 f3 f4 H2 locs2 ls2 r _ hH2 hw2 hl2) H locs ls hH9 (lv_sub hl [0, 1, 2, 3, 4, 5, 6, 7, 8, 9, 10, 11, 12] rfl))
set_option maxHeartbeats 4000000 in
set_option maxRecDepth 100000 in
theorem y_212 (hG : yG p l s m meth c b L xs D dA ad on aP aS) (hnv : 0 < nv ∧ nv ≤ 40) {j : Nat} (hj : j < 70) (ih : ∀ (X : NWd) (f1 f2 : Nat → Int32) (H : Heap) (locs : List Loc) (ls : Array Slot), yH s D dA ad on aP aS X nv (50 + (j + 1)) f1 f2 H locs → lv_has ls 14 [(5, .int (nI (j + 1))), (4, .int (nI nv)), (3, .ref aS), (2, .ref aP), (1, .ref (ad 2 20 0)), (0, .ref b)] → W p l e9 room_1 s m #[Value.ref b] below meth c H locs (1000 + 7500 * (j + 1)) (9000 + 45000 * (j + 1)) Q (F0 m 172 ls [])) : ∀ (X : NWd) (f1 f2 : Nat → Int32) (g pv : Int32) (H : Heap) (locs : List Loc) (ls : Array Slot), yH s D dA ad on aP aS X nv (50 + j) f1 f2 H locs → lv_has ls 14 [(6, .int g), (5, .int (nI j)), (4, .int (nI nv)), (3, .ref aS), (2, .ref aP), (1, .ref (ad 2 20 0)), (0, .ref b)] → W p l e9 room_1 s m #[Value.ref b] below meth c H locs (1000 + 7500 * j + 12) (9000 + 45000 * j + 72) Q (F0 m 212 ls [.int pv]) := by
  have hG9 := hG
  obtain ⟨hc, hfl, hI, hon0, hon1, hon2, hA, ⟨hX9, hbl⟩, hL9, ⟨hp1, hp2⟩, ⟨hs1, hs2⟩, hps⟩ := hG
  have hx := hc.1
  have hb := hc.2.1
  intro X f1 f2 g pv H locs ls hH hl
  have hH9 := hH
  obtain ⟨hP, hS, hV, ha1, ha2, hag⟩ := hH
  obtain ⟨hok, hd, h01⟩ := hV.ok
  have h12 := hok.np12
  have h150 := hok.ns150
  have enp := hok.np
  have ens := hok.ns
  refine lv_istore (lv' := [(7, .int pv), (6, .int g), (5, .int (nI j)), (4, .int (nI nv)), (3, .ref aS), (2, .ref aP), (1, .ref (ad 2 20 0)), (0, .ref b)]) hx hb dL_law_212 hl (by decide) rfl (fun ls hl => ?_)
  refine lv_iload hx hb dL_law_214 (lv_at hl 1 rfl) ?_
  refine lv_bipush (v := 9) hx hb dL_law_216 (by decide) ?_
  refine lv_ishr hx hb dL_law_218 ?_
  refine lv_iload hx hb dL_law_219 (lv_at hl 3 rfl) ?_
  refine b_S (c_low (X := X) hI (N := nv) hnv.1 (by omega)) hc hA hP hS hl.1 gL_low ⟨rfl, rfl⟩ nok_L_low rfl ⟨(Nat.le_of_ble_eq_true rfl), (Nat.le_of_ble_eq_true rfl)⟩ ⟨by show _ ≤ 745879; omega, by show _ ≤ 6858280; omega⟩ dL_law_221 rfl (Nat.le_of_ble_eq_true rfl) ?_
  intro vv X8 H locs hp hP hk hS
  obtain ⟨-, e8⟩ := hp
  rw [e8] at hP
  replace hH9 := hH9.kept hG9 hP hk hS
  refine lv_istore (lv' := [(8, .int vv), (7, .int pv), (6, .int g), (5, .int (nI j)), (4, .int (nI nv)), (3, .ref aS), (2, .ref aP), (1, .ref (ad 2 20 0)), (0, .ref b)]) hx hb dL_law_224 hl (by decide) rfl (fun ls hl => ?_)
  refine lv_aload_n hx hb dL_law_226 rfl (lv_at hl 7 rfl) ?_
  refine bx (As := []) (c_X9_papers (X := X) (S := X 0) hfl hI hon0 hon1 hon2 hok hd) hc hA hP hS hl.1 (ngoodV q335 q336 q337 q1 q338) (b_rec hc hP hon2) nok_X9_papers rfl ⟨(Nat.le_of_ble_eq_true rfl), (Nat.le_of_ble_eq_true rfl)⟩ ⟨by show _ ≤ 745879; omega, by show _ ≤ 6858280; omega⟩ dL_law_227 rfl (Nat.le_of_ble_eq_true rfl) ?_
  intro H locs hP hk hS
  replace hH9 := hH9.kept hG9 hP hk hS
  have k244 : ∀ (H : Heap) (locs : List Loc), yH s D dA ad on aP aS X nv (50 + j) f1 f2 H locs → W p l e9 room_1 s m #[Value.ref b] below meth c H locs (1000 + 7500 * j + 24) (9000 + 45000 * j + 144) Q (F0 m 244 ls []) := by
    intro H locs hH9
    refine lv_iload hx hb dL_law_244 (lv_at hl 2 rfl) ?_
    refine lv_bipush (v := 31) hx hb dL_law_246 (by decide) ?_
    refine lv_iand hx hb dL_law_248 ?_
    exact W.widen (by omega) (by omega) (y_249 hG9 hnv hj ih X f1 f2 g pv vv _ H locs ls hH9 (lv_sub hl [0, 1, 2, 3, 4, 5, 6, 7, 8] rfl))
  refine lv_if_ne (tgt := 244) hx hb dL_law_230 (by decide) (fun _ => W.widen (by omega) (by omega) (k244 H locs hH9)) (fun _ => ?_)
  refine lv_aload_n hx hb dL_law_233 rfl (lv_at hl 7 rfl) ?_
  refine bx (As := []) (c_X9_isOpen (X := X) (S := X 0) hfl hI hon0 hon1 hon2 hok hd) hc hA hP hS hl.1 (ngoodV q327 q328 q329 q1 q330) (b_rec hc hP hon2) nok_X9_isOpen rfl ⟨(Nat.le_of_ble_eq_true rfl), (Nat.le_of_ble_eq_true rfl)⟩ ⟨by show _ ≤ 745879; omega, by show _ ≤ 6858280; omega⟩ dL_law_234 rfl (Nat.le_of_ble_eq_true rfl) ?_
  intro H locs hP hk hS
  replace hH9 := hH9.kept hG9 hP hk hS
  refine lv_if_eq (tgt := 244) hx hb dL_law_237 (by decide) (fun _ => W.widen (by omega) (by omega) (k244 H locs hH9)) (fun _ => ?_)
  refine lv_iconst (v := 0) hx hb dL_law_240 (by decide) ?_
  refine lv_goto (tgt := 249) hx hb dL_law_241 (by decide) ?_
  exact W.widen (by omega) (by omega) (y_249 hG9 hnv hj ih X f1 f2 g pv vv _ H locs ls hH9 (lv_sub hl [0, 1, 2, 3, 4, 5, 6, 7, 8] rfl))
set_option maxHeartbeats 4000000 in
set_option maxRecDepth 100000 in
theorem y_loop (hG : yG p l s m meth c b L xs D dA ad on aP aS) (hnv : 0 < nv ∧ nv ≤ 40) (hend : ∀ (H : Heap) (locs : List Loc) (ls : Array Slot), va_S (yA s) s.heap H locs → W p l e9 room_1 s m #[Value.ref b] below meth c H locs 745879 6858280 Q (F0 m 905 ls [.int 1])) : ∀ (n j : Nat), n + j = 70 → ∀ (X : NWd) (f1 f2 : Nat → Int32) (H : Heap) (locs : List Loc) (ls : Array Slot), yH s D dA ad on aP aS X nv (50 + j) f1 f2 H locs → lv_has ls 14 [(5, .int (nI j)), (4, .int (nI nv)), (3, .ref aS), (2, .ref aP), (1, .ref (ad 2 20 0)), (0, .ref b)] → W p l e9 room_1 s m #[Value.ref b] below meth c H locs (1000 + 7500 * j) (9000 + 45000 * j) Q (F0 m 172 ls []) := by
  have hG9 := hG
  obtain ⟨hc, hfl, hI, hon0, hon1, hon2, hA, ⟨hX9, hbl⟩, hL9, ⟨hp1, hp2⟩, ⟨hs1, hs2⟩, hps⟩ := hG
  have hx := hc.1
  have hb := hc.2.1
  intro n
  induction n with
  | zero =>
    intro j hj X f1 f2 H locs ls hH hl
    refine lv_iload hx hb dL_law_172 (lv_at hl 0 rfl) ?_
    refine lv_bipush (v := 70) hx hb dL_law_174 (by decide) ?_
    obtain rfl : j = 70 := by omega
    refine lv_icmp_ge (tgt := 630) hx hb dL_law_176 (by decide) (fun _ => ?_) (fun z => absurd (by decide) z)
    exact W.widen (by omega) (by omega) (y_630 hG9 hnv.2 hend X f1 f2 H locs ls (hH.mono (by omega)) (lv_sub hl [1, 2, 3, 4, 5] rfl))
  | succ n ih =>
    intro j hj X f1 f2 H locs ls hH hl
    refine lv_iload hx hb dL_law_172 (lv_at hl 0 rfl) ?_
    refine lv_bipush (v := 70) hx hb dL_law_174 (by decide) ?_
    have hH9 := hH
    obtain ⟨hP, hS, hV, ha1, ha2, hag⟩ := hH
    obtain ⟨hok, hd, h01⟩ := hV.ok
    have h12 := hok.np12
    have h150 := hok.ns150
    have enp := hok.np
    have ens := hok.ns
    refine lv_icmp_ge (tgt := 630) hx hb dL_law_176 (by decide) (fun z => absurd ((nI_leI (a := 70) (by decide) (by omega)).mp z) (by omega)) (fun _ => ?_)
    refine lv_aload_n hx hb dL_law_179 rfl (lv_at hl 5 rfl) ?_
    refine lv_bipush (v := 30) hx hb dL_law_180 (by decide) ?_
    refine lv_iload hx hb dL_law_182 (lv_at hl 0 rfl) ?_
    refine lv_iadd hx hb dL_law_184 ?_
    rw [show (30 : Int32) + nI j = nI (30 + j) from by rw [show (30 : Int32) = nI 30 from rfl, nI_add]]
    refine b_cell hG9 (by omega) hP hS hl.1 ⟨(Nat.le_of_ble_eq_true rfl), (Nat.le_of_ble_eq_true rfl)⟩ ⟨by show _ ≤ 745879; omega, by show _ ≤ 6858280; omega⟩ dL_law_185 rfl (Nat.le_of_ble_eq_true rfl) ?_
    intro g H locs hP hk hS
    replace hH9 := hH9.kept hG9 hP hk hS
    refine lv_istore (lv' := [(6, .int g), (5, .int (nI j)), (4, .int (nI nv)), (3, .ref aS), (2, .ref aP), (1, .ref (ad 2 20 0)), (0, .ref b)]) hx hb dL_law_188 hl (by decide) rfl (fun ls hl => ?_)
    refine lv_aload_n hx hb dL_law_190 rfl (lv_at hl 5 rfl) ?_
    refine bx (As := []) (c_X9_papers (X := X) (S := X 0) hfl hI hon0 hon1 hon2 hok hd) hc hA hP hS hl.1 (ngoodV q335 q336 q337 q1 q338) (b_rec hc hP hon2) nok_X9_papers rfl ⟨(Nat.le_of_ble_eq_true rfl), (Nat.le_of_ble_eq_true rfl)⟩ ⟨by show _ ≤ 745879; omega, by show _ ≤ 6858280; omega⟩ dL_law_191 rfl (Nat.le_of_ble_eq_true rfl) ?_
    intro H locs hP hk hS
    replace hH9 := hH9.kept hG9 hP hk hS
    rw [enp]
    refine lv_if_ne (tgt := 201) hx hb dL_law_194 (by decide) (fun z => ?_) (fun _ => ?_)
    · refine lv_iload hx hb dL_law_201 (lv_at hl 0 rfl) ?_
      refine lv_iconst (v := 5) hx hb dL_law_203 (by decide) ?_
      refine lv_ishr hx hb dL_law_204 ?_
      refine lv_aload_n hx hb dL_law_205 rfl (lv_at hl 5 rfl) ?_
      refine bx (As := []) (c_X9_papers (X := X) (S := X 0) hfl hI hon0 hon1 hon2 hok hd) hc hA hP hS hl.1 (ngoodV q335 q336 q337 q1 q338) (b_rec hc hP hon2) nok_X9_papers rfl ⟨(Nat.le_of_ble_eq_true rfl), (Nat.le_of_ble_eq_true rfl)⟩ ⟨by show _ ≤ 745879; omega, by show _ ≤ 6858280; omega⟩ dL_law_206 rfl (Nat.le_of_ble_eq_true rfl) ?_
      intro H locs hP hk hS
      replace hH9 := hH9.kept hG9 hP hk hS
      rw [enp]
      have h0 : 0 < onp (X 0) := Nat.pos_of_ne_zero (fun q => z (by rw [q]; rfl))
      refine b_S (c_low (X := X) hI (N := onp (X 0)) h0 (by omega)) hc hA hP hS hl.1 gL_low ⟨rfl, rfl⟩ nok_L_low rfl ⟨(Nat.le_of_ble_eq_true rfl), (Nat.le_of_ble_eq_true rfl)⟩ ⟨by show _ ≤ 745879; omega, by show _ ≤ 6858280; omega⟩ dL_law_209 rfl (Nat.le_of_ble_eq_true rfl) ?_
      intro pv X8 H locs hp hP hk hS
      obtain ⟨-, e8⟩ := hp
      rw [e8] at hP
      replace hH9 := hH9.kept hG9 hP hk hS
      exact W.widen (by omega) (by omega) (y_212 hG9 hnv (by omega) (ih (j + 1) (by omega)) X f1 f2 g _ H locs ls hH9 (lv_sub hl [0, 1, 2, 3, 4, 5, 6] rfl))
    · refine lv_iconst (v := 0) hx hb dL_law_197 (by decide) ?_
      refine lv_goto (tgt := 212) hx hb dL_law_198 (by decide) ?_
      exact W.widen (by omega) (by omega) (y_212 hG9 hnv (by omega) (ih (j + 1) (by omega)) X f1 f2 g _ H locs ls hH9 (lv_sub hl [0, 1, 2, 3, 4, 5, 6] rfl))
end YL
