/-! The law's check of soundness. -/
abbrev zrm : Room := { frames := 11, cells := 1165, slots := 6990, locals := 460 }
def zA (ad : Nat → Nat → Nat → Nat) (on : Nat → Prop) (N1 : Nat) : Nat → Prop := fun q => nA ad on q ∨ N1 ≤ q
/-- what holds all along the check -/
def zG (p : Program) (l : Launch) (s : State) (m : MethodId) (args : Array Value) (meth : Method) (c : Code) (D : va_G) (dA : Nat → ClassId) (ad : Nat → Nat → Nat → Nat) (on : Nat → Prop) (X : NWd) (nv e aP aS N1 : Nat) (f1 f2 : Nat → Int32) : Prop :=
  nC p s m args meth c cL_sound 14 "NominatorLaw" D dA ad on ∧ l.stackTraces = false ∧ ninj ad on ∧ on 0 ∧ on 1 ∧ on 2 ∧ lInv X 2 nv e ∧ e ≤ 500 ∧ s.heap.size = N1 ∧ (¬ nA ad on aP ∧ lAr D dA aP 150 f1 s.heap) ∧ (¬ nA ad on aS ∧ lAr D dA aS 150 f2 s.heap) ∧ (∀ k, k < ons (X 0) → f1 k = X 0 13 k 0 ∧ f2 k = X 0 13 k 1) ∧ meth.sig.returnType = some .boolean
/-- the worlds that the replay leaves -/
def zY (X : NWd) (nv e : Nat) (Y : NWd) : Prop := Y 0 = X 0 ∧ lInv Y 2 nv e ∧ ∃ R, Y = wdo X 1 R
theorem zY.rep {X Y : NWd} {nv e : Nat} (h : zY X nv e Y) (R : NSt) : zY X nv e (wdo (wdo Y 0 (Y 0)) 1 R) := by
  obtain ⟨h1, h2, R0, h3⟩ := h
  rw [wdo_eta]
  refine ⟨by rw [wdo_ne (by decide)]; exact h1, h2.rep R, R, ?_⟩
  rw [h3, wdo_wdo]
theorem zY.self {X : NWd} {nv e : Nat} (h : lInv X 2 nv e) : zY X nv e X := ⟨rfl, h, X 1, wdo_eta.symm⟩
theorem zA_A {s : State} {ad : Nat → Nat → Nat → Nat} {on : Nat → Prop} {N1 : Nat} (h : s.heap.size = N1) : lA s ad on (zA ad on N1) := ⟨fun q h => Or.inl h, fun q h9 => h9.elim Or.inl (fun z => Or.inr (by rw [h]; exact z))⟩
theorem zA_ar {s : State} {D : va_G} {dA : Nat → ClassId} {ad : Nat → Nat → Nat → Nat} {on : Nat → Prop} {N1 a n : Nat} {f : Nat → Int32} {H : Heap} {locs : List Loc} (h : s.heap.size = N1) (hn : ¬ nA ad on a) (ha : lAr D dA a n f s.heap) (hS : va_S (zA ad on N1) s.heap H locs) : lAr D dA a n f H :=
  va_at.kept ha (hS.2.1 a (va_at.lt ha) (fun z => z.elim hn (fun z2 => by have := va_at.lt ha; rw [h] at this; exact absurd this (Nat.not_lt.mpr z2))))
theorem mny_s {S : NSt} {v : Int32} {n : Nat} : mny S v (n + 1) = mny S v n + (if cnd S v n = true then 1 else 0) := rfl
theorem inB_end {n : Nat} (h : n < 2 ^ 31) : inB (nI n) n = false := by
  unfold inB
  rw [nix_nI h, decide_eq_false (Nat.lt_irrefl n), Bool.and_false]
section LZ
variable {p : Program} {l : Launch} {e9 : Env} {s : State} {m : MethodId} {args : Array Value} {below : List Frame} {meth : Method} {cd : Code} {D : va_G} {dA : Nat → ClassId} {ad : Nat → Nat → Nat → Nat} {on : Nat → Prop} {X Y : NWd} {nv e aP aS aT N1 : Nat} {f1 f2 : Nat → Int32} {A : NWd → Prop}
section LQ2
variable {R : Room} {H : Heap} {locs : List Loc} {cells slots : Nat} {Q : State → Prop} {cc : ByteArray} {nL pc : Nat} {ls : Array Slot} {rest As st : List Value} {B : Nat → Prop} {c : Code}
theorem bqv {g : Bool} {v w : Int32} (hM : lM l D dA ad on yL_call cL_call 5 lhh As (wdo Y 0 (Y 0)) 6 (fun r X' => (r, X') = lres (wdo Y 0 (Y 0)) (nG g 2 (.inr (v, wdo Y 0 (Y 0)))))) (hw : lq g v = w) (hc : nC p s m args meth c cc nL "NominatorLaw" D dA ad on) (hA : lA s ad on B) (hP : npic D dA ad on Y H) (hS : va_S B s.heap H locs) (hsz : ls.size = nL) (hn : As.length = 4) (hR : 11 ≤ R.frames ∧ 424 ≤ R.locals) (hf : cells + 6 ≤ R.cells ∧ slots + 36 ≤ R.slots) (hdg : decode cc pc = .ok (.invokestatic 149, 3)) (hst : st = As.reverse ++ rest) (hW : (rest.map fun v => v.category).sum ≤ 8)
    (kk : ∀ (H1 : Heap) (locs1 : List Loc), npic D dA ad on Y H1 → (∀ q : Nat, q < H.size → ¬ nA ad on q → H1[q]? = H[q]?) → va_S B s.heap H1 locs1 → W p l e9 R s m args below meth c H1 locs1 (cells + 6) (slots + 36) Q (F0 m (pc + 3) ls (.int w :: rest))) : W p l e9 R s m args below meth c H locs cells slots Q (F0 m pc ls st) := by
  subst hw
  exact bq hM hc hA hP hS hsz hn hR hf hdg hst hW kk
end LQ2
set_option maxHeartbeats 4000000 in
set_option maxRecDepth 100000 in
theorem z_fin (hG : zG p l s m args meth cd D dA ad on X nv e aP aS N1 f1 f2) (hTn : ¬ nA ad on aT) (hTN : N1 ≤ aT) (hY : zY X nv e Y) : ∀ (H : Heap) (locs : List Loc) (ls : Array Slot), npic D dA ad on Y H → va_S (zA ad on N1) s.heap H locs → lAr D dA aT 2 (upd (upd (fun _ => 0) 0 (oStand (X 0) 0)) 1 (oStand (X 0) 1)) H → lv_has ls 14 [(11, .int (isum (fun k => if oWhy (X 0) (nI k) = 0 then 1 else 0) (onp (X 0)))), (10, .int (isum (fun k => X 0 11 k 8) (onp (X 0)))), (9, .ref aT), (8, .int (isum (fun k => X 0 11 k 3) (onp (X 0)))), (7, .int (isum (fun k => if oDep (X 0) (nI k) = 2 then X 0 11 k 3 else 0) (onp (X 0)))), (6, .int (isum (fun k => if oDep (X 0) (nI k) = 0 then X 0 11 k 3 else 0) (onp (X 0)))), (5, .int (isum (fun i => mny (X 0) (nI i) (ons (X 0))) nv)), (4, .int (nI (ons (X 0)))), (0, .ref (ad 2 20 0)), (1, .ref aP), (2, .ref aS), (3, .int (nI nv))] → W p l e9 zrm s m args below meth cd H locs (1135) (6 * (1135)) (MQ below (va_Qi (fun r X' => r = 1 ∧ ∃ R, X' = wdo X 1 R) (fun X' t => npic D dA ad on X' t.heap) (zA ad on N1)) args s 1165 6990 (zA ad on N1)) (F0 m 380 ls []) := by
  have hG9 := hG
  obtain ⟨hc, hfl, hI, hon0, hon1, hon2, hV, he, hN, ⟨hP1, hP2⟩, ⟨hS1, hS2⟩, hag, hr⟩ := hG
  have hx := hc.1
  have hb := hc.2.1
  have hA := zA_A (ad := ad) (on := on) hN
  obtain ⟨hok, hd, h01⟩ := hV.ok
  obtain ⟨M, hQ⟩ := hV.q
  have h12 := hok.np12
  have h150 := hok.ns150
  have h40 := hok.nv40
  have enp := hok.np
  have ens := hok.ns
  have ena := hV.ena
  have env := hV.env
  obtain ⟨hy, hVY, hR0⟩ := hY
  obtain ⟨hokY, hdY, h01Y⟩ := hVY.ok
  intro H locs ls hP hS hT hl
  refine lv_iload hx hb dL_sound_380 (lv_at hl 6 rfl) ?_
  refine lv_iload hx hb dL_sound_382 (lv_at hl 1 rfl) ?_
  refine lv_icmp_ne (tgt := 463) hx hb dL_sound_384 (by decide) (fun z => absurd (by rw [← env]; exact snd_2 hQ) z) (fun _ => ?_)
  refine lv_aload_n hx hb dL_sound_387 rfl (lv_at hl 8 rfl) ?_
  refine bx (As := []) (c_X9_sumHeld (X := Y) (S := Y 0) hfl hI hon0 hon1 hon2 hokY hdY) hc hA hP hS hl.1 (ngoodV q954 q955 q956 q1 q957) (b_rec hc hP hon2) nok_X9_sumHeld rfl ⟨(Nat.le_of_ble_eq_true rfl), (Nat.le_of_ble_eq_true rfl)⟩ ⟨by show _ ≤ 1165; omega, by show _ ≤ 6990; omega⟩ dL_sound_388 rfl (Nat.le_of_ble_eq_true rfl) ?_
  intro H locs hP hk hS
  replace hT := hT.kept hTn hk
  refine lv_iload hx hb dL_sound_391 (lv_at hl 5 rfl) ?_
  refine lv_icmp_ne (tgt := 463) hx hb dL_sound_393 (by decide) (fun z => absurd (by rw [hy]; rfl) z) (fun _ => ?_)
  refine lv_aload_n hx hb dL_sound_396 rfl (lv_at hl 8 rfl) ?_
  refine bx (As := []) (c_X9_sumLost (X := Y) (S := Y 0) hfl hI hon0 hon1 hon2 hokY hdY) hc hA hP hS hl.1 (ngoodV q962 q963 q964 q1 q965) (b_rec hc hP hon2) nok_X9_sumLost rfl ⟨(Nat.le_of_ble_eq_true rfl), (Nat.le_of_ble_eq_true rfl)⟩ ⟨by show _ ≤ 1165; omega, by show _ ≤ 6990; omega⟩ dL_sound_397 rfl (Nat.le_of_ble_eq_true rfl) ?_
  intro H locs hP hk hS
  replace hT := hT.kept hTn hk
  refine lv_iload hx hb dL_sound_400 (lv_at hl 4 rfl) ?_
  refine lv_icmp_ne (tgt := 463) hx hb dL_sound_402 (by decide) (fun z => absurd (by rw [hy]; rfl) z) (fun _ => ?_)
  refine lv_iload hx hb dL_sound_405 (lv_at hl 5 rfl) ?_
  refine lv_iload hx hb dL_sound_407 (lv_at hl 4 rfl) ?_
  refine lv_iadd hx hb dL_sound_409 ?_
  refine lv_iload hx hb dL_sound_410 (lv_at hl 3 rfl) ?_
  refine lv_icmp_gt (tgt := 463) hx hb dL_sound_412 (by decide) (fun z => absurd z (snd_4 hV.x he h12)) (fun _ => ?_)
  refine lv_aload hx hb dL_sound_415 (lv_at hl 2 rfl) ?_
  refine lv_iconst (v := 0) hx hb dL_sound_417 (by decide) ?_
  refine b_ald hc hT (by unfold vp_in; decide) dL_sound_418 ?_
  refine lv_aload hx hb dL_sound_419 (lv_at hl 2 rfl) ?_
  refine lv_iconst (v := 1) hx hb dL_sound_421 (by decide) ?_
  refine b_ald hc hT (by unfold vp_in; decide) dL_sound_422 ?_
  refine lv_iadd hx hb dL_sound_423 ?_
  refine lv_iload hx hb dL_sound_424 (lv_at hl 0 rfl) ?_
  refine lv_icmp_ne (tgt := 463) hx hb dL_sound_426 (by decide) (fun z => absurd (snd_5 hQ ena) z) (fun _ => ?_)
  refine lv_aload_n hx hb dL_sound_429 rfl (lv_at hl 8 rfl) ?_
  refine lv_bipush (v := 17) hx hb dL_sound_430 (by decide) ?_
  refine lv_aload_n hx hb dL_sound_432 rfl (lv_at hl 8 rfl) ?_
  refine bx (As := []) (c_X9_papers (X := Y) (S := Y 0) hfl hI hon0 hon1 hon2 hokY hdY) hc hA hP hS hl.1 (ngoodV q335 q336 q337 q1 q338) (b_rec hc hP hon2) nok_X9_papers rfl ⟨(Nat.le_of_ble_eq_true rfl), (Nat.le_of_ble_eq_true rfl)⟩ ⟨by show _ ≤ 1165; omega, by show _ ≤ 6990; omega⟩ dL_sound_433 rfl (Nat.le_of_ble_eq_true rfl) ?_
  intro H locs hP hk hS
  replace hT := hT.kept hTn hk
  refine lv_iconst (v := 0) hx hb dL_sound_436 (by decide) ?_
  refine bqv (lk_reason (X := Y) hfl hI hon0 hon1 hon2 hokY hdY) (lq_f (by rw [hy, enp]; exact inB_end (by omega))) hc hA hP hS hl.1 rfl ⟨(Nat.le_of_ble_eq_true rfl), (Nat.le_of_ble_eq_true rfl)⟩ ⟨by show _ ≤ 1165; omega, by show _ ≤ 6990; omega⟩ dL_sound_437 rfl (Nat.le_of_ble_eq_true rfl) ?_
  intro H locs hP hk hS
  replace hT := hT.kept hTn hk
  refine lv_bipush (v := -101) hx hb dL_sound_440 (by decide) ?_
  refine lv_icmp_ne (tgt := 463) hx hb dL_sound_442 (by decide) (fun z => absurd rfl z) (fun _ => ?_)
  refine lv_aload_n hx hb dL_sound_445 rfl (lv_at hl 8 rfl) ?_
  refine lv_bipush (v := 12) hx hb dL_sound_446 (by decide) ?_
  refine lv_iload hx hb dL_sound_448 (lv_at hl 7 rfl) ?_
  refine lv_iconst (v := 0) hx hb dL_sound_450 (by decide) ?_
  refine bqv (lk_signatureResult (X := Y) hfl hI hon0 hon1 hon2 hokY hdY) (lq_f (by rw [hy, ens, decide_eq_false Int32.lt_irrefl, Bool.and_false])) hc hA hP hS hl.1 rfl ⟨(Nat.le_of_ble_eq_true rfl), (Nat.le_of_ble_eq_true rfl)⟩ ⟨by show _ ≤ 1165; omega, by show _ ≤ 6990; omega⟩ dL_sound_451 rfl (Nat.le_of_ble_eq_true rfl) ?_
  intro H locs hP hk hS
  replace hT := hT.kept hTn hk
  refine lv_bipush (v := -101) hx hb dL_sound_454 (by decide) ?_
  refine lv_icmp_ne (tgt := 463) hx hb dL_sound_456 (by decide) (fun z => absurd rfl z) (fun _ => ?_)
  refine lv_iconst (v := 1) hx hb dL_sound_459 (by decide) ?_
  refine lv_goto (tgt := 464) hx hb dL_sound_460 (by decide) ?_
  exact W.widen (by omega) (by omega) (W.zret hx hb hr (by decide +kernel) (fun t ht hW => ⟨⟨1, Y, rfl, ⟨rfl, hR0⟩, (show npic D dA ad on Y t.heap by rw [ht]; exact hP)⟩, hS.F ht⟩) hS.2.2 dL_sound_464 hc.2.2.2.2.2.2.2.2)
set_option maxHeartbeats 4000000 in
set_option maxRecDepth 100000 in
theorem z_std (hG : zG p l s m args meth cd D dA ad on X nv e aP aS N1 f1 f2) (hTn : ¬ nA ad on aT) (hTN : N1 ≤ aT) (hY : zY X nv e Y) : ∀ (n j : Nat), n + j = onp (X 0) → ∀ (H : Heap) (locs : List Loc) (ls : Array Slot), npic D dA ad on Y H → va_S (zA ad on N1) s.heap H locs → lAr D dA aT 2 (upd (upd (fun _ => 0) 0 (oStand (X 0) 0)) 1 (oStand (X 0) 1)) H → lv_has ls 14 [(12, .int (nI j)), (11, .int (isum (fun k => if oWhy (X 0) (nI k) = 0 then 1 else 0) j)), (10, .int (isum (fun k => X 0 11 k 8) (onp (X 0)))), (9, .ref aT), (8, .int (isum (fun k => X 0 11 k 3) (onp (X 0)))), (7, .int (isum (fun k => if oDep (X 0) (nI k) = 2 then X 0 11 k 3 else 0) (onp (X 0)))), (6, .int (isum (fun k => if oDep (X 0) (nI k) = 0 then X 0 11 k 3 else 0) (onp (X 0)))), (5, .int (isum (fun i => mny (X 0) (nI i) (ons (X 0))) nv)), (4, .int (nI (ons (X 0)))), (0, .ref (ad 2 20 0)), (1, .ref aP), (2, .ref aS), (3, .int (nI nv))] → W p l e9 zrm s m args below meth cd H locs (985 + 12 * j) (6 * (985 + 12 * j)) (MQ below (va_Qi (fun r X' => r = 1 ∧ ∃ R, X' = wdo X 1 R) (fun X' t => npic D dA ad on X' t.heap) (zA ad on N1)) args s 1165 6990 (zA ad on N1)) (F0 m 343 ls []) := by
  have hG9 := hG
  obtain ⟨hc, hfl, hI, hon0, hon1, hon2, hV, he, hN, ⟨hP1, hP2⟩, ⟨hS1, hS2⟩, hag, hr⟩ := hG
  have hx := hc.1
  have hb := hc.2.1
  have hA := zA_A (ad := ad) (on := on) hN
  obtain ⟨hok, hd, h01⟩ := hV.ok
  obtain ⟨M, hQ⟩ := hV.q
  have h12 := hok.np12
  have h150 := hok.ns150
  have h40 := hok.nv40
  have enp := hok.np
  have ens := hok.ns
  have ena := hV.ena
  have env := hV.env
  have hY9 := hY
  obtain ⟨hy, hVY, hR0⟩ := hY
  obtain ⟨hokY, hdY, h01Y⟩ := hVY.ok
  intro n
  induction n with
  | zero =>
    intro j hj H locs ls hP hS hT hl
    refine lv_iload hx hb dL_sound_343 (lv_at hl 0 rfl) ?_
    refine lv_aload_n hx hb dL_sound_345 rfl (lv_at hl 9 rfl) ?_
    refine bx (As := []) (c_X9_papers (X := Y) (S := Y 0) hfl hI hon0 hon1 hon2 hokY hdY) hc hA hP hS hl.1 (ngoodV q335 q336 q337 q1 q338) (b_rec hc hP hon2) nok_X9_papers rfl ⟨(Nat.le_of_ble_eq_true rfl), (Nat.le_of_ble_eq_true rfl)⟩ ⟨by show _ ≤ 1165; omega, by show _ ≤ 6990; omega⟩ dL_sound_346 rfl (Nat.le_of_ble_eq_true rfl) ?_
    intro H locs hP hk hS
    replace hT := hT.kept hTn hk
    rw [hy, enp]
    obtain rfl : j = onp (X 0) := by omega
    refine lv_icmp_ge (tgt := 380) hx hb dL_sound_349 (by decide) (fun _ => ?_) (fun z => absurd ((nI_leI (by omega) (by omega)).mpr (Nat.le_refl _)) z)
    exact W.widen (by omega) (by omega) (z_fin hG9 hTn hTN hY9 H locs ls hP hS hT (lv_sub hl [1, 2, 3, 4, 5, 6, 7, 8, 9, 10, 11, 12] rfl))
  | succ n ih =>
    intro j hj H locs ls hP hS hT hl
    refine lv_iload hx hb dL_sound_343 (lv_at hl 0 rfl) ?_
    refine lv_aload_n hx hb dL_sound_345 rfl (lv_at hl 9 rfl) ?_
    refine bx (As := []) (c_X9_papers (X := Y) (S := Y 0) hfl hI hon0 hon1 hon2 hokY hdY) hc hA hP hS hl.1 (ngoodV q335 q336 q337 q1 q338) (b_rec hc hP hon2) nok_X9_papers rfl ⟨(Nat.le_of_ble_eq_true rfl), (Nat.le_of_ble_eq_true rfl)⟩ ⟨by show _ ≤ 1165; omega, by show _ ≤ 6990; omega⟩ dL_sound_346 rfl (Nat.le_of_ble_eq_true rfl) ?_
    intro H locs hP hk hS
    replace hT := hT.kept hTn hk
    rw [hy, enp]
    refine lv_icmp_ge (tgt := 380) hx hb dL_sound_349 (by decide) (fun z => absurd ((nI_leI (by omega) (by omega)).mp z) (by omega)) (fun _ => ?_)
    refine lv_iload hx hb dL_sound_352 (lv_at hl 1 rfl) ?_
    refine lv_aload_n hx hb dL_sound_354 rfl (lv_at hl 9 rfl) ?_
    refine lv_bipush (v := 17) hx hb dL_sound_355 (by decide) ?_
    refine lv_iload hx hb dL_sound_357 (lv_at hl 0 rfl) ?_
    refine lv_iconst (v := 0) hx hb dL_sound_359 (by decide) ?_
    have hin : inB (nI j) (onp (X 0)) = true := inB_t.mpr (vp_in_nI (by omega) (by omega))
    refine bqv (lk_reason (X := Y) hfl hI hon0 hon1 hon2 hokY hdY) ((lq_t (by rw [hy]; exact hin)).trans (by rw [hy])) hc hA hP hS hl.1 rfl ⟨(Nat.le_of_ble_eq_true rfl), (Nat.le_of_ble_eq_true rfl)⟩ ⟨by show _ ≤ 1165; omega, by show _ ≤ 6990; omega⟩ dL_sound_360 rfl (Nat.le_of_ble_eq_true rfl) ?_
    intro H locs hP hk hS
    replace hT := hT.kept hTn hk
    have go : ∀ (v : Int32), (if oWhy (X 0) (nI j) = 0 then 1 else 0) = v → W p l e9 zrm s m args below meth cd H locs (985 + 12 * j + 6 + 6) (6 * (985 + 12 * j + 6 + 6)) (MQ below (va_Qi (fun r X' => r = 1 ∧ ∃ R, X' = wdo X 1 R) (fun X' t => npic D dA ad on X' t.heap) (zA ad on N1)) args s 1165 6990 (zA ad on N1)) (F0 m 371 ls [.int v, .int (isum (fun k => if oWhy (X 0) (nI k) = 0 then 1 else 0) j)]) := by
      intro v hv
      refine lv_iadd hx hb dL_sound_371 ?_
      rw [show isum (fun k => if oWhy (X 0) (nI k) = 0 then (1 : Int32) else 0) j + v = isum (fun k => if oWhy (X 0) (nI k) = 0 then 1 else 0) (j + 1) by rw [isum_s, hv]]
      refine lv_istore (lv' := [(11, .int (isum (fun k => if oWhy (X 0) (nI k) = 0 then 1 else 0) (j + 1))), (12, .int (nI j)), (10, .int (isum (fun k => X 0 11 k 8) (onp (X 0)))), (9, .ref aT), (8, .int (isum (fun k => X 0 11 k 3) (onp (X 0)))), (7, .int (isum (fun k => if oDep (X 0) (nI k) = 2 then X 0 11 k 3 else 0) (onp (X 0)))), (6, .int (isum (fun k => if oDep (X 0) (nI k) = 0 then X 0 11 k 3 else 0) (onp (X 0)))), (5, .int (isum (fun i => mny (X 0) (nI i) (ons (X 0))) nv)), (4, .int (nI (ons (X 0)))), (0, .ref (ad 2 20 0)), (1, .ref aP), (2, .ref aS), (3, .int (nI nv))]) hx hb dL_sound_372 hl (by decide) rfl (fun ls hl => ?_)
      refine lv_iinc (lv' := [(12, .int (nI (j + 1))), (11, .int (isum (fun k => if oWhy (X 0) (nI k) = 0 then 1 else 0) (j + 1))), (10, .int (isum (fun k => X 0 11 k 8) (onp (X 0)))), (9, .ref aT), (8, .int (isum (fun k => X 0 11 k 3) (onp (X 0)))), (7, .int (isum (fun k => if oDep (X 0) (nI k) = 2 then X 0 11 k 3 else 0) (onp (X 0)))), (6, .int (isum (fun k => if oDep (X 0) (nI k) = 0 then X 0 11 k 3 else 0) (onp (X 0)))), (5, .int (isum (fun i => mny (X 0) (nI i) (ons (X 0))) nv)), (4, .int (nI (ons (X 0)))), (0, .ref (ad 2 20 0)), (1, .ref aP), (2, .ref aS), (3, .int (nI nv))]) (v := (nI (j + 1))) hx hb dL_sound_374 hl (k := 1) rfl (by rw [show Int32.ofInt 1 = 1 from by decide, nI_1]) (by decide) rfl (fun ls hl => ?_)
      refine lv_goto (tgt := 343) hx hb dL_sound_377 (by decide) ?_
      exact W.widen (by omega) (by omega) (ih (j + 1) (by omega) H locs ls hP hS hT (lv_sub hl [0, 1, 2, 3, 4, 5, 6, 7, 8, 9, 10, 11, 12] rfl))
    refine lv_if_ne (tgt := 370) hx hb dL_sound_363 (by decide) (fun z => ?_) (fun z => ?_)
    · refine lv_iconst (v := 0) hx hb dL_sound_370 (by decide) ?_
      exact go 0 (if_neg z)
    · refine lv_iconst (v := 1) hx hb dL_sound_366 (by decide) ?_
      refine lv_goto (tgt := 371) hx hb dL_sound_367 (by decide) ?_
      exact go 1 (if_pos z)
set_option maxHeartbeats 4000000 in
set_option maxRecDepth 100000 in
theorem z_area (hG : zG p l s m args meth cd D dA ad on X nv e aP aS N1 f1 f2) (hTn : ¬ nA ad on aT) (hTN : N1 ≤ aT) (hY : zY X nv e Y) : ∀ (H : Heap) (locs : List Loc) (ls : Array Slot), npic D dA ad on Y H → va_S (zA ad on N1) s.heap H locs → lAr D dA aT 2 (fun _ => 0) H → lv_has ls 14 [(10, .int (isum (fun k => X 0 11 k 8) (onp (X 0)))), (9, .ref aT), (8, .int (isum (fun k => X 0 11 k 3) (onp (X 0)))), (7, .int (isum (fun k => if oDep (X 0) (nI k) = 2 then X 0 11 k 3 else 0) (onp (X 0)))), (6, .int (isum (fun k => if oDep (X 0) (nI k) = 0 then X 0 11 k 3 else 0) (onp (X 0)))), (5, .int (isum (fun i => mny (X 0) (nI i) (ons (X 0))) nv)), (4, .int (nI (ons (X 0)))), (0, .ref (ad 2 20 0)), (1, .ref aP), (2, .ref aS), (3, .int (nI nv))] → W p l e9 zrm s m args below meth cd H locs (973) (6 * (973)) (MQ below (va_Qi (fun r X' => r = 1 ∧ ∃ R, X' = wdo X 1 R) (fun X' t => npic D dA ad on X' t.heap) (zA ad on N1)) args s 1165 6990 (zA ad on N1)) (F0 m 308 ls []) := by
  have hG9 := hG
  obtain ⟨hc, hfl, hI, hon0, hon1, hon2, hV, he, hN, ⟨hP1, hP2⟩, ⟨hS1, hS2⟩, hag, hr⟩ := hG
  have hx := hc.1
  have hb := hc.2.1
  have hA := zA_A (ad := ad) (on := on) hN
  obtain ⟨hok, hd, h01⟩ := hV.ok
  obtain ⟨M, hQ⟩ := hV.q
  have h12 := hok.np12
  have h150 := hok.ns150
  have h40 := hok.nv40
  have enp := hok.np
  have ens := hok.ns
  have ena := hV.ena
  have env := hV.env
  have hY9 := hY
  obtain ⟨hy, hVY, hR0⟩ := hY
  obtain ⟨hokY, hdY, h01Y⟩ := hVY.ok
  intro H locs ls hP hS hT hl
  refine lv_iconst (v := 0) hx hb dL_sound_308 (by decide) ?_
  refine lv_istore (lv' := [(11, .int (nI 0)), (10, .int (isum (fun k => X 0 11 k 8) (onp (X 0)))), (9, .ref aT), (8, .int (isum (fun k => X 0 11 k 3) (onp (X 0)))), (7, .int (isum (fun k => if oDep (X 0) (nI k) = 2 then X 0 11 k 3 else 0) (onp (X 0)))), (6, .int (isum (fun k => if oDep (X 0) (nI k) = 0 then X 0 11 k 3 else 0) (onp (X 0)))), (5, .int (isum (fun i => mny (X 0) (nI i) (ons (X 0))) nv)), (4, .int (nI (ons (X 0)))), (0, .ref (ad 2 20 0)), (1, .ref aP), (2, .ref aS), (3, .int (nI nv))]) hx hb dL_sound_309 hl (by decide) rfl (fun ls hl => ?_)
  refine lv_iload hx hb dL_sound_311 (lv_at hl 0 rfl) ?_
  refine lv_iconst (v := 2) hx hb dL_sound_313 (by decide) ?_
  refine lv_icmp_ge (tgt := 337) hx hb dL_sound_314 (by decide) (fun z => absurd z (by decide)) (fun _ => ?_)
  refine lv_aload hx hb dL_sound_317 (lv_at hl 2 rfl) ?_
  refine lv_iload hx hb dL_sound_319 (lv_at hl 0 rfl) ?_
  refine lv_aload_n hx hb dL_sound_321 rfl (lv_at hl 8 rfl) ?_
  refine lv_bipush (v := 19) hx hb dL_sound_322 (by decide) ?_
  refine lv_iload hx hb dL_sound_324 (lv_at hl 0 rfl) ?_
  refine lv_iconst (v := 0) hx hb dL_sound_326 (by decide) ?_
  refine bqv (lk_ballotSize (X := Y) hfl hI hon0 hon1 hon2 hokY hdY) ((lq_t (by rw [hy, ena]; decide)).trans (by rw [hy])) hc hA hP hS hl.1 rfl ⟨(Nat.le_of_ble_eq_true rfl), (Nat.le_of_ble_eq_true rfl)⟩ ⟨by show _ ≤ 1165; omega, by show _ ≤ 6990; omega⟩ dL_sound_327 rfl (Nat.le_of_ble_eq_true rfl) ?_
  intro H locs hP hk hS
  replace hT := hT.kept hTn hk
  refine b_ast hc hS hT (Or.inr hTN) (by unfold vp_in; decide) dL_sound_330 (fun H locs hT2 oq _ hS => ?_)
  replace hP := npic_off hP hTn oq
  replace hT := hT2
  refine lv_iinc (lv' := [(11, .int (nI 1)), (10, .int (isum (fun k => X 0 11 k 8) (onp (X 0)))), (9, .ref aT), (8, .int (isum (fun k => X 0 11 k 3) (onp (X 0)))), (7, .int (isum (fun k => if oDep (X 0) (nI k) = 2 then X 0 11 k 3 else 0) (onp (X 0)))), (6, .int (isum (fun k => if oDep (X 0) (nI k) = 0 then X 0 11 k 3 else 0) (onp (X 0)))), (5, .int (isum (fun i => mny (X 0) (nI i) (ons (X 0))) nv)), (4, .int (nI (ons (X 0)))), (0, .ref (ad 2 20 0)), (1, .ref aP), (2, .ref aS), (3, .int (nI nv))]) (v := (nI 1)) hx hb dL_sound_331 hl (k := 0) rfl (by decide) (by decide) rfl (fun ls hl => ?_)
  refine lv_goto (tgt := 311) hx hb dL_sound_334 (by decide) ?_
  refine lv_iload hx hb dL_sound_311 (lv_at hl 0 rfl) ?_
  refine lv_iconst (v := 2) hx hb dL_sound_313 (by decide) ?_
  refine lv_icmp_ge (tgt := 337) hx hb dL_sound_314 (by decide) (fun z => absurd z (by decide)) (fun _ => ?_)
  refine lv_aload hx hb dL_sound_317 (lv_at hl 2 rfl) ?_
  refine lv_iload hx hb dL_sound_319 (lv_at hl 0 rfl) ?_
  refine lv_aload_n hx hb dL_sound_321 rfl (lv_at hl 8 rfl) ?_
  refine lv_bipush (v := 19) hx hb dL_sound_322 (by decide) ?_
  refine lv_iload hx hb dL_sound_324 (lv_at hl 0 rfl) ?_
  refine lv_iconst (v := 0) hx hb dL_sound_326 (by decide) ?_
  refine bqv (lk_ballotSize (X := Y) hfl hI hon0 hon1 hon2 hokY hdY) ((lq_t (by rw [hy, ena]; decide)).trans (by rw [hy])) hc hA hP hS hl.1 rfl ⟨(Nat.le_of_ble_eq_true rfl), (Nat.le_of_ble_eq_true rfl)⟩ ⟨by show _ ≤ 1165; omega, by show _ ≤ 6990; omega⟩ dL_sound_327 rfl (Nat.le_of_ble_eq_true rfl) ?_
  intro H locs hP hk hS
  replace hT := hT.kept hTn hk
  refine b_ast hc hS hT (Or.inr hTN) (by unfold vp_in; decide) dL_sound_330 (fun H locs hT2 oq _ hS => ?_)
  replace hP := npic_off hP hTn oq
  replace hT := hT2
  refine lv_iinc (lv' := [(11, .int (nI 2)), (10, .int (isum (fun k => X 0 11 k 8) (onp (X 0)))), (9, .ref aT), (8, .int (isum (fun k => X 0 11 k 3) (onp (X 0)))), (7, .int (isum (fun k => if oDep (X 0) (nI k) = 2 then X 0 11 k 3 else 0) (onp (X 0)))), (6, .int (isum (fun k => if oDep (X 0) (nI k) = 0 then X 0 11 k 3 else 0) (onp (X 0)))), (5, .int (isum (fun i => mny (X 0) (nI i) (ons (X 0))) nv)), (4, .int (nI (ons (X 0)))), (0, .ref (ad 2 20 0)), (1, .ref aP), (2, .ref aS), (3, .int (nI nv))]) (v := (nI 2)) hx hb dL_sound_331 hl (k := 0) rfl (by decide) (by decide) rfl (fun ls hl => ?_)
  refine lv_goto (tgt := 311) hx hb dL_sound_334 (by decide) ?_
  refine lv_iload hx hb dL_sound_311 (lv_at hl 0 rfl) ?_
  refine lv_iconst (v := 2) hx hb dL_sound_313 (by decide) ?_
  refine lv_icmp_ge (tgt := 337) hx hb dL_sound_314 (by decide) (fun _ => ?_) (fun z => absurd (by decide) z)
  refine lv_iconst (v := 0) hx hb dL_sound_337 (by decide) ?_
  refine lv_istore (lv' := [(11, .int 0), (10, .int (isum (fun k => X 0 11 k 8) (onp (X 0)))), (9, .ref aT), (8, .int (isum (fun k => X 0 11 k 3) (onp (X 0)))), (7, .int (isum (fun k => if oDep (X 0) (nI k) = 2 then X 0 11 k 3 else 0) (onp (X 0)))), (6, .int (isum (fun k => if oDep (X 0) (nI k) = 0 then X 0 11 k 3 else 0) (onp (X 0)))), (5, .int (isum (fun i => mny (X 0) (nI i) (ons (X 0))) nv)), (4, .int (nI (ons (X 0)))), (0, .ref (ad 2 20 0)), (1, .ref aP), (2, .ref aS), (3, .int (nI nv))]) hx hb dL_sound_338 hl (by decide) rfl (fun ls hl => ?_)
  refine lv_iconst (v := 0) hx hb dL_sound_340 (by decide) ?_
  refine lv_istore (lv' := [(12, .int (nI 0)), (11, .int 0), (10, .int (isum (fun k => X 0 11 k 8) (onp (X 0)))), (9, .ref aT), (8, .int (isum (fun k => X 0 11 k 3) (onp (X 0)))), (7, .int (isum (fun k => if oDep (X 0) (nI k) = 2 then X 0 11 k 3 else 0) (onp (X 0)))), (6, .int (isum (fun k => if oDep (X 0) (nI k) = 0 then X 0 11 k 3 else 0) (onp (X 0)))), (5, .int (isum (fun i => mny (X 0) (nI i) (ons (X 0))) nv)), (4, .int (nI (ons (X 0)))), (0, .ref (ad 2 20 0)), (1, .ref aP), (2, .ref aS), (3, .int (nI nv))]) hx hb dL_sound_341 hl (by decide) rfl (fun ls hl => ?_)
  exact W.widen (by omega) (by omega) (z_std hG9 hTn hTN hY9 (onp (X 0)) 0 rfl H locs ls hP hS hT (lv_sub hl [0, 1, 2, 3, 4, 5, 6, 7, 8, 9, 10, 11, 12] rfl))
set_option maxHeartbeats 4000000 in
set_option maxRecDepth 100000 in
theorem z_p3 (hG : zG p l s m args meth cd D dA ad on X nv e aP aS N1 f1 f2) (hTn : ¬ nA ad on aT) (hTN : N1 ≤ aT) (hY : zY X nv e Y) {j : Nat} (hj : j < onp (X 0)) (ih : ∀ Y : NWd, zY X nv e Y → ∀ (H : Heap) (locs : List Loc) (ls : Array Slot), npic D dA ad on Y H → va_S (zA ad on N1) s.heap H locs → lAr D dA aT 2 (fun _ => 0) H → lv_has ls 14 [(11, .int (nI (j + 1))), (10, .int (isum (fun k => X 0 11 k 8) (j + 1))), (9, .ref aT), (8, .int (isum (fun k => X 0 11 k 3) (j + 1))), (7, .int (isum (fun k => if oDep (X 0) (nI k) = 2 then X 0 11 k 3 else 0) (j + 1))), (6, .int (isum (fun k => if oDep (X 0) (nI k) = 0 then X 0 11 k 3 else 0) (j + 1))), (5, .int (isum (fun i => mny (X 0) (nI i) (ons (X 0))) nv)), (4, .int (nI (ons (X 0)))), (0, .ref (ad 2 20 0)), (1, .ref aP), (2, .ref aS), (3, .int (nI nv))] → W p l e9 zrm s m args below meth cd H locs (247 + 60 * (j + 1)) (6 * (247 + 60 * (j + 1))) (MQ below (va_Qi (fun r X' => r = 1 ∧ ∃ R, X' = wdo X 1 R) (fun X' t => npic D dA ad on X' t.heap) (zA ad on N1)) args s 1165 6990 (zA ad on N1)) (F0 m 126 ls [])) : ∀ (H : Heap) (locs : List Loc) (ls : Array Slot), npic D dA ad on Y H → va_S (zA ad on N1) s.heap H locs → lAr D dA aT 2 (fun _ => 0) H → lv_has ls 14 [(13, .int (oDep (X 0) (nI j))), (12, .int (oWhy (X 0) (nI j))), (11, .int (nI j)), (10, .int (isum (fun k => X 0 11 k 8) (j + 1))), (9, .ref aT), (8, .int (isum (fun k => X 0 11 k 3) (j + 1))), (7, .int (isum (fun k => if oDep (X 0) (nI k) = 2 then X 0 11 k 3 else 0) (j + 1))), (6, .int (isum (fun k => if oDep (X 0) (nI k) = 0 then X 0 11 k 3 else 0) (j + 1))), (5, .int (isum (fun i => mny (X 0) (nI i) (ons (X 0))) nv)), (4, .int (nI (ons (X 0)))), (0, .ref (ad 2 20 0)), (1, .ref aP), (2, .ref aS), (3, .int (nI nv))] → W p l e9 zrm s m args below meth cd H locs (247 + 60 * j + 42) (6 * (247 + 60 * j + 42)) (MQ below (va_Qi (fun r X' => r = 1 ∧ ∃ R, X' = wdo X 1 R) (fun X' t => npic D dA ad on X' t.heap) (zA ad on N1)) args s 1165 6990 (zA ad on N1)) (F0 m 232 ls []) := by
  have hG9 := hG
  obtain ⟨hc, hfl, hI, hon0, hon1, hon2, hV, he, hN, ⟨hP1, hP2⟩, ⟨hS1, hS2⟩, hag, hr⟩ := hG
  have hx := hc.1
  have hb := hc.2.1
  have hA := zA_A (ad := ad) (on := on) hN
  obtain ⟨hok, hd, h01⟩ := hV.ok
  obtain ⟨M, hQ⟩ := hV.q
  have h12 := hok.np12
  have h150 := hok.ns150
  have h40 := hok.nv40
  have enp := hok.np
  have ens := hok.ns
  have ena := hV.ena
  have env := hV.env
  have hY9 := hY
  obtain ⟨hy, hVY, hR0⟩ := hY
  obtain ⟨hokY, hdY, h01Y⟩ := hVY.ok
  intro H locs ls hP hS hT hl
  have hin : inB (nI j) (onp (X 0)) = true := inB_t.mpr (vp_in_nI hj (by omega))
  obtain ⟨w0, w5⟩ := why_rng hQ hj
  obtain ⟨d0, d2⟩ := dep_rng hQ hj
  refine lv_iload hx hb dL_sound_232 (lv_at hl 1 rfl) ?_
  refine lv_if_lt (tgt := 300) hx hb dL_sound_234 (by decide) (fun z => absurd z w0) (fun _ => ?_)
  refine lv_iload hx hb dL_sound_237 (lv_at hl 1 rfl) ?_
  refine lv_iconst (v := 5) hx hb dL_sound_239 (by decide) ?_
  refine lv_icmp_gt (tgt := 300) hx hb dL_sound_240 (by decide) (fun z => absurd z w5) (fun _ => ?_)
  refine lv_iload hx hb dL_sound_243 (lv_at hl 0 rfl) ?_
  refine lv_if_lt (tgt := 300) hx hb dL_sound_245 (by decide) (fun z => absurd z d0) (fun _ => ?_)
  refine lv_iload hx hb dL_sound_248 (lv_at hl 0 rfl) ?_
  refine lv_iconst (v := 2) hx hb dL_sound_250 (by decide) ?_
  refine lv_icmp_gt (tgt := 300) hx hb dL_sound_251 (by decide) (fun z => absurd z d2) (fun _ => ?_)
  refine lv_aload_n hx hb dL_sound_254 rfl (lv_at hl 10 rfl) ?_
  refine lv_bipush (v := 18) hx hb dL_sound_255 (by decide) ?_
  refine lv_iload hx hb dL_sound_257 (lv_at hl 2 rfl) ?_
  refine lv_iconst (v := 0) hx hb dL_sound_259 (by decide) ?_
  obtain ⟨r1, r2, r3⟩ := hVY.rp
  refine b_L (lk_reasonByReplay (X := Y) hfl hI hon0 hon1 hon2 hokY hdY r1 r2) hc hA (npic_eta hP) hS hl.1 gL_call nok_L_call rfl ⟨(Nat.le_of_ble_eq_true rfl), (Nat.le_of_ble_eq_true rfl)⟩ ⟨by show _ ≤ 1165; omega, by show _ ≤ 6990; omega⟩ dL_sound_260 rfl (Nat.le_of_ble_eq_true rfl) ?_
  intro r Y2 H locs hp hP hk hS
  replace hT := hT.kept hTn hk
  rw [nG_t (by rw [hy]; exact hin)] at hp
  have hp9 : (r, Y2) = (oWhy (oJudge (rpl (Y 2) (Y 1) (nix (Y 2 21 0 4)))) (nI j), wdo (wdo Y 0 (Y 0)) 1 (oJudge (rpl (Y 2) (Y 1) (nix (Y 2 21 0 4))))) := hp
  have hpr : r = oWhy (X 0) (nI j) := by
    have h9 := congrArg Prod.fst hp9
    exact h9.trans ((r3 j (by rw [hy]; exact hj)).trans (by rw [hy]))
  have hpY : Y2 = wdo (wdo Y 0 (Y 0)) 1 (oJudge (rpl (Y 2) (Y 1) (nix (Y 2 21 0 4)))) := congrArg Prod.snd hp9
  have hY2 : zY X nv e Y2 := by rw [hpY]; exact hY9.rep _
  clear hp hp9 hpY r1 r2 r3 hokY hdY h01Y hVY hy hR0 hY9
  have hY9 := hY2
  obtain ⟨hy, hVY, hR0⟩ := hY2
  obtain ⟨hokY, hdY, h01Y⟩ := hVY.ok
  subst hpr
  refine lv_iload hx hb dL_sound_263 (lv_at hl 1 rfl) ?_
  refine lv_icmp_ne (tgt := 300) hx hb dL_sound_265 (by decide) (fun z => absurd rfl z) (fun _ => ?_)
  refine lv_aload_n hx hb dL_sound_268 rfl (lv_at hl 10 rfl) ?_
  refine bx (As := []) (c_X9_isOpen (X := Y2) (S := Y2 0) hfl hI hon0 hon1 hon2 hokY hdY) hc hA hP hS hl.1 (ngoodV q327 q328 q329 q1 q330) (b_rec hc hP hon2) nok_X9_isOpen rfl ⟨(Nat.le_of_ble_eq_true rfl), (Nat.le_of_ble_eq_true rfl)⟩ ⟨by show _ ≤ 1165; omega, by show _ ≤ 6990; omega⟩ dL_sound_269 rfl (Nat.le_of_ble_eq_true rfl) ?_
  intro H locs hP hk hS
  replace hT := hT.kept hTn hk
  have go : W p l e9 zrm s m args below meth cd H locs (247 + 60 * j + 42 + 6 + 6) (6 * (247 + 60 * j + 42 + 6 + 6)) (MQ below (va_Qi (fun r X' => r = 1 ∧ ∃ R, X' = wdo X 1 R) (fun X' t => npic D dA ad on X' t.heap) (zA ad on N1)) args s 1165 6990 (zA ad on N1)) (F0 m 286 ls []) := by
    refine lv_aload_n hx hb dL_sound_286 rfl (lv_at hl 10 rfl) ?_
    refine lv_bipush (v := 31) hx hb dL_sound_287 (by decide) ?_
    refine lv_iload hx hb dL_sound_289 (lv_at hl 2 rfl) ?_
    refine lv_iconst (v := 4) hx hb dL_sound_291 (by decide) ?_
    refine bqv (w := -101) (by have h9 := lk_surname (l := l) (D := D) (dA := dA) (ad := ad) (on := on) (X := Y2) (a9 := nI j) (b9 := 4) hfl hI hon0 hon1 hon2 hokY hdY; rw [nG2] at h9; exact h9) (lq_f (by rw [show (decide ((0 : Int32) ≤ 4) && decide ((4 : Int32) < 4)) = false from by decide, Bool.and_false])) hc hA hP hS hl.1 rfl ⟨(Nat.le_of_ble_eq_true rfl), (Nat.le_of_ble_eq_true rfl)⟩ ⟨by show _ ≤ 1165; omega, by show _ ≤ 6990; omega⟩ dL_sound_292 rfl (Nat.le_of_ble_eq_true rfl) ?_
    intro H locs hP hk hS
    replace hT := hT.kept hTn hk
    refine lv_bipush (v := -101) hx hb dL_sound_295 (by decide) ?_
    refine lv_icmp_eq (tgt := 302) hx hb dL_sound_297 (by decide) (fun _ => ?_) (fun z => absurd rfl z)
    refine lv_iinc (lv' := [(11, .int (nI (j + 1))), (13, .int (oDep (X 0) (nI j))), (12, .int (oWhy (X 0) (nI j))), (10, .int (isum (fun k => X 0 11 k 8) (j + 1))), (9, .ref aT), (8, .int (isum (fun k => X 0 11 k 3) (j + 1))), (7, .int (isum (fun k => if oDep (X 0) (nI k) = 2 then X 0 11 k 3 else 0) (j + 1))), (6, .int (isum (fun k => if oDep (X 0) (nI k) = 0 then X 0 11 k 3 else 0) (j + 1))), (5, .int (isum (fun i => mny (X 0) (nI i) (ons (X 0))) nv)), (4, .int (nI (ons (X 0)))), (0, .ref (ad 2 20 0)), (1, .ref aP), (2, .ref aS), (3, .int (nI nv))]) (v := (nI (j + 1))) hx hb dL_sound_302 hl (k := 2) rfl (by rw [show Int32.ofInt 1 = 1 from by decide, nI_1]) (by decide) rfl (fun ls hl => ?_)
    refine lv_goto (tgt := 126) hx hb dL_sound_305 (by decide) ?_
    exact W.widen (by omega) (by omega) (ih Y2 hY9 H locs ls hP hS hT (lv_sub hl [0, 3, 4, 5, 6, 7, 8, 9, 10, 11, 12, 13] rfl))
  refine lv_if_eq (tgt := 286) hx hb dL_sound_272 (by decide) (fun _ => go) (fun ho => ?_)
  refine lv_iload hx hb dL_sound_275 (lv_at hl 1 rfl) ?_
  refine lv_iconst (v := 1) hx hb dL_sound_277 (by decide) ?_
  refine lv_icmp_eq (tgt := 286) hx hb dL_sound_278 (by decide) (fun _ => go) (fun hw => ?_)
  refine lv_iload hx hb dL_sound_281 (lv_at hl 0 rfl) ?_
  refine lv_if_ne (tgt := 300) hx hb dL_sound_283 (by decide) (fun z => absurd (dep_open (by rw [hy] at ho; exact nb_nz.mp ho) hw) z) (fun _ => go)
set_option maxHeartbeats 4000000 in
set_option maxRecDepth 100000 in
theorem z_p2 (hG : zG p l s m args meth cd D dA ad on X nv e aP aS N1 f1 f2) (hTn : ¬ nA ad on aT) (hTN : N1 ≤ aT) (hY : zY X nv e Y) {j : Nat} (hj : j < onp (X 0)) (ih : ∀ Y : NWd, zY X nv e Y → ∀ (H : Heap) (locs : List Loc) (ls : Array Slot), npic D dA ad on Y H → va_S (zA ad on N1) s.heap H locs → lAr D dA aT 2 (fun _ => 0) H → lv_has ls 14 [(11, .int (nI (j + 1))), (10, .int (isum (fun k => X 0 11 k 8) (j + 1))), (9, .ref aT), (8, .int (isum (fun k => X 0 11 k 3) (j + 1))), (7, .int (isum (fun k => if oDep (X 0) (nI k) = 2 then X 0 11 k 3 else 0) (j + 1))), (6, .int (isum (fun k => if oDep (X 0) (nI k) = 0 then X 0 11 k 3 else 0) (j + 1))), (5, .int (isum (fun i => mny (X 0) (nI i) (ons (X 0))) nv)), (4, .int (nI (ons (X 0)))), (0, .ref (ad 2 20 0)), (1, .ref aP), (2, .ref aS), (3, .int (nI nv))] → W p l e9 zrm s m args below meth cd H locs (247 + 60 * (j + 1)) (6 * (247 + 60 * (j + 1))) (MQ below (va_Qi (fun r X' => r = 1 ∧ ∃ R, X' = wdo X 1 R) (fun X' t => npic D dA ad on X' t.heap) (zA ad on N1)) args s 1165 6990 (zA ad on N1)) (F0 m 126 ls [])) : ∀ (H : Heap) (locs : List Loc) (ls : Array Slot), npic D dA ad on Y H → va_S (zA ad on N1) s.heap H locs → lAr D dA aT 2 (fun _ => 0) H → lv_has ls 14 [(13, .int (oDep (X 0) (nI j))), (12, .int (oWhy (X 0) (nI j))), (11, .int (nI j)), (10, .int (isum (fun k => X 0 11 k 8) (j + 1))), (9, .ref aT), (8, .int (isum (fun k => X 0 11 k 3) j)), (7, .int (isum (fun k => if oDep (X 0) (nI k) = 2 then X 0 11 k 3 else 0) j)), (6, .int (isum (fun k => if oDep (X 0) (nI k) = 0 then X 0 11 k 3 else 0) (j + 1))), (5, .int (isum (fun i => mny (X 0) (nI i) (ons (X 0))) nv)), (4, .int (nI (ons (X 0)))), (0, .ref (ad 2 20 0)), (1, .ref aP), (2, .ref aS), (3, .int (nI nv))] → W p l e9 zrm s m args below meth cd H locs (247 + 60 * j + 30) (6 * (247 + 60 * j + 30)) (MQ below (va_Qi (fun r X' => r = 1 ∧ ∃ R, X' = wdo X 1 R) (fun X' t => npic D dA ad on X' t.heap) (zA ad on N1)) args s 1165 6990 (zA ad on N1)) (F0 m 194 ls []) := by
  have hG9 := hG
  obtain ⟨hc, hfl, hI, hon0, hon1, hon2, hV, he, hN, ⟨hP1, hP2⟩, ⟨hS1, hS2⟩, hag, hr⟩ := hG
  have hx := hc.1
  have hb := hc.2.1
  have hA := zA_A (ad := ad) (on := on) hN
  obtain ⟨hok, hd, h01⟩ := hV.ok
  obtain ⟨M, hQ⟩ := hV.q
  have h12 := hok.np12
  have h150 := hok.ns150
  have h40 := hok.nv40
  have enp := hok.np
  have ens := hok.ns
  have ena := hV.ena
  have env := hV.env
  have hY9 := hY
  obtain ⟨hy, hVY, hR0⟩ := hY
  obtain ⟨hokY, hdY, h01Y⟩ := hVY.ok
  intro H locs ls hP hS hT hl
  have hin : inB (nI j) (onp (X 0)) = true := inB_t.mpr (vp_in_nI hj (by omega))
  refine lv_iload hx hb dL_sound_194 (lv_at hl 6 rfl) ?_
  refine lv_iload hx hb dL_sound_196 (lv_at hl 0 rfl) ?_
  refine lv_iconst (v := 2) hx hb dL_sound_198 (by decide) ?_
  have go : ∀ (v : Int32), (if oDep (X 0) (nI j) = 2 then X 0 11 j 3 else 0) = v → ∀ (H : Heap) (locs : List Loc), npic D dA ad on Y H → va_S (zA ad on N1) s.heap H locs → lAr D dA aT 2 (fun _ => 0) H → W p l e9 zrm s m args below meth cd H locs (247 + 60 * j + 36) (6 * (247 + 60 * j + 36)) (MQ below (va_Qi (fun r X' => r = 1 ∧ ∃ R, X' = wdo X 1 R) (fun X' t => npic D dA ad on X' t.heap) (zA ad on N1)) args s 1165 6990 (zA ad on N1)) (F0 m 215 ls [.int v, .int (isum (fun k => if oDep (X 0) (nI k) = 2 then X 0 11 k 3 else 0) j)]) := by
    intro v hv H locs hP hS hT
    refine lv_iadd hx hb dL_sound_215 ?_
    rw [show isum (fun k => if oDep (X 0) (nI k) = 2 then X 0 11 k 3 else 0) j + v = isum (fun k => if oDep (X 0) (nI k) = 2 then X 0 11 k 3 else 0) (j + 1) by rw [isum_s, hv]]
    refine lv_istore (lv' := [(7, .int (isum (fun k => if oDep (X 0) (nI k) = 2 then X 0 11 k 3 else 0) (j + 1))), (13, .int (oDep (X 0) (nI j))), (12, .int (oWhy (X 0) (nI j))), (11, .int (nI j)), (10, .int (isum (fun k => X 0 11 k 8) (j + 1))), (9, .ref aT), (8, .int (isum (fun k => X 0 11 k 3) j)), (6, .int (isum (fun k => if oDep (X 0) (nI k) = 0 then X 0 11 k 3 else 0) (j + 1))), (5, .int (isum (fun i => mny (X 0) (nI i) (ons (X 0))) nv)), (4, .int (nI (ons (X 0)))), (0, .ref (ad 2 20 0)), (1, .ref aP), (2, .ref aS), (3, .int (nI nv))]) hx hb dL_sound_216 hl (by decide) rfl (fun ls hl => ?_)
    refine lv_iload hx hb dL_sound_218 (lv_at hl 6 rfl) ?_
    refine lv_aload_n hx hb dL_sound_220 rfl (lv_at hl 10 rfl) ?_
    refine lv_bipush (v := 28) hx hb dL_sound_221 (by decide) ?_
    refine lv_iload hx hb dL_sound_223 (lv_at hl 3 rfl) ?_
    refine lv_iconst (v := 0) hx hb dL_sound_225 (by decide) ?_
    refine bqv (lk_paid (X := Y) hfl hI hon0 hon1 hon2 hokY hdY) ((lq_t (by rw [hy]; exact hin)).trans (by rw [hy, nix_nI (by omega)])) hc hA hP hS hl.1 rfl ⟨(Nat.le_of_ble_eq_true rfl), (Nat.le_of_ble_eq_true rfl)⟩ ⟨by show _ ≤ 1165; omega, by show _ ≤ 6990; omega⟩ dL_sound_226 rfl (Nat.le_of_ble_eq_true rfl) ?_
    intro H locs hP hk hS
    replace hT := hT.kept hTn hk
    refine lv_iadd hx hb dL_sound_229 ?_
    rw [show isum (fun k => X 0 11 k 3) j + X 0 11 j 3 = isum (fun k => X 0 11 k 3) (j + 1) from rfl]
    refine lv_istore (lv' := [(8, .int (isum (fun k => X 0 11 k 3) (j + 1))), (7, .int (isum (fun k => if oDep (X 0) (nI k) = 2 then X 0 11 k 3 else 0) (j + 1))), (13, .int (oDep (X 0) (nI j))), (12, .int (oWhy (X 0) (nI j))), (11, .int (nI j)), (10, .int (isum (fun k => X 0 11 k 8) (j + 1))), (9, .ref aT), (6, .int (isum (fun k => if oDep (X 0) (nI k) = 0 then X 0 11 k 3 else 0) (j + 1))), (5, .int (isum (fun i => mny (X 0) (nI i) (ons (X 0))) nv)), (4, .int (nI (ons (X 0)))), (0, .ref (ad 2 20 0)), (1, .ref aP), (2, .ref aS), (3, .int (nI nv))]) hx hb dL_sound_230 hl (by decide) rfl (fun ls hl => ?_)
    exact W.widen (by omega) (by omega) (z_p3 hG9 hTn hTN hY9 hj ih H locs ls hP hS hT (lv_sub hl [2, 3, 4, 5, 6, 0, 1, 7, 8, 9, 10, 11, 12, 13] rfl))
  refine lv_icmp_ne (tgt := 214) hx hb dL_sound_199 (by decide) (fun z => ?_) (fun z => ?_)
  · refine lv_iconst (v := 0) hx hb dL_sound_214 (by decide) ?_
    exact W.widen (by omega) (by omega) (go 0 (if_neg z) H locs hP hS hT)
  · refine lv_aload_n hx hb dL_sound_202 rfl (lv_at hl 10 rfl) ?_
    refine lv_bipush (v := 28) hx hb dL_sound_203 (by decide) ?_
    refine lv_iload hx hb dL_sound_205 (lv_at hl 2 rfl) ?_
    refine lv_iconst (v := 0) hx hb dL_sound_207 (by decide) ?_
    refine bqv (lk_paid (X := Y) hfl hI hon0 hon1 hon2 hokY hdY) ((lq_t (by rw [hy]; exact hin)).trans (by rw [hy, nix_nI (by omega)])) hc hA hP hS hl.1 rfl ⟨(Nat.le_of_ble_eq_true rfl), (Nat.le_of_ble_eq_true rfl)⟩ ⟨by show _ ≤ 1165; omega, by show _ ≤ 6990; omega⟩ dL_sound_208 rfl (Nat.le_of_ble_eq_true rfl) ?_
    intro H locs hP hk hS
    replace hT := hT.kept hTn hk
    refine lv_goto (tgt := 215) hx hb dL_sound_211 (by decide) ?_
    exact W.widen (by omega) (by omega) (go _ (if_pos z) H locs hP hS hT)
set_option maxHeartbeats 4000000 in
set_option maxRecDepth 100000 in
theorem z_p1 (hG : zG p l s m args meth cd D dA ad on X nv e aP aS N1 f1 f2) (hTn : ¬ nA ad on aT) (hTN : N1 ≤ aT) (hY : zY X nv e Y) {j : Nat} (hj : j < onp (X 0)) (ih : ∀ Y : NWd, zY X nv e Y → ∀ (H : Heap) (locs : List Loc) (ls : Array Slot), npic D dA ad on Y H → va_S (zA ad on N1) s.heap H locs → lAr D dA aT 2 (fun _ => 0) H → lv_has ls 14 [(11, .int (nI (j + 1))), (10, .int (isum (fun k => X 0 11 k 8) (j + 1))), (9, .ref aT), (8, .int (isum (fun k => X 0 11 k 3) (j + 1))), (7, .int (isum (fun k => if oDep (X 0) (nI k) = 2 then X 0 11 k 3 else 0) (j + 1))), (6, .int (isum (fun k => if oDep (X 0) (nI k) = 0 then X 0 11 k 3 else 0) (j + 1))), (5, .int (isum (fun i => mny (X 0) (nI i) (ons (X 0))) nv)), (4, .int (nI (ons (X 0)))), (0, .ref (ad 2 20 0)), (1, .ref aP), (2, .ref aS), (3, .int (nI nv))] → W p l e9 zrm s m args below meth cd H locs (247 + 60 * (j + 1)) (6 * (247 + 60 * (j + 1))) (MQ below (va_Qi (fun r X' => r = 1 ∧ ∃ R, X' = wdo X 1 R) (fun X' t => npic D dA ad on X' t.heap) (zA ad on N1)) args s 1165 6990 (zA ad on N1)) (F0 m 126 ls [])) : ∀ (H : Heap) (locs : List Loc) (ls : Array Slot), npic D dA ad on Y H → va_S (zA ad on N1) s.heap H locs → lAr D dA aT 2 (fun _ => 0) H → lv_has ls 14 [(11, .int (nI j)), (10, .int (isum (fun k => X 0 11 k 8) j)), (9, .ref aT), (8, .int (isum (fun k => X 0 11 k 3) j)), (7, .int (isum (fun k => if oDep (X 0) (nI k) = 2 then X 0 11 k 3 else 0) j)), (6, .int (isum (fun k => if oDep (X 0) (nI k) = 0 then X 0 11 k 3 else 0) j)), (5, .int (isum (fun i => mny (X 0) (nI i) (ons (X 0))) nv)), (4, .int (nI (ons (X 0)))), (0, .ref (ad 2 20 0)), (1, .ref aP), (2, .ref aS), (3, .int (nI nv))] → W p l e9 zrm s m args below meth cd H locs (247 + 60 * j + 6) (6 * (247 + 60 * j + 6)) (MQ below (va_Qi (fun r X' => r = 1 ∧ ∃ R, X' = wdo X 1 R) (fun X' t => npic D dA ad on X' t.heap) (zA ad on N1)) args s 1165 6990 (zA ad on N1)) (F0 m 135 ls []) := by
  have hG9 := hG
  obtain ⟨hc, hfl, hI, hon0, hon1, hon2, hV, he, hN, ⟨hP1, hP2⟩, ⟨hS1, hS2⟩, hag, hr⟩ := hG
  have hx := hc.1
  have hb := hc.2.1
  have hA := zA_A (ad := ad) (on := on) hN
  obtain ⟨hok, hd, h01⟩ := hV.ok
  obtain ⟨M, hQ⟩ := hV.q
  have h12 := hok.np12
  have h150 := hok.ns150
  have h40 := hok.nv40
  have enp := hok.np
  have ens := hok.ns
  have ena := hV.ena
  have env := hV.env
  have hY9 := hY
  obtain ⟨hy, hVY, hR0⟩ := hY
  obtain ⟨hokY, hdY, h01Y⟩ := hVY.ok
  intro H locs ls hP hS hT hl
  have hin : inB (nI j) (onp (X 0)) = true := inB_t.mpr (vp_in_nI hj (by omega))
  refine lv_aload_n hx hb dL_sound_135 rfl (lv_at hl 8 rfl) ?_
  refine lv_bipush (v := 17) hx hb dL_sound_136 (by decide) ?_
  refine lv_iload hx hb dL_sound_138 (lv_at hl 0 rfl) ?_
  refine lv_iconst (v := 0) hx hb dL_sound_140 (by decide) ?_
  refine bqv (lk_reason (X := Y) hfl hI hon0 hon1 hon2 hokY hdY) ((lq_t (by rw [hy]; exact hin)).trans (by rw [hy])) hc hA hP hS hl.1 rfl ⟨(Nat.le_of_ble_eq_true rfl), (Nat.le_of_ble_eq_true rfl)⟩ ⟨by show _ ≤ 1165; omega, by show _ ≤ 6990; omega⟩ dL_sound_141 rfl (Nat.le_of_ble_eq_true rfl) ?_
  intro H locs hP hk hS
  replace hT := hT.kept hTn hk
  refine lv_istore (lv' := [(12, .int (oWhy (X 0) (nI j))), (11, .int (nI j)), (10, .int (isum (fun k => X 0 11 k 8) j)), (9, .ref aT), (8, .int (isum (fun k => X 0 11 k 3) j)), (7, .int (isum (fun k => if oDep (X 0) (nI k) = 2 then X 0 11 k 3 else 0) j)), (6, .int (isum (fun k => if oDep (X 0) (nI k) = 0 then X 0 11 k 3 else 0) j)), (5, .int (isum (fun i => mny (X 0) (nI i) (ons (X 0))) nv)), (4, .int (nI (ons (X 0)))), (0, .ref (ad 2 20 0)), (1, .ref aP), (2, .ref aS), (3, .int (nI nv))]) hx hb dL_sound_144 hl (by decide) rfl (fun ls hl => ?_)
  refine lv_aload_n hx hb dL_sound_146 rfl (lv_at hl 9 rfl) ?_
  refine lv_bipush (v := 27) hx hb dL_sound_147 (by decide) ?_
  refine lv_iload hx hb dL_sound_149 (lv_at hl 1 rfl) ?_
  refine lv_iconst (v := 0) hx hb dL_sound_151 (by decide) ?_
  refine bqv (lk_deposit (X := Y) hfl hI hon0 hon1 hon2 hokY hdY) ((lq_t (by rw [hy]; exact hin)).trans (by rw [hy])) hc hA hP hS hl.1 rfl ⟨(Nat.le_of_ble_eq_true rfl), (Nat.le_of_ble_eq_true rfl)⟩ ⟨by show _ ≤ 1165; omega, by show _ ≤ 6990; omega⟩ dL_sound_152 rfl (Nat.le_of_ble_eq_true rfl) ?_
  intro H locs hP hk hS
  replace hT := hT.kept hTn hk
  refine lv_istore (lv' := [(13, .int (oDep (X 0) (nI j))), (12, .int (oWhy (X 0) (nI j))), (11, .int (nI j)), (10, .int (isum (fun k => X 0 11 k 8) j)), (9, .ref aT), (8, .int (isum (fun k => X 0 11 k 3) j)), (7, .int (isum (fun k => if oDep (X 0) (nI k) = 2 then X 0 11 k 3 else 0) j)), (6, .int (isum (fun k => if oDep (X 0) (nI k) = 0 then X 0 11 k 3 else 0) j)), (5, .int (isum (fun i => mny (X 0) (nI i) (ons (X 0))) nv)), (4, .int (nI (ons (X 0)))), (0, .ref (ad 2 20 0)), (1, .ref aP), (2, .ref aS), (3, .int (nI nv))]) hx hb dL_sound_155 hl (by decide) rfl (fun ls hl => ?_)
  refine lv_iload hx hb dL_sound_157 (lv_at hl 3 rfl) ?_
  refine lv_aload_n hx hb dL_sound_159 rfl (lv_at hl 10 rfl) ?_
  refine lv_bipush (v := 11) hx hb dL_sound_160 (by decide) ?_
  refine lv_iload hx hb dL_sound_162 (lv_at hl 2 rfl) ?_
  refine lv_iconst (v := 0) hx hb dL_sound_164 (by decide) ?_
  refine bqv (lk_counted (X := Y) hfl hI hon0 hon1 hon2 hokY hdY) ((lq_t (by rw [hy]; exact hin)).trans (by rw [hy, nix_nI (by omega)])) hc hA hP hS hl.1 rfl ⟨(Nat.le_of_ble_eq_true rfl), (Nat.le_of_ble_eq_true rfl)⟩ ⟨by show _ ≤ 1165; omega, by show _ ≤ 6990; omega⟩ dL_sound_165 rfl (Nat.le_of_ble_eq_true rfl) ?_
  intro H locs hP hk hS
  replace hT := hT.kept hTn hk
  refine lv_iadd hx hb dL_sound_168 ?_
  rw [show isum (fun k => X 0 11 k 8) j + X 0 11 j 8 = isum (fun k => X 0 11 k 8) (j + 1) from rfl]
  refine lv_istore (lv' := [(10, .int (isum (fun k => X 0 11 k 8) (j + 1))), (13, .int (oDep (X 0) (nI j))), (12, .int (oWhy (X 0) (nI j))), (11, .int (nI j)), (9, .ref aT), (8, .int (isum (fun k => X 0 11 k 3) j)), (7, .int (isum (fun k => if oDep (X 0) (nI k) = 2 then X 0 11 k 3 else 0) j)), (6, .int (isum (fun k => if oDep (X 0) (nI k) = 0 then X 0 11 k 3 else 0) j)), (5, .int (isum (fun i => mny (X 0) (nI i) (ons (X 0))) nv)), (4, .int (nI (ons (X 0)))), (0, .ref (ad 2 20 0)), (1, .ref aP), (2, .ref aS), (3, .int (nI nv))]) hx hb dL_sound_169 hl (by decide) rfl (fun ls hl => ?_)
  refine lv_iload hx hb dL_sound_171 (lv_at hl 7 rfl) ?_
  refine lv_iload hx hb dL_sound_173 (lv_at hl 1 rfl) ?_
  have go : ∀ (v : Int32), (if oDep (X 0) (nI j) = 0 then X 0 11 j 3 else 0) = v → ∀ (H : Heap) (locs : List Loc), npic D dA ad on Y H → va_S (zA ad on N1) s.heap H locs → lAr D dA aT 2 (fun _ => 0) H → W p l e9 zrm s m args below meth cd H locs (247 + 60 * j + 30) (6 * (247 + 60 * j + 30)) (MQ below (va_Qi (fun r X' => r = 1 ∧ ∃ R, X' = wdo X 1 R) (fun X' t => npic D dA ad on X' t.heap) (zA ad on N1)) args s 1165 6990 (zA ad on N1)) (F0 m 191 ls [.int v, .int (isum (fun k => if oDep (X 0) (nI k) = 0 then X 0 11 k 3 else 0) j)]) := by
    intro v hv H locs hP hS hT
    refine lv_iadd hx hb dL_sound_191 ?_
    rw [show isum (fun k => if oDep (X 0) (nI k) = 0 then X 0 11 k 3 else 0) j + v = isum (fun k => if oDep (X 0) (nI k) = 0 then X 0 11 k 3 else 0) (j + 1) by rw [isum_s, hv]]
    refine lv_istore (lv' := [(6, .int (isum (fun k => if oDep (X 0) (nI k) = 0 then X 0 11 k 3 else 0) (j + 1))), (10, .int (isum (fun k => X 0 11 k 8) (j + 1))), (13, .int (oDep (X 0) (nI j))), (12, .int (oWhy (X 0) (nI j))), (11, .int (nI j)), (9, .ref aT), (8, .int (isum (fun k => X 0 11 k 3) j)), (7, .int (isum (fun k => if oDep (X 0) (nI k) = 2 then X 0 11 k 3 else 0) j)), (5, .int (isum (fun i => mny (X 0) (nI i) (ons (X 0))) nv)), (4, .int (nI (ons (X 0)))), (0, .ref (ad 2 20 0)), (1, .ref aP), (2, .ref aS), (3, .int (nI nv))]) hx hb dL_sound_192 hl (by decide) rfl (fun ls hl => ?_)
    exact W.widen (by omega) (by omega) (z_p2 hG9 hTn hTN hY9 hj ih H locs ls hP hS hT (lv_sub hl [2, 3, 4, 1, 5, 6, 7, 0, 8, 9, 10, 11, 12, 13] rfl))
  refine lv_if_ne (tgt := 190) hx hb dL_sound_175 (by decide) (fun z => ?_) (fun z => ?_)
  · refine lv_iconst (v := 0) hx hb dL_sound_190 (by decide) ?_
    exact W.widen (by omega) (by omega) (go 0 (if_neg z) H locs hP hS hT)
  · refine lv_aload_n hx hb dL_sound_178 rfl (lv_at hl 10 rfl) ?_
    refine lv_bipush (v := 28) hx hb dL_sound_179 (by decide) ?_
    refine lv_iload hx hb dL_sound_181 (lv_at hl 3 rfl) ?_
    refine lv_iconst (v := 0) hx hb dL_sound_183 (by decide) ?_
    refine bqv (lk_paid (X := Y) hfl hI hon0 hon1 hon2 hokY hdY) ((lq_t (by rw [hy]; exact hin)).trans (by rw [hy, nix_nI (by omega)])) hc hA hP hS hl.1 rfl ⟨(Nat.le_of_ble_eq_true rfl), (Nat.le_of_ble_eq_true rfl)⟩ ⟨by show _ ≤ 1165; omega, by show _ ≤ 6990; omega⟩ dL_sound_184 rfl (Nat.le_of_ble_eq_true rfl) ?_
    intro H locs hP hk hS
    replace hT := hT.kept hTn hk
    refine lv_goto (tgt := 191) hx hb dL_sound_187 (by decide) ?_
    exact W.widen (by omega) (by omega) (go _ (if_pos z) H locs hP hS hT)
set_option maxHeartbeats 4000000 in
set_option maxRecDepth 100000 in
theorem z_pap (hG : zG p l s m args meth cd D dA ad on X nv e aP aS N1 f1 f2) (hTn : ¬ nA ad on aT) (hTN : N1 ≤ aT) : ∀ (n j : Nat), n + j = onp (X 0) → ∀ Y : NWd, zY X nv e Y → ∀ (H : Heap) (locs : List Loc) (ls : Array Slot), npic D dA ad on Y H → va_S (zA ad on N1) s.heap H locs → lAr D dA aT 2 (fun _ => 0) H → lv_has ls 14 [(11, .int (nI j)), (10, .int (isum (fun k => X 0 11 k 8) j)), (9, .ref aT), (8, .int (isum (fun k => X 0 11 k 3) j)), (7, .int (isum (fun k => if oDep (X 0) (nI k) = 2 then X 0 11 k 3 else 0) j)), (6, .int (isum (fun k => if oDep (X 0) (nI k) = 0 then X 0 11 k 3 else 0) j)), (5, .int (isum (fun i => mny (X 0) (nI i) (ons (X 0))) nv)), (4, .int (nI (ons (X 0)))), (0, .ref (ad 2 20 0)), (1, .ref aP), (2, .ref aS), (3, .int (nI nv))] → W p l e9 zrm s m args below meth cd H locs (247 + 60 * j) (6 * (247 + 60 * j)) (MQ below (va_Qi (fun r X' => r = 1 ∧ ∃ R, X' = wdo X 1 R) (fun X' t => npic D dA ad on X' t.heap) (zA ad on N1)) args s 1165 6990 (zA ad on N1)) (F0 m 126 ls []) := by
  have hG9 := hG
  obtain ⟨hc, hfl, hI, hon0, hon1, hon2, hV, he, hN, ⟨hP1, hP2⟩, ⟨hS1, hS2⟩, hag, hr⟩ := hG
  have hx := hc.1
  have hb := hc.2.1
  have hA := zA_A (ad := ad) (on := on) hN
  obtain ⟨hok, hd, h01⟩ := hV.ok
  obtain ⟨M, hQ⟩ := hV.q
  have h12 := hok.np12
  have h150 := hok.ns150
  have h40 := hok.nv40
  have enp := hok.np
  have ens := hok.ns
  have ena := hV.ena
  have env := hV.env
  intro n
  induction n with
  | zero =>
    intro j hj Y hY H locs ls hP hS hT hl
    have hY9 := hY
    obtain ⟨hy, hVY, hR0⟩ := hY
    obtain ⟨hokY, hdY, h01Y⟩ := hVY.ok
    refine lv_iload hx hb dL_sound_126 (lv_at hl 0 rfl) ?_
    refine lv_aload_n hx hb dL_sound_128 rfl (lv_at hl 8 rfl) ?_
    refine bx (As := []) (c_X9_papers (X := Y) (S := Y 0) hfl hI hon0 hon1 hon2 hokY hdY) hc hA hP hS hl.1 (ngoodV q335 q336 q337 q1 q338) (b_rec hc hP hon2) nok_X9_papers rfl ⟨(Nat.le_of_ble_eq_true rfl), (Nat.le_of_ble_eq_true rfl)⟩ ⟨by show _ ≤ 1165; omega, by show _ ≤ 6990; omega⟩ dL_sound_129 rfl (Nat.le_of_ble_eq_true rfl) ?_
    intro H locs hP hk hS
    replace hT := hT.kept hTn hk
    rw [hy, enp]
    obtain rfl : j = onp (X 0) := by omega
    refine lv_icmp_ge (tgt := 308) hx hb dL_sound_132 (by decide) (fun _ => ?_) (fun z => absurd ((nI_leI (by omega) (by omega)).mpr (Nat.le_refl _)) z)
    exact W.widen (by omega) (by omega) (z_area hG9 hTn hTN hY9 H locs ls hP hS hT (lv_sub hl [1, 2, 3, 4, 5, 6, 7, 8, 9, 10, 11] rfl))
  | succ n ih =>
    intro j hj Y hY H locs ls hP hS hT hl
    have hY9 := hY
    obtain ⟨hy, hVY, hR0⟩ := hY
    obtain ⟨hokY, hdY, h01Y⟩ := hVY.ok
    refine lv_iload hx hb dL_sound_126 (lv_at hl 0 rfl) ?_
    refine lv_aload_n hx hb dL_sound_128 rfl (lv_at hl 8 rfl) ?_
    refine bx (As := []) (c_X9_papers (X := Y) (S := Y 0) hfl hI hon0 hon1 hon2 hokY hdY) hc hA hP hS hl.1 (ngoodV q335 q336 q337 q1 q338) (b_rec hc hP hon2) nok_X9_papers rfl ⟨(Nat.le_of_ble_eq_true rfl), (Nat.le_of_ble_eq_true rfl)⟩ ⟨by show _ ≤ 1165; omega, by show _ ≤ 6990; omega⟩ dL_sound_129 rfl (Nat.le_of_ble_eq_true rfl) ?_
    intro H locs hP hk hS
    replace hT := hT.kept hTn hk
    rw [hy, enp]
    refine lv_icmp_ge (tgt := 308) hx hb dL_sound_132 (by decide) (fun z => absurd ((nI_leI (by omega) (by omega)).mp z) (by omega)) (fun _ => ?_)
    exact W.widen (by omega) (by omega) (z_p1 hG9 hTn hTN hY9 (by omega) (ih (j + 1) (by omega)) H locs ls hP hS hT hl)
set_option maxHeartbeats 4000000 in
set_option maxRecDepth 100000 in
theorem z_in (hG : zG p l s m args meth cd D dA ad on X nv e aP aS N1 f1 f2) (hTn : ¬ nA ad on aT) (hTN : N1 ≤ aT) {j : Nat} (hj : j < nv) (ho : ∀ (H : Heap) (locs : List Loc) (ls : Array Slot), npic D dA ad on X H → va_S (zA ad on N1) s.heap H locs → lAr D dA aT 2 (fun _ => 0) H → lv_has ls 14 [(13, .int (nI (ons (X 0)))), (12, .int (its (X 0) (nI j) (ons (X 0)))), (11, .int (mny (X 0) (nI j) (ons (X 0)))), (10, .int (nI j)), (9, .ref aT), (8, .int 0), (7, .int 0), (6, .int 0), (5, .int (isum (fun i => mny (X 0) (nI i) (ons (X 0))) j)), (4, .int (nI (ons (X 0)))), (0, .ref (ad 2 20 0)), (1, .ref aP), (2, .ref aS), (3, .int (nI nv))] → W p l e9 zrm s m args below meth cd H locs (7 + 6 * j) (6 * (7 + 6 * j)) (MQ below (va_Qi (fun r X' => r = 1 ∧ ∃ R, X' = wdo X 1 R) (fun X' t => npic D dA ad on X' t.heap) (zA ad on N1)) args s 1165 6990 (zA ad on N1)) (F0 m 85 ls [])) : ∀ (n k : Nat), n + k = ons (X 0) → ∀ (H : Heap) (locs : List Loc) (ls : Array Slot), npic D dA ad on X H → va_S (zA ad on N1) s.heap H locs → lAr D dA aT 2 (fun _ => 0) H → lv_has ls 14 [(13, .int (nI k)), (12, .int (its (X 0) (nI j) k)), (11, .int (mny (X 0) (nI j) k)), (10, .int (nI j)), (9, .ref aT), (8, .int 0), (7, .int 0), (6, .int 0), (5, .int (isum (fun i => mny (X 0) (nI i) (ons (X 0))) j)), (4, .int (nI (ons (X 0)))), (0, .ref (ad 2 20 0)), (1, .ref aP), (2, .ref aS), (3, .int (nI nv))] → W p l e9 zrm s m args below meth cd H locs (7 + 6 * j) (6 * (7 + 6 * j)) (MQ below (va_Qi (fun r X' => r = 1 ∧ ∃ R, X' = wdo X 1 R) (fun X' t => npic D dA ad on X' t.heap) (zA ad on N1)) args s 1165 6990 (zA ad on N1)) (F0 m 42 ls []) := by
  have hG9 := hG
  obtain ⟨hc, hfl, hI, hon0, hon1, hon2, hV, he, hN, ⟨hP1, hP2⟩, ⟨hS1, hS2⟩, hag, hr⟩ := hG
  have hx := hc.1
  have hb := hc.2.1
  have hA := zA_A (ad := ad) (on := on) hN
  obtain ⟨hok, hd, h01⟩ := hV.ok
  obtain ⟨M, hQ⟩ := hV.q
  have h12 := hok.np12
  have h150 := hok.ns150
  have h40 := hok.nv40
  have enp := hok.np
  have ens := hok.ns
  have ena := hV.ena
  have env := hV.env
  intro n
  induction n with
  | zero =>
    intro k hk9 H locs ls hP hS hT hl
    refine lv_iload hx hb dL_sound_42 (lv_at hl 0 rfl) ?_
    refine lv_iload hx hb dL_sound_44 (lv_at hl 9 rfl) ?_
    obtain rfl : k = ons (X 0) := by omega
    refine lv_icmp_ge (tgt := 85) hx hb dL_sound_46 (by decide) (fun _ => ?_) (fun z => absurd ((nI_leI (by omega) (by omega)).mpr (Nat.le_refl _)) z)
    exact ho H locs ls hP hS hT hl
  | succ n ih =>
    intro k hk9 H locs ls hP hS hT hl
    refine lv_iload hx hb dL_sound_42 (lv_at hl 0 rfl) ?_
    refine lv_iload hx hb dL_sound_44 (lv_at hl 9 rfl) ?_
    refine lv_icmp_ge (tgt := 85) hx hb dL_sound_46 (by decide) (fun z => absurd ((nI_leI (by omega) (by omega)).mp z) (by omega)) (fun _ => ?_)
    have hkn : k < ons (X 0) := by omega
    have go : ∀ (a b : Int32), a = mny (X 0) (nI j) (k + 1) → b = its (X 0) (nI j) (k + 1) → ∀ (H : Heap) (locs : List Loc) (ls : Array Slot), npic D dA ad on X H → va_S (zA ad on N1) s.heap H locs → lAr D dA aT 2 (fun _ => 0) H → lv_has ls 14 [(13, .int (nI k)), (12, .int b), (11, .int a), (10, .int (nI j)), (9, .ref aT), (8, .int 0), (7, .int 0), (6, .int 0), (5, .int (isum (fun i => mny (X 0) (nI i) (ons (X 0))) j)), (4, .int (nI (ons (X 0)))), (0, .ref (ad 2 20 0)), (1, .ref aP), (2, .ref aS), (3, .int (nI nv))] → W p l e9 zrm s m args below meth cd H locs (7 + 6 * j) (6 * (7 + 6 * j)) (MQ below (va_Qi (fun r X' => r = 1 ∧ ∃ R, X' = wdo X 1 R) (fun X' t => npic D dA ad on X' t.heap) (zA ad on N1)) args s 1165 6990 (zA ad on N1)) (F0 m 79 ls []) := by
      intro a b ha hb9 H locs ls hP hS hT hl
      subst ha hb9
      refine lv_iinc (lv' := [(13, .int (nI (k + 1))), (12, .int (its (X 0) (nI j) (k + 1))), (11, .int (mny (X 0) (nI j) (k + 1))), (10, .int (nI j)), (9, .ref aT), (8, .int 0), (7, .int 0), (6, .int 0), (5, .int (isum (fun i => mny (X 0) (nI i) (ons (X 0))) j)), (4, .int (nI (ons (X 0)))), (0, .ref (ad 2 20 0)), (1, .ref aP), (2, .ref aS), (3, .int (nI nv))]) (v := (nI (k + 1))) hx hb dL_sound_79 hl (k := 0) rfl (by rw [show Int32.ofInt 1 = 1 from by decide, nI_1]) (by decide) rfl (fun ls hl => ?_)
      refine lv_goto (tgt := 42) hx hb dL_sound_82 (by decide) ?_
      exact ih (k + 1) (by omega) H locs ls hP hS hT hl
    refine lv_aload_n hx hb dL_sound_49 rfl (lv_at hl 12 rfl) ?_
    refine lv_iload hx hb dL_sound_50 (lv_at hl 0 rfl) ?_
    refine b_ald hc (zA_ar hN hS1 hS2 hS) (vp_in_nI (by omega) (by omega)) dL_sound_52 ?_
    rw [nix_nI (by omega), (hag k hkn).2]
    refine lv_iload hx hb dL_sound_53 (lv_at hl 3 rfl) ?_
    refine lv_icmp_ne (tgt := 79) hx hb dL_sound_55 (by decide) (fun z => ?_) (fun z => ?_)
    · have hcn : ¬ cnd (X 0) (nI j) k = true := fun q => z (by unfold cnd at q; rw [Bool.and_eq_true, decide_eq_true_eq] at q; exact q.1)
      exact go _ _ (by rw [mny_s, if_neg hcn, Int32.add_zero]) (by rw [its_s, if_neg hcn]) H locs ls hP hS hT hl
    · refine lv_aload_n hx hb dL_sound_58 rfl (lv_at hl 10 rfl) ?_
      refine lv_bipush (v := 12) hx hb dL_sound_59 (by decide) ?_
      refine lv_iload hx hb dL_sound_61 (lv_at hl 0 rfl) ?_
      refine lv_iconst (v := 0) hx hb dL_sound_63 (by decide) ?_
      refine b_L (lk0_signatureResult (X := X) hI hon0 hon2 hok (nI_pos' (by omega)) (by rw [ens]; exact (nI_ltI (by omega) (by omega)).mpr hkn)) hc hA (npic_eta hP) hS hl.1 gL_call nok_L_call rfl ⟨(Nat.le_of_ble_eq_true rfl), (Nat.le_of_ble_eq_true rfl)⟩ ⟨by show _ ≤ 1165; omega, by show _ ≤ 6990; omega⟩ dL_sound_64 rfl (Nat.le_of_ble_eq_true rfl) ?_
      intro r X2 H locs hp hP hk hS
      obtain ⟨hr9, e9⟩ := hp
      rw [e9, wdo_eta] at hP
      replace hT := hT.kept hTn hk
      rw [nix_nI (by omega)] at hr9
      subst hr9
      refine lv_if_ne (tgt := 79) hx hb dL_sound_67 (by decide) (fun z2 => ?_) (fun z2 => ?_)
      · have hcn : ¬ cnd (X 0) (nI j) k = true := fun q => z2 (by unfold cnd at q; rw [Bool.and_eq_true, decide_eq_true_eq, decide_eq_true_eq] at q; exact q.2)
        exact W.widen (by omega) (by omega) (go _ _ (by rw [mny_s, if_neg hcn, Int32.add_zero]) (by rw [its_s, if_neg hcn]) H locs ls hP hS hT hl)
      · have hcn : cnd (X 0) (nI j) k = true := by unfold cnd; rw [decide_eq_true z, decide_eq_true z2]; rfl
        refine lv_iinc (lv' := [(11, .int (mny (X 0) (nI j) (k + 1))), (13, .int (nI k)), (12, .int (its (X 0) (nI j) k)), (10, .int (nI j)), (9, .ref aT), (8, .int 0), (7, .int 0), (6, .int 0), (5, .int (isum (fun i => mny (X 0) (nI i) (ons (X 0))) j)), (4, .int (nI (ons (X 0)))), (0, .ref (ad 2 20 0)), (1, .ref aP), (2, .ref aS), (3, .int (nI nv))]) (v := (mny (X 0) (nI j) (k + 1))) hx hb dL_sound_70 hl (k := 2) rfl (by rw [mny_s, if_pos hcn]; rfl) (by decide) rfl (fun ls hl => ?_)
        refine lv_aload_n hx hb dL_sound_73 rfl (lv_at hl 11 rfl) ?_
        refine lv_iload hx hb dL_sound_74 (lv_at hl 1 rfl) ?_
        refine b_ald hc (zA_ar hN hP1 hP2 hS) (vp_in_nI (by omega) (by omega)) dL_sound_76 ?_
        rw [nix_nI (by omega), (hag k hkn).1]
        refine lv_istore (lv' := [(12, .int (X 0 13 k 0)), (11, .int (mny (X 0) (nI j) (k + 1))), (13, .int (nI k)), (10, .int (nI j)), (9, .ref aT), (8, .int 0), (7, .int 0), (6, .int 0), (5, .int (isum (fun i => mny (X 0) (nI i) (ons (X 0))) j)), (4, .int (nI (ons (X 0)))), (0, .ref (ad 2 20 0)), (1, .ref aP), (2, .ref aS), (3, .int (nI nv))]) hx hb dL_sound_77 hl (by decide) rfl (fun ls hl => ?_)
        exact W.widen (by omega) (by omega) (go _ _ rfl (by rw [its_s, if_pos hcn]) H locs ls hP hS hT (lv_sub hl [2, 0, 1, 3, 4, 5, 6, 7, 8, 9, 10, 11, 12, 13] rfl))
set_option maxHeartbeats 4000000 in
set_option maxRecDepth 100000 in
theorem z_vot (hG : zG p l s m args meth cd D dA ad on X nv e aP aS N1 f1 f2) (hTn : ¬ nA ad on aT) (hTN : N1 ≤ aT) : ∀ (n j : Nat), n + j = nv → ∀ (H : Heap) (locs : List Loc) (ls : Array Slot), npic D dA ad on X H → va_S (zA ad on N1) s.heap H locs → lAr D dA aT 2 (fun _ => 0) H → lv_has ls 14 [(10, .int (nI j)), (9, .ref aT), (8, .int 0), (7, .int 0), (6, .int 0), (5, .int (isum (fun i => mny (X 0) (nI i) (ons (X 0))) j)), (4, .int (nI (ons (X 0)))), (0, .ref (ad 2 20 0)), (1, .ref aP), (2, .ref aS), (3, .int (nI nv))] → W p l e9 zrm s m args below meth cd H locs (7 + 6 * j) (6 * (7 + 6 * j)) (MQ below (va_Qi (fun r X' => r = 1 ∧ ∃ R, X' = wdo X 1 R) (fun X' t => npic D dA ad on X' t.heap) (zA ad on N1)) args s 1165 6990 (zA ad on N1)) (F0 m 26 ls []) := by
  have hG9 := hG
  obtain ⟨hc, hfl, hI, hon0, hon1, hon2, hV, he, hN, ⟨hP1, hP2⟩, ⟨hS1, hS2⟩, hag, hr⟩ := hG
  have hx := hc.1
  have hb := hc.2.1
  have hA := zA_A (ad := ad) (on := on) hN
  obtain ⟨hok, hd, h01⟩ := hV.ok
  obtain ⟨M, hQ⟩ := hV.q
  have h12 := hok.np12
  have h150 := hok.ns150
  have h40 := hok.nv40
  have enp := hok.np
  have ens := hok.ns
  have ena := hV.ena
  have env := hV.env
  have hokY := hok
  have hdY := hd
  intro n
  induction n with
  | zero =>
    intro j hj H locs ls hP hS hT hl
    refine lv_iload hx hb dL_sound_26 (lv_at hl 0 rfl) ?_
    refine lv_iload_n hx hb dL_sound_28 rfl (lv_at hl 10 rfl) ?_
    obtain rfl : nv = j := by omega
    refine lv_icmp_ge (tgt := 120) hx hb dL_sound_29 (by decide) (fun _ => ?_) (fun z => absurd ((nI_leI (by omega) (by omega)).mpr (Nat.le_refl _)) z)
    refine lv_iconst (v := 0) hx hb dL_sound_120 (by decide) ?_
    refine lv_istore (lv' := [(10, .int 0), (9, .ref aT), (8, .int 0), (7, .int 0), (6, .int 0), (5, .int (isum (fun i => mny (X 0) (nI i) (ons (X 0))) nv)), (4, .int (nI (ons (X 0)))), (0, .ref (ad 2 20 0)), (1, .ref aP), (2, .ref aS), (3, .int (nI nv))]) hx hb dL_sound_121 hl (by decide) rfl (fun ls hl => ?_)
    refine lv_iconst (v := 0) hx hb dL_sound_123 (by decide) ?_
    refine lv_istore (lv' := [(11, .int (nI 0)), (10, .int 0), (9, .ref aT), (8, .int 0), (7, .int 0), (6, .int 0), (5, .int (isum (fun i => mny (X 0) (nI i) (ons (X 0))) nv)), (4, .int (nI (ons (X 0)))), (0, .ref (ad 2 20 0)), (1, .ref aP), (2, .ref aS), (3, .int (nI nv))]) hx hb dL_sound_124 hl (by decide) rfl (fun ls hl => ?_)
    exact W.widen (by omega) (by omega) (z_pap hG9 hTn hTN (onp (X 0)) 0 rfl X (zY.self hV) H locs ls hP hS hT (lv_sub hl [0, 1, 2, 3, 4, 5, 6, 7, 8, 9, 10, 11] rfl))
  | succ n ih =>
    intro j hj H locs ls hP hS hT hl
    refine lv_iload hx hb dL_sound_26 (lv_at hl 0 rfl) ?_
    refine lv_iload_n hx hb dL_sound_28 rfl (lv_at hl 10 rfl) ?_
    refine lv_icmp_ge (tgt := 120) hx hb dL_sound_29 (by decide) (fun z => absurd ((nI_leI (by omega) (by omega)).mp z) (by omega)) (fun _ => ?_)
    refine lv_iconst (v := 0) hx hb dL_sound_32 (by decide) ?_
    refine lv_istore (lv' := [(11, .int 0), (10, .int (nI j)), (9, .ref aT), (8, .int 0), (7, .int 0), (6, .int 0), (5, .int (isum (fun i => mny (X 0) (nI i) (ons (X 0))) j)), (4, .int (nI (ons (X 0)))), (0, .ref (ad 2 20 0)), (1, .ref aP), (2, .ref aS), (3, .int (nI nv))]) hx hb dL_sound_33 hl (by decide) rfl (fun ls hl => ?_)
    refine lv_bipush (v := -105) hx hb dL_sound_35 (by decide) ?_
    refine lv_istore (lv' := [(12, .int (-105)), (11, .int 0), (10, .int (nI j)), (9, .ref aT), (8, .int 0), (7, .int 0), (6, .int 0), (5, .int (isum (fun i => mny (X 0) (nI i) (ons (X 0))) j)), (4, .int (nI (ons (X 0)))), (0, .ref (ad 2 20 0)), (1, .ref aP), (2, .ref aS), (3, .int (nI nv))]) hx hb dL_sound_37 hl (by decide) rfl (fun ls hl => ?_)
    refine lv_iconst (v := 0) hx hb dL_sound_39 (by decide) ?_
    refine lv_istore (lv' := [(13, .int (nI 0)), (12, .int (-105)), (11, .int 0), (10, .int (nI j)), (9, .ref aT), (8, .int 0), (7, .int 0), (6, .int 0), (5, .int (isum (fun i => mny (X 0) (nI i) (ons (X 0))) j)), (4, .int (nI (ons (X 0)))), (0, .ref (ad 2 20 0)), (1, .ref aP), (2, .ref aS), (3, .int (nI nv))]) hx hb dL_sound_40 hl (by decide) rfl (fun ls hl => ?_)
    refine z_in hG9 hTn hTN (j := j) (by omega) ?_ (ons (X 0)) 0 rfl H locs ls hP hS hT (lv_sub hl [0, 1, 2, 3, 4, 5, 6, 7, 8, 9, 10, 11, 12, 13] rfl)
    clear hP hS hT hl
    intro H locs ls hP hS hT hl
    have hin : inB (nI j) (onv (X 0)) = true := inB_t.mpr (vp_in_nI (by omega) (by omega))
    obtain ⟨s1, s2⟩ := snd_1 (W := wdo X 0 (X 0)) hV.u hok hin
    refine lv_iload hx hb dL_sound_85 (lv_at hl 8 rfl) ?_
    refine lv_iload hx hb dL_sound_87 (lv_at hl 2 rfl) ?_
    refine lv_iadd hx hb dL_sound_89 ?_
    refine lv_istore (lv' := [(5, .int (isum (fun i => mny (X 0) (nI i) (ons (X 0))) (j + 1))), (13, .int (nI (ons (X 0)))), (12, .int (its (X 0) (nI j) (ons (X 0)))), (11, .int (mny (X 0) (nI j) (ons (X 0)))), (10, .int (nI j)), (9, .ref aT), (8, .int 0), (7, .int 0), (6, .int 0), (4, .int (nI (ons (X 0)))), (0, .ref (ad 2 20 0)), (1, .ref aP), (2, .ref aS), (3, .int (nI nv))]) hx hb dL_sound_90 hl (by decide) rfl (fun ls hl => ?_)
    refine lv_iload hx hb dL_sound_92 (lv_at hl 3 rfl) ?_
    refine lv_iconst (v := 1) hx hb dL_sound_94 (by decide) ?_
    refine lv_icmp_gt (tgt := 112) hx hb dL_sound_95 (by decide) (fun z => absurd z s1) (fun _ => ?_)
    refine lv_aload_n hx hb dL_sound_98 rfl (lv_at hl 10 rfl) ?_
    refine lv_bipush (v := 14) hx hb dL_sound_99 (by decide) ?_
    refine lv_iload hx hb dL_sound_101 (lv_at hl 4 rfl) ?_
    refine lv_iconst (v := 0) hx hb dL_sound_103 (by decide) ?_
    refine b_L (lk_paperOf (X := X) hfl hI hon0 hon1 hon2 hok hd) hc hA (npic_eta hP) hS hl.1 gL_call nok_L_call rfl ⟨(Nat.le_of_ble_eq_true rfl), (Nat.le_of_ble_eq_true rfl)⟩ ⟨by show _ ≤ 1165; omega, by show _ ≤ 6990; omega⟩ dL_sound_104 rfl (Nat.le_of_ble_eq_true rfl) ?_
    intro r X2 H locs hp hP hk hS
    replace hT := hT.kept hTn hk
    have hp9 : (r, X2) = (its (X 0) (nI j) (ons (X 0)), wdo X 0 (X 0)) := Eq.trans hp s2
    have hr9 : r = its (X 0) (nI j) (ons (X 0)) := congrArg Prod.fst hp9
    have hX9 : X2 = wdo X 0 (X 0) := congrArg Prod.snd hp9
    clear hp hp9
    rw [hX9, wdo_eta] at hP
    subst hr9
    refine lv_iload hx hb dL_sound_107 (lv_at hl 2 rfl) ?_
    refine lv_icmp_eq (tgt := 114) hx hb dL_sound_109 (by decide) (fun _ => ?_) (fun z => absurd rfl z)
    refine lv_iinc (lv' := [(10, .int (nI (j + 1))), (5, .int (isum (fun i => mny (X 0) (nI i) (ons (X 0))) (j + 1))), (13, .int (nI (ons (X 0)))), (12, .int (its (X 0) (nI j) (ons (X 0)))), (11, .int (mny (X 0) (nI j) (ons (X 0)))), (9, .ref aT), (8, .int 0), (7, .int 0), (6, .int 0), (4, .int (nI (ons (X 0)))), (0, .ref (ad 2 20 0)), (1, .ref aP), (2, .ref aS), (3, .int (nI nv))]) (v := (nI (j + 1))) hx hb dL_sound_114 hl (k := 4) rfl (by rw [show Int32.ofInt 1 = 1 from by decide, nI_1]) (by decide) rfl (fun ls hl => ?_)
    refine lv_goto (tgt := 26) hx hb dL_sound_117 (by decide) ?_
    exact W.widen (by omega) (by omega) (ih (j + 1) (by omega) H locs ls hP hS hT (lv_sub hl [0, 5, 6, 7, 8, 1, 9, 10, 11, 12, 13] rfl))
end LZ
section LZ2
variable {l : Launch} {D : va_G} {dA : Nat → ClassId} {ad : Nat → Nat → Nat → Nat} {on : Nat → Prop} {X : NWd} {nv e aP aS N1 : Nat} {f1 f2 : Nat → Int32}
def zPc (D : va_G) (dA : Nat → ClassId) (ad : Nat → Nat → Nat → Nat) (on : Nat → Prop) (X : NWd) (aP aS N1 : Nat) (f1 f2 : Nat → Int32) (U : State) : Prop := npre D dA ad on X U ∧ U.heap.size = N1 ∧ lAr D dA aP 150 f1 U.heap ∧ lAr D dA aS 150 f2 U.heap
theorem zPc_blind {av : List Value} : FrameBlind (va_Pc av (zPc D dA ad on X aP aS N1 f1 f2)) := fun _ U g mk h => ⟨h.1, npre_calling h.2.1, h.2.2⟩
theorem npic_nA {H : Heap} (hP : npic D dA ad on X H) {q : Nat} (h : nA ad on q) : q < H.size := by
  obtain ⟨o, k, i, hv, rfl⟩ := h
  exact (hP o k i hv).lt
set_option maxHeartbeats 4000000 in
theorem c_sound (hfl : l.stackTraces = false) (hI : ninj ad on) (hon0 : on 0) (hon1 : on 1) (hon2 : on 2) (hV : lInv X 2 nv e) (he : e ≤ 500) (hP1 : ¬ nA ad on aP) (hS1 : ¬ nA ad on aS) (hag : ∀ k, k < ons (X 0) → f1 k = X 0 13 k 0 ∧ f2 k = X 0 13 k 1) : Met l yL_sound (nws yL_sound cL_sound 14 (some .boolean)) zrm (va_Pc [.ref (ad 2 20 0), .ref aP, .ref aS, .int (nI nv)] (zPc D dA ad on X aP aS N1 f1 f2)) (va_Qi (fun r X' => r = 1 ∧ ∃ R, X' = wdo X 1 R) (fun X' t => npic D dA ad on X' t.heap) (zA ad on N1)) 1165 6990 (zA ad on N1) := by
  refine sM_of (X := X) hI rfl (by decide +kernel) (Nat.le_of_ble_eq_true rfl) (fun U h => h.1) ?_
  intro p e9 s m args below meth cd ls hc hr hP hB hl
  obtain ⟨-, hN, hP2, hS2⟩ := hB
  have hx := hc.1
  have hb := hc.2.1
  have hA := zA_A (ad := ad) (on := on) hN
  have hS : va_S (zA ad on N1) s.heap s.heap [] := va_S.rf
  have hG : zG p l s m args meth cd D dA ad on X nv e aP aS N1 f1 f2 := ⟨hc, hfl, hI, hon0, hon1, hon2, hV, he, hN, ⟨hP1, hP2⟩, ⟨hS1, hS2⟩, hag, hr⟩
  obtain ⟨hok, hd, h01⟩ := hV.ok
  have hokY := hok
  have hdY := hd
  have ens := hok.ns
  have hl : lv_has ls 14 [(0, .ref (ad 2 20 0)), (1, .ref aP), (2, .ref aS), (3, .int (nI nv))] := hl
  refine lv_aload_n hx hb dL_sound_0 rfl (lv_at hl 0 rfl) ?_
  refine bx (As := []) (c_X9_signatures (X := X) (S := X 0) hfl hI hon0 hon1 hon2 hokY hdY) hc hA hP hS hl.1 (ngoodV q339 q340 q341 q1 q342) (b_rec hc hP hon2) nok_X9_signatures rfl ⟨(Nat.le_of_ble_eq_true rfl), (Nat.le_of_ble_eq_true rfl)⟩ ⟨(Nat.le_of_ble_eq_true rfl), (Nat.le_of_ble_eq_true rfl)⟩ dL_sound_1 rfl (Nat.le_of_ble_eq_true rfl) ?_
  intro H locs hP hk hS
  rw [ens]
  refine lv_istore (lv' := [(4, .int (nI (ons (X 0)))), (0, .ref (ad 2 20 0)), (1, .ref aP), (2, .ref aS), (3, .int (nI nv))]) hx hb dL_sound_4 hl (by decide) rfl (fun ls hl => ?_)
  refine lv_iconst (v := 0) hx hb dL_sound_6 (by decide) ?_
  refine lv_istore (lv' := [(5, .int 0), (4, .int (nI (ons (X 0)))), (0, .ref (ad 2 20 0)), (1, .ref aP), (2, .ref aS), (3, .int (nI nv))]) hx hb dL_sound_7 hl (by decide) rfl (fun ls hl => ?_)
  refine lv_iconst (v := 0) hx hb dL_sound_9 (by decide) ?_
  refine lv_istore (lv' := [(6, .int 0), (5, .int 0), (4, .int (nI (ons (X 0)))), (0, .ref (ad 2 20 0)), (1, .ref aP), (2, .ref aS), (3, .int (nI nv))]) hx hb dL_sound_10 hl (by decide) rfl (fun ls hl => ?_)
  refine lv_iconst (v := 0) hx hb dL_sound_12 (by decide) ?_
  refine lv_istore (lv' := [(7, .int 0), (6, .int 0), (5, .int 0), (4, .int (nI (ons (X 0)))), (0, .ref (ad 2 20 0)), (1, .ref aP), (2, .ref aS), (3, .int (nI nv))]) hx hb dL_sound_13 hl (by decide) rfl (fun ls hl => ?_)
  refine lv_iconst (v := 0) hx hb dL_sound_15 (by decide) ?_
  refine lv_istore (lv' := [(8, .int 0), (7, .int 0), (6, .int 0), (5, .int 0), (4, .int (nI (ons (X 0)))), (0, .ref (ad 2 20 0)), (1, .ref aP), (2, .ref aS), (3, .int (nI nv))]) hx hb dL_sound_16 hl (by decide) rfl (fun ls hl => ?_)
  refine lv_iconst (v := 2) hx hb dL_sound_18 (by decide) ?_
  have hle := hS.1
  refine b_newa (z := H.size) (n9 := 2) hc hS rfl q146 (by decide) rfl (by decide) (Nat.le_of_ble_eq_true rfl) (Nat.le_of_ble_eq_true rfl) dL_sound_19 (fun H2 hT hz oq hS => ?_)
  have hTn : ¬ nA ad on H.size := fun q => Nat.lt_irrefl _ (npic_nA hP q)
  replace hP : npic D dA ad on X H2 := npic_kept hP (fun q h9 _ => oq q h9)
  generalize H.size = aT at hT hz oq hS hTn hle hk ⊢
  refine lv_astore (lv' := [(9, .ref aT), (8, .int 0), (7, .int 0), (6, .int 0), (5, .int 0), (4, .int (nI (ons (X 0)))), (0, .ref (ad 2 20 0)), (1, .ref aP), (2, .ref aS), (3, .int (nI nv))]) hx hb dL_sound_21 hl (by decide) rfl (fun ls hl => ?_)
  refine lv_iconst (v := 0) hx hb dL_sound_23 (by decide) ?_
  refine lv_istore (lv' := [(10, .int (nI 0)), (9, .ref aT), (8, .int 0), (7, .int 0), (6, .int 0), (5, .int 0), (4, .int (nI (ons (X 0)))), (0, .ref (ad 2 20 0)), (1, .ref aP), (2, .ref aS), (3, .int (nI nv))]) hx hb dL_sound_24 hl (by decide) rfl (fun ls hl => ?_)
  exact W.widen (by omega) (by omega) (z_vot hG hTn (by omega) nv 0 rfl H2 locs ls hP hS hT (lv_sub hl [0, 1, 2, 3, 4, 5, 6, 7, 8, 9, 10] rfl))
end LZ2
