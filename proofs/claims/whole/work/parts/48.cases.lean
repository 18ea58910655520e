/-! The law's body, case by case. -/
def lKont (p : Program) (l : Launch) (e : Env) (R : Room) (s : State) (m : MethodId) (below : List Frame) (meth : Method) (c : Code) (b : Nat) (D : va_G) (dA : Nat → ClassId) (ad : Nat → Nat → Nat → Nat) (on : Nat → Prop) (cL cD : ClassId) (aL aD n j cells slots : Nat) (Q : State → Prop) : Prop :=
  ∀ (u' : LSt) (n' : Nat) (H1 : Heap) (locs1 : List Loc) (ls1 : Array Slot), n' ≤ n + 1 → nInv u'.1 (u'.1 3) n' → lpic D dA ad on cL cD aL aD u' H1 → va_S (fun q => s.heap.size ≤ q) s.heap H1 locs1 → lv_has ls1 9 [(5, .int (nI (7 * j))), (4, .ref aD), (3, .ref aL), (2, .ref (ad 3 30 0)), (1, .ref (ad 2 20 0)), (0, .ref b)] → W p l e R s m #[Value.ref b] below meth c H1 locs1 (cells + 6) (slots + 36) Q (F0 m 2783 ls1 [])
theorem sc_in {j L k : Nat} (hj : 7 * j + 6 < L) (hL : L ≤ 3584) (hk : k ≤ 6) : vp_in (nI (7 * j) + nI k) L := by
  rw [nI_add]; exact vp_in_nI (by omega) (by omega)
theorem lx_draw (S M : NSt) (a : Int32) : ∀ i, i < 26 → cSmall (nJ S 13 a 0 0 8 0 i) = true := by
  intro i hi
  obtain ⟨r1, r2, -⟩ := mDraw_ok S M a
  have e : nJ S 13 a 0 0 8 0 i = oShuf S a 8 0 i := by
    unfold nJ
    rw [oJudge_same _ 8 0 i (fun z => absurd z.1 (by decide)) (fun z => absurd z.1 (by decide)), show oHap S 13 a 0 0 = oShuf S a from rfl]
  rw [e, r2 i hi]; exact r1.1 i hi
theorem lx_mdraw (S M : NSt) (a : Int32) : cSmall (mDraw M a 58 0 0) = true := by
  obtain ⟨⟨r1, -⟩, -⟩ := mDraw_ok S M a
  exact r1 0 (by decide)
theorem lx_letter {X : NWd} {M : NSt} {n : Nat} (h : nInv X M n) {i : Nat} (hi : i < 26) (hd : ¬ X 0 7 0 2 = 0) : cSmall (X 0 8 0 i) = true := by
  have hB := h.q.b
  rw [hB.le.1] at hd
  obtain ⟨a1, a2, -⟩ := (hB.le.2 hd).1 i hi
  rw [a1]; exact a2
theorem lx_use {X : NWd} {M : NSt} {n : Nat} (h : nInv X M n) {x : Int32} (hx : vp_in x (onp (X 0))) : vp_in (oUse (X 0) x) 4096 := by
  have hB := h.q.b
  rw [hB.eonp] at hx
  obtain ⟨⟨u1, u2⟩, -⟩ := hB.use hx
  have : 2 ^ mnp M ≤ 4096 := Nat.pow_le_pow_right (by decide) hB.np12
  rw [u1]; exact vp_in_nI (by omega) (by omega)
theorem lx_rp {X : NWd} {M : NSt} {n : Nat} (h : nInv X M n) (R : NSt) : ∀ j, j < nix (X 2 21 0 4) → oOk (rpl (X 2) R j) ∧ oEv (rpl (X 2) R j) (X 2 22 0 j) (X 2 23 0 j) (X 2 24 0 j) := by
  have := h.hn
  rw [h.d, nix_nI (by omega)]
  exact (h.r R).2
theorem lx_re {X : NWd} {M : NSt} {n : Nat} (h : nInv X M n) (R : NSt) : oOk (rpl (X 2) R (nix (X 2 21 0 4))) := by
  have := h.hn
  rw [h.d, nix_nI (by omega)]
  exact (h.r R).1.b.oOk
theorem lx_dc {x : UInt64} (h : vf_n64 x) : Op.cmpValue (FP.dcmp x x) .l = 0 := by
  have h9 := Jvm.Free.Fl.dcmp_of_noNaN64 h
  unfold Op.cmpValue
  generalize FP.dcmp x x = o at h9 ⊢
  cases o with
  | none => exact absurd h9 (by decide)
  | some w => cases w <;> first | rfl | exact absurd h9 (by decide)
theorem lx_num {x y : Int32} {r : UInt32} {X X' : NWd} (h : (nG (!decide (y = 0)) 5 (.inr (FP.fdiv (FP.i2f x) (FP.i2f y), X)) : Nat ⊕ (UInt32 × NWd)) = .inr (r, X')) : vf_n64 (FP.f2d r) ∧ vf_n32 r := by
  unfold nG at h
  split at h
  · rename_i hg
    cases h
    have h9 := fp_f x y (by simpa using hg)
    exact ⟨Jvm.Free.Fl.f2d_out h9, h9⟩
  · cases h
theorem nok_L_setCalendar : nOk yL_setCalendar 5 := ⟨by decide +kernel, by decide +kernel, by decide +kernel⟩
theorem nok_L_pass : nOk yL_pass 3 := ⟨by decide +kernel, by decide +kernel, by decide +kernel⟩
theorem nok_L_addArea : nOk yL_addArea 4 := ⟨by decide +kernel, by decide +kernel, by decide +kernel⟩
theorem nok_L_addVoter : nOk yL_addVoter 3 := ⟨by decide +kernel, by decide +kernel, by decide +kernel⟩
theorem nok_L_move : nOk yL_move 4 := ⟨by decide +kernel, by decide +kernel, by decide +kernel⟩
theorem nok_L_strike : nOk yL_strike 3 := ⟨by decide +kernel, by decide +kernel, by decide +kernel⟩
theorem nok_L_restore : nOk yL_restore 3 := ⟨by decide +kernel, by decide +kernel, by decide +kernel⟩
theorem nok_L_areaOf : nOk yL_areaOf 3 := ⟨by decide +kernel, by decide +kernel, by decide +kernel⟩
theorem nok_L_isOnRoll : nOk yL_isOnRoll 3 := ⟨by decide +kernel, by decide +kernel, by decide +kernel⟩
theorem nok_L_file : nOk yL_file 8 := ⟨by decide +kernel, by decide +kernel, by decide +kernel⟩
theorem nok_L_sign : nOk yL_sign 4 := ⟨by decide +kernel, by decide +kernel, by decide +kernel⟩
theorem nok_L_pay : nOk yL_pay 4 := ⟨by decide +kernel, by decide +kernel, by decide +kernel⟩
theorem nok_L_withdraw : nOk yL_withdraw 3 := ⟨by decide +kernel, by decide +kernel, by decide +kernel⟩
theorem nok_L_die : nOk yL_die 3 := ⟨by decide +kernel, by decide +kernel, by decide +kernel⟩
theorem nok_L_replace : nOk yL_replace 7 := ⟨by decide +kernel, by decide +kernel, by decide +kernel⟩
theorem nok_L_isReplaceable : nOk yL_isReplaceable 3 := ⟨by decide +kernel, by decide +kernel, by decide +kernel⟩
theorem nok_L_surname : nOk yL_surname 4 := ⟨by decide +kernel, by decide +kernel, by decide +kernel⟩
theorem nok_L_counted : nOk yL_counted 3 := ⟨by decide +kernel, by decide +kernel, by decide +kernel⟩
theorem nok_L_signatureResult : nOk yL_signatureResult 3 := ⟨by decide +kernel, by decide +kernel, by decide +kernel⟩
theorem nok_L_wouldCount : nOk yL_wouldCount 4 := ⟨by decide +kernel, by decide +kernel, by decide +kernel⟩
theorem nok_L_paperOf : nOk yL_paperOf 3 := ⟨by decide +kernel, by decide +kernel, by decide +kernel⟩
theorem nok_L_gain : nOk yL_gain 4 := ⟨by decide +kernel, by decide +kernel, by decide +kernel⟩
theorem nok_L_fewestWithdrawals : nOk yL_fewestWithdrawals 3 := ⟨by decide +kernel, by decide +kernel, by decide +kernel⟩
theorem nok_L_reason : nOk yL_reason 3 := ⟨by decide +kernel, by decide +kernel, by decide +kernel⟩
theorem nok_L_reasonByReplay : nOk yL_reasonByReplay 3 := ⟨by decide +kernel, by decide +kernel, by decide +kernel⟩
theorem nok_L_ballotSize : nOk yL_ballotSize 3 := ⟨by decide +kernel, by decide +kernel, by decide +kernel⟩
theorem nok_L_draw : nOk yL_draw 3 := ⟨by decide +kernel, by decide +kernel, by decide +kernel⟩
theorem nok_L_letter : nOk yL_letter 3 := ⟨by decide +kernel, by decide +kernel, by decide +kernel⟩
theorem nok_L_ballot : nOk yL_ballot 5 := ⟨by decide +kernel, by decide +kernel, by decide +kernel⟩
theorem nok_L_placeOnBallot : nOk yL_placeOnBallot 4 := ⟨by decide +kernel, by decide +kernel, by decide +kernel⟩
theorem nok_L_addVotes : nOk yL_addVotes 4 := ⟨by decide +kernel, by decide +kernel, by decide +kernel⟩
theorem nok_L_finish : nOk yL_finish 3 := ⟨by decide +kernel, by decide +kernel, by decide +kernel⟩
theorem nok_L_votes : nOk yL_votes 3 := ⟨by decide +kernel, by decide +kernel, by decide +kernel⟩
theorem nok_L_share : nOk yL_share 3 := ⟨by decide +kernel, by decide +kernel, by decide +kernel⟩
theorem nok_L_winner : nOk yL_winner 3 := ⟨by decide +kernel, by decide +kernel, by decide +kernel⟩
theorem nok_L_deposit : nOk yL_deposit 3 := ⟨by decide +kernel, by decide +kernel, by decide +kernel⟩
theorem nok_L_paid : nOk yL_paid 3 := ⟨by decide +kernel, by decide +kernel, by decide +kernel⟩
theorem nok_L_lostShare : nOk yL_lostShare 2 := ⟨by decide +kernel, by decide +kernel, by decide +kernel⟩
section BK
variable {p : Program} {l : Launch} {e : Env} {R : Room} {s : State} {m : MethodId} {below : List Frame} {meth : Method} {c : Code} {H : Heap} {locs : List Loc} {cells slots : Nat} {Q : State → Prop}
variable {b L n j : Nat} {xs : Nat → Int32} {ls : Array Slot} {D : va_G} {dA : Nat → ClassId} {ad : Nat → Nat → Nat → Nat} {on : Nat → Prop} {cL cD : ClassId} {aL aD : Nat} {u : LSt}
set_option maxHeartbeats 4000000 in
theorem lk_0 (hc : lB p l s m meth c b L xs D dA ad on cL cD aL aD) (hinv : nInv u.1 (u.1 3) n) (hn : n < 512) (hP : lpic D dA ad on cL cD aL aD u H) (hS : va_S (fun q => s.heap.size ≤ q) s.heap H locs) (hl : lv_has ls 9 [(5, .int (nI (7 * j))), (4, .ref aD), (3, .ref aL), (2, .ref (ad 3 30 0)), (1, .ref (ad 2 20 0)), (0, .ref b)]) (hj : 7 * j + 6 < L) (hL : L ≤ 3584) (hR : 12 ≤ R.frames ∧ 480 ≤ R.locals) (hf : cells + 6 ≤ R.cells ∧ slots + 36 ≤ R.slots) (hk : lKont p l e R s m below meth c b D dA ad on cL cD aL aD n j cells slots Q) : W p l e R s m #[Value.ref b] below meth c H locs cells slots Q (F0 m 236 ls []) := by
  have hx := hc.1
  have hb := hc.2.1
  have hI := hc.2.2.2.2.2.2.2.2.1
  have hs := hc.2.2.2.2.2.2.2.2.2.1
  obtain ⟨hon0, hon1, hon2, hon3⟩ := hc.2.2.2.2.2.2.2.2.2.2.2.2.1
  have hfl := hc.2.2.2.2.2.2.2.2.2.2.2.2.2
  have hok := hinv.oOk
  have hd := hinv.dia
  have hT : nput (u.1 3) 30 0 0 0 = nput (u.1 3) 30 0 0 0 := rfl
  have hIE := hinv.E (TE hT)
  have hmok := hIE.mOk
  have hP0 : lpic D dA ad on cL cD aL aD (wdo u.1 0 (u.1 0), u.2.1, u.2.2) H := by rw [wdo_eta]; exact hP
  refine lv_aload_n hx hb dL_law_236 rfl (lv_at hl 4 rfl) ?_
  refine lv_aload_n hx hb dL_law_237 rfl (lv_at hl 5 rfl) ?_
  refine lv_iload hx hb dL_law_238 (lv_at hl 0 rfl) ?_
  refine lv_iconst (v := nI 1) hx hb dL_law_240 (by decide) ?_
  refine lv_iadd hx hb dL_law_241 ?_
  refine b_sld hc hS (sc_in hj hL (by decide)) dL_law_242 ?_
  refine lv_aload_n hx hb dL_law_243 rfl (lv_at hl 5 rfl) ?_
  refine lv_iload hx hb dL_law_244 (lv_at hl 0 rfl) ?_
  refine lv_iconst (v := nI 2) hx hb dL_law_246 (by decide) ?_
  refine lv_iadd hx hb dL_law_247 ?_
  refine b_sld hc hS (sc_in hj hL (by decide)) dL_law_248 ?_
  refine lv_aload_n hx hb dL_law_249 rfl (lv_at hl 5 rfl) ?_
  refine lv_iload hx hb dL_law_250 (lv_at hl 0 rfl) ?_
  refine lv_iconst (v := nI 3) hx hb dL_law_252 (by decide) ?_
  refine lv_iadd hx hb dL_law_253 ?_
  refine b_sld hc hS (sc_in hj hL (by decide)) dL_law_254 ?_
  refine lv_aload_n hx hb dL_law_255 rfl (lv_at hl 2 rfl) ?_
  refine b_L (lw_setCalendar (a := (xs (nix (nI (7 * j) + nI 1)))) (b := (xs (nix (nI (7 * j) + nI 2)))) (c := (xs (nix (nI (7 * j) + nI 3)))) hfl hI hs hon0 hon1 hon2 hok hd) hc hP0 hS hl.1 q383 q384 q0 q385 nok_L_setCalendar rfl ⟨by omega, by show 8 + (6 + 11) + 400 ≤ _; omega⟩ hf dL_law_256 rfl (Nat.le_of_ble_eq_true rfl) (fun r u2 H locs hp hP hS => ?_)
  refine lv_istore (lv' := [(6, .int _), (5, .int _), (4, .ref _), (3, .ref _), (2, .ref _), (1, .ref _), (0, .ref _)]) hx hb dL_law_259 hl (by decide) rfl (fun ls hl => ?_)
  have h3 : u2.1 3 = u.1 3 := by
    rcases hp with ⟨k, h1, h2, h3⟩ | ⟨v, X9, h1, h2, h3, h4⟩
    · rw [h3]; exact wdo_ne (by decide)
    · replace h1 := nG_inr (nG_inr h1)
      cases h1
      rw [h3]
      first | exact nEv3 | exact wdo_ne (by decide) | exact (wdo_ne (by decide)).trans (wdo_ne (by decide))
  have hP3 : lpic D dA ad on cL cD aL aD (wdo u2.1 3 (u.1 3), u2.2.1, u2.2.2) H := by rw [← h3, wdo_eta]; exact hP
  refine lv_aload_n hx hb dL_law_261 rfl (lv_at hl 4 rfl) ?_
  refine lv_aload_n hx hb dL_law_262 rfl (lv_at hl 6 rfl) ?_
  refine lv_iload hx hb dL_law_263 (lv_at hl 1 rfl) ?_
  refine lv_iconst (v := nI 1) hx hb dL_law_265 (by decide) ?_
  refine lv_iadd hx hb dL_law_266 ?_
  refine b_sld hc hS (sc_in hj hL (by decide)) dL_law_267 ?_
  refine lv_aload_n hx hb dL_law_268 rfl (lv_at hl 6 rfl) ?_
  refine lv_iload hx hb dL_law_269 (lv_at hl 1 rfl) ?_
  refine lv_iconst (v := nI 2) hx hb dL_law_271 (by decide) ?_
  refine lv_iadd hx hb dL_law_272 ?_
  refine b_sld hc hS (sc_in hj hL (by decide)) dL_law_273 ?_
  refine lv_aload_n hx hb dL_law_274 rfl (lv_at hl 6 rfl) ?_
  refine lv_iload hx hb dL_law_275 (lv_at hl 1 rfl) ?_
  refine lv_iconst (v := nI 3) hx hb dL_law_277 (by decide) ?_
  refine lv_iadd hx hb dL_law_278 ?_
  refine b_sld hc hS (sc_in hj hL (by decide)) dL_law_279 ?_
  refine b_Mi (c_X10_setCalendar (a := (xs (nix (nI (7 * j) + nI 1)))) (b := (xs (nix (nI (7 * j) + nI 2)))) (c := (xs (nix (nI (7 * j) + nI 3)))) hI hon3 hT hmok) hc hP3 hS hl.1 (ngoodV q1211 q1212 q1213 q11 q1214) (b_rec10 hc hP3.1) ⟨rfl, rfl⟩ nok_X10_setCalendar rfl ⟨by show 9 + 1 ≤ _; omega, by show 8 + (5 + 11) + 360 ≤ _; omega⟩ ⟨by omega, by omega⟩ dL_law_280 rfl (Nat.le_of_ble_eq_true rfl) (fun r2 X3 H locs hp9 hP hS => ?_)
  obtain ⟨hr9, hX9⟩ := hp9
  rw [hX9] at hP
  have hkey := l_key hinv (sim_setCalendar hinv hT hn rfl rfl) hp
  obtain ⟨k1, k2, n8, k3, k4⟩ := hkey
  rw [← hr9] at k2
  refine lv_istore (lv' := [(7, .int _), (6, .int _), (5, .int _), (4, .ref _), (3, .ref _), (2, .ref _), (1, .ref _), (0, .ref _)]) hx hb dL_law_283 hl (by decide) rfl (fun ls hl => ?_)
  refine lv_aload_n hx hb dL_law_285 rfl (lv_at hl 5 rfl) ?_
  refine b_Mi (c_X10_thrown hI hon3) hc hP hS hl.1 (ngoodV q1207 q1208 q1209 q11 q1210) (b_rec10 hc hP.1) ⟨rfl, rfl⟩ nok_X10_thrown rfl ⟨by show 1 + 1 ≤ _; omega, by show 8 + (1 + 11) + 40 ≤ _; omega⟩ ⟨by omega, by omega⟩ dL_law_286 rfl (Nat.le_of_ble_eq_true rfl) (fun r3 X4 H locs hp9 hP hS => ?_)
  obtain ⟨hr8, hX8⟩ := hp9
  rw [hX8] at hP
  rw [k1] at hr8
  refine lv_iload hx hb dL_law_289 (lv_at hl 1 rfl) ?_
  refine lv_icmp_eq (tgt := 296) hx hb dL_law_291 (by decide) (fun _ => ?_) (fun c9 => absurd hr8 c9)
  have hfin : ∀ (ls : Array Slot), lv_has ls 9 [(5, .int (nI (7 * j))), (4, .ref aD), (3, .ref aL), (2, .ref (ad 3 30 0)), (1, .ref (ad 2 20 0)), (0, .ref b)] → W p l e R s m #[Value.ref b] below meth c H locs (cells + 6) (slots + 36) Q (F0 m 2783 ls []) := fun ls hl => hk (_, u2.2) n8 _ _ _ k3 (by show nInv (wdo u2.1 3 _) (wdo u2.1 3 _ 3) n8; rw [wdo_at]; exact k4) hP hS hl
  refine lv_iload hx hb dL_law_296 (lv_at hl 1 rfl) ?_
  refine lv_if_ne (tgt := 313) hx hb dL_law_298 (by decide) (fun _ => ?_) (fun c8 => ?_)
  · skip
    refine lv_goto (tgt := 2783) hx hb dL_law_313 (by decide) ?_
    exact hfin _ (lv_sub hl [2, 3, 4, 5, 6, 7] rfl)
  · have k5 := k2 c8
    refine lv_aload_n hx hb dL_law_301 rfl (lv_at hl 4 rfl) ?_
    refine lv_iconst (v := 0) hx hb dL_law_302 (by decide) ?_
    refine b_lld hc hP dL_law_303 ?_
    refine lv_iload hx hb dL_law_304 (lv_at hl 0 rfl) ?_
    refine lv_i2l (v := _) hx hb dL_law_306 rfl ?_
    refine W.lcmp hx hb dL_law_307 ?_
    refine lv_if_eq (tgt := 313) hx hb dL_law_308 (by decide) (fun _ => ?_) (fun c9 => absurd (by rw [show u2.2.1 = r2.toInt64 from k5]; exact lg_self _) c9)
    refine lv_goto (tgt := 2783) hx hb dL_law_313 (by decide) ?_
    exact hfin _ (lv_sub hl [2, 3, 4, 5, 6, 7] rfl)
set_option maxHeartbeats 4000000 in
theorem lk_1 (hc : lB p l s m meth c b L xs D dA ad on cL cD aL aD) (hinv : nInv u.1 (u.1 3) n) (hn : n < 512) (hP : lpic D dA ad on cL cD aL aD u H) (hS : va_S (fun q => s.heap.size ≤ q) s.heap H locs) (hl : lv_has ls 9 [(5, .int (nI (7 * j))), (4, .ref aD), (3, .ref aL), (2, .ref (ad 3 30 0)), (1, .ref (ad 2 20 0)), (0, .ref b)]) (hj : 7 * j + 6 < L) (hL : L ≤ 3584) (hR : 12 ≤ R.frames ∧ 480 ≤ R.locals) (hf : cells + 6 ≤ R.cells ∧ slots + 36 ≤ R.slots) (hk : lKont p l e R s m below meth c b D dA ad on cL cD aL aD n j cells slots Q) : W p l e R s m #[Value.ref b] below meth c H locs cells slots Q (F0 m 316 ls []) := by
  have hx := hc.1
  have hb := hc.2.1
  have hI := hc.2.2.2.2.2.2.2.2.1
  have hs := hc.2.2.2.2.2.2.2.2.2.1
  obtain ⟨hon0, hon1, hon2, hon3⟩ := hc.2.2.2.2.2.2.2.2.2.2.2.2.1
  have hfl := hc.2.2.2.2.2.2.2.2.2.2.2.2.2
  have hok := hinv.oOk
  have hd := hinv.dia
  have hT : nput (u.1 3) 30 0 0 0 = nput (u.1 3) 30 0 0 0 := rfl
  have hIE := hinv.E (TE hT)
  have hmok := hIE.mOk
  have hP0 : lpic D dA ad on cL cD aL aD (wdo u.1 0 (u.1 0), u.2.1, u.2.2) H := by rw [wdo_eta]; exact hP
  refine lv_aload_n hx hb dL_law_316 rfl (lv_at hl 4 rfl) ?_
  refine lv_aload_n hx hb dL_law_317 rfl (lv_at hl 5 rfl) ?_
  refine lv_iload hx hb dL_law_318 (lv_at hl 0 rfl) ?_
  refine lv_iconst (v := nI 1) hx hb dL_law_320 (by decide) ?_
  refine lv_iadd hx hb dL_law_321 ?_
  refine b_sld hc hS (sc_in hj hL (by decide)) dL_law_322 ?_
  refine lv_aload_n hx hb dL_law_323 rfl (lv_at hl 2 rfl) ?_
  refine b_L (lw_pass (a := (xs (nix (nI (7 * j) + nI 1)))) hfl hI hs hon0 hon1 hon2 hok hd) hc hP0 hS hl.1 q563 q564 q0 q565 nok_L_pass rfl ⟨by omega, by show 8 + (4 + 11) + 400 ≤ _; omega⟩ hf dL_law_324 rfl (Nat.le_of_ble_eq_true rfl) (fun r u2 H locs hp hP hS => ?_)
  refine lv_istore (lv' := [(6, .int _), (5, .int _), (4, .ref _), (3, .ref _), (2, .ref _), (1, .ref _), (0, .ref _)]) hx hb dL_law_327 hl (by decide) rfl (fun ls hl => ?_)
  have h3 : u2.1 3 = u.1 3 := by
    rcases hp with ⟨k, h1, h2, h3⟩ | ⟨v, X9, h1, h2, h3, h4⟩
    · rw [h3]; exact wdo_ne (by decide)
    · replace h1 := nG_inr (nG_inr h1)
      cases h1
      rw [h3]
      first | exact nEv3 | exact wdo_ne (by decide) | exact (wdo_ne (by decide)).trans (wdo_ne (by decide))
  have hP3 : lpic D dA ad on cL cD aL aD (wdo u2.1 3 (u.1 3), u2.2.1, u2.2.2) H := by rw [← h3, wdo_eta]; exact hP
  refine lv_aload_n hx hb dL_law_329 rfl (lv_at hl 4 rfl) ?_
  refine lv_aload_n hx hb dL_law_330 rfl (lv_at hl 6 rfl) ?_
  refine lv_iload hx hb dL_law_331 (lv_at hl 1 rfl) ?_
  refine lv_iconst (v := nI 1) hx hb dL_law_333 (by decide) ?_
  refine lv_iadd hx hb dL_law_334 ?_
  refine b_sld hc hS (sc_in hj hL (by decide)) dL_law_335 ?_
  refine b_Mi (c_X10_pass (a := (xs (nix (nI (7 * j) + nI 1)))) hI hon3 hT hmok) hc hP3 hS hl.1 (ngoodV q1219 q1220 q1221 q11 q1222) (b_rec10 hc hP3.1) ⟨rfl, rfl⟩ nok_X10_pass rfl ⟨by show 9 + 1 ≤ _; omega, by show 8 + (2 + 11) + 360 ≤ _; omega⟩ ⟨by omega, by omega⟩ dL_law_336 rfl (Nat.le_of_ble_eq_true rfl) (fun r2 X3 H locs hp9 hP hS => ?_)
  obtain ⟨U, hU, hr9, hX9⟩ := hp9
  rw [hX9] at hP
  have hkey := l_key hinv (sim_pass hinv hT hn rfl rfl (hU.imp id (fun z => by simpa using z))) hp
  obtain ⟨k1, k2, n8, k3, k4⟩ := hkey
  rw [← hr9] at k2
  refine lv_istore (lv' := [(7, .int _), (6, .int _), (5, .int _), (4, .ref _), (3, .ref _), (2, .ref _), (1, .ref _), (0, .ref _)]) hx hb dL_law_339 hl (by decide) rfl (fun ls hl => ?_)
  refine lv_aload_n hx hb dL_law_341 rfl (lv_at hl 5 rfl) ?_
  refine b_Mi (c_X10_thrown hI hon3) hc hP hS hl.1 (ngoodV q1207 q1208 q1209 q11 q1210) (b_rec10 hc hP.1) ⟨rfl, rfl⟩ nok_X10_thrown rfl ⟨by show 1 + 1 ≤ _; omega, by show 8 + (1 + 11) + 40 ≤ _; omega⟩ ⟨by omega, by omega⟩ dL_law_342 rfl (Nat.le_of_ble_eq_true rfl) (fun r3 X4 H locs hp9 hP hS => ?_)
  obtain ⟨hr8, hX8⟩ := hp9
  rw [hX8] at hP
  rw [k1] at hr8
  refine lv_iload hx hb dL_law_345 (lv_at hl 1 rfl) ?_
  refine lv_icmp_eq (tgt := 352) hx hb dL_law_347 (by decide) (fun _ => ?_) (fun c9 => absurd hr8 c9)
  have hfin : ∀ (ls : Array Slot), lv_has ls 9 [(5, .int (nI (7 * j))), (4, .ref aD), (3, .ref aL), (2, .ref (ad 3 30 0)), (1, .ref (ad 2 20 0)), (0, .ref b)] → W p l e R s m #[Value.ref b] below meth c H locs (cells + 6) (slots + 36) Q (F0 m 2783 ls []) := fun ls hl => hk (_, u2.2) n8 _ _ _ k3 (by show nInv (wdo u2.1 3 _) (wdo u2.1 3 _ 3) n8; rw [wdo_at]; exact k4) hP hS hl
  refine lv_iload hx hb dL_law_352 (lv_at hl 1 rfl) ?_
  refine lv_if_ne (tgt := 369) hx hb dL_law_354 (by decide) (fun _ => ?_) (fun c8 => ?_)
  · skip
    refine lv_goto (tgt := 2783) hx hb dL_law_369 (by decide) ?_
    exact hfin _ (lv_sub hl [2, 3, 4, 5, 6, 7] rfl)
  · have k5 := k2 c8
    refine lv_aload_n hx hb dL_law_357 rfl (lv_at hl 4 rfl) ?_
    refine lv_iconst (v := 0) hx hb dL_law_358 (by decide) ?_
    refine b_lld hc hP dL_law_359 ?_
    refine lv_iload hx hb dL_law_360 (lv_at hl 0 rfl) ?_
    refine lv_i2l (v := _) hx hb dL_law_362 rfl ?_
    refine W.lcmp hx hb dL_law_363 ?_
    refine lv_if_eq (tgt := 369) hx hb dL_law_364 (by decide) (fun _ => ?_) (fun c9 => absurd (by rw [show u2.2.1 = r2.toInt64 from k5]; exact lg_self _) c9)
    refine lv_goto (tgt := 2783) hx hb dL_law_369 (by decide) ?_
    exact hfin _ (lv_sub hl [2, 3, 4, 5, 6, 7] rfl)
set_option maxHeartbeats 4000000 in
theorem lk_2 (hc : lB p l s m meth c b L xs D dA ad on cL cD aL aD) (hinv : nInv u.1 (u.1 3) n) (hn : n < 512) (hP : lpic D dA ad on cL cD aL aD u H) (hS : va_S (fun q => s.heap.size ≤ q) s.heap H locs) (hl : lv_has ls 9 [(5, .int (nI (7 * j))), (4, .ref aD), (3, .ref aL), (2, .ref (ad 3 30 0)), (1, .ref (ad 2 20 0)), (0, .ref b)]) (hj : 7 * j + 6 < L) (hL : L ≤ 3584) (hR : 12 ≤ R.frames ∧ 480 ≤ R.locals) (hf : cells + 6 ≤ R.cells ∧ slots + 36 ≤ R.slots) (hk : lKont p l e R s m below meth c b D dA ad on cL cD aL aD n j cells slots Q) : W p l e R s m #[Value.ref b] below meth c H locs cells slots Q (F0 m 372 ls []) := by
  have hx := hc.1
  have hb := hc.2.1
  have hI := hc.2.2.2.2.2.2.2.2.1
  have hs := hc.2.2.2.2.2.2.2.2.2.1
  obtain ⟨hon0, hon1, hon2, hon3⟩ := hc.2.2.2.2.2.2.2.2.2.2.2.2.1
  have hfl := hc.2.2.2.2.2.2.2.2.2.2.2.2.2
  have hok := hinv.oOk
  have hd := hinv.dia
  have hT : nput (u.1 3) 30 0 0 0 = nput (u.1 3) 30 0 0 0 := rfl
  have hIE := hinv.E (TE hT)
  have hmok := hIE.mOk
  have hP0 : lpic D dA ad on cL cD aL aD (wdo u.1 0 (u.1 0), u.2.1, u.2.2) H := by rw [wdo_eta]; exact hP
  refine lv_aload_n hx hb dL_law_372 rfl (lv_at hl 4 rfl) ?_
  refine b_Xi (c_X9_day (S := u.1 0) hfl hI hon0 hon1 hon2 hok hd) (fun k z => by cases z) hc hP0 hS hl.1 (ngoodV q326 q327 q328 q1 q329) (b_rec9 hc hP0.1) nok_X9_day rfl ⟨by omega, by omega⟩ hf dL_law_373 rfl (Nat.le_of_ble_eq_true rfl) (fun r X2 H locs hp hP hS => ?_)
  cases hp
  rw [wdo_eta] at hP
  refine lv_aload_n hx hb dL_law_376 rfl (lv_at hl 3 rfl) ?_
  have hP3 : lpic D dA ad on cL cD aL aD (wdo u.1 3 (u.1 3), u.2.1, u.2.2) H := by rw [wdo_eta]; exact hP
  refine b_Mi (c_X10_day hI hon3 hT hmok) hc hP3 hS hl.1 (ngoodV q1258 q1259 q1260 q11 q1261) (b_rec10 hc hP3.1) ⟨rfl, rfl⟩ nok_X10_day rfl ⟨by show 9 + 1 ≤ _; omega, by show 8 + (1 + 11) + 360 ≤ _; omega⟩ ⟨by omega, by omega⟩ dL_law_377 rfl (Nat.le_of_ble_eq_true rfl) (fun r2 X3 H locs hp hP hS => ?_)
  obtain ⟨hr9, hX9⟩ := hp
  rw [hX9] at hP
  have hs9 := sim_day (hc := fun _ => 1) hinv hT
  obtain ⟨-, a2, n9, a3, a4⟩ := hs9.2 _ _ rfl
  rw [wdo_eta] at a4
  refine lv_icmp_eq (tgt := 2783) hx hb dL_law_380 (by decide) (fun _ => ?_) (fun c9 => absurd (a2.symm.trans hr9.symm) c9)
  exact hk (_, u.2) n9 _ _ _ a3 (by show nInv (wdo u.1 3 _) (wdo u.1 3 _ 3) n9; rw [wdo_at]; exact a4.w3) hP hS hl
set_option maxHeartbeats 4000000 in
theorem lk_3 (hc : lB p l s m meth c b L xs D dA ad on cL cD aL aD) (hinv : nInv u.1 (u.1 3) n) (hn : n < 512) (hP : lpic D dA ad on cL cD aL aD u H) (hS : va_S (fun q => s.heap.size ≤ q) s.heap H locs) (hl : lv_has ls 9 [(5, .int (nI (7 * j))), (4, .ref aD), (3, .ref aL), (2, .ref (ad 3 30 0)), (1, .ref (ad 2 20 0)), (0, .ref b)]) (hj : 7 * j + 6 < L) (hL : L ≤ 3584) (hR : 12 ≤ R.frames ∧ 480 ≤ R.locals) (hf : cells + 6 ≤ R.cells ∧ slots + 36 ≤ R.slots) (hk : lKont p l e R s m below meth c b D dA ad on cL cD aL aD n j cells slots Q) : W p l e R s m #[Value.ref b] below meth c H locs cells slots Q (F0 m 385 ls []) := by
  have hx := hc.1
  have hb := hc.2.1
  have hI := hc.2.2.2.2.2.2.2.2.1
  have hs := hc.2.2.2.2.2.2.2.2.2.1
  obtain ⟨hon0, hon1, hon2, hon3⟩ := hc.2.2.2.2.2.2.2.2.2.2.2.2.1
  have hfl := hc.2.2.2.2.2.2.2.2.2.2.2.2.2
  have hok := hinv.oOk
  have hd := hinv.dia
  have hT : nput (u.1 3) 30 0 0 0 = nput (u.1 3) 30 0 0 0 := rfl
  have hIE := hinv.E (TE hT)
  have hmok := hIE.mOk
  have hP0 : lpic D dA ad on cL cD aL aD (wdo u.1 0 (u.1 0), u.2.1, u.2.2) H := by rw [wdo_eta]; exact hP
  refine lv_aload_n hx hb dL_law_385 rfl (lv_at hl 4 rfl) ?_
  refine b_Xi (c_X9_isOpen (S := u.1 0) hfl hI hon0 hon1 hon2 hok hd) (fun k z => by cases z) hc hP0 hS hl.1 (ngoodV q330 q331 q332 q1 q333) (b_rec9 hc hP0.1) nok_X9_isOpen rfl ⟨by omega, by omega⟩ hf dL_law_386 rfl (Nat.le_of_ble_eq_true rfl) (fun r X2 H locs hp hP hS => ?_)
  cases hp
  rw [wdo_eta] at hP
  refine lv_aload_n hx hb dL_law_389 rfl (lv_at hl 3 rfl) ?_
  have hP3 : lpic D dA ad on cL cD aL aD (wdo u.1 3 (u.1 3), u.2.1, u.2.2) H := by rw [wdo_eta]; exact hP
  refine b_Mi (c_X10_isOpen hI hon3 hT hmok) hc hP3 hS hl.1 (ngoodV q1262 q1263 q1264 q11 q1265) (b_rec10 hc hP3.1) ⟨rfl, rfl⟩ nok_X10_isOpen rfl ⟨by show 9 + 1 ≤ _; omega, by show 8 + (1 + 11) + 360 ≤ _; omega⟩ ⟨by omega, by omega⟩ dL_law_390 rfl (Nat.le_of_ble_eq_true rfl) (fun r2 X3 H locs hp hP hS => ?_)
  obtain ⟨hr9, hX9⟩ := hp
  rw [hX9] at hP
  have hs9 := sim_isOpen (hc := fun _ => 1) hinv hT
  obtain ⟨-, a2, n9, a3, a4⟩ := hs9.2 _ _ rfl
  rw [wdo_eta] at a4
  refine lv_icmp_eq (tgt := 2783) hx hb dL_law_393 (by decide) (fun _ => ?_) (fun c9 => absurd (a2.symm.trans hr9.symm) c9)
  exact hk (_, u.2) n9 _ _ _ a3 (by show nInv (wdo u.1 3 _) (wdo u.1 3 _ 3) n9; rw [wdo_at]; exact a4.w3) hP hS hl
set_option maxHeartbeats 4000000 in
theorem lk_4 (hc : lB p l s m meth c b L xs D dA ad on cL cD aL aD) (hinv : nInv u.1 (u.1 3) n) (hn : n < 512) (hP : lpic D dA ad on cL cD aL aD u H) (hS : va_S (fun q => s.heap.size ≤ q) s.heap H locs) (hl : lv_has ls 9 [(5, .int (nI (7 * j))), (4, .ref aD), (3, .ref aL), (2, .ref (ad 3 30 0)), (1, .ref (ad 2 20 0)), (0, .ref b)]) (hj : 7 * j + 6 < L) (hL : L ≤ 3584) (hR : 12 ≤ R.frames ∧ 480 ≤ R.locals) (hf : cells + 6 ≤ R.cells ∧ slots + 36 ≤ R.slots) (hk : lKont p l e R s m below meth c b D dA ad on cL cD aL aD n j cells slots Q) : W p l e R s m #[Value.ref b] below meth c H locs cells slots Q (F0 m 398 ls []) := by
  have hx := hc.1
  have hb := hc.2.1
  have hI := hc.2.2.2.2.2.2.2.2.1
  have hs := hc.2.2.2.2.2.2.2.2.2.1
  obtain ⟨hon0, hon1, hon2, hon3⟩ := hc.2.2.2.2.2.2.2.2.2.2.2.2.1
  have hfl := hc.2.2.2.2.2.2.2.2.2.2.2.2.2
  have hok := hinv.oOk
  have hd := hinv.dia
  have hT : nput (u.1 3) 30 0 0 0 = nput (u.1 3) 30 0 0 0 := rfl
  have hIE := hinv.E (TE hT)
  have hmok := hIE.mOk
  have hP0 : lpic D dA ad on cL cD aL aD (wdo u.1 0 (u.1 0), u.2.1, u.2.2) H := by rw [wdo_eta]; exact hP
  refine lv_aload_n hx hb dL_law_398 rfl (lv_at hl 4 rfl) ?_
  refine lv_aload_n hx hb dL_law_399 rfl (lv_at hl 5 rfl) ?_
  refine lv_iload hx hb dL_law_400 (lv_at hl 0 rfl) ?_
  refine lv_iconst (v := nI 1) hx hb dL_law_402 (by decide) ?_
  refine lv_iadd hx hb dL_law_403 ?_
  refine b_sld hc hS (sc_in hj hL (by decide)) dL_law_404 ?_
  refine lv_aload_n hx hb dL_law_405 rfl (lv_at hl 5 rfl) ?_
  refine lv_iload hx hb dL_law_406 (lv_at hl 0 rfl) ?_
  refine lv_iconst (v := nI 2) hx hb dL_law_408 (by decide) ?_
  refine lv_iadd hx hb dL_law_409 ?_
  refine b_sld hc hS (sc_in hj hL (by decide)) dL_law_410 ?_
  refine lv_aload_n hx hb dL_law_411 rfl (lv_at hl 2 rfl) ?_
  refine b_L (lw_addArea (a := (xs (nix (nI (7 * j) + nI 1)))) (b := (xs (nix (nI (7 * j) + nI 2)))) hfl hI hs hon0 hon1 hon2 hok hd) hc hP0 hS hl.1 q572 q573 q0 q574 nok_L_addArea rfl ⟨by omega, by show 8 + (5 + 11) + 400 ≤ _; omega⟩ hf dL_law_412 rfl (Nat.le_of_ble_eq_true rfl) (fun r u2 H locs hp hP hS => ?_)
  refine lv_istore (lv' := [(6, .int _), (5, .int _), (4, .ref _), (3, .ref _), (2, .ref _), (1, .ref _), (0, .ref _)]) hx hb dL_law_415 hl (by decide) rfl (fun ls hl => ?_)
  have h3 : u2.1 3 = u.1 3 := by
    rcases hp with ⟨k, h1, h2, h3⟩ | ⟨v, X9, h1, h2, h3, h4⟩
    · rw [h3]; exact wdo_ne (by decide)
    · replace h1 := nG_inr (nG_inr h1)
      cases h1
      rw [h3]
      first | exact nEv3 | exact wdo_ne (by decide) | exact (wdo_ne (by decide)).trans (wdo_ne (by decide))
  have hP3 : lpic D dA ad on cL cD aL aD (wdo u2.1 3 (u.1 3), u2.2.1, u2.2.2) H := by rw [← h3, wdo_eta]; exact hP
  refine lv_aload_n hx hb dL_law_417 rfl (lv_at hl 4 rfl) ?_
  refine lv_aload_n hx hb dL_law_418 rfl (lv_at hl 6 rfl) ?_
  refine lv_iload hx hb dL_law_419 (lv_at hl 1 rfl) ?_
  refine lv_iconst (v := nI 1) hx hb dL_law_421 (by decide) ?_
  refine lv_iadd hx hb dL_law_422 ?_
  refine b_sld hc hS (sc_in hj hL (by decide)) dL_law_423 ?_
  refine lv_aload_n hx hb dL_law_424 rfl (lv_at hl 6 rfl) ?_
  refine lv_iload hx hb dL_law_425 (lv_at hl 1 rfl) ?_
  refine lv_iconst (v := nI 2) hx hb dL_law_427 (by decide) ?_
  refine lv_iadd hx hb dL_law_428 ?_
  refine b_sld hc hS (sc_in hj hL (by decide)) dL_law_429 ?_
  refine b_Mi (c_X10_addArea (a := (xs (nix (nI (7 * j) + nI 1)))) (b := (xs (nix (nI (7 * j) + nI 2)))) hI hon3 hT hmok) hc hP3 hS hl.1 (ngoodV q1266 q1267 q1268 q11 q1269) (b_rec10 hc hP3.1) ⟨rfl, rfl⟩ nok_X10_addArea rfl ⟨by show 9 + 1 ≤ _; omega, by show 8 + (3 + 11) + 360 ≤ _; omega⟩ ⟨by omega, by omega⟩ dL_law_430 rfl (Nat.le_of_ble_eq_true rfl) (fun r2 X3 H locs hp9 hP hS => ?_)
  obtain ⟨hr9, hX9⟩ := hp9
  rw [hX9] at hP
  have hkey := l_key hinv (sim_addArea hinv hT hn rfl rfl) hp
  obtain ⟨k1, k2, n8, k3, k4⟩ := hkey
  rw [← hr9] at k2
  refine lv_istore (lv' := [(7, .int _), (6, .int _), (5, .int _), (4, .ref _), (3, .ref _), (2, .ref _), (1, .ref _), (0, .ref _)]) hx hb dL_law_433 hl (by decide) rfl (fun ls hl => ?_)
  refine lv_aload_n hx hb dL_law_435 rfl (lv_at hl 5 rfl) ?_
  refine b_Mi (c_X10_thrown hI hon3) hc hP hS hl.1 (ngoodV q1207 q1208 q1209 q11 q1210) (b_rec10 hc hP.1) ⟨rfl, rfl⟩ nok_X10_thrown rfl ⟨by show 1 + 1 ≤ _; omega, by show 8 + (1 + 11) + 40 ≤ _; omega⟩ ⟨by omega, by omega⟩ dL_law_436 rfl (Nat.le_of_ble_eq_true rfl) (fun r3 X4 H locs hp9 hP hS => ?_)
  obtain ⟨hr8, hX8⟩ := hp9
  rw [hX8] at hP
  rw [k1] at hr8
  refine lv_iload hx hb dL_law_439 (lv_at hl 1 rfl) ?_
  refine lv_icmp_eq (tgt := 446) hx hb dL_law_441 (by decide) (fun _ => ?_) (fun c9 => absurd hr8 c9)
  have hfin : ∀ (ls : Array Slot), lv_has ls 9 [(5, .int (nI (7 * j))), (4, .ref aD), (3, .ref aL), (2, .ref (ad 3 30 0)), (1, .ref (ad 2 20 0)), (0, .ref b)] → W p l e R s m #[Value.ref b] below meth c H locs (cells + 6) (slots + 36) Q (F0 m 2783 ls []) := fun ls hl => hk (_, u2.2) n8 _ _ _ k3 (by show nInv (wdo u2.1 3 _) (wdo u2.1 3 _ 3) n8; rw [wdo_at]; exact k4) hP hS hl
  refine lv_iload hx hb dL_law_446 (lv_at hl 1 rfl) ?_
  refine lv_if_ne (tgt := 463) hx hb dL_law_448 (by decide) (fun _ => ?_) (fun c8 => ?_)
  · skip
    refine lv_goto (tgt := 2783) hx hb dL_law_463 (by decide) ?_
    exact hfin _ (lv_sub hl [2, 3, 4, 5, 6, 7] rfl)
  · have k5 := k2 c8
    refine lv_aload_n hx hb dL_law_451 rfl (lv_at hl 4 rfl) ?_
    refine lv_iconst (v := 0) hx hb dL_law_452 (by decide) ?_
    refine b_lld hc hP dL_law_453 ?_
    refine lv_iload hx hb dL_law_454 (lv_at hl 0 rfl) ?_
    refine lv_i2l (v := _) hx hb dL_law_456 rfl ?_
    refine W.lcmp hx hb dL_law_457 ?_
    refine lv_if_eq (tgt := 463) hx hb dL_law_458 (by decide) (fun _ => ?_) (fun c9 => absurd (by rw [show u2.2.1 = r2.toInt64 from k5]; exact lg_self _) c9)
    refine lv_goto (tgt := 2783) hx hb dL_law_463 (by decide) ?_
    exact hfin _ (lv_sub hl [2, 3, 4, 5, 6, 7] rfl)
set_option maxHeartbeats 4000000 in
theorem lk_5 (hc : lB p l s m meth c b L xs D dA ad on cL cD aL aD) (hinv : nInv u.1 (u.1 3) n) (hn : n < 512) (hP : lpic D dA ad on cL cD aL aD u H) (hS : va_S (fun q => s.heap.size ≤ q) s.heap H locs) (hl : lv_has ls 9 [(5, .int (nI (7 * j))), (4, .ref aD), (3, .ref aL), (2, .ref (ad 3 30 0)), (1, .ref (ad 2 20 0)), (0, .ref b)]) (hj : 7 * j + 6 < L) (hL : L ≤ 3584) (hR : 12 ≤ R.frames ∧ 480 ≤ R.locals) (hf : cells + 6 ≤ R.cells ∧ slots + 36 ≤ R.slots) (hk : lKont p l e R s m below meth c b D dA ad on cL cD aL aD n j cells slots Q) : W p l e R s m #[Value.ref b] below meth c H locs cells slots Q (F0 m 466 ls []) := by
  have hx := hc.1
  have hb := hc.2.1
  have hI := hc.2.2.2.2.2.2.2.2.1
  have hs := hc.2.2.2.2.2.2.2.2.2.1
  obtain ⟨hon0, hon1, hon2, hon3⟩ := hc.2.2.2.2.2.2.2.2.2.2.2.2.1
  have hfl := hc.2.2.2.2.2.2.2.2.2.2.2.2.2
  have hok := hinv.oOk
  have hd := hinv.dia
  have hT : nput (u.1 3) 30 0 0 0 = nput (u.1 3) 30 0 0 0 := rfl
  have hIE := hinv.E (TE hT)
  have hmok := hIE.mOk
  have hP0 : lpic D dA ad on cL cD aL aD (wdo u.1 0 (u.1 0), u.2.1, u.2.2) H := by rw [wdo_eta]; exact hP
  refine lv_aload_n hx hb dL_law_466 rfl (lv_at hl 4 rfl) ?_
  refine lv_aload_n hx hb dL_law_467 rfl (lv_at hl 5 rfl) ?_
  refine lv_iload hx hb dL_law_468 (lv_at hl 0 rfl) ?_
  refine lv_iconst (v := nI 1) hx hb dL_law_470 (by decide) ?_
  refine lv_iadd hx hb dL_law_471 ?_
  refine b_sld hc hS (sc_in hj hL (by decide)) dL_law_472 ?_
  refine lv_aload_n hx hb dL_law_473 rfl (lv_at hl 2 rfl) ?_
  refine b_L (lw_addVoter (a := (xs (nix (nI (7 * j) + nI 1)))) hfl hI hs hon0 hon1 hon2 hok hd) hc hP0 hS hl.1 q581 q582 q0 q583 nok_L_addVoter rfl ⟨by omega, by show 8 + (4 + 11) + 400 ≤ _; omega⟩ hf dL_law_474 rfl (Nat.le_of_ble_eq_true rfl) (fun r u2 H locs hp hP hS => ?_)
  refine lv_istore (lv' := [(6, .int _), (5, .int _), (4, .ref _), (3, .ref _), (2, .ref _), (1, .ref _), (0, .ref _)]) hx hb dL_law_477 hl (by decide) rfl (fun ls hl => ?_)
  have h3 : u2.1 3 = u.1 3 := by
    rcases hp with ⟨k, h1, h2, h3⟩ | ⟨v, X9, h1, h2, h3, h4⟩
    · rw [h3]; exact wdo_ne (by decide)
    · replace h1 := nG_inr (nG_inr h1)
      cases h1
      rw [h3]
      first | exact nEv3 | exact wdo_ne (by decide) | exact (wdo_ne (by decide)).trans (wdo_ne (by decide))
  have hP3 : lpic D dA ad on cL cD aL aD (wdo u2.1 3 (u.1 3), u2.2.1, u2.2.2) H := by rw [← h3, wdo_eta]; exact hP
  refine lv_aload_n hx hb dL_law_479 rfl (lv_at hl 4 rfl) ?_
  refine lv_aload_n hx hb dL_law_480 rfl (lv_at hl 6 rfl) ?_
  refine lv_iload hx hb dL_law_481 (lv_at hl 1 rfl) ?_
  refine lv_iconst (v := nI 1) hx hb dL_law_483 (by decide) ?_
  refine lv_iadd hx hb dL_law_484 ?_
  refine b_sld hc hS (sc_in hj hL (by decide)) dL_law_485 ?_
  refine b_Mi (c_X10_addVoter (a := (xs (nix (nI (7 * j) + nI 1)))) hI hon3 hT hmok) hc hP3 hS hl.1 (ngoodV q1270 q1271 q1272 q11 q1273) (b_rec10 hc hP3.1) ⟨rfl, rfl⟩ nok_X10_addVoter rfl ⟨by show 9 + 1 ≤ _; omega, by show 8 + (2 + 11) + 360 ≤ _; omega⟩ ⟨by omega, by omega⟩ dL_law_486 rfl (Nat.le_of_ble_eq_true rfl) (fun r2 X3 H locs hp9 hP hS => ?_)
  obtain ⟨hr9, hX9⟩ := hp9
  rw [hX9] at hP
  have hkey := l_key hinv (sim_addVoter hinv hT hn rfl rfl) hp
  obtain ⟨k1, k2, n8, k3, k4⟩ := hkey
  rw [← hr9] at k2
  refine lv_istore (lv' := [(7, .int _), (6, .int _), (5, .int _), (4, .ref _), (3, .ref _), (2, .ref _), (1, .ref _), (0, .ref _)]) hx hb dL_law_489 hl (by decide) rfl (fun ls hl => ?_)
  refine lv_aload_n hx hb dL_law_491 rfl (lv_at hl 5 rfl) ?_
  refine b_Mi (c_X10_thrown hI hon3) hc hP hS hl.1 (ngoodV q1207 q1208 q1209 q11 q1210) (b_rec10 hc hP.1) ⟨rfl, rfl⟩ nok_X10_thrown rfl ⟨by show 1 + 1 ≤ _; omega, by show 8 + (1 + 11) + 40 ≤ _; omega⟩ ⟨by omega, by omega⟩ dL_law_492 rfl (Nat.le_of_ble_eq_true rfl) (fun r3 X4 H locs hp9 hP hS => ?_)
  obtain ⟨hr8, hX8⟩ := hp9
  rw [hX8] at hP
  rw [k1] at hr8
  refine lv_iload hx hb dL_law_495 (lv_at hl 1 rfl) ?_
  refine lv_icmp_eq (tgt := 502) hx hb dL_law_497 (by decide) (fun _ => ?_) (fun c9 => absurd hr8 c9)
  have hfin : ∀ (ls : Array Slot), lv_has ls 9 [(5, .int (nI (7 * j))), (4, .ref aD), (3, .ref aL), (2, .ref (ad 3 30 0)), (1, .ref (ad 2 20 0)), (0, .ref b)] → W p l e R s m #[Value.ref b] below meth c H locs (cells + 6) (slots + 36) Q (F0 m 2783 ls []) := fun ls hl => hk (_, u2.2) n8 _ _ _ k3 (by show nInv (wdo u2.1 3 _) (wdo u2.1 3 _ 3) n8; rw [wdo_at]; exact k4) hP hS hl
  refine lv_iload hx hb dL_law_502 (lv_at hl 1 rfl) ?_
  refine lv_if_ne (tgt := 519) hx hb dL_law_504 (by decide) (fun _ => ?_) (fun c8 => ?_)
  · skip
    refine lv_goto (tgt := 2783) hx hb dL_law_519 (by decide) ?_
    exact hfin _ (lv_sub hl [2, 3, 4, 5, 6, 7] rfl)
  · have k5 := k2 c8
    refine lv_aload_n hx hb dL_law_507 rfl (lv_at hl 4 rfl) ?_
    refine lv_iconst (v := 0) hx hb dL_law_508 (by decide) ?_
    refine b_lld hc hP dL_law_509 ?_
    refine lv_iload hx hb dL_law_510 (lv_at hl 0 rfl) ?_
    refine lv_i2l (v := _) hx hb dL_law_512 rfl ?_
    refine W.lcmp hx hb dL_law_513 ?_
    refine lv_if_eq (tgt := 519) hx hb dL_law_514 (by decide) (fun _ => ?_) (fun c9 => absurd (by rw [show u2.2.1 = r2.toInt64 from k5]; exact lg_self _) c9)
    refine lv_goto (tgt := 2783) hx hb dL_law_519 (by decide) ?_
    exact hfin _ (lv_sub hl [2, 3, 4, 5, 6, 7] rfl)
set_option maxHeartbeats 4000000 in
theorem lk_6 (hc : lB p l s m meth c b L xs D dA ad on cL cD aL aD) (hinv : nInv u.1 (u.1 3) n) (hn : n < 512) (hP : lpic D dA ad on cL cD aL aD u H) (hS : va_S (fun q => s.heap.size ≤ q) s.heap H locs) (hl : lv_has ls 9 [(5, .int (nI (7 * j))), (4, .ref aD), (3, .ref aL), (2, .ref (ad 3 30 0)), (1, .ref (ad 2 20 0)), (0, .ref b)]) (hj : 7 * j + 6 < L) (hL : L ≤ 3584) (hR : 12 ≤ R.frames ∧ 480 ≤ R.locals) (hf : cells + 6 ≤ R.cells ∧ slots + 36 ≤ R.slots) (hk : lKont p l e R s m below meth c b D dA ad on cL cD aL aD n j cells slots Q) : W p l e R s m #[Value.ref b] below meth c H locs cells slots Q (F0 m 522 ls []) := by
  have hx := hc.1
  have hb := hc.2.1
  have hI := hc.2.2.2.2.2.2.2.2.1
  have hs := hc.2.2.2.2.2.2.2.2.2.1
  obtain ⟨hon0, hon1, hon2, hon3⟩ := hc.2.2.2.2.2.2.2.2.2.2.2.2.1
  have hfl := hc.2.2.2.2.2.2.2.2.2.2.2.2.2
  have hok := hinv.oOk
  have hd := hinv.dia
  have hT : nput (u.1 3) 30 0 0 0 = nput (u.1 3) 30 0 0 0 := rfl
  have hIE := hinv.E (TE hT)
  have hmok := hIE.mOk
  have hP0 : lpic D dA ad on cL cD aL aD (wdo u.1 0 (u.1 0), u.2.1, u.2.2) H := by rw [wdo_eta]; exact hP
  refine lv_aload_n hx hb dL_law_522 rfl (lv_at hl 4 rfl) ?_
  refine lv_aload_n hx hb dL_law_523 rfl (lv_at hl 5 rfl) ?_
  refine lv_iload hx hb dL_law_524 (lv_at hl 0 rfl) ?_
  refine lv_iconst (v := nI 1) hx hb dL_law_526 (by decide) ?_
  refine lv_iadd hx hb dL_law_527 ?_
  refine b_sld hc hS (sc_in hj hL (by decide)) dL_law_528 ?_
  refine lv_aload_n hx hb dL_law_529 rfl (lv_at hl 5 rfl) ?_
  refine lv_iload hx hb dL_law_530 (lv_at hl 0 rfl) ?_
  refine lv_iconst (v := nI 2) hx hb dL_law_532 (by decide) ?_
  refine lv_iadd hx hb dL_law_533 ?_
  refine b_sld hc hS (sc_in hj hL (by decide)) dL_law_534 ?_
  refine lv_aload_n hx hb dL_law_535 rfl (lv_at hl 2 rfl) ?_
  refine b_L (lw_move (v := (xs (nix (nI (7 * j) + nI 1)))) (a := (xs (nix (nI (7 * j) + nI 2)))) hfl hI hs hon0 hon1 hon2 hok hd) hc hP0 hS hl.1 q630 q631 q0 q632 nok_L_move rfl ⟨by omega, by show 8 + (5 + 11) + 400 ≤ _; omega⟩ hf dL_law_536 rfl (Nat.le_of_ble_eq_true rfl) (fun r u2 H locs hp hP hS => ?_)
  refine lv_istore (lv' := [(6, .int _), (5, .int _), (4, .ref _), (3, .ref _), (2, .ref _), (1, .ref _), (0, .ref _)]) hx hb dL_law_539 hl (by decide) rfl (fun ls hl => ?_)
  have h3 : u2.1 3 = u.1 3 := by
    rcases hp with ⟨k, h1, h2, h3⟩ | ⟨v, X9, h1, h2, h3, h4⟩
    · rw [h3]; exact wdo_ne (by decide)
    · replace h1 := nG_inr (nG_inr (nG_inr h1))
      cases h1
      rw [h3]
      first | exact nEv3 | exact wdo_ne (by decide) | exact (wdo_ne (by decide)).trans (wdo_ne (by decide))
  have hP3 : lpic D dA ad on cL cD aL aD (wdo u2.1 3 (u.1 3), u2.2.1, u2.2.2) H := by rw [← h3, wdo_eta]; exact hP
  refine lv_aload_n hx hb dL_law_541 rfl (lv_at hl 4 rfl) ?_
  refine lv_aload_n hx hb dL_law_542 rfl (lv_at hl 6 rfl) ?_
  refine lv_iload hx hb dL_law_543 (lv_at hl 1 rfl) ?_
  refine lv_iconst (v := nI 1) hx hb dL_law_545 (by decide) ?_
  refine lv_iadd hx hb dL_law_546 ?_
  refine b_sld hc hS (sc_in hj hL (by decide)) dL_law_547 ?_
  refine lv_aload_n hx hb dL_law_548 rfl (lv_at hl 6 rfl) ?_
  refine lv_iload hx hb dL_law_549 (lv_at hl 1 rfl) ?_
  refine lv_iconst (v := nI 2) hx hb dL_law_551 (by decide) ?_
  refine lv_iadd hx hb dL_law_552 ?_
  refine b_sld hc hS (sc_in hj hL (by decide)) dL_law_553 ?_
  refine b_Mi (c_X10_move (v := (xs (nix (nI (7 * j) + nI 1)))) (a := (xs (nix (nI (7 * j) + nI 2)))) hI hon3 hT hmok) hc hP3 hS hl.1 (ngoodV q1278 q1279 q1280 q11 q1281) (b_rec10 hc hP3.1) ⟨rfl, rfl⟩ nok_X10_move rfl ⟨by show 9 + 1 ≤ _; omega, by show 8 + (4 + 11) + 360 ≤ _; omega⟩ ⟨by omega, by omega⟩ dL_law_554 rfl (Nat.le_of_ble_eq_true rfl) (fun r2 X3 H locs hp9 hP hS => ?_)
  obtain ⟨hr9, hX9⟩ := hp9
  rw [hX9] at hP
  have hkey := l_key hinv (sim_move hinv hT hn rfl rfl) hp
  obtain ⟨k1, k2, n8, k3, k4⟩ := hkey
  rw [← hr9] at k2
  refine lv_istore (lv' := [(7, .int _), (6, .int _), (5, .int _), (4, .ref _), (3, .ref _), (2, .ref _), (1, .ref _), (0, .ref _)]) hx hb dL_law_557 hl (by decide) rfl (fun ls hl => ?_)
  refine lv_aload_n hx hb dL_law_559 rfl (lv_at hl 5 rfl) ?_
  refine b_Mi (c_X10_thrown hI hon3) hc hP hS hl.1 (ngoodV q1207 q1208 q1209 q11 q1210) (b_rec10 hc hP.1) ⟨rfl, rfl⟩ nok_X10_thrown rfl ⟨by show 1 + 1 ≤ _; omega, by show 8 + (1 + 11) + 40 ≤ _; omega⟩ ⟨by omega, by omega⟩ dL_law_560 rfl (Nat.le_of_ble_eq_true rfl) (fun r3 X4 H locs hp9 hP hS => ?_)
  obtain ⟨hr8, hX8⟩ := hp9
  rw [hX8] at hP
  rw [k1] at hr8
  refine lv_iload hx hb dL_law_563 (lv_at hl 1 rfl) ?_
  refine lv_icmp_eq (tgt := 570) hx hb dL_law_565 (by decide) (fun _ => ?_) (fun c9 => absurd hr8 c9)
  have hfin : ∀ (ls : Array Slot), lv_has ls 9 [(5, .int (nI (7 * j))), (4, .ref aD), (3, .ref aL), (2, .ref (ad 3 30 0)), (1, .ref (ad 2 20 0)), (0, .ref b)] → W p l e R s m #[Value.ref b] below meth c H locs (cells + 6) (slots + 36) Q (F0 m 2783 ls []) := fun ls hl => hk (_, u2.2) n8 _ _ _ k3 (by show nInv (wdo u2.1 3 _) (wdo u2.1 3 _ 3) n8; rw [wdo_at]; exact k4) hP hS hl
  refine lv_iload hx hb dL_law_570 (lv_at hl 1 rfl) ?_
  refine lv_if_ne (tgt := 587) hx hb dL_law_572 (by decide) (fun _ => ?_) (fun c8 => ?_)
  · skip
    refine lv_goto (tgt := 2783) hx hb dL_law_587 (by decide) ?_
    exact hfin _ (lv_sub hl [2, 3, 4, 5, 6, 7] rfl)
  · have k5 := k2 c8
    refine lv_aload_n hx hb dL_law_575 rfl (lv_at hl 4 rfl) ?_
    refine lv_iconst (v := 0) hx hb dL_law_576 (by decide) ?_
    refine b_lld hc hP dL_law_577 ?_
    refine lv_iload hx hb dL_law_578 (lv_at hl 0 rfl) ?_
    refine lv_i2l (v := _) hx hb dL_law_580 rfl ?_
    refine W.lcmp hx hb dL_law_581 ?_
    refine lv_if_eq (tgt := 587) hx hb dL_law_582 (by decide) (fun _ => ?_) (fun c9 => absurd (by rw [show u2.2.1 = r2.toInt64 from k5]; exact lg_self _) c9)
    refine lv_goto (tgt := 2783) hx hb dL_law_587 (by decide) ?_
    exact hfin _ (lv_sub hl [2, 3, 4, 5, 6, 7] rfl)
set_option maxHeartbeats 4000000 in
theorem lk_7 (hc : lB p l s m meth c b L xs D dA ad on cL cD aL aD) (hinv : nInv u.1 (u.1 3) n) (hn : n < 512) (hP : lpic D dA ad on cL cD aL aD u H) (hS : va_S (fun q => s.heap.size ≤ q) s.heap H locs) (hl : lv_has ls 9 [(5, .int (nI (7 * j))), (4, .ref aD), (3, .ref aL), (2, .ref (ad 3 30 0)), (1, .ref (ad 2 20 0)), (0, .ref b)]) (hj : 7 * j + 6 < L) (hL : L ≤ 3584) (hR : 12 ≤ R.frames ∧ 480 ≤ R.locals) (hf : cells + 6 ≤ R.cells ∧ slots + 36 ≤ R.slots) (hk : lKont p l e R s m below meth c b D dA ad on cL cD aL aD n j cells slots Q) : W p l e R s m #[Value.ref b] below meth c H locs cells slots Q (F0 m 590 ls []) := by
  have hx := hc.1
  have hb := hc.2.1
  have hI := hc.2.2.2.2.2.2.2.2.1
  have hs := hc.2.2.2.2.2.2.2.2.2.1
  obtain ⟨hon0, hon1, hon2, hon3⟩ := hc.2.2.2.2.2.2.2.2.2.2.2.2.1
  have hfl := hc.2.2.2.2.2.2.2.2.2.2.2.2.2
  have hok := hinv.oOk
  have hd := hinv.dia
  have hT : nput (u.1 3) 30 0 0 0 = nput (u.1 3) 30 0 0 0 := rfl
  have hIE := hinv.E (TE hT)
  have hmok := hIE.mOk
  have hP0 : lpic D dA ad on cL cD aL aD (wdo u.1 0 (u.1 0), u.2.1, u.2.2) H := by rw [wdo_eta]; exact hP
  refine lv_aload_n hx hb dL_law_590 rfl (lv_at hl 4 rfl) ?_
  refine lv_aload_n hx hb dL_law_591 rfl (lv_at hl 5 rfl) ?_
  refine lv_iload hx hb dL_law_592 (lv_at hl 0 rfl) ?_
  refine lv_iconst (v := nI 1) hx hb dL_law_594 (by decide) ?_
  refine lv_iadd hx hb dL_law_595 ?_
  refine b_sld hc hS (sc_in hj hL (by decide)) dL_law_596 ?_
  refine lv_aload_n hx hb dL_law_597 rfl (lv_at hl 2 rfl) ?_
  refine b_L (lw_strike (v := (xs (nix (nI (7 * j) + nI 1)))) hfl hI hs hon0 hon1 hon2 hok hd) hc hP0 hS hl.1 q659 q660 q0 q661 nok_L_strike rfl ⟨by omega, by show 8 + (4 + 11) + 400 ≤ _; omega⟩ hf dL_law_598 rfl (Nat.le_of_ble_eq_true rfl) (fun r u2 H locs hp hP hS => ?_)
  refine lv_istore (lv' := [(6, .int _), (5, .int _), (4, .ref _), (3, .ref _), (2, .ref _), (1, .ref _), (0, .ref _)]) hx hb dL_law_601 hl (by decide) rfl (fun ls hl => ?_)
  have h3 : u2.1 3 = u.1 3 := by
    rcases hp with ⟨k, h1, h2, h3⟩ | ⟨v, X9, h1, h2, h3, h4⟩
    · rw [h3]; exact wdo_ne (by decide)
    · replace h1 := nG_inr (nG_inr h1)
      cases h1
      rw [h3]
      first | exact nEv3 | exact wdo_ne (by decide) | exact (wdo_ne (by decide)).trans (wdo_ne (by decide))
  have hP3 : lpic D dA ad on cL cD aL aD (wdo u2.1 3 (u.1 3), u2.2.1, u2.2.2) H := by rw [← h3, wdo_eta]; exact hP
  refine lv_aload_n hx hb dL_law_603 rfl (lv_at hl 4 rfl) ?_
  refine lv_aload_n hx hb dL_law_604 rfl (lv_at hl 6 rfl) ?_
  refine lv_iload hx hb dL_law_605 (lv_at hl 1 rfl) ?_
  refine lv_iconst (v := nI 1) hx hb dL_law_607 (by decide) ?_
  refine lv_iadd hx hb dL_law_608 ?_
  refine b_sld hc hS (sc_in hj hL (by decide)) dL_law_609 ?_
  refine b_Mi (c_X10_strike (v := (xs (nix (nI (7 * j) + nI 1)))) hI hon3 hT hmok) hc hP3 hS hl.1 (ngoodV q1286 q1287 q1288 q11 q1289) (b_rec10 hc hP3.1) ⟨rfl, rfl⟩ nok_X10_strike rfl ⟨by show 10 + 1 ≤ _; omega, by show 8 + (2 + 11) + 400 ≤ _; omega⟩ ⟨by omega, by omega⟩ dL_law_610 rfl (Nat.le_of_ble_eq_true rfl) (fun r2 X3 H locs hp9 hP hS => ?_)
  obtain ⟨hr9, hX9⟩ := hp9
  rw [hX9] at hP
  have hkey := l_key hinv (sim_strike hinv hT hn rfl rfl) hp
  obtain ⟨k1, k2, n8, k3, k4⟩ := hkey
  rw [← hr9] at k2
  refine lv_istore (lv' := [(7, .int _), (6, .int _), (5, .int _), (4, .ref _), (3, .ref _), (2, .ref _), (1, .ref _), (0, .ref _)]) hx hb dL_law_613 hl (by decide) rfl (fun ls hl => ?_)
  refine lv_aload_n hx hb dL_law_615 rfl (lv_at hl 5 rfl) ?_
  refine b_Mi (c_X10_thrown hI hon3) hc hP hS hl.1 (ngoodV q1207 q1208 q1209 q11 q1210) (b_rec10 hc hP.1) ⟨rfl, rfl⟩ nok_X10_thrown rfl ⟨by show 1 + 1 ≤ _; omega, by show 8 + (1 + 11) + 40 ≤ _; omega⟩ ⟨by omega, by omega⟩ dL_law_616 rfl (Nat.le_of_ble_eq_true rfl) (fun r3 X4 H locs hp9 hP hS => ?_)
  obtain ⟨hr8, hX8⟩ := hp9
  rw [hX8] at hP
  rw [k1] at hr8
  refine lv_iload hx hb dL_law_619 (lv_at hl 1 rfl) ?_
  refine lv_icmp_eq (tgt := 626) hx hb dL_law_621 (by decide) (fun _ => ?_) (fun c9 => absurd hr8 c9)
  have hfin : ∀ (ls : Array Slot), lv_has ls 9 [(5, .int (nI (7 * j))), (4, .ref aD), (3, .ref aL), (2, .ref (ad 3 30 0)), (1, .ref (ad 2 20 0)), (0, .ref b)] → W p l e R s m #[Value.ref b] below meth c H locs (cells + 6) (slots + 36) Q (F0 m 2783 ls []) := fun ls hl => hk (_, u2.2) n8 _ _ _ k3 (by show nInv (wdo u2.1 3 _) (wdo u2.1 3 _ 3) n8; rw [wdo_at]; exact k4) hP hS hl
  refine lv_iload hx hb dL_law_626 (lv_at hl 1 rfl) ?_
  refine lv_if_ne (tgt := 643) hx hb dL_law_628 (by decide) (fun _ => ?_) (fun c8 => ?_)
  · skip
    refine lv_goto (tgt := 2783) hx hb dL_law_643 (by decide) ?_
    exact hfin _ (lv_sub hl [2, 3, 4, 5, 6, 7] rfl)
  · have k5 := k2 c8
    refine lv_aload_n hx hb dL_law_631 rfl (lv_at hl 4 rfl) ?_
    refine lv_iconst (v := 0) hx hb dL_law_632 (by decide) ?_
    refine b_lld hc hP dL_law_633 ?_
    refine lv_iload hx hb dL_law_634 (lv_at hl 0 rfl) ?_
    refine lv_i2l (v := _) hx hb dL_law_636 rfl ?_
    refine W.lcmp hx hb dL_law_637 ?_
    refine lv_if_eq (tgt := 643) hx hb dL_law_638 (by decide) (fun _ => ?_) (fun c9 => absurd (by rw [show u2.2.1 = r2.toInt64 from k5]; exact lg_self _) c9)
    refine lv_goto (tgt := 2783) hx hb dL_law_643 (by decide) ?_
    exact hfin _ (lv_sub hl [2, 3, 4, 5, 6, 7] rfl)
set_option maxHeartbeats 4000000 in
theorem lk_8 (hc : lB p l s m meth c b L xs D dA ad on cL cD aL aD) (hinv : nInv u.1 (u.1 3) n) (hn : n < 512) (hP : lpic D dA ad on cL cD aL aD u H) (hS : va_S (fun q => s.heap.size ≤ q) s.heap H locs) (hl : lv_has ls 9 [(5, .int (nI (7 * j))), (4, .ref aD), (3, .ref aL), (2, .ref (ad 3 30 0)), (1, .ref (ad 2 20 0)), (0, .ref b)]) (hj : 7 * j + 6 < L) (hL : L ≤ 3584) (hR : 12 ≤ R.frames ∧ 480 ≤ R.locals) (hf : cells + 6 ≤ R.cells ∧ slots + 36 ≤ R.slots) (hk : lKont p l e R s m below meth c b D dA ad on cL cD aL aD n j cells slots Q) : W p l e R s m #[Value.ref b] below meth c H locs cells slots Q (F0 m 646 ls []) := by
  have hx := hc.1
  have hb := hc.2.1
  have hI := hc.2.2.2.2.2.2.2.2.1
  have hs := hc.2.2.2.2.2.2.2.2.2.1
  obtain ⟨hon0, hon1, hon2, hon3⟩ := hc.2.2.2.2.2.2.2.2.2.2.2.2.1
  have hfl := hc.2.2.2.2.2.2.2.2.2.2.2.2.2
  have hok := hinv.oOk
  have hd := hinv.dia
  have hT : nput (u.1 3) 30 0 0 0 = nput (u.1 3) 30 0 0 0 := rfl
  have hIE := hinv.E (TE hT)
  have hmok := hIE.mOk
  have hP0 : lpic D dA ad on cL cD aL aD (wdo u.1 0 (u.1 0), u.2.1, u.2.2) H := by rw [wdo_eta]; exact hP
  refine lv_aload_n hx hb dL_law_646 rfl (lv_at hl 4 rfl) ?_
  refine lv_aload_n hx hb dL_law_647 rfl (lv_at hl 5 rfl) ?_
  refine lv_iload hx hb dL_law_648 (lv_at hl 0 rfl) ?_
  refine lv_iconst (v := nI 1) hx hb dL_law_650 (by decide) ?_
  refine lv_iadd hx hb dL_law_651 ?_
  refine b_sld hc hS (sc_in hj hL (by decide)) dL_law_652 ?_
  refine lv_aload_n hx hb dL_law_653 rfl (lv_at hl 2 rfl) ?_
  refine b_L (lw_restore (v := (xs (nix (nI (7 * j) + nI 1)))) hfl hI hs hon0 hon1 hon2 hok hd) hc hP0 hS hl.1 q671 q672 q0 q673 nok_L_restore rfl ⟨by omega, by show 8 + (4 + 11) + 400 ≤ _; omega⟩ hf dL_law_654 rfl (Nat.le_of_ble_eq_true rfl) (fun r u2 H locs hp hP hS => ?_)
  refine lv_istore (lv' := [(6, .int _), (5, .int _), (4, .ref _), (3, .ref _), (2, .ref _), (1, .ref _), (0, .ref _)]) hx hb dL_law_657 hl (by decide) rfl (fun ls hl => ?_)
  have h3 : u2.1 3 = u.1 3 := by
    rcases hp with ⟨k, h1, h2, h3⟩ | ⟨v, X9, h1, h2, h3, h4⟩
    · rw [h3]; exact wdo_ne (by decide)
    · replace h1 := nG_inr (nG_inr h1)
      cases h1
      rw [h3]
      first | exact nEv3 | exact wdo_ne (by decide) | exact (wdo_ne (by decide)).trans (wdo_ne (by decide))
  have hP3 : lpic D dA ad on cL cD aL aD (wdo u2.1 3 (u.1 3), u2.2.1, u2.2.2) H := by rw [← h3, wdo_eta]; exact hP
  refine lv_aload_n hx hb dL_law_659 rfl (lv_at hl 4 rfl) ?_
  refine lv_aload_n hx hb dL_law_660 rfl (lv_at hl 6 rfl) ?_
  refine lv_iload hx hb dL_law_661 (lv_at hl 1 rfl) ?_
  refine lv_iconst (v := nI 1) hx hb dL_law_663 (by decide) ?_
  refine lv_iadd hx hb dL_law_664 ?_
  refine b_sld hc hS (sc_in hj hL (by decide)) dL_law_665 ?_
  refine b_Mi (c_X10_restore (v := (xs (nix (nI (7 * j) + nI 1)))) hI hon3 hT hmok) hc hP3 hS hl.1 (ngoodV q1298 q1299 q1300 q11 q1301) (b_rec10 hc hP3.1) ⟨rfl, rfl⟩ nok_X10_restore rfl ⟨by show 10 + 1 ≤ _; omega, by show 8 + (2 + 11) + 400 ≤ _; omega⟩ ⟨by omega, by omega⟩ dL_law_666 rfl (Nat.le_of_ble_eq_true rfl) (fun r2 X3 H locs hp9 hP hS => ?_)
  obtain ⟨hr9, hX9⟩ := hp9
  rw [hX9] at hP
  have hkey := l_key hinv (sim_restore hinv hT hn rfl rfl) hp
  obtain ⟨k1, k2, n8, k3, k4⟩ := hkey
  rw [← hr9] at k2
  refine lv_istore (lv' := [(7, .int _), (6, .int _), (5, .int _), (4, .ref _), (3, .ref _), (2, .ref _), (1, .ref _), (0, .ref _)]) hx hb dL_law_669 hl (by decide) rfl (fun ls hl => ?_)
  refine lv_aload_n hx hb dL_law_671 rfl (lv_at hl 5 rfl) ?_
  refine b_Mi (c_X10_thrown hI hon3) hc hP hS hl.1 (ngoodV q1207 q1208 q1209 q11 q1210) (b_rec10 hc hP.1) ⟨rfl, rfl⟩ nok_X10_thrown rfl ⟨by show 1 + 1 ≤ _; omega, by show 8 + (1 + 11) + 40 ≤ _; omega⟩ ⟨by omega, by omega⟩ dL_law_672 rfl (Nat.le_of_ble_eq_true rfl) (fun r3 X4 H locs hp9 hP hS => ?_)
  obtain ⟨hr8, hX8⟩ := hp9
  rw [hX8] at hP
  rw [k1] at hr8
  refine lv_iload hx hb dL_law_675 (lv_at hl 1 rfl) ?_
  refine lv_icmp_eq (tgt := 682) hx hb dL_law_677 (by decide) (fun _ => ?_) (fun c9 => absurd hr8 c9)
  have hfin : ∀ (ls : Array Slot), lv_has ls 9 [(5, .int (nI (7 * j))), (4, .ref aD), (3, .ref aL), (2, .ref (ad 3 30 0)), (1, .ref (ad 2 20 0)), (0, .ref b)] → W p l e R s m #[Value.ref b] below meth c H locs (cells + 6) (slots + 36) Q (F0 m 2783 ls []) := fun ls hl => hk (_, u2.2) n8 _ _ _ k3 (by show nInv (wdo u2.1 3 _) (wdo u2.1 3 _ 3) n8; rw [wdo_at]; exact k4) hP hS hl
  refine lv_iload hx hb dL_law_682 (lv_at hl 1 rfl) ?_
  refine lv_if_ne (tgt := 699) hx hb dL_law_684 (by decide) (fun _ => ?_) (fun c8 => ?_)
  · skip
    refine lv_goto (tgt := 2783) hx hb dL_law_699 (by decide) ?_
    exact hfin _ (lv_sub hl [2, 3, 4, 5, 6, 7] rfl)
  · have k5 := k2 c8
    refine lv_aload_n hx hb dL_law_687 rfl (lv_at hl 4 rfl) ?_
    refine lv_iconst (v := 0) hx hb dL_law_688 (by decide) ?_
    refine b_lld hc hP dL_law_689 ?_
    refine lv_iload hx hb dL_law_690 (lv_at hl 0 rfl) ?_
    refine lv_i2l (v := _) hx hb dL_law_692 rfl ?_
    refine W.lcmp hx hb dL_law_693 ?_
    refine lv_if_eq (tgt := 699) hx hb dL_law_694 (by decide) (fun _ => ?_) (fun c9 => absurd (by rw [show u2.2.1 = r2.toInt64 from k5]; exact lg_self _) c9)
    refine lv_goto (tgt := 2783) hx hb dL_law_699 (by decide) ?_
    exact hfin _ (lv_sub hl [2, 3, 4, 5, 6, 7] rfl)
set_option maxHeartbeats 4000000 in
theorem lk_9 (hc : lB p l s m meth c b L xs D dA ad on cL cD aL aD) (hinv : nInv u.1 (u.1 3) n) (hn : n < 512) (hP : lpic D dA ad on cL cD aL aD u H) (hS : va_S (fun q => s.heap.size ≤ q) s.heap H locs) (hl : lv_has ls 9 [(5, .int (nI (7 * j))), (4, .ref aD), (3, .ref aL), (2, .ref (ad 3 30 0)), (1, .ref (ad 2 20 0)), (0, .ref b)]) (hj : 7 * j + 6 < L) (hL : L ≤ 3584) (hR : 12 ≤ R.frames ∧ 480 ≤ R.locals) (hf : cells + 6 ≤ R.cells ∧ slots + 36 ≤ R.slots) (hk : lKont p l e R s m below meth c b D dA ad on cL cD aL aD n j cells slots Q) : W p l e R s m #[Value.ref b] below meth c H locs cells slots Q (F0 m 702 ls []) := by
  have hx := hc.1
  have hb := hc.2.1
  have hI := hc.2.2.2.2.2.2.2.2.1
  have hs := hc.2.2.2.2.2.2.2.2.2.1
  obtain ⟨hon0, hon1, hon2, hon3⟩ := hc.2.2.2.2.2.2.2.2.2.2.2.2.1
  have hfl := hc.2.2.2.2.2.2.2.2.2.2.2.2.2
  have hok := hinv.oOk
  have hd := hinv.dia
  have hT : nput (u.1 3) 30 0 0 0 = nput (u.1 3) 30 0 0 0 := rfl
  have hIE := hinv.E (TE hT)
  have hmok := hIE.mOk
  have hP0 : lpic D dA ad on cL cD aL aD (wdo u.1 0 (u.1 0), u.2.1, u.2.2) H := by rw [wdo_eta]; exact hP
  refine lv_aload_n hx hb dL_law_702 rfl (lv_at hl 4 rfl) ?_
  refine lv_aload_n hx hb dL_law_703 rfl (lv_at hl 5 rfl) ?_
  refine lv_iload hx hb dL_law_704 (lv_at hl 0 rfl) ?_
  refine lv_iconst (v := nI 1) hx hb dL_law_706 (by decide) ?_
  refine lv_iadd hx hb dL_law_707 ?_
  refine b_sld hc hS (sc_in hj hL (by decide)) dL_law_708 ?_
  refine lv_aload_n hx hb dL_law_709 rfl (lv_at hl 2 rfl) ?_
  refine b_L (lw_areaOf (v := (xs (nix (nI (7 * j) + nI 1)))) hfl hI hs hon0 hon1 hon2 hok hd) hc hP0 hS hl.1 q679 q680 q0 q681 nok_L_areaOf rfl ⟨by omega, by show 8 + (4 + 11) + 400 ≤ _; omega⟩ hf dL_law_710 rfl (Nat.le_of_ble_eq_true rfl) (fun r u2 H locs hp hP hS => ?_)
  refine lv_istore (lv' := [(6, .int _), (5, .int _), (4, .ref _), (3, .ref _), (2, .ref _), (1, .ref _), (0, .ref _)]) hx hb dL_law_713 hl (by decide) rfl (fun ls hl => ?_)
  have h3 : u2.1 3 = u.1 3 := by
    rcases hp with ⟨k, h1, h2, h3⟩ | ⟨v, X9, h1, h2, h3, h4⟩
    · rw [h3]; exact wdo_ne (by decide)
    · replace h1 := nG_inr h1
      cases h1
      rw [h3]
      first | exact nEv3 | exact wdo_ne (by decide) | exact (wdo_ne (by decide)).trans (wdo_ne (by decide))
  have hP3 : lpic D dA ad on cL cD aL aD (wdo u2.1 3 (u.1 3), u2.2.1, u2.2.2) H := by rw [← h3, wdo_eta]; exact hP
  refine lv_aload_n hx hb dL_law_715 rfl (lv_at hl 4 rfl) ?_
  refine lv_aload_n hx hb dL_law_716 rfl (lv_at hl 6 rfl) ?_
  refine lv_iload hx hb dL_law_717 (lv_at hl 1 rfl) ?_
  refine lv_iconst (v := nI 1) hx hb dL_law_719 (by decide) ?_
  refine lv_iadd hx hb dL_law_720 ?_
  refine b_sld hc hS (sc_in hj hL (by decide)) dL_law_721 ?_
  refine b_Mi (c_X10_areaOf (v := (xs (nix (nI (7 * j) + nI 1)))) hI hon3 hT hmok) hc hP3 hS hl.1 (ngoodV q1302 q1303 q1304 q11 q1305) (b_rec10 hc hP3.1) ⟨rfl, rfl⟩ nok_X10_areaOf rfl ⟨by show 9 + 1 ≤ _; omega, by show 8 + (2 + 11) + 360 ≤ _; omega⟩ ⟨by omega, by omega⟩ dL_law_722 rfl (Nat.le_of_ble_eq_true rfl) (fun r2 X3 H locs hp9 hP hS => ?_)
  obtain ⟨hr9, hX9⟩ := hp9
  rw [hX9] at hP
  have hkey := l_key hinv (sim_areaOf hinv hT rfl) hp
  obtain ⟨k1, k2, n8, k3, k4⟩ := hkey
  rw [← hr9] at k2
  refine lv_istore (lv' := [(7, .int _), (6, .int _), (5, .int _), (4, .ref _), (3, .ref _), (2, .ref _), (1, .ref _), (0, .ref _)]) hx hb dL_law_725 hl (by decide) rfl (fun ls hl => ?_)
  refine lv_aload_n hx hb dL_law_727 rfl (lv_at hl 5 rfl) ?_
  refine b_Mi (c_X10_thrown hI hon3) hc hP hS hl.1 (ngoodV q1207 q1208 q1209 q11 q1210) (b_rec10 hc hP.1) ⟨rfl, rfl⟩ nok_X10_thrown rfl ⟨by show 1 + 1 ≤ _; omega, by show 8 + (1 + 11) + 40 ≤ _; omega⟩ ⟨by omega, by omega⟩ dL_law_728 rfl (Nat.le_of_ble_eq_true rfl) (fun r3 X4 H locs hp9 hP hS => ?_)
  obtain ⟨hr8, hX8⟩ := hp9
  rw [hX8] at hP
  rw [k1] at hr8
  refine lv_iload hx hb dL_law_731 (lv_at hl 1 rfl) ?_
  refine lv_icmp_eq (tgt := 738) hx hb dL_law_733 (by decide) (fun _ => ?_) (fun c9 => absurd hr8 c9)
  have hfin : ∀ (ls : Array Slot), lv_has ls 9 [(5, .int (nI (7 * j))), (4, .ref aD), (3, .ref aL), (2, .ref (ad 3 30 0)), (1, .ref (ad 2 20 0)), (0, .ref b)] → W p l e R s m #[Value.ref b] below meth c H locs (cells + 6) (slots + 36) Q (F0 m 2783 ls []) := fun ls hl => hk (_, u2.2) n8 _ _ _ k3 (by show nInv (wdo u2.1 3 _) (wdo u2.1 3 _ 3) n8; rw [wdo_at]; exact k4) hP hS hl
  refine lv_iload hx hb dL_law_738 (lv_at hl 1 rfl) ?_
  refine lv_if_ne (tgt := 755) hx hb dL_law_740 (by decide) (fun _ => ?_) (fun c8 => ?_)
  · skip
    refine lv_goto (tgt := 2783) hx hb dL_law_755 (by decide) ?_
    exact hfin _ (lv_sub hl [2, 3, 4, 5, 6, 7] rfl)
  · have k5 := k2 c8
    refine lv_aload_n hx hb dL_law_743 rfl (lv_at hl 4 rfl) ?_
    refine lv_iconst (v := 0) hx hb dL_law_744 (by decide) ?_
    refine b_lld hc hP dL_law_745 ?_
    refine lv_iload hx hb dL_law_746 (lv_at hl 0 rfl) ?_
    refine lv_i2l (v := _) hx hb dL_law_748 rfl ?_
    refine W.lcmp hx hb dL_law_749 ?_
    refine lv_if_eq (tgt := 755) hx hb dL_law_750 (by decide) (fun _ => ?_) (fun c9 => absurd (by rw [show u2.2.1 = r2.toInt64 from k5]; exact lg_self _) c9)
    refine lv_goto (tgt := 2783) hx hb dL_law_755 (by decide) ?_
    exact hfin _ (lv_sub hl [2, 3, 4, 5, 6, 7] rfl)
set_option maxHeartbeats 4000000 in
theorem lk_10 (hc : lB p l s m meth c b L xs D dA ad on cL cD aL aD) (hinv : nInv u.1 (u.1 3) n) (hn : n < 512) (hP : lpic D dA ad on cL cD aL aD u H) (hS : va_S (fun q => s.heap.size ≤ q) s.heap H locs) (hl : lv_has ls 9 [(5, .int (nI (7 * j))), (4, .ref aD), (3, .ref aL), (2, .ref (ad 3 30 0)), (1, .ref (ad 2 20 0)), (0, .ref b)]) (hj : 7 * j + 6 < L) (hL : L ≤ 3584) (hR : 12 ≤ R.frames ∧ 480 ≤ R.locals) (hf : cells + 6 ≤ R.cells ∧ slots + 36 ≤ R.slots) (hk : lKont p l e R s m below meth c b D dA ad on cL cD aL aD n j cells slots Q) : W p l e R s m #[Value.ref b] below meth c H locs cells slots Q (F0 m 758 ls []) := by
  have hx := hc.1
  have hb := hc.2.1
  have hI := hc.2.2.2.2.2.2.2.2.1
  have hs := hc.2.2.2.2.2.2.2.2.2.1
  obtain ⟨hon0, hon1, hon2, hon3⟩ := hc.2.2.2.2.2.2.2.2.2.2.2.2.1
  have hfl := hc.2.2.2.2.2.2.2.2.2.2.2.2.2
  have hok := hinv.oOk
  have hd := hinv.dia
  have hT : nput (u.1 3) 30 0 0 0 = nput (u.1 3) 30 0 0 0 := rfl
  have hIE := hinv.E (TE hT)
  have hmok := hIE.mOk
  have hP0 : lpic D dA ad on cL cD aL aD (wdo u.1 0 (u.1 0), u.2.1, u.2.2) H := by rw [wdo_eta]; exact hP
  refine lv_aload_n hx hb dL_law_758 rfl (lv_at hl 4 rfl) ?_
  refine lv_aload_n hx hb dL_law_759 rfl (lv_at hl 5 rfl) ?_
  refine lv_iload hx hb dL_law_760 (lv_at hl 0 rfl) ?_
  refine lv_iconst (v := nI 1) hx hb dL_law_762 (by decide) ?_
  refine lv_iadd hx hb dL_law_763 ?_
  refine b_sld hc hS (sc_in hj hL (by decide)) dL_law_764 ?_
  refine lv_aload_n hx hb dL_law_765 rfl (lv_at hl 2 rfl) ?_
  refine b_L (lw_isOnRoll (v := (xs (nix (nI (7 * j) + nI 1)))) hfl hI hs hon0 hon1 hon2 hok hd (fun z => hinv.h01 (inB_t.mpr z))) hc hP0 hS hl.1 q686 q687 q0 q688 nok_L_isOnRoll rfl ⟨by omega, by show 8 + (4 + 11) + 400 ≤ _; omega⟩ hf dL_law_766 rfl (Nat.le_of_ble_eq_true rfl) (fun r u2 H locs hp hP hS => ?_)
  refine lv_istore (lv' := [(6, .int _), (5, .int _), (4, .ref _), (3, .ref _), (2, .ref _), (1, .ref _), (0, .ref _)]) hx hb dL_law_769 hl (by decide) rfl (fun ls hl => ?_)
  have h3 : u2.1 3 = u.1 3 := by
    rcases hp with ⟨k, h1, h2, h3⟩ | ⟨v, X9, h1, h2, h3, h4⟩
    · rw [h3]; exact wdo_ne (by decide)
    · replace h1 := nG_inr h1
      cases h1
      rw [h3]
      first | exact nEv3 | exact wdo_ne (by decide) | exact (wdo_ne (by decide)).trans (wdo_ne (by decide))
  have hP3 : lpic D dA ad on cL cD aL aD (wdo u2.1 3 (u.1 3), u2.2.1, u2.2.2) H := by rw [← h3, wdo_eta]; exact hP
  refine lv_aload_n hx hb dL_law_771 rfl (lv_at hl 4 rfl) ?_
  refine lv_aload_n hx hb dL_law_772 rfl (lv_at hl 6 rfl) ?_
  refine lv_iload hx hb dL_law_773 (lv_at hl 1 rfl) ?_
  refine lv_iconst (v := nI 1) hx hb dL_law_775 (by decide) ?_
  refine lv_iadd hx hb dL_law_776 ?_
  refine b_sld hc hS (sc_in hj hL (by decide)) dL_law_777 ?_
  refine b_Mi (c_X10_isOnRoll (v := (xs (nix (nI (7 * j) + nI 1)))) hI hon3 hT hmok) hc hP3 hS hl.1 (ngoodV q1306 q1307 q1308 q11 q1309) (b_rec10 hc hP3.1) ⟨rfl, rfl⟩ nok_X10_isOnRoll rfl ⟨by show 9 + 1 ≤ _; omega, by show 8 + (2 + 11) + 360 ≤ _; omega⟩ ⟨by omega, by omega⟩ dL_law_778 rfl (Nat.le_of_ble_eq_true rfl) (fun r2 X3 H locs hp9 hP hS => ?_)
  obtain ⟨hr9, hX9⟩ := hp9
  rw [hX9] at hP
  have hkey := l_key hinv (sim_isOnRoll hinv hT rfl) hp
  obtain ⟨k1, k2, n8, k3, k4⟩ := hkey
  rw [← hr9] at k2
  refine lv_istore (lv' := [(7, .int _), (6, .int _), (5, .int _), (4, .ref _), (3, .ref _), (2, .ref _), (1, .ref _), (0, .ref _)]) hx hb dL_law_781 hl (by decide) rfl (fun ls hl => ?_)
  refine lv_aload_n hx hb dL_law_783 rfl (lv_at hl 5 rfl) ?_
  refine b_Mi (c_X10_thrown hI hon3) hc hP hS hl.1 (ngoodV q1207 q1208 q1209 q11 q1210) (b_rec10 hc hP.1) ⟨rfl, rfl⟩ nok_X10_thrown rfl ⟨by show 1 + 1 ≤ _; omega, by show 8 + (1 + 11) + 40 ≤ _; omega⟩ ⟨by omega, by omega⟩ dL_law_784 rfl (Nat.le_of_ble_eq_true rfl) (fun r3 X4 H locs hp9 hP hS => ?_)
  obtain ⟨hr8, hX8⟩ := hp9
  rw [hX8] at hP
  rw [k1] at hr8
  refine lv_iload hx hb dL_law_787 (lv_at hl 1 rfl) ?_
  refine lv_icmp_eq (tgt := 794) hx hb dL_law_789 (by decide) (fun _ => ?_) (fun c9 => absurd hr8 c9)
  have hfin : ∀ (ls : Array Slot), lv_has ls 9 [(5, .int (nI (7 * j))), (4, .ref aD), (3, .ref aL), (2, .ref (ad 3 30 0)), (1, .ref (ad 2 20 0)), (0, .ref b)] → W p l e R s m #[Value.ref b] below meth c H locs (cells + 6) (slots + 36) Q (F0 m 2783 ls []) := fun ls hl => hk (_, u2.2) n8 _ _ _ k3 (by show nInv (wdo u2.1 3 _) (wdo u2.1 3 _ 3) n8; rw [wdo_at]; exact k4) hP hS hl
  refine lv_iload hx hb dL_law_794 (lv_at hl 1 rfl) ?_
  refine lv_if_ne (tgt := 818) hx hb dL_law_796 (by decide) (fun _ => ?_) (fun c8 => ?_)
  · skip
    refine lv_goto (tgt := 2783) hx hb dL_law_818 (by decide) ?_
    exact hfin _ (lv_sub hl [2, 3, 4, 5, 6, 7] rfl)
  · have k5 := k2 c8
    refine lv_aload_n hx hb dL_law_799 rfl (lv_at hl 4 rfl) ?_
    refine lv_iconst (v := 0) hx hb dL_law_800 (by decide) ?_
    refine b_lld hc hP dL_law_801 ?_
    refine lv_iload hx hb dL_law_802 (lv_at hl 0 rfl) ?_
    refine lv_if_eq (tgt := 811) hx hb dL_law_804 (by decide) (fun c7 => ?_) (fun c7 => ?_)
    · refine lv_lconst (v := 0) hx hb dL_law_811 rfl ?_
      refine W.lcmp hx hb dL_law_812 ?_
      refine lv_if_eq (tgt := 818) hx hb dL_law_813 (by decide) (fun _ => ?_) (fun c9 => absurd (by rw [show u2.2.1 = 0 from k5.trans (if_pos c7)]; exact lg_self _) c9)
      refine lv_goto (tgt := 2783) hx hb dL_law_818 (by decide) ?_
      exact hfin _ (lv_sub hl [2, 3, 4, 5, 6, 7] rfl)
    · refine lv_lconst (v := 1) hx hb dL_law_807 rfl ?_
      refine lv_goto (tgt := 812) hx hb dL_law_808 (by decide) ?_
      refine W.lcmp hx hb dL_law_812 ?_
      refine lv_if_eq (tgt := 818) hx hb dL_law_813 (by decide) (fun _ => ?_) (fun c9 => absurd (by rw [show u2.2.1 = 1 from k5.trans (if_neg c7)]; exact lg_self _) c9)
      refine lv_goto (tgt := 2783) hx hb dL_law_818 (by decide) ?_
      exact hfin _ (lv_sub hl [2, 3, 4, 5, 6, 7] rfl)
set_option maxHeartbeats 4000000 in
theorem lk_11 (hc : lB p l s m meth c b L xs D dA ad on cL cD aL aD) (hinv : nInv u.1 (u.1 3) n) (hn : n < 512) (hP : lpic D dA ad on cL cD aL aD u H) (hS : va_S (fun q => s.heap.size ≤ q) s.heap H locs) (hl : lv_has ls 9 [(5, .int (nI (7 * j))), (4, .ref aD), (3, .ref aL), (2, .ref (ad 3 30 0)), (1, .ref (ad 2 20 0)), (0, .ref b)]) (hj : 7 * j + 6 < L) (hL : L ≤ 3584) (hR : 12 ≤ R.frames ∧ 480 ≤ R.locals) (hf : cells + 6 ≤ R.cells ∧ slots + 36 ≤ R.slots) (hk : lKont p l e R s m below meth c b D dA ad on cL cD aL aD n j cells slots Q) : W p l e R s m #[Value.ref b] below meth c H locs cells slots Q (F0 m 821 ls []) := by
  have hx := hc.1
  have hb := hc.2.1
  have hI := hc.2.2.2.2.2.2.2.2.1
  have hs := hc.2.2.2.2.2.2.2.2.2.1
  obtain ⟨hon0, hon1, hon2, hon3⟩ := hc.2.2.2.2.2.2.2.2.2.2.2.2.1
  have hfl := hc.2.2.2.2.2.2.2.2.2.2.2.2.2
  have hok := hinv.oOk
  have hd := hinv.dia
  have hT : nput (u.1 3) 30 0 0 0 = nput (u.1 3) 30 0 0 0 := rfl
  have hIE := hinv.E (TE hT)
  have hmok := hIE.mOk
  have hP0 : lpic D dA ad on cL cD aL aD (wdo u.1 0 (u.1 0), u.2.1, u.2.2) H := by rw [wdo_eta]; exact hP
  refine lv_aload_n hx hb dL_law_821 rfl (lv_at hl 4 rfl) ?_
  refine lv_aload_n hx hb dL_law_822 rfl (lv_at hl 5 rfl) ?_
  refine lv_iload hx hb dL_law_823 (lv_at hl 0 rfl) ?_
  refine lv_iconst (v := nI 1) hx hb dL_law_825 (by decide) ?_
  refine lv_iadd hx hb dL_law_826 ?_
  refine b_sld hc hS (sc_in hj hL (by decide)) dL_law_827 ?_
  refine lv_aload_n hx hb dL_law_828 rfl (lv_at hl 5 rfl) ?_
  refine lv_iload hx hb dL_law_829 (lv_at hl 0 rfl) ?_
  refine lv_iconst (v := nI 2) hx hb dL_law_831 (by decide) ?_
  refine lv_iadd hx hb dL_law_832 ?_
  refine b_sld hc hS (sc_in hj hL (by decide)) dL_law_833 ?_
  refine lv_aload_n hx hb dL_law_834 rfl (lv_at hl 5 rfl) ?_
  refine lv_iload hx hb dL_law_835 (lv_at hl 0 rfl) ?_
  refine lv_iconst (v := nI 3) hx hb dL_law_837 (by decide) ?_
  refine lv_iadd hx hb dL_law_838 ?_
  refine b_sld hc hS (sc_in hj hL (by decide)) dL_law_839 ?_
  refine lv_i2c (v := _) hx hb dL_law_840 rfl ?_
  refine lv_aload_n hx hb dL_law_841 rfl (lv_at hl 5 rfl) ?_
  refine lv_iload hx hb dL_law_842 (lv_at hl 0 rfl) ?_
  refine lv_iconst (v := nI 4) hx hb dL_law_844 (by decide) ?_
  refine lv_iadd hx hb dL_law_845 ?_
  refine b_sld hc hS (sc_in hj hL (by decide)) dL_law_846 ?_
  refine lv_i2c (v := _) hx hb dL_law_847 rfl ?_
  refine lv_aload_n hx hb dL_law_848 rfl (lv_at hl 5 rfl) ?_
  refine lv_iload hx hb dL_law_849 (lv_at hl 0 rfl) ?_
  refine lv_iconst (v := nI 5) hx hb dL_law_851 (by decide) ?_
  refine lv_iadd hx hb dL_law_852 ?_
  refine b_sld hc hS (sc_in hj hL (by decide)) dL_law_853 ?_
  refine lv_i2c (v := _) hx hb dL_law_854 rfl ?_
  refine lv_aload_n hx hb dL_law_855 rfl (lv_at hl 5 rfl) ?_
  refine lv_iload hx hb dL_law_856 (lv_at hl 0 rfl) ?_
  refine lv_bipush (v := nI 6) hx hb dL_law_858 (by decide) ?_
  refine lv_iadd hx hb dL_law_860 ?_
  refine b_sld hc hS (sc_in hj hL (by decide)) dL_law_861 ?_
  refine lv_i2c (v := _) hx hb dL_law_862 rfl ?_
  refine lv_aload_n hx hb dL_law_863 rfl (lv_at hl 2 rfl) ?_
  refine b_L (lw_file (a := (xs (nix (nI (7 * j) + nI 1)))) (pp := (xs (nix (nI (7 * j) + nI 2)))) (n1 := ((xs (nix (nI (7 * j) + nI 3))).toUInt32 % 65536).toInt32) (n2 := ((xs (nix (nI (7 * j) + nI 4))).toUInt32 % 65536).toInt32) (n3 := ((xs (nix (nI (7 * j) + nI 5))).toUInt32 % 65536).toInt32) (n4 := ((xs (nix (nI (7 * j) + nI 6))).toUInt32 % 65536).toInt32) hfl hI hs hon0 hon1 hon2 hok hd) hc hP0 hS hl.1 q693 q694 q0 q695 nok_L_file rfl ⟨by omega, by show 8 + (9 + 11) + 400 ≤ _; omega⟩ hf dL_law_864 rfl (Nat.le_of_ble_eq_true rfl) (fun r u2 H locs hp hP hS => ?_)
  refine lv_istore (lv' := [(6, .int _), (5, .int _), (4, .ref _), (3, .ref _), (2, .ref _), (1, .ref _), (0, .ref _)]) hx hb dL_law_867 hl (by decide) rfl (fun ls hl => ?_)
  have h3 : u2.1 3 = u.1 3 := by
    rcases hp with ⟨k, h1, h2, h3⟩ | ⟨v, X9, h1, h2, h3, h4⟩
    · rw [h3]; exact wdo_ne (by decide)
    · replace h1 := nG_inr (nG_inr (nG_inr (nG_inr (nG_inr h1))))
      cases h1
      rw [h3]
      first | exact nEv3 | exact wdo_ne (by decide) | exact (wdo_ne (by decide)).trans (wdo_ne (by decide))
  have hP3 : lpic D dA ad on cL cD aL aD (wdo u2.1 3 (u.1 3), u2.2.1, u2.2.2) H := by rw [← h3, wdo_eta]; exact hP
  refine lv_aload_n hx hb dL_law_869 rfl (lv_at hl 4 rfl) ?_
  refine lv_aload_n hx hb dL_law_870 rfl (lv_at hl 6 rfl) ?_
  refine lv_iload hx hb dL_law_871 (lv_at hl 1 rfl) ?_
  refine lv_iconst (v := nI 1) hx hb dL_law_873 (by decide) ?_
  refine lv_iadd hx hb dL_law_874 ?_
  refine b_sld hc hS (sc_in hj hL (by decide)) dL_law_875 ?_
  refine lv_aload_n hx hb dL_law_876 rfl (lv_at hl 6 rfl) ?_
  refine lv_iload hx hb dL_law_877 (lv_at hl 1 rfl) ?_
  refine lv_iconst (v := nI 2) hx hb dL_law_879 (by decide) ?_
  refine lv_iadd hx hb dL_law_880 ?_
  refine b_sld hc hS (sc_in hj hL (by decide)) dL_law_881 ?_
  refine lv_aload_n hx hb dL_law_882 rfl (lv_at hl 6 rfl) ?_
  refine lv_iload hx hb dL_law_883 (lv_at hl 1 rfl) ?_
  refine lv_iconst (v := nI 3) hx hb dL_law_885 (by decide) ?_
  refine lv_iadd hx hb dL_law_886 ?_
  refine b_sld hc hS (sc_in hj hL (by decide)) dL_law_887 ?_
  refine lv_i2c (v := _) hx hb dL_law_888 rfl ?_
  refine lv_aload_n hx hb dL_law_889 rfl (lv_at hl 6 rfl) ?_
  refine lv_iload hx hb dL_law_890 (lv_at hl 1 rfl) ?_
  refine lv_iconst (v := nI 4) hx hb dL_law_892 (by decide) ?_
  refine lv_iadd hx hb dL_law_893 ?_
  refine b_sld hc hS (sc_in hj hL (by decide)) dL_law_894 ?_
  refine lv_i2c (v := _) hx hb dL_law_895 rfl ?_
  refine lv_aload_n hx hb dL_law_896 rfl (lv_at hl 6 rfl) ?_
  refine lv_iload hx hb dL_law_897 (lv_at hl 1 rfl) ?_
  refine lv_iconst (v := nI 5) hx hb dL_law_899 (by decide) ?_
  refine lv_iadd hx hb dL_law_900 ?_
  refine b_sld hc hS (sc_in hj hL (by decide)) dL_law_901 ?_
  refine lv_i2c (v := _) hx hb dL_law_902 rfl ?_
  refine lv_aload_n hx hb dL_law_903 rfl (lv_at hl 6 rfl) ?_
  refine lv_iload hx hb dL_law_904 (lv_at hl 1 rfl) ?_
  refine lv_bipush (v := nI 6) hx hb dL_law_906 (by decide) ?_
  refine lv_iadd hx hb dL_law_908 ?_
  refine b_sld hc hS (sc_in hj hL (by decide)) dL_law_909 ?_
  refine lv_i2c (v := _) hx hb dL_law_910 rfl ?_
  refine b_Mi (c_X10_file (a := (xs (nix (nI (7 * j) + nI 1)))) (q := (xs (nix (nI (7 * j) + nI 2)))) (n1 := ((xs (nix (nI (7 * j) + nI 3))).toUInt32 % 65536).toInt32) (n2 := ((xs (nix (nI (7 * j) + nI 4))).toUInt32 % 65536).toInt32) (n3 := ((xs (nix (nI (7 * j) + nI 5))).toUInt32 % 65536).toInt32) (n4 := ((xs (nix (nI (7 * j) + nI 6))).toUInt32 % 65536).toInt32) hI hon3 hT hmok) hc hP3 hS hl.1 (ngoodV q1310 q1311 q1312 q11 q1313) (b_rec10 hc hP3.1) ⟨rfl, rfl⟩ nok_X10_file rfl ⟨by show 9 + 1 ≤ _; omega, by show 8 + (7 + 11) + 360 ≤ _; omega⟩ ⟨by omega, by omega⟩ dL_law_911 rfl (Nat.le_of_ble_eq_true rfl) (fun r2 X3 H locs hp9 hP hS => ?_)
  obtain ⟨hr9, hX9⟩ := hp9
  rw [hX9] at hP
  have hkey := l_key hinv (sim_file hinv hT hn rfl rfl rfl) hp
  obtain ⟨k1, k2, n8, k3, k4⟩ := hkey
  rw [← hr9] at k2
  refine lv_istore (lv' := [(7, .int _), (6, .int _), (5, .int _), (4, .ref _), (3, .ref _), (2, .ref _), (1, .ref _), (0, .ref _)]) hx hb dL_law_914 hl (by decide) rfl (fun ls hl => ?_)
  refine lv_aload_n hx hb dL_law_916 rfl (lv_at hl 5 rfl) ?_
  refine b_Mi (c_X10_thrown hI hon3) hc hP hS hl.1 (ngoodV q1207 q1208 q1209 q11 q1210) (b_rec10 hc hP.1) ⟨rfl, rfl⟩ nok_X10_thrown rfl ⟨by show 1 + 1 ≤ _; omega, by show 8 + (1 + 11) + 40 ≤ _; omega⟩ ⟨by omega, by omega⟩ dL_law_917 rfl (Nat.le_of_ble_eq_true rfl) (fun r3 X4 H locs hp9 hP hS => ?_)
  obtain ⟨hr8, hX8⟩ := hp9
  rw [hX8] at hP
  rw [k1] at hr8
  refine lv_iload hx hb dL_law_920 (lv_at hl 1 rfl) ?_
  refine lv_icmp_eq (tgt := 927) hx hb dL_law_922 (by decide) (fun _ => ?_) (fun c9 => absurd hr8 c9)
  have hfin : ∀ (ls : Array Slot), lv_has ls 9 [(5, .int (nI (7 * j))), (4, .ref aD), (3, .ref aL), (2, .ref (ad 3 30 0)), (1, .ref (ad 2 20 0)), (0, .ref b)] → W p l e R s m #[Value.ref b] below meth c H locs (cells + 6) (slots + 36) Q (F0 m 2783 ls []) := fun ls hl => hk (_, u2.2) n8 _ _ _ k3 (by show nInv (wdo u2.1 3 _) (wdo u2.1 3 _ 3) n8; rw [wdo_at]; exact k4) hP hS hl
  refine lv_iload hx hb dL_law_927 (lv_at hl 1 rfl) ?_
  refine lv_if_ne (tgt := 944) hx hb dL_law_929 (by decide) (fun _ => ?_) (fun c8 => ?_)
  · skip
    refine lv_goto (tgt := 2783) hx hb dL_law_944 (by decide) ?_
    exact hfin _ (lv_sub hl [2, 3, 4, 5, 6, 7] rfl)
  · have k5 := k2 c8
    refine lv_aload_n hx hb dL_law_932 rfl (lv_at hl 4 rfl) ?_
    refine lv_iconst (v := 0) hx hb dL_law_933 (by decide) ?_
    refine b_lld hc hP dL_law_934 ?_
    refine lv_iload hx hb dL_law_935 (lv_at hl 0 rfl) ?_
    refine lv_i2l (v := _) hx hb dL_law_937 rfl ?_
    refine W.lcmp hx hb dL_law_938 ?_
    refine lv_if_eq (tgt := 944) hx hb dL_law_939 (by decide) (fun _ => ?_) (fun c9 => absurd (by rw [show u2.2.1 = r2.toInt64 from k5]; exact lg_self _) c9)
    refine lv_goto (tgt := 2783) hx hb dL_law_944 (by decide) ?_
    exact hfin _ (lv_sub hl [2, 3, 4, 5, 6, 7] rfl)
set_option maxHeartbeats 4000000 in
theorem lk_12 (hc : lB p l s m meth c b L xs D dA ad on cL cD aL aD) (hinv : nInv u.1 (u.1 3) n) (hn : n < 512) (hP : lpic D dA ad on cL cD aL aD u H) (hS : va_S (fun q => s.heap.size ≤ q) s.heap H locs) (hl : lv_has ls 9 [(5, .int (nI (7 * j))), (4, .ref aD), (3, .ref aL), (2, .ref (ad 3 30 0)), (1, .ref (ad 2 20 0)), (0, .ref b)]) (hj : 7 * j + 6 < L) (hL : L ≤ 3584) (hR : 12 ≤ R.frames ∧ 480 ≤ R.locals) (hf : cells + 6 ≤ R.cells ∧ slots + 36 ≤ R.slots) (hk : lKont p l e R s m below meth c b D dA ad on cL cD aL aD n j cells slots Q) : W p l e R s m #[Value.ref b] below meth c H locs cells slots Q (F0 m 947 ls []) := by
  have hx := hc.1
  have hb := hc.2.1
  have hI := hc.2.2.2.2.2.2.2.2.1
  have hs := hc.2.2.2.2.2.2.2.2.2.1
  obtain ⟨hon0, hon1, hon2, hon3⟩ := hc.2.2.2.2.2.2.2.2.2.2.2.2.1
  have hfl := hc.2.2.2.2.2.2.2.2.2.2.2.2.2
  have hok := hinv.oOk
  have hd := hinv.dia
  have hT : nput (u.1 3) 30 0 0 0 = nput (u.1 3) 30 0 0 0 := rfl
  have hIE := hinv.E (TE hT)
  have hmok := hIE.mOk
  have hP0 : lpic D dA ad on cL cD aL aD (wdo u.1 0 (u.1 0), u.2.1, u.2.2) H := by rw [wdo_eta]; exact hP
  refine lv_aload_n hx hb dL_law_947 rfl (lv_at hl 4 rfl) ?_
  refine lv_aload_n hx hb dL_law_948 rfl (lv_at hl 5 rfl) ?_
  refine lv_iload hx hb dL_law_949 (lv_at hl 0 rfl) ?_
  refine lv_iconst (v := nI 1) hx hb dL_law_951 (by decide) ?_
  refine lv_iadd hx hb dL_law_952 ?_
  refine b_sld hc hS (sc_in hj hL (by decide)) dL_law_953 ?_
  refine lv_aload_n hx hb dL_law_954 rfl (lv_at hl 5 rfl) ?_
  refine lv_iload hx hb dL_law_955 (lv_at hl 0 rfl) ?_
  refine lv_iconst (v := nI 2) hx hb dL_law_957 (by decide) ?_
  refine lv_iadd hx hb dL_law_958 ?_
  refine b_sld hc hS (sc_in hj hL (by decide)) dL_law_959 ?_
  refine lv_aload_n hx hb dL_law_960 rfl (lv_at hl 2 rfl) ?_
  refine b_L (lw_sign (pp := (xs (nix (nI (7 * j) + nI 1)))) (v := (xs (nix (nI (7 * j) + nI 2)))) hfl hI hs hon0 hon1 hon2 hok hd) hc hP0 hS hl.1 q721 q722 q0 q723 nok_L_sign rfl ⟨by omega, by show 8 + (5 + 11) + 400 ≤ _; omega⟩ hf dL_law_961 rfl (Nat.le_of_ble_eq_true rfl) (fun r u2 H locs hp hP hS => ?_)
  refine lv_istore (lv' := [(6, .int _), (5, .int _), (4, .ref _), (3, .ref _), (2, .ref _), (1, .ref _), (0, .ref _)]) hx hb dL_law_964 hl (by decide) rfl (fun ls hl => ?_)
  have h3 : u2.1 3 = u.1 3 := by
    rcases hp with ⟨k, h1, h2, h3⟩ | ⟨v, X9, h1, h2, h3, h4⟩
    · rw [h3]; exact wdo_ne (by decide)
    · replace h1 := nG_inr (nG_inr (nG_inr (nG_inr (nG_inr h1))))
      cases h1
      rw [h3]
      first | exact nEv3 | exact wdo_ne (by decide) | exact (wdo_ne (by decide)).trans (wdo_ne (by decide))
  have hP3 : lpic D dA ad on cL cD aL aD (wdo u2.1 3 (u.1 3), u2.2.1, u2.2.2) H := by rw [← h3, wdo_eta]; exact hP
  refine lv_aload_n hx hb dL_law_966 rfl (lv_at hl 4 rfl) ?_
  refine lv_aload_n hx hb dL_law_967 rfl (lv_at hl 6 rfl) ?_
  refine lv_iload hx hb dL_law_968 (lv_at hl 1 rfl) ?_
  refine lv_iconst (v := nI 1) hx hb dL_law_970 (by decide) ?_
  refine lv_iadd hx hb dL_law_971 ?_
  refine b_sld hc hS (sc_in hj hL (by decide)) dL_law_972 ?_
  refine lv_aload_n hx hb dL_law_973 rfl (lv_at hl 6 rfl) ?_
  refine lv_iload hx hb dL_law_974 (lv_at hl 1 rfl) ?_
  refine lv_iconst (v := nI 2) hx hb dL_law_976 (by decide) ?_
  refine lv_iadd hx hb dL_law_977 ?_
  refine b_sld hc hS (sc_in hj hL (by decide)) dL_law_978 ?_
  refine b_Mi (c_X10_sign (x := (xs (nix (nI (7 * j) + nI 1)))) (v := (xs (nix (nI (7 * j) + nI 2)))) hI hon3 hT hmok) hc hP3 hS hl.1 (ngoodV q1324 q1325 q1326 q11 q1327) (b_rec10 hc hP3.1) ⟨rfl, rfl⟩ nok_X10_sign rfl ⟨by show 9 + 1 ≤ _; omega, by show 8 + (3 + 11) + 360 ≤ _; omega⟩ ⟨by omega, by omega⟩ dL_law_979 rfl (Nat.le_of_ble_eq_true rfl) (fun r2 X3 H locs hp9 hP hS => ?_)
  obtain ⟨hr9, hX9⟩ := hp9
  rw [hX9] at hP
  have hkey := l_key hinv (sim_sign hinv hT hn rfl rfl) hp
  obtain ⟨k1, k2, n8, k3, k4⟩ := hkey
  rw [← hr9] at k2
  refine lv_istore (lv' := [(7, .int _), (6, .int _), (5, .int _), (4, .ref _), (3, .ref _), (2, .ref _), (1, .ref _), (0, .ref _)]) hx hb dL_law_982 hl (by decide) rfl (fun ls hl => ?_)
  refine lv_aload_n hx hb dL_law_984 rfl (lv_at hl 5 rfl) ?_
  refine b_Mi (c_X10_thrown hI hon3) hc hP hS hl.1 (ngoodV q1207 q1208 q1209 q11 q1210) (b_rec10 hc hP.1) ⟨rfl, rfl⟩ nok_X10_thrown rfl ⟨by show 1 + 1 ≤ _; omega, by show 8 + (1 + 11) + 40 ≤ _; omega⟩ ⟨by omega, by omega⟩ dL_law_985 rfl (Nat.le_of_ble_eq_true rfl) (fun r3 X4 H locs hp9 hP hS => ?_)
  obtain ⟨hr8, hX8⟩ := hp9
  rw [hX8] at hP
  rw [k1] at hr8
  refine lv_iload hx hb dL_law_988 (lv_at hl 1 rfl) ?_
  refine lv_icmp_eq (tgt := 995) hx hb dL_law_990 (by decide) (fun _ => ?_) (fun c9 => absurd hr8 c9)
  have hfin : ∀ (ls : Array Slot), lv_has ls 9 [(5, .int (nI (7 * j))), (4, .ref aD), (3, .ref aL), (2, .ref (ad 3 30 0)), (1, .ref (ad 2 20 0)), (0, .ref b)] → W p l e R s m #[Value.ref b] below meth c H locs (cells + 6) (slots + 36) Q (F0 m 2783 ls []) := fun ls hl => hk (_, u2.2) n8 _ _ _ k3 (by show nInv (wdo u2.1 3 _) (wdo u2.1 3 _ 3) n8; rw [wdo_at]; exact k4) hP hS hl
  refine lv_iload hx hb dL_law_995 (lv_at hl 1 rfl) ?_
  refine lv_if_ne (tgt := 1012) hx hb dL_law_997 (by decide) (fun _ => ?_) (fun c8 => ?_)
  · skip
    refine lv_goto (tgt := 2783) hx hb dL_law_1012 (by decide) ?_
    exact hfin _ (lv_sub hl [2, 3, 4, 5, 6, 7] rfl)
  · have k5 := k2 c8
    refine lv_aload_n hx hb dL_law_1000 rfl (lv_at hl 4 rfl) ?_
    refine lv_iconst (v := 0) hx hb dL_law_1001 (by decide) ?_
    refine b_lld hc hP dL_law_1002 ?_
    refine lv_iload hx hb dL_law_1003 (lv_at hl 0 rfl) ?_
    refine lv_i2l (v := _) hx hb dL_law_1005 rfl ?_
    refine W.lcmp hx hb dL_law_1006 ?_
    refine lv_if_eq (tgt := 1012) hx hb dL_law_1007 (by decide) (fun _ => ?_) (fun c9 => absurd (by rw [show u2.2.1 = r2.toInt64 from k5]; exact lg_self _) c9)
    refine lv_goto (tgt := 2783) hx hb dL_law_1012 (by decide) ?_
    exact hfin _ (lv_sub hl [2, 3, 4, 5, 6, 7] rfl)
set_option maxHeartbeats 4000000 in
theorem lk_13 (hc : lB p l s m meth c b L xs D dA ad on cL cD aL aD) (hinv : nInv u.1 (u.1 3) n) (hn : n < 512) (hP : lpic D dA ad on cL cD aL aD u H) (hS : va_S (fun q => s.heap.size ≤ q) s.heap H locs) (hl : lv_has ls 9 [(5, .int (nI (7 * j))), (4, .ref aD), (3, .ref aL), (2, .ref (ad 3 30 0)), (1, .ref (ad 2 20 0)), (0, .ref b)]) (hj : 7 * j + 6 < L) (hL : L ≤ 3584) (hR : 12 ≤ R.frames ∧ 480 ≤ R.locals) (hf : cells + 6 ≤ R.cells ∧ slots + 36 ≤ R.slots) (hk : lKont p l e R s m below meth c b D dA ad on cL cD aL aD n j cells slots Q) : W p l e R s m #[Value.ref b] below meth c H locs cells slots Q (F0 m 1015 ls []) := by
  have hx := hc.1
  have hb := hc.2.1
  have hI := hc.2.2.2.2.2.2.2.2.1
  have hs := hc.2.2.2.2.2.2.2.2.2.1
  obtain ⟨hon0, hon1, hon2, hon3⟩ := hc.2.2.2.2.2.2.2.2.2.2.2.2.1
  have hfl := hc.2.2.2.2.2.2.2.2.2.2.2.2.2
  have hok := hinv.oOk
  have hd := hinv.dia
  have hT : nput (u.1 3) 30 0 0 0 = nput (u.1 3) 30 0 0 0 := rfl
  have hIE := hinv.E (TE hT)
  have hmok := hIE.mOk
  have hP0 : lpic D dA ad on cL cD aL aD (wdo u.1 0 (u.1 0), u.2.1, u.2.2) H := by rw [wdo_eta]; exact hP
  refine lv_aload_n hx hb dL_law_1015 rfl (lv_at hl 4 rfl) ?_
  refine lv_aload_n hx hb dL_law_1016 rfl (lv_at hl 5 rfl) ?_
  refine lv_iload hx hb dL_law_1017 (lv_at hl 0 rfl) ?_
  refine lv_iconst (v := nI 1) hx hb dL_law_1019 (by decide) ?_
  refine lv_iadd hx hb dL_law_1020 ?_
  refine b_sld hc hS (sc_in hj hL (by decide)) dL_law_1021 ?_
  refine lv_aload_n hx hb dL_law_1022 rfl (lv_at hl 5 rfl) ?_
  refine lv_iload hx hb dL_law_1023 (lv_at hl 0 rfl) ?_
  refine lv_iconst (v := nI 2) hx hb dL_law_1025 (by decide) ?_
  refine lv_iadd hx hb dL_law_1026 ?_
  refine b_sld hc hS (sc_in hj hL (by decide)) dL_law_1027 ?_
  refine lv_aload_n hx hb dL_law_1028 rfl (lv_at hl 2 rfl) ?_
  refine b_L (lw_pay (pp := (xs (nix (nI (7 * j) + nI 1)))) (a := (xs (nix (nI (7 * j) + nI 2)))) hfl hI hs hon0 hon1 hon2 hok hd) hc hP0 hS hl.1 q740 q741 q0 q742 nok_L_pay rfl ⟨by omega, by show 8 + (5 + 11) + 400 ≤ _; omega⟩ hf dL_law_1029 rfl (Nat.le_of_ble_eq_true rfl) (fun r u2 H locs hp hP hS => ?_)
  refine lv_istore (lv' := [(6, .int _), (5, .int _), (4, .ref _), (3, .ref _), (2, .ref _), (1, .ref _), (0, .ref _)]) hx hb dL_law_1032 hl (by decide) rfl (fun ls hl => ?_)
  have h3 : u2.1 3 = u.1 3 := by
    rcases hp with ⟨k, h1, h2, h3⟩ | ⟨v, X9, h1, h2, h3, h4⟩
    · rw [h3]; exact wdo_ne (by decide)
    · replace h1 := nG_inr (nG_inr (nG_inr (nG_inr h1)))
      cases h1
      rw [h3]
      first | exact nEv3 | exact wdo_ne (by decide) | exact (wdo_ne (by decide)).trans (wdo_ne (by decide))
  have hP3 : lpic D dA ad on cL cD aL aD (wdo u2.1 3 (u.1 3), u2.2.1, u2.2.2) H := by rw [← h3, wdo_eta]; exact hP
  refine lv_aload_n hx hb dL_law_1034 rfl (lv_at hl 4 rfl) ?_
  refine lv_aload_n hx hb dL_law_1035 rfl (lv_at hl 6 rfl) ?_
  refine lv_iload hx hb dL_law_1036 (lv_at hl 1 rfl) ?_
  refine lv_iconst (v := nI 1) hx hb dL_law_1038 (by decide) ?_
  refine lv_iadd hx hb dL_law_1039 ?_
  refine b_sld hc hS (sc_in hj hL (by decide)) dL_law_1040 ?_
  refine lv_aload_n hx hb dL_law_1041 rfl (lv_at hl 6 rfl) ?_
  refine lv_iload hx hb dL_law_1042 (lv_at hl 1 rfl) ?_
  refine lv_iconst (v := nI 2) hx hb dL_law_1044 (by decide) ?_
  refine lv_iadd hx hb dL_law_1045 ?_
  refine b_sld hc hS (sc_in hj hL (by decide)) dL_law_1046 ?_
  refine b_Mi (c_X10_pay (x := (xs (nix (nI (7 * j) + nI 1)))) (a := (xs (nix (nI (7 * j) + nI 2)))) hI hon3 hT hmok) hc hP3 hS hl.1 (ngoodV q1332 q1333 q1334 q11 q1335) (b_rec10 hc hP3.1) ⟨rfl, rfl⟩ nok_X10_pay rfl ⟨by show 9 + 1 ≤ _; omega, by show 8 + (3 + 11) + 360 ≤ _; omega⟩ ⟨by omega, by omega⟩ dL_law_1047 rfl (Nat.le_of_ble_eq_true rfl) (fun r2 X3 H locs hp9 hP hS => ?_)
  obtain ⟨hr9, hX9⟩ := hp9
  rw [hX9] at hP
  have hkey := l_key hinv (sim_pay hinv hT hn rfl rfl rfl) hp
  obtain ⟨k1, k2, n8, k3, k4⟩ := hkey
  rw [← hr9] at k2
  refine lv_istore (lv' := [(7, .int _), (6, .int _), (5, .int _), (4, .ref _), (3, .ref _), (2, .ref _), (1, .ref _), (0, .ref _)]) hx hb dL_law_1050 hl (by decide) rfl (fun ls hl => ?_)
  refine lv_aload_n hx hb dL_law_1052 rfl (lv_at hl 5 rfl) ?_
  refine b_Mi (c_X10_thrown hI hon3) hc hP hS hl.1 (ngoodV q1207 q1208 q1209 q11 q1210) (b_rec10 hc hP.1) ⟨rfl, rfl⟩ nok_X10_thrown rfl ⟨by show 1 + 1 ≤ _; omega, by show 8 + (1 + 11) + 40 ≤ _; omega⟩ ⟨by omega, by omega⟩ dL_law_1053 rfl (Nat.le_of_ble_eq_true rfl) (fun r3 X4 H locs hp9 hP hS => ?_)
  obtain ⟨hr8, hX8⟩ := hp9
  rw [hX8] at hP
  rw [k1] at hr8
  refine lv_iload hx hb dL_law_1056 (lv_at hl 1 rfl) ?_
  refine lv_icmp_eq (tgt := 1063) hx hb dL_law_1058 (by decide) (fun _ => ?_) (fun c9 => absurd hr8 c9)
  have hfin : ∀ (ls : Array Slot), lv_has ls 9 [(5, .int (nI (7 * j))), (4, .ref aD), (3, .ref aL), (2, .ref (ad 3 30 0)), (1, .ref (ad 2 20 0)), (0, .ref b)] → W p l e R s m #[Value.ref b] below meth c H locs (cells + 6) (slots + 36) Q (F0 m 2783 ls []) := fun ls hl => hk (_, u2.2) n8 _ _ _ k3 (by show nInv (wdo u2.1 3 _) (wdo u2.1 3 _ 3) n8; rw [wdo_at]; exact k4) hP hS hl
  refine lv_iload hx hb dL_law_1063 (lv_at hl 1 rfl) ?_
  refine lv_if_ne (tgt := 1080) hx hb dL_law_1065 (by decide) (fun _ => ?_) (fun c8 => ?_)
  · skip
    refine lv_goto (tgt := 2783) hx hb dL_law_1080 (by decide) ?_
    exact hfin _ (lv_sub hl [2, 3, 4, 5, 6, 7] rfl)
  · have k5 := k2 c8
    refine lv_aload_n hx hb dL_law_1068 rfl (lv_at hl 4 rfl) ?_
    refine lv_iconst (v := 0) hx hb dL_law_1069 (by decide) ?_
    refine b_lld hc hP dL_law_1070 ?_
    refine lv_iload hx hb dL_law_1071 (lv_at hl 0 rfl) ?_
    refine lv_i2l (v := _) hx hb dL_law_1073 rfl ?_
    refine W.lcmp hx hb dL_law_1074 ?_
    refine lv_if_eq (tgt := 1080) hx hb dL_law_1075 (by decide) (fun _ => ?_) (fun c9 => absurd (by rw [show u2.2.1 = r2.toInt64 from k5]; exact lg_self _) c9)
    refine lv_goto (tgt := 2783) hx hb dL_law_1080 (by decide) ?_
    exact hfin _ (lv_sub hl [2, 3, 4, 5, 6, 7] rfl)
set_option maxHeartbeats 4000000 in
theorem lk_14 (hc : lB p l s m meth c b L xs D dA ad on cL cD aL aD) (hinv : nInv u.1 (u.1 3) n) (hn : n < 512) (hP : lpic D dA ad on cL cD aL aD u H) (hS : va_S (fun q => s.heap.size ≤ q) s.heap H locs) (hl : lv_has ls 9 [(5, .int (nI (7 * j))), (4, .ref aD), (3, .ref aL), (2, .ref (ad 3 30 0)), (1, .ref (ad 2 20 0)), (0, .ref b)]) (hj : 7 * j + 6 < L) (hL : L ≤ 3584) (hR : 12 ≤ R.frames ∧ 480 ≤ R.locals) (hf : cells + 6 ≤ R.cells ∧ slots + 36 ≤ R.slots) (hk : lKont p l e R s m below meth c b D dA ad on cL cD aL aD n j cells slots Q) : W p l e R s m #[Value.ref b] below meth c H locs cells slots Q (F0 m 1083 ls []) := by
  have hx := hc.1
  have hb := hc.2.1
  have hI := hc.2.2.2.2.2.2.2.2.1
  have hs := hc.2.2.2.2.2.2.2.2.2.1
  obtain ⟨hon0, hon1, hon2, hon3⟩ := hc.2.2.2.2.2.2.2.2.2.2.2.2.1
  have hfl := hc.2.2.2.2.2.2.2.2.2.2.2.2.2
  have hok := hinv.oOk
  have hd := hinv.dia
  have hT : nput (u.1 3) 30 0 0 0 = nput (u.1 3) 30 0 0 0 := rfl
  have hIE := hinv.E (TE hT)
  have hmok := hIE.mOk
  have hP0 : lpic D dA ad on cL cD aL aD (wdo u.1 0 (u.1 0), u.2.1, u.2.2) H := by rw [wdo_eta]; exact hP
  refine lv_aload_n hx hb dL_law_1083 rfl (lv_at hl 4 rfl) ?_
  refine lv_aload_n hx hb dL_law_1084 rfl (lv_at hl 5 rfl) ?_
  refine lv_iload hx hb dL_law_1085 (lv_at hl 0 rfl) ?_
  refine lv_iconst (v := nI 1) hx hb dL_law_1087 (by decide) ?_
  refine lv_iadd hx hb dL_law_1088 ?_
  refine b_sld hc hS (sc_in hj hL (by decide)) dL_law_1089 ?_
  refine lv_aload_n hx hb dL_law_1090 rfl (lv_at hl 2 rfl) ?_
  refine b_L (lw_withdraw (pp := (xs (nix (nI (7 * j) + nI 1)))) hfl hI hs hon0 hon1 hon2 hok hd) hc hP0 hS hl.1 q748 q749 q0 q750 nok_L_withdraw rfl ⟨by omega, by show 8 + (4 + 11) + 400 ≤ _; omega⟩ hf dL_law_1091 rfl (Nat.le_of_ble_eq_true rfl) (fun r u2 H locs hp hP hS => ?_)
  refine lv_istore (lv' := [(6, .int _), (5, .int _), (4, .ref _), (3, .ref _), (2, .ref _), (1, .ref _), (0, .ref _)]) hx hb dL_law_1094 hl (by decide) rfl (fun ls hl => ?_)
  have h3 : u2.1 3 = u.1 3 := by
    rcases hp with ⟨k, h1, h2, h3⟩ | ⟨v, X9, h1, h2, h3, h4⟩
    · rw [h3]; exact wdo_ne (by decide)
    · replace h1 := nG_inr (nG_inr (nG_inr (nG_inr h1)))
      cases h1
      rw [h3]
      first | exact nEv3 | exact wdo_ne (by decide) | exact (wdo_ne (by decide)).trans (wdo_ne (by decide))
  have hP3 : lpic D dA ad on cL cD aL aD (wdo u2.1 3 (u.1 3), u2.2.1, u2.2.2) H := by rw [← h3, wdo_eta]; exact hP
  refine lv_aload_n hx hb dL_law_1096 rfl (lv_at hl 4 rfl) ?_
  refine lv_aload_n hx hb dL_law_1097 rfl (lv_at hl 6 rfl) ?_
  refine lv_iload hx hb dL_law_1098 (lv_at hl 1 rfl) ?_
  refine lv_iconst (v := nI 1) hx hb dL_law_1100 (by decide) ?_
  refine lv_iadd hx hb dL_law_1101 ?_
  refine b_sld hc hS (sc_in hj hL (by decide)) dL_law_1102 ?_
  refine b_Mi (c_X10_withdraw (x := (xs (nix (nI (7 * j) + nI 1)))) hI hon3 hT hmok) hc hP3 hS hl.1 (ngoodV q1336 q1337 q1338 q11 q1339) (b_rec10 hc hP3.1) ⟨rfl, rfl⟩ nok_X10_withdraw rfl ⟨by show 9 + 1 ≤ _; omega, by show 8 + (4 + 11) + 360 ≤ _; omega⟩ ⟨by omega, by omega⟩ dL_law_1103 rfl (Nat.le_of_ble_eq_true rfl) (fun r2 X3 H locs hp9 hP hS => ?_)
  obtain ⟨hr9, hX9⟩ := hp9
  rw [hX9] at hP
  have hkey := l_key hinv (sim_withdraw hinv hT hn rfl rfl) hp
  obtain ⟨k1, k2, n8, k3, k4⟩ := hkey
  rw [← hr9] at k2
  refine lv_istore (lv' := [(7, .int _), (6, .int _), (5, .int _), (4, .ref _), (3, .ref _), (2, .ref _), (1, .ref _), (0, .ref _)]) hx hb dL_law_1106 hl (by decide) rfl (fun ls hl => ?_)
  refine lv_aload_n hx hb dL_law_1108 rfl (lv_at hl 5 rfl) ?_
  refine b_Mi (c_X10_thrown hI hon3) hc hP hS hl.1 (ngoodV q1207 q1208 q1209 q11 q1210) (b_rec10 hc hP.1) ⟨rfl, rfl⟩ nok_X10_thrown rfl ⟨by show 1 + 1 ≤ _; omega, by show 8 + (1 + 11) + 40 ≤ _; omega⟩ ⟨by omega, by omega⟩ dL_law_1109 rfl (Nat.le_of_ble_eq_true rfl) (fun r3 X4 H locs hp9 hP hS => ?_)
  obtain ⟨hr8, hX8⟩ := hp9
  rw [hX8] at hP
  rw [k1] at hr8
  refine lv_iload hx hb dL_law_1112 (lv_at hl 1 rfl) ?_
  refine lv_icmp_eq (tgt := 1119) hx hb dL_law_1114 (by decide) (fun _ => ?_) (fun c9 => absurd hr8 c9)
  have hfin : ∀ (ls : Array Slot), lv_has ls 9 [(5, .int (nI (7 * j))), (4, .ref aD), (3, .ref aL), (2, .ref (ad 3 30 0)), (1, .ref (ad 2 20 0)), (0, .ref b)] → W p l e R s m #[Value.ref b] below meth c H locs (cells + 6) (slots + 36) Q (F0 m 2783 ls []) := fun ls hl => hk (_, u2.2) n8 _ _ _ k3 (by show nInv (wdo u2.1 3 _) (wdo u2.1 3 _ 3) n8; rw [wdo_at]; exact k4) hP hS hl
  refine lv_iload hx hb dL_law_1119 (lv_at hl 1 rfl) ?_
  refine lv_if_ne (tgt := 1136) hx hb dL_law_1121 (by decide) (fun _ => ?_) (fun c8 => ?_)
  · skip
    refine lv_goto (tgt := 2783) hx hb dL_law_1136 (by decide) ?_
    exact hfin _ (lv_sub hl [2, 3, 4, 5, 6, 7] rfl)
  · have k5 := k2 c8
    refine lv_aload_n hx hb dL_law_1124 rfl (lv_at hl 4 rfl) ?_
    refine lv_iconst (v := 0) hx hb dL_law_1125 (by decide) ?_
    refine b_lld hc hP dL_law_1126 ?_
    refine lv_iload hx hb dL_law_1127 (lv_at hl 0 rfl) ?_
    refine lv_i2l (v := _) hx hb dL_law_1129 rfl ?_
    refine W.lcmp hx hb dL_law_1130 ?_
    refine lv_if_eq (tgt := 1136) hx hb dL_law_1131 (by decide) (fun _ => ?_) (fun c9 => absurd (by rw [show u2.2.1 = r2.toInt64 from k5]; exact lg_self _) c9)
    refine lv_goto (tgt := 2783) hx hb dL_law_1136 (by decide) ?_
    exact hfin _ (lv_sub hl [2, 3, 4, 5, 6, 7] rfl)
set_option maxHeartbeats 4000000 in
theorem lk_15 (hc : lB p l s m meth c b L xs D dA ad on cL cD aL aD) (hinv : nInv u.1 (u.1 3) n) (hn : n < 512) (hP : lpic D dA ad on cL cD aL aD u H) (hS : va_S (fun q => s.heap.size ≤ q) s.heap H locs) (hl : lv_has ls 9 [(5, .int (nI (7 * j))), (4, .ref aD), (3, .ref aL), (2, .ref (ad 3 30 0)), (1, .ref (ad 2 20 0)), (0, .ref b)]) (hj : 7 * j + 6 < L) (hL : L ≤ 3584) (hR : 12 ≤ R.frames ∧ 480 ≤ R.locals) (hf : cells + 6 ≤ R.cells ∧ slots + 36 ≤ R.slots) (hk : lKont p l e R s m below meth c b D dA ad on cL cD aL aD n j cells slots Q) : W p l e R s m #[Value.ref b] below meth c H locs cells slots Q (F0 m 1139 ls []) := by
  have hx := hc.1
  have hb := hc.2.1
  have hI := hc.2.2.2.2.2.2.2.2.1
  have hs := hc.2.2.2.2.2.2.2.2.2.1
  obtain ⟨hon0, hon1, hon2, hon3⟩ := hc.2.2.2.2.2.2.2.2.2.2.2.2.1
  have hfl := hc.2.2.2.2.2.2.2.2.2.2.2.2.2
  have hok := hinv.oOk
  have hd := hinv.dia
  have hT : nput (u.1 3) 30 0 0 0 = nput (u.1 3) 30 0 0 0 := rfl
  have hIE := hinv.E (TE hT)
  have hmok := hIE.mOk
  have hP0 : lpic D dA ad on cL cD aL aD (wdo u.1 0 (u.1 0), u.2.1, u.2.2) H := by rw [wdo_eta]; exact hP
  refine lv_aload_n hx hb dL_law_1139 rfl (lv_at hl 4 rfl) ?_
  refine lv_aload_n hx hb dL_law_1140 rfl (lv_at hl 5 rfl) ?_
  refine lv_iload hx hb dL_law_1141 (lv_at hl 0 rfl) ?_
  refine lv_iconst (v := nI 1) hx hb dL_law_1143 (by decide) ?_
  refine lv_iadd hx hb dL_law_1144 ?_
  refine b_sld hc hS (sc_in hj hL (by decide)) dL_law_1145 ?_
  refine lv_aload_n hx hb dL_law_1146 rfl (lv_at hl 2 rfl) ?_
  refine b_L (lw_die (pp := (xs (nix (nI (7 * j) + nI 1)))) hfl hI hs hon0 hon1 hon2 hok hd) hc hP0 hS hl.1 q767 q768 q0 q769 nok_L_die rfl ⟨by omega, by show 8 + (4 + 11) + 400 ≤ _; omega⟩ hf dL_law_1147 rfl (Nat.le_of_ble_eq_true rfl) (fun r u2 H locs hp hP hS => ?_)
  refine lv_istore (lv' := [(6, .int _), (5, .int _), (4, .ref _), (3, .ref _), (2, .ref _), (1, .ref _), (0, .ref _)]) hx hb dL_law_1150 hl (by decide) rfl (fun ls hl => ?_)
  have h3 : u2.1 3 = u.1 3 := by
    rcases hp with ⟨k, h1, h2, h3⟩ | ⟨v, X9, h1, h2, h3, h4⟩
    · rw [h3]; exact wdo_ne (by decide)
    · replace h1 := nG_inr (nG_inr (nG_inr (nG_inr (nG_inr h1))))
      cases h1
      rw [h3]
      first | exact nEv3 | exact wdo_ne (by decide) | exact (wdo_ne (by decide)).trans (wdo_ne (by decide))
  have hP3 : lpic D dA ad on cL cD aL aD (wdo u2.1 3 (u.1 3), u2.2.1, u2.2.2) H := by rw [← h3, wdo_eta]; exact hP
  refine lv_aload_n hx hb dL_law_1152 rfl (lv_at hl 4 rfl) ?_
  refine lv_aload_n hx hb dL_law_1153 rfl (lv_at hl 6 rfl) ?_
  refine lv_iload hx hb dL_law_1154 (lv_at hl 1 rfl) ?_
  refine lv_iconst (v := nI 1) hx hb dL_law_1156 (by decide) ?_
  refine lv_iadd hx hb dL_law_1157 ?_
  refine b_sld hc hS (sc_in hj hL (by decide)) dL_law_1158 ?_
  refine b_Mi (c_X10_die (x := (xs (nix (nI (7 * j) + nI 1)))) hI hon3 hT hmok) hc hP3 hS hl.1 (ngoodV q1344 q1345 q1346 q11 q1347) (b_rec10 hc hP3.1) ⟨rfl, rfl⟩ nok_X10_die rfl ⟨by show 9 + 1 ≤ _; omega, by show 8 + (2 + 11) + 360 ≤ _; omega⟩ ⟨by omega, by omega⟩ dL_law_1159 rfl (Nat.le_of_ble_eq_true rfl) (fun r2 X3 H locs hp9 hP hS => ?_)
  obtain ⟨hr9, hX9⟩ := hp9
  rw [hX9] at hP
  have hkey := l_key hinv (sim_die hinv hT hn rfl rfl) hp
  obtain ⟨k1, k2, n8, k3, k4⟩ := hkey
  rw [← hr9] at k2
  refine lv_istore (lv' := [(7, .int _), (6, .int _), (5, .int _), (4, .ref _), (3, .ref _), (2, .ref _), (1, .ref _), (0, .ref _)]) hx hb dL_law_1162 hl (by decide) rfl (fun ls hl => ?_)
  refine lv_aload_n hx hb dL_law_1164 rfl (lv_at hl 5 rfl) ?_
  refine b_Mi (c_X10_thrown hI hon3) hc hP hS hl.1 (ngoodV q1207 q1208 q1209 q11 q1210) (b_rec10 hc hP.1) ⟨rfl, rfl⟩ nok_X10_thrown rfl ⟨by show 1 + 1 ≤ _; omega, by show 8 + (1 + 11) + 40 ≤ _; omega⟩ ⟨by omega, by omega⟩ dL_law_1165 rfl (Nat.le_of_ble_eq_true rfl) (fun r3 X4 H locs hp9 hP hS => ?_)
  obtain ⟨hr8, hX8⟩ := hp9
  rw [hX8] at hP
  rw [k1] at hr8
  refine lv_iload hx hb dL_law_1168 (lv_at hl 1 rfl) ?_
  refine lv_icmp_eq (tgt := 1175) hx hb dL_law_1170 (by decide) (fun _ => ?_) (fun c9 => absurd hr8 c9)
  have hfin : ∀ (ls : Array Slot), lv_has ls 9 [(5, .int (nI (7 * j))), (4, .ref aD), (3, .ref aL), (2, .ref (ad 3 30 0)), (1, .ref (ad 2 20 0)), (0, .ref b)] → W p l e R s m #[Value.ref b] below meth c H locs (cells + 6) (slots + 36) Q (F0 m 2783 ls []) := fun ls hl => hk (_, u2.2) n8 _ _ _ k3 (by show nInv (wdo u2.1 3 _) (wdo u2.1 3 _ 3) n8; rw [wdo_at]; exact k4) hP hS hl
  refine lv_iload hx hb dL_law_1175 (lv_at hl 1 rfl) ?_
  refine lv_if_ne (tgt := 1199) hx hb dL_law_1177 (by decide) (fun _ => ?_) (fun c8 => ?_)
  · skip
    refine lv_goto (tgt := 2783) hx hb dL_law_1199 (by decide) ?_
    exact hfin _ (lv_sub hl [2, 3, 4, 5, 6, 7] rfl)
  · have k5 := k2 c8
    refine lv_aload_n hx hb dL_law_1180 rfl (lv_at hl 4 rfl) ?_
    refine lv_iconst (v := 0) hx hb dL_law_1181 (by decide) ?_
    refine b_lld hc hP dL_law_1182 ?_
    refine lv_iload hx hb dL_law_1183 (lv_at hl 0 rfl) ?_
    refine lv_if_eq (tgt := 1192) hx hb dL_law_1185 (by decide) (fun c7 => ?_) (fun c7 => ?_)
    · refine lv_lconst (v := 0) hx hb dL_law_1192 rfl ?_
      refine W.lcmp hx hb dL_law_1193 ?_
      refine lv_if_eq (tgt := 1199) hx hb dL_law_1194 (by decide) (fun _ => ?_) (fun c9 => absurd (by rw [show u2.2.1 = 0 from k5.trans (if_pos c7)]; exact lg_self _) c9)
      refine lv_goto (tgt := 2783) hx hb dL_law_1199 (by decide) ?_
      exact hfin _ (lv_sub hl [2, 3, 4, 5, 6, 7] rfl)
    · refine lv_lconst (v := 1) hx hb dL_law_1188 rfl ?_
      refine lv_goto (tgt := 1193) hx hb dL_law_1189 (by decide) ?_
      refine W.lcmp hx hb dL_law_1193 ?_
      refine lv_if_eq (tgt := 1199) hx hb dL_law_1194 (by decide) (fun _ => ?_) (fun c9 => absurd (by rw [show u2.2.1 = 1 from k5.trans (if_neg c7)]; exact lg_self _) c9)
      refine lv_goto (tgt := 2783) hx hb dL_law_1199 (by decide) ?_
      exact hfin _ (lv_sub hl [2, 3, 4, 5, 6, 7] rfl)
set_option maxHeartbeats 4000000 in
theorem lk_16 (hc : lB p l s m meth c b L xs D dA ad on cL cD aL aD) (hinv : nInv u.1 (u.1 3) n) (hn : n < 512) (hP : lpic D dA ad on cL cD aL aD u H) (hS : va_S (fun q => s.heap.size ≤ q) s.heap H locs) (hl : lv_has ls 9 [(5, .int (nI (7 * j))), (4, .ref aD), (3, .ref aL), (2, .ref (ad 3 30 0)), (1, .ref (ad 2 20 0)), (0, .ref b)]) (hj : 7 * j + 6 < L) (hL : L ≤ 3584) (hR : 12 ≤ R.frames ∧ 480 ≤ R.locals) (hf : cells + 6 ≤ R.cells ∧ slots + 36 ≤ R.slots) (hk : lKont p l e R s m below meth c b D dA ad on cL cD aL aD n j cells slots Q) : W p l e R s m #[Value.ref b] below meth c H locs cells slots Q (F0 m 1202 ls []) := by
  have hx := hc.1
  have hb := hc.2.1
  have hI := hc.2.2.2.2.2.2.2.2.1
  have hs := hc.2.2.2.2.2.2.2.2.2.1
  obtain ⟨hon0, hon1, hon2, hon3⟩ := hc.2.2.2.2.2.2.2.2.2.2.2.2.1
  have hfl := hc.2.2.2.2.2.2.2.2.2.2.2.2.2
  have hok := hinv.oOk
  have hd := hinv.dia
  have hT : nput (u.1 3) 30 0 0 0 = nput (u.1 3) 30 0 0 0 := rfl
  have hIE := hinv.E (TE hT)
  have hmok := hIE.mOk
  have hP0 : lpic D dA ad on cL cD aL aD (wdo u.1 0 (u.1 0), u.2.1, u.2.2) H := by rw [wdo_eta]; exact hP
  refine lv_aload_n hx hb dL_law_1202 rfl (lv_at hl 4 rfl) ?_
  refine lv_aload_n hx hb dL_law_1203 rfl (lv_at hl 5 rfl) ?_
  refine lv_iload hx hb dL_law_1204 (lv_at hl 0 rfl) ?_
  refine lv_iconst (v := nI 1) hx hb dL_law_1206 (by decide) ?_
  refine lv_iadd hx hb dL_law_1207 ?_
  refine b_sld hc hS (sc_in hj hL (by decide)) dL_law_1208 ?_
  refine lv_aload_n hx hb dL_law_1209 rfl (lv_at hl 5 rfl) ?_
  refine lv_iload hx hb dL_law_1210 (lv_at hl 0 rfl) ?_
  refine lv_iconst (v := nI 2) hx hb dL_law_1212 (by decide) ?_
  refine lv_iadd hx hb dL_law_1213 ?_
  refine b_sld hc hS (sc_in hj hL (by decide)) dL_law_1214 ?_
  refine lv_i2c (v := _) hx hb dL_law_1215 rfl ?_
  refine lv_aload_n hx hb dL_law_1216 rfl (lv_at hl 5 rfl) ?_
  refine lv_iload hx hb dL_law_1217 (lv_at hl 0 rfl) ?_
  refine lv_iconst (v := nI 3) hx hb dL_law_1219 (by decide) ?_
  refine lv_iadd hx hb dL_law_1220 ?_
  refine b_sld hc hS (sc_in hj hL (by decide)) dL_law_1221 ?_
  refine lv_i2c (v := _) hx hb dL_law_1222 rfl ?_
  refine lv_aload_n hx hb dL_law_1223 rfl (lv_at hl 5 rfl) ?_
  refine lv_iload hx hb dL_law_1224 (lv_at hl 0 rfl) ?_
  refine lv_iconst (v := nI 4) hx hb dL_law_1226 (by decide) ?_
  refine lv_iadd hx hb dL_law_1227 ?_
  refine b_sld hc hS (sc_in hj hL (by decide)) dL_law_1228 ?_
  refine lv_i2c (v := _) hx hb dL_law_1229 rfl ?_
  refine lv_aload_n hx hb dL_law_1230 rfl (lv_at hl 5 rfl) ?_
  refine lv_iload hx hb dL_law_1231 (lv_at hl 0 rfl) ?_
  refine lv_iconst (v := nI 5) hx hb dL_law_1233 (by decide) ?_
  refine lv_iadd hx hb dL_law_1234 ?_
  refine b_sld hc hS (sc_in hj hL (by decide)) dL_law_1235 ?_
  refine lv_i2c (v := _) hx hb dL_law_1236 rfl ?_
  refine lv_aload_n hx hb dL_law_1237 rfl (lv_at hl 2 rfl) ?_
  refine b_L (lw_replace (pp := (xs (nix (nI (7 * j) + nI 1)))) (n1 := ((xs (nix (nI (7 * j) + nI 2))).toUInt32 % 65536).toInt32) (n2 := ((xs (nix (nI (7 * j) + nI 3))).toUInt32 % 65536).toInt32) (n3 := ((xs (nix (nI (7 * j) + nI 4))).toUInt32 % 65536).toInt32) (n4 := ((xs (nix (nI (7 * j) + nI 5))).toUInt32 % 65536).toInt32) hfl hI hs hon0 hon1 hon2 hok hd) hc hP0 hS hl.1 q781 q782 q0 q783 nok_L_replace rfl ⟨by omega, by show 8 + (8 + 11) + 400 ≤ _; omega⟩ hf dL_law_1238 rfl (Nat.le_of_ble_eq_true rfl) (fun r u2 H locs hp hP hS => ?_)
  refine lv_istore (lv' := [(6, .int _), (5, .int _), (4, .ref _), (3, .ref _), (2, .ref _), (1, .ref _), (0, .ref _)]) hx hb dL_law_1241 hl (by decide) rfl (fun ls hl => ?_)
  have h3 : u2.1 3 = u.1 3 := by
    rcases hp with ⟨k, h1, h2, h3⟩ | ⟨v, X9, h1, h2, h3, h4⟩
    · rw [h3]; exact wdo_ne (by decide)
    · replace h1 := nG_inr (nG_inr (nG_inr h1))
      cases h1
      rw [h3]
      first | exact nEv3 | exact wdo_ne (by decide) | exact (wdo_ne (by decide)).trans (wdo_ne (by decide))
  have hP3 : lpic D dA ad on cL cD aL aD (wdo u2.1 3 (u.1 3), u2.2.1, u2.2.2) H := by rw [← h3, wdo_eta]; exact hP
  refine lv_aload_n hx hb dL_law_1243 rfl (lv_at hl 4 rfl) ?_
  refine lv_aload_n hx hb dL_law_1244 rfl (lv_at hl 6 rfl) ?_
  refine lv_iload hx hb dL_law_1245 (lv_at hl 1 rfl) ?_
  refine lv_iconst (v := nI 1) hx hb dL_law_1247 (by decide) ?_
  refine lv_iadd hx hb dL_law_1248 ?_
  refine b_sld hc hS (sc_in hj hL (by decide)) dL_law_1249 ?_
  refine lv_aload_n hx hb dL_law_1250 rfl (lv_at hl 6 rfl) ?_
  refine lv_iload hx hb dL_law_1251 (lv_at hl 1 rfl) ?_
  refine lv_iconst (v := nI 2) hx hb dL_law_1253 (by decide) ?_
  refine lv_iadd hx hb dL_law_1254 ?_
  refine b_sld hc hS (sc_in hj hL (by decide)) dL_law_1255 ?_
  refine lv_i2c (v := _) hx hb dL_law_1256 rfl ?_
  refine lv_aload_n hx hb dL_law_1257 rfl (lv_at hl 6 rfl) ?_
  refine lv_iload hx hb dL_law_1258 (lv_at hl 1 rfl) ?_
  refine lv_iconst (v := nI 3) hx hb dL_law_1260 (by decide) ?_
  refine lv_iadd hx hb dL_law_1261 ?_
  refine b_sld hc hS (sc_in hj hL (by decide)) dL_law_1262 ?_
  refine lv_i2c (v := _) hx hb dL_law_1263 rfl ?_
  refine lv_aload_n hx hb dL_law_1264 rfl (lv_at hl 6 rfl) ?_
  refine lv_iload hx hb dL_law_1265 (lv_at hl 1 rfl) ?_
  refine lv_iconst (v := nI 4) hx hb dL_law_1267 (by decide) ?_
  refine lv_iadd hx hb dL_law_1268 ?_
  refine b_sld hc hS (sc_in hj hL (by decide)) dL_law_1269 ?_
  refine lv_i2c (v := _) hx hb dL_law_1270 rfl ?_
  refine lv_aload_n hx hb dL_law_1271 rfl (lv_at hl 6 rfl) ?_
  refine lv_iload hx hb dL_law_1272 (lv_at hl 1 rfl) ?_
  refine lv_iconst (v := nI 5) hx hb dL_law_1274 (by decide) ?_
  refine lv_iadd hx hb dL_law_1275 ?_
  refine b_sld hc hS (sc_in hj hL (by decide)) dL_law_1276 ?_
  refine lv_i2c (v := _) hx hb dL_law_1277 rfl ?_
  refine b_Mi (c_X10_replace (x := (xs (nix (nI (7 * j) + nI 1)))) (n1 := ((xs (nix (nI (7 * j) + nI 2))).toUInt32 % 65536).toInt32) (n2 := ((xs (nix (nI (7 * j) + nI 3))).toUInt32 % 65536).toInt32) (n3 := ((xs (nix (nI (7 * j) + nI 4))).toUInt32 % 65536).toInt32) (n4 := ((xs (nix (nI (7 * j) + nI 5))).toUInt32 % 65536).toInt32) hI hon3 hT hmok) hc hP3 hS hl.1 (ngoodV q1352 q1353 q1354 q11 q1355) (b_rec10 hc hP3.1) ⟨rfl, rfl⟩ nok_X10_replace rfl ⟨by show 9 + 1 ≤ _; omega, by show 8 + (6 + 11) + 360 ≤ _; omega⟩ ⟨by omega, by omega⟩ dL_law_1278 rfl (Nat.le_of_ble_eq_true rfl) (fun r2 X3 H locs hp9 hP hS => ?_)
  obtain ⟨hr9, hX9⟩ := hp9
  rw [hX9] at hP
  have hkey := l_key hinv (sim_replace hinv hT hn rfl rfl rfl) hp
  obtain ⟨k1, k2, n8, k3, k4⟩ := hkey
  rw [← hr9] at k2
  refine lv_istore (lv' := [(7, .int _), (6, .int _), (5, .int _), (4, .ref _), (3, .ref _), (2, .ref _), (1, .ref _), (0, .ref _)]) hx hb dL_law_1281 hl (by decide) rfl (fun ls hl => ?_)
  refine lv_aload_n hx hb dL_law_1283 rfl (lv_at hl 5 rfl) ?_
  refine b_Mi (c_X10_thrown hI hon3) hc hP hS hl.1 (ngoodV q1207 q1208 q1209 q11 q1210) (b_rec10 hc hP.1) ⟨rfl, rfl⟩ nok_X10_thrown rfl ⟨by show 1 + 1 ≤ _; omega, by show 8 + (1 + 11) + 40 ≤ _; omega⟩ ⟨by omega, by omega⟩ dL_law_1284 rfl (Nat.le_of_ble_eq_true rfl) (fun r3 X4 H locs hp9 hP hS => ?_)
  obtain ⟨hr8, hX8⟩ := hp9
  rw [hX8] at hP
  rw [k1] at hr8
  refine lv_iload hx hb dL_law_1287 (lv_at hl 1 rfl) ?_
  refine lv_icmp_eq (tgt := 1294) hx hb dL_law_1289 (by decide) (fun _ => ?_) (fun c9 => absurd hr8 c9)
  have hfin : ∀ (ls : Array Slot), lv_has ls 9 [(5, .int (nI (7 * j))), (4, .ref aD), (3, .ref aL), (2, .ref (ad 3 30 0)), (1, .ref (ad 2 20 0)), (0, .ref b)] → W p l e R s m #[Value.ref b] below meth c H locs (cells + 6) (slots + 36) Q (F0 m 2783 ls []) := fun ls hl => hk (_, u2.2) n8 _ _ _ k3 (by show nInv (wdo u2.1 3 _) (wdo u2.1 3 _ 3) n8; rw [wdo_at]; exact k4) hP hS hl
  refine lv_iload hx hb dL_law_1294 (lv_at hl 1 rfl) ?_
  refine lv_if_ne (tgt := 1311) hx hb dL_law_1296 (by decide) (fun _ => ?_) (fun c8 => ?_)
  · skip
    refine lv_goto (tgt := 2783) hx hb dL_law_1311 (by decide) ?_
    exact hfin _ (lv_sub hl [2, 3, 4, 5, 6, 7] rfl)
  · have k5 := k2 c8
    refine lv_aload_n hx hb dL_law_1299 rfl (lv_at hl 4 rfl) ?_
    refine lv_iconst (v := 0) hx hb dL_law_1300 (by decide) ?_
    refine b_lld hc hP dL_law_1301 ?_
    refine lv_iload hx hb dL_law_1302 (lv_at hl 0 rfl) ?_
    refine lv_i2l (v := _) hx hb dL_law_1304 rfl ?_
    refine W.lcmp hx hb dL_law_1305 ?_
    refine lv_if_eq (tgt := 1311) hx hb dL_law_1306 (by decide) (fun _ => ?_) (fun c9 => absurd (by rw [show u2.2.1 = r2.toInt64 from k5]; exact lg_self _) c9)
    refine lv_goto (tgt := 2783) hx hb dL_law_1311 (by decide) ?_
    exact hfin _ (lv_sub hl [2, 3, 4, 5, 6, 7] rfl)
set_option maxHeartbeats 4000000 in
theorem lk_17 (hc : lB p l s m meth c b L xs D dA ad on cL cD aL aD) (hinv : nInv u.1 (u.1 3) n) (hn : n < 512) (hP : lpic D dA ad on cL cD aL aD u H) (hS : va_S (fun q => s.heap.size ≤ q) s.heap H locs) (hl : lv_has ls 9 [(5, .int (nI (7 * j))), (4, .ref aD), (3, .ref aL), (2, .ref (ad 3 30 0)), (1, .ref (ad 2 20 0)), (0, .ref b)]) (hj : 7 * j + 6 < L) (hL : L ≤ 3584) (hR : 12 ≤ R.frames ∧ 480 ≤ R.locals) (hf : cells + 6 ≤ R.cells ∧ slots + 36 ≤ R.slots) (hk : lKont p l e R s m below meth c b D dA ad on cL cD aL aD n j cells slots Q) : W p l e R s m #[Value.ref b] below meth c H locs cells slots Q (F0 m 1314 ls []) := by
  have hx := hc.1
  have hb := hc.2.1
  have hI := hc.2.2.2.2.2.2.2.2.1
  have hs := hc.2.2.2.2.2.2.2.2.2.1
  obtain ⟨hon0, hon1, hon2, hon3⟩ := hc.2.2.2.2.2.2.2.2.2.2.2.2.1
  have hfl := hc.2.2.2.2.2.2.2.2.2.2.2.2.2
  have hok := hinv.oOk
  have hd := hinv.dia
  have hT : nput (u.1 3) 30 0 0 0 = nput (u.1 3) 30 0 0 0 := rfl
  have hIE := hinv.E (TE hT)
  have hmok := hIE.mOk
  have hP0 : lpic D dA ad on cL cD aL aD (wdo u.1 0 (u.1 0), u.2.1, u.2.2) H := by rw [wdo_eta]; exact hP
  refine lv_aload_n hx hb dL_law_1314 rfl (lv_at hl 4 rfl) ?_
  refine lv_aload_n hx hb dL_law_1315 rfl (lv_at hl 5 rfl) ?_
  refine lv_iload hx hb dL_law_1316 (lv_at hl 0 rfl) ?_
  refine lv_iconst (v := nI 1) hx hb dL_law_1318 (by decide) ?_
  refine lv_iadd hx hb dL_law_1319 ?_
  refine b_sld hc hS (sc_in hj hL (by decide)) dL_law_1320 ?_
  refine lv_aload_n hx hb dL_law_1321 rfl (lv_at hl 2 rfl) ?_
  refine b_L (lw_isReplaceable (pp := (xs (nix (nI (7 * j) + nI 1)))) hfl hI hs hon0 hon1 hon2 hok hd) hc hP0 hS hl.1 q789 q790 q0 q791 nok_L_isReplaceable rfl ⟨by omega, by show 8 + (4 + 11) + 400 ≤ _; omega⟩ hf dL_law_1322 rfl (Nat.le_of_ble_eq_true rfl) (fun r u2 H locs hp hP hS => ?_)
  refine lv_istore (lv' := [(6, .int _), (5, .int _), (4, .ref _), (3, .ref _), (2, .ref _), (1, .ref _), (0, .ref _)]) hx hb dL_law_1325 hl (by decide) rfl (fun ls hl => ?_)
  have h3 : u2.1 3 = u.1 3 := by
    rcases hp with ⟨k, h1, h2, h3⟩ | ⟨v, X9, h1, h2, h3, h4⟩
    · rw [h3]; exact wdo_ne (by decide)
    · replace h1 := nG_inr h1
      cases h1
      rw [h3]
      first | exact nEv3 | exact wdo_ne (by decide) | exact (wdo_ne (by decide)).trans (wdo_ne (by decide))
  have hP3 : lpic D dA ad on cL cD aL aD (wdo u2.1 3 (u.1 3), u2.2.1, u2.2.2) H := by rw [← h3, wdo_eta]; exact hP
  refine lv_aload_n hx hb dL_law_1327 rfl (lv_at hl 4 rfl) ?_
  refine lv_aload_n hx hb dL_law_1328 rfl (lv_at hl 6 rfl) ?_
  refine lv_iload hx hb dL_law_1329 (lv_at hl 1 rfl) ?_
  refine lv_iconst (v := nI 1) hx hb dL_law_1331 (by decide) ?_
  refine lv_iadd hx hb dL_law_1332 ?_
  refine b_sld hc hS (sc_in hj hL (by decide)) dL_law_1333 ?_
  refine b_Mi (c_X10_isReplaceable (x := (xs (nix (nI (7 * j) + nI 1)))) hI hon3 hT hmok) hc hP3 hS hl.1 (ngoodV q1356 q1357 q1358 q11 q1359) (b_rec10 hc hP3.1) ⟨rfl, rfl⟩ nok_X10_isReplaceable rfl ⟨by show 9 + 1 ≤ _; omega, by show 8 + (2 + 11) + 360 ≤ _; omega⟩ ⟨by omega, by omega⟩ dL_law_1334 rfl (Nat.le_of_ble_eq_true rfl) (fun r2 X3 H locs hp9 hP hS => ?_)
  obtain ⟨hr9, hX9⟩ := hp9
  rw [hX9] at hP
  have hkey := l_key hinv (sim_isReplaceable hinv hT rfl) hp
  obtain ⟨k1, k2, n8, k3, k4⟩ := hkey
  rw [← hr9] at k2
  refine lv_istore (lv' := [(7, .int _), (6, .int _), (5, .int _), (4, .ref _), (3, .ref _), (2, .ref _), (1, .ref _), (0, .ref _)]) hx hb dL_law_1337 hl (by decide) rfl (fun ls hl => ?_)
  refine lv_aload_n hx hb dL_law_1339 rfl (lv_at hl 5 rfl) ?_
  refine b_Mi (c_X10_thrown hI hon3) hc hP hS hl.1 (ngoodV q1207 q1208 q1209 q11 q1210) (b_rec10 hc hP.1) ⟨rfl, rfl⟩ nok_X10_thrown rfl ⟨by show 1 + 1 ≤ _; omega, by show 8 + (1 + 11) + 40 ≤ _; omega⟩ ⟨by omega, by omega⟩ dL_law_1340 rfl (Nat.le_of_ble_eq_true rfl) (fun r3 X4 H locs hp9 hP hS => ?_)
  obtain ⟨hr8, hX8⟩ := hp9
  rw [hX8] at hP
  rw [k1] at hr8
  refine lv_iload hx hb dL_law_1343 (lv_at hl 1 rfl) ?_
  refine lv_icmp_eq (tgt := 1350) hx hb dL_law_1345 (by decide) (fun _ => ?_) (fun c9 => absurd hr8 c9)
  have hfin : ∀ (ls : Array Slot), lv_has ls 9 [(5, .int (nI (7 * j))), (4, .ref aD), (3, .ref aL), (2, .ref (ad 3 30 0)), (1, .ref (ad 2 20 0)), (0, .ref b)] → W p l e R s m #[Value.ref b] below meth c H locs (cells + 6) (slots + 36) Q (F0 m 2783 ls []) := fun ls hl => hk (_, u2.2) n8 _ _ _ k3 (by show nInv (wdo u2.1 3 _) (wdo u2.1 3 _ 3) n8; rw [wdo_at]; exact k4) hP hS hl
  refine lv_iload hx hb dL_law_1350 (lv_at hl 1 rfl) ?_
  refine lv_if_ne (tgt := 1374) hx hb dL_law_1352 (by decide) (fun _ => ?_) (fun c8 => ?_)
  · skip
    refine lv_goto (tgt := 2783) hx hb dL_law_1374 (by decide) ?_
    exact hfin _ (lv_sub hl [2, 3, 4, 5, 6, 7] rfl)
  · have k5 := k2 c8
    refine lv_aload_n hx hb dL_law_1355 rfl (lv_at hl 4 rfl) ?_
    refine lv_iconst (v := 0) hx hb dL_law_1356 (by decide) ?_
    refine b_lld hc hP dL_law_1357 ?_
    refine lv_iload hx hb dL_law_1358 (lv_at hl 0 rfl) ?_
    refine lv_if_eq (tgt := 1367) hx hb dL_law_1360 (by decide) (fun c7 => ?_) (fun c7 => ?_)
    · refine lv_lconst (v := 0) hx hb dL_law_1367 rfl ?_
      refine W.lcmp hx hb dL_law_1368 ?_
      refine lv_if_eq (tgt := 1374) hx hb dL_law_1369 (by decide) (fun _ => ?_) (fun c9 => absurd (by rw [show u2.2.1 = 0 from k5.trans (if_pos c7)]; exact lg_self _) c9)
      refine lv_goto (tgt := 2783) hx hb dL_law_1374 (by decide) ?_
      exact hfin _ (lv_sub hl [2, 3, 4, 5, 6, 7] rfl)
    · refine lv_lconst (v := 1) hx hb dL_law_1363 rfl ?_
      refine lv_goto (tgt := 1368) hx hb dL_law_1364 (by decide) ?_
      refine W.lcmp hx hb dL_law_1368 ?_
      refine lv_if_eq (tgt := 1374) hx hb dL_law_1369 (by decide) (fun _ => ?_) (fun c9 => absurd (by rw [show u2.2.1 = 1 from k5.trans (if_neg c7)]; exact lg_self _) c9)
      refine lv_goto (tgt := 2783) hx hb dL_law_1374 (by decide) ?_
      exact hfin _ (lv_sub hl [2, 3, 4, 5, 6, 7] rfl)
set_option maxHeartbeats 4000000 in
theorem lk_18 (hc : lB p l s m meth c b L xs D dA ad on cL cD aL aD) (hinv : nInv u.1 (u.1 3) n) (hn : n < 512) (hP : lpic D dA ad on cL cD aL aD u H) (hS : va_S (fun q => s.heap.size ≤ q) s.heap H locs) (hl : lv_has ls 9 [(5, .int (nI (7 * j))), (4, .ref aD), (3, .ref aL), (2, .ref (ad 3 30 0)), (1, .ref (ad 2 20 0)), (0, .ref b)]) (hj : 7 * j + 6 < L) (hL : L ≤ 3584) (hR : 12 ≤ R.frames ∧ 480 ≤ R.locals) (hf : cells + 6 ≤ R.cells ∧ slots + 36 ≤ R.slots) (hk : lKont p l e R s m below meth c b D dA ad on cL cD aL aD n j cells slots Q) : W p l e R s m #[Value.ref b] below meth c H locs cells slots Q (F0 m 1377 ls []) := by
  have hx := hc.1
  have hb := hc.2.1
  have hI := hc.2.2.2.2.2.2.2.2.1
  have hs := hc.2.2.2.2.2.2.2.2.2.1
  obtain ⟨hon0, hon1, hon2, hon3⟩ := hc.2.2.2.2.2.2.2.2.2.2.2.2.1
  have hfl := hc.2.2.2.2.2.2.2.2.2.2.2.2.2
  have hok := hinv.oOk
  have hd := hinv.dia
  have hT : nput (u.1 3) 30 0 0 0 = nput (u.1 3) 30 0 0 0 := rfl
  have hIE := hinv.E (TE hT)
  have hmok := hIE.mOk
  have hP0 : lpic D dA ad on cL cD aL aD (wdo u.1 0 (u.1 0), u.2.1, u.2.2) H := by rw [wdo_eta]; exact hP
  refine lv_aload_n hx hb dL_law_1377 rfl (lv_at hl 4 rfl) ?_
  refine lv_aload_n hx hb dL_law_1378 rfl (lv_at hl 5 rfl) ?_
  refine lv_iload hx hb dL_law_1379 (lv_at hl 0 rfl) ?_
  refine lv_iconst (v := nI 1) hx hb dL_law_1381 (by decide) ?_
  refine lv_iadd hx hb dL_law_1382 ?_
  refine b_sld hc hS (sc_in hj hL (by decide)) dL_law_1383 ?_
  refine lv_aload_n hx hb dL_law_1384 rfl (lv_at hl 5 rfl) ?_
  refine lv_iload hx hb dL_law_1385 (lv_at hl 0 rfl) ?_
  refine lv_iconst (v := nI 2) hx hb dL_law_1387 (by decide) ?_
  refine lv_iadd hx hb dL_law_1388 ?_
  refine b_sld hc hS (sc_in hj hL (by decide)) dL_law_1389 ?_
  refine lv_aload_n hx hb dL_law_1390 rfl (lv_at hl 2 rfl) ?_
  refine b_L (lw_surname (pp := (xs (nix (nI (7 * j) + nI 1)))) (q := (xs (nix (nI (7 * j) + nI 2)))) hfl hI hs hon0 hon1 hon2 hok hd) hc hP0 hS hl.1 q796 q797 q0 q798 nok_L_surname rfl ⟨by omega, by show 8 + (5 + 11) + 400 ≤ _; omega⟩ hf dL_law_1391 rfl (Nat.le_of_ble_eq_true rfl) (fun r u2 H locs hp hP hS => ?_)
  refine lv_istore (lv' := [(6, .int _), (5, .int _), (4, .ref _), (3, .ref _), (2, .ref _), (1, .ref _), (0, .ref _)]) hx hb dL_law_1394 hl (by decide) rfl (fun ls hl => ?_)
  have h3 : u2.1 3 = u.1 3 := by
    rcases hp with ⟨k, h1, h2, h3⟩ | ⟨v, X9, h1, h2, h3, h4⟩
    · rw [h3]; exact wdo_ne (by decide)
    · replace h1 := nG_inr (nG_inr h1)
      cases h1
      rw [h3]
      first | exact nEv3 | exact wdo_ne (by decide) | exact (wdo_ne (by decide)).trans (wdo_ne (by decide))
  have hP3 : lpic D dA ad on cL cD aL aD (wdo u2.1 3 (u.1 3), u2.2.1, u2.2.2) H := by rw [← h3, wdo_eta]; exact hP
  refine lv_aload_n hx hb dL_law_1396 rfl (lv_at hl 4 rfl) ?_
  refine lv_aload_n hx hb dL_law_1397 rfl (lv_at hl 6 rfl) ?_
  refine lv_iload hx hb dL_law_1398 (lv_at hl 1 rfl) ?_
  refine lv_iconst (v := nI 1) hx hb dL_law_1400 (by decide) ?_
  refine lv_iadd hx hb dL_law_1401 ?_
  refine b_sld hc hS (sc_in hj hL (by decide)) dL_law_1402 ?_
  refine lv_aload_n hx hb dL_law_1403 rfl (lv_at hl 6 rfl) ?_
  refine lv_iload hx hb dL_law_1404 (lv_at hl 1 rfl) ?_
  refine lv_iconst (v := nI 2) hx hb dL_law_1406 (by decide) ?_
  refine lv_iadd hx hb dL_law_1407 ?_
  refine b_sld hc hS (sc_in hj hL (by decide)) dL_law_1408 ?_
  refine b_Mi (c_X10_surname (x := (xs (nix (nI (7 * j) + nI 1)))) (q := (xs (nix (nI (7 * j) + nI 2)))) hI hon3 hT hmok (fun k _ => hIE.z.n45 k)) hc hP3 hS hl.1 (ngoodV q1360 q1361 q1362 q11 q1363) (b_rec10 hc hP3.1) ⟨rfl, rfl⟩ nok_X10_surname rfl ⟨by show 9 + 1 ≤ _; omega, by show 8 + (3 + 11) + 360 ≤ _; omega⟩ ⟨by omega, by omega⟩ dL_law_1409 rfl (Nat.le_of_ble_eq_true rfl) (fun r2 X3 H locs hp9 hP hS => ?_)
  obtain ⟨hr9, hX9⟩ := hp9
  rw [hX9] at hP
  have hkey := l_key hinv (sim_surname hinv hT rfl) hp
  obtain ⟨k1, k2, n8, k3, k4⟩ := hkey
  rw [← hr9] at k2
  refine lv_istore (lv' := [(7, .int _), (6, .int _), (5, .int _), (4, .ref _), (3, .ref _), (2, .ref _), (1, .ref _), (0, .ref _)]) hx hb dL_law_1412 hl (by decide) rfl (fun ls hl => ?_)
  refine lv_aload_n hx hb dL_law_1414 rfl (lv_at hl 5 rfl) ?_
  refine b_Mi (c_X10_thrown hI hon3) hc hP hS hl.1 (ngoodV q1207 q1208 q1209 q11 q1210) (b_rec10 hc hP.1) ⟨rfl, rfl⟩ nok_X10_thrown rfl ⟨by show 1 + 1 ≤ _; omega, by show 8 + (1 + 11) + 40 ≤ _; omega⟩ ⟨by omega, by omega⟩ dL_law_1415 rfl (Nat.le_of_ble_eq_true rfl) (fun r3 X4 H locs hp9 hP hS => ?_)
  obtain ⟨hr8, hX8⟩ := hp9
  rw [hX8] at hP
  rw [k1] at hr8
  refine lv_iload hx hb dL_law_1418 (lv_at hl 1 rfl) ?_
  refine lv_icmp_eq (tgt := 1425) hx hb dL_law_1420 (by decide) (fun _ => ?_) (fun c9 => absurd hr8 c9)
  have hfin : ∀ (ls : Array Slot), lv_has ls 9 [(5, .int (nI (7 * j))), (4, .ref aD), (3, .ref aL), (2, .ref (ad 3 30 0)), (1, .ref (ad 2 20 0)), (0, .ref b)] → W p l e R s m #[Value.ref b] below meth c H locs (cells + 6) (slots + 36) Q (F0 m 2783 ls []) := fun ls hl => hk (_, u2.2) n8 _ _ _ k3 (by show nInv (wdo u2.1 3 _) (wdo u2.1 3 _ 3) n8; rw [wdo_at]; exact k4) hP hS hl
  refine lv_iload hx hb dL_law_1425 (lv_at hl 1 rfl) ?_
  refine lv_if_ne (tgt := 1442) hx hb dL_law_1427 (by decide) (fun _ => ?_) (fun c8 => ?_)
  · skip
    refine lv_goto (tgt := 2783) hx hb dL_law_1442 (by decide) ?_
    exact hfin _ (lv_sub hl [2, 3, 4, 5, 6, 7] rfl)
  · have k5 := k2 c8
    refine lv_aload_n hx hb dL_law_1430 rfl (lv_at hl 4 rfl) ?_
    refine lv_iconst (v := 0) hx hb dL_law_1431 (by decide) ?_
    refine b_lld hc hP dL_law_1432 ?_
    refine lv_iload hx hb dL_law_1433 (lv_at hl 0 rfl) ?_
    refine lv_i2l (v := _) hx hb dL_law_1435 rfl ?_
    refine W.lcmp hx hb dL_law_1436 ?_
    refine lv_if_eq (tgt := 1442) hx hb dL_law_1437 (by decide) (fun _ => ?_) (fun c9 => absurd (by rw [show u2.2.1 = r2.toInt64 from k5]; exact lg_self _) c9)
    refine lv_goto (tgt := 2783) hx hb dL_law_1442 (by decide) ?_
    exact hfin _ (lv_sub hl [2, 3, 4, 5, 6, 7] rfl)
set_option maxHeartbeats 4000000 in
theorem lk_19 (hc : lB p l s m meth c b L xs D dA ad on cL cD aL aD) (hinv : nInv u.1 (u.1 3) n) (hn : n < 512) (hP : lpic D dA ad on cL cD aL aD u H) (hS : va_S (fun q => s.heap.size ≤ q) s.heap H locs) (hl : lv_has ls 9 [(5, .int (nI (7 * j))), (4, .ref aD), (3, .ref aL), (2, .ref (ad 3 30 0)), (1, .ref (ad 2 20 0)), (0, .ref b)]) (hj : 7 * j + 6 < L) (hL : L ≤ 3584) (hR : 12 ≤ R.frames ∧ 480 ≤ R.locals) (hf : cells + 6 ≤ R.cells ∧ slots + 36 ≤ R.slots) (hk : lKont p l e R s m below meth c b D dA ad on cL cD aL aD n j cells slots Q) : W p l e R s m #[Value.ref b] below meth c H locs cells slots Q (F0 m 1445 ls []) := by
  have hx := hc.1
  have hb := hc.2.1
  have hI := hc.2.2.2.2.2.2.2.2.1
  have hs := hc.2.2.2.2.2.2.2.2.2.1
  obtain ⟨hon0, hon1, hon2, hon3⟩ := hc.2.2.2.2.2.2.2.2.2.2.2.2.1
  have hfl := hc.2.2.2.2.2.2.2.2.2.2.2.2.2
  have hok := hinv.oOk
  have hd := hinv.dia
  have hT : nput (u.1 3) 30 0 0 0 = nput (u.1 3) 30 0 0 0 := rfl
  have hIE := hinv.E (TE hT)
  have hmok := hIE.mOk
  have hP0 : lpic D dA ad on cL cD aL aD (wdo u.1 0 (u.1 0), u.2.1, u.2.2) H := by rw [wdo_eta]; exact hP
  refine lv_aload_n hx hb dL_law_1445 rfl (lv_at hl 4 rfl) ?_
  refine b_Xi (c_X9_papers (S := u.1 0) hfl hI hon0 hon1 hon2 hok hd) (fun k z => by cases z) hc hP0 hS hl.1 (ngoodV q338 q339 q340 q1 q341) (b_rec9 hc hP0.1) nok_X9_papers rfl ⟨by omega, by omega⟩ hf dL_law_1446 rfl (Nat.le_of_ble_eq_true rfl) (fun r X2 H locs hp hP hS => ?_)
  cases hp
  rw [wdo_eta] at hP
  refine lv_aload_n hx hb dL_law_1449 rfl (lv_at hl 3 rfl) ?_
  have hP3 : lpic D dA ad on cL cD aL aD (wdo u.1 3 (u.1 3), u.2.1, u.2.2) H := by rw [wdo_eta]; exact hP
  refine b_Mi (c_X10_papers hI hon3 hT hmok) hc hP3 hS hl.1 (ngoodV q1364 q1365 q1366 q11 q1367) (b_rec10 hc hP3.1) ⟨rfl, rfl⟩ nok_X10_papers rfl ⟨by show 9 + 1 ≤ _; omega, by show 8 + (1 + 11) + 360 ≤ _; omega⟩ ⟨by omega, by omega⟩ dL_law_1450 rfl (Nat.le_of_ble_eq_true rfl) (fun r2 X3 H locs hp hP hS => ?_)
  obtain ⟨hr9, hX9⟩ := hp
  rw [hX9] at hP
  have hs9 := sim_papers (hc := fun _ => 1) hinv hT
  obtain ⟨-, a2, n9, a3, a4⟩ := hs9.2 _ _ rfl
  rw [wdo_eta] at a4
  refine lv_icmp_eq (tgt := 2783) hx hb dL_law_1453 (by decide) (fun _ => ?_) (fun c9 => absurd (a2.symm.trans hr9.symm) c9)
  exact hk (_, u.2) n9 _ _ _ a3 (by show nInv (wdo u.1 3 _) (wdo u.1 3 _ 3) n9; rw [wdo_at]; exact a4.w3) hP hS hl
set_option maxHeartbeats 4000000 in
theorem lk_20 (hc : lB p l s m meth c b L xs D dA ad on cL cD aL aD) (hinv : nInv u.1 (u.1 3) n) (hn : n < 512) (hP : lpic D dA ad on cL cD aL aD u H) (hS : va_S (fun q => s.heap.size ≤ q) s.heap H locs) (hl : lv_has ls 9 [(5, .int (nI (7 * j))), (4, .ref aD), (3, .ref aL), (2, .ref (ad 3 30 0)), (1, .ref (ad 2 20 0)), (0, .ref b)]) (hj : 7 * j + 6 < L) (hL : L ≤ 3584) (hR : 12 ≤ R.frames ∧ 480 ≤ R.locals) (hf : cells + 6 ≤ R.cells ∧ slots + 36 ≤ R.slots) (hk : lKont p l e R s m below meth c b D dA ad on cL cD aL aD n j cells slots Q) : W p l e R s m #[Value.ref b] below meth c H locs cells slots Q (F0 m 1458 ls []) := by
  have hx := hc.1
  have hb := hc.2.1
  have hI := hc.2.2.2.2.2.2.2.2.1
  have hs := hc.2.2.2.2.2.2.2.2.2.1
  obtain ⟨hon0, hon1, hon2, hon3⟩ := hc.2.2.2.2.2.2.2.2.2.2.2.2.1
  have hfl := hc.2.2.2.2.2.2.2.2.2.2.2.2.2
  have hok := hinv.oOk
  have hd := hinv.dia
  have hT : nput (u.1 3) 30 0 0 0 = nput (u.1 3) 30 0 0 0 := rfl
  have hIE := hinv.E (TE hT)
  have hmok := hIE.mOk
  have hP0 : lpic D dA ad on cL cD aL aD (wdo u.1 0 (u.1 0), u.2.1, u.2.2) H := by rw [wdo_eta]; exact hP
  refine lv_aload_n hx hb dL_law_1458 rfl (lv_at hl 4 rfl) ?_
  refine lv_aload_n hx hb dL_law_1459 rfl (lv_at hl 5 rfl) ?_
  refine lv_iload hx hb dL_law_1460 (lv_at hl 0 rfl) ?_
  refine lv_iconst (v := nI 1) hx hb dL_law_1462 (by decide) ?_
  refine lv_iadd hx hb dL_law_1463 ?_
  refine b_sld hc hS (sc_in hj hL (by decide)) dL_law_1464 ?_
  refine lv_aload_n hx hb dL_law_1465 rfl (lv_at hl 2 rfl) ?_
  refine b_L (lw_counted (pp := (xs (nix (nI (7 * j) + nI 1)))) hfl hI hs hon0 hon1 hon2 hok hd) hc hP0 hS hl.1 q807 q808 q0 q809 nok_L_counted rfl ⟨by omega, by show 8 + (4 + 11) + 400 ≤ _; omega⟩ hf dL_law_1466 rfl (Nat.le_of_ble_eq_true rfl) (fun r u2 H locs hp hP hS => ?_)
  refine lv_istore (lv' := [(6, .int _), (5, .int _), (4, .ref _), (3, .ref _), (2, .ref _), (1, .ref _), (0, .ref _)]) hx hb dL_law_1469 hl (by decide) rfl (fun ls hl => ?_)
  have h3 : u2.1 3 = u.1 3 := by
    rcases hp with ⟨k, h1, h2, h3⟩ | ⟨v, X9, h1, h2, h3, h4⟩
    · rw [h3]; exact wdo_ne (by decide)
    · replace h1 := nG_inr h1
      cases h1
      rw [h3]
      first | exact nEv3 | exact wdo_ne (by decide) | exact (wdo_ne (by decide)).trans (wdo_ne (by decide))
  have hP3 : lpic D dA ad on cL cD aL aD (wdo u2.1 3 (u.1 3), u2.2.1, u2.2.2) H := by rw [← h3, wdo_eta]; exact hP
  refine lv_aload_n hx hb dL_law_1471 rfl (lv_at hl 4 rfl) ?_
  refine lv_aload_n hx hb dL_law_1472 rfl (lv_at hl 6 rfl) ?_
  refine lv_iload hx hb dL_law_1473 (lv_at hl 1 rfl) ?_
  refine lv_iconst (v := nI 1) hx hb dL_law_1475 (by decide) ?_
  refine lv_iadd hx hb dL_law_1476 ?_
  refine b_sld hc hS (sc_in hj hL (by decide)) dL_law_1477 ?_
  refine b_Mi (c_X10_counted (x := (xs (nix (nI (7 * j) + nI 1)))) hI hon3 hT hmok) hc hP3 hS hl.1 (ngoodV q1368 q1369 q1370 q11 q1371) (b_rec10 hc hP3.1) ⟨rfl, rfl⟩ nok_X10_counted rfl ⟨by show 9 + 1 ≤ _; omega, by show 8 + (4 + 11) + 360 ≤ _; omega⟩ ⟨by omega, by omega⟩ dL_law_1478 rfl (Nat.le_of_ble_eq_true rfl) (fun r2 X3 H locs hp9 hP hS => ?_)
  obtain ⟨hr9, hX9⟩ := hp9
  rw [hX9] at hP
  have hkey := l_key hinv (sim_counted hinv hT rfl) hp
  obtain ⟨k1, k2, n8, k3, k4⟩ := hkey
  rw [← hr9] at k2
  refine lv_istore (lv' := [(7, .int _), (6, .int _), (5, .int _), (4, .ref _), (3, .ref _), (2, .ref _), (1, .ref _), (0, .ref _)]) hx hb dL_law_1481 hl (by decide) rfl (fun ls hl => ?_)
  refine lv_aload_n hx hb dL_law_1483 rfl (lv_at hl 5 rfl) ?_
  refine b_Mi (c_X10_thrown hI hon3) hc hP hS hl.1 (ngoodV q1207 q1208 q1209 q11 q1210) (b_rec10 hc hP.1) ⟨rfl, rfl⟩ nok_X10_thrown rfl ⟨by show 1 + 1 ≤ _; omega, by show 8 + (1 + 11) + 40 ≤ _; omega⟩ ⟨by omega, by omega⟩ dL_law_1484 rfl (Nat.le_of_ble_eq_true rfl) (fun r3 X4 H locs hp9 hP hS => ?_)
  obtain ⟨hr8, hX8⟩ := hp9
  rw [hX8] at hP
  rw [k1] at hr8
  refine lv_iload hx hb dL_law_1487 (lv_at hl 1 rfl) ?_
  refine lv_icmp_eq (tgt := 1494) hx hb dL_law_1489 (by decide) (fun _ => ?_) (fun c9 => absurd hr8 c9)
  have hfin : ∀ (ls : Array Slot), lv_has ls 9 [(5, .int (nI (7 * j))), (4, .ref aD), (3, .ref aL), (2, .ref (ad 3 30 0)), (1, .ref (ad 2 20 0)), (0, .ref b)] → W p l e R s m #[Value.ref b] below meth c H locs (cells + 6) (slots + 36) Q (F0 m 2783 ls []) := fun ls hl => hk (_, u2.2) n8 _ _ _ k3 (by show nInv (wdo u2.1 3 _) (wdo u2.1 3 _ 3) n8; rw [wdo_at]; exact k4) hP hS hl
  refine lv_iload hx hb dL_law_1494 (lv_at hl 1 rfl) ?_
  refine lv_if_ne (tgt := 1511) hx hb dL_law_1496 (by decide) (fun _ => ?_) (fun c8 => ?_)
  · skip
    refine lv_goto (tgt := 2783) hx hb dL_law_1511 (by decide) ?_
    exact hfin _ (lv_sub hl [2, 3, 4, 5, 6, 7] rfl)
  · have k5 := k2 c8
    refine lv_aload_n hx hb dL_law_1499 rfl (lv_at hl 4 rfl) ?_
    refine lv_iconst (v := 0) hx hb dL_law_1500 (by decide) ?_
    refine b_lld hc hP dL_law_1501 ?_
    refine lv_iload hx hb dL_law_1502 (lv_at hl 0 rfl) ?_
    refine lv_i2l (v := _) hx hb dL_law_1504 rfl ?_
    refine W.lcmp hx hb dL_law_1505 ?_
    refine lv_if_eq (tgt := 1511) hx hb dL_law_1506 (by decide) (fun _ => ?_) (fun c9 => absurd (by rw [show u2.2.1 = r2.toInt64 from k5]; exact lg_self _) c9)
    refine lv_goto (tgt := 2783) hx hb dL_law_1511 (by decide) ?_
    exact hfin _ (lv_sub hl [2, 3, 4, 5, 6, 7] rfl)
set_option maxHeartbeats 4000000 in
theorem lk_21 (hc : lB p l s m meth c b L xs D dA ad on cL cD aL aD) (hinv : nInv u.1 (u.1 3) n) (hn : n < 512) (hP : lpic D dA ad on cL cD aL aD u H) (hS : va_S (fun q => s.heap.size ≤ q) s.heap H locs) (hl : lv_has ls 9 [(5, .int (nI (7 * j))), (4, .ref aD), (3, .ref aL), (2, .ref (ad 3 30 0)), (1, .ref (ad 2 20 0)), (0, .ref b)]) (hj : 7 * j + 6 < L) (hL : L ≤ 3584) (hR : 12 ≤ R.frames ∧ 480 ≤ R.locals) (hf : cells + 6 ≤ R.cells ∧ slots + 36 ≤ R.slots) (hk : lKont p l e R s m below meth c b D dA ad on cL cD aL aD n j cells slots Q) : W p l e R s m #[Value.ref b] below meth c H locs cells slots Q (F0 m 1514 ls []) := by
  have hx := hc.1
  have hb := hc.2.1
  have hI := hc.2.2.2.2.2.2.2.2.1
  have hs := hc.2.2.2.2.2.2.2.2.2.1
  obtain ⟨hon0, hon1, hon2, hon3⟩ := hc.2.2.2.2.2.2.2.2.2.2.2.2.1
  have hfl := hc.2.2.2.2.2.2.2.2.2.2.2.2.2
  have hok := hinv.oOk
  have hd := hinv.dia
  have hT : nput (u.1 3) 30 0 0 0 = nput (u.1 3) 30 0 0 0 := rfl
  have hIE := hinv.E (TE hT)
  have hmok := hIE.mOk
  have hP0 : lpic D dA ad on cL cD aL aD (wdo u.1 0 (u.1 0), u.2.1, u.2.2) H := by rw [wdo_eta]; exact hP
  refine lv_aload_n hx hb dL_law_1514 rfl (lv_at hl 4 rfl) ?_
  refine lv_aload_n hx hb dL_law_1515 rfl (lv_at hl 5 rfl) ?_
  refine lv_iload hx hb dL_law_1516 (lv_at hl 0 rfl) ?_
  refine lv_iconst (v := nI 1) hx hb dL_law_1518 (by decide) ?_
  refine lv_iadd hx hb dL_law_1519 ?_
  refine b_sld hc hS (sc_in hj hL (by decide)) dL_law_1520 ?_
  refine lv_aload_n hx hb dL_law_1521 rfl (lv_at hl 2 rfl) ?_
  refine b_L (lw_signatureResult (q := (xs (nix (nI (7 * j) + nI 1)))) hfl hI hs hon0 hon1 hon2 hok hd) hc hP0 hS hl.1 q814 q815 q0 q816 nok_L_signatureResult rfl ⟨by omega, by show 8 + (4 + 11) + 400 ≤ _; omega⟩ hf dL_law_1522 rfl (Nat.le_of_ble_eq_true rfl) (fun r u2 H locs hp hP hS => ?_)
  refine lv_istore (lv' := [(6, .int _), (5, .int _), (4, .ref _), (3, .ref _), (2, .ref _), (1, .ref _), (0, .ref _)]) hx hb dL_law_1525 hl (by decide) rfl (fun ls hl => ?_)
  have h3 : u2.1 3 = u.1 3 := by
    rcases hp with ⟨k, h1, h2, h3⟩ | ⟨v, X9, h1, h2, h3, h4⟩
    · rw [h3]; exact wdo_ne (by decide)
    · replace h1 := nG_inr h1
      cases h1
      rw [h3]
      first | exact nEv3 | exact wdo_ne (by decide) | exact (wdo_ne (by decide)).trans (wdo_ne (by decide))
  have hP3 : lpic D dA ad on cL cD aL aD (wdo u2.1 3 (u.1 3), u2.2.1, u2.2.2) H := by rw [← h3, wdo_eta]; exact hP
  refine lv_aload_n hx hb dL_law_1527 rfl (lv_at hl 4 rfl) ?_
  refine lv_aload_n hx hb dL_law_1528 rfl (lv_at hl 6 rfl) ?_
  refine lv_iload hx hb dL_law_1529 (lv_at hl 1 rfl) ?_
  refine lv_iconst (v := nI 1) hx hb dL_law_1531 (by decide) ?_
  refine lv_iadd hx hb dL_law_1532 ?_
  refine b_sld hc hS (sc_in hj hL (by decide)) dL_law_1533 ?_
  refine b_Mi (c_X10_signatureResult (k := (xs (nix (nI (7 * j) + nI 1)))) hI hon3 hT hmok) hc hP3 hS hl.1 (ngoodV q1376 q1377 q1378 q11 q1379) (b_rec10 hc hP3.1) ⟨rfl, rfl⟩ nok_X10_signatureResult rfl ⟨by show 9 + 1 ≤ _; omega, by show 8 + (2 + 11) + 360 ≤ _; omega⟩ ⟨by omega, by omega⟩ dL_law_1534 rfl (Nat.le_of_ble_eq_true rfl) (fun r2 X3 H locs hp9 hP hS => ?_)
  obtain ⟨hr9, hX9⟩ := hp9
  rw [hX9] at hP
  have hkey := l_key hinv (sim_signatureResult hinv hT rfl) hp
  obtain ⟨k1, k2, n8, k3, k4⟩ := hkey
  rw [← hr9] at k2
  refine lv_istore (lv' := [(7, .int _), (6, .int _), (5, .int _), (4, .ref _), (3, .ref _), (2, .ref _), (1, .ref _), (0, .ref _)]) hx hb dL_law_1537 hl (by decide) rfl (fun ls hl => ?_)
  refine lv_aload_n hx hb dL_law_1539 rfl (lv_at hl 5 rfl) ?_
  refine b_Mi (c_X10_thrown hI hon3) hc hP hS hl.1 (ngoodV q1207 q1208 q1209 q11 q1210) (b_rec10 hc hP.1) ⟨rfl, rfl⟩ nok_X10_thrown rfl ⟨by show 1 + 1 ≤ _; omega, by show 8 + (1 + 11) + 40 ≤ _; omega⟩ ⟨by omega, by omega⟩ dL_law_1540 rfl (Nat.le_of_ble_eq_true rfl) (fun r3 X4 H locs hp9 hP hS => ?_)
  obtain ⟨hr8, hX8⟩ := hp9
  rw [hX8] at hP
  rw [k1] at hr8
  refine lv_iload hx hb dL_law_1543 (lv_at hl 1 rfl) ?_
  refine lv_icmp_eq (tgt := 1550) hx hb dL_law_1545 (by decide) (fun _ => ?_) (fun c9 => absurd hr8 c9)
  have hfin : ∀ (ls : Array Slot), lv_has ls 9 [(5, .int (nI (7 * j))), (4, .ref aD), (3, .ref aL), (2, .ref (ad 3 30 0)), (1, .ref (ad 2 20 0)), (0, .ref b)] → W p l e R s m #[Value.ref b] below meth c H locs (cells + 6) (slots + 36) Q (F0 m 2783 ls []) := fun ls hl => hk (_, u2.2) n8 _ _ _ k3 (by show nInv (wdo u2.1 3 _) (wdo u2.1 3 _ 3) n8; rw [wdo_at]; exact k4) hP hS hl
  refine lv_iload hx hb dL_law_1550 (lv_at hl 1 rfl) ?_
  refine lv_if_ne (tgt := 1567) hx hb dL_law_1552 (by decide) (fun _ => ?_) (fun c8 => ?_)
  · skip
    refine lv_goto (tgt := 2783) hx hb dL_law_1567 (by decide) ?_
    exact hfin _ (lv_sub hl [2, 3, 4, 5, 6, 7] rfl)
  · have k5 := k2 c8
    refine lv_aload_n hx hb dL_law_1555 rfl (lv_at hl 4 rfl) ?_
    refine lv_iconst (v := 0) hx hb dL_law_1556 (by decide) ?_
    refine b_lld hc hP dL_law_1557 ?_
    refine lv_iload hx hb dL_law_1558 (lv_at hl 0 rfl) ?_
    refine lv_i2l (v := _) hx hb dL_law_1560 rfl ?_
    refine W.lcmp hx hb dL_law_1561 ?_
    refine lv_if_eq (tgt := 1567) hx hb dL_law_1562 (by decide) (fun _ => ?_) (fun c9 => absurd (by rw [show u2.2.1 = r2.toInt64 from k5]; exact lg_self _) c9)
    refine lv_goto (tgt := 2783) hx hb dL_law_1567 (by decide) ?_
    exact hfin _ (lv_sub hl [2, 3, 4, 5, 6, 7] rfl)
set_option maxHeartbeats 4000000 in
theorem lk_22 (hc : lB p l s m meth c b L xs D dA ad on cL cD aL aD) (hinv : nInv u.1 (u.1 3) n) (hn : n < 512) (hP : lpic D dA ad on cL cD aL aD u H) (hS : va_S (fun q => s.heap.size ≤ q) s.heap H locs) (hl : lv_has ls 9 [(5, .int (nI (7 * j))), (4, .ref aD), (3, .ref aL), (2, .ref (ad 3 30 0)), (1, .ref (ad 2 20 0)), (0, .ref b)]) (hj : 7 * j + 6 < L) (hL : L ≤ 3584) (hR : 12 ≤ R.frames ∧ 480 ≤ R.locals) (hf : cells + 6 ≤ R.cells ∧ slots + 36 ≤ R.slots) (hk : lKont p l e R s m below meth c b D dA ad on cL cD aL aD n j cells slots Q) : W p l e R s m #[Value.ref b] below meth c H locs cells slots Q (F0 m 1570 ls []) := by
  have hx := hc.1
  have hb := hc.2.1
  have hI := hc.2.2.2.2.2.2.2.2.1
  have hs := hc.2.2.2.2.2.2.2.2.2.1
  obtain ⟨hon0, hon1, hon2, hon3⟩ := hc.2.2.2.2.2.2.2.2.2.2.2.2.1
  have hfl := hc.2.2.2.2.2.2.2.2.2.2.2.2.2
  have hok := hinv.oOk
  have hd := hinv.dia
  have hT : nput (u.1 3) 30 0 0 0 = nput (u.1 3) 30 0 0 0 := rfl
  have hIE := hinv.E (TE hT)
  have hmok := hIE.mOk
  have hP0 : lpic D dA ad on cL cD aL aD (wdo u.1 0 (u.1 0), u.2.1, u.2.2) H := by rw [wdo_eta]; exact hP
  refine lv_aload_n hx hb dL_law_1570 rfl (lv_at hl 4 rfl) ?_
  refine lv_aload_n hx hb dL_law_1571 rfl (lv_at hl 5 rfl) ?_
  refine lv_iload hx hb dL_law_1572 (lv_at hl 0 rfl) ?_
  refine lv_iconst (v := nI 1) hx hb dL_law_1574 (by decide) ?_
  refine lv_iadd hx hb dL_law_1575 ?_
  refine b_sld hc hS (sc_in hj hL (by decide)) dL_law_1576 ?_
  refine lv_aload_n hx hb dL_law_1577 rfl (lv_at hl 5 rfl) ?_
  refine lv_iload hx hb dL_law_1578 (lv_at hl 0 rfl) ?_
  refine lv_iconst (v := nI 2) hx hb dL_law_1580 (by decide) ?_
  refine lv_iadd hx hb dL_law_1581 ?_
  refine b_sld hc hS (sc_in hj hL (by decide)) dL_law_1582 ?_
  refine lv_aload_n hx hb dL_law_1583 rfl (lv_at hl 2 rfl) ?_
  refine b_L (lw_wouldCount (pp := (xs (nix (nI (7 * j) + nI 1)))) (v := (xs (nix (nI (7 * j) + nI 2)))) hfl hI hs hon0 hon1 hon2 hok hd) hc hP0 hS hl.1 q822 q823 q0 q824 nok_L_wouldCount rfl ⟨by omega, by show 8 + (5 + 11) + 400 ≤ _; omega⟩ hf dL_law_1584 rfl (Nat.le_of_ble_eq_true rfl) (fun r u2 H locs hp hP hS => ?_)
  refine lv_istore (lv' := [(6, .int _), (5, .int _), (4, .ref _), (3, .ref _), (2, .ref _), (1, .ref _), (0, .ref _)]) hx hb dL_law_1587 hl (by decide) rfl (fun ls hl => ?_)
  have h3 : u2.1 3 = u.1 3 := by
    rcases hp with ⟨k, h1, h2, h3⟩ | ⟨v, X9, h1, h2, h3, h4⟩
    · rw [h3]; exact wdo_ne (by decide)
    · replace h1 := nG_inr (nG_inr (nG_inr (nG_inr h1)))
      cases h1
      rw [h3]
      first | exact nEv3 | exact wdo_ne (by decide) | exact (wdo_ne (by decide)).trans (wdo_ne (by decide))
  have hP3 : lpic D dA ad on cL cD aL aD (wdo u2.1 3 (u.1 3), u2.2.1, u2.2.2) H := by rw [← h3, wdo_eta]; exact hP
  refine lv_aload_n hx hb dL_law_1589 rfl (lv_at hl 4 rfl) ?_
  refine lv_aload_n hx hb dL_law_1590 rfl (lv_at hl 6 rfl) ?_
  refine lv_iload hx hb dL_law_1591 (lv_at hl 1 rfl) ?_
  refine lv_iconst (v := nI 1) hx hb dL_law_1593 (by decide) ?_
  refine lv_iadd hx hb dL_law_1594 ?_
  refine b_sld hc hS (sc_in hj hL (by decide)) dL_law_1595 ?_
  refine lv_aload_n hx hb dL_law_1596 rfl (lv_at hl 6 rfl) ?_
  refine lv_iload hx hb dL_law_1597 (lv_at hl 1 rfl) ?_
  refine lv_iconst (v := nI 2) hx hb dL_law_1599 (by decide) ?_
  refine lv_iadd hx hb dL_law_1600 ?_
  refine b_sld hc hS (sc_in hj hL (by decide)) dL_law_1601 ?_
  refine b_Mi (c_X10_wouldCount (x := (xs (nix (nI (7 * j) + nI 1)))) (v := (xs (nix (nI (7 * j) + nI 2)))) hI hon3 hT hmok) hc hP3 hS hl.1 (ngoodV q1380 q1381 q1382 q11 q1383) (b_rec10 hc hP3.1) ⟨rfl, rfl⟩ nok_X10_wouldCount rfl ⟨by show 9 + 1 ≤ _; omega, by show 8 + (3 + 11) + 360 ≤ _; omega⟩ ⟨by omega, by omega⟩ dL_law_1602 rfl (Nat.le_of_ble_eq_true rfl) (fun r2 X3 H locs hp9 hP hS => ?_)
  obtain ⟨hr9, hX9⟩ := hp9
  rw [hX9] at hP
  have hkey := l_key hinv (sim_wouldCount hinv hT rfl rfl) hp
  obtain ⟨k1, k2, n8, k3, k4⟩ := hkey
  rw [← hr9] at k2
  refine lv_istore (lv' := [(7, .int _), (6, .int _), (5, .int _), (4, .ref _), (3, .ref _), (2, .ref _), (1, .ref _), (0, .ref _)]) hx hb dL_law_1605 hl (by decide) rfl (fun ls hl => ?_)
  refine lv_aload_n hx hb dL_law_1607 rfl (lv_at hl 5 rfl) ?_
  refine b_Mi (c_X10_thrown hI hon3) hc hP hS hl.1 (ngoodV q1207 q1208 q1209 q11 q1210) (b_rec10 hc hP.1) ⟨rfl, rfl⟩ nok_X10_thrown rfl ⟨by show 1 + 1 ≤ _; omega, by show 8 + (1 + 11) + 40 ≤ _; omega⟩ ⟨by omega, by omega⟩ dL_law_1608 rfl (Nat.le_of_ble_eq_true rfl) (fun r3 X4 H locs hp9 hP hS => ?_)
  obtain ⟨hr8, hX8⟩ := hp9
  rw [hX8] at hP
  rw [k1] at hr8
  refine lv_iload hx hb dL_law_1611 (lv_at hl 1 rfl) ?_
  refine lv_icmp_eq (tgt := 1618) hx hb dL_law_1613 (by decide) (fun _ => ?_) (fun c9 => absurd hr8 c9)
  have hfin : ∀ (ls : Array Slot), lv_has ls 9 [(5, .int (nI (7 * j))), (4, .ref aD), (3, .ref aL), (2, .ref (ad 3 30 0)), (1, .ref (ad 2 20 0)), (0, .ref b)] → W p l e R s m #[Value.ref b] below meth c H locs (cells + 6) (slots + 36) Q (F0 m 2783 ls []) := fun ls hl => hk (_, u2.2) n8 _ _ _ k3 (by show nInv (wdo u2.1 3 _) (wdo u2.1 3 _ 3) n8; rw [wdo_at]; exact k4) hP hS hl
  refine lv_iload hx hb dL_law_1618 (lv_at hl 1 rfl) ?_
  refine lv_if_ne (tgt := 1642) hx hb dL_law_1620 (by decide) (fun _ => ?_) (fun c8 => ?_)
  · skip
    refine lv_goto (tgt := 2783) hx hb dL_law_1642 (by decide) ?_
    exact hfin _ (lv_sub hl [2, 3, 4, 5, 6, 7] rfl)
  · have k5 := k2 c8
    refine lv_aload_n hx hb dL_law_1623 rfl (lv_at hl 4 rfl) ?_
    refine lv_iconst (v := 0) hx hb dL_law_1624 (by decide) ?_
    refine b_lld hc hP dL_law_1625 ?_
    refine lv_iload hx hb dL_law_1626 (lv_at hl 0 rfl) ?_
    refine lv_if_eq (tgt := 1635) hx hb dL_law_1628 (by decide) (fun c7 => ?_) (fun c7 => ?_)
    · refine lv_lconst (v := 0) hx hb dL_law_1635 rfl ?_
      refine W.lcmp hx hb dL_law_1636 ?_
      refine lv_if_eq (tgt := 1642) hx hb dL_law_1637 (by decide) (fun _ => ?_) (fun c9 => absurd (by rw [show u2.2.1 = 0 from k5.trans (if_pos c7)]; exact lg_self _) c9)
      refine lv_goto (tgt := 2783) hx hb dL_law_1642 (by decide) ?_
      exact hfin _ (lv_sub hl [2, 3, 4, 5, 6, 7] rfl)
    · refine lv_lconst (v := 1) hx hb dL_law_1631 rfl ?_
      refine lv_goto (tgt := 1636) hx hb dL_law_1632 (by decide) ?_
      refine W.lcmp hx hb dL_law_1636 ?_
      refine lv_if_eq (tgt := 1642) hx hb dL_law_1637 (by decide) (fun _ => ?_) (fun c9 => absurd (by rw [show u2.2.1 = 1 from k5.trans (if_neg c7)]; exact lg_self _) c9)
      refine lv_goto (tgt := 2783) hx hb dL_law_1642 (by decide) ?_
      exact hfin _ (lv_sub hl [2, 3, 4, 5, 6, 7] rfl)
set_option maxHeartbeats 4000000 in
theorem lk_23 (hc : lB p l s m meth c b L xs D dA ad on cL cD aL aD) (hinv : nInv u.1 (u.1 3) n) (hn : n < 512) (hP : lpic D dA ad on cL cD aL aD u H) (hS : va_S (fun q => s.heap.size ≤ q) s.heap H locs) (hl : lv_has ls 9 [(5, .int (nI (7 * j))), (4, .ref aD), (3, .ref aL), (2, .ref (ad 3 30 0)), (1, .ref (ad 2 20 0)), (0, .ref b)]) (hj : 7 * j + 6 < L) (hL : L ≤ 3584) (hR : 12 ≤ R.frames ∧ 480 ≤ R.locals) (hf : cells + 6 ≤ R.cells ∧ slots + 36 ≤ R.slots) (hk : lKont p l e R s m below meth c b D dA ad on cL cD aL aD n j cells slots Q) : W p l e R s m #[Value.ref b] below meth c H locs cells slots Q (F0 m 1645 ls []) := by
  have hx := hc.1
  have hb := hc.2.1
  have hI := hc.2.2.2.2.2.2.2.2.1
  have hs := hc.2.2.2.2.2.2.2.2.2.1
  obtain ⟨hon0, hon1, hon2, hon3⟩ := hc.2.2.2.2.2.2.2.2.2.2.2.2.1
  have hfl := hc.2.2.2.2.2.2.2.2.2.2.2.2.2
  have hok := hinv.oOk
  have hd := hinv.dia
  have hT : nput (u.1 3) 30 0 0 0 = nput (u.1 3) 30 0 0 0 := rfl
  have hIE := hinv.E (TE hT)
  have hmok := hIE.mOk
  have hP0 : lpic D dA ad on cL cD aL aD (wdo u.1 0 (u.1 0), u.2.1, u.2.2) H := by rw [wdo_eta]; exact hP
  refine lv_aload_n hx hb dL_law_1645 rfl (lv_at hl 4 rfl) ?_
  refine lv_aload_n hx hb dL_law_1646 rfl (lv_at hl 5 rfl) ?_
  refine lv_iload hx hb dL_law_1647 (lv_at hl 0 rfl) ?_
  refine lv_iconst (v := nI 1) hx hb dL_law_1649 (by decide) ?_
  refine lv_iadd hx hb dL_law_1650 ?_
  refine b_sld hc hS (sc_in hj hL (by decide)) dL_law_1651 ?_
  refine lv_aload_n hx hb dL_law_1652 rfl (lv_at hl 2 rfl) ?_
  refine b_L (lw_paperOf (v := (xs (nix (nI (7 * j) + nI 1)))) hfl hI hs hon0 hon1 hon2 hok hd) hc hP0 hS hl.1 q833 q834 q0 q835 nok_L_paperOf rfl ⟨by omega, by show 8 + (4 + 11) + 400 ≤ _; omega⟩ hf dL_law_1653 rfl (Nat.le_of_ble_eq_true rfl) (fun r u2 H locs hp hP hS => ?_)
  refine lv_istore (lv' := [(6, .int _), (5, .int _), (4, .ref _), (3, .ref _), (2, .ref _), (1, .ref _), (0, .ref _)]) hx hb dL_law_1656 hl (by decide) rfl (fun ls hl => ?_)
  have h3 : u2.1 3 = u.1 3 := by
    rcases hp with ⟨k, h1, h2, h3⟩ | ⟨v, X9, h1, h2, h3, h4⟩
    · rw [h3]; exact wdo_ne (by decide)
    · replace h1 := nG_inr (nG_inr h1)
      cases h1
      rw [h3]
      first | exact nEv3 | exact wdo_ne (by decide) | exact (wdo_ne (by decide)).trans (wdo_ne (by decide))
  have hP3 : lpic D dA ad on cL cD aL aD (wdo u2.1 3 (u.1 3), u2.2.1, u2.2.2) H := by rw [← h3, wdo_eta]; exact hP
  refine lv_aload_n hx hb dL_law_1658 rfl (lv_at hl 4 rfl) ?_
  refine lv_aload_n hx hb dL_law_1659 rfl (lv_at hl 6 rfl) ?_
  refine lv_iload hx hb dL_law_1660 (lv_at hl 1 rfl) ?_
  refine lv_iconst (v := nI 1) hx hb dL_law_1662 (by decide) ?_
  refine lv_iadd hx hb dL_law_1663 ?_
  refine b_sld hc hS (sc_in hj hL (by decide)) dL_law_1664 ?_
  refine b_Mi (c_X10_paperOf (v := (xs (nix (nI (7 * j) + nI 1)))) hI hon3 hT hmok) hc hP3 hS hl.1 (ngoodV q1384 q1385 q1386 q11 q1387) (b_rec10 hc hP3.1) ⟨rfl, rfl⟩ nok_X10_paperOf rfl ⟨by show 9 + 1 ≤ _; omega, by show 8 + (3 + 11) + 360 ≤ _; omega⟩ ⟨by omega, by omega⟩ dL_law_1665 rfl (Nat.le_of_ble_eq_true rfl) (fun r2 X3 H locs hp9 hP hS => ?_)
  obtain ⟨hr9, hX9⟩ := hp9
  rw [hX9] at hP
  have hkey := l_key hinv (sim_paperOf hinv hT rfl rfl) hp
  obtain ⟨k1, k2, n8, k3, k4⟩ := hkey
  rw [← hr9] at k2
  refine lv_istore (lv' := [(7, .int _), (6, .int _), (5, .int _), (4, .ref _), (3, .ref _), (2, .ref _), (1, .ref _), (0, .ref _)]) hx hb dL_law_1668 hl (by decide) rfl (fun ls hl => ?_)
  refine lv_aload_n hx hb dL_law_1670 rfl (lv_at hl 5 rfl) ?_
  refine b_Mi (c_X10_thrown hI hon3) hc hP hS hl.1 (ngoodV q1207 q1208 q1209 q11 q1210) (b_rec10 hc hP.1) ⟨rfl, rfl⟩ nok_X10_thrown rfl ⟨by show 1 + 1 ≤ _; omega, by show 8 + (1 + 11) + 40 ≤ _; omega⟩ ⟨by omega, by omega⟩ dL_law_1671 rfl (Nat.le_of_ble_eq_true rfl) (fun r3 X4 H locs hp9 hP hS => ?_)
  obtain ⟨hr8, hX8⟩ := hp9
  rw [hX8] at hP
  rw [k1] at hr8
  refine lv_iload hx hb dL_law_1674 (lv_at hl 1 rfl) ?_
  refine lv_icmp_eq (tgt := 1681) hx hb dL_law_1676 (by decide) (fun _ => ?_) (fun c9 => absurd hr8 c9)
  have hfin : ∀ (ls : Array Slot), lv_has ls 9 [(5, .int (nI (7 * j))), (4, .ref aD), (3, .ref aL), (2, .ref (ad 3 30 0)), (1, .ref (ad 2 20 0)), (0, .ref b)] → W p l e R s m #[Value.ref b] below meth c H locs (cells + 6) (slots + 36) Q (F0 m 2783 ls []) := fun ls hl => hk (_, u2.2) n8 _ _ _ k3 (by show nInv (wdo u2.1 3 _) (wdo u2.1 3 _ 3) n8; rw [wdo_at]; exact k4) hP hS hl
  refine lv_iload hx hb dL_law_1681 (lv_at hl 1 rfl) ?_
  refine lv_if_ne (tgt := 1698) hx hb dL_law_1683 (by decide) (fun _ => ?_) (fun c8 => ?_)
  · skip
    refine lv_goto (tgt := 2783) hx hb dL_law_1698 (by decide) ?_
    exact hfin _ (lv_sub hl [2, 3, 4, 5, 6, 7] rfl)
  · have k5 := k2 c8
    refine lv_aload_n hx hb dL_law_1686 rfl (lv_at hl 4 rfl) ?_
    refine lv_iconst (v := 0) hx hb dL_law_1687 (by decide) ?_
    refine b_lld hc hP dL_law_1688 ?_
    refine lv_iload hx hb dL_law_1689 (lv_at hl 0 rfl) ?_
    refine lv_i2l (v := _) hx hb dL_law_1691 rfl ?_
    refine W.lcmp hx hb dL_law_1692 ?_
    refine lv_if_eq (tgt := 1698) hx hb dL_law_1693 (by decide) (fun _ => ?_) (fun c9 => absurd (by rw [show u2.2.1 = r2.toInt64 from k5]; exact lg_self _) c9)
    refine lv_goto (tgt := 2783) hx hb dL_law_1698 (by decide) ?_
    exact hfin _ (lv_sub hl [2, 3, 4, 5, 6, 7] rfl)
set_option maxHeartbeats 4000000 in
theorem lk_24 (hc : lB p l s m meth c b L xs D dA ad on cL cD aL aD) (hinv : nInv u.1 (u.1 3) n) (hn : n < 512) (hP : lpic D dA ad on cL cD aL aD u H) (hS : va_S (fun q => s.heap.size ≤ q) s.heap H locs) (hl : lv_has ls 9 [(5, .int (nI (7 * j))), (4, .ref aD), (3, .ref aL), (2, .ref (ad 3 30 0)), (1, .ref (ad 2 20 0)), (0, .ref b)]) (hj : 7 * j + 6 < L) (hL : L ≤ 3584) (hR : 12 ≤ R.frames ∧ 480 ≤ R.locals) (hf : cells + 6 ≤ R.cells ∧ slots + 36 ≤ R.slots) (hk : lKont p l e R s m below meth c b D dA ad on cL cD aL aD n j cells slots Q) : W p l e R s m #[Value.ref b] below meth c H locs cells slots Q (F0 m 1701 ls []) := by
  have hx := hc.1
  have hb := hc.2.1
  have hI := hc.2.2.2.2.2.2.2.2.1
  have hs := hc.2.2.2.2.2.2.2.2.2.1
  obtain ⟨hon0, hon1, hon2, hon3⟩ := hc.2.2.2.2.2.2.2.2.2.2.2.2.1
  have hfl := hc.2.2.2.2.2.2.2.2.2.2.2.2.2
  have hok := hinv.oOk
  have hd := hinv.dia
  have hT : nput (u.1 3) 30 0 0 0 = nput (u.1 3) 30 0 0 0 := rfl
  have hIE := hinv.E (TE hT)
  have hmok := hIE.mOk
  have hP0 : lpic D dA ad on cL cD aL aD (wdo u.1 0 (u.1 0), u.2.1, u.2.2) H := by rw [wdo_eta]; exact hP
  refine lv_aload_n hx hb dL_law_1701 rfl (lv_at hl 4 rfl) ?_
  refine lv_aload_n hx hb dL_law_1702 rfl (lv_at hl 5 rfl) ?_
  refine lv_iload hx hb dL_law_1703 (lv_at hl 0 rfl) ?_
  refine lv_iconst (v := nI 1) hx hb dL_law_1705 (by decide) ?_
  refine lv_iadd hx hb dL_law_1706 ?_
  refine b_sld hc hS (sc_in hj hL (by decide)) dL_law_1707 ?_
  refine lv_aload_n hx hb dL_law_1708 rfl (lv_at hl 5 rfl) ?_
  refine lv_iload hx hb dL_law_1709 (lv_at hl 0 rfl) ?_
  refine lv_iconst (v := nI 2) hx hb dL_law_1711 (by decide) ?_
  refine lv_iadd hx hb dL_law_1712 ?_
  refine b_sld hc hS (sc_in hj hL (by decide)) dL_law_1713 ?_
  refine lv_aload_n hx hb dL_law_1714 rfl (lv_at hl 2 rfl) ?_
  refine b_L (lw_gain (pp := (xs (nix (nI (7 * j) + nI 1)))) (q := (xs (nix (nI (7 * j) + nI 2)))) hfl hI hs hon0 hon1 hon2 hok hd) hc hP0 hS hl.1 q861 q862 q0 q863 nok_L_gain rfl ⟨by omega, by show 8 + (5 + 11) + 400 ≤ _; omega⟩ hf dL_law_1715 rfl (Nat.le_of_ble_eq_true rfl) (fun r u2 H locs hp hP hS => ?_)
  refine lv_istore (lv' := [(6, .int _), (5, .int _), (4, .ref _), (3, .ref _), (2, .ref _), (1, .ref _), (0, .ref _)]) hx hb dL_law_1718 hl (by decide) rfl (fun ls hl => ?_)
  have h3 : u2.1 3 = u.1 3 := by
    rcases hp with ⟨k, h1, h2, h3⟩ | ⟨v, X9, h1, h2, h3, h4⟩
    · rw [h3]; exact wdo_ne (by decide)
    · replace h1 := nG_inr (nG_inr (nG_inr (nG_inr (nG_inr h1))))
      cases h1
      rw [h3]
      first | exact nEv3 | exact wdo_ne (by decide) | exact (wdo_ne (by decide)).trans (wdo_ne (by decide))
  have hP3 : lpic D dA ad on cL cD aL aD (wdo u2.1 3 (u.1 3), u2.2.1, u2.2.2) H := by rw [← h3, wdo_eta]; exact hP
  refine lv_aload_n hx hb dL_law_1720 rfl (lv_at hl 4 rfl) ?_
  refine lv_aload_n hx hb dL_law_1721 rfl (lv_at hl 6 rfl) ?_
  refine lv_iload hx hb dL_law_1722 (lv_at hl 1 rfl) ?_
  refine lv_iconst (v := nI 1) hx hb dL_law_1724 (by decide) ?_
  refine lv_iadd hx hb dL_law_1725 ?_
  refine b_sld hc hS (sc_in hj hL (by decide)) dL_law_1726 ?_
  refine lv_aload_n hx hb dL_law_1727 rfl (lv_at hl 6 rfl) ?_
  refine lv_iload hx hb dL_law_1728 (lv_at hl 1 rfl) ?_
  refine lv_iconst (v := nI 2) hx hb dL_law_1730 (by decide) ?_
  refine lv_iadd hx hb dL_law_1731 ?_
  refine b_sld hc hS (sc_in hj hL (by decide)) dL_law_1732 ?_
  refine b_Mi (c_X10_gain (x := (xs (nix (nI (7 * j) + nI 1)))) (z := (xs (nix (nI (7 * j) + nI 2)))) hI hon3 hT hmok) hc hP3 hS hl.1 (ngoodV q1388 q1389 q1390 q11 q1391) (b_rec10 hc hP3.1) ⟨rfl, rfl⟩ nok_X10_gain rfl ⟨by show 9 + 1 ≤ _; omega, by show 8 + (3 + 11) + 360 ≤ _; omega⟩ ⟨by omega, by omega⟩ dL_law_1733 rfl (Nat.le_of_ble_eq_true rfl) (fun r2 X3 H locs hp9 hP hS => ?_)
  obtain ⟨hr9, hX9⟩ := hp9
  rw [hX9] at hP
  have hkey := l_key hinv (sim_gain hinv hT rfl rfl rfl) hp
  obtain ⟨k1, k2, n8, k3, k4⟩ := hkey
  rw [← hr9] at k2
  refine lv_istore (lv' := [(7, .int _), (6, .int _), (5, .int _), (4, .ref _), (3, .ref _), (2, .ref _), (1, .ref _), (0, .ref _)]) hx hb dL_law_1736 hl (by decide) rfl (fun ls hl => ?_)
  refine lv_aload_n hx hb dL_law_1738 rfl (lv_at hl 5 rfl) ?_
  refine b_Mi (c_X10_thrown hI hon3) hc hP hS hl.1 (ngoodV q1207 q1208 q1209 q11 q1210) (b_rec10 hc hP.1) ⟨rfl, rfl⟩ nok_X10_thrown rfl ⟨by show 1 + 1 ≤ _; omega, by show 8 + (1 + 11) + 40 ≤ _; omega⟩ ⟨by omega, by omega⟩ dL_law_1739 rfl (Nat.le_of_ble_eq_true rfl) (fun r3 X4 H locs hp9 hP hS => ?_)
  obtain ⟨hr8, hX8⟩ := hp9
  rw [hX8] at hP
  rw [k1] at hr8
  refine lv_iload hx hb dL_law_1742 (lv_at hl 1 rfl) ?_
  refine lv_icmp_eq (tgt := 1749) hx hb dL_law_1744 (by decide) (fun _ => ?_) (fun c9 => absurd hr8 c9)
  have hfin : ∀ (ls : Array Slot), lv_has ls 9 [(5, .int (nI (7 * j))), (4, .ref aD), (3, .ref aL), (2, .ref (ad 3 30 0)), (1, .ref (ad 2 20 0)), (0, .ref b)] → W p l e R s m #[Value.ref b] below meth c H locs (cells + 6) (slots + 36) Q (F0 m 2783 ls []) := fun ls hl => hk (_, u2.2) n8 _ _ _ k3 (by show nInv (wdo u2.1 3 _) (wdo u2.1 3 _ 3) n8; rw [wdo_at]; exact k4) hP hS hl
  refine lv_iload hx hb dL_law_1749 (lv_at hl 1 rfl) ?_
  refine lv_if_ne (tgt := 1766) hx hb dL_law_1751 (by decide) (fun _ => ?_) (fun c8 => ?_)
  · skip
    refine lv_goto (tgt := 2783) hx hb dL_law_1766 (by decide) ?_
    exact hfin _ (lv_sub hl [2, 3, 4, 5, 6, 7] rfl)
  · have k5 := k2 c8
    refine lv_aload_n hx hb dL_law_1754 rfl (lv_at hl 4 rfl) ?_
    refine lv_iconst (v := 0) hx hb dL_law_1755 (by decide) ?_
    refine b_lld hc hP dL_law_1756 ?_
    refine lv_iload hx hb dL_law_1757 (lv_at hl 0 rfl) ?_
    refine lv_i2l (v := _) hx hb dL_law_1759 rfl ?_
    refine W.lcmp hx hb dL_law_1760 ?_
    refine lv_if_eq (tgt := 1766) hx hb dL_law_1761 (by decide) (fun _ => ?_) (fun c9 => absurd (by rw [show u2.2.1 = r2.toInt64 from k5]; exact lg_self _) c9)
    refine lv_goto (tgt := 2783) hx hb dL_law_1766 (by decide) ?_
    exact hfin _ (lv_sub hl [2, 3, 4, 5, 6, 7] rfl)
set_option maxHeartbeats 4000000 in
theorem lk_25 (hc : lB p l s m meth c b L xs D dA ad on cL cD aL aD) (hinv : nInv u.1 (u.1 3) n) (hn : n < 512) (hP : lpic D dA ad on cL cD aL aD u H) (hS : va_S (fun q => s.heap.size ≤ q) s.heap H locs) (hl : lv_has ls 9 [(5, .int (nI (7 * j))), (4, .ref aD), (3, .ref aL), (2, .ref (ad 3 30 0)), (1, .ref (ad 2 20 0)), (0, .ref b)]) (hj : 7 * j + 6 < L) (hL : L ≤ 3584) (hR : 12 ≤ R.frames ∧ 480 ≤ R.locals) (hf : cells + 6 ≤ R.cells ∧ slots + 36 ≤ R.slots) (hk : lKont p l e R s m below meth c b D dA ad on cL cD aL aD n j cells slots Q) : W p l e R s m #[Value.ref b] below meth c H locs cells slots Q (F0 m 1769 ls []) := by
  have hx := hc.1
  have hb := hc.2.1
  have hI := hc.2.2.2.2.2.2.2.2.1
  have hs := hc.2.2.2.2.2.2.2.2.2.1
  obtain ⟨hon0, hon1, hon2, hon3⟩ := hc.2.2.2.2.2.2.2.2.2.2.2.2.1
  have hfl := hc.2.2.2.2.2.2.2.2.2.2.2.2.2
  have hok := hinv.oOk
  have hd := hinv.dia
  have hT : nput (u.1 3) 30 0 0 0 = nput (u.1 3) 30 0 0 0 := rfl
  have hIE := hinv.E (TE hT)
  have hmok := hIE.mOk
  have hP0 : lpic D dA ad on cL cD aL aD (wdo u.1 0 (u.1 0), u.2.1, u.2.2) H := by rw [wdo_eta]; exact hP
  refine lv_aload_n hx hb dL_law_1769 rfl (lv_at hl 4 rfl) ?_
  refine lv_aload_n hx hb dL_law_1770 rfl (lv_at hl 5 rfl) ?_
  refine lv_iload hx hb dL_law_1771 (lv_at hl 0 rfl) ?_
  refine lv_iconst (v := nI 1) hx hb dL_law_1773 (by decide) ?_
  refine lv_iadd hx hb dL_law_1774 ?_
  refine b_sld hc hS (sc_in hj hL (by decide)) dL_law_1775 ?_
  refine lv_aload_n hx hb dL_law_1776 rfl (lv_at hl 2 rfl) ?_
  refine b_L (lw_fewestWithdrawals (pp := (xs (nix (nI (7 * j) + nI 1)))) hfl hI hs hon0 hon1 hon2 hok hd (fun z => lx_use hinv z)) hc hP0 hS hl.1 q881 q882 q0 q883 nok_L_fewestWithdrawals rfl ⟨by omega, by show 8 + (4 + 11) + 400 ≤ _; omega⟩ hf dL_law_1777 rfl (Nat.le_of_ble_eq_true rfl) (fun r u2 H locs hp hP hS => ?_)
  refine lv_istore (lv' := [(6, .int _), (5, .int _), (4, .ref _), (3, .ref _), (2, .ref _), (1, .ref _), (0, .ref _)]) hx hb dL_law_1780 hl (by decide) rfl (fun ls hl => ?_)
  have h3 : u2.1 3 = u.1 3 := by
    rcases hp with ⟨k, h1, h2, h3⟩ | ⟨v, X9, h1, h2, h3, h4⟩
    · rcases h3 with h3 | ⟨x9, h3⟩ <;> (rw [h3]; exact wdo_ne (by decide))
    · replace h1 := nG_inr (nG_inr (nG_inr (nG_inr h1)))
      cases h1
      rw [h3]
      first | exact nEv3 | exact wdo_ne (by decide) | exact (wdo_ne (by decide)).trans (wdo_ne (by decide))
  have hP3 : lpic D dA ad on cL cD aL aD (wdo u2.1 3 (u.1 3), u2.2.1, u2.2.2) H := by rw [← h3, wdo_eta]; exact hP
  refine lv_aload_n hx hb dL_law_1782 rfl (lv_at hl 4 rfl) ?_
  refine lv_aload_n hx hb dL_law_1783 rfl (lv_at hl 6 rfl) ?_
  refine lv_iload hx hb dL_law_1784 (lv_at hl 1 rfl) ?_
  refine lv_iconst (v := nI 1) hx hb dL_law_1786 (by decide) ?_
  refine lv_iadd hx hb dL_law_1787 ?_
  refine b_sld hc hS (sc_in hj hL (by decide)) dL_law_1788 ?_
  refine b_Mi (c_X10_fewestWithdrawals (x := (xs (nix (nI (7 * j) + nI 1)))) hI hon3 hT hmok) hc hP3 hS hl.1 (ngoodV q1392 q1393 q1394 q11 q1395) (b_rec10 hc hP3.1) ⟨rfl, rfl⟩ nok_X10_fewestWithdrawals rfl ⟨by show 9 + 1 ≤ _; omega, by show 8 + (5 + 11) + 360 ≤ _; omega⟩ ⟨by omega, by omega⟩ dL_law_1789 rfl (Nat.le_of_ble_eq_true rfl) (fun r2 X3 H locs hp9 hP hS => ?_)
  obtain ⟨hr9, hX9⟩ := hp9
  rw [hX9] at hP
  have hkey := l_keyY hinv (sim_fewest hinv hT rfl rfl rfl) hp
  obtain ⟨k1, k2, n8, k3, k4⟩ := hkey
  rw [← hr9] at k2
  refine lv_istore (lv' := [(7, .int _), (6, .int _), (5, .int _), (4, .ref _), (3, .ref _), (2, .ref _), (1, .ref _), (0, .ref _)]) hx hb dL_law_1792 hl (by decide) rfl (fun ls hl => ?_)
  refine lv_aload_n hx hb dL_law_1794 rfl (lv_at hl 5 rfl) ?_
  refine b_Mi (c_X10_thrown hI hon3) hc hP hS hl.1 (ngoodV q1207 q1208 q1209 q11 q1210) (b_rec10 hc hP.1) ⟨rfl, rfl⟩ nok_X10_thrown rfl ⟨by show 1 + 1 ≤ _; omega, by show 8 + (1 + 11) + 40 ≤ _; omega⟩ ⟨by omega, by omega⟩ dL_law_1795 rfl (Nat.le_of_ble_eq_true rfl) (fun r3 X4 H locs hp9 hP hS => ?_)
  obtain ⟨hr8, hX8⟩ := hp9
  rw [hX8] at hP
  rw [k1] at hr8
  refine lv_iload hx hb dL_law_1798 (lv_at hl 1 rfl) ?_
  refine lv_icmp_eq (tgt := 1805) hx hb dL_law_1800 (by decide) (fun _ => ?_) (fun c9 => absurd hr8 c9)
  have hfin : ∀ (ls : Array Slot), lv_has ls 9 [(5, .int (nI (7 * j))), (4, .ref aD), (3, .ref aL), (2, .ref (ad 3 30 0)), (1, .ref (ad 2 20 0)), (0, .ref b)] → W p l e R s m #[Value.ref b] below meth c H locs (cells + 6) (slots + 36) Q (F0 m 2783 ls []) := fun ls hl => hk (_, u2.2) n8 _ _ _ k3 (by show nInv (wdo u2.1 3 _) (wdo u2.1 3 _ 3) n8; rw [wdo_at]; exact k4) hP hS hl
  refine lv_iload hx hb dL_law_1805 (lv_at hl 1 rfl) ?_
  refine lv_if_ne (tgt := 1822) hx hb dL_law_1807 (by decide) (fun _ => ?_) (fun c8 => ?_)
  · skip
    refine lv_goto (tgt := 2783) hx hb dL_law_1822 (by decide) ?_
    exact hfin _ (lv_sub hl [2, 3, 4, 5, 6, 7] rfl)
  · have k5 := k2 c8
    refine lv_aload_n hx hb dL_law_1810 rfl (lv_at hl 4 rfl) ?_
    refine lv_iconst (v := 0) hx hb dL_law_1811 (by decide) ?_
    refine b_lld hc hP dL_law_1812 ?_
    refine lv_iload hx hb dL_law_1813 (lv_at hl 0 rfl) ?_
    refine lv_i2l (v := _) hx hb dL_law_1815 rfl ?_
    refine W.lcmp hx hb dL_law_1816 ?_
    refine lv_if_eq (tgt := 1822) hx hb dL_law_1817 (by decide) (fun _ => ?_) (fun c9 => absurd (by rw [show u2.2.1 = r2.toInt64 from k5]; exact lg_self _) c9)
    refine lv_goto (tgt := 2783) hx hb dL_law_1822 (by decide) ?_
    exact hfin _ (lv_sub hl [2, 3, 4, 5, 6, 7] rfl)
set_option maxHeartbeats 4000000 in
theorem lk_26 (hc : lB p l s m meth c b L xs D dA ad on cL cD aL aD) (hinv : nInv u.1 (u.1 3) n) (hn : n < 512) (hP : lpic D dA ad on cL cD aL aD u H) (hS : va_S (fun q => s.heap.size ≤ q) s.heap H locs) (hl : lv_has ls 9 [(5, .int (nI (7 * j))), (4, .ref aD), (3, .ref aL), (2, .ref (ad 3 30 0)), (1, .ref (ad 2 20 0)), (0, .ref b)]) (hj : 7 * j + 6 < L) (hL : L ≤ 3584) (hR : 12 ≤ R.frames ∧ 480 ≤ R.locals) (hf : cells + 6 ≤ R.cells ∧ slots + 36 ≤ R.slots) (hk : lKont p l e R s m below meth c b D dA ad on cL cD aL aD n j cells slots Q) : W p l e R s m #[Value.ref b] below meth c H locs cells slots Q (F0 m 1825 ls []) := by
  have hx := hc.1
  have hb := hc.2.1
  have hI := hc.2.2.2.2.2.2.2.2.1
  have hs := hc.2.2.2.2.2.2.2.2.2.1
  obtain ⟨hon0, hon1, hon2, hon3⟩ := hc.2.2.2.2.2.2.2.2.2.2.2.2.1
  have hfl := hc.2.2.2.2.2.2.2.2.2.2.2.2.2
  have hok := hinv.oOk
  have hd := hinv.dia
  have hT : nput (u.1 3) 30 0 0 0 = nput (u.1 3) 30 0 0 0 := rfl
  have hIE := hinv.E (TE hT)
  have hmok := hIE.mOk
  have hP0 : lpic D dA ad on cL cD aL aD (wdo u.1 0 (u.1 0), u.2.1, u.2.2) H := by rw [wdo_eta]; exact hP
  refine lv_aload_n hx hb dL_law_1825 rfl (lv_at hl 4 rfl) ?_
  refine b_Xi (c_X9_signatures (S := u.1 0) hfl hI hon0 hon1 hon2 hok hd) (fun k z => by cases z) hc hP0 hS hl.1 (ngoodV q342 q343 q344 q1 q345) (b_rec9 hc hP0.1) nok_X9_signatures rfl ⟨by omega, by omega⟩ hf dL_law_1826 rfl (Nat.le_of_ble_eq_true rfl) (fun r X2 H locs hp hP hS => ?_)
  cases hp
  rw [wdo_eta] at hP
  refine lv_aload_n hx hb dL_law_1829 rfl (lv_at hl 3 rfl) ?_
  have hP3 : lpic D dA ad on cL cD aL aD (wdo u.1 3 (u.1 3), u.2.1, u.2.2) H := by rw [wdo_eta]; exact hP
  refine b_Mi (c_X10_signatures hI hon3 hT hmok) hc hP3 hS hl.1 (ngoodV q1399 q1400 q1401 q11 q1402) (b_rec10 hc hP3.1) ⟨rfl, rfl⟩ nok_X10_signatures rfl ⟨by show 9 + 1 ≤ _; omega, by show 8 + (1 + 11) + 360 ≤ _; omega⟩ ⟨by omega, by omega⟩ dL_law_1830 rfl (Nat.le_of_ble_eq_true rfl) (fun r2 X3 H locs hp hP hS => ?_)
  obtain ⟨hr9, hX9⟩ := hp
  rw [hX9] at hP
  have hs9 := sim_signatures (hc := fun _ => 1) hinv hT
  obtain ⟨-, a2, n9, a3, a4⟩ := hs9.2 _ _ rfl
  rw [wdo_eta] at a4
  refine lv_icmp_eq (tgt := 2783) hx hb dL_law_1833 (by decide) (fun _ => ?_) (fun c9 => absurd (a2.symm.trans hr9.symm) c9)
  exact hk (_, u.2) n9 _ _ _ a3 (by show nInv (wdo u.1 3 _) (wdo u.1 3 _ 3) n9; rw [wdo_at]; exact a4.w3) hP hS hl
set_option maxHeartbeats 4000000 in
theorem lk_27 (hc : lB p l s m meth c b L xs D dA ad on cL cD aL aD) (hinv : nInv u.1 (u.1 3) n) (hn : n < 512) (hP : lpic D dA ad on cL cD aL aD u H) (hS : va_S (fun q => s.heap.size ≤ q) s.heap H locs) (hl : lv_has ls 9 [(5, .int (nI (7 * j))), (4, .ref aD), (3, .ref aL), (2, .ref (ad 3 30 0)), (1, .ref (ad 2 20 0)), (0, .ref b)]) (hj : 7 * j + 6 < L) (hL : L ≤ 3584) (hR : 12 ≤ R.frames ∧ 480 ≤ R.locals) (hf : cells + 6 ≤ R.cells ∧ slots + 36 ≤ R.slots) (hk : lKont p l e R s m below meth c b D dA ad on cL cD aL aD n j cells slots Q) : W p l e R s m #[Value.ref b] below meth c H locs cells slots Q (F0 m 1838 ls []) := by
  have hx := hc.1
  have hb := hc.2.1
  have hI := hc.2.2.2.2.2.2.2.2.1
  have hs := hc.2.2.2.2.2.2.2.2.2.1
  obtain ⟨hon0, hon1, hon2, hon3⟩ := hc.2.2.2.2.2.2.2.2.2.2.2.2.1
  have hfl := hc.2.2.2.2.2.2.2.2.2.2.2.2.2
  have hok := hinv.oOk
  have hd := hinv.dia
  have hT : nput (u.1 3) 30 0 0 0 = nput (u.1 3) 30 0 0 0 := rfl
  have hIE := hinv.E (TE hT)
  have hmok := hIE.mOk
  have hP0 : lpic D dA ad on cL cD aL aD (wdo u.1 0 (u.1 0), u.2.1, u.2.2) H := by rw [wdo_eta]; exact hP
  refine lv_aload_n hx hb dL_law_1838 rfl (lv_at hl 4 rfl) ?_
  refine lv_aload_n hx hb dL_law_1839 rfl (lv_at hl 5 rfl) ?_
  refine lv_iload hx hb dL_law_1840 (lv_at hl 0 rfl) ?_
  refine lv_iconst (v := nI 1) hx hb dL_law_1842 (by decide) ?_
  refine lv_iadd hx hb dL_law_1843 ?_
  refine b_sld hc hS (sc_in hj hL (by decide)) dL_law_1844 ?_
  refine lv_aload_n hx hb dL_law_1845 rfl (lv_at hl 2 rfl) ?_
  refine b_L (lw_reason (pp := (xs (nix (nI (7 * j) + nI 1)))) hfl hI hs hon0 hon1 hon2 hok hd) hc hP0 hS hl.1 q903 q904 q0 q905 nok_L_reason rfl ⟨by omega, by show 8 + (4 + 11) + 400 ≤ _; omega⟩ hf dL_law_1846 rfl (Nat.le_of_ble_eq_true rfl) (fun r u2 H locs hp hP hS => ?_)
  refine lv_istore (lv' := [(6, .int _), (5, .int _), (4, .ref _), (3, .ref _), (2, .ref _), (1, .ref _), (0, .ref _)]) hx hb dL_law_1849 hl (by decide) rfl (fun ls hl => ?_)
  have h3 : u2.1 3 = u.1 3 := by
    rcases hp with ⟨k, h1, h2, h3⟩ | ⟨v, X9, h1, h2, h3, h4⟩
    · rw [h3]; exact wdo_ne (by decide)
    · replace h1 := nG_inr h1
      cases h1
      rw [h3]
      first | exact nEv3 | exact wdo_ne (by decide) | exact (wdo_ne (by decide)).trans (wdo_ne (by decide))
  have hP3 : lpic D dA ad on cL cD aL aD (wdo u2.1 3 (u.1 3), u2.2.1, u2.2.2) H := by rw [← h3, wdo_eta]; exact hP
  refine lv_aload_n hx hb dL_law_1851 rfl (lv_at hl 4 rfl) ?_
  refine lv_aload_n hx hb dL_law_1852 rfl (lv_at hl 6 rfl) ?_
  refine lv_iload hx hb dL_law_1853 (lv_at hl 1 rfl) ?_
  refine lv_iconst (v := nI 1) hx hb dL_law_1855 (by decide) ?_
  refine lv_iadd hx hb dL_law_1856 ?_
  refine b_sld hc hS (sc_in hj hL (by decide)) dL_law_1857 ?_
  refine b_Mi (c_X10_reason (x := (xs (nix (nI (7 * j) + nI 1)))) hI hon3 hT hmok) hc hP3 hS hl.1 (ngoodV q1403 q1404 q1405 q11 q1406) (b_rec10 hc hP3.1) ⟨rfl, rfl⟩ nok_X10_reason rfl ⟨by show 9 + 1 ≤ _; omega, by show 8 + (2 + 11) + 360 ≤ _; omega⟩ ⟨by omega, by omega⟩ dL_law_1858 rfl (Nat.le_of_ble_eq_true rfl) (fun r2 X3 H locs hp9 hP hS => ?_)
  obtain ⟨U, hU, hr9, hX9⟩ := hp9
  rw [hX9] at hP
  have hkey := l_key hinv (sim_reason hinv hT rfl hU) hp
  obtain ⟨k1, k2, n8, k3, k4⟩ := hkey
  rw [← hr9] at k2
  refine lv_istore (lv' := [(7, .int _), (6, .int _), (5, .int _), (4, .ref _), (3, .ref _), (2, .ref _), (1, .ref _), (0, .ref _)]) hx hb dL_law_1861 hl (by decide) rfl (fun ls hl => ?_)
  refine lv_aload_n hx hb dL_law_1863 rfl (lv_at hl 5 rfl) ?_
  refine b_Mi (c_X10_thrown hI hon3) hc hP hS hl.1 (ngoodV q1207 q1208 q1209 q11 q1210) (b_rec10 hc hP.1) ⟨rfl, rfl⟩ nok_X10_thrown rfl ⟨by show 1 + 1 ≤ _; omega, by show 8 + (1 + 11) + 40 ≤ _; omega⟩ ⟨by omega, by omega⟩ dL_law_1864 rfl (Nat.le_of_ble_eq_true rfl) (fun r3 X4 H locs hp9 hP hS => ?_)
  obtain ⟨hr8, hX8⟩ := hp9
  rw [hX8] at hP
  rw [k1] at hr8
  refine lv_iload hx hb dL_law_1867 (lv_at hl 1 rfl) ?_
  refine lv_icmp_eq (tgt := 1874) hx hb dL_law_1869 (by decide) (fun _ => ?_) (fun c9 => absurd hr8 c9)
  have hfin : ∀ (ls : Array Slot), lv_has ls 9 [(5, .int (nI (7 * j))), (4, .ref aD), (3, .ref aL), (2, .ref (ad 3 30 0)), (1, .ref (ad 2 20 0)), (0, .ref b)] → W p l e R s m #[Value.ref b] below meth c H locs (cells + 6) (slots + 36) Q (F0 m 2783 ls []) := fun ls hl => hk (_, u2.2) n8 _ _ _ k3 (by show nInv (wdo u2.1 3 _) (wdo u2.1 3 _ 3) n8; rw [wdo_at]; exact k4) hP hS hl
  refine lv_iload hx hb dL_law_1874 (lv_at hl 1 rfl) ?_
  refine lv_if_ne (tgt := 1891) hx hb dL_law_1876 (by decide) (fun _ => ?_) (fun c8 => ?_)
  · skip
    refine lv_goto (tgt := 2783) hx hb dL_law_1891 (by decide) ?_
    exact hfin _ (lv_sub hl [2, 3, 4, 5, 6, 7] rfl)
  · have k5 := k2 c8
    refine lv_aload_n hx hb dL_law_1879 rfl (lv_at hl 4 rfl) ?_
    refine lv_iconst (v := 0) hx hb dL_law_1880 (by decide) ?_
    refine b_lld hc hP dL_law_1881 ?_
    refine lv_iload hx hb dL_law_1882 (lv_at hl 0 rfl) ?_
    refine lv_i2l (v := _) hx hb dL_law_1884 rfl ?_
    refine W.lcmp hx hb dL_law_1885 ?_
    refine lv_if_eq (tgt := 1891) hx hb dL_law_1886 (by decide) (fun _ => ?_) (fun c9 => absurd (by rw [show u2.2.1 = r2.toInt64 from k5]; exact lg_self _) c9)
    refine lv_goto (tgt := 2783) hx hb dL_law_1891 (by decide) ?_
    exact hfin _ (lv_sub hl [2, 3, 4, 5, 6, 7] rfl)
set_option maxHeartbeats 4000000 in
theorem lk_28 (hc : lB p l s m meth c b L xs D dA ad on cL cD aL aD) (hinv : nInv u.1 (u.1 3) n) (hn : n < 512) (hP : lpic D dA ad on cL cD aL aD u H) (hS : va_S (fun q => s.heap.size ≤ q) s.heap H locs) (hl : lv_has ls 9 [(5, .int (nI (7 * j))), (4, .ref aD), (3, .ref aL), (2, .ref (ad 3 30 0)), (1, .ref (ad 2 20 0)), (0, .ref b)]) (hj : 7 * j + 6 < L) (hL : L ≤ 3584) (hR : 12 ≤ R.frames ∧ 480 ≤ R.locals) (hf : cells + 6 ≤ R.cells ∧ slots + 36 ≤ R.slots) (hk : lKont p l e R s m below meth c b D dA ad on cL cD aL aD n j cells slots Q) : W p l e R s m #[Value.ref b] below meth c H locs cells slots Q (F0 m 1894 ls []) := by
  have hx := hc.1
  have hb := hc.2.1
  have hI := hc.2.2.2.2.2.2.2.2.1
  have hs := hc.2.2.2.2.2.2.2.2.2.1
  obtain ⟨hon0, hon1, hon2, hon3⟩ := hc.2.2.2.2.2.2.2.2.2.2.2.2.1
  have hfl := hc.2.2.2.2.2.2.2.2.2.2.2.2.2
  have hok := hinv.oOk
  have hd := hinv.dia
  have hT : nput (u.1 3) 30 0 0 0 = nput (u.1 3) 30 0 0 0 := rfl
  have hIE := hinv.E (TE hT)
  have hmok := hIE.mOk
  have hP0 : lpic D dA ad on cL cD aL aD (wdo u.1 0 (u.1 0), u.2.1, u.2.2) H := by rw [wdo_eta]; exact hP
  refine lv_aload_n hx hb dL_law_1894 rfl (lv_at hl 4 rfl) ?_
  refine lv_aload_n hx hb dL_law_1895 rfl (lv_at hl 5 rfl) ?_
  refine lv_iload hx hb dL_law_1896 (lv_at hl 0 rfl) ?_
  refine lv_iconst (v := nI 1) hx hb dL_law_1898 (by decide) ?_
  refine lv_iadd hx hb dL_law_1899 ?_
  refine b_sld hc hS (sc_in hj hL (by decide)) dL_law_1900 ?_
  refine lv_aload_n hx hb dL_law_1901 rfl (lv_at hl 2 rfl) ?_
  refine b_L (lw_reasonByReplay (pp := (xs (nix (nI (7 * j) + nI 1)))) hfl hI hs hon0 hon1 hon2 hok hd (fun i hi => lx_rp hinv (u.1 1) i hi) (lx_re hinv (u.1 1))) hc hP0 hS hl.1 q914 q915 q0 q916 nok_L_reasonByReplay rfl ⟨by omega, by show 8 + (4 + 11) + 400 ≤ _; omega⟩ hf dL_law_1902 rfl (Nat.le_of_ble_eq_true rfl) (fun r u2 H locs hp hP hS => ?_)
  refine lv_istore (lv' := [(6, .int _), (5, .int _), (4, .ref _), (3, .ref _), (2, .ref _), (1, .ref _), (0, .ref _)]) hx hb dL_law_1905 hl (by decide) rfl (fun ls hl => ?_)
  have h3 : u2.1 3 = u.1 3 := by
    rcases hp with ⟨k, h1, h2, h3⟩ | ⟨v, X9, h1, h2, h3, h4⟩
    · rw [h3]; exact wdo_ne (by decide)
    · replace h1 := nG_inr h1
      cases h1
      rw [h3]
      first | exact nEv3 | exact wdo_ne (by decide) | exact (wdo_ne (by decide)).trans (wdo_ne (by decide))
  have hP3 : lpic D dA ad on cL cD aL aD (wdo u2.1 3 (u.1 3), u2.2.1, u2.2.2) H := by rw [← h3, wdo_eta]; exact hP
  refine lv_aload_n hx hb dL_law_1907 rfl (lv_at hl 4 rfl) ?_
  refine lv_aload_n hx hb dL_law_1908 rfl (lv_at hl 6 rfl) ?_
  refine lv_iload hx hb dL_law_1909 (lv_at hl 1 rfl) ?_
  refine lv_iconst (v := nI 1) hx hb dL_law_1911 (by decide) ?_
  refine lv_iadd hx hb dL_law_1912 ?_
  refine b_sld hc hS (sc_in hj hL (by decide)) dL_law_1913 ?_
  refine b_Mi (c_X10_reasonByReplay (x := (xs (nix (nI (7 * j) + nI 1)))) hI hon3 hT hmok) hc hP3 hS hl.1 (ngoodV q1411 q1412 q1413 q11 q1414) (b_rec10 hc hP3.1) ⟨rfl, rfl⟩ nok_X10_reasonByReplay rfl ⟨by show 9 + 1 ≤ _; omega, by show 8 + (2 + 11) + 360 ≤ _; omega⟩ ⟨by omega, by omega⟩ dL_law_1914 rfl (Nat.le_of_ble_eq_true rfl) (fun r2 X3 H locs hp9 hP hS => ?_)
  obtain ⟨U, hU, hr9, hX9⟩ := hp9
  rw [hX9] at hP
  have hkey := l_key hinv (sim_reasonByReplay hinv hT rfl hU) hp
  obtain ⟨k1, k2, n8, k3, k4⟩ := hkey
  rw [← hr9] at k2
  refine lv_istore (lv' := [(7, .int _), (6, .int _), (5, .int _), (4, .ref _), (3, .ref _), (2, .ref _), (1, .ref _), (0, .ref _)]) hx hb dL_law_1917 hl (by decide) rfl (fun ls hl => ?_)
  refine lv_aload_n hx hb dL_law_1919 rfl (lv_at hl 5 rfl) ?_
  refine b_Mi (c_X10_thrown hI hon3) hc hP hS hl.1 (ngoodV q1207 q1208 q1209 q11 q1210) (b_rec10 hc hP.1) ⟨rfl, rfl⟩ nok_X10_thrown rfl ⟨by show 1 + 1 ≤ _; omega, by show 8 + (1 + 11) + 40 ≤ _; omega⟩ ⟨by omega, by omega⟩ dL_law_1920 rfl (Nat.le_of_ble_eq_true rfl) (fun r3 X4 H locs hp9 hP hS => ?_)
  obtain ⟨hr8, hX8⟩ := hp9
  rw [hX8] at hP
  rw [k1] at hr8
  refine lv_iload hx hb dL_law_1923 (lv_at hl 1 rfl) ?_
  refine lv_icmp_eq (tgt := 1930) hx hb dL_law_1925 (by decide) (fun _ => ?_) (fun c9 => absurd hr8 c9)
  have hfin : ∀ (ls : Array Slot), lv_has ls 9 [(5, .int (nI (7 * j))), (4, .ref aD), (3, .ref aL), (2, .ref (ad 3 30 0)), (1, .ref (ad 2 20 0)), (0, .ref b)] → W p l e R s m #[Value.ref b] below meth c H locs (cells + 6) (slots + 36) Q (F0 m 2783 ls []) := fun ls hl => hk (_, u2.2) n8 _ _ _ k3 (by show nInv (wdo u2.1 3 _) (wdo u2.1 3 _ 3) n8; rw [wdo_at]; exact k4) hP hS hl
  refine lv_iload hx hb dL_law_1930 (lv_at hl 1 rfl) ?_
  refine lv_if_ne (tgt := 1947) hx hb dL_law_1932 (by decide) (fun _ => ?_) (fun c8 => ?_)
  · skip
    refine lv_goto (tgt := 2783) hx hb dL_law_1947 (by decide) ?_
    exact hfin _ (lv_sub hl [2, 3, 4, 5, 6, 7] rfl)
  · have k5 := k2 c8
    refine lv_aload_n hx hb dL_law_1935 rfl (lv_at hl 4 rfl) ?_
    refine lv_iconst (v := 0) hx hb dL_law_1936 (by decide) ?_
    refine b_lld hc hP dL_law_1937 ?_
    refine lv_iload hx hb dL_law_1938 (lv_at hl 0 rfl) ?_
    refine lv_i2l (v := _) hx hb dL_law_1940 rfl ?_
    refine W.lcmp hx hb dL_law_1941 ?_
    refine lv_if_eq (tgt := 1947) hx hb dL_law_1942 (by decide) (fun _ => ?_) (fun c9 => absurd (by rw [show u2.2.1 = r2.toInt64 from k5]; exact lg_self _) c9)
    refine lv_goto (tgt := 2783) hx hb dL_law_1947 (by decide) ?_
    exact hfin _ (lv_sub hl [2, 3, 4, 5, 6, 7] rfl)
set_option maxHeartbeats 4000000 in
theorem lk_29 (hc : lB p l s m meth c b L xs D dA ad on cL cD aL aD) (hinv : nInv u.1 (u.1 3) n) (hn : n < 512) (hP : lpic D dA ad on cL cD aL aD u H) (hS : va_S (fun q => s.heap.size ≤ q) s.heap H locs) (hl : lv_has ls 9 [(5, .int (nI (7 * j))), (4, .ref aD), (3, .ref aL), (2, .ref (ad 3 30 0)), (1, .ref (ad 2 20 0)), (0, .ref b)]) (hj : 7 * j + 6 < L) (hL : L ≤ 3584) (hR : 12 ≤ R.frames ∧ 480 ≤ R.locals) (hf : cells + 6 ≤ R.cells ∧ slots + 36 ≤ R.slots) (hk : lKont p l e R s m below meth c b D dA ad on cL cD aL aD n j cells slots Q) : W p l e R s m #[Value.ref b] below meth c H locs cells slots Q (F0 m 1950 ls []) := by
  have hx := hc.1
  have hb := hc.2.1
  have hI := hc.2.2.2.2.2.2.2.2.1
  have hs := hc.2.2.2.2.2.2.2.2.2.1
  obtain ⟨hon0, hon1, hon2, hon3⟩ := hc.2.2.2.2.2.2.2.2.2.2.2.2.1
  have hfl := hc.2.2.2.2.2.2.2.2.2.2.2.2.2
  have hok := hinv.oOk
  have hd := hinv.dia
  have hT : nput (u.1 3) 30 0 0 0 = nput (u.1 3) 30 0 0 0 := rfl
  have hIE := hinv.E (TE hT)
  have hmok := hIE.mOk
  have hP0 : lpic D dA ad on cL cD aL aD (wdo u.1 0 (u.1 0), u.2.1, u.2.2) H := by rw [wdo_eta]; exact hP
  refine lv_aload_n hx hb dL_law_1950 rfl (lv_at hl 4 rfl) ?_
  refine lv_aload_n hx hb dL_law_1951 rfl (lv_at hl 5 rfl) ?_
  refine lv_iload hx hb dL_law_1952 (lv_at hl 0 rfl) ?_
  refine lv_iconst (v := nI 1) hx hb dL_law_1954 (by decide) ?_
  refine lv_iadd hx hb dL_law_1955 ?_
  refine b_sld hc hS (sc_in hj hL (by decide)) dL_law_1956 ?_
  refine lv_aload_n hx hb dL_law_1957 rfl (lv_at hl 2 rfl) ?_
  refine b_L (lw_ballotSize (a := (xs (nix (nI (7 * j) + nI 1)))) hfl hI hs hon0 hon1 hon2 hok hd) hc hP0 hS hl.1 q922 q923 q0 q924 nok_L_ballotSize rfl ⟨by omega, by show 8 + (4 + 11) + 400 ≤ _; omega⟩ hf dL_law_1958 rfl (Nat.le_of_ble_eq_true rfl) (fun r u2 H locs hp hP hS => ?_)
  refine lv_istore (lv' := [(6, .int _), (5, .int _), (4, .ref _), (3, .ref _), (2, .ref _), (1, .ref _), (0, .ref _)]) hx hb dL_law_1961 hl (by decide) rfl (fun ls hl => ?_)
  have h3 : u2.1 3 = u.1 3 := by
    rcases hp with ⟨k, h1, h2, h3⟩ | ⟨v, X9, h1, h2, h3, h4⟩
    · rw [h3]; exact wdo_ne (by decide)
    · replace h1 := nG_inr h1
      cases h1
      rw [h3]
      first | exact nEv3 | exact wdo_ne (by decide) | exact (wdo_ne (by decide)).trans (wdo_ne (by decide))
  have hP3 : lpic D dA ad on cL cD aL aD (wdo u2.1 3 (u.1 3), u2.2.1, u2.2.2) H := by rw [← h3, wdo_eta]; exact hP
  refine lv_aload_n hx hb dL_law_1963 rfl (lv_at hl 4 rfl) ?_
  refine lv_aload_n hx hb dL_law_1964 rfl (lv_at hl 6 rfl) ?_
  refine lv_iload hx hb dL_law_1965 (lv_at hl 1 rfl) ?_
  refine lv_iconst (v := nI 1) hx hb dL_law_1967 (by decide) ?_
  refine lv_iadd hx hb dL_law_1968 ?_
  refine b_sld hc hS (sc_in hj hL (by decide)) dL_law_1969 ?_
  refine b_Mi (c_X10_ballotSize (a := (xs (nix (nI (7 * j) + nI 1)))) hI hon3 hT hmok) hc hP3 hS hl.1 (ngoodV q1415 q1416 q1417 q11 q1418) (b_rec10 hc hP3.1) ⟨rfl, rfl⟩ nok_X10_ballotSize rfl ⟨by show 9 + 1 ≤ _; omega, by show 8 + (2 + 11) + 360 ≤ _; omega⟩ ⟨by omega, by omega⟩ dL_law_1970 rfl (Nat.le_of_ble_eq_true rfl) (fun r2 X3 H locs hp9 hP hS => ?_)
  obtain ⟨U, hU, hr9, hX9⟩ := hp9
  rw [hX9] at hP
  have hkey := l_key hinv (sim_ballotSize hinv hT rfl hU) hp
  obtain ⟨k1, k2, n8, k3, k4⟩ := hkey
  rw [← hr9] at k2
  refine lv_istore (lv' := [(7, .int _), (6, .int _), (5, .int _), (4, .ref _), (3, .ref _), (2, .ref _), (1, .ref _), (0, .ref _)]) hx hb dL_law_1973 hl (by decide) rfl (fun ls hl => ?_)
  refine lv_aload_n hx hb dL_law_1975 rfl (lv_at hl 5 rfl) ?_
  refine b_Mi (c_X10_thrown hI hon3) hc hP hS hl.1 (ngoodV q1207 q1208 q1209 q11 q1210) (b_rec10 hc hP.1) ⟨rfl, rfl⟩ nok_X10_thrown rfl ⟨by show 1 + 1 ≤ _; omega, by show 8 + (1 + 11) + 40 ≤ _; omega⟩ ⟨by omega, by omega⟩ dL_law_1976 rfl (Nat.le_of_ble_eq_true rfl) (fun r3 X4 H locs hp9 hP hS => ?_)
  obtain ⟨hr8, hX8⟩ := hp9
  rw [hX8] at hP
  rw [k1] at hr8
  refine lv_iload hx hb dL_law_1979 (lv_at hl 1 rfl) ?_
  refine lv_icmp_eq (tgt := 1986) hx hb dL_law_1981 (by decide) (fun _ => ?_) (fun c9 => absurd hr8 c9)
  have hfin : ∀ (ls : Array Slot), lv_has ls 9 [(5, .int (nI (7 * j))), (4, .ref aD), (3, .ref aL), (2, .ref (ad 3 30 0)), (1, .ref (ad 2 20 0)), (0, .ref b)] → W p l e R s m #[Value.ref b] below meth c H locs (cells + 6) (slots + 36) Q (F0 m 2783 ls []) := fun ls hl => hk (_, u2.2) n8 _ _ _ k3 (by show nInv (wdo u2.1 3 _) (wdo u2.1 3 _ 3) n8; rw [wdo_at]; exact k4) hP hS hl
  refine lv_iload hx hb dL_law_1986 (lv_at hl 1 rfl) ?_
  refine lv_if_ne (tgt := 2003) hx hb dL_law_1988 (by decide) (fun _ => ?_) (fun c8 => ?_)
  · skip
    refine lv_goto (tgt := 2783) hx hb dL_law_2003 (by decide) ?_
    exact hfin _ (lv_sub hl [2, 3, 4, 5, 6, 7] rfl)
  · have k5 := k2 c8
    refine lv_aload_n hx hb dL_law_1991 rfl (lv_at hl 4 rfl) ?_
    refine lv_iconst (v := 0) hx hb dL_law_1992 (by decide) ?_
    refine b_lld hc hP dL_law_1993 ?_
    refine lv_iload hx hb dL_law_1994 (lv_at hl 0 rfl) ?_
    refine lv_i2l (v := _) hx hb dL_law_1996 rfl ?_
    refine W.lcmp hx hb dL_law_1997 ?_
    refine lv_if_eq (tgt := 2003) hx hb dL_law_1998 (by decide) (fun _ => ?_) (fun c9 => absurd (by rw [show u2.2.1 = r2.toInt64 from k5]; exact lg_self _) c9)
    refine lv_goto (tgt := 2783) hx hb dL_law_2003 (by decide) ?_
    exact hfin _ (lv_sub hl [2, 3, 4, 5, 6, 7] rfl)
set_option maxHeartbeats 4000000 in
theorem lk_30 (hc : lB p l s m meth c b L xs D dA ad on cL cD aL aD) (hinv : nInv u.1 (u.1 3) n) (hn : n < 512) (hP : lpic D dA ad on cL cD aL aD u H) (hS : va_S (fun q => s.heap.size ≤ q) s.heap H locs) (hl : lv_has ls 9 [(5, .int (nI (7 * j))), (4, .ref aD), (3, .ref aL), (2, .ref (ad 3 30 0)), (1, .ref (ad 2 20 0)), (0, .ref b)]) (hj : 7 * j + 6 < L) (hL : L ≤ 3584) (hR : 12 ≤ R.frames ∧ 480 ≤ R.locals) (hf : cells + 6 ≤ R.cells ∧ slots + 36 ≤ R.slots) (hk : lKont p l e R s m below meth c b D dA ad on cL cD aL aD n j cells slots Q) : W p l e R s m #[Value.ref b] below meth c H locs cells slots Q (F0 m 2006 ls []) := by
  have hx := hc.1
  have hb := hc.2.1
  have hI := hc.2.2.2.2.2.2.2.2.1
  have hs := hc.2.2.2.2.2.2.2.2.2.1
  obtain ⟨hon0, hon1, hon2, hon3⟩ := hc.2.2.2.2.2.2.2.2.2.2.2.2.1
  have hfl := hc.2.2.2.2.2.2.2.2.2.2.2.2.2
  have hok := hinv.oOk
  have hd := hinv.dia
  have hT : nput (u.1 3) 30 0 0 0 = nput (u.1 3) 30 0 0 0 := rfl
  have hIE := hinv.E (TE hT)
  have hmok := hIE.mOk
  have hP0 : lpic D dA ad on cL cD aL aD (wdo u.1 0 (u.1 0), u.2.1, u.2.2) H := by rw [wdo_eta]; exact hP
  refine lv_aload_n hx hb dL_law_2006 rfl (lv_at hl 4 rfl) ?_
  refine lv_aload_n hx hb dL_law_2007 rfl (lv_at hl 5 rfl) ?_
  refine lv_iload hx hb dL_law_2008 (lv_at hl 0 rfl) ?_
  refine lv_iconst (v := nI 1) hx hb dL_law_2010 (by decide) ?_
  refine lv_iadd hx hb dL_law_2011 ?_
  refine b_sld hc hS (sc_in hj hL (by decide)) dL_law_2012 ?_
  refine lv_aload_n hx hb dL_law_2013 rfl (lv_at hl 2 rfl) ?_
  refine b_L (lw_draw (a := (xs (nix (nI (7 * j) + nI 1)))) hfl hI hs hon0 hon1 hon2 hok hd (lx_draw (u.1 0) (u.1 3) _)) hc hP0 hS hl.1 q938 q939 q0 q940 nok_L_draw rfl ⟨by omega, by show 8 + (4 + 11) + 400 ≤ _; omega⟩ hf dL_law_2014 rfl (Nat.le_of_ble_eq_true rfl) (fun r u2 H locs hp hP hS => ?_)
  refine lv_istore (lv' := [(6, .int _), (5, .int _), (4, .ref _), (3, .ref _), (2, .ref _), (1, .ref _), (0, .ref _)]) hx hb dL_law_2017 hl (by decide) rfl (fun ls hl => ?_)
  have h3 : u2.1 3 = u.1 3 := by
    rcases hp with ⟨k, h1, h2, h3⟩ | ⟨v, X9, h1, h2, h3, h4⟩
    · rw [h3]; exact wdo_ne (by decide)
    · replace h1 := nG_inr (nG_inr h1)
      cases h1
      rw [h3]
      first | exact nEv3 | exact wdo_ne (by decide) | exact (wdo_ne (by decide)).trans (wdo_ne (by decide))
  have hP3 : lpic D dA ad on cL cD aL aD (wdo u2.1 3 (u.1 3), u2.2.1, u2.2.2) H := by rw [← h3, wdo_eta]; exact hP
  refine lv_aload_n hx hb dL_law_2019 rfl (lv_at hl 4 rfl) ?_
  refine lv_aload_n hx hb dL_law_2020 rfl (lv_at hl 6 rfl) ?_
  refine lv_iload hx hb dL_law_2021 (lv_at hl 1 rfl) ?_
  refine lv_iconst (v := nI 1) hx hb dL_law_2023 (by decide) ?_
  refine lv_iadd hx hb dL_law_2024 ?_
  refine b_sld hc hS (sc_in hj hL (by decide)) dL_law_2025 ?_
  refine b_Mi (c_X10_draw (f := (xs (nix (nI (7 * j) + nI 1)))) hI hon3 hT hmok (lx_mdraw (u.1 0) (nput (u.1 3) 30 0 0 0) _)) hc hP3 hS hl.1 (ngoodV q1423 q1424 q1425 q11 q1426) (b_rec10 hc hP3.1) ⟨rfl, rfl⟩ nok_X10_draw rfl ⟨by show 9 + 1 ≤ _; omega, by show 8 + (6 + 11) + 360 ≤ _; omega⟩ ⟨by omega, by omega⟩ dL_law_2026 rfl (Nat.le_of_ble_eq_true rfl) (fun r2 X3 H locs hp9 hP hS => ?_)
  obtain ⟨hr9, hX9⟩ := hp9
  rw [hX9] at hP
  have hkey := l_key hinv (sim_draw hinv hT hn rfl) hp
  obtain ⟨k1, k2, n8, k3, k4⟩ := hkey
  rw [← hr9] at k2
  refine lv_istore (lv' := [(7, .int _), (6, .int _), (5, .int _), (4, .ref _), (3, .ref _), (2, .ref _), (1, .ref _), (0, .ref _)]) hx hb dL_law_2029 hl (by decide) rfl (fun ls hl => ?_)
  refine lv_aload_n hx hb dL_law_2031 rfl (lv_at hl 5 rfl) ?_
  refine b_Mi (c_X10_thrown hI hon3) hc hP hS hl.1 (ngoodV q1207 q1208 q1209 q11 q1210) (b_rec10 hc hP.1) ⟨rfl, rfl⟩ nok_X10_thrown rfl ⟨by show 1 + 1 ≤ _; omega, by show 8 + (1 + 11) + 40 ≤ _; omega⟩ ⟨by omega, by omega⟩ dL_law_2032 rfl (Nat.le_of_ble_eq_true rfl) (fun r3 X4 H locs hp9 hP hS => ?_)
  obtain ⟨hr8, hX8⟩ := hp9
  rw [hX8] at hP
  rw [k1] at hr8
  refine lv_iload hx hb dL_law_2035 (lv_at hl 1 rfl) ?_
  refine lv_icmp_eq (tgt := 2042) hx hb dL_law_2037 (by decide) (fun _ => ?_) (fun c9 => absurd hr8 c9)
  have hfin : ∀ (ls : Array Slot), lv_has ls 9 [(5, .int (nI (7 * j))), (4, .ref aD), (3, .ref aL), (2, .ref (ad 3 30 0)), (1, .ref (ad 2 20 0)), (0, .ref b)] → W p l e R s m #[Value.ref b] below meth c H locs (cells + 6) (slots + 36) Q (F0 m 2783 ls []) := fun ls hl => hk (_, u2.2) n8 _ _ _ k3 (by show nInv (wdo u2.1 3 _) (wdo u2.1 3 _ 3) n8; rw [wdo_at]; exact k4) hP hS hl
  refine lv_iload hx hb dL_law_2042 (lv_at hl 1 rfl) ?_
  refine lv_if_ne (tgt := 2059) hx hb dL_law_2044 (by decide) (fun _ => ?_) (fun c8 => ?_)
  · skip
    refine lv_goto (tgt := 2783) hx hb dL_law_2059 (by decide) ?_
    exact hfin _ (lv_sub hl [2, 3, 4, 5, 6, 7] rfl)
  · have k5 := k2 c8
    refine lv_aload_n hx hb dL_law_2047 rfl (lv_at hl 4 rfl) ?_
    refine lv_iconst (v := 0) hx hb dL_law_2048 (by decide) ?_
    refine b_lld hc hP dL_law_2049 ?_
    refine lv_iload hx hb dL_law_2050 (lv_at hl 0 rfl) ?_
    refine lv_i2l (v := _) hx hb dL_law_2052 rfl ?_
    refine W.lcmp hx hb dL_law_2053 ?_
    refine lv_if_eq (tgt := 2059) hx hb dL_law_2054 (by decide) (fun _ => ?_) (fun c9 => absurd (by rw [show u2.2.1 = r2.toInt64 from k5]; exact lg_self _) c9)
    refine lv_goto (tgt := 2783) hx hb dL_law_2059 (by decide) ?_
    exact hfin _ (lv_sub hl [2, 3, 4, 5, 6, 7] rfl)
set_option maxHeartbeats 4000000 in
theorem lk_31 (hc : lB p l s m meth c b L xs D dA ad on cL cD aL aD) (hinv : nInv u.1 (u.1 3) n) (hn : n < 512) (hP : lpic D dA ad on cL cD aL aD u H) (hS : va_S (fun q => s.heap.size ≤ q) s.heap H locs) (hl : lv_has ls 9 [(5, .int (nI (7 * j))), (4, .ref aD), (3, .ref aL), (2, .ref (ad 3 30 0)), (1, .ref (ad 2 20 0)), (0, .ref b)]) (hj : 7 * j + 6 < L) (hL : L ≤ 3584) (hR : 12 ≤ R.frames ∧ 480 ≤ R.locals) (hf : cells + 6 ≤ R.cells ∧ slots + 36 ≤ R.slots) (hk : lKont p l e R s m below meth c b D dA ad on cL cD aL aD n j cells slots Q) : W p l e R s m #[Value.ref b] below meth c H locs cells slots Q (F0 m 2062 ls []) := by
  have hx := hc.1
  have hb := hc.2.1
  have hI := hc.2.2.2.2.2.2.2.2.1
  have hs := hc.2.2.2.2.2.2.2.2.2.1
  obtain ⟨hon0, hon1, hon2, hon3⟩ := hc.2.2.2.2.2.2.2.2.2.2.2.2.1
  have hfl := hc.2.2.2.2.2.2.2.2.2.2.2.2.2
  have hok := hinv.oOk
  have hd := hinv.dia
  have hT : nput (u.1 3) 30 0 0 0 = nput (u.1 3) 30 0 0 0 := rfl
  have hIE := hinv.E (TE hT)
  have hmok := hIE.mOk
  have hP0 : lpic D dA ad on cL cD aL aD (wdo u.1 0 (u.1 0), u.2.1, u.2.2) H := by rw [wdo_eta]; exact hP
  refine lv_aload_n hx hb dL_law_2062 rfl (lv_at hl 4 rfl) ?_
  refine lv_aload_n hx hb dL_law_2063 rfl (lv_at hl 5 rfl) ?_
  refine lv_iload hx hb dL_law_2064 (lv_at hl 0 rfl) ?_
  refine lv_iconst (v := nI 1) hx hb dL_law_2066 (by decide) ?_
  refine lv_iadd hx hb dL_law_2067 ?_
  refine b_sld hc hS (sc_in hj hL (by decide)) dL_law_2068 ?_
  refine lv_aload_n hx hb dL_law_2069 rfl (lv_at hl 2 rfl) ?_
  refine b_L (lw_letter (q := (xs (nix (nI (7 * j) + nI 1)))) hfl hI hs hon0 hon1 hon2 hok hd (fun i hi z => lx_letter hinv hi z)) hc hP0 hS hl.1 q947 q948 q0 q949 nok_L_letter rfl ⟨by omega, by show 8 + (4 + 11) + 400 ≤ _; omega⟩ hf dL_law_2070 rfl (Nat.le_of_ble_eq_true rfl) (fun r u2 H locs hp hP hS => ?_)
  refine lv_istore (lv' := [(6, .int _), (5, .int _), (4, .ref _), (3, .ref _), (2, .ref _), (1, .ref _), (0, .ref _)]) hx hb dL_law_2073 hl (by decide) rfl (fun ls hl => ?_)
  have h3 : u2.1 3 = u.1 3 := by
    rcases hp with ⟨k, h1, h2, h3⟩ | ⟨v, X9, h1, h2, h3, h4⟩
    · rw [h3]; exact wdo_ne (by decide)
    · replace h1 := nG_inr (nG_inr h1)
      cases h1
      rw [h3]
      first | exact nEv3 | exact wdo_ne (by decide) | exact (wdo_ne (by decide)).trans (wdo_ne (by decide))
  have hP3 : lpic D dA ad on cL cD aL aD (wdo u2.1 3 (u.1 3), u2.2.1, u2.2.2) H := by rw [← h3, wdo_eta]; exact hP
  refine lv_aload_n hx hb dL_law_2075 rfl (lv_at hl 4 rfl) ?_
  refine lv_aload_n hx hb dL_law_2076 rfl (lv_at hl 6 rfl) ?_
  refine lv_iload hx hb dL_law_2077 (lv_at hl 1 rfl) ?_
  refine lv_iconst (v := nI 1) hx hb dL_law_2079 (by decide) ?_
  refine lv_iadd hx hb dL_law_2080 ?_
  refine b_sld hc hS (sc_in hj hL (by decide)) dL_law_2081 ?_
  refine b_Mi (c_X10_letter (q := (xs (nix (nI (7 * j) + nI 1)))) hI hon3 hT hmok (fun k _ => hIE.z.n58 k)) hc hP3 hS hl.1 (ngoodV q1428 q1429 q1430 q11 q1431) (b_rec10 hc hP3.1) ⟨rfl, rfl⟩ nok_X10_letter rfl ⟨by show 9 + 1 ≤ _; omega, by show 8 + (2 + 11) + 360 ≤ _; omega⟩ ⟨by omega, by omega⟩ dL_law_2082 rfl (Nat.le_of_ble_eq_true rfl) (fun r2 X3 H locs hp9 hP hS => ?_)
  obtain ⟨hr9, hX9⟩ := hp9
  rw [hX9] at hP
  have hkey := l_key hinv (sim_letter hinv hT rfl rfl) hp
  obtain ⟨k1, k2, n8, k3, k4⟩ := hkey
  rw [← hr9] at k2
  refine lv_istore (lv' := [(7, .int _), (6, .int _), (5, .int _), (4, .ref _), (3, .ref _), (2, .ref _), (1, .ref _), (0, .ref _)]) hx hb dL_law_2085 hl (by decide) rfl (fun ls hl => ?_)
  refine lv_aload_n hx hb dL_law_2087 rfl (lv_at hl 5 rfl) ?_
  refine b_Mi (c_X10_thrown hI hon3) hc hP hS hl.1 (ngoodV q1207 q1208 q1209 q11 q1210) (b_rec10 hc hP.1) ⟨rfl, rfl⟩ nok_X10_thrown rfl ⟨by show 1 + 1 ≤ _; omega, by show 8 + (1 + 11) + 40 ≤ _; omega⟩ ⟨by omega, by omega⟩ dL_law_2088 rfl (Nat.le_of_ble_eq_true rfl) (fun r3 X4 H locs hp9 hP hS => ?_)
  obtain ⟨hr8, hX8⟩ := hp9
  rw [hX8] at hP
  rw [k1] at hr8
  refine lv_iload hx hb dL_law_2091 (lv_at hl 1 rfl) ?_
  refine lv_icmp_eq (tgt := 2098) hx hb dL_law_2093 (by decide) (fun _ => ?_) (fun c9 => absurd hr8 c9)
  have hfin : ∀ (ls : Array Slot), lv_has ls 9 [(5, .int (nI (7 * j))), (4, .ref aD), (3, .ref aL), (2, .ref (ad 3 30 0)), (1, .ref (ad 2 20 0)), (0, .ref b)] → W p l e R s m #[Value.ref b] below meth c H locs (cells + 6) (slots + 36) Q (F0 m 2783 ls []) := fun ls hl => hk (_, u2.2) n8 _ _ _ k3 (by show nInv (wdo u2.1 3 _) (wdo u2.1 3 _ 3) n8; rw [wdo_at]; exact k4) hP hS hl
  refine lv_iload hx hb dL_law_2098 (lv_at hl 1 rfl) ?_
  refine lv_if_ne (tgt := 2115) hx hb dL_law_2100 (by decide) (fun _ => ?_) (fun c8 => ?_)
  · skip
    refine lv_goto (tgt := 2783) hx hb dL_law_2115 (by decide) ?_
    exact hfin _ (lv_sub hl [2, 3, 4, 5, 6, 7] rfl)
  · have k5 := k2 c8
    refine lv_aload_n hx hb dL_law_2103 rfl (lv_at hl 4 rfl) ?_
    refine lv_iconst (v := 0) hx hb dL_law_2104 (by decide) ?_
    refine b_lld hc hP dL_law_2105 ?_
    refine lv_iload hx hb dL_law_2106 (lv_at hl 0 rfl) ?_
    refine lv_i2l (v := _) hx hb dL_law_2108 rfl ?_
    refine W.lcmp hx hb dL_law_2109 ?_
    refine lv_if_eq (tgt := 2115) hx hb dL_law_2110 (by decide) (fun _ => ?_) (fun c9 => absurd (by rw [show u2.2.1 = r2.toInt64 from k5]; exact lg_self _) c9)
    refine lv_goto (tgt := 2783) hx hb dL_law_2115 (by decide) ?_
    exact hfin _ (lv_sub hl [2, 3, 4, 5, 6, 7] rfl)
set_option maxHeartbeats 4000000 in
theorem lk_32 (hc : lB p l s m meth c b L xs D dA ad on cL cD aL aD) (hinv : nInv u.1 (u.1 3) n) (hn : n < 512) (hP : lpic D dA ad on cL cD aL aD u H) (hS : va_S (fun q => s.heap.size ≤ q) s.heap H locs) (hl : lv_has ls 9 [(5, .int (nI (7 * j))), (4, .ref aD), (3, .ref aL), (2, .ref (ad 3 30 0)), (1, .ref (ad 2 20 0)), (0, .ref b)]) (hj : 7 * j + 6 < L) (hL : L ≤ 3584) (hR : 12 ≤ R.frames ∧ 480 ≤ R.locals) (hf : cells + 6 ≤ R.cells ∧ slots + 36 ≤ R.slots) (hk : lKont p l e R s m below meth c b D dA ad on cL cD aL aD n j cells slots Q) : W p l e R s m #[Value.ref b] below meth c H locs cells slots Q (F0 m 2118 ls []) := by
  have hx := hc.1
  have hb := hc.2.1
  have hI := hc.2.2.2.2.2.2.2.2.1
  have hs := hc.2.2.2.2.2.2.2.2.2.1
  obtain ⟨hon0, hon1, hon2, hon3⟩ := hc.2.2.2.2.2.2.2.2.2.2.2.2.1
  have hfl := hc.2.2.2.2.2.2.2.2.2.2.2.2.2
  have hok := hinv.oOk
  have hd := hinv.dia
  have hT : nput (u.1 3) 30 0 0 0 = nput (u.1 3) 30 0 0 0 := rfl
  have hIE := hinv.E (TE hT)
  have hmok := hIE.mOk
  have hP0 : lpic D dA ad on cL cD aL aD (wdo u.1 0 (u.1 0), u.2.1, u.2.2) H := by rw [wdo_eta]; exact hP
  refine lv_aload_n hx hb dL_law_2118 rfl (lv_at hl 4 rfl) ?_
  refine lv_aload_n hx hb dL_law_2119 rfl (lv_at hl 5 rfl) ?_
  refine lv_iload hx hb dL_law_2120 (lv_at hl 0 rfl) ?_
  refine lv_iconst (v := nI 1) hx hb dL_law_2122 (by decide) ?_
  refine lv_iadd hx hb dL_law_2123 ?_
  refine b_sld hc hS (sc_in hj hL (by decide)) dL_law_2124 ?_
  refine lv_aload_n hx hb dL_law_2125 rfl (lv_at hl 5 rfl) ?_
  refine lv_iload hx hb dL_law_2126 (lv_at hl 0 rfl) ?_
  refine lv_iconst (v := nI 2) hx hb dL_law_2128 (by decide) ?_
  refine lv_iadd hx hb dL_law_2129 ?_
  refine b_sld hc hS (sc_in hj hL (by decide)) dL_law_2130 ?_
  refine lv_aload_n hx hb dL_law_2131 rfl (lv_at hl 5 rfl) ?_
  refine lv_iload hx hb dL_law_2132 (lv_at hl 0 rfl) ?_
  refine lv_iconst (v := nI 3) hx hb dL_law_2134 (by decide) ?_
  refine lv_iadd hx hb dL_law_2135 ?_
  refine b_sld hc hS (sc_in hj hL (by decide)) dL_law_2136 ?_
  refine lv_aload_n hx hb dL_law_2137 rfl (lv_at hl 2 rfl) ?_
  refine b_L (lw_ballot (a := (xs (nix (nI (7 * j) + nI 1)))) (q := (xs (nix (nI (7 * j) + nI 2)))) (r9 := (xs (nix (nI (7 * j) + nI 3)))) hfl hI hs hon0 hon1 hon2 hok hd) hc hP0 hS hl.1 q959 q960 q0 q961 nok_L_ballot rfl ⟨by omega, by show 8 + (6 + 11) + 400 ≤ _; omega⟩ hf dL_law_2138 rfl (Nat.le_of_ble_eq_true rfl) (fun r u2 H locs hp hP hS => ?_)
  refine lv_istore (lv' := [(6, .int _), (5, .int _), (4, .ref _), (3, .ref _), (2, .ref _), (1, .ref _), (0, .ref _)]) hx hb dL_law_2141 hl (by decide) rfl (fun ls hl => ?_)
  have h3 : u2.1 3 = u.1 3 := by
    rcases hp with ⟨k, h1, h2, h3⟩ | ⟨v, X9, h1, h2, h3, h4⟩
    · rw [h3]; exact wdo_ne (by decide)
    · replace h1 := nG_inr (nG_inr (nG_inr (nG_inr h1)))
      cases h1
      rw [h3]
      first | exact nEv3 | exact wdo_ne (by decide) | exact (wdo_ne (by decide)).trans (wdo_ne (by decide))
  have hP3 : lpic D dA ad on cL cD aL aD (wdo u2.1 3 (u.1 3), u2.2.1, u2.2.2) H := by rw [← h3, wdo_eta]; exact hP
  refine lv_aload_n hx hb dL_law_2143 rfl (lv_at hl 4 rfl) ?_
  refine lv_aload_n hx hb dL_law_2144 rfl (lv_at hl 6 rfl) ?_
  refine lv_iload hx hb dL_law_2145 (lv_at hl 1 rfl) ?_
  refine lv_iconst (v := nI 1) hx hb dL_law_2147 (by decide) ?_
  refine lv_iadd hx hb dL_law_2148 ?_
  refine b_sld hc hS (sc_in hj hL (by decide)) dL_law_2149 ?_
  refine lv_aload_n hx hb dL_law_2150 rfl (lv_at hl 6 rfl) ?_
  refine lv_iload hx hb dL_law_2151 (lv_at hl 1 rfl) ?_
  refine lv_iconst (v := nI 2) hx hb dL_law_2153 (by decide) ?_
  refine lv_iadd hx hb dL_law_2154 ?_
  refine b_sld hc hS (sc_in hj hL (by decide)) dL_law_2155 ?_
  refine lv_aload_n hx hb dL_law_2156 rfl (lv_at hl 6 rfl) ?_
  refine lv_iload hx hb dL_law_2157 (lv_at hl 1 rfl) ?_
  refine lv_iconst (v := nI 3) hx hb dL_law_2159 (by decide) ?_
  refine lv_iadd hx hb dL_law_2160 ?_
  refine b_sld hc hS (sc_in hj hL (by decide)) dL_law_2161 ?_
  refine b_Mi (c_X10_ballot (a := (xs (nix (nI (7 * j) + nI 1)))) (q := (xs (nix (nI (7 * j) + nI 2)))) (b := (xs (nix (nI (7 * j) + nI 3)))) hI hon3 hT hmok) hc hP3 hS hl.1 (ngoodV q1432 q1433 q1434 q11 q1435) (b_rec10 hc hP3.1) ⟨rfl, rfl⟩ nok_X10_ballot rfl ⟨by show 9 + 1 ≤ _; omega, by show 8 + (5 + 11) + 360 ≤ _; omega⟩ ⟨by omega, by omega⟩ dL_law_2162 rfl (Nat.le_of_ble_eq_true rfl) (fun r2 X3 H locs hp9 hP hS => ?_)
  obtain ⟨U, n9, ⟨hU, hU2⟩, hr9, hX9⟩ := hp9
  rw [hX9] at hP
  have hkey := l_key hinv (sim_ballot hinv hT rfl rfl rfl rfl hU hU2) hp
  obtain ⟨k1, k2, n8, k3, k4⟩ := hkey
  rw [← hr9] at k2
  refine lv_istore (lv' := [(7, .int _), (6, .int _), (5, .int _), (4, .ref _), (3, .ref _), (2, .ref _), (1, .ref _), (0, .ref _)]) hx hb dL_law_2165 hl (by decide) rfl (fun ls hl => ?_)
  refine lv_aload_n hx hb dL_law_2167 rfl (lv_at hl 5 rfl) ?_
  refine b_Mi (c_X10_thrown hI hon3) hc hP hS hl.1 (ngoodV q1207 q1208 q1209 q11 q1210) (b_rec10 hc hP.1) ⟨rfl, rfl⟩ nok_X10_thrown rfl ⟨by show 1 + 1 ≤ _; omega, by show 8 + (1 + 11) + 40 ≤ _; omega⟩ ⟨by omega, by omega⟩ dL_law_2168 rfl (Nat.le_of_ble_eq_true rfl) (fun r3 X4 H locs hp9 hP hS => ?_)
  obtain ⟨hr8, hX8⟩ := hp9
  rw [hX8] at hP
  rw [k1] at hr8
  refine lv_iload hx hb dL_law_2171 (lv_at hl 1 rfl) ?_
  refine lv_icmp_eq (tgt := 2178) hx hb dL_law_2173 (by decide) (fun _ => ?_) (fun c9 => absurd hr8 c9)
  have hfin : ∀ (ls : Array Slot), lv_has ls 9 [(5, .int (nI (7 * j))), (4, .ref aD), (3, .ref aL), (2, .ref (ad 3 30 0)), (1, .ref (ad 2 20 0)), (0, .ref b)] → W p l e R s m #[Value.ref b] below meth c H locs (cells + 6) (slots + 36) Q (F0 m 2783 ls []) := fun ls hl => hk (_, u2.2) n8 _ _ _ k3 (by show nInv (wdo u2.1 3 _) (wdo u2.1 3 _ 3) n8; rw [wdo_at]; exact k4) hP hS hl
  refine lv_iload hx hb dL_law_2178 (lv_at hl 1 rfl) ?_
  refine lv_if_ne (tgt := 2195) hx hb dL_law_2180 (by decide) (fun _ => ?_) (fun c8 => ?_)
  · skip
    refine lv_goto (tgt := 2783) hx hb dL_law_2195 (by decide) ?_
    exact hfin _ (lv_sub hl [2, 3, 4, 5, 6, 7] rfl)
  · have k5 := k2 c8
    refine lv_aload_n hx hb dL_law_2183 rfl (lv_at hl 4 rfl) ?_
    refine lv_iconst (v := 0) hx hb dL_law_2184 (by decide) ?_
    refine b_lld hc hP dL_law_2185 ?_
    refine lv_iload hx hb dL_law_2186 (lv_at hl 0 rfl) ?_
    refine lv_i2l (v := _) hx hb dL_law_2188 rfl ?_
    refine W.lcmp hx hb dL_law_2189 ?_
    refine lv_if_eq (tgt := 2195) hx hb dL_law_2190 (by decide) (fun _ => ?_) (fun c9 => absurd (by rw [show u2.2.1 = r2.toInt64 from k5]; exact lg_self _) c9)
    refine lv_goto (tgt := 2783) hx hb dL_law_2195 (by decide) ?_
    exact hfin _ (lv_sub hl [2, 3, 4, 5, 6, 7] rfl)
set_option maxHeartbeats 4000000 in
theorem lk_33 (hc : lB p l s m meth c b L xs D dA ad on cL cD aL aD) (hinv : nInv u.1 (u.1 3) n) (hn : n < 512) (hP : lpic D dA ad on cL cD aL aD u H) (hS : va_S (fun q => s.heap.size ≤ q) s.heap H locs) (hl : lv_has ls 9 [(5, .int (nI (7 * j))), (4, .ref aD), (3, .ref aL), (2, .ref (ad 3 30 0)), (1, .ref (ad 2 20 0)), (0, .ref b)]) (hj : 7 * j + 6 < L) (hL : L ≤ 3584) (hR : 12 ≤ R.frames ∧ 480 ≤ R.locals) (hf : cells + 6 ≤ R.cells ∧ slots + 36 ≤ R.slots) (hk : lKont p l e R s m below meth c b D dA ad on cL cD aL aD n j cells slots Q) : W p l e R s m #[Value.ref b] below meth c H locs cells slots Q (F0 m 2198 ls []) := by
  have hx := hc.1
  have hb := hc.2.1
  have hI := hc.2.2.2.2.2.2.2.2.1
  have hs := hc.2.2.2.2.2.2.2.2.2.1
  obtain ⟨hon0, hon1, hon2, hon3⟩ := hc.2.2.2.2.2.2.2.2.2.2.2.2.1
  have hfl := hc.2.2.2.2.2.2.2.2.2.2.2.2.2
  have hok := hinv.oOk
  have hd := hinv.dia
  have hT : nput (u.1 3) 30 0 0 0 = nput (u.1 3) 30 0 0 0 := rfl
  have hIE := hinv.E (TE hT)
  have hmok := hIE.mOk
  have hP0 : lpic D dA ad on cL cD aL aD (wdo u.1 0 (u.1 0), u.2.1, u.2.2) H := by rw [wdo_eta]; exact hP
  refine lv_aload_n hx hb dL_law_2198 rfl (lv_at hl 4 rfl) ?_
  refine lv_aload_n hx hb dL_law_2199 rfl (lv_at hl 5 rfl) ?_
  refine lv_iload hx hb dL_law_2200 (lv_at hl 0 rfl) ?_
  refine lv_iconst (v := nI 1) hx hb dL_law_2202 (by decide) ?_
  refine lv_iadd hx hb dL_law_2203 ?_
  refine b_sld hc hS (sc_in hj hL (by decide)) dL_law_2204 ?_
  refine lv_aload_n hx hb dL_law_2205 rfl (lv_at hl 5 rfl) ?_
  refine lv_iload hx hb dL_law_2206 (lv_at hl 0 rfl) ?_
  refine lv_iconst (v := nI 2) hx hb dL_law_2208 (by decide) ?_
  refine lv_iadd hx hb dL_law_2209 ?_
  refine b_sld hc hS (sc_in hj hL (by decide)) dL_law_2210 ?_
  refine lv_aload_n hx hb dL_law_2211 rfl (lv_at hl 2 rfl) ?_
  refine b_L (lw_placeOnBallot (pp := (xs (nix (nI (7 * j) + nI 1)))) (q := (xs (nix (nI (7 * j) + nI 2)))) hfl hI hs hon0 hon1 hon2 hok hd) hc hP0 hS hl.1 q996 q997 q0 q998 nok_L_placeOnBallot rfl ⟨by omega, by show 8 + (5 + 11) + 400 ≤ _; omega⟩ hf dL_law_2212 rfl (Nat.le_of_ble_eq_true rfl) (fun r u2 H locs hp hP hS => ?_)
  refine lv_istore (lv' := [(6, .int _), (5, .int _), (4, .ref _), (3, .ref _), (2, .ref _), (1, .ref _), (0, .ref _)]) hx hb dL_law_2215 hl (by decide) rfl (fun ls hl => ?_)
  have h3 : u2.1 3 = u.1 3 := by
    rcases hp with ⟨k, h1, h2, h3⟩ | ⟨v, X9, h1, h2, h3, h4⟩
    · rw [h3]; exact wdo_ne (by decide)
    · replace h1 := nG_inr (nG_inr (nG_inr (nG_inr h1)))
      cases h1
      rw [h3]
      first | exact nEv3 | exact wdo_ne (by decide) | exact (wdo_ne (by decide)).trans (wdo_ne (by decide))
  have hP3 : lpic D dA ad on cL cD aL aD (wdo u2.1 3 (u.1 3), u2.2.1, u2.2.2) H := by rw [← h3, wdo_eta]; exact hP
  refine lv_aload_n hx hb dL_law_2217 rfl (lv_at hl 4 rfl) ?_
  refine lv_aload_n hx hb dL_law_2218 rfl (lv_at hl 6 rfl) ?_
  refine lv_iload hx hb dL_law_2219 (lv_at hl 1 rfl) ?_
  refine lv_iconst (v := nI 1) hx hb dL_law_2221 (by decide) ?_
  refine lv_iadd hx hb dL_law_2222 ?_
  refine b_sld hc hS (sc_in hj hL (by decide)) dL_law_2223 ?_
  refine lv_aload_n hx hb dL_law_2224 rfl (lv_at hl 6 rfl) ?_
  refine lv_iload hx hb dL_law_2225 (lv_at hl 1 rfl) ?_
  refine lv_iconst (v := nI 2) hx hb dL_law_2227 (by decide) ?_
  refine lv_iadd hx hb dL_law_2228 ?_
  refine b_sld hc hS (sc_in hj hL (by decide)) dL_law_2229 ?_
  refine b_Mi (c_X10_placeOnBallot (x := (xs (nix (nI (7 * j) + nI 1)))) (q := (xs (nix (nI (7 * j) + nI 2)))) hI hon3 hT hmok) hc hP3 hS hl.1 (ngoodV q1448 q1449 q1450 q11 q1451) (b_rec10 hc hP3.1) ⟨rfl, rfl⟩ nok_X10_placeOnBallot rfl ⟨by show 9 + 1 ≤ _; omega, by show 8 + (5 + 11) + 360 ≤ _; omega⟩ ⟨by omega, by omega⟩ dL_law_2230 rfl (Nat.le_of_ble_eq_true rfl) (fun r2 X3 H locs hp9 hP hS => ?_)
  obtain ⟨U, n9, i9, ⟨hU, hU2⟩, hr9, hX9⟩ := hp9
  rw [hX9] at hP
  have hkey := l_key hinv (sim_placeOnBallot hinv hT rfl rfl rfl hU hU2) hp
  obtain ⟨k1, k2, n8, k3, k4⟩ := hkey
  rw [← hr9] at k2
  refine lv_istore (lv' := [(7, .int _), (6, .int _), (5, .int _), (4, .ref _), (3, .ref _), (2, .ref _), (1, .ref _), (0, .ref _)]) hx hb dL_law_2233 hl (by decide) rfl (fun ls hl => ?_)
  refine lv_aload_n hx hb dL_law_2235 rfl (lv_at hl 5 rfl) ?_
  refine b_Mi (c_X10_thrown hI hon3) hc hP hS hl.1 (ngoodV q1207 q1208 q1209 q11 q1210) (b_rec10 hc hP.1) ⟨rfl, rfl⟩ nok_X10_thrown rfl ⟨by show 1 + 1 ≤ _; omega, by show 8 + (1 + 11) + 40 ≤ _; omega⟩ ⟨by omega, by omega⟩ dL_law_2236 rfl (Nat.le_of_ble_eq_true rfl) (fun r3 X4 H locs hp9 hP hS => ?_)
  obtain ⟨hr8, hX8⟩ := hp9
  rw [hX8] at hP
  rw [k1] at hr8
  refine lv_iload hx hb dL_law_2239 (lv_at hl 1 rfl) ?_
  refine lv_icmp_eq (tgt := 2246) hx hb dL_law_2241 (by decide) (fun _ => ?_) (fun c9 => absurd hr8 c9)
  have hfin : ∀ (ls : Array Slot), lv_has ls 9 [(5, .int (nI (7 * j))), (4, .ref aD), (3, .ref aL), (2, .ref (ad 3 30 0)), (1, .ref (ad 2 20 0)), (0, .ref b)] → W p l e R s m #[Value.ref b] below meth c H locs (cells + 6) (slots + 36) Q (F0 m 2783 ls []) := fun ls hl => hk (_, u2.2) n8 _ _ _ k3 (by show nInv (wdo u2.1 3 _) (wdo u2.1 3 _ 3) n8; rw [wdo_at]; exact k4) hP hS hl
  refine lv_iload hx hb dL_law_2246 (lv_at hl 1 rfl) ?_
  refine lv_if_ne (tgt := 2263) hx hb dL_law_2248 (by decide) (fun _ => ?_) (fun c8 => ?_)
  · skip
    refine lv_goto (tgt := 2783) hx hb dL_law_2263 (by decide) ?_
    exact hfin _ (lv_sub hl [2, 3, 4, 5, 6, 7] rfl)
  · have k5 := k2 c8
    refine lv_aload_n hx hb dL_law_2251 rfl (lv_at hl 4 rfl) ?_
    refine lv_iconst (v := 0) hx hb dL_law_2252 (by decide) ?_
    refine b_lld hc hP dL_law_2253 ?_
    refine lv_iload hx hb dL_law_2254 (lv_at hl 0 rfl) ?_
    refine lv_i2l (v := _) hx hb dL_law_2256 rfl ?_
    refine W.lcmp hx hb dL_law_2257 ?_
    refine lv_if_eq (tgt := 2263) hx hb dL_law_2258 (by decide) (fun _ => ?_) (fun c9 => absurd (by rw [show u2.2.1 = r2.toInt64 from k5]; exact lg_self _) c9)
    refine lv_goto (tgt := 2783) hx hb dL_law_2263 (by decide) ?_
    exact hfin _ (lv_sub hl [2, 3, 4, 5, 6, 7] rfl)
set_option maxHeartbeats 4000000 in
theorem lk_34 (hc : lB p l s m meth c b L xs D dA ad on cL cD aL aD) (hinv : nInv u.1 (u.1 3) n) (hn : n < 512) (hP : lpic D dA ad on cL cD aL aD u H) (hS : va_S (fun q => s.heap.size ≤ q) s.heap H locs) (hl : lv_has ls 9 [(5, .int (nI (7 * j))), (4, .ref aD), (3, .ref aL), (2, .ref (ad 3 30 0)), (1, .ref (ad 2 20 0)), (0, .ref b)]) (hj : 7 * j + 6 < L) (hL : L ≤ 3584) (hR : 12 ≤ R.frames ∧ 480 ≤ R.locals) (hf : cells + 6 ≤ R.cells ∧ slots + 36 ≤ R.slots) (hk : lKont p l e R s m below meth c b D dA ad on cL cD aL aD n j cells slots Q) : W p l e R s m #[Value.ref b] below meth c H locs cells slots Q (F0 m 2266 ls []) := by
  have hx := hc.1
  have hb := hc.2.1
  have hI := hc.2.2.2.2.2.2.2.2.1
  have hs := hc.2.2.2.2.2.2.2.2.2.1
  obtain ⟨hon0, hon1, hon2, hon3⟩ := hc.2.2.2.2.2.2.2.2.2.2.2.2.1
  have hfl := hc.2.2.2.2.2.2.2.2.2.2.2.2.2
  have hok := hinv.oOk
  have hd := hinv.dia
  have hT : nput (u.1 3) 30 0 0 0 = nput (u.1 3) 30 0 0 0 := rfl
  have hIE := hinv.E (TE hT)
  have hmok := hIE.mOk
  have hP0 : lpic D dA ad on cL cD aL aD (wdo u.1 0 (u.1 0), u.2.1, u.2.2) H := by rw [wdo_eta]; exact hP
  refine lv_aload_n hx hb dL_law_2266 rfl (lv_at hl 4 rfl) ?_
  refine lv_aload_n hx hb dL_law_2267 rfl (lv_at hl 5 rfl) ?_
  refine lv_iload hx hb dL_law_2268 (lv_at hl 0 rfl) ?_
  refine lv_iconst (v := nI 1) hx hb dL_law_2270 (by decide) ?_
  refine lv_iadd hx hb dL_law_2271 ?_
  refine b_sld hc hS (sc_in hj hL (by decide)) dL_law_2272 ?_
  refine lv_aload_n hx hb dL_law_2273 rfl (lv_at hl 5 rfl) ?_
  refine lv_iload hx hb dL_law_2274 (lv_at hl 0 rfl) ?_
  refine lv_iconst (v := nI 2) hx hb dL_law_2276 (by decide) ?_
  refine lv_iadd hx hb dL_law_2277 ?_
  refine b_sld hc hS (sc_in hj hL (by decide)) dL_law_2278 ?_
  refine lv_aload_n hx hb dL_law_2279 rfl (lv_at hl 2 rfl) ?_
  refine b_L (lw_addVotes (pp := (xs (nix (nI (7 * j) + nI 1)))) (a := (xs (nix (nI (7 * j) + nI 2)))) hfl hI hs hon0 hon1 hon2 hok hd) hc hP0 hS hl.1 q1009 q1010 q0 q1011 nok_L_addVotes rfl ⟨by omega, by show 8 + (5 + 11) + 400 ≤ _; omega⟩ hf dL_law_2280 rfl (Nat.le_of_ble_eq_true rfl) (fun r u2 H locs hp hP hS => ?_)
  refine lv_istore (lv' := [(6, .int _), (5, .int _), (4, .ref _), (3, .ref _), (2, .ref _), (1, .ref _), (0, .ref _)]) hx hb dL_law_2283 hl (by decide) rfl (fun ls hl => ?_)
  have h3 : u2.1 3 = u.1 3 := by
    rcases hp with ⟨k, h1, h2, h3⟩ | ⟨v, X9, h1, h2, h3, h4⟩
    · rw [h3]; exact wdo_ne (by decide)
    · replace h1 := nG_inr (nG_inr (nG_inr (nG_inr h1)))
      cases h1
      rw [h3]
      first | exact nEv3 | exact wdo_ne (by decide) | exact (wdo_ne (by decide)).trans (wdo_ne (by decide))
  have hP3 : lpic D dA ad on cL cD aL aD (wdo u2.1 3 (u.1 3), u2.2.1, u2.2.2) H := by rw [← h3, wdo_eta]; exact hP
  refine lv_aload_n hx hb dL_law_2285 rfl (lv_at hl 4 rfl) ?_
  refine lv_aload_n hx hb dL_law_2286 rfl (lv_at hl 6 rfl) ?_
  refine lv_iload hx hb dL_law_2287 (lv_at hl 1 rfl) ?_
  refine lv_iconst (v := nI 1) hx hb dL_law_2289 (by decide) ?_
  refine lv_iadd hx hb dL_law_2290 ?_
  refine b_sld hc hS (sc_in hj hL (by decide)) dL_law_2291 ?_
  refine lv_aload_n hx hb dL_law_2292 rfl (lv_at hl 6 rfl) ?_
  refine lv_iload hx hb dL_law_2293 (lv_at hl 1 rfl) ?_
  refine lv_iconst (v := nI 2) hx hb dL_law_2295 (by decide) ?_
  refine lv_iadd hx hb dL_law_2296 ?_
  refine b_sld hc hS (sc_in hj hL (by decide)) dL_law_2297 ?_
  refine b_Mi (c_X10_addVotes (x := (xs (nix (nI (7 * j) + nI 1)))) (a := (xs (nix (nI (7 * j) + nI 2)))) hI hon3 hT hmok) hc hP3 hS hl.1 (ngoodV q1452 q1453 q1454 q11 q1455) (b_rec10 hc hP3.1) ⟨rfl, rfl⟩ nok_X10_addVotes rfl ⟨by show 9 + 1 ≤ _; omega, by show 8 + (3 + 11) + 360 ≤ _; omega⟩ ⟨by omega, by omega⟩ dL_law_2298 rfl (Nat.le_of_ble_eq_true rfl) (fun r2 X3 H locs hp9 hP hS => ?_)
  obtain ⟨U, hU, hr9, hX9⟩ := hp9
  rw [hX9] at hP
  have hkey := l_key hinv (sim_addVotes hinv hT hn rfl rfl rfl hU) hp
  obtain ⟨k1, k2, n8, k3, k4⟩ := hkey
  rw [← hr9] at k2
  refine lv_istore (lv' := [(7, .int _), (6, .int _), (5, .int _), (4, .ref _), (3, .ref _), (2, .ref _), (1, .ref _), (0, .ref _)]) hx hb dL_law_2301 hl (by decide) rfl (fun ls hl => ?_)
  refine lv_aload_n hx hb dL_law_2303 rfl (lv_at hl 5 rfl) ?_
  refine b_Mi (c_X10_thrown hI hon3) hc hP hS hl.1 (ngoodV q1207 q1208 q1209 q11 q1210) (b_rec10 hc hP.1) ⟨rfl, rfl⟩ nok_X10_thrown rfl ⟨by show 1 + 1 ≤ _; omega, by show 8 + (1 + 11) + 40 ≤ _; omega⟩ ⟨by omega, by omega⟩ dL_law_2304 rfl (Nat.le_of_ble_eq_true rfl) (fun r3 X4 H locs hp9 hP hS => ?_)
  obtain ⟨hr8, hX8⟩ := hp9
  rw [hX8] at hP
  rw [k1] at hr8
  refine lv_iload hx hb dL_law_2307 (lv_at hl 1 rfl) ?_
  refine lv_icmp_eq (tgt := 2314) hx hb dL_law_2309 (by decide) (fun _ => ?_) (fun c9 => absurd hr8 c9)
  have hfin : ∀ (ls : Array Slot), lv_has ls 9 [(5, .int (nI (7 * j))), (4, .ref aD), (3, .ref aL), (2, .ref (ad 3 30 0)), (1, .ref (ad 2 20 0)), (0, .ref b)] → W p l e R s m #[Value.ref b] below meth c H locs (cells + 6) (slots + 36) Q (F0 m 2783 ls []) := fun ls hl => hk (_, u2.2) n8 _ _ _ k3 (by show nInv (wdo u2.1 3 _) (wdo u2.1 3 _ 3) n8; rw [wdo_at]; exact k4) hP hS hl
  refine lv_iload hx hb dL_law_2314 (lv_at hl 1 rfl) ?_
  refine lv_if_ne (tgt := 2331) hx hb dL_law_2316 (by decide) (fun _ => ?_) (fun c8 => ?_)
  · skip
    refine lv_goto (tgt := 2783) hx hb dL_law_2331 (by decide) ?_
    exact hfin _ (lv_sub hl [2, 3, 4, 5, 6, 7] rfl)
  · have k5 := k2 c8
    refine lv_aload_n hx hb dL_law_2319 rfl (lv_at hl 4 rfl) ?_
    refine lv_iconst (v := 0) hx hb dL_law_2320 (by decide) ?_
    refine b_lld hc hP dL_law_2321 ?_
    refine lv_iload hx hb dL_law_2322 (lv_at hl 0 rfl) ?_
    refine lv_i2l (v := _) hx hb dL_law_2324 rfl ?_
    refine W.lcmp hx hb dL_law_2325 ?_
    refine lv_if_eq (tgt := 2331) hx hb dL_law_2326 (by decide) (fun _ => ?_) (fun c9 => absurd (by rw [show u2.2.1 = r2.toInt64 from k5]; exact lg_self _) c9)
    refine lv_goto (tgt := 2783) hx hb dL_law_2331 (by decide) ?_
    exact hfin _ (lv_sub hl [2, 3, 4, 5, 6, 7] rfl)
set_option maxHeartbeats 4000000 in
theorem lk_35 (hc : lB p l s m meth c b L xs D dA ad on cL cD aL aD) (hinv : nInv u.1 (u.1 3) n) (hn : n < 512) (hP : lpic D dA ad on cL cD aL aD u H) (hS : va_S (fun q => s.heap.size ≤ q) s.heap H locs) (hl : lv_has ls 9 [(5, .int (nI (7 * j))), (4, .ref aD), (3, .ref aL), (2, .ref (ad 3 30 0)), (1, .ref (ad 2 20 0)), (0, .ref b)]) (hj : 7 * j + 6 < L) (hL : L ≤ 3584) (hR : 12 ≤ R.frames ∧ 480 ≤ R.locals) (hf : cells + 6 ≤ R.cells ∧ slots + 36 ≤ R.slots) (hk : lKont p l e R s m below meth c b D dA ad on cL cD aL aD n j cells slots Q) : W p l e R s m #[Value.ref b] below meth c H locs cells slots Q (F0 m 2334 ls []) := by
  have hx := hc.1
  have hb := hc.2.1
  have hI := hc.2.2.2.2.2.2.2.2.1
  have hs := hc.2.2.2.2.2.2.2.2.2.1
  obtain ⟨hon0, hon1, hon2, hon3⟩ := hc.2.2.2.2.2.2.2.2.2.2.2.2.1
  have hfl := hc.2.2.2.2.2.2.2.2.2.2.2.2.2
  have hok := hinv.oOk
  have hd := hinv.dia
  have hT : nput (u.1 3) 30 0 0 0 = nput (u.1 3) 30 0 0 0 := rfl
  have hIE := hinv.E (TE hT)
  have hmok := hIE.mOk
  have hP0 : lpic D dA ad on cL cD aL aD (wdo u.1 0 (u.1 0), u.2.1, u.2.2) H := by rw [wdo_eta]; exact hP
  refine lv_aload_n hx hb dL_law_2334 rfl (lv_at hl 4 rfl) ?_
  refine lv_aload_n hx hb dL_law_2335 rfl (lv_at hl 5 rfl) ?_
  refine lv_iload hx hb dL_law_2336 (lv_at hl 0 rfl) ?_
  refine lv_iconst (v := nI 1) hx hb dL_law_2338 (by decide) ?_
  refine lv_iadd hx hb dL_law_2339 ?_
  refine b_sld hc hS (sc_in hj hL (by decide)) dL_law_2340 ?_
  refine lv_aload_n hx hb dL_law_2341 rfl (lv_at hl 2 rfl) ?_
  refine b_L (lw_finish (a := (xs (nix (nI (7 * j) + nI 1)))) hfl hI hs hon0 hon1 hon2 hok hd) hc hP0 hS hl.1 q1023 q1024 q0 q1025 nok_L_finish rfl ⟨by omega, by show 8 + (4 + 11) + 400 ≤ _; omega⟩ hf dL_law_2342 rfl (Nat.le_of_ble_eq_true rfl) (fun r u2 H locs hp hP hS => ?_)
  refine lv_istore (lv' := [(6, .int _), (5, .int _), (4, .ref _), (3, .ref _), (2, .ref _), (1, .ref _), (0, .ref _)]) hx hb dL_law_2345 hl (by decide) rfl (fun ls hl => ?_)
  have h3 : u2.1 3 = u.1 3 := by
    rcases hp with ⟨k, h1, h2, h3⟩ | ⟨v, X9, h1, h2, h3, h4⟩
    · rw [h3]; exact wdo_ne (by decide)
    · replace h1 := nG_inr (nG_inr h1)
      cases h1
      rw [h3]
      first | exact nEv3 | exact wdo_ne (by decide) | exact (wdo_ne (by decide)).trans (wdo_ne (by decide))
  have hP3 : lpic D dA ad on cL cD aL aD (wdo u2.1 3 (u.1 3), u2.2.1, u2.2.2) H := by rw [← h3, wdo_eta]; exact hP
  refine lv_aload_n hx hb dL_law_2347 rfl (lv_at hl 4 rfl) ?_
  refine lv_aload_n hx hb dL_law_2348 rfl (lv_at hl 6 rfl) ?_
  refine lv_iload hx hb dL_law_2349 (lv_at hl 1 rfl) ?_
  refine lv_iconst (v := nI 1) hx hb dL_law_2351 (by decide) ?_
  refine lv_iadd hx hb dL_law_2352 ?_
  refine b_sld hc hS (sc_in hj hL (by decide)) dL_law_2353 ?_
  refine b_Mi (c_X10_finish (a := (xs (nix (nI (7 * j) + nI 1)))) hI hon3 hT hmok) hc hP3 hS hl.1 (ngoodV q1456 q1457 q1458 q11 q1459) (b_rec10 hc hP3.1) ⟨rfl, rfl⟩ nok_X10_finish rfl ⟨by show 9 + 1 ≤ _; omega, by show 8 + (4 + 11) + 360 ≤ _; omega⟩ ⟨by omega, by omega⟩ dL_law_2354 rfl (Nat.le_of_ble_eq_true rfl) (fun r2 X3 H locs hp9 hP hS => ?_)
  obtain ⟨U, hU, hr9, hX9⟩ := hp9
  rw [hX9] at hP
  have hkey := l_key hinv (sim_finish hinv hT hn rfl rfl hU) hp
  obtain ⟨k1, k2, n8, k3, k4⟩ := hkey
  rw [← hr9] at k2
  refine lv_istore (lv' := [(7, .int _), (6, .int _), (5, .int _), (4, .ref _), (3, .ref _), (2, .ref _), (1, .ref _), (0, .ref _)]) hx hb dL_law_2357 hl (by decide) rfl (fun ls hl => ?_)
  refine lv_aload_n hx hb dL_law_2359 rfl (lv_at hl 5 rfl) ?_
  refine b_Mi (c_X10_thrown hI hon3) hc hP hS hl.1 (ngoodV q1207 q1208 q1209 q11 q1210) (b_rec10 hc hP.1) ⟨rfl, rfl⟩ nok_X10_thrown rfl ⟨by show 1 + 1 ≤ _; omega, by show 8 + (1 + 11) + 40 ≤ _; omega⟩ ⟨by omega, by omega⟩ dL_law_2360 rfl (Nat.le_of_ble_eq_true rfl) (fun r3 X4 H locs hp9 hP hS => ?_)
  obtain ⟨hr8, hX8⟩ := hp9
  rw [hX8] at hP
  rw [k1] at hr8
  refine lv_iload hx hb dL_law_2363 (lv_at hl 1 rfl) ?_
  refine lv_icmp_eq (tgt := 2370) hx hb dL_law_2365 (by decide) (fun _ => ?_) (fun c9 => absurd hr8 c9)
  have hfin : ∀ (ls : Array Slot), lv_has ls 9 [(5, .int (nI (7 * j))), (4, .ref aD), (3, .ref aL), (2, .ref (ad 3 30 0)), (1, .ref (ad 2 20 0)), (0, .ref b)] → W p l e R s m #[Value.ref b] below meth c H locs (cells + 6) (slots + 36) Q (F0 m 2783 ls []) := fun ls hl => hk (_, u2.2) n8 _ _ _ k3 (by show nInv (wdo u2.1 3 _) (wdo u2.1 3 _ 3) n8; rw [wdo_at]; exact k4) hP hS hl
  refine lv_iload hx hb dL_law_2370 (lv_at hl 1 rfl) ?_
  refine lv_if_ne (tgt := 2387) hx hb dL_law_2372 (by decide) (fun _ => ?_) (fun c8 => ?_)
  · skip
    refine lv_goto (tgt := 2783) hx hb dL_law_2387 (by decide) ?_
    exact hfin _ (lv_sub hl [2, 3, 4, 5, 6, 7] rfl)
  · have k5 := k2 c8
    refine lv_aload_n hx hb dL_law_2375 rfl (lv_at hl 4 rfl) ?_
    refine lv_iconst (v := 0) hx hb dL_law_2376 (by decide) ?_
    refine b_lld hc hP dL_law_2377 ?_
    refine lv_iload hx hb dL_law_2378 (lv_at hl 0 rfl) ?_
    refine lv_i2l (v := _) hx hb dL_law_2380 rfl ?_
    refine W.lcmp hx hb dL_law_2381 ?_
    refine lv_if_eq (tgt := 2387) hx hb dL_law_2382 (by decide) (fun _ => ?_) (fun c9 => absurd (by rw [show u2.2.1 = r2.toInt64 from k5]; exact lg_self _) c9)
    refine lv_goto (tgt := 2783) hx hb dL_law_2387 (by decide) ?_
    exact hfin _ (lv_sub hl [2, 3, 4, 5, 6, 7] rfl)
set_option maxHeartbeats 4000000 in
theorem lk_36 (hc : lB p l s m meth c b L xs D dA ad on cL cD aL aD) (hinv : nInv u.1 (u.1 3) n) (hn : n < 512) (hP : lpic D dA ad on cL cD aL aD u H) (hS : va_S (fun q => s.heap.size ≤ q) s.heap H locs) (hl : lv_has ls 9 [(5, .int (nI (7 * j))), (4, .ref aD), (3, .ref aL), (2, .ref (ad 3 30 0)), (1, .ref (ad 2 20 0)), (0, .ref b)]) (hj : 7 * j + 6 < L) (hL : L ≤ 3584) (hR : 12 ≤ R.frames ∧ 480 ≤ R.locals) (hf : cells + 6 ≤ R.cells ∧ slots + 36 ≤ R.slots) (hk : lKont p l e R s m below meth c b D dA ad on cL cD aL aD n j cells slots Q) : W p l e R s m #[Value.ref b] below meth c H locs cells slots Q (F0 m 2390 ls []) := by
  have hx := hc.1
  have hb := hc.2.1
  have hI := hc.2.2.2.2.2.2.2.2.1
  have hs := hc.2.2.2.2.2.2.2.2.2.1
  obtain ⟨hon0, hon1, hon2, hon3⟩ := hc.2.2.2.2.2.2.2.2.2.2.2.2.1
  have hfl := hc.2.2.2.2.2.2.2.2.2.2.2.2.2
  have hok := hinv.oOk
  have hd := hinv.dia
  have hT : nput (u.1 3) 30 0 0 0 = nput (u.1 3) 30 0 0 0 := rfl
  have hIE := hinv.E (TE hT)
  have hmok := hIE.mOk
  have hP0 : lpic D dA ad on cL cD aL aD (wdo u.1 0 (u.1 0), u.2.1, u.2.2) H := by rw [wdo_eta]; exact hP
  refine lv_aload_n hx hb dL_law_2390 rfl (lv_at hl 4 rfl) ?_
  refine lv_aload_n hx hb dL_law_2391 rfl (lv_at hl 5 rfl) ?_
  refine lv_iload hx hb dL_law_2392 (lv_at hl 0 rfl) ?_
  refine lv_iconst (v := nI 1) hx hb dL_law_2394 (by decide) ?_
  refine lv_iadd hx hb dL_law_2395 ?_
  refine b_sld hc hS (sc_in hj hL (by decide)) dL_law_2396 ?_
  refine lv_aload_n hx hb dL_law_2397 rfl (lv_at hl 2 rfl) ?_
  refine b_L (lw_votes (pp := (xs (nix (nI (7 * j) + nI 1)))) hfl hI hs hon0 hon1 hon2 hok hd) hc hP0 hS hl.1 q1034 q1035 q0 q1036 nok_L_votes rfl ⟨by omega, by show 8 + (4 + 11) + 400 ≤ _; omega⟩ hf dL_law_2398 rfl (Nat.le_of_ble_eq_true rfl) (fun r u2 H locs hp hP hS => ?_)
  refine lv_istore (lv' := [(6, .int _), (5, .int _), (4, .ref _), (3, .ref _), (2, .ref _), (1, .ref _), (0, .ref _)]) hx hb dL_law_2401 hl (by decide) rfl (fun ls hl => ?_)
  have h3 : u2.1 3 = u.1 3 := by
    rcases hp with ⟨k, h1, h2, h3⟩ | ⟨v, X9, h1, h2, h3, h4⟩
    · rw [h3]; exact wdo_ne (by decide)
    · replace h1 := nG_inr h1
      cases h1
      rw [h3]
      first | exact nEv3 | exact wdo_ne (by decide) | exact (wdo_ne (by decide)).trans (wdo_ne (by decide))
  have hP3 : lpic D dA ad on cL cD aL aD (wdo u2.1 3 (u.1 3), u2.2.1, u2.2.2) H := by rw [← h3, wdo_eta]; exact hP
  refine lv_aload_n hx hb dL_law_2403 rfl (lv_at hl 4 rfl) ?_
  refine lv_aload_n hx hb dL_law_2404 rfl (lv_at hl 6 rfl) ?_
  refine lv_iload hx hb dL_law_2405 (lv_at hl 1 rfl) ?_
  refine lv_iconst (v := nI 1) hx hb dL_law_2407 (by decide) ?_
  refine lv_iadd hx hb dL_law_2408 ?_
  refine b_sld hc hS (sc_in hj hL (by decide)) dL_law_2409 ?_
  refine b_Mi (c_X10_votes (x := (xs (nix (nI (7 * j) + nI 1)))) hI hon3 hT hmok) hc hP3 hS hl.1 (ngoodV q1468 q1469 q1470 q11 q1471) (b_rec10 hc hP3.1) ⟨rfl, rfl⟩ nok_X10_votes rfl ⟨by show 9 + 1 ≤ _; omega, by show 8 + (2 + 11) + 360 ≤ _; omega⟩ ⟨by omega, by omega⟩ dL_law_2410 rfl (Nat.le_of_ble_eq_true rfl) (fun r2 X3 H locs hp9 hP hS => ?_)
  obtain ⟨hr9, hX9⟩ := hp9
  rw [hX9] at hP
  have hkey := l_key hinv (sim_votes hinv hT rfl) hp
  obtain ⟨k1, k2, n8, k3, k4⟩ := hkey
  rw [← hr9] at k2
  refine lv_istore (lv' := [(7, .int _), (6, .int _), (5, .int _), (4, .ref _), (3, .ref _), (2, .ref _), (1, .ref _), (0, .ref _)]) hx hb dL_law_2413 hl (by decide) rfl (fun ls hl => ?_)
  refine lv_aload_n hx hb dL_law_2415 rfl (lv_at hl 5 rfl) ?_
  refine b_Mi (c_X10_thrown hI hon3) hc hP hS hl.1 (ngoodV q1207 q1208 q1209 q11 q1210) (b_rec10 hc hP.1) ⟨rfl, rfl⟩ nok_X10_thrown rfl ⟨by show 1 + 1 ≤ _; omega, by show 8 + (1 + 11) + 40 ≤ _; omega⟩ ⟨by omega, by omega⟩ dL_law_2416 rfl (Nat.le_of_ble_eq_true rfl) (fun r3 X4 H locs hp9 hP hS => ?_)
  obtain ⟨hr8, hX8⟩ := hp9
  rw [hX8] at hP
  rw [k1] at hr8
  refine lv_iload hx hb dL_law_2419 (lv_at hl 1 rfl) ?_
  refine lv_icmp_eq (tgt := 2426) hx hb dL_law_2421 (by decide) (fun _ => ?_) (fun c9 => absurd hr8 c9)
  have hfin : ∀ (ls : Array Slot), lv_has ls 9 [(5, .int (nI (7 * j))), (4, .ref aD), (3, .ref aL), (2, .ref (ad 3 30 0)), (1, .ref (ad 2 20 0)), (0, .ref b)] → W p l e R s m #[Value.ref b] below meth c H locs (cells + 6) (slots + 36) Q (F0 m 2783 ls []) := fun ls hl => hk (_, u2.2) n8 _ _ _ k3 (by show nInv (wdo u2.1 3 _) (wdo u2.1 3 _ 3) n8; rw [wdo_at]; exact k4) hP hS hl
  refine lv_iload hx hb dL_law_2426 (lv_at hl 1 rfl) ?_
  refine lv_if_ne (tgt := 2443) hx hb dL_law_2428 (by decide) (fun _ => ?_) (fun c8 => ?_)
  · skip
    refine lv_goto (tgt := 2783) hx hb dL_law_2443 (by decide) ?_
    exact hfin _ (lv_sub hl [2, 3, 4, 5, 6, 7] rfl)
  · have k5 := k2 c8
    refine lv_aload_n hx hb dL_law_2431 rfl (lv_at hl 4 rfl) ?_
    refine lv_iconst (v := 0) hx hb dL_law_2432 (by decide) ?_
    refine b_lld hc hP dL_law_2433 ?_
    refine lv_iload hx hb dL_law_2434 (lv_at hl 0 rfl) ?_
    refine lv_i2l (v := _) hx hb dL_law_2436 rfl ?_
    refine W.lcmp hx hb dL_law_2437 ?_
    refine lv_if_eq (tgt := 2443) hx hb dL_law_2438 (by decide) (fun _ => ?_) (fun c9 => absurd (by rw [show u2.2.1 = r2.toInt64 from k5]; exact lg_self _) c9)
    refine lv_goto (tgt := 2783) hx hb dL_law_2443 (by decide) ?_
    exact hfin _ (lv_sub hl [2, 3, 4, 5, 6, 7] rfl)
set_option maxHeartbeats 4000000 in
theorem lk_37 (hc : lB p l s m meth c b L xs D dA ad on cL cD aL aD) (hinv : nInv u.1 (u.1 3) n) (hn : n < 512) (hP : lpic D dA ad on cL cD aL aD u H) (hS : va_S (fun q => s.heap.size ≤ q) s.heap H locs) (hl : lv_has ls 9 [(5, .int (nI (7 * j))), (4, .ref aD), (3, .ref aL), (2, .ref (ad 3 30 0)), (1, .ref (ad 2 20 0)), (0, .ref b)]) (hj : 7 * j + 6 < L) (hL : L ≤ 3584) (hR : 12 ≤ R.frames ∧ 480 ≤ R.locals) (hf : cells + 6 ≤ R.cells ∧ slots + 36 ≤ R.slots) (hk : lKont p l e R s m below meth c b D dA ad on cL cD aL aD n j cells slots Q) : W p l e R s m #[Value.ref b] below meth c H locs cells slots Q (F0 m 2446 ls []) := by
  have hx := hc.1
  have hb := hc.2.1
  have hI := hc.2.2.2.2.2.2.2.2.1
  have hs := hc.2.2.2.2.2.2.2.2.2.1
  obtain ⟨hon0, hon1, hon2, hon3⟩ := hc.2.2.2.2.2.2.2.2.2.2.2.2.1
  have hfl := hc.2.2.2.2.2.2.2.2.2.2.2.2.2
  have hok := hinv.oOk
  have hd := hinv.dia
  have hT : nput (u.1 3) 30 0 0 0 = nput (u.1 3) 30 0 0 0 := rfl
  have hIE := hinv.E (TE hT)
  have hmok := hIE.mOk
  have hP0 : lpic D dA ad on cL cD aL aD (wdo u.1 0 (u.1 0), u.2.1, u.2.2) H := by rw [wdo_eta]; exact hP
  refine lv_aload_n hx hb dL_law_2446 rfl (lv_at hl 4 rfl) ?_
  refine lv_aload_n hx hb dL_law_2447 rfl (lv_at hl 5 rfl) ?_
  refine lv_iload hx hb dL_law_2448 (lv_at hl 0 rfl) ?_
  refine lv_iconst (v := nI 1) hx hb dL_law_2450 (by decide) ?_
  refine lv_iadd hx hb dL_law_2451 ?_
  refine b_sld hc hS (sc_in hj hL (by decide)) dL_law_2452 ?_
  refine lv_aload hx hb dL_law_2453 (lv_at hl 1 rfl) ?_
  refine b_L (lw_share (pp := (xs (nix (nI (7 * j) + nI 1)))) hfl hI hs hon0 hon1 hon2 hok hd) hc hP0 hS hl.1 q1041 q1042 q0 q1043 nok_L_share rfl ⟨by omega, by show 8 + (4 + 11) + 400 ≤ _; omega⟩ hf dL_law_2455 rfl (Nat.le_of_ble_eq_true rfl) (fun r u2 H locs hp hP hS => ?_)
  refine lv_istore (lv' := [(6, .int _), (5, .int _), (4, .ref _), (3, .ref _), (2, .ref _), (1, .ref _), (0, .ref _)]) hx hb dL_law_2458 hl (by decide) rfl (fun ls hl => ?_)
  have h3 : u2.1 3 = u.1 3 := by
    rcases hp with ⟨k, h1, h2, h3⟩ | ⟨v, X9, h1, h2, h3, h4⟩
    · rw [h3]; exact wdo_ne (by decide)
    · replace h1 := nG_inr (nG_inr h1)
      cases h1
      rw [h3]
      first | exact nEv3 | exact wdo_ne (by decide) | exact (wdo_ne (by decide)).trans (wdo_ne (by decide))
  have hP3 : lpic D dA ad on cL cD aL aD (wdo u2.1 3 (u.1 3), u2.2.1, u2.2.2) H := by rw [← h3, wdo_eta]; exact hP
  refine lv_aload_n hx hb dL_law_2460 rfl (lv_at hl 4 rfl) ?_
  refine lv_aload_n hx hb dL_law_2461 rfl (lv_at hl 6 rfl) ?_
  refine lv_iload hx hb dL_law_2462 (lv_at hl 1 rfl) ?_
  refine lv_iconst (v := nI 1) hx hb dL_law_2464 (by decide) ?_
  refine lv_iadd hx hb dL_law_2465 ?_
  refine b_sld hc hS (sc_in hj hL (by decide)) dL_law_2466 ?_
  refine b_Md (c_X10_share (x := (xs (nix (nI (7 * j) + nI 1)))) hI hon3 hT hmok fp_d) hc hP3 hS hl.1 (ngoodV q1472 q1473 q1474 q11 q1475) (b_rec10 hc hP3.1) ⟨rfl, rfl⟩ nok_X10_share rfl ⟨by show 9 + 1 ≤ _; omega, by show 8 + (3 + 11) + 360 ≤ _; omega⟩ ⟨by omega, by omega⟩ dL_law_2467 rfl (Nat.le_of_ble_eq_true rfl) (fun r2 X3 H locs hp9 hP hS => ?_)
  obtain ⟨hr9, hX9⟩ := hp9
  rw [hX9] at hP
  have hkey := l_keyD hinv (sim_share hinv hT rfl rfl) hp
  obtain ⟨k1, k2, n8, k3, k4⟩ := hkey
  rw [← hr9] at k2
  refine lv_dstore (lv' := [(7, .double _), (6, .int _), (5, .int _), (4, .ref _), (3, .ref _), (2, .ref _), (1, .ref _), (0, .ref _)]) hx hb dL_law_2470 hl (by decide) rfl (fun ls hl => ?_)
  refine lv_aload_n hx hb dL_law_2472 rfl (lv_at hl 5 rfl) ?_
  refine b_Mi (c_X10_thrown hI hon3) hc hP hS hl.1 (ngoodV q1207 q1208 q1209 q11 q1210) (b_rec10 hc hP.1) ⟨rfl, rfl⟩ nok_X10_thrown rfl ⟨by show 1 + 1 ≤ _; omega, by show 8 + (1 + 11) + 40 ≤ _; omega⟩ ⟨by omega, by omega⟩ dL_law_2473 rfl (Nat.le_of_ble_eq_true rfl) (fun r3 X4 H locs hp9 hP hS => ?_)
  obtain ⟨hr8, hX8⟩ := hp9
  rw [hX8] at hP
  rw [k1] at hr8
  refine lv_iload hx hb dL_law_2476 (lv_at hl 1 rfl) ?_
  refine lv_icmp_eq (tgt := 2483) hx hb dL_law_2478 (by decide) (fun _ => ?_) (fun c9 => absurd hr8 c9)
  have hfin : ∀ (ls : Array Slot), lv_has ls 9 [(5, .int (nI (7 * j))), (4, .ref aD), (3, .ref aL), (2, .ref (ad 3 30 0)), (1, .ref (ad 2 20 0)), (0, .ref b)] → W p l e R s m #[Value.ref b] below meth c H locs (cells + 6) (slots + 36) Q (F0 m 2783 ls []) := fun ls hl => hk (_, u2.2) n8 _ _ _ k3 (by show nInv (wdo u2.1 3 _) (wdo u2.1 3 _ 3) n8; rw [wdo_at]; exact k4) hP hS hl
  refine lv_iload hx hb dL_law_2483 (lv_at hl 1 rfl) ?_
  refine lv_if_ne (tgt := 2520) hx hb dL_law_2485 (by decide) (fun _ => ?_) (fun c8 => ?_)
  · skip
    refine lv_goto (tgt := 2783) hx hb dL_law_2520 (by decide) ?_
    exact hfin _ (lv_sub hl [2, 3, 4, 5, 6, 7] rfl)
  · have k5 := k2 c8
    refine lv_aload hx hb dL_law_2488 (lv_at hl 3 rfl) ?_
    refine lv_iconst (v := 0) hx hb dL_law_2490 (by decide) ?_
    refine b_dld hc hP dL_law_2491 ?_
    refine lv_dload hx hb dL_law_2492 (lv_at hl 0 rfl) ?_
    have k7 : u2.2.2 = r2 := k5
    refine lv_dcmp hx hb dL_law_2494 ?_
    refine lv_if_eq (tgt := 2520) hx hb dL_law_2495 (by decide) (fun _ => ?_) (fun c7 => ?_)
    · skip
      refine lv_goto (tgt := 2783) hx hb dL_law_2520 (by decide) ?_
      exact hfin _ (lv_sub hl [2, 3, 4, 5, 6, 7] rfl)
    · rw [k7] at c7
      refine lv_aload hx hb dL_law_2498 (lv_at hl 3 rfl) ?_
      refine lv_iconst (v := 0) hx hb dL_law_2500 (by decide) ?_
      refine b_dld hc hP dL_law_2501 ?_
      refine lv_aload hx hb dL_law_2502 (lv_at hl 3 rfl) ?_
      refine lv_iconst (v := 0) hx hb dL_law_2504 (by decide) ?_
      refine b_dld hc hP dL_law_2505 ?_
      refine lv_dcmp hx hb dL_law_2506 ?_
      refine lv_if_eq (tgt := 2518) hx hb dL_law_2507 (by decide) (fun c6 => absurd (by rw [k7] at c6; exact c6) c7) (fun _ => ?_)
      refine lv_dload hx hb dL_law_2510 (lv_at hl 0 rfl) ?_
      refine lv_dload hx hb dL_law_2512 (lv_at hl 0 rfl) ?_
      refine lv_dcmp hx hb dL_law_2514 ?_
      refine lv_if_ne (tgt := 2520) hx hb dL_law_2515 (by decide) (fun _ => ?_) (fun c5 => absurd c5 c7)
      refine lv_goto (tgt := 2783) hx hb dL_law_2520 (by decide) ?_
      exact hfin _ (lv_sub hl [2, 3, 4, 5, 6, 7] rfl)
set_option maxHeartbeats 4000000 in
theorem lk_38 (hc : lB p l s m meth c b L xs D dA ad on cL cD aL aD) (hinv : nInv u.1 (u.1 3) n) (hn : n < 512) (hP : lpic D dA ad on cL cD aL aD u H) (hS : va_S (fun q => s.heap.size ≤ q) s.heap H locs) (hl : lv_has ls 9 [(5, .int (nI (7 * j))), (4, .ref aD), (3, .ref aL), (2, .ref (ad 3 30 0)), (1, .ref (ad 2 20 0)), (0, .ref b)]) (hj : 7 * j + 6 < L) (hL : L ≤ 3584) (hR : 12 ≤ R.frames ∧ 480 ≤ R.locals) (hf : cells + 6 ≤ R.cells ∧ slots + 36 ≤ R.slots) (hk : lKont p l e R s m below meth c b D dA ad on cL cD aL aD n j cells slots Q) : W p l e R s m #[Value.ref b] below meth c H locs cells slots Q (F0 m 2523 ls []) := by
  have hx := hc.1
  have hb := hc.2.1
  have hI := hc.2.2.2.2.2.2.2.2.1
  have hs := hc.2.2.2.2.2.2.2.2.2.1
  obtain ⟨hon0, hon1, hon2, hon3⟩ := hc.2.2.2.2.2.2.2.2.2.2.2.2.1
  have hfl := hc.2.2.2.2.2.2.2.2.2.2.2.2.2
  have hok := hinv.oOk
  have hd := hinv.dia
  have hT : nput (u.1 3) 30 0 0 0 = nput (u.1 3) 30 0 0 0 := rfl
  have hIE := hinv.E (TE hT)
  have hmok := hIE.mOk
  have hP0 : lpic D dA ad on cL cD aL aD (wdo u.1 0 (u.1 0), u.2.1, u.2.2) H := by rw [wdo_eta]; exact hP
  refine lv_aload_n hx hb dL_law_2523 rfl (lv_at hl 4 rfl) ?_
  refine lv_aload_n hx hb dL_law_2524 rfl (lv_at hl 5 rfl) ?_
  refine lv_iload hx hb dL_law_2525 (lv_at hl 0 rfl) ?_
  refine lv_iconst (v := nI 1) hx hb dL_law_2527 (by decide) ?_
  refine lv_iadd hx hb dL_law_2528 ?_
  refine b_sld hc hS (sc_in hj hL (by decide)) dL_law_2529 ?_
  refine lv_aload_n hx hb dL_law_2530 rfl (lv_at hl 2 rfl) ?_
  refine b_L (lw_winner (a := (xs (nix (nI (7 * j) + nI 1)))) hfl hI hs hon0 hon1 hon2 hok hd) hc hP0 hS hl.1 q1066 q1067 q0 q1068 nok_L_winner rfl ⟨by omega, by show 8 + (4 + 11) + 400 ≤ _; omega⟩ hf dL_law_2531 rfl (Nat.le_of_ble_eq_true rfl) (fun r u2 H locs hp hP hS => ?_)
  refine lv_istore (lv' := [(6, .int _), (5, .int _), (4, .ref _), (3, .ref _), (2, .ref _), (1, .ref _), (0, .ref _)]) hx hb dL_law_2534 hl (by decide) rfl (fun ls hl => ?_)
  have h3 : u2.1 3 = u.1 3 := by
    rcases hp with ⟨k, h1, h2, h3⟩ | ⟨v, X9, h1, h2, h3, h4⟩
    · rw [h3]; exact wdo_ne (by decide)
    · replace h1 := nG_inr (nG_inr (nG_inr h1))
      cases h1
      rw [h3]
      first | exact nEv3 | exact wdo_ne (by decide) | exact (wdo_ne (by decide)).trans (wdo_ne (by decide))
  have hP3 : lpic D dA ad on cL cD aL aD (wdo u2.1 3 (u.1 3), u2.2.1, u2.2.2) H := by rw [← h3, wdo_eta]; exact hP
  refine lv_aload_n hx hb dL_law_2536 rfl (lv_at hl 4 rfl) ?_
  refine lv_aload_n hx hb dL_law_2537 rfl (lv_at hl 6 rfl) ?_
  refine lv_iload hx hb dL_law_2538 (lv_at hl 1 rfl) ?_
  refine lv_iconst (v := nI 1) hx hb dL_law_2540 (by decide) ?_
  refine lv_iadd hx hb dL_law_2541 ?_
  refine b_sld hc hS (sc_in hj hL (by decide)) dL_law_2542 ?_
  refine b_Mi (c_X10_winner (a := (xs (nix (nI (7 * j) + nI 1)))) hI hon3 hT hmok) hc hP3 hS hl.1 (ngoodV q1476 q1477 q1478 q11 q1479) (b_rec10 hc hP3.1) ⟨rfl, rfl⟩ nok_X10_winner rfl ⟨by show 9 + 1 ≤ _; omega, by show 8 + (4 + 11) + 360 ≤ _; omega⟩ ⟨by omega, by omega⟩ dL_law_2543 rfl (Nat.le_of_ble_eq_true rfl) (fun r2 X3 H locs hp9 hP hS => ?_)
  obtain ⟨U, hU, hr9, hX9⟩ := hp9
  rw [hX9] at hP
  have hkey := l_key hinv (sim_winner hinv hT rfl rfl rfl hU) hp
  obtain ⟨k1, k2, n8, k3, k4⟩ := hkey
  rw [← hr9] at k2
  refine lv_istore (lv' := [(7, .int _), (6, .int _), (5, .int _), (4, .ref _), (3, .ref _), (2, .ref _), (1, .ref _), (0, .ref _)]) hx hb dL_law_2546 hl (by decide) rfl (fun ls hl => ?_)
  refine lv_aload_n hx hb dL_law_2548 rfl (lv_at hl 5 rfl) ?_
  refine b_Mi (c_X10_thrown hI hon3) hc hP hS hl.1 (ngoodV q1207 q1208 q1209 q11 q1210) (b_rec10 hc hP.1) ⟨rfl, rfl⟩ nok_X10_thrown rfl ⟨by show 1 + 1 ≤ _; omega, by show 8 + (1 + 11) + 40 ≤ _; omega⟩ ⟨by omega, by omega⟩ dL_law_2549 rfl (Nat.le_of_ble_eq_true rfl) (fun r3 X4 H locs hp9 hP hS => ?_)
  obtain ⟨hr8, hX8⟩ := hp9
  rw [hX8] at hP
  rw [k1] at hr8
  refine lv_iload hx hb dL_law_2552 (lv_at hl 1 rfl) ?_
  refine lv_icmp_eq (tgt := 2559) hx hb dL_law_2554 (by decide) (fun _ => ?_) (fun c9 => absurd hr8 c9)
  have hfin : ∀ (ls : Array Slot), lv_has ls 9 [(5, .int (nI (7 * j))), (4, .ref aD), (3, .ref aL), (2, .ref (ad 3 30 0)), (1, .ref (ad 2 20 0)), (0, .ref b)] → W p l e R s m #[Value.ref b] below meth c H locs (cells + 6) (slots + 36) Q (F0 m 2783 ls []) := fun ls hl => hk (_, u2.2) n8 _ _ _ k3 (by show nInv (wdo u2.1 3 _) (wdo u2.1 3 _ 3) n8; rw [wdo_at]; exact k4) hP hS hl
  refine lv_iload hx hb dL_law_2559 (lv_at hl 1 rfl) ?_
  refine lv_if_ne (tgt := 2576) hx hb dL_law_2561 (by decide) (fun _ => ?_) (fun c8 => ?_)
  · skip
    refine lv_goto (tgt := 2783) hx hb dL_law_2576 (by decide) ?_
    exact hfin _ (lv_sub hl [2, 3, 4, 5, 6, 7] rfl)
  · have k5 := k2 c8
    refine lv_aload_n hx hb dL_law_2564 rfl (lv_at hl 4 rfl) ?_
    refine lv_iconst (v := 0) hx hb dL_law_2565 (by decide) ?_
    refine b_lld hc hP dL_law_2566 ?_
    refine lv_iload hx hb dL_law_2567 (lv_at hl 0 rfl) ?_
    refine lv_i2l (v := _) hx hb dL_law_2569 rfl ?_
    refine W.lcmp hx hb dL_law_2570 ?_
    refine lv_if_eq (tgt := 2576) hx hb dL_law_2571 (by decide) (fun _ => ?_) (fun c9 => absurd (by rw [show u2.2.1 = r2.toInt64 from k5]; exact lg_self _) c9)
    refine lv_goto (tgt := 2783) hx hb dL_law_2576 (by decide) ?_
    exact hfin _ (lv_sub hl [2, 3, 4, 5, 6, 7] rfl)
set_option maxHeartbeats 4000000 in
theorem lk_39 (hc : lB p l s m meth c b L xs D dA ad on cL cD aL aD) (hinv : nInv u.1 (u.1 3) n) (hn : n < 512) (hP : lpic D dA ad on cL cD aL aD u H) (hS : va_S (fun q => s.heap.size ≤ q) s.heap H locs) (hl : lv_has ls 9 [(5, .int (nI (7 * j))), (4, .ref aD), (3, .ref aL), (2, .ref (ad 3 30 0)), (1, .ref (ad 2 20 0)), (0, .ref b)]) (hj : 7 * j + 6 < L) (hL : L ≤ 3584) (hR : 12 ≤ R.frames ∧ 480 ≤ R.locals) (hf : cells + 6 ≤ R.cells ∧ slots + 36 ≤ R.slots) (hk : lKont p l e R s m below meth c b D dA ad on cL cD aL aD n j cells slots Q) : W p l e R s m #[Value.ref b] below meth c H locs cells slots Q (F0 m 2579 ls []) := by
  have hx := hc.1
  have hb := hc.2.1
  have hI := hc.2.2.2.2.2.2.2.2.1
  have hs := hc.2.2.2.2.2.2.2.2.2.1
  obtain ⟨hon0, hon1, hon2, hon3⟩ := hc.2.2.2.2.2.2.2.2.2.2.2.2.1
  have hfl := hc.2.2.2.2.2.2.2.2.2.2.2.2.2
  have hok := hinv.oOk
  have hd := hinv.dia
  have hT : nput (u.1 3) 30 0 0 0 = nput (u.1 3) 30 0 0 0 := rfl
  have hIE := hinv.E (TE hT)
  have hmok := hIE.mOk
  have hP0 : lpic D dA ad on cL cD aL aD (wdo u.1 0 (u.1 0), u.2.1, u.2.2) H := by rw [wdo_eta]; exact hP
  refine lv_aload_n hx hb dL_law_2579 rfl (lv_at hl 4 rfl) ?_
  refine lv_aload_n hx hb dL_law_2580 rfl (lv_at hl 5 rfl) ?_
  refine lv_iload hx hb dL_law_2581 (lv_at hl 0 rfl) ?_
  refine lv_iconst (v := nI 1) hx hb dL_law_2583 (by decide) ?_
  refine lv_iadd hx hb dL_law_2584 ?_
  refine b_sld hc hS (sc_in hj hL (by decide)) dL_law_2585 ?_
  refine lv_aload_n hx hb dL_law_2586 rfl (lv_at hl 2 rfl) ?_
  refine b_L (lw_deposit (pp := (xs (nix (nI (7 * j) + nI 1)))) hfl hI hs hon0 hon1 hon2 hok hd) hc hP0 hS hl.1 q1079 q1080 q0 q1081 nok_L_deposit rfl ⟨by omega, by show 8 + (4 + 11) + 400 ≤ _; omega⟩ hf dL_law_2587 rfl (Nat.le_of_ble_eq_true rfl) (fun r u2 H locs hp hP hS => ?_)
  refine lv_istore (lv' := [(6, .int _), (5, .int _), (4, .ref _), (3, .ref _), (2, .ref _), (1, .ref _), (0, .ref _)]) hx hb dL_law_2590 hl (by decide) rfl (fun ls hl => ?_)
  have h3 : u2.1 3 = u.1 3 := by
    rcases hp with ⟨k, h1, h2, h3⟩ | ⟨v, X9, h1, h2, h3, h4⟩
    · rw [h3]; exact wdo_ne (by decide)
    · replace h1 := nG_inr h1
      cases h1
      rw [h3]
      first | exact nEv3 | exact wdo_ne (by decide) | exact (wdo_ne (by decide)).trans (wdo_ne (by decide))
  have hP3 : lpic D dA ad on cL cD aL aD (wdo u2.1 3 (u.1 3), u2.2.1, u2.2.2) H := by rw [← h3, wdo_eta]; exact hP
  refine lv_aload_n hx hb dL_law_2592 rfl (lv_at hl 4 rfl) ?_
  refine lv_aload_n hx hb dL_law_2593 rfl (lv_at hl 6 rfl) ?_
  refine lv_iload hx hb dL_law_2594 (lv_at hl 1 rfl) ?_
  refine lv_iconst (v := nI 1) hx hb dL_law_2596 (by decide) ?_
  refine lv_iadd hx hb dL_law_2597 ?_
  refine b_sld hc hS (sc_in hj hL (by decide)) dL_law_2598 ?_
  refine b_Mi (c_X10_deposit (x := (xs (nix (nI (7 * j) + nI 1)))) hI hon3 hT hmok) hc hP3 hS hl.1 (ngoodV q1480 q1481 q1482 q11 q1483) (b_rec10 hc hP3.1) ⟨rfl, rfl⟩ nok_X10_deposit rfl ⟨by show 9 + 1 ≤ _; omega, by show 8 + (2 + 11) + 360 ≤ _; omega⟩ ⟨by omega, by omega⟩ dL_law_2599 rfl (Nat.le_of_ble_eq_true rfl) (fun r2 X3 H locs hp9 hP hS => ?_)
  obtain ⟨hr9, hX9⟩ := hp9
  rw [hX9] at hP
  have hkey := l_key hinv (sim_deposit hinv hT rfl) hp
  obtain ⟨k1, k2, n8, k3, k4⟩ := hkey
  rw [← hr9] at k2
  refine lv_istore (lv' := [(7, .int _), (6, .int _), (5, .int _), (4, .ref _), (3, .ref _), (2, .ref _), (1, .ref _), (0, .ref _)]) hx hb dL_law_2602 hl (by decide) rfl (fun ls hl => ?_)
  refine lv_aload_n hx hb dL_law_2604 rfl (lv_at hl 5 rfl) ?_
  refine b_Mi (c_X10_thrown hI hon3) hc hP hS hl.1 (ngoodV q1207 q1208 q1209 q11 q1210) (b_rec10 hc hP.1) ⟨rfl, rfl⟩ nok_X10_thrown rfl ⟨by show 1 + 1 ≤ _; omega, by show 8 + (1 + 11) + 40 ≤ _; omega⟩ ⟨by omega, by omega⟩ dL_law_2605 rfl (Nat.le_of_ble_eq_true rfl) (fun r3 X4 H locs hp9 hP hS => ?_)
  obtain ⟨hr8, hX8⟩ := hp9
  rw [hX8] at hP
  rw [k1] at hr8
  refine lv_iload hx hb dL_law_2608 (lv_at hl 1 rfl) ?_
  refine lv_icmp_eq (tgt := 2615) hx hb dL_law_2610 (by decide) (fun _ => ?_) (fun c9 => absurd hr8 c9)
  have hfin : ∀ (ls : Array Slot), lv_has ls 9 [(5, .int (nI (7 * j))), (4, .ref aD), (3, .ref aL), (2, .ref (ad 3 30 0)), (1, .ref (ad 2 20 0)), (0, .ref b)] → W p l e R s m #[Value.ref b] below meth c H locs (cells + 6) (slots + 36) Q (F0 m 2783 ls []) := fun ls hl => hk (_, u2.2) n8 _ _ _ k3 (by show nInv (wdo u2.1 3 _) (wdo u2.1 3 _ 3) n8; rw [wdo_at]; exact k4) hP hS hl
  refine lv_iload hx hb dL_law_2615 (lv_at hl 1 rfl) ?_
  refine lv_if_ne (tgt := 2632) hx hb dL_law_2617 (by decide) (fun _ => ?_) (fun c8 => ?_)
  · skip
    refine lv_goto (tgt := 2783) hx hb dL_law_2632 (by decide) ?_
    exact hfin _ (lv_sub hl [2, 3, 4, 5, 6, 7] rfl)
  · have k5 := k2 c8
    refine lv_aload_n hx hb dL_law_2620 rfl (lv_at hl 4 rfl) ?_
    refine lv_iconst (v := 0) hx hb dL_law_2621 (by decide) ?_
    refine b_lld hc hP dL_law_2622 ?_
    refine lv_iload hx hb dL_law_2623 (lv_at hl 0 rfl) ?_
    refine lv_i2l (v := _) hx hb dL_law_2625 rfl ?_
    refine W.lcmp hx hb dL_law_2626 ?_
    refine lv_if_eq (tgt := 2632) hx hb dL_law_2627 (by decide) (fun _ => ?_) (fun c9 => absurd (by rw [show u2.2.1 = r2.toInt64 from k5]; exact lg_self _) c9)
    refine lv_goto (tgt := 2783) hx hb dL_law_2632 (by decide) ?_
    exact hfin _ (lv_sub hl [2, 3, 4, 5, 6, 7] rfl)
set_option maxHeartbeats 4000000 in
theorem lk_40 (hc : lB p l s m meth c b L xs D dA ad on cL cD aL aD) (hinv : nInv u.1 (u.1 3) n) (hn : n < 512) (hP : lpic D dA ad on cL cD aL aD u H) (hS : va_S (fun q => s.heap.size ≤ q) s.heap H locs) (hl : lv_has ls 9 [(5, .int (nI (7 * j))), (4, .ref aD), (3, .ref aL), (2, .ref (ad 3 30 0)), (1, .ref (ad 2 20 0)), (0, .ref b)]) (hj : 7 * j + 6 < L) (hL : L ≤ 3584) (hR : 12 ≤ R.frames ∧ 480 ≤ R.locals) (hf : cells + 6 ≤ R.cells ∧ slots + 36 ≤ R.slots) (hk : lKont p l e R s m below meth c b D dA ad on cL cD aL aD n j cells slots Q) : W p l e R s m #[Value.ref b] below meth c H locs cells slots Q (F0 m 2635 ls []) := by
  have hx := hc.1
  have hb := hc.2.1
  have hI := hc.2.2.2.2.2.2.2.2.1
  have hs := hc.2.2.2.2.2.2.2.2.2.1
  obtain ⟨hon0, hon1, hon2, hon3⟩ := hc.2.2.2.2.2.2.2.2.2.2.2.2.1
  have hfl := hc.2.2.2.2.2.2.2.2.2.2.2.2.2
  have hok := hinv.oOk
  have hd := hinv.dia
  have hT : nput (u.1 3) 30 0 0 0 = nput (u.1 3) 30 0 0 0 := rfl
  have hIE := hinv.E (TE hT)
  have hmok := hIE.mOk
  have hP0 : lpic D dA ad on cL cD aL aD (wdo u.1 0 (u.1 0), u.2.1, u.2.2) H := by rw [wdo_eta]; exact hP
  refine lv_aload_n hx hb dL_law_2635 rfl (lv_at hl 4 rfl) ?_
  refine lv_aload_n hx hb dL_law_2636 rfl (lv_at hl 5 rfl) ?_
  refine lv_iload hx hb dL_law_2637 (lv_at hl 0 rfl) ?_
  refine lv_iconst (v := nI 1) hx hb dL_law_2639 (by decide) ?_
  refine lv_iadd hx hb dL_law_2640 ?_
  refine b_sld hc hS (sc_in hj hL (by decide)) dL_law_2641 ?_
  refine lv_aload_n hx hb dL_law_2642 rfl (lv_at hl 2 rfl) ?_
  refine b_L (lw_paid (pp := (xs (nix (nI (7 * j) + nI 1)))) hfl hI hs hon0 hon1 hon2 hok hd) hc hP0 hS hl.1 q1087 q1088 q0 q1089 nok_L_paid rfl ⟨by omega, by show 8 + (4 + 11) + 400 ≤ _; omega⟩ hf dL_law_2643 rfl (Nat.le_of_ble_eq_true rfl) (fun r u2 H locs hp hP hS => ?_)
  refine lv_istore (lv' := [(6, .int _), (5, .int _), (4, .ref _), (3, .ref _), (2, .ref _), (1, .ref _), (0, .ref _)]) hx hb dL_law_2646 hl (by decide) rfl (fun ls hl => ?_)
  have h3 : u2.1 3 = u.1 3 := by
    rcases hp with ⟨k, h1, h2, h3⟩ | ⟨v, X9, h1, h2, h3, h4⟩
    · rw [h3]; exact wdo_ne (by decide)
    · replace h1 := nG_inr h1
      cases h1
      rw [h3]
      first | exact nEv3 | exact wdo_ne (by decide) | exact (wdo_ne (by decide)).trans (wdo_ne (by decide))
  have hP3 : lpic D dA ad on cL cD aL aD (wdo u2.1 3 (u.1 3), u2.2.1, u2.2.2) H := by rw [← h3, wdo_eta]; exact hP
  refine lv_aload_n hx hb dL_law_2648 rfl (lv_at hl 4 rfl) ?_
  refine lv_aload_n hx hb dL_law_2649 rfl (lv_at hl 6 rfl) ?_
  refine lv_iload hx hb dL_law_2650 (lv_at hl 1 rfl) ?_
  refine lv_iconst (v := nI 1) hx hb dL_law_2652 (by decide) ?_
  refine lv_iadd hx hb dL_law_2653 ?_
  refine b_sld hc hS (sc_in hj hL (by decide)) dL_law_2654 ?_
  refine b_Mi (c_X10_paid (x := (xs (nix (nI (7 * j) + nI 1)))) hI hon3 hT hmok) hc hP3 hS hl.1 (ngoodV q1484 q1485 q1486 q11 q1487) (b_rec10 hc hP3.1) ⟨rfl, rfl⟩ nok_X10_paid rfl ⟨by show 9 + 1 ≤ _; omega, by show 8 + (2 + 11) + 360 ≤ _; omega⟩ ⟨by omega, by omega⟩ dL_law_2655 rfl (Nat.le_of_ble_eq_true rfl) (fun r2 X3 H locs hp9 hP hS => ?_)
  obtain ⟨hr9, hX9⟩ := hp9
  rw [hX9] at hP
  have hkey := l_key hinv (sim_paid hinv hT rfl) hp
  obtain ⟨k1, k2, n8, k3, k4⟩ := hkey
  rw [← hr9] at k2
  refine lv_istore (lv' := [(7, .int _), (6, .int _), (5, .int _), (4, .ref _), (3, .ref _), (2, .ref _), (1, .ref _), (0, .ref _)]) hx hb dL_law_2658 hl (by decide) rfl (fun ls hl => ?_)
  refine lv_aload_n hx hb dL_law_2660 rfl (lv_at hl 5 rfl) ?_
  refine b_Mi (c_X10_thrown hI hon3) hc hP hS hl.1 (ngoodV q1207 q1208 q1209 q11 q1210) (b_rec10 hc hP.1) ⟨rfl, rfl⟩ nok_X10_thrown rfl ⟨by show 1 + 1 ≤ _; omega, by show 8 + (1 + 11) + 40 ≤ _; omega⟩ ⟨by omega, by omega⟩ dL_law_2661 rfl (Nat.le_of_ble_eq_true rfl) (fun r3 X4 H locs hp9 hP hS => ?_)
  obtain ⟨hr8, hX8⟩ := hp9
  rw [hX8] at hP
  rw [k1] at hr8
  refine lv_iload hx hb dL_law_2664 (lv_at hl 1 rfl) ?_
  refine lv_icmp_eq (tgt := 2671) hx hb dL_law_2666 (by decide) (fun _ => ?_) (fun c9 => absurd hr8 c9)
  have hfin : ∀ (ls : Array Slot), lv_has ls 9 [(5, .int (nI (7 * j))), (4, .ref aD), (3, .ref aL), (2, .ref (ad 3 30 0)), (1, .ref (ad 2 20 0)), (0, .ref b)] → W p l e R s m #[Value.ref b] below meth c H locs (cells + 6) (slots + 36) Q (F0 m 2783 ls []) := fun ls hl => hk (_, u2.2) n8 _ _ _ k3 (by show nInv (wdo u2.1 3 _) (wdo u2.1 3 _ 3) n8; rw [wdo_at]; exact k4) hP hS hl
  refine lv_iload hx hb dL_law_2671 (lv_at hl 1 rfl) ?_
  refine lv_if_ne (tgt := 2688) hx hb dL_law_2673 (by decide) (fun _ => ?_) (fun c8 => ?_)
  · skip
    refine lv_goto (tgt := 2783) hx hb dL_law_2688 (by decide) ?_
    exact hfin _ (lv_sub hl [2, 3, 4, 5, 6, 7] rfl)
  · have k5 := k2 c8
    refine lv_aload_n hx hb dL_law_2676 rfl (lv_at hl 4 rfl) ?_
    refine lv_iconst (v := 0) hx hb dL_law_2677 (by decide) ?_
    refine b_lld hc hP dL_law_2678 ?_
    refine lv_iload hx hb dL_law_2679 (lv_at hl 0 rfl) ?_
    refine lv_i2l (v := _) hx hb dL_law_2681 rfl ?_
    refine W.lcmp hx hb dL_law_2682 ?_
    refine lv_if_eq (tgt := 2688) hx hb dL_law_2683 (by decide) (fun _ => ?_) (fun c9 => absurd (by rw [show u2.2.1 = r2.toInt64 from k5]; exact lg_self _) c9)
    refine lv_goto (tgt := 2783) hx hb dL_law_2688 (by decide) ?_
    exact hfin _ (lv_sub hl [2, 3, 4, 5, 6, 7] rfl)
set_option maxHeartbeats 4000000 in
theorem lk_41 (hc : lB p l s m meth c b L xs D dA ad on cL cD aL aD) (hinv : nInv u.1 (u.1 3) n) (hn : n < 512) (hP : lpic D dA ad on cL cD aL aD u H) (hS : va_S (fun q => s.heap.size ≤ q) s.heap H locs) (hl : lv_has ls 9 [(5, .int (nI (7 * j))), (4, .ref aD), (3, .ref aL), (2, .ref (ad 3 30 0)), (1, .ref (ad 2 20 0)), (0, .ref b)]) (hj : 7 * j + 6 < L) (hL : L ≤ 3584) (hR : 12 ≤ R.frames ∧ 480 ≤ R.locals) (hf : cells + 6 ≤ R.cells ∧ slots + 36 ≤ R.slots) (hk : lKont p l e R s m below meth c b D dA ad on cL cD aL aD n j cells slots Q) : W p l e R s m #[Value.ref b] below meth c H locs cells slots Q (F0 m 2691 ls []) := by
  have hx := hc.1
  have hb := hc.2.1
  have hI := hc.2.2.2.2.2.2.2.2.1
  have hs := hc.2.2.2.2.2.2.2.2.2.1
  obtain ⟨hon0, hon1, hon2, hon3⟩ := hc.2.2.2.2.2.2.2.2.2.2.2.2.1
  have hfl := hc.2.2.2.2.2.2.2.2.2.2.2.2.2
  have hok := hinv.oOk
  have hd := hinv.dia
  have hT : nput (u.1 3) 30 0 0 0 = nput (u.1 3) 30 0 0 0 := rfl
  have hIE := hinv.E (TE hT)
  have hmok := hIE.mOk
  have hP0 : lpic D dA ad on cL cD aL aD (wdo u.1 0 (u.1 0), u.2.1, u.2.2) H := by rw [wdo_eta]; exact hP
  refine lv_aload_n hx hb dL_law_2691 rfl (lv_at hl 4 rfl) ?_
  refine b_Xi (c_X9_sumHeld (S := u.1 0) hfl hI hon0 hon1 hon2 hok hd) (fun k z => by cases z) hc hP0 hS hl.1 (ngoodV q346 q347 q348 q1 q349) (b_rec9 hc hP0.1) nok_X9_sumHeld rfl ⟨by omega, by omega⟩ hf dL_law_2692 rfl (Nat.le_of_ble_eq_true rfl) (fun r X2 H locs hp hP hS => ?_)
  cases hp
  rw [wdo_eta] at hP
  refine lv_aload_n hx hb dL_law_2695 rfl (lv_at hl 3 rfl) ?_
  have hP3 : lpic D dA ad on cL cD aL aD (wdo u.1 3 (u.1 3), u.2.1, u.2.2) H := by rw [wdo_eta]; exact hP
  refine b_Mi (c_X10_sumHeld hI hon3 hT hmok) hc hP3 hS hl.1 (ngoodV q1488 q1489 q1490 q11 q1491) (b_rec10 hc hP3.1) ⟨rfl, rfl⟩ nok_X10_sumHeld rfl ⟨by show 9 + 1 ≤ _; omega, by show 8 + (1 + 11) + 360 ≤ _; omega⟩ ⟨by omega, by omega⟩ dL_law_2696 rfl (Nat.le_of_ble_eq_true rfl) (fun r2 X3 H locs hp hP hS => ?_)
  obtain ⟨hr9, hX9⟩ := hp
  rw [hX9] at hP
  have hs9 := sim_sumHeld (hc := fun _ => 1) hinv hT
  obtain ⟨-, a2, n9, a3, a4⟩ := hs9.2 _ _ rfl
  rw [wdo_eta] at a4
  refine lv_icmp_eq (tgt := 2783) hx hb dL_law_2699 (by decide) (fun _ => ?_) (fun c9 => absurd (a2.symm.trans hr9.symm) c9)
  exact hk (_, u.2) n9 _ _ _ a3 (by show nInv (wdo u.1 3 _) (wdo u.1 3 _ 3) n9; rw [wdo_at]; exact a4.w3) hP hS hl
set_option maxHeartbeats 4000000 in
theorem lk_42 (hc : lB p l s m meth c b L xs D dA ad on cL cD aL aD) (hinv : nInv u.1 (u.1 3) n) (hn : n < 512) (hP : lpic D dA ad on cL cD aL aD u H) (hS : va_S (fun q => s.heap.size ≤ q) s.heap H locs) (hl : lv_has ls 9 [(5, .int (nI (7 * j))), (4, .ref aD), (3, .ref aL), (2, .ref (ad 3 30 0)), (1, .ref (ad 2 20 0)), (0, .ref b)]) (hj : 7 * j + 6 < L) (hL : L ≤ 3584) (hR : 12 ≤ R.frames ∧ 480 ≤ R.locals) (hf : cells + 6 ≤ R.cells ∧ slots + 36 ≤ R.slots) (hk : lKont p l e R s m below meth c b D dA ad on cL cD aL aD n j cells slots Q) : W p l e R s m #[Value.ref b] below meth c H locs cells slots Q (F0 m 2704 ls []) := by
  have hx := hc.1
  have hb := hc.2.1
  have hI := hc.2.2.2.2.2.2.2.2.1
  have hs := hc.2.2.2.2.2.2.2.2.2.1
  obtain ⟨hon0, hon1, hon2, hon3⟩ := hc.2.2.2.2.2.2.2.2.2.2.2.2.1
  have hfl := hc.2.2.2.2.2.2.2.2.2.2.2.2.2
  have hok := hinv.oOk
  have hd := hinv.dia
  have hT : nput (u.1 3) 30 0 0 0 = nput (u.1 3) 30 0 0 0 := rfl
  have hIE := hinv.E (TE hT)
  have hmok := hIE.mOk
  have hP0 : lpic D dA ad on cL cD aL aD (wdo u.1 0 (u.1 0), u.2.1, u.2.2) H := by rw [wdo_eta]; exact hP
  refine lv_aload_n hx hb dL_law_2704 rfl (lv_at hl 4 rfl) ?_
  refine b_Xi (c_X9_sumLost (S := u.1 0) hfl hI hon0 hon1 hon2 hok hd) (fun k z => by cases z) hc hP0 hS hl.1 (ngoodV q379 q380 q381 q1 q382) (b_rec9 hc hP0.1) nok_X9_sumLost rfl ⟨by omega, by omega⟩ hf dL_law_2705 rfl (Nat.le_of_ble_eq_true rfl) (fun r X2 H locs hp hP hS => ?_)
  cases hp
  rw [wdo_eta] at hP
  refine lv_aload_n hx hb dL_law_2708 rfl (lv_at hl 3 rfl) ?_
  have hP3 : lpic D dA ad on cL cD aL aD (wdo u.1 3 (u.1 3), u.2.1, u.2.2) H := by rw [wdo_eta]; exact hP
  refine b_Mi (c_X10_sumLost hI hon3 hT hmok) hc hP3 hS hl.1 (ngoodV q1496 q1497 q1498 q11 q1499) (b_rec10 hc hP3.1) ⟨rfl, rfl⟩ nok_X10_sumLost rfl ⟨by show 9 + 1 ≤ _; omega, by show 8 + (1 + 11) + 360 ≤ _; omega⟩ ⟨by omega, by omega⟩ dL_law_2709 rfl (Nat.le_of_ble_eq_true rfl) (fun r2 X3 H locs hp hP hS => ?_)
  obtain ⟨hr9, hX9⟩ := hp
  rw [hX9] at hP
  have hs9 := sim_sumLost (hc := fun _ => 1) hinv hT
  obtain ⟨-, a2, n9, a3, a4⟩ := hs9.2 _ _ rfl
  rw [wdo_eta] at a4
  refine lv_icmp_eq (tgt := 2783) hx hb dL_law_2712 (by decide) (fun _ => ?_) (fun c9 => absurd (a2.symm.trans hr9.symm) c9)
  exact hk (_, u.2) n9 _ _ _ a3 (by show nInv (wdo u.1 3 _) (wdo u.1 3 _ 3) n9; rw [wdo_at]; exact a4.w3) hP hS hl
set_option maxHeartbeats 4000000 in
theorem lk_43 (hc : lB p l s m meth c b L xs D dA ad on cL cD aL aD) (hinv : nInv u.1 (u.1 3) n) (hn : n < 512) (hP : lpic D dA ad on cL cD aL aD u H) (hS : va_S (fun q => s.heap.size ≤ q) s.heap H locs) (hl : lv_has ls 9 [(5, .int (nI (7 * j))), (4, .ref aD), (3, .ref aL), (2, .ref (ad 3 30 0)), (1, .ref (ad 2 20 0)), (0, .ref b)]) (hj : 7 * j + 6 < L) (hL : L ≤ 3584) (hR : 12 ≤ R.frames ∧ 480 ≤ R.locals) (hf : cells + 6 ≤ R.cells ∧ slots + 36 ≤ R.slots) (hk : lKont p l e R s m below meth c b D dA ad on cL cD aL aD n j cells slots Q) : W p l e R s m #[Value.ref b] below meth c H locs cells slots Q (F0 m 2717 ls []) := by
  have hx := hc.1
  have hb := hc.2.1
  have hI := hc.2.2.2.2.2.2.2.2.1
  have hs := hc.2.2.2.2.2.2.2.2.2.1
  obtain ⟨hon0, hon1, hon2, hon3⟩ := hc.2.2.2.2.2.2.2.2.2.2.2.2.1
  have hfl := hc.2.2.2.2.2.2.2.2.2.2.2.2.2
  have hok := hinv.oOk
  have hd := hinv.dia
  have hT : nput (u.1 3) 30 0 0 0 = nput (u.1 3) 30 0 0 0 := rfl
  have hIE := hinv.E (TE hT)
  have hmok := hIE.mOk
  have hP0 : lpic D dA ad on cL cD aL aD (wdo u.1 0 (u.1 0), u.2.1, u.2.2) H := by rw [wdo_eta]; exact hP
  refine lv_aload_n hx hb dL_law_2717 rfl (lv_at hl 4 rfl) ?_
  refine lv_aload hx hb dL_law_2718 (lv_at hl 1 rfl) ?_
  refine b_L (lw_lostShare hfl hI hs hon0 hon1 hon2 hok hd) hc hP0 hS hl.1 q1094 q1095 q0 q1096 nok_L_lostShare rfl ⟨by omega, by show 8 + (3 + 11) + 400 ≤ _; omega⟩ hf dL_law_2720 rfl (Nat.le_of_ble_eq_true rfl) (fun r u2 H locs hp hP hS => ?_)
  refine lv_istore (lv' := [(6, .int _), (5, .int _), (4, .ref _), (3, .ref _), (2, .ref _), (1, .ref _), (0, .ref _)]) hx hb dL_law_2723 hl (by decide) rfl (fun ls hl => ?_)
  have h3 : u2.1 3 = u.1 3 := by
    rcases hp with ⟨k, h1, h2, h3⟩ | ⟨v, X9, h1, h2, h3, h4⟩
    · rw [h3]; exact wdo_ne (by decide)
    · replace h1 := nG_inr h1
      cases h1
      rw [h3]
      first | exact nEv3 | exact wdo_ne (by decide) | exact (wdo_ne (by decide)).trans (wdo_ne (by decide))
  have hP3 : lpic D dA ad on cL cD aL aD (wdo u2.1 3 (u.1 3), u2.2.1, u2.2.2) H := by rw [← h3, wdo_eta]; exact hP
  refine lv_aload_n hx hb dL_law_2725 rfl (lv_at hl 4 rfl) ?_
  refine b_Mf (c_X10_lostShare hI hon3 hT hmok fp_f) hc hP3 hS hl.1 (ngoodV q1500 q1501 q1502 q11 q1503) (b_rec10 hc hP3.1) ⟨rfl, rfl⟩ nok_X10_lostShare rfl ⟨by show 9 + 1 ≤ _; omega, by show 8 + (2 + 11) + 360 ≤ _; omega⟩ ⟨by omega, by omega⟩ dL_law_2726 rfl (Nat.le_of_ble_eq_true rfl) (fun r2 X3 H locs hp9 hP hS => ?_)
  obtain ⟨hr9, hX9⟩ := hp9
  rw [hX9] at hP
  have hkey := l_keyF hinv (sim_lostShare hinv hT rfl) hp
  obtain ⟨k1, k2, n8, k3, k4⟩ := hkey
  rw [← hr9] at k2
  refine lv_fstore (lv' := [(7, .float _), (6, .int _), (5, .int _), (4, .ref _), (3, .ref _), (2, .ref _), (1, .ref _), (0, .ref _)]) hx hb dL_law_2729 hl (by decide) rfl (fun ls hl => ?_)
  refine lv_aload_n hx hb dL_law_2731 rfl (lv_at hl 5 rfl) ?_
  refine b_Mi (c_X10_thrown hI hon3) hc hP hS hl.1 (ngoodV q1207 q1208 q1209 q11 q1210) (b_rec10 hc hP.1) ⟨rfl, rfl⟩ nok_X10_thrown rfl ⟨by show 1 + 1 ≤ _; omega, by show 8 + (1 + 11) + 40 ≤ _; omega⟩ ⟨by omega, by omega⟩ dL_law_2732 rfl (Nat.le_of_ble_eq_true rfl) (fun r3 X4 H locs hp9 hP hS => ?_)
  obtain ⟨hr8, hX8⟩ := hp9
  rw [hX8] at hP
  rw [k1] at hr8
  refine lv_iload hx hb dL_law_2735 (lv_at hl 1 rfl) ?_
  refine lv_icmp_eq (tgt := 2742) hx hb dL_law_2737 (by decide) (fun _ => ?_) (fun c9 => absurd hr8 c9)
  have hfin : ∀ (ls : Array Slot), lv_has ls 9 [(5, .int (nI (7 * j))), (4, .ref aD), (3, .ref aL), (2, .ref (ad 3 30 0)), (1, .ref (ad 2 20 0)), (0, .ref b)] → W p l e R s m #[Value.ref b] below meth c H locs (cells + 6) (slots + 36) Q (F0 m 2783 ls []) := fun ls hl => hk (_, u2.2) n8 _ _ _ k3 (by show nInv (wdo u2.1 3 _) (wdo u2.1 3 _ 3) n8; rw [wdo_at]; exact k4) hP hS hl
  refine lv_iload hx hb dL_law_2742 (lv_at hl 1 rfl) ?_
  refine lv_if_ne (tgt := 2780) hx hb dL_law_2744 (by decide) (fun _ => ?_) (fun c8 => ?_)
  · skip
    refine lv_goto (tgt := 2783) hx hb dL_law_2780 (by decide) ?_
    exact hfin _ (lv_sub hl [2, 3, 4, 5, 6, 7] rfl)
  · have k5 := k2 c8
    obtain ⟨k5, X9, k6⟩ := k5
    have hq : vf_n64 (FP.f2d r2) ∧ vf_n32 r2 := lx_num k6
    refine lv_aload hx hb dL_law_2747 (lv_at hl 3 rfl) ?_
    refine lv_iconst (v := 0) hx hb dL_law_2749 (by decide) ?_
    refine b_dld hc hP dL_law_2750 ?_
    refine lv_fload hx hb dL_law_2751 (lv_at hl 0 rfl) ?_
    refine lv_f2d hx hb dL_law_2753 hq.1 ?_
    have k7 : u2.2.2 = (FP.f2d r2) := k5
    refine lv_dcmp hx hb dL_law_2754 ?_
    refine lv_if_eq (tgt := 2780) hx hb dL_law_2755 (by decide) (fun _ => ?_) (fun c7 => ?_)
    · skip
      refine lv_goto (tgt := 2783) hx hb dL_law_2780 (by decide) ?_
      exact hfin _ (lv_sub hl [2, 3, 4, 5, 6, 7] rfl)
    · exact absurd (by rw [k7]; exact lx_dc hq.1) c7
end BK
