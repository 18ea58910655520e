/-- the script's loop -/
theorem nI_7 (L : Nat) (hL : L ≤ 3584) : (nI L - 7).toInt = (L : Int) - 7 := by
  have h1 : (nI L).toInt = L := Int32.toInt_ofNat_of_lt (by omega)
  rw [Int32.toInt_sub, h1, show (7 : Int32).toInt = 7 by decide]
  exact Int.bmod_eq_of_le (by omega) (by omega)
theorem l_more {L j : Nat} (hL : L ≤ 3584) (hj : j ≤ 512) : (nI L - 7 < nI (7 * j)) ↔ ¬ 7 * j + 6 < L := by
  have h1 : (nI (7 * j)).toInt = (7 * j : Nat) := Int32.toInt_ofNat_of_lt (by omega)
  rw [Int32.lt_iff_toInt_lt, nI_7 L hL, h1]
  omega
theorem l_loop {p : Program} {l : Launch} {e : Env} {s : State} {m : MethodId} {below : List Frame} {meth : Method} {c : Code} {Q : State → Prop} {b L : Nat} {xs : Nat → Int32} {D : va_G} {dA : Nat → ClassId} {cL cD : ClassId} {ad : Nat → Nat → Nat → Nat} {on : Nat → Prop} {aL aD : Nat} (hL : L ≤ 3584) (hc : lB p l s m meth c b L xs D dA ad on cL cD aL aD)
    (hend : ∀ (j : Nat) (H1 : Heap) (locs1 : List Loc) (ls1 : Array Slot), j ≤ 512 → va_S (fun q => s.heap.size ≤ q) s.heap H1 locs1 → W p l e room_1 s m #[Value.ref b] below meth c H1 locs1 (466 + 6 * j) (5846 + 36 * j) Q (F0 m 2789 ls1 [])) :
    ∀ (k j : Nat), k + j = 513 → ∀ (u : LSt) (n : Nat) (H : Heap) (locs : List Loc) (ls : Array Slot), n ≤ j → j ≤ 512 → nInv u.1 (u.1 3) n → lpic D dA ad on cL cD aL aD u H → va_S (fun q => s.heap.size ≤ q) s.heap H locs → lv_has ls 9 [(5, .int (nI (7 * j))), (4, .ref aD), (3, .ref aL), (2, .ref (ad 3 30 0)), (1, .ref (ad 2 20 0)), (0, .ref b)] → W p l e room_1 s m #[Value.ref b] below meth c H locs (466 + 6 * j) (5846 + 36 * j) Q (F0 m 28 ls []) := by
  have hx := hc.1
  have hb := hc.2.1
  intro k
  induction k with
  | zero => intro j hkj u n H locs ls hn hj; omega
  | succ k ih =>
    intro j hkj u n H locs ls hn hj hinv hP hS hl
    have hcj : 466 + 6 * j + 6 ≤ room_1.cells ∧ 5846 + 36 * j + 36 ≤ room_1.slots := ⟨by show _ ≤ 603072; omega, by show _ ≤ 7211113; omega⟩
    refine lv_iload hx hb dL_law_28 (lv_at hl 0 rfl) ?_
    refine lv_aload_n hx hb dL_law_30 rfl (lv_at hl 5 rfl) ?_
    refine b_len hc hS dL_law_31 ?_
    refine lv_bipush (v := 7) hx hb dL_law_32 (by decide) ?_
    refine lv_isub hx hb dL_law_34 ?_
    refine lv_icmp_gt (tgt := 2789) hx hb dL_law_35 (by decide) (fun _ => hend j H locs ls hj hS) (fun hg => ?_)
    have hlt : 7 * j + 6 < L := Classical.not_not.mp (fun z => hg ((l_more hL hj).mpr z))
    have hj2 : j < 512 := by omega
    refine lv_aload_n hx hb dL_law_38 rfl (lv_at hl 5 rfl) ?_
    refine lv_iload hx hb dL_law_39 (lv_at hl 0 rfl) ?_
    refine b_sld hc hS (vp_in_nI (by omega) (by omega)) dL_law_41 ?_
    refine lv_bipush (v := 63) hx hb dL_law_42 (by decide) ?_
    refine lv_iand hx hb dL_law_44 ?_
    generalize xs (nix (nI (7 * j))) &&& 63 = v
    have hk : lKont p l e room_1 s m below meth c b D dA ad on cL cD aL aD n j (466 + 6 * j) (5846 + 36 * j) Q := by
      intro u' n' H1 locs1 ls1 hn' hinv' hP' hS' hl'
      refine lv_iinc (lv' := [(5, .int (nI (7 * (j + 1)))), (4, .ref aD), (3, .ref aL), (2, .ref (ad 3 30 0)), (1, .ref (ad 2 20 0)), (0, .ref b)]) (v := nI (7 * (j + 1))) hx hb dL_law_2783 hl' (k := 0) rfl (by rw [show Int32.ofInt 7 = nI 7 from by decide, nI_add]; congr 1) (by decide) rfl (fun ls2 hl2 => ?_)
      refine lv_goto (tgt := 28) hx hb dL_law_2786 (by decide) ?_
      exact ih (j + 1) (by omega) u' n' H1 locs1 ls2 (by omega) (by omega) hinv' hP' hS' hl2
    have hR : 12 ≤ room_1.frames ∧ 480 ≤ room_1.locals := ⟨Nat.le_of_ble_eq_true rfl, Nat.le_of_ble_eq_true rfl⟩
    have hout : W p l e room_1 s m #[Value.ref b] below meth c H locs (466 + 6 * j) (5846 + 36 * j) Q (F0 m 2783 ls []) :=
      W.widen (Nat.le_add_right _ 6) (Nat.le_add_right _ 36) (hk u n H locs ls (Nat.le_succ _) hinv hP hS hl)
    by_cases hlo : v.toInt < 0
    · exact lv_tableOut (tgt := 2783) hx hb dL_law_45 (Or.inl hlo) (by decide) hout
    by_cases hhi : 43 < v.toInt
    · exact lv_tableOut (tgt := 2783) hx hb dL_law_45 (Or.inr hhi) (by decide) hout
    have hv : v.toInt = (v.toInt.toNat : Int) := by omega
    have hq : v.toInt.toNat < 44 := by omega
    have hq2 : (v.toInt - 0).toNat = v.toInt.toNat := by rw [Int.sub_zero]
    generalize hqe : v.toInt.toNat = q at hq hq2
    clear hv
    match q, hq, hq2 with
    | 0, _, hq2 => exact lv_tableIn (tgt := 236) (off := 191) hx hb dL_law_45 hlo hhi (by rw [hq2]; rfl) (by decide) (lk_0 hc hinv (by omega) hP hS hl hlt hL hR hcj hk)
    | 1, _, hq2 => exact lv_tableIn (tgt := 316) (off := 271) hx hb dL_law_45 hlo hhi (by rw [hq2]; rfl) (by decide) (lk_1 hc hinv (by omega) hP hS hl hlt hL hR hcj hk)
    | 2, _, hq2 => exact lv_tableIn (tgt := 372) (off := 327) hx hb dL_law_45 hlo hhi (by rw [hq2]; rfl) (by decide) (lk_2 hc hinv (by omega) hP hS hl hlt hL hR hcj hk)
    | 3, _, hq2 => exact lv_tableIn (tgt := 385) (off := 340) hx hb dL_law_45 hlo hhi (by rw [hq2]; rfl) (by decide) (lk_3 hc hinv (by omega) hP hS hl hlt hL hR hcj hk)
    | 4, _, hq2 => exact lv_tableIn (tgt := 398) (off := 353) hx hb dL_law_45 hlo hhi (by rw [hq2]; rfl) (by decide) (lk_4 hc hinv (by omega) hP hS hl hlt hL hR hcj hk)
    | 5, _, hq2 => exact lv_tableIn (tgt := 466) (off := 421) hx hb dL_law_45 hlo hhi (by rw [hq2]; rfl) (by decide) (lk_5 hc hinv (by omega) hP hS hl hlt hL hR hcj hk)
    | 6, _, hq2 => exact lv_tableIn (tgt := 522) (off := 477) hx hb dL_law_45 hlo hhi (by rw [hq2]; rfl) (by decide) (lk_6 hc hinv (by omega) hP hS hl hlt hL hR hcj hk)
    | 7, _, hq2 => exact lv_tableIn (tgt := 590) (off := 545) hx hb dL_law_45 hlo hhi (by rw [hq2]; rfl) (by decide) (lk_7 hc hinv (by omega) hP hS hl hlt hL hR hcj hk)
    | 8, _, hq2 => exact lv_tableIn (tgt := 646) (off := 601) hx hb dL_law_45 hlo hhi (by rw [hq2]; rfl) (by decide) (lk_8 hc hinv (by omega) hP hS hl hlt hL hR hcj hk)
    | 9, _, hq2 => exact lv_tableIn (tgt := 702) (off := 657) hx hb dL_law_45 hlo hhi (by rw [hq2]; rfl) (by decide) (lk_9 hc hinv (by omega) hP hS hl hlt hL hR hcj hk)
    | 10, _, hq2 => exact lv_tableIn (tgt := 758) (off := 713) hx hb dL_law_45 hlo hhi (by rw [hq2]; rfl) (by decide) (lk_10 hc hinv (by omega) hP hS hl hlt hL hR hcj hk)
    | 11, _, hq2 => exact lv_tableIn (tgt := 821) (off := 776) hx hb dL_law_45 hlo hhi (by rw [hq2]; rfl) (by decide) (lk_11 hc hinv (by omega) hP hS hl hlt hL hR hcj hk)
    | 12, _, hq2 => exact lv_tableIn (tgt := 947) (off := 902) hx hb dL_law_45 hlo hhi (by rw [hq2]; rfl) (by decide) (lk_12 hc hinv (by omega) hP hS hl hlt hL hR hcj hk)
    | 13, _, hq2 => exact lv_tableIn (tgt := 1015) (off := 970) hx hb dL_law_45 hlo hhi (by rw [hq2]; rfl) (by decide) (lk_13 hc hinv (by omega) hP hS hl hlt hL hR hcj hk)
    | 14, _, hq2 => exact lv_tableIn (tgt := 1083) (off := 1038) hx hb dL_law_45 hlo hhi (by rw [hq2]; rfl) (by decide) (lk_14 hc hinv (by omega) hP hS hl hlt hL hR hcj hk)
    | 15, _, hq2 => exact lv_tableIn (tgt := 1139) (off := 1094) hx hb dL_law_45 hlo hhi (by rw [hq2]; rfl) (by decide) (lk_15 hc hinv (by omega) hP hS hl hlt hL hR hcj hk)
    | 16, _, hq2 => exact lv_tableIn (tgt := 1202) (off := 1157) hx hb dL_law_45 hlo hhi (by rw [hq2]; rfl) (by decide) (lk_16 hc hinv (by omega) hP hS hl hlt hL hR hcj hk)
    | 17, _, hq2 => exact lv_tableIn (tgt := 1314) (off := 1269) hx hb dL_law_45 hlo hhi (by rw [hq2]; rfl) (by decide) (lk_17 hc hinv (by omega) hP hS hl hlt hL hR hcj hk)
    | 18, _, hq2 => exact lv_tableIn (tgt := 1377) (off := 1332) hx hb dL_law_45 hlo hhi (by rw [hq2]; rfl) (by decide) (lk_18 hc hinv (by omega) hP hS hl hlt hL hR hcj hk)
    | 19, _, hq2 => exact lv_tableIn (tgt := 1445) (off := 1400) hx hb dL_law_45 hlo hhi (by rw [hq2]; rfl) (by decide) (lk_19 hc hinv (by omega) hP hS hl hlt hL hR hcj hk)
    | 20, _, hq2 => exact lv_tableIn (tgt := 1458) (off := 1413) hx hb dL_law_45 hlo hhi (by rw [hq2]; rfl) (by decide) (lk_20 hc hinv (by omega) hP hS hl hlt hL hR hcj hk)
    | 21, _, hq2 => exact lv_tableIn (tgt := 1514) (off := 1469) hx hb dL_law_45 hlo hhi (by rw [hq2]; rfl) (by decide) (lk_21 hc hinv (by omega) hP hS hl hlt hL hR hcj hk)
    | 22, _, hq2 => exact lv_tableIn (tgt := 1570) (off := 1525) hx hb dL_law_45 hlo hhi (by rw [hq2]; rfl) (by decide) (lk_22 hc hinv (by omega) hP hS hl hlt hL hR hcj hk)
    | 23, _, hq2 => exact lv_tableIn (tgt := 1645) (off := 1600) hx hb dL_law_45 hlo hhi (by rw [hq2]; rfl) (by decide) (lk_23 hc hinv (by omega) hP hS hl hlt hL hR hcj hk)
    | 24, _, hq2 => exact lv_tableIn (tgt := 1701) (off := 1656) hx hb dL_law_45 hlo hhi (by rw [hq2]; rfl) (by decide) (lk_24 hc hinv (by omega) hP hS hl hlt hL hR hcj hk)
    | 25, _, hq2 => exact lv_tableIn (tgt := 1769) (off := 1724) hx hb dL_law_45 hlo hhi (by rw [hq2]; rfl) (by decide) (lk_25 hc hinv (by omega) hP hS hl hlt hL hR hcj hk)
    | 26, _, hq2 => exact lv_tableIn (tgt := 1825) (off := 1780) hx hb dL_law_45 hlo hhi (by rw [hq2]; rfl) (by decide) (lk_26 hc hinv (by omega) hP hS hl hlt hL hR hcj hk)
    | 27, _, hq2 => exact lv_tableIn (tgt := 1838) (off := 1793) hx hb dL_law_45 hlo hhi (by rw [hq2]; rfl) (by decide) (lk_27 hc hinv (by omega) hP hS hl hlt hL hR hcj hk)
    | 28, _, hq2 => exact lv_tableIn (tgt := 1894) (off := 1849) hx hb dL_law_45 hlo hhi (by rw [hq2]; rfl) (by decide) (lk_28 hc hinv (by omega) hP hS hl hlt hL hR hcj hk)
    | 29, _, hq2 => exact lv_tableIn (tgt := 1950) (off := 1905) hx hb dL_law_45 hlo hhi (by rw [hq2]; rfl) (by decide) (lk_29 hc hinv (by omega) hP hS hl hlt hL hR hcj hk)
    | 30, _, hq2 => exact lv_tableIn (tgt := 2006) (off := 1961) hx hb dL_law_45 hlo hhi (by rw [hq2]; rfl) (by decide) (lk_30 hc hinv (by omega) hP hS hl hlt hL hR hcj hk)
    | 31, _, hq2 => exact lv_tableIn (tgt := 2062) (off := 2017) hx hb dL_law_45 hlo hhi (by rw [hq2]; rfl) (by decide) (lk_31 hc hinv (by omega) hP hS hl hlt hL hR hcj hk)
    | 32, _, hq2 => exact lv_tableIn (tgt := 2118) (off := 2073) hx hb dL_law_45 hlo hhi (by rw [hq2]; rfl) (by decide) (lk_32 hc hinv (by omega) hP hS hl hlt hL hR hcj hk)
    | 33, _, hq2 => exact lv_tableIn (tgt := 2198) (off := 2153) hx hb dL_law_45 hlo hhi (by rw [hq2]; rfl) (by decide) (lk_33 hc hinv (by omega) hP hS hl hlt hL hR hcj hk)
    | 34, _, hq2 => exact lv_tableIn (tgt := 2266) (off := 2221) hx hb dL_law_45 hlo hhi (by rw [hq2]; rfl) (by decide) (lk_34 hc hinv (by omega) hP hS hl hlt hL hR hcj hk)
    | 35, _, hq2 => exact lv_tableIn (tgt := 2334) (off := 2289) hx hb dL_law_45 hlo hhi (by rw [hq2]; rfl) (by decide) (lk_35 hc hinv (by omega) hP hS hl hlt hL hR hcj hk)
    | 36, _, hq2 => exact lv_tableIn (tgt := 2390) (off := 2345) hx hb dL_law_45 hlo hhi (by rw [hq2]; rfl) (by decide) (lk_36 hc hinv (by omega) hP hS hl hlt hL hR hcj hk)
    | 37, _, hq2 => exact lv_tableIn (tgt := 2446) (off := 2401) hx hb dL_law_45 hlo hhi (by rw [hq2]; rfl) (by decide) (lk_37 hc hinv (by omega) hP hS hl hlt hL hR hcj hk)
    | 38, _, hq2 => exact lv_tableIn (tgt := 2523) (off := 2478) hx hb dL_law_45 hlo hhi (by rw [hq2]; rfl) (by decide) (lk_38 hc hinv (by omega) hP hS hl hlt hL hR hcj hk)
    | 39, _, hq2 => exact lv_tableIn (tgt := 2579) (off := 2534) hx hb dL_law_45 hlo hhi (by rw [hq2]; rfl) (by decide) (lk_39 hc hinv (by omega) hP hS hl hlt hL hR hcj hk)
    | 40, _, hq2 => exact lv_tableIn (tgt := 2635) (off := 2590) hx hb dL_law_45 hlo hhi (by rw [hq2]; rfl) (by decide) (lk_40 hc hinv (by omega) hP hS hl hlt hL hR hcj hk)
    | 41, _, hq2 => exact lv_tableIn (tgt := 2691) (off := 2646) hx hb dL_law_45 hlo hhi (by rw [hq2]; rfl) (by decide) (lk_41 hc hinv (by omega) hP hS hl hlt hL hR hcj hk)
    | 42, _, hq2 => exact lv_tableIn (tgt := 2704) (off := 2659) hx hb dL_law_45 hlo hhi (by rw [hq2]; rfl) (by decide) (lk_42 hc hinv (by omega) hP hS hl hlt hL hR hcj hk)
    | 43, _, hq2 => exact lv_tableIn (tgt := 2717) (off := 2672) hx hb dL_law_45 hlo hhi (by rw [hq2]; rfl) (by decide) (lk_43 hc hinv (by omega) hP hS hl hlt hL hR hcj hk)
    | q + 44, h, _ => exact absurd h (by omega)
/-! THE CLAIM OUT OF ONE WALK OF THE LAW'S BODY. Your part is whole_start (and what it stands on); all else here is the same for every law, but numbers. -/
def R_law : String := "NominatorLaw"
def lw_P (b : Addr) (xs : List Int32) (args : Array Value) (s : State) : Prop := args = #[.ref b] ∧ s.IntsAt b xs ∧ xs.length ≤ 3584 ∧ (Jvm.Cond.and given_1 narrow_1).before args s = true
/-- what a walk over the start with the record d0 says of its end, said of the start itself -/
theorem lw_closed {s t : State} {o : Outcome} {d0 : Drawn} {L : List Loc} {k n : Nat} (hd0 : s.drawn.sameBut d0 lw_cs) (hv : ∃ v, o = .returned v) (hW : (s.setDrawn d0).WarmedH t.vm) (hs : (s.setDrawn d0).sameButNew ({ t with vm := s.vm } : State) L k n) : State.butDraws s t lw_cs (fun t1 => Framed s o t1 L k n) := by
  have h2 : t.drawn = d0 := congrArg State.drawn hs.1
  refine ⟨⟨hv, hW, State.sameButNew.setDrawn hs s.drawn⟩, ?_, by decide⟩
  rw [h2]
  exact hd0
def lw_Q (_ : Array Value) (s : State) (o : Outcome) (t : State) : Prop := o = .returned (some (.int 1)) ∧ State.butDraws s t lw_cs (fun t1 => Framed s o t1 [] 603072 7211113)
def lw_Z (below : List Frame) (a : Array Value) (s : State) : State → Prop := fun t => ∃ o, t.status = .running ∧ Ended t below o ∧ lw_Q a s o t
/-- the law's own end, with 1 on the stack, nothing written that was there before, its room as the claim has it; d0: the record of draws at this point (at the entry s.drawn: begin with 'refine W.base ?_' and 'have hd0 := Drawn.sameBut.refl s.drawn lw_cs') -/
theorem lw_ret {p : Program} {l : Launch} {e : Env} {s : State} {m : MethodId} {below : List Frame} {meth : Method} {c : Code} {b : Nat} {d0 : Drawn} (hd0 : s.drawn.sameBut d0 lw_cs) (hx : p.tables.exec = Jvm.exec) (hb : c.code = code) (hr : meth.sig.returnType = ret) (hlocks : meth.locks = false) {pc : Nat} {H : Heap} {ls : Array Slot} (hdg : decode code pc = .ok (.ireturn, 1)) : W p l e room_1 (s.setDrawn d0) m #[Value.ref b] below meth c H [] 603072 7211113 (lw_Z below #[Value.ref b] s) (F0 m pc ls [.int 1]) := by
  intro T hT X
  obtain ⟨fs, hret, hrun, hended, hW, hframe⟩ := X.leave (v := some (.int 1)) (hlocks := hlocks) (fun h => by rw [hr] at h; cases h)
  have hmeth' : T.vm.method? m = some meth := X.method'
  refine ⟨T.setFrames fs, ?_, .returned (some (.int 1)), hrun, hended, rfl, lw_closed hd0 ⟨_, rfl⟩ hW hframe⟩
  jvm_step X.here [X.here.top, hx, hb, hdg, hmeth', hr, ret, narrow_b1]
  (try refine ⟨rfl, ?_⟩); (try refine ⟨rfl, ?_⟩)
  first | (intro acts; rw [hret _ acts rfl rfl rfl]) | rw [hret _ _ rfl rfl rfl]
  exact Steps.refl _
/-- what holds at the law's entry: the machine, the code, the tables' words (any of lw_tbl by 'hts w (by decide +kernel)'), the script of L ints xs at the cell b, what the Statement gives of the start (any of its parts by flat_of_before) -/
def lw_At (p : Program) (s : State) (m : MethodId) (meth : Method) (c : Code) (b L : Nat) (xs : Nat → Int32) : Prop :=
  p.tables.exec = Jvm.exec ∧ c.code = code ∧ meth.sig.returnType = ret ∧ c.maxLocals = 9 ∧ s.vm.findClass R_law = some m.cls ∧ (∀ w ∈ lw_tbl, w.before #[Value.ref b] s = true) ∧ va_X b L xs s s.heap ∧ b < s.heap.size ∧ meth.locks = false ∧ (Jvm.Cond.and given_1 narrow_1).before #[Value.ref b] s = true
theorem whole_start {p : Program} {e : Env} {s : State} {m : MethodId} {below : List Frame} {meth : Method} {c : Code} (l : Launch) (hflags : l.flags = flags0) {b L : Nat} {xs : Nat → Int32} (hL : L ≤ 3584) (C0 : lw_At p s m meth c b L xs) : W p l e room_1 s m #[Value.ref b] below meth c s.heap [] 0 0 (lw_Z below #[Value.ref b] s) (entryFrame m ([Value.ref b] : List Value).toArray 9) := by
  obtain ⟨hx, hb, hr, hml, hown, hts, hX, hbl, hlocks, hgv⟩ := C0
  have hfl : l.stackTraces = false := by
    unfold Launch.stackTraces
    rw [hflags]
    decide
  obtain ⟨D, dA, cL, cD, hT, hK, hZ, hAO⟩ := st_tab hts hgv
  have hc : lB p l s m meth c b L xs D dA (lad s.heap.size) lon cL cD (s.heap.size + 464) (s.heap.size + 465) :=
    ⟨hx, hb, hml, hown, fun w h => hts w (gw_tbl h), hT, hZ, hK, lad_inj, lad_sep, ⟨hX, hbl⟩, fun q h => lad_A2 h, ⟨by unfold lon; decide, by unfold lon; decide, by unfold lon; decide, by unfold lon; decide⟩, hfl⟩
  have hl := lv_entry [Value.ref b] (n := 9) (Nat.le_of_ble_eq_true rfl)
  rw [lg_entry_eq]
  generalize (lg_sl [Value.ref b] ++ List.replicate (9 - (lg_sl [Value.ref b]).length) Slot.unset).toArray = ls at hl ⊢
  refine l_entry hc hAO hl fun H1 locs1 ls1 hP hS hl1 => ?_
  refine l_loop hL hc ?_ 513 0 rfl (lX0, 0, 0) 0 H1 locs1 ls1 (Nat.le_refl _) (Nat.zero_le _) (start_inv rfl rfl) hP hS hl1
  intro j H2 locs2 ls2 hj hS2
  refine lv_iconst (v := 1) hx hb dL_law_2789 (by decide) ?_
  refine va_forget (fun q h => hS2.2.2 q h) ?_
  refine W.widen (k := 603072) (n := 7211113) (by omega) (by omega) ?_
  refine W.base ?_
  exact lw_ret (Drawn.sameBut.refl s.drawn lw_cs) hx hb hr hlocks dL_law_2790
set_option maxHeartbeats 4000000 in
theorem lw_walk (l : Launch) (hflags : l.flags = flags0) (b : Addr) (xs : List Int32) : MetFree l x (headSpec (Jvm.Cond.code x code maxLocals ret :: tables_1) room_1) (lw_P b xs) (fun _ _ _ _ _ => True) lw_Q := by
  refine MetFree.of_bodyS (code := code) (maxLocals := maxLocals) (ret := ret) (by decide) ?_ ?_
  · intro args s m h hn
    obtain ⟨meth, c, h1, h2, h3, h4, h5, h6, -, -⟩ := Cond.code_spec hn (atoms_spec (ws := Jvm.Cond.code x code maxLocals ret :: tables_1) h _ List.mem_cons_self)
    exact ⟨meth, c, h1, h2, h3, h4, h5, h6⟩
  · intro p e s m args below meth c s₁ B hml0 hP _
    obtain ⟨rfl, hx, hbd, hgv⟩ := hP
    obtain ⟨scr, harrAt, hlist, hof, hsmall⟩ := hx
    obtain ⟨hcb, hkn, -, -⟩ := State.arrayAt?_spec harrAt
    have hown : s.vm.findClass R_law = some m.cls := findClass_of_methodNamed B.named
    have hts0 : ∀ c ∈ (Jvm.Cond.code x code maxLocals ret :: tables_1), c.before #[Value.ref b] s = true := atoms_spec (ws := Jvm.Cond.code x code maxLocals ret :: tables_1) B.pre
    have hts : ∀ w ∈ lw_tbl, w.before #[Value.ref b] s = true := k2_hts_sels lw_privs (fun w hw => hts0 w (List.mem_cons_of_mem _ hw)) lw_privs_ok
    have hml : c.maxLocals = 9 := B.maxLocals_eq (hts0 _ List.mem_cons_self)
    have X₀ : Stand p l e room_1 s m #[Value.ref b] below meth c s₁ [] 0 0 := Stand.of_body B
    have hh0 : s₁.heap = s.heap := by rw [B.state]; rfl
    have hsz : scr.slots.size = xs.length := by rw [← Array.length_toList, hlist, List.length_map]
    have hval : ∀ j : Nat, j < xs.length → scr.slots[j]? = some (.int (xs.getD j 0)) := fun j hj => by
      rw [← Array.getElem?_toList, hlist]
      simp [hj]
    have hbl : b < s.heap.size := (Array.getElem?_eq_some_iff.mp hcb).1
    have hX : va_X b xs.length (fun j => xs.getD j 0) s s.heap := ⟨scr, hcb, hof, hkn, hsz, hval⟩
    have K : W p l e room_1 s m #[Value.ref b] below meth c s₁.heap [] 0 0 (lw_Z below #[Value.ref b] s) (entryFrame m ([Value.ref b] : List Value).toArray 9) := by
      rw [hh0]
      exact whole_start l hflags hbd ⟨B.exec, B.bytes, B.returns, hml, hown, hts, hX, hbl, B.notSynchronized, hgv⟩
    obtain ⟨t, a1, o, b1, b2, b3⟩ := K s₁ rfl X₀
    exact ⟨t, o, a1, b1, b2, b3⟩
theorem lw_pre_spec {args : Array Value} {s : State} (h : (Jvm.Cond.and given_1 narrow_1).before args s = true) (hr : rest_1_c.before args s = true) : ∃ (b : Addr) (xs : List Int32), lw_P b xs args s := by
  have hs := flat_of_before _ h
  have hq := flat_of_before _ hr
  have hc : (Cond.count 1).before args s = true := hs _ (by decide +kernel)
  have harr : (Cond.arrayOf (.arg 0) .int).before args s = true := hs _ (by decide +kernel)
  have hle : (Cond.le (.length (.arg 0)) (.int 3584)).before args s = true := hs _ (by decide +kernel)
  have hlen : (Cond.isInt (.length (.arg 0))).before args s = true := hq _ (by decide +kernel)
  have hall : (Cond.all (.arg 0) (.isInt (.elem (.arg 0) (.index 0)))).before args s = true := hq _ (by decide +kernel)
  obtain ⟨b, xs, hb, hx⟩ := State.ints_of_pre rfl harr hlen hall
  have hsm : xs.length < 2 ^ 31 := hx.choose_spec.2.2.2
  have hev : (Term.length (.arg 0)).eval args s none [] s = some (.int xs.length.toInt32) := hx.length_eval hb
  have hv := Cond.le_ints hev (show (Term.int 3584).eval args s none [] s = some (.int 3584) from rfl)
  have hd : xs.length.toInt32 ≤ 3584 := by
    simpa [Cond.before, Cond.holds, hv] using hle
  have hN : xs.length ≤ 3584 := (Int32.ofNat_le_ofNat hsm (by decide)).mp (show Int32.ofNat xs.length ≤ Int32.ofNat 3584 from hd)
  exact ⟨b, xs, Cond.one_arg hc (show args[0]? = some (.ref b) from hb), hx, hN, h⟩
theorem lw_comes (l : Launch) (hflags : l.flags = flags0) : Comes l x (Jvm.Cond.code x code maxLocals ret :: tables_1) room_1 (fun tb e args s => Calls_1 tb e args s ∧ rest_1 tb e args s ∧ Pre_1 tb e args s)
    (fun _ _ args s o t => lw_Q args s o t) := by
  intro p e ha hc hk s m args below hf hfit hheap happ hpre
  obtain ⟨b, xs, hP⟩ := lw_pre_spec hpre.2.2 hpre.2.1
  obtain ⟨k, o, h1, h2, h3, hQ⟩ := lw_walk l hflags b xs p e ha hc hk s m args below hf ((Spec.applies_iff_loose hf).mp happ).1 hP trivial
  exact ⟨k, o, h1, h2, h3, hQ⟩
theorem lw_frame {s t : State} {o : Outcome} {args : Array Value} (h : State.butDraws s t lw_cs (fun t1 => Framed s o t1 [] 603072 7211113)) :
    State.butDraws s t [Jvm.Choice.named "NaN.bits"] (fun t1 => Framed s o t1 (fieldLocs frame_1_writes args s ++ arrayLocs frame_1_arrays args s ++ staticLocs frame_1_statics s) 603072 7211113) := h
theorem lw_limb (L : Cond) (hL : ∀ (args : Array Value) (s t : State), L.after args s (.returned (some (.int 1))) t = true) :
    ArmFor flags0 classFile x code maxLocals ret World_1 tables_1 room_1 Calls_1 rest_1 Pre_1
      (fun tb e a s o t => postC L tb e a s o t ∧ State.butDraws s t [Jvm.Choice.named "NaN.bits"] (fun t1 => Framed s o t1 (fieldLocs frame_1_writes a s ++ arrayLocs frame_1_arrays a s ++ staticLocs frame_1_statics s) 603072 7211113)) := by
  intro l hflags _ _ p e ha hc hk s m args below hf hfit hheap happ hpre
  obtain ⟨k, o, h1, h2, h3, rfl, hF⟩ := lw_comes l hflags p e ha hc hk s m args below hf hfit hheap happ hpre
  exact ⟨k, _, h1, h2, h3, hL args s _, lw_frame hF⟩
theorem i_vc : Claimed_1_1 ∧ Claimed_1_2 := ⟨lw_limb limb_1_1 (fun args s t => by simp [limb_1_1, Cond.after, Cond.holds, Cond.value]), lw_limb limb_1_2 (fun args s t => Cond.after_iff.mpr (by
  first | (rw [show limb_1_2 = Cond.eq .result (.int 1) from rfl, Cond.eq_ints (x := 1) (y := 1) rfl rfl]; simp; done) | (simp [limb_1_2, Cond.value, Term.eval]; done)))⟩
