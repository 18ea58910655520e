/-! the public methods -/
theorem nar_sv {c : Int32} (h : cSmall c = true) : narrow .char (.int c) = .int c := congrArg Value.int (nar_small h)
/-- thrown, with the world that it leaves -/
def nXY (D : va_G) (dA : Nat → ClassId) (ad : Nat → Nat → Nat → Nat) (on : Nat → Prop) (E : Nat → NWd → Prop) (C : String) (u t : State) : Prop := ∃ (k : Nat) (X' : NWd), E k X' ∧ (C = nex k ∧ npic D dA ad on X' t.heap) ∧ va_F (nA ad on) u t
def nYi (l : Launch) (D : va_G) (dA : Nat → ClassId) (ad : Nat → Nat → Nat → Nat) (on : Nat → Prop) (y : MethodName) (cc : ByteArray) (maxL : Nat) (ret : Option FieldType) (rm : Room) (av : List Value) (X : NWd) (mc : Nat) (P : Int32 → NWd → Prop) (E : Nat → NWd → Prop) : Prop :=
  vx_Met l y (nws y cc maxL ret) rm (va_Pc av (npre D dA ad on X)) (va_Qi P (fun X' t => npic D dA ad on X' t.heap) (nA ad on)) (nXY D dA ad on E) mc (6 * mc) (nA ad on)
section NY
variable {p : Program} {l : Launch} {e : Env} {R : Room} {s : State} {m : MethodId} {args : Array Value} {below : List Frame} {meth : Method} {c : Code} {H : Heap} {locs : List Loc} {cells slots : Nat}
variable {cc : ByteArray} {nL pc : Nat} {ls : Array Slot} {rest : List Value} {D : va_G} {dA : Nat → ClassId} {ad : Nat → Nat → Nat → Nat} {on : Nat → Prop} {X : NWd}
theorem nt_throwY4 {Qc : Array Value → State → Outcome → State → Prop} {E : Nat → NWd → Prop} {mc : Nat} (hfl : l.stackTraces = false) {is : Nat} {text : String} (hs : (is, text) ∈ nstr) (hc : nC p s m args meth c cc nL "Nominator" D dA ad on) (htb : ∀ x ∈ c.exceptionTable.toList, False) (hP : npic D dA ad on X H) (hS : va_S (nA ad on) s.heap H locs) (hsz : ls.size = nL)
    (d0 : decode cc pc = .ok (.new (nxk 4), 3)) (d3 : decode cc (pc + 3) = .ok (.dup, 1)) (d4 : decode cc (pc + 4) = .ok (.ldc is, 2)) (d6 : decode cc (pc + 6) = .ok (.invokespecial (nxc 4), 3)) (d9 : decode cc (pc + 9) = .ok (.athrow, 1))
    (hRf : 5 < R.frames) (hRl : (rest.map fun v => v.category).sum + 82 ≤ R.locals) (hRc : cells + 1 ≤ R.cells) (hRs : slots + 6 ≤ R.slots) (hE : E 4 X) (h1 : cells + 1 ≤ mc) (h2 : slots + 6 ≤ 6 * mc) :
    W p l e R s m args below meth c H locs cells slots (vx_MQ below Qc (nXY D dA ad on E) args s mc (6 * mc) (nA ad on)) (F0 m pc ls rest) := by
  obtain ⟨a, ha⟩ := hc.2.2.2.2.2.1.2.2.1 _ hs
  have hw : ∀ w ∈ n4w, w.before args s = true := by
    intro w hw
    rcases n4w_in w hw with h | h
    · exact hc.2.2.2.2.1 w h
    · exact nbw_use hc.2.2.2.2.2.1.2.1 h
  obtain ⟨hx, hb, hml, hown, hts, hT, hZ, hI, hlk⟩ := hc
  refine nt4_throwS (names := nxn) hx hb hfl hown (nxw_f 4 (by decide)) nxw_n (hw _ List.mem_cons_self) (hw _ (List.mem_cons_of_mem _ List.mem_cons_self)) ha (fun w h => hw w (List.mem_cons_of_mem _ (List.mem_cons_of_mem _ h))) n4w_g hZ.1 hZ.2 hS (hsz.trans hml.symm) d0 d3 d4 d6 d9 (fun x hx => (htb x hx).elim) hRf hRl hRc hRs hlk ?_ hS.2.2 h1 h2
  intro t hal hz hkp
  refine ⟨4, X, hE, ⟨rfl, npic_new hP hkp⟩, Nat.le_trans hS.1 hz, fun q h3 h4 => ?_⟩
  rw [hkp q (Nat.lt_of_lt_of_le h3 hS.1)]
  exact hS.2.1 q h3 h4
variable {own : String} {y : MethodName} {bytes : ByteArray} {maxL idx n b : Nat} {ret : Option FieldType} {rm : Room} {As st : List Value}
theorem nc_YVv {P : NWd → Prop} {E : Nat → Prop} {E2 : Nat → NWd → Prop} {mc mc2 : Nat} {Qc : Array Value → State → Outcome → State → Prop} (hM : nXv l D dA ad on y bytes maxL rm (.ref b :: As) X mc P E) (hc : nC p s m args meth c cc nL own D dA ad on) (htb : ∀ x ∈ c.exceptionTable.toList, False) (hP : npic D dA ad on X H) (hS : va_S (nA ad on) s.heap H locs) (hsz : ls.size = nL) (hg : GoodIn gw (wsV own idx y.cls y (nws y bytes maxL none))) (hrv : ∃ cell : Cell, H[b]? = some cell ∧ cell.vm.isStatics = false ∧ s.vm.findClass y.cls = some cell.cls) (hrm : rm.cells = mc ∧ rm.slots = 6 * mc) (hok : nOk y n) (hn : As.length = n) (hR : rm.frames + 1 ≤ R.frames ∧ 8 + (maxL + 11) + rm.locals ≤ R.locals) (hf : cells + mc ≤ R.cells ∧ slots + 6 * mc ≤ R.slots) (hf2 : cells + mc ≤ mc2 ∧ slots + 6 * mc ≤ 6 * mc2) (hdg : decode cc pc = .ok (.invokevirtual idx, 3)) (hst : st = As.reverse ++ .ref b :: rest) (hW : (rest.map fun v => v.category).sum ≤ 8)
    (kx : ∀ k, E k → E2 k X)
    (kk : ∀ (X' : NWd) (H1 : Heap) (locs1 : List Loc), P X' → npic D dA ad on X' H1 → va_S (nA ad on) s.heap H1 locs1 → W p l e R s m args below meth c H1 locs1 (cells + mc) (slots + 6 * mc) (vx_MQ below Qc (nXY D dA ad on E2) args s mc2 (6 * mc2) (nA ad on)) (F0 m (pc + 3) ls rest)) : W p l e R s m args below meth c H locs cells slots (vx_MQ below Qc (nXY D dA ad on E2) args s mc2 (6 * mc2) (nA ad on)) (F0 m pc ls st) := by
  have hlk := hc.2.2.2.2.2.2.2.2
  refine vx_callv (vx_runV (As := As) (rest := rest) (nfix hc) hM (cwV n hc.2.2.2.2.1 hg rfl hrm.1 hrm.2 ⟨rfl, hok⟩ hR) ⟨nblind, hrv, fun U hU hW => ⟨rfl, npre_of hc hP hS hU hW⟩⟩ rfl hn hsz hst (by simpa [JFrame.monitorRoom] using hW) hdg hf) hS (nfree hS) (fun _ h => h) (nfree hS) ?_ ?_
  · intro nm ce q9 k t H1 locs1 ht _ hp hb _ _ hS1 hcell hv hcl
    refine vx_out (fun x hx => (htb x hx).elim) hlk hcell hv hcl (fun t2 ht2 _ => ?_) hS1.2.2 hf2.1 hf2.2
    rw [ht] at hb
    exact ⟨k, X, kx k hp, ⟨hb.1, by rw [ht2]; exact hb.2⟩, hS1.F ht2⟩
  · intro X' t H1 locs1 ht _ hp hb _ _ hS1
    rw [ht] at hb
    exact kk X' H1 locs1 hp hb hS1
end NY
def nJ (S : NSt) (x f z t : Int32) : NSt := oJudge (oHap S x f z t)
theorem nJ_ok {S : NSt} {x f z t : Int32} (g : oOk S) (h : oEv S x f z) : oOk (nJ S x f z t) := (oJudge_same _).ok (oHap_ok g h)
theorem nEv_J {X : NWd} {S : NSt} {x f z t : Int32} : nEv X S x f z t = wdo (wdo X 2 (dWr (X 2) x f z t)) 0 (nJ S x f z t) := rfl
def oAround (x y : Int32) : Int32 := if 0 < y then fmod x y else 0
def rpl (T : NSt) (R : NSt) : Nat → NSt
  | 0 => oRestart R
  | n + 1 => oHap (rpl T R n) (T 22 0 n) (T 23 0 n) (T 24 0 n) (T 25 0 n)
theorem lt_of_i {x : Int32} {n m : Nat} (he : x = nI n) (hn : n < 2 ^ 31) (hm : m < 2 ^ 31) (h : x < nI m) : n < m := by rw [he] at h; exact (nI_ltI hn hm).mp h
theorem vp_r {x : Int32} {n : Nat} (h0 : ¬ x < 0) (h1 : x < nI n) (hn : n < 2 ^ 31) : vp_in x n := inB_t.mp ((inB_lt h0 rfl hn).trans (decide_eq_true h1))
theorem nar01 {v : Int32} (h : v = 0 ∨ v = 1) : narrow .boolean (.int v) = .int v := by rcases h with rfl | rfl <;> decide
section N17
variable {l : Launch} {D : va_G} {dA : Nat → ClassId} {ad : Nat → Nat → Nat → Nat} {on : Nat → Prop} {X : NWd} {S : NSt}
set_option maxHeartbeats 4000000 in
set_option maxRecDepth 100000 in
theorem c_X9_pass (hfl : l.stackTraces = false) (hI : ninj ad on) (hon0 : on 0) (hon1 : on 1) (hon2 : on 2) (hok : oOk S) (hd : vp_in (X 2 21 0 4) 513) {a : Int32} : nXi l D dA ad on yX9_pass cX9_pass 2 (some .int) (nrx 9 6) [.ref (ad 2 20 0), .int a] (wdo X 0 S) 6 (fun r X' => (nG (decide (1 ≤ a) && decide (a ≤ 30)) 0 (nG (decide (S 1 0 0 + a ≤ 99)) 1 (.inr (nJ S 1 a 0 0 1 0 0, nEv X S 1 a 0 0))) : Nat ⊕ (Int32 × NWd)) = .inr (r, X')) (fun k => (nG (decide (1 ≤ a) && decide (a ≤ 30)) 0 (nG (decide (S 1 0 0 + a ≤ 99)) 1 (.inr (nJ S 1 a 0 0 1 0 0, nEv X S 1 a 0 0))) : Nat ⊕ (Int32 × NWd)) = .inl k) := by
  refine nX_of hI (by decide +kernel) (Nat.le_of_ble_eq_true rfl) ?_
  intro p e s m args below meth cd ls hc hr htb hP hl hS
  have hx := hc.1
  have hb := hc.2.1
  have hl : lv_has ls 2 [(0, .ref (ad 2 20 0)), (1, .int a)] := hl
  have hok0 := hok
  refine lv_iload_n hx hb dX9_pass_0 rfl (lv_at hl 1 rfl) ?_
  refine lv_iconst (v := 1) hx hb dX9_pass_1 (by decide) ?_
  refine lv_icmp_lt (tgt := 11) hx hb dX9_pass_2 (by decide) (fun c_2 => ?_) (fun c_2 => ?_)
  · exact nt_throw hfl 0 (by decide) (by decide) (is := 58) (text := "the number of days is out of range") (by decide) hc htb hP hS hl.1 dX9_pass_11 dX9_pass_14 dX9_pass_15 dX9_pass_17 dX9_pass_20 (Nat.le_of_ble_eq_true rfl) (Nat.le_of_ble_eq_true rfl) (Nat.le_of_ble_eq_true rfl) (Nat.le_of_ble_eq_true rfl) (nG_f (by clear hP hS hl hc hx hb hr htb; simp_all [-Int32.not_le, -Int32.not_lt, i32_lt, nb_t, nb_f, nb_z, nb_o])) (Nat.le_of_ble_eq_true rfl) (Nat.le_of_ble_eq_true rfl)
  · refine lv_iload_n hx hb dX9_pass_5 rfl (lv_at hl 1 rfl) ?_
    refine lv_bipush (v := 30) hx hb dX9_pass_6 (by decide) ?_
    refine lv_icmp_le (tgt := 21) hx hb dX9_pass_8 (by decide) (fun c_8 => ?_) (fun c_8 => ?_)
    · refine lv_aload_n hx hb dX9_pass_21 rfl (lv_at hl 0 rfl) ?_
      refine g9_10 hc hP (nv_n hon2 (by decide) Nat.zero_lt_one) dX9_pass_22 ?_
      refine g9_33 hc hP (nv_o hon0 (by decide) (by decide) Nat.zero_lt_one) dX9_pass_25 ?_
      refine g9_37 hc hP (nv_o hon0 (by decide) (by decide) Nat.zero_lt_one) dX9_pass_28 ?_
      refine lv_iload_n hx hb dX9_pass_31 rfl (lv_at hl 1 rfl) ?_
      refine lv_iadd hx hb dX9_pass_32 ?_
      refine lv_bipush (v := 99) hx hb dX9_pass_33 (by decide) ?_
      refine lv_icmp_le (tgt := 48) hx hb dX9_pass_35 (by decide) (fun c_35 => ?_) (fun c_35 => ?_)
      · refine lv_aload_n hx hb dX9_pass_48 rfl (lv_at hl 0 rfl) ?_
        refine lv_iconst (v := 1) hx hb dX9_pass_49 (by decide) ?_
        refine lv_iload_n hx hb dX9_pass_50 rfl (lv_at hl 1 rfl) ?_
        refine lv_iconst (v := 0) hx hb dX9_pass_51 (by decide) ?_
        refine lv_iconst (v := 0) hx hb dX9_pass_52 (by decide) ?_
        refine nc_Vv (c_X9_happen hI hon0 hon1 hon2 hok (oEv_1) hd) hc hP hS hl.1 gd9_54 (nrecv (q := (RX9, TX9, 3)) hc (npic_eta hP) (nv_n hon2 (by decide) Nat.zero_lt_one) rfl rfl) ⟨rfl, rfl⟩ nok_X9_happen rfl ⟨Nat.le_of_ble_eq_true rfl, Nat.le_of_ble_eq_true rfl⟩ ⟨Nat.le_of_ble_eq_true rfl, Nat.le_of_ble_eq_true rfl⟩ dX9_pass_53 rfl (Nat.le_of_ble_eq_true rfl) (fun X1 H locs hp hP hS => ?_)
        replace hok : oOk (nJ S 1 a 0 0) := nJ_ok hok (oEv_1)
        rw [hp, nEv_J] at hP
        refine lv_aload_n hx hb dX9_pass_56 rfl (lv_at hl 0 rfl) ?_
        refine g9_10 hc hP (nv_n hon2 (by decide) Nat.zero_lt_one) dX9_pass_57 ?_
        refine g9_33 hc hP (nv_o hon0 (by decide) (by decide) Nat.zero_lt_one) dX9_pass_60 ?_
        refine g9_37 hc hP (nv_o hon0 (by decide) (by decide) Nat.zero_lt_one) dX9_pass_63 ?_
        exact ne_xi hc hP hS hr dX9_pass_66 (Nat.le_of_ble_eq_true rfl) (Nat.le_of_ble_eq_true rfl) ((nG_t (by clear hP hS hl hc hx hb hr htb; simp_all [-Int32.not_le, -Int32.not_lt, i32_lt, nb_t, nb_f, nb_z, nb_o])).trans ((nG_t (by clear hP hS hl hc hx hb hr htb; simp_all [-Int32.not_le, -Int32.not_lt, i32_lt, nb_t, nb_f, nb_z, nb_o])).trans (rfl)))
      · exact nt_throw hfl 1 (by decide) (by decide) (is := 60) (text := "the last day would be passed") (by decide) hc htb hP hS hl.1 dX9_pass_38 dX9_pass_41 dX9_pass_42 dX9_pass_44 dX9_pass_47 (Nat.le_of_ble_eq_true rfl) (Nat.le_of_ble_eq_true rfl) (Nat.le_of_ble_eq_true rfl) (Nat.le_of_ble_eq_true rfl) ((nG_t (by clear hP hS hl hc hx hb hr htb; simp_all [-Int32.not_le, -Int32.not_lt, i32_lt, nb_t, nb_f, nb_z, nb_o])).trans (nG_f (by clear hP hS hl hc hx hb hr htb; simp_all [-Int32.not_le, -Int32.not_lt, i32_lt, nb_t, nb_f, nb_z, nb_o]))) (Nat.le_of_ble_eq_true rfl) (Nat.le_of_ble_eq_true rfl)
    · exact nt_throw hfl 0 (by decide) (by decide) (is := 58) (text := "the number of days is out of range") (by decide) hc htb hP hS hl.1 dX9_pass_11 dX9_pass_14 dX9_pass_15 dX9_pass_17 dX9_pass_20 (Nat.le_of_ble_eq_true rfl) (Nat.le_of_ble_eq_true rfl) (Nat.le_of_ble_eq_true rfl) (Nat.le_of_ble_eq_true rfl) (nG_f (by clear hP hS hl hc hx hb hr htb; simp_all [-Int32.not_le, -Int32.not_lt, i32_lt, nb_t, nb_f, nb_z, nb_o])) (Nat.le_of_ble_eq_true rfl) (Nat.le_of_ble_eq_true rfl)
set_option maxHeartbeats 4000000 in
set_option maxRecDepth 100000 in
theorem c_X9_day (hfl : l.stackTraces = false) (hI : ninj ad on) (hon0 : on 0) (hon1 : on 1) (hon2 : on 2) (hok : oOk S) (hd : vp_in (X 2 21 0 4) 513) : nXi l D dA ad on yX9_day cX9_day 1 (some .int) (nrx 9 6) [.ref (ad 2 20 0)] (wdo X 0 S) 6 (fun r X' => (.inr (S 1 0 0, wdo X 0 S) : Nat ⊕ (Int32 × NWd)) = .inr (r, X')) (fun k => (.inr (S 1 0 0, wdo X 0 S) : Nat ⊕ (Int32 × NWd)) = .inl k) := by
  refine nX_of hI (by decide +kernel) (Nat.le_of_ble_eq_true rfl) ?_
  intro p e s m args below meth cd ls hc hr htb hP hl hS
  have hx := hc.1
  have hb := hc.2.1
  have hl : lv_has ls 1 [(0, .ref (ad 2 20 0))] := hl
  have hok0 := hok
  refine lv_aload_n hx hb dX9_day_0 rfl (lv_at hl 0 rfl) ?_
  refine g9_10 hc hP (nv_n hon2 (by decide) Nat.zero_lt_one) dX9_day_1 ?_
  refine g9_33 hc hP (nv_o hon0 (by decide) (by decide) Nat.zero_lt_one) dX9_day_4 ?_
  refine g9_37 hc hP (nv_o hon0 (by decide) (by decide) Nat.zero_lt_one) dX9_day_7 ?_
  exact ne_xi hc hP hS hr dX9_day_10 (Nat.le_of_ble_eq_true rfl) (Nat.le_of_ble_eq_true rfl) (rfl)
set_option maxHeartbeats 4000000 in
set_option maxRecDepth 100000 in
theorem c_X9_isOpen (hfl : l.stackTraces = false) (hI : ninj ad on) (hon0 : on 0) (hon1 : on 1) (hon2 : on 2) (hok : oOk S) (hd : vp_in (X 2 21 0 4) 513) : nXi l D dA ad on yX9_isOpen cX9_isOpen 1 (some .boolean) (nrx 9 6) [.ref (ad 2 20 0)] (wdo X 0 S) 6 (fun r X' => (.inr (nb (oOpen S), wdo X 0 S) : Nat ⊕ (Int32 × NWd)) = .inr (r, X')) (fun k => (.inr (nb (oOpen S), wdo X 0 S) : Nat ⊕ (Int32 × NWd)) = .inl k) := by
  refine nX_of hI (by decide +kernel) (Nat.le_of_ble_eq_true rfl) ?_
  intro p e s m args below meth cd ls hc hr htb hP hl hS
  have hx := hc.1
  have hb := hc.2.1
  have hl : lv_has ls 1 [(0, .ref (ad 2 20 0))] := hl
  have hok0 := hok
  refine lv_aload_n hx hb dX9_isOpen_0 rfl (lv_at hl 0 rfl) ?_
  refine g9_10 hc hP (nv_n hon2 (by decide) Nat.zero_lt_one) dX9_isOpen_1 ?_
  refine g9_33 hc hP (nv_o hon0 (by decide) (by decide) Nat.zero_lt_one) dX9_isOpen_4 ?_
  refine nc_Vi (c_X1_isBeforeClose hI hon0 (by decide) ) hc hP hS hl.1 gd9_62 (nrecv (q := (RX1, TX1, 4)) hc (npic_eta hP) (nv_o hon0 (by decide) (by decide) Nat.zero_lt_one) rfl rfl) ⟨rfl, rfl⟩ nok_X1_isBeforeClose rfl ⟨Nat.le_of_ble_eq_true rfl, Nat.le_of_ble_eq_true rfl⟩ ⟨Nat.le_of_ble_eq_true rfl, Nat.le_of_ble_eq_true rfl⟩ dX9_isOpen_7 rfl (Nat.le_of_ble_eq_true rfl) (fun r X1 H locs hp hP hS => ?_)
  obtain ⟨hr9, hX9⟩ := hp
  rw [hX9] at hP
  subst hr9
  exact ne_xz hc hP hS hr (nbz _) dX9_isOpen_10 (Nat.le_of_ble_eq_true rfl) (Nat.le_of_ble_eq_true rfl) (rfl)
set_option maxHeartbeats 4000000 in
set_option maxRecDepth 100000 in
theorem c_X9_addArea (hfl : l.stackTraces = false) (hI : ninj ad on) (hon0 : on 0) (hon1 : on 1) (hon2 : on 2) (hok : oOk S) (hd : vp_in (X 2 21 0 4) 513) {a b : Int32} : nXi l D dA ad on yX9_addArea cX9_addArea 3 (some .int) (nrx 9 6) [.ref (ad 2 20 0), .int a, .int b] (wdo X 0 S) 6 (fun r X' => (nG (decide (1 ≤ a) && decide (a ≤ 10) && decide (0 ≤ b) && decide (b ≤ 1000)) 0 (nG (decide (S 2 0 2 < 5)) 1 (.inr (nJ S 2 a b 0 2 0 2 - 1, nEv X S 2 a b 0))) : Nat ⊕ (Int32 × NWd)) = .inr (r, X')) (fun k => (nG (decide (1 ≤ a) && decide (a ≤ 10) && decide (0 ≤ b) && decide (b ≤ 1000)) 0 (nG (decide (S 2 0 2 < 5)) 1 (.inr (nJ S 2 a b 0 2 0 2 - 1, nEv X S 2 a b 0))) : Nat ⊕ (Int32 × NWd)) = .inl k) := by
  refine nX_of hI (by decide +kernel) (Nat.le_of_ble_eq_true rfl) ?_
  intro p e s m args below meth cd ls hc hr htb hP hl hS
  have hx := hc.1
  have hb := hc.2.1
  have hl : lv_has ls 3 [(0, .ref (ad 2 20 0)), (1, .int a), (2, .int b)] := hl
  have hok0 := hok
  refine lv_iload_n hx hb dX9_addArea_0 rfl (lv_at hl 1 rfl) ?_
  refine lv_iconst (v := 1) hx hb dX9_addArea_1 (by decide) ?_
  refine lv_icmp_lt (tgt := 22) hx hb dX9_addArea_2 (by decide) (fun c_2 => ?_) (fun c_2 => ?_)
  · exact nt_throw hfl 0 (by decide) (by decide) (is := 66) (text := "the number of signatures or the deposit is out of range") (by decide) hc htb hP hS hl.1 dX9_addArea_22 dX9_addArea_25 dX9_addArea_26 dX9_addArea_28 dX9_addArea_31 (Nat.le_of_ble_eq_true rfl) (Nat.le_of_ble_eq_true rfl) (Nat.le_of_ble_eq_true rfl) (Nat.le_of_ble_eq_true rfl) (nG_f (by clear hP hS hl hc hx hb hr htb; simp_all [-Int32.not_le, -Int32.not_lt, i32_lt, nb_t, nb_f, nb_z, nb_o])) (Nat.le_of_ble_eq_true rfl) (Nat.le_of_ble_eq_true rfl)
  · refine lv_iload_n hx hb dX9_addArea_5 rfl (lv_at hl 1 rfl) ?_
    refine lv_bipush (v := 10) hx hb dX9_addArea_6 (by decide) ?_
    refine lv_icmp_gt (tgt := 22) hx hb dX9_addArea_8 (by decide) (fun c_8 => ?_) (fun c_8 => ?_)
    · exact nt_throw hfl 0 (by decide) (by decide) (is := 66) (text := "the number of signatures or the deposit is out of range") (by decide) hc htb hP hS hl.1 dX9_addArea_22 dX9_addArea_25 dX9_addArea_26 dX9_addArea_28 dX9_addArea_31 (Nat.le_of_ble_eq_true rfl) (Nat.le_of_ble_eq_true rfl) (Nat.le_of_ble_eq_true rfl) (Nat.le_of_ble_eq_true rfl) (nG_f (by clear hP hS hl hc hx hb hr htb; simp_all [-Int32.not_le, -Int32.not_lt, i32_lt, nb_t, nb_f, nb_z, nb_o])) (Nat.le_of_ble_eq_true rfl) (Nat.le_of_ble_eq_true rfl)
    · refine lv_iload_n hx hb dX9_addArea_11 rfl (lv_at hl 2 rfl) ?_
      refine lv_if_lt (tgt := 22) hx hb dX9_addArea_12 (by decide) (fun c_12 => ?_) (fun c_12 => ?_)
      · exact nt_throw hfl 0 (by decide) (by decide) (is := 66) (text := "the number of signatures or the deposit is out of range") (by decide) hc htb hP hS hl.1 dX9_addArea_22 dX9_addArea_25 dX9_addArea_26 dX9_addArea_28 dX9_addArea_31 (Nat.le_of_ble_eq_true rfl) (Nat.le_of_ble_eq_true rfl) (Nat.le_of_ble_eq_true rfl) (Nat.le_of_ble_eq_true rfl) (nG_f (by clear hP hS hl hc hx hb hr htb; simp_all [-Int32.not_le, -Int32.not_lt, i32_lt, nb_t, nb_f, nb_z, nb_o])) (Nat.le_of_ble_eq_true rfl) (Nat.le_of_ble_eq_true rfl)
      · refine lv_iload_n hx hb dX9_addArea_15 rfl (lv_at hl 2 rfl) ?_
        refine lv_sipush (v := 1000) hx hb dX9_addArea_16 (by decide) ?_
        refine lv_icmp_le (tgt := 32) hx hb dX9_addArea_19 (by decide) (fun c_19 => ?_) (fun c_19 => ?_)
        · refine lv_aload_n hx hb dX9_addArea_32 rfl (lv_at hl 0 rfl) ?_
          refine g9_10 hc hP (nv_n hon2 (by decide) Nat.zero_lt_one) dX9_addArea_33 ?_
          refine g9_68 hc hP (nv_o hon0 (by decide) (by decide) Nat.zero_lt_one) dX9_addArea_36 ?_
          refine g9_72 hc hP (nv_o hon0 (by decide) (by decide) Nat.zero_lt_one) dX9_addArea_39 ?_
          refine lv_iconst (v := 5) hx hb dX9_addArea_42 (by decide) ?_
          refine lv_icmp_lt (tgt := 56) hx hb dX9_addArea_43 (by decide) (fun c_43 => ?_) (fun c_43 => ?_)
          · refine lv_aload_n hx hb dX9_addArea_56 rfl (lv_at hl 0 rfl) ?_
            refine lv_iconst (v := 2) hx hb dX9_addArea_57 (by decide) ?_
            refine lv_iload_n hx hb dX9_addArea_58 rfl (lv_at hl 1 rfl) ?_
            refine lv_iload_n hx hb dX9_addArea_59 rfl (lv_at hl 2 rfl) ?_
            refine lv_iconst (v := 0) hx hb dX9_addArea_60 (by decide) ?_
            refine nc_Vv (c_X9_happen hI hon0 hon1 hon2 hok (oEv_2 (lt_of_i hok0.na hok0.naL (m := 5) (by decide) c_43)) hd) hc hP hS hl.1 gd9_54 (nrecv (q := (RX9, TX9, 3)) hc (npic_eta hP) (nv_n hon2 (by decide) Nat.zero_lt_one) rfl rfl) ⟨rfl, rfl⟩ nok_X9_happen rfl ⟨Nat.le_of_ble_eq_true rfl, Nat.le_of_ble_eq_true rfl⟩ ⟨Nat.le_of_ble_eq_true rfl, Nat.le_of_ble_eq_true rfl⟩ dX9_addArea_61 rfl (Nat.le_of_ble_eq_true rfl) (fun X1 H locs hp hP hS => ?_)
            replace hok : oOk (nJ S 2 a b 0) := nJ_ok hok (oEv_2 (lt_of_i hok0.na hok0.naL (m := 5) (by decide) c_43))
            rw [hp, nEv_J] at hP
            refine lv_aload_n hx hb dX9_addArea_64 rfl (lv_at hl 0 rfl) ?_
            refine g9_10 hc hP (nv_n hon2 (by decide) Nat.zero_lt_one) dX9_addArea_65 ?_
            refine g9_68 hc hP (nv_o hon0 (by decide) (by decide) Nat.zero_lt_one) dX9_addArea_68 ?_
            refine g9_72 hc hP (nv_o hon0 (by decide) (by decide) Nat.zero_lt_one) dX9_addArea_71 ?_
            refine lv_iconst (v := 1) hx hb dX9_addArea_74 (by decide) ?_
            refine lv_isub hx hb dX9_addArea_75 ?_
            exact ne_xi hc hP hS hr dX9_addArea_76 (Nat.le_of_ble_eq_true rfl) (Nat.le_of_ble_eq_true rfl) ((nG_t (by clear hP hS hl hc hx hb hr htb; simp_all [-Int32.not_le, -Int32.not_lt, i32_lt, nb_t, nb_f, nb_z, nb_o])).trans ((nG_t (by clear hP hS hl hc hx hb hr htb; simp_all [-Int32.not_le, -Int32.not_lt, i32_lt, nb_t, nb_f, nb_z, nb_o])).trans (rfl)))
          · exact nt_throw hfl 1 (by decide) (by decide) (is := 77) (text := "there are 5 areas") (by decide) hc htb hP hS hl.1 dX9_addArea_46 dX9_addArea_49 dX9_addArea_50 dX9_addArea_52 dX9_addArea_55 (Nat.le_of_ble_eq_true rfl) (Nat.le_of_ble_eq_true rfl) (Nat.le_of_ble_eq_true rfl) (Nat.le_of_ble_eq_true rfl) ((nG_t (by clear hP hS hl hc hx hb hr htb; simp_all [-Int32.not_le, -Int32.not_lt, i32_lt, nb_t, nb_f, nb_z, nb_o])).trans (nG_f (by clear hP hS hl hc hx hb hr htb; simp_all [-Int32.not_le, -Int32.not_lt, i32_lt, nb_t, nb_f, nb_z, nb_o]))) (Nat.le_of_ble_eq_true rfl) (Nat.le_of_ble_eq_true rfl)
        · exact nt_throw hfl 0 (by decide) (by decide) (is := 66) (text := "the number of signatures or the deposit is out of range") (by decide) hc htb hP hS hl.1 dX9_addArea_22 dX9_addArea_25 dX9_addArea_26 dX9_addArea_28 dX9_addArea_31 (Nat.le_of_ble_eq_true rfl) (Nat.le_of_ble_eq_true rfl) (Nat.le_of_ble_eq_true rfl) (Nat.le_of_ble_eq_true rfl) (nG_f (by clear hP hS hl hc hx hb hr htb; simp_all [-Int32.not_le, -Int32.not_lt, i32_lt, nb_t, nb_f, nb_z, nb_o])) (Nat.le_of_ble_eq_true rfl) (Nat.le_of_ble_eq_true rfl)
set_option maxHeartbeats 4000000 in
set_option maxRecDepth 100000 in
theorem c_X9_addVoter (hfl : l.stackTraces = false) (hI : ninj ad on) (hon0 : on 0) (hon1 : on 1) (hon2 : on 2) (hok : oOk S) (hd : vp_in (X 2 21 0 4) 513) {a : Int32} : nXi l D dA ad on yX9_addVoter cX9_addVoter 2 (some .int) (nrx 9 6) [.ref (ad 2 20 0), .int a] (wdo X 0 S) 6 (fun r X' => (nG (inB a (ona S)) 2 (nG (decide (S 2 0 3 < 40)) 1 (.inr (nJ S 3 a 0 0 2 0 3 - 1, nEv X S 3 a 0 0))) : Nat ⊕ (Int32 × NWd)) = .inr (r, X')) (fun k => (nG (inB a (ona S)) 2 (nG (decide (S 2 0 3 < 40)) 1 (.inr (nJ S 3 a 0 0 2 0 3 - 1, nEv X S 3 a 0 0))) : Nat ⊕ (Int32 × NWd)) = .inl k) := by
  refine nX_of hI (by decide +kernel) (Nat.le_of_ble_eq_true rfl) ?_
  intro p e s m args below meth cd ls hc hr htb hP hl hS
  have hx := hc.1
  have hb := hc.2.1
  have hl : lv_has ls 2 [(0, .ref (ad 2 20 0)), (1, .int a)] := hl
  have hok0 := hok
  refine lv_aload_n hx hb dX9_addVoter_0 rfl (lv_at hl 0 rfl) ?_
  refine lv_iload_n hx hb dX9_addVoter_1 rfl (lv_at hl 1 rfl) ?_
  refine nc_XVv (mc := 1) (c_X9_needArea hfl hI hon0 hon1 hon2 hok) hc htb hP hS hl.1 gd9_79 (nrecv (q := (RX9, TX9, 3)) hc (npic_eta hP) (nv_n hon2 (by decide) Nat.zero_lt_one) rfl rfl) ⟨rfl, rfl⟩ nok_X9_needArea rfl ⟨Nat.le_of_ble_eq_true rfl, Nat.le_of_ble_eq_true rfl⟩ ⟨Nat.le_of_ble_eq_true rfl, Nat.le_of_ble_eq_true rfl⟩ ⟨Nat.le_of_ble_eq_true rfl, Nat.le_of_ble_eq_true rfl⟩ dX9_addVoter_2 rfl (Nat.le_of_ble_eq_true rfl) (fun k9 h9 => by rw [h9.1]; exact nG_f h9.2) (fun X1 H locs hp hP hS => ?_)
  obtain ⟨h_2, hX9⟩ := hp
  rw [hX9] at hP
  refine lv_aload_n hx hb dX9_addVoter_5 rfl (lv_at hl 0 rfl) ?_
  refine g9_10 hc hP (nv_n hon2 (by decide) Nat.zero_lt_one) dX9_addVoter_6 ?_
  refine g9_68 hc hP (nv_o hon0 (by decide) (by decide) Nat.zero_lt_one) dX9_addVoter_9 ?_
  refine g9_83 hc hP (nv_o hon0 (by decide) (by decide) Nat.zero_lt_one) dX9_addVoter_12 ?_
  refine lv_bipush (v := 40) hx hb dX9_addVoter_15 (by decide) ?_
  refine lv_icmp_lt (tgt := 30) hx hb dX9_addVoter_17 (by decide) (fun c_17 => ?_) (fun c_17 => ?_)
  · refine lv_aload_n hx hb dX9_addVoter_30 rfl (lv_at hl 0 rfl) ?_
    refine lv_iconst (v := 3) hx hb dX9_addVoter_31 (by decide) ?_
    refine lv_iload_n hx hb dX9_addVoter_32 rfl (lv_at hl 1 rfl) ?_
    refine lv_iconst (v := 0) hx hb dX9_addVoter_33 (by decide) ?_
    refine lv_iconst (v := 0) hx hb dX9_addVoter_34 (by decide) ?_
    refine nc_Vv (c_X9_happen hI hon0 hon1 hon2 hok (oEv_3 (lt_of_i hok0.nv hok0.nvL (m := 40) (by decide) c_17)) hd) hc hP hS hl.1 gd9_54 (nrecv (q := (RX9, TX9, 3)) hc (npic_eta hP) (nv_n hon2 (by decide) Nat.zero_lt_one) rfl rfl) ⟨rfl, rfl⟩ nok_X9_happen rfl ⟨Nat.le_of_ble_eq_true rfl, Nat.le_of_ble_eq_true rfl⟩ ⟨Nat.le_of_ble_eq_true rfl, Nat.le_of_ble_eq_true rfl⟩ dX9_addVoter_35 rfl (Nat.le_of_ble_eq_true rfl) (fun X1 H locs hp hP hS => ?_)
    replace hok : oOk (nJ S 3 a 0 0) := nJ_ok hok (oEv_3 (lt_of_i hok0.nv hok0.nvL (m := 40) (by decide) c_17))
    rw [hp, nEv_J] at hP
    refine lv_aload_n hx hb dX9_addVoter_38 rfl (lv_at hl 0 rfl) ?_
    refine g9_10 hc hP (nv_n hon2 (by decide) Nat.zero_lt_one) dX9_addVoter_39 ?_
    refine g9_68 hc hP (nv_o hon0 (by decide) (by decide) Nat.zero_lt_one) dX9_addVoter_42 ?_
    refine g9_83 hc hP (nv_o hon0 (by decide) (by decide) Nat.zero_lt_one) dX9_addVoter_45 ?_
    refine lv_iconst (v := 1) hx hb dX9_addVoter_48 (by decide) ?_
    refine lv_isub hx hb dX9_addVoter_49 ?_
    exact ne_xi hc hP hS hr dX9_addVoter_50 (Nat.le_of_ble_eq_true rfl) (Nat.le_of_ble_eq_true rfl) ((nG_t h_2).trans ((nG_t (by clear hP hS hl hc hx hb hr htb; simp_all [-Int32.not_le, -Int32.not_lt, i32_lt, nb_t, nb_f, nb_z, nb_o])).trans (rfl)))
  · exact nt_throw hfl 1 (by decide) (by decide) (is := 86) (text := "there are 40 voters") (by decide) hc htb hP hS hl.1 dX9_addVoter_20 dX9_addVoter_23 dX9_addVoter_24 dX9_addVoter_26 dX9_addVoter_29 (Nat.le_of_ble_eq_true rfl) (Nat.le_of_ble_eq_true rfl) (Nat.le_of_ble_eq_true rfl) (Nat.le_of_ble_eq_true rfl) ((nG_t h_2).trans (nG_f (by clear hP hS hl hc hx hb hr htb; simp_all [-Int32.not_le, -Int32.not_lt, i32_lt, nb_t, nb_f, nb_z, nb_o]))) (Nat.le_of_ble_eq_true rfl) (Nat.le_of_ble_eq_true rfl)
set_option maxHeartbeats 4000000 in
set_option maxRecDepth 100000 in
theorem c_X9_move (hfl : l.stackTraces = false) (hI : ninj ad on) (hon0 : on 0) (hon1 : on 1) (hon2 : on 2) (hok : oOk S) (hd : vp_in (X 2 21 0 4) 513) {v a : Int32} : nXi l D dA ad on yX9_move cX9_move 4 (some .int) (nrx 9 6) [.ref (ad 2 20 0), .int v, .int a] (wdo X 0 S) 6 (fun r X' => (nG (inB v (onv S)) 2 (nG (inB a (ona S)) 2 (nG (!decide (S 6 (nix v) 0 = a)) 3 (.inr (S 6 (nix v) 0, nEv X S 4 v a 0)))) : Nat ⊕ (Int32 × NWd)) = .inr (r, X')) (fun k => (nG (inB v (onv S)) 2 (nG (inB a (ona S)) 2 (nG (!decide (S 6 (nix v) 0 = a)) 3 (.inr (S 6 (nix v) 0, nEv X S 4 v a 0)))) : Nat ⊕ (Int32 × NWd)) = .inl k) := by
  refine nX_of hI (by decide +kernel) (Nat.le_of_ble_eq_true rfl) ?_
  intro p e s m args below meth cd ls hc hr htb hP hl hS
  have hx := hc.1
  have hb := hc.2.1
  have hl : lv_has ls 4 [(0, .ref (ad 2 20 0)), (1, .int v), (2, .int a)] := hl
  have hok0 := hok
  refine lv_aload_n hx hb dX9_move_0 rfl (lv_at hl 0 rfl) ?_
  refine lv_iload_n hx hb dX9_move_1 rfl (lv_at hl 1 rfl) ?_
  refine nc_XVv (mc := 1) (c_X9_needVoter hfl hI hon0 hon1 hon2 hok) hc htb hP hS hl.1 gd9_88 (nrecv (q := (RX9, TX9, 3)) hc (npic_eta hP) (nv_n hon2 (by decide) Nat.zero_lt_one) rfl rfl) ⟨rfl, rfl⟩ nok_X9_needVoter rfl ⟨Nat.le_of_ble_eq_true rfl, Nat.le_of_ble_eq_true rfl⟩ ⟨Nat.le_of_ble_eq_true rfl, Nat.le_of_ble_eq_true rfl⟩ ⟨Nat.le_of_ble_eq_true rfl, Nat.le_of_ble_eq_true rfl⟩ dX9_move_2 rfl (Nat.le_of_ble_eq_true rfl) (fun k9 h9 => by rw [h9.1]; exact nG_f h9.2) (fun X1 H locs hp hP hS => ?_)
  obtain ⟨h_2, hX9⟩ := hp
  rw [hX9] at hP
  refine lv_aload_n hx hb dX9_move_5 rfl (lv_at hl 0 rfl) ?_
  refine lv_iload_n hx hb dX9_move_6 rfl (lv_at hl 2 rfl) ?_
  refine nc_XVv (mc := 1) (c_X9_needArea hfl hI hon0 hon1 hon2 hok) hc htb hP hS hl.1 gd9_79 (nrecv (q := (RX9, TX9, 3)) hc (npic_eta hP) (nv_n hon2 (by decide) Nat.zero_lt_one) rfl rfl) ⟨rfl, rfl⟩ nok_X9_needArea rfl ⟨Nat.le_of_ble_eq_true rfl, Nat.le_of_ble_eq_true rfl⟩ ⟨Nat.le_of_ble_eq_true rfl, Nat.le_of_ble_eq_true rfl⟩ ⟨Nat.le_of_ble_eq_true rfl, Nat.le_of_ble_eq_true rfl⟩ dX9_move_7 rfl (Nat.le_of_ble_eq_true rfl) (fun k9 h9 => by rw [h9.1]; exact (nG_t h_2).trans (nG_f h9.2)) (fun X1 H locs hp hP hS => ?_)
  obtain ⟨h_7, hX9⟩ := hp
  rw [hX9] at hP
  refine lv_aload_n hx hb dX9_move_10 rfl (lv_at hl 0 rfl) ?_
  refine g9_10 hc hP (nv_n hon2 (by decide) Nat.zero_lt_one) dX9_move_11 ?_
  refine g9_68 hc hP (nv_o hon0 (by decide) (by decide) Nat.zero_lt_one) dX9_move_14 ?_
  refine g9_91 hc hP (nv_o hon0 (by decide) (by decide) Nat.zero_lt_one) dX9_move_17 ?_
  refine lv_iload_n hx hb dX9_move_20 rfl (lv_at hl 1 rfl) ?_
  refine ga_5 hc hP (nv_o hon0 (by decide) (by decide) Nat.zero_lt_one) (vp_mono (inB_t.mp h_2) hok0.nv40) dX9_move_21 ?_
  refine g9_95 hc hP (nv_o hon0 (by decide) (by decide) (vp_lt (vp_mono (inB_t.mp h_2) hok0.nv40))) dX9_move_22 ?_
  refine lv_istore_n (lv' := [(3, .int _), (0, .ref _), (1, .int _), (2, .int _)]) hx hb dX9_move_25 rfl hl (by decide) rfl (fun ls hl => ?_)
  refine lv_iload_n hx hb dX9_move_26 rfl (lv_at hl 0 rfl) ?_
  refine lv_iload_n hx hb dX9_move_27 rfl (lv_at hl 3 rfl) ?_
  refine lv_icmp_ne (tgt := 41) hx hb dX9_move_28 (by decide) (fun c_28 => ?_) (fun c_28 => ?_)
  · refine lv_aload_n hx hb dX9_move_41 rfl (lv_at hl 1 rfl) ?_
    refine lv_iconst (v := 4) hx hb dX9_move_42 (by decide) ?_
    refine lv_iload_n hx hb dX9_move_43 rfl (lv_at hl 2 rfl) ?_
    refine lv_iload_n hx hb dX9_move_44 rfl (lv_at hl 3 rfl) ?_
    refine lv_iconst (v := 0) hx hb dX9_move_45 (by decide) ?_
    refine nc_Vv (c_X9_happen hI hon0 hon1 hon2 hok (oEv_4 (inB_t.mp h_2)) hd) hc hP hS hl.1 gd9_54 (nrecv (q := (RX9, TX9, 3)) hc (npic_eta hP) (nv_n hon2 (by decide) Nat.zero_lt_one) rfl rfl) ⟨rfl, rfl⟩ nok_X9_happen rfl ⟨Nat.le_of_ble_eq_true rfl, Nat.le_of_ble_eq_true rfl⟩ ⟨Nat.le_of_ble_eq_true rfl, Nat.le_of_ble_eq_true rfl⟩ dX9_move_46 rfl (Nat.le_of_ble_eq_true rfl) (fun X1 H locs hp hP hS => ?_)
    replace hok : oOk (nJ S 4 v a 0) := nJ_ok hok (oEv_4 (inB_t.mp h_2))
    rw [hp, nEv_J] at hP
    refine lv_iload_n hx hb dX9_move_49 rfl (lv_at hl 0 rfl) ?_
    exact ne_xi hc hP hS hr dX9_move_50 (Nat.le_of_ble_eq_true rfl) (Nat.le_of_ble_eq_true rfl) ((nG_t h_2).trans ((nG_t h_7).trans ((nG_t (by clear hP hS hl hc hx hb hr htb; simp_all [-Int32.not_le, -Int32.not_lt, i32_lt, nb_t, nb_f, nb_z, nb_o])).trans (rfl))))
  · exact nt_throw hfl 3 (by decide) (by decide) (is := 102) (text := "the voter is in this area") (by decide) hc htb hP hS hl.1 dX9_move_31 dX9_move_34 dX9_move_35 dX9_move_37 dX9_move_40 (Nat.le_of_ble_eq_true rfl) (Nat.le_of_ble_eq_true rfl) (Nat.le_of_ble_eq_true rfl) (Nat.le_of_ble_eq_true rfl) ((nG_t h_2).trans ((nG_t h_7).trans (nG_f (by clear hP hS hl hc hx hb hr htb; simp_all [-Int32.not_le, -Int32.not_lt, i32_lt, nb_t, nb_f, nb_z, nb_o])))) (Nat.le_of_ble_eq_true rfl) (Nat.le_of_ble_eq_true rfl)
set_option maxHeartbeats 4000000 in
set_option maxRecDepth 100000 in
theorem c_X9_strike (hfl : l.stackTraces = false) (hI : ninj ad on) (hon0 : on 0) (hon1 : on 1) (hon2 : on 2) (hok : oOk S) (hd : vp_in (X 2 21 0 4) 513) {v : Int32} : nXi l D dA ad on yX9_strike cX9_strike 2 (some .int) (nrx 9 6) [.ref (ad 2 20 0), .int v] (wdo X 0 S) 6 (fun r X' => (nG (inB v (onv S)) 2 (nG (!decide (S 6 (nix v) 1 = 0)) 1 (.inr (oRoll (nJ S 5 v 0 0), nEv X S 5 v 0 0))) : Nat ⊕ (Int32 × NWd)) = .inr (r, X')) (fun k => (nG (inB v (onv S)) 2 (nG (!decide (S 6 (nix v) 1 = 0)) 1 (.inr (oRoll (nJ S 5 v 0 0), nEv X S 5 v 0 0))) : Nat ⊕ (Int32 × NWd)) = .inl k) := by
  refine nX_of hI (by decide +kernel) (Nat.le_of_ble_eq_true rfl) ?_
  intro p e s m args below meth cd ls hc hr htb hP hl hS
  have hx := hc.1
  have hb := hc.2.1
  have hl : lv_has ls 2 [(0, .ref (ad 2 20 0)), (1, .int v)] := hl
  have hok0 := hok
  refine lv_aload_n hx hb dX9_strike_0 rfl (lv_at hl 0 rfl) ?_
  refine lv_iload_n hx hb dX9_strike_1 rfl (lv_at hl 1 rfl) ?_
  refine nc_XVv (mc := 1) (c_X9_needVoter hfl hI hon0 hon1 hon2 hok) hc htb hP hS hl.1 gd9_88 (nrecv (q := (RX9, TX9, 3)) hc (npic_eta hP) (nv_n hon2 (by decide) Nat.zero_lt_one) rfl rfl) ⟨rfl, rfl⟩ nok_X9_needVoter rfl ⟨Nat.le_of_ble_eq_true rfl, Nat.le_of_ble_eq_true rfl⟩ ⟨Nat.le_of_ble_eq_true rfl, Nat.le_of_ble_eq_true rfl⟩ ⟨Nat.le_of_ble_eq_true rfl, Nat.le_of_ble_eq_true rfl⟩ dX9_strike_2 rfl (Nat.le_of_ble_eq_true rfl) (fun k9 h9 => by rw [h9.1]; exact nG_f h9.2) (fun X1 H locs hp hP hS => ?_)
  obtain ⟨h_2, hX9⟩ := hp
  rw [hX9] at hP
  refine lv_aload_n hx hb dX9_strike_5 rfl (lv_at hl 0 rfl) ?_
  refine g9_10 hc hP (nv_n hon2 (by decide) Nat.zero_lt_one) dX9_strike_6 ?_
  refine g9_68 hc hP (nv_o hon0 (by decide) (by decide) Nat.zero_lt_one) dX9_strike_9 ?_
  refine g9_91 hc hP (nv_o hon0 (by decide) (by decide) Nat.zero_lt_one) dX9_strike_12 ?_
  refine lv_iload_n hx hb dX9_strike_15 rfl (lv_at hl 1 rfl) ?_
  refine ga_5 hc hP (nv_o hon0 (by decide) (by decide) Nat.zero_lt_one) (vp_mono (inB_t.mp h_2) hok0.nv40) dX9_strike_16 ?_
  refine g9_105 hc hP (nv_o hon0 (by decide) (by decide) (vp_lt (vp_mono (inB_t.mp h_2) hok0.nv40))) dX9_strike_17 ?_
  refine lv_if_ne (tgt := 33) hx hb dX9_strike_20 (by decide) (fun c_20 => ?_) (fun c_20 => ?_)
  · refine lv_aload_n hx hb dX9_strike_33 rfl (lv_at hl 0 rfl) ?_
    refine lv_iconst (v := 5) hx hb dX9_strike_34 (by decide) ?_
    refine lv_iload_n hx hb dX9_strike_35 rfl (lv_at hl 1 rfl) ?_
    refine lv_iconst (v := 0) hx hb dX9_strike_36 (by decide) ?_
    refine lv_iconst (v := 0) hx hb dX9_strike_37 (by decide) ?_
    refine nc_Vv (c_X9_happen hI hon0 hon1 hon2 hok (oEv_5 (inB_t.mp h_2)) hd) hc hP hS hl.1 gd9_54 (nrecv (q := (RX9, TX9, 3)) hc (npic_eta hP) (nv_n hon2 (by decide) Nat.zero_lt_one) rfl rfl) ⟨rfl, rfl⟩ nok_X9_happen rfl ⟨Nat.le_of_ble_eq_true rfl, Nat.le_of_ble_eq_true rfl⟩ ⟨Nat.le_of_ble_eq_true rfl, Nat.le_of_ble_eq_true rfl⟩ dX9_strike_38 rfl (Nat.le_of_ble_eq_true rfl) (fun X1 H locs hp hP hS => ?_)
    replace hok : oOk (nJ S 5 v 0 0) := nJ_ok hok (oEv_5 (inB_t.mp h_2))
    rw [hp, nEv_J] at hP
    refine lv_aload_n hx hb dX9_strike_41 rfl (lv_at hl 0 rfl) ?_
    refine g9_10 hc hP (nv_n hon2 (by decide) Nat.zero_lt_one) dX9_strike_42 ?_
    refine g9_68 hc hP (nv_o hon0 (by decide) (by decide) Nat.zero_lt_one) dX9_strike_45 ?_
    refine nc_Vi (c_X6_countOnRoll hI hon0 (by decide) hok) hc hP hS hl.1 gd9_111 (nrecv (q := (RX6, TX6, 4)) hc (npic_eta hP) (nv_o hon0 (by decide) (by decide) Nat.zero_lt_one) rfl rfl) ⟨rfl, rfl⟩ nok_X6_countOnRoll rfl ⟨Nat.le_of_ble_eq_true rfl, Nat.le_of_ble_eq_true rfl⟩ ⟨Nat.le_of_ble_eq_true rfl, Nat.le_of_ble_eq_true rfl⟩ dX9_strike_48 rfl (Nat.le_of_ble_eq_true rfl) (fun r X1 H locs hp hP hS => ?_)
    obtain ⟨hr9, hX9⟩ := hp
    rw [hX9] at hP
    subst hr9
    exact ne_xi hc hP hS hr dX9_strike_51 (Nat.le_of_ble_eq_true rfl) (Nat.le_of_ble_eq_true rfl) ((nG_t h_2).trans ((nG_t (by clear hP hS hl hc hx hb hr htb; simp_all [-Int32.not_le, -Int32.not_lt, i32_lt, nb_t, nb_f, nb_z, nb_o])).trans (rfl)))
  · exact nt_throw hfl 1 (by decide) (by decide) (is := 109) (text := "the voter is struck off") (by decide) hc htb hP hS hl.1 dX9_strike_23 dX9_strike_26 dX9_strike_27 dX9_strike_29 dX9_strike_32 (Nat.le_of_ble_eq_true rfl) (Nat.le_of_ble_eq_true rfl) (Nat.le_of_ble_eq_true rfl) (Nat.le_of_ble_eq_true rfl) ((nG_t h_2).trans (nG_f (by clear hP hS hl hc hx hb hr htb; simp_all [-Int32.not_le, -Int32.not_lt, i32_lt, nb_t, nb_f, nb_z, nb_o]))) (Nat.le_of_ble_eq_true rfl) (Nat.le_of_ble_eq_true rfl)
set_option maxHeartbeats 4000000 in
set_option maxRecDepth 100000 in
theorem c_X9_restore (hfl : l.stackTraces = false) (hI : ninj ad on) (hon0 : on 0) (hon1 : on 1) (hon2 : on 2) (hok : oOk S) (hd : vp_in (X 2 21 0 4) 513) {v : Int32} : nXi l D dA ad on yX9_restore cX9_restore 2 (some .int) (nrx 9 6) [.ref (ad 2 20 0), .int v] (wdo X 0 S) 6 (fun r X' => (nG (inB v (onv S)) 2 (nG (decide (S 6 (nix v) 1 = 0)) 1 (.inr (oRoll (nJ S 6 v 0 0), nEv X S 6 v 0 0))) : Nat ⊕ (Int32 × NWd)) = .inr (r, X')) (fun k => (nG (inB v (onv S)) 2 (nG (decide (S 6 (nix v) 1 = 0)) 1 (.inr (oRoll (nJ S 6 v 0 0), nEv X S 6 v 0 0))) : Nat ⊕ (Int32 × NWd)) = .inl k) := by
  refine nX_of hI (by decide +kernel) (Nat.le_of_ble_eq_true rfl) ?_
  intro p e s m args below meth cd ls hc hr htb hP hl hS
  have hx := hc.1
  have hb := hc.2.1
  have hl : lv_has ls 2 [(0, .ref (ad 2 20 0)), (1, .int v)] := hl
  have hok0 := hok
  refine lv_aload_n hx hb dX9_restore_0 rfl (lv_at hl 0 rfl) ?_
  refine lv_iload_n hx hb dX9_restore_1 rfl (lv_at hl 1 rfl) ?_
  refine nc_XVv (mc := 1) (c_X9_needVoter hfl hI hon0 hon1 hon2 hok) hc htb hP hS hl.1 gd9_88 (nrecv (q := (RX9, TX9, 3)) hc (npic_eta hP) (nv_n hon2 (by decide) Nat.zero_lt_one) rfl rfl) ⟨rfl, rfl⟩ nok_X9_needVoter rfl ⟨Nat.le_of_ble_eq_true rfl, Nat.le_of_ble_eq_true rfl⟩ ⟨Nat.le_of_ble_eq_true rfl, Nat.le_of_ble_eq_true rfl⟩ ⟨Nat.le_of_ble_eq_true rfl, Nat.le_of_ble_eq_true rfl⟩ dX9_restore_2 rfl (Nat.le_of_ble_eq_true rfl) (fun k9 h9 => by rw [h9.1]; exact nG_f h9.2) (fun X1 H locs hp hP hS => ?_)
  obtain ⟨h_2, hX9⟩ := hp
  rw [hX9] at hP
  refine lv_aload_n hx hb dX9_restore_5 rfl (lv_at hl 0 rfl) ?_
  refine g9_10 hc hP (nv_n hon2 (by decide) Nat.zero_lt_one) dX9_restore_6 ?_
  refine g9_68 hc hP (nv_o hon0 (by decide) (by decide) Nat.zero_lt_one) dX9_restore_9 ?_
  refine g9_91 hc hP (nv_o hon0 (by decide) (by decide) Nat.zero_lt_one) dX9_restore_12 ?_
  refine lv_iload_n hx hb dX9_restore_15 rfl (lv_at hl 1 rfl) ?_
  refine ga_5 hc hP (nv_o hon0 (by decide) (by decide) Nat.zero_lt_one) (vp_mono (inB_t.mp h_2) hok0.nv40) dX9_restore_16 ?_
  refine g9_105 hc hP (nv_o hon0 (by decide) (by decide) (vp_lt (vp_mono (inB_t.mp h_2) hok0.nv40))) dX9_restore_17 ?_
  refine lv_if_eq (tgt := 33) hx hb dX9_restore_20 (by decide) (fun c_20 => ?_) (fun c_20 => ?_)
  · refine lv_aload_n hx hb dX9_restore_33 rfl (lv_at hl 0 rfl) ?_
    refine lv_bipush (v := 6) hx hb dX9_restore_34 (by decide) ?_
    refine lv_iload_n hx hb dX9_restore_36 rfl (lv_at hl 1 rfl) ?_
    refine lv_iconst (v := 0) hx hb dX9_restore_37 (by decide) ?_
    refine lv_iconst (v := 0) hx hb dX9_restore_38 (by decide) ?_
    refine nc_Vv (c_X9_happen hI hon0 hon1 hon2 hok (oEv_6 (inB_t.mp h_2)) hd) hc hP hS hl.1 gd9_54 (nrecv (q := (RX9, TX9, 3)) hc (npic_eta hP) (nv_n hon2 (by decide) Nat.zero_lt_one) rfl rfl) ⟨rfl, rfl⟩ nok_X9_happen rfl ⟨Nat.le_of_ble_eq_true rfl, Nat.le_of_ble_eq_true rfl⟩ ⟨Nat.le_of_ble_eq_true rfl, Nat.le_of_ble_eq_true rfl⟩ dX9_restore_39 rfl (Nat.le_of_ble_eq_true rfl) (fun X1 H locs hp hP hS => ?_)
    replace hok : oOk (nJ S 6 v 0 0) := nJ_ok hok (oEv_6 (inB_t.mp h_2))
    rw [hp, nEv_J] at hP
    refine lv_aload_n hx hb dX9_restore_42 rfl (lv_at hl 0 rfl) ?_
    refine g9_10 hc hP (nv_n hon2 (by decide) Nat.zero_lt_one) dX9_restore_43 ?_
    refine g9_68 hc hP (nv_o hon0 (by decide) (by decide) Nat.zero_lt_one) dX9_restore_46 ?_
    refine nc_Vi (c_X6_countOnRoll hI hon0 (by decide) hok) hc hP hS hl.1 gd9_111 (nrecv (q := (RX6, TX6, 4)) hc (npic_eta hP) (nv_o hon0 (by decide) (by decide) Nat.zero_lt_one) rfl rfl) ⟨rfl, rfl⟩ nok_X6_countOnRoll rfl ⟨Nat.le_of_ble_eq_true rfl, Nat.le_of_ble_eq_true rfl⟩ ⟨Nat.le_of_ble_eq_true rfl, Nat.le_of_ble_eq_true rfl⟩ dX9_restore_49 rfl (Nat.le_of_ble_eq_true rfl) (fun r X1 H locs hp hP hS => ?_)
    obtain ⟨hr9, hX9⟩ := hp
    rw [hX9] at hP
    subst hr9
    exact ne_xi hc hP hS hr dX9_restore_52 (Nat.le_of_ble_eq_true rfl) (Nat.le_of_ble_eq_true rfl) ((nG_t h_2).trans ((nG_t (by clear hP hS hl hc hx hb hr htb; simp_all [-Int32.not_le, -Int32.not_lt, i32_lt, nb_t, nb_f, nb_z, nb_o])).trans (rfl)))
  · exact nt_throw hfl 1 (by decide) (by decide) (is := 115) (text := "the voter is on the roll") (by decide) hc htb hP hS hl.1 dX9_restore_23 dX9_restore_26 dX9_restore_27 dX9_restore_29 dX9_restore_32 (Nat.le_of_ble_eq_true rfl) (Nat.le_of_ble_eq_true rfl) (Nat.le_of_ble_eq_true rfl) (Nat.le_of_ble_eq_true rfl) ((nG_t h_2).trans (nG_f (by clear hP hS hl hc hx hb hr htb; simp_all [-Int32.not_le, -Int32.not_lt, i32_lt, nb_t, nb_f, nb_z, nb_o]))) (Nat.le_of_ble_eq_true rfl) (Nat.le_of_ble_eq_true rfl)
set_option maxHeartbeats 4000000 in
set_option maxRecDepth 100000 in
theorem c_X9_areaOf (hfl : l.stackTraces = false) (hI : ninj ad on) (hon0 : on 0) (hon1 : on 1) (hon2 : on 2) (hok : oOk S) (hd : vp_in (X 2 21 0 4) 513) {v : Int32} : nXi l D dA ad on yX9_areaOf cX9_areaOf 2 (some .int) (nrx 9 6) [.ref (ad 2 20 0), .int v] (wdo X 0 S) 6 (fun r X' => (nG (inB v (onv S)) 2 (.inr (S 6 (nix v) 0, wdo X 0 S)) : Nat ⊕ (Int32 × NWd)) = .inr (r, X')) (fun k => (nG (inB v (onv S)) 2 (.inr (S 6 (nix v) 0, wdo X 0 S)) : Nat ⊕ (Int32 × NWd)) = .inl k) := by
  refine nX_of hI (by decide +kernel) (Nat.le_of_ble_eq_true rfl) ?_
  intro p e s m args below meth cd ls hc hr htb hP hl hS
  have hx := hc.1
  have hb := hc.2.1
  have hl : lv_has ls 2 [(0, .ref (ad 2 20 0)), (1, .int v)] := hl
  have hok0 := hok
  refine lv_aload_n hx hb dX9_areaOf_0 rfl (lv_at hl 0 rfl) ?_
  refine lv_iload_n hx hb dX9_areaOf_1 rfl (lv_at hl 1 rfl) ?_
  refine nc_XVv (mc := 1) (c_X9_needVoter hfl hI hon0 hon1 hon2 hok) hc htb hP hS hl.1 gd9_88 (nrecv (q := (RX9, TX9, 3)) hc (npic_eta hP) (nv_n hon2 (by decide) Nat.zero_lt_one) rfl rfl) ⟨rfl, rfl⟩ nok_X9_needVoter rfl ⟨Nat.le_of_ble_eq_true rfl, Nat.le_of_ble_eq_true rfl⟩ ⟨Nat.le_of_ble_eq_true rfl, Nat.le_of_ble_eq_true rfl⟩ ⟨Nat.le_of_ble_eq_true rfl, Nat.le_of_ble_eq_true rfl⟩ dX9_areaOf_2 rfl (Nat.le_of_ble_eq_true rfl) (fun k9 h9 => by rw [h9.1]; exact nG_f h9.2) (fun X1 H locs hp hP hS => ?_)
  obtain ⟨h_2, hX9⟩ := hp
  rw [hX9] at hP
  refine lv_aload_n hx hb dX9_areaOf_5 rfl (lv_at hl 0 rfl) ?_
  refine g9_10 hc hP (nv_n hon2 (by decide) Nat.zero_lt_one) dX9_areaOf_6 ?_
  refine g9_68 hc hP (nv_o hon0 (by decide) (by decide) Nat.zero_lt_one) dX9_areaOf_9 ?_
  refine g9_91 hc hP (nv_o hon0 (by decide) (by decide) Nat.zero_lt_one) dX9_areaOf_12 ?_
  refine lv_iload_n hx hb dX9_areaOf_15 rfl (lv_at hl 1 rfl) ?_
  refine ga_5 hc hP (nv_o hon0 (by decide) (by decide) Nat.zero_lt_one) (vp_mono (inB_t.mp h_2) hok0.nv40) dX9_areaOf_16 ?_
  refine g9_95 hc hP (nv_o hon0 (by decide) (by decide) (vp_lt (vp_mono (inB_t.mp h_2) hok0.nv40))) dX9_areaOf_17 ?_
  exact ne_xi hc hP hS hr dX9_areaOf_20 (Nat.le_of_ble_eq_true rfl) (Nat.le_of_ble_eq_true rfl) ((nG_t h_2).trans (rfl))
set_option maxHeartbeats 4000000 in
set_option maxRecDepth 100000 in
theorem c_X9_isOnRoll (hfl : l.stackTraces = false) (hI : ninj ad on) (hon0 : on 0) (hon1 : on 1) (hon2 : on 2) (hok : oOk S) (hd : vp_in (X 2 21 0 4) 513) {v : Int32} (h01 : vp_in v (onv S) → S 6 (nix v) 1 = 0 ∨ S 6 (nix v) 1 = 1) : nXi l D dA ad on yX9_isOnRoll cX9_isOnRoll 2 (some .boolean) (nrx 9 6) [.ref (ad 2 20 0), .int v] (wdo X 0 S) 6 (fun r X' => (nG (inB v (onv S)) 2 (.inr (S 6 (nix v) 1, wdo X 0 S)) : Nat ⊕ (Int32 × NWd)) = .inr (r, X')) (fun k => (nG (inB v (onv S)) 2 (.inr (S 6 (nix v) 1, wdo X 0 S)) : Nat ⊕ (Int32 × NWd)) = .inl k) := by
  refine nX_of hI (by decide +kernel) (Nat.le_of_ble_eq_true rfl) ?_
  intro p e s m args below meth cd ls hc hr htb hP hl hS
  have hx := hc.1
  have hb := hc.2.1
  have hl : lv_has ls 2 [(0, .ref (ad 2 20 0)), (1, .int v)] := hl
  have hok0 := hok
  refine lv_aload_n hx hb dX9_isOnRoll_0 rfl (lv_at hl 0 rfl) ?_
  refine lv_iload_n hx hb dX9_isOnRoll_1 rfl (lv_at hl 1 rfl) ?_
  refine nc_XVv (mc := 1) (c_X9_needVoter hfl hI hon0 hon1 hon2 hok) hc htb hP hS hl.1 gd9_88 (nrecv (q := (RX9, TX9, 3)) hc (npic_eta hP) (nv_n hon2 (by decide) Nat.zero_lt_one) rfl rfl) ⟨rfl, rfl⟩ nok_X9_needVoter rfl ⟨Nat.le_of_ble_eq_true rfl, Nat.le_of_ble_eq_true rfl⟩ ⟨Nat.le_of_ble_eq_true rfl, Nat.le_of_ble_eq_true rfl⟩ ⟨Nat.le_of_ble_eq_true rfl, Nat.le_of_ble_eq_true rfl⟩ dX9_isOnRoll_2 rfl (Nat.le_of_ble_eq_true rfl) (fun k9 h9 => by rw [h9.1]; exact nG_f h9.2) (fun X1 H locs hp hP hS => ?_)
  obtain ⟨h_2, hX9⟩ := hp
  rw [hX9] at hP
  refine lv_aload_n hx hb dX9_isOnRoll_5 rfl (lv_at hl 0 rfl) ?_
  refine g9_10 hc hP (nv_n hon2 (by decide) Nat.zero_lt_one) dX9_isOnRoll_6 ?_
  refine g9_68 hc hP (nv_o hon0 (by decide) (by decide) Nat.zero_lt_one) dX9_isOnRoll_9 ?_
  refine g9_91 hc hP (nv_o hon0 (by decide) (by decide) Nat.zero_lt_one) dX9_isOnRoll_12 ?_
  refine lv_iload_n hx hb dX9_isOnRoll_15 rfl (lv_at hl 1 rfl) ?_
  refine ga_5 hc hP (nv_o hon0 (by decide) (by decide) Nat.zero_lt_one) (vp_mono (inB_t.mp h_2) hok0.nv40) dX9_isOnRoll_16 ?_
  refine g9_105 hc hP (nv_o hon0 (by decide) (by decide) (vp_lt (vp_mono (inB_t.mp h_2) hok0.nv40))) dX9_isOnRoll_17 ?_
  exact ne_xz hc hP hS hr (nar01 (h01 (inB_t.mp h_2))) dX9_isOnRoll_20 (Nat.le_of_ble_eq_true rfl) (Nat.le_of_ble_eq_true rfl) ((nG_t h_2).trans (rfl))
set_option maxHeartbeats 4000000 in
set_option maxRecDepth 100000 in
theorem c_X9_file (hfl : l.stackTraces = false) (hI : ninj ad on) (hon0 : on 0) (hon1 : on 1) (hon2 : on 2) (hok : oOk S) (hd : vp_in (X 2 21 0 4) 513) {a pp n1 n2 n3 n4 : Int32} : nXi l D dA ad on yX9_file cX9_file 7 (some .int) (nrx 9 6) [.ref (ad 2 20 0), .int a, .int pp, .int n1, .int n2, .int n3, .int n4] (wdo X 0 S) 6 (fun r X' => (nG (inB a (ona S)) 2 (nG (decide (-1 ≤ pp) && decide (pp ≤ 7)) 0 (nG (nmOk n1 n2 n3 n4) 0 (nG (oOpen S) 1 (nG (decide (S 0 0 6 < 12)) 1 (.inr (nJ S 7 a pp (cName n1 n2 n3 n4) 0 0 6 - 1, nEv X S 7 a pp (cName n1 n2 n3 n4))))))) : Nat ⊕ (Int32 × NWd)) = .inr (r, X')) (fun k => (nG (inB a (ona S)) 2 (nG (decide (-1 ≤ pp) && decide (pp ≤ 7)) 0 (nG (nmOk n1 n2 n3 n4) 0 (nG (oOpen S) 1 (nG (decide (S 0 0 6 < 12)) 1 (.inr (nJ S 7 a pp (cName n1 n2 n3 n4) 0 0 6 - 1, nEv X S 7 a pp (cName n1 n2 n3 n4))))))) : Nat ⊕ (Int32 × NWd)) = .inl k) := by
  refine nX_of hI (by decide +kernel) (Nat.le_of_ble_eq_true rfl) ?_
  intro p e s m args below meth cd ls hc hr htb hP hl hS
  have hx := hc.1
  have hb := hc.2.1
  have hl : lv_has ls 7 [(0, .ref (ad 2 20 0)), (1, .int a), (2, .int pp), (3, .int n1), (4, .int n2), (5, .int n3), (6, .int n4)] := hl
  have hok0 := hok
  refine lv_aload_n hx hb dX9_file_0 rfl (lv_at hl 0 rfl) ?_
  refine lv_iload_n hx hb dX9_file_1 rfl (lv_at hl 1 rfl) ?_
  refine nc_XVv (mc := 1) (c_X9_needArea hfl hI hon0 hon1 hon2 hok) hc htb hP hS hl.1 gd9_79 (nrecv (q := (RX9, TX9, 3)) hc (npic_eta hP) (nv_n hon2 (by decide) Nat.zero_lt_one) rfl rfl) ⟨rfl, rfl⟩ nok_X9_needArea rfl ⟨Nat.le_of_ble_eq_true rfl, Nat.le_of_ble_eq_true rfl⟩ ⟨Nat.le_of_ble_eq_true rfl, Nat.le_of_ble_eq_true rfl⟩ ⟨Nat.le_of_ble_eq_true rfl, Nat.le_of_ble_eq_true rfl⟩ dX9_file_2 rfl (Nat.le_of_ble_eq_true rfl) (fun k9 h9 => by rw [h9.1]; exact nG_f h9.2) (fun X1 H locs hp hP hS => ?_)
  obtain ⟨h_2, hX9⟩ := hp
  rw [hX9] at hP
  refine lv_iload_n hx hb dX9_file_5 rfl (lv_at hl 2 rfl) ?_
  refine lv_iconst (v := (-1)) hx hb dX9_file_6 (by decide) ?_
  refine lv_icmp_lt (tgt := 16) hx hb dX9_file_7 (by decide) (fun c_7 => ?_) (fun c_7 => ?_)
  · exact nt_throw hfl 0 (by decide) (by decide) (is := 117) (text := "the party is out of range") (by decide) hc htb hP hS hl.1 dX9_file_16 dX9_file_19 dX9_file_20 dX9_file_22 dX9_file_25 (Nat.le_of_ble_eq_true rfl) (Nat.le_of_ble_eq_true rfl) (Nat.le_of_ble_eq_true rfl) (Nat.le_of_ble_eq_true rfl) ((nG_t h_2).trans (nG_f (by clear hP hS hl hc hx hb hr htb; simp_all [-Int32.not_le, -Int32.not_lt, i32_lt, nb_t, nb_f, nb_z, nb_o]))) (Nat.le_of_ble_eq_true rfl) (Nat.le_of_ble_eq_true rfl)
  · refine lv_iload_n hx hb dX9_file_10 rfl (lv_at hl 2 rfl) ?_
    refine lv_bipush (v := 7) hx hb dX9_file_11 (by decide) ?_
    refine lv_icmp_le (tgt := 26) hx hb dX9_file_13 (by decide) (fun c_13 => ?_) (fun c_13 => ?_)
    · refine lv_aload_n hx hb dX9_file_26 rfl (lv_at hl 0 rfl) ?_
      refine lv_iload_n hx hb dX9_file_27 rfl (lv_at hl 3 rfl) ?_
      refine lv_iload hx hb dX9_file_28 (lv_at hl 4 rfl) ?_
      refine lv_iload hx hb dX9_file_30 (lv_at hl 5 rfl) ?_
      refine lv_iload hx hb dX9_file_32 (lv_at hl 6 rfl) ?_
      refine nc_XVv (mc := 1) (c_X9_needName hfl hI hon0 hon1 hon2 ) hc htb hP hS hl.1 gd9_119 (nrecv (q := (RX9, TX9, 3)) hc (npic_eta hP) (nv_n hon2 (by decide) Nat.zero_lt_one) rfl rfl) ⟨rfl, rfl⟩ nok_X9_needName rfl ⟨Nat.le_of_ble_eq_true rfl, Nat.le_of_ble_eq_true rfl⟩ ⟨Nat.le_of_ble_eq_true rfl, Nat.le_of_ble_eq_true rfl⟩ ⟨Nat.le_of_ble_eq_true rfl, Nat.le_of_ble_eq_true rfl⟩ dX9_file_34 rfl (Nat.le_of_ble_eq_true rfl) (fun k9 h9 => by rw [h9.1]; exact (nG_t h_2).trans ((nG_t (by clear hP hS hl hc hx hb hr htb; simp_all [-Int32.not_le, -Int32.not_lt, i32_lt, nb_t, nb_f, nb_z, nb_o])).trans (nG_f h9.2))) (fun X1 H locs hp hP hS => ?_)
      obtain ⟨h_34, hX9⟩ := hp
      rw [hX9] at hP
      refine lv_aload_n hx hb dX9_file_37 rfl (lv_at hl 0 rfl) ?_
      refine nc_XVv (mc := 1) (c_X9_needOpen hfl hI hon0 hon1 hon2 ) hc htb hP hS hl.1 gd9_123 (nrecv (q := (RX9, TX9, 3)) hc (npic_eta hP) (nv_n hon2 (by decide) Nat.zero_lt_one) rfl rfl) ⟨rfl, rfl⟩ nok_X9_needOpen rfl ⟨Nat.le_of_ble_eq_true rfl, Nat.le_of_ble_eq_true rfl⟩ ⟨Nat.le_of_ble_eq_true rfl, Nat.le_of_ble_eq_true rfl⟩ ⟨Nat.le_of_ble_eq_true rfl, Nat.le_of_ble_eq_true rfl⟩ dX9_file_38 rfl (Nat.le_of_ble_eq_true rfl) (fun k9 h9 => by rw [h9.1]; exact (nG_t h_2).trans ((nG_t (by clear hP hS hl hc hx hb hr htb; simp_all [-Int32.not_le, -Int32.not_lt, i32_lt, nb_t, nb_f, nb_z, nb_o])).trans ((nG_t h_34).trans (nG_f h9.2)))) (fun X1 H locs hp hP hS => ?_)
      obtain ⟨h_38, hX9⟩ := hp
      rw [hX9] at hP
      refine lv_aload_n hx hb dX9_file_41 rfl (lv_at hl 0 rfl) ?_
      refine g9_10 hc hP (nv_n hon2 (by decide) Nat.zero_lt_one) dX9_file_42 ?_
      refine g9_43 hc hP (nv_o hon0 (by decide) (by decide) Nat.zero_lt_one) dX9_file_45 ?_
      refine lv_bipush (v := 12) hx hb dX9_file_48 (by decide) ?_
      refine lv_icmp_lt (tgt := 63) hx hb dX9_file_50 (by decide) (fun c_50 => ?_) (fun c_50 => ?_)
      · refine lv_aload_n hx hb dX9_file_63 rfl (lv_at hl 0 rfl) ?_
        refine lv_bipush (v := 7) hx hb dX9_file_64 (by decide) ?_
        refine lv_iload_n hx hb dX9_file_66 rfl (lv_at hl 1 rfl) ?_
        refine lv_iload_n hx hb dX9_file_67 rfl (lv_at hl 2 rfl) ?_
        refine lv_iload_n hx hb dX9_file_68 rfl (lv_at hl 3 rfl) ?_
        refine lv_iload hx hb dX9_file_69 (lv_at hl 4 rfl) ?_
        refine lv_iload hx hb dX9_file_71 (lv_at hl 5 rfl) ?_
        refine lv_iload hx hb dX9_file_73 (lv_at hl 6 rfl) ?_
        refine nc_Si (c_X9_nameOf hI) hc hP hS hl.1 gd9_128 ⟨rfl, rfl⟩ nok_X9_nameOf rfl ⟨Nat.le_of_ble_eq_true rfl, Nat.le_of_ble_eq_true rfl⟩ ⟨Nat.le_of_ble_eq_true rfl, Nat.le_of_ble_eq_true rfl⟩ dX9_file_75 rfl (Nat.le_of_ble_eq_true rfl) (fun r X1 H locs hp hP hS => ?_)
        obtain ⟨hr9, hX9⟩ := hp
        rw [hX9] at hP
        subst hr9
        refine nc_Vv (c_X9_happen hI hon0 hon1 hon2 hok (oEv_7 ⟨lt_of_i hok0.np hok0.npL (m := 12) (by decide) c_50, inB_t.mp h_2⟩) hd) hc hP hS hl.1 gd9_54 (nrecv (q := (RX9, TX9, 3)) hc (npic_eta hP) (nv_n hon2 (by decide) Nat.zero_lt_one) rfl rfl) ⟨rfl, rfl⟩ nok_X9_happen rfl ⟨Nat.le_of_ble_eq_true rfl, Nat.le_of_ble_eq_true rfl⟩ ⟨Nat.le_of_ble_eq_true rfl, Nat.le_of_ble_eq_true rfl⟩ dX9_file_78 rfl (Nat.le_of_ble_eq_true rfl) (fun X1 H locs hp hP hS => ?_)
        replace hok : oOk (nJ S 7 a pp (cName n1 n2 n3 n4)) := nJ_ok hok (oEv_7 ⟨lt_of_i hok0.np hok0.npL (m := 12) (by decide) c_50, inB_t.mp h_2⟩)
        rw [hp, nEv_J] at hP
        refine lv_aload_n hx hb dX9_file_81 rfl (lv_at hl 0 rfl) ?_
        refine g9_10 hc hP (nv_n hon2 (by decide) Nat.zero_lt_one) dX9_file_82 ?_
        refine g9_43 hc hP (nv_o hon0 (by decide) (by decide) Nat.zero_lt_one) dX9_file_85 ?_
        refine lv_iconst (v := 1) hx hb dX9_file_88 (by decide) ?_
        refine lv_isub hx hb dX9_file_89 ?_
        exact ne_xi hc hP hS hr dX9_file_90 (Nat.le_of_ble_eq_true rfl) (Nat.le_of_ble_eq_true rfl) ((nG_t h_2).trans ((nG_t (by clear hP hS hl hc hx hb hr htb; simp_all [-Int32.not_le, -Int32.not_lt, i32_lt, nb_t, nb_f, nb_z, nb_o])).trans ((nG_t h_34).trans ((nG_t h_38).trans ((nG_t (by clear hP hS hl hc hx hb hr htb; simp_all [-Int32.not_le, -Int32.not_lt, i32_lt, nb_t, nb_f, nb_z, nb_o])).trans (rfl))))))
      · exact nt_throw hfl 1 (by decide) (by decide) (is := 126) (text := "there are 12 papers") (by decide) hc htb hP hS hl.1 dX9_file_53 dX9_file_56 dX9_file_57 dX9_file_59 dX9_file_62 (Nat.le_of_ble_eq_true rfl) (Nat.le_of_ble_eq_true rfl) (Nat.le_of_ble_eq_true rfl) (Nat.le_of_ble_eq_true rfl) ((nG_t h_2).trans ((nG_t (by clear hP hS hl hc hx hb hr htb; simp_all [-Int32.not_le, -Int32.not_lt, i32_lt, nb_t, nb_f, nb_z, nb_o])).trans ((nG_t h_34).trans ((nG_t h_38).trans (nG_f (by clear hP hS hl hc hx hb hr htb; simp_all [-Int32.not_le, -Int32.not_lt, i32_lt, nb_t, nb_f, nb_z, nb_o])))))) (Nat.le_of_ble_eq_true rfl) (Nat.le_of_ble_eq_true rfl)
    · exact nt_throw hfl 0 (by decide) (by decide) (is := 117) (text := "the party is out of range") (by decide) hc htb hP hS hl.1 dX9_file_16 dX9_file_19 dX9_file_20 dX9_file_22 dX9_file_25 (Nat.le_of_ble_eq_true rfl) (Nat.le_of_ble_eq_true rfl) (Nat.le_of_ble_eq_true rfl) (Nat.le_of_ble_eq_true rfl) ((nG_t h_2).trans (nG_f (by clear hP hS hl hc hx hb hr htb; simp_all [-Int32.not_le, -Int32.not_lt, i32_lt, nb_t, nb_f, nb_z, nb_o]))) (Nat.le_of_ble_eq_true rfl) (Nat.le_of_ble_eq_true rfl)
set_option maxHeartbeats 4000000 in
set_option maxRecDepth 100000 in
theorem c_X9_sign (hfl : l.stackTraces = false) (hI : ninj ad on) (hon0 : on 0) (hon1 : on 1) (hon2 : on 2) (hok : oOk S) (hd : vp_in (X 2 21 0 4) 513) {pp v : Int32} : nXi l D dA ad on yX9_sign cX9_sign 3 (some .int) (nrx 9 6) [.ref (ad 2 20 0), .int pp, .int v] (wdo X 0 S) 6 (fun r X' => (nG (inB pp (onp S)) 2 (nG (inB v (onv S)) 2 (nG (oOpen S) 1 (nG (!oGone S pp) 1 (nG (decide (S 0 0 7 < 150)) 1 (.inr (nJ S 8 pp v 0 0 0 7 - 1, nEv X S 8 pp v 0)))))) : Nat ⊕ (Int32 × NWd)) = .inr (r, X')) (fun k => (nG (inB pp (onp S)) 2 (nG (inB v (onv S)) 2 (nG (oOpen S) 1 (nG (!oGone S pp) 1 (nG (decide (S 0 0 7 < 150)) 1 (.inr (nJ S 8 pp v 0 0 0 7 - 1, nEv X S 8 pp v 0)))))) : Nat ⊕ (Int32 × NWd)) = .inl k) := by
  refine nX_of hI (by decide +kernel) (Nat.le_of_ble_eq_true rfl) ?_
  intro p e s m args below meth cd ls hc hr htb hP hl hS
  have hx := hc.1
  have hb := hc.2.1
  have hl : lv_has ls 3 [(0, .ref (ad 2 20 0)), (1, .int pp), (2, .int v)] := hl
  have hok0 := hok
  refine lv_aload_n hx hb dX9_sign_0 rfl (lv_at hl 0 rfl) ?_
  refine lv_iload_n hx hb dX9_sign_1 rfl (lv_at hl 1 rfl) ?_
  refine nc_XVv (mc := 1) (c_X9_needPaper hfl hI hon0 hon1 hon2 hok) hc htb hP hS hl.1 gd9_132 (nrecv (q := (RX9, TX9, 3)) hc (npic_eta hP) (nv_n hon2 (by decide) Nat.zero_lt_one) rfl rfl) ⟨rfl, rfl⟩ nok_X9_needPaper rfl ⟨Nat.le_of_ble_eq_true rfl, Nat.le_of_ble_eq_true rfl⟩ ⟨Nat.le_of_ble_eq_true rfl, Nat.le_of_ble_eq_true rfl⟩ ⟨Nat.le_of_ble_eq_true rfl, Nat.le_of_ble_eq_true rfl⟩ dX9_sign_2 rfl (Nat.le_of_ble_eq_true rfl) (fun k9 h9 => by rw [h9.1]; exact nG_f h9.2) (fun X1 H locs hp hP hS => ?_)
  obtain ⟨h_2, hX9⟩ := hp
  rw [hX9] at hP
  refine lv_aload_n hx hb dX9_sign_5 rfl (lv_at hl 0 rfl) ?_
  refine lv_iload_n hx hb dX9_sign_6 rfl (lv_at hl 2 rfl) ?_
  refine nc_XVv (mc := 1) (c_X9_needVoter hfl hI hon0 hon1 hon2 hok) hc htb hP hS hl.1 gd9_88 (nrecv (q := (RX9, TX9, 3)) hc (npic_eta hP) (nv_n hon2 (by decide) Nat.zero_lt_one) rfl rfl) ⟨rfl, rfl⟩ nok_X9_needVoter rfl ⟨Nat.le_of_ble_eq_true rfl, Nat.le_of_ble_eq_true rfl⟩ ⟨Nat.le_of_ble_eq_true rfl, Nat.le_of_ble_eq_true rfl⟩ ⟨Nat.le_of_ble_eq_true rfl, Nat.le_of_ble_eq_true rfl⟩ dX9_sign_7 rfl (Nat.le_of_ble_eq_true rfl) (fun k9 h9 => by rw [h9.1]; exact (nG_t h_2).trans (nG_f h9.2)) (fun X1 H locs hp hP hS => ?_)
  obtain ⟨h_7, hX9⟩ := hp
  rw [hX9] at hP
  refine lv_aload_n hx hb dX9_sign_10 rfl (lv_at hl 0 rfl) ?_
  refine nc_XVv (mc := 1) (c_X9_needOpen hfl hI hon0 hon1 hon2 ) hc htb hP hS hl.1 gd9_123 (nrecv (q := (RX9, TX9, 3)) hc (npic_eta hP) (nv_n hon2 (by decide) Nat.zero_lt_one) rfl rfl) ⟨rfl, rfl⟩ nok_X9_needOpen rfl ⟨Nat.le_of_ble_eq_true rfl, Nat.le_of_ble_eq_true rfl⟩ ⟨Nat.le_of_ble_eq_true rfl, Nat.le_of_ble_eq_true rfl⟩ ⟨Nat.le_of_ble_eq_true rfl, Nat.le_of_ble_eq_true rfl⟩ dX9_sign_11 rfl (Nat.le_of_ble_eq_true rfl) (fun k9 h9 => by rw [h9.1]; exact (nG_t h_2).trans ((nG_t h_7).trans (nG_f h9.2))) (fun X1 H locs hp hP hS => ?_)
  obtain ⟨h_11, hX9⟩ := hp
  rw [hX9] at hP
  refine lv_aload_n hx hb dX9_sign_14 rfl (lv_at hl 0 rfl) ?_
  refine lv_iload_n hx hb dX9_sign_15 rfl (lv_at hl 1 rfl) ?_
  refine nc_XVv (mc := 1) (c_X9_needNotWithdrawn hfl hI hon0 hon1 hon2 ) hc htb hP hS hl.1 gd9_135 (nrecv (q := (RX9, TX9, 3)) hc (npic_eta hP) (nv_n hon2 (by decide) Nat.zero_lt_one) rfl rfl) ⟨rfl, rfl⟩ nok_X9_needNotWithdrawn rfl ⟨Nat.le_of_ble_eq_true rfl, Nat.le_of_ble_eq_true rfl⟩ ⟨Nat.le_of_ble_eq_true rfl, Nat.le_of_ble_eq_true rfl⟩ ⟨Nat.le_of_ble_eq_true rfl, Nat.le_of_ble_eq_true rfl⟩ dX9_sign_16 rfl (Nat.le_of_ble_eq_true rfl) (fun k9 h9 => by rw [h9.1]; exact (nG_t h_2).trans ((nG_t h_7).trans ((nG_t h_11).trans (nG_f h9.2)))) (fun X1 H locs hp hP hS => ?_)
  obtain ⟨h_16, hX9⟩ := hp
  rw [hX9] at hP
  refine lv_aload_n hx hb dX9_sign_19 rfl (lv_at hl 0 rfl) ?_
  refine g9_10 hc hP (nv_n hon2 (by decide) Nat.zero_lt_one) dX9_sign_20 ?_
  refine g9_138 hc hP (nv_o hon0 (by decide) (by decide) Nat.zero_lt_one) dX9_sign_23 ?_
  refine lv_sipush (v := 150) hx hb dX9_sign_26 (by decide) ?_
  refine lv_icmp_lt (tgt := 42) hx hb dX9_sign_29 (by decide) (fun c_29 => ?_) (fun c_29 => ?_)
  · refine lv_aload_n hx hb dX9_sign_42 rfl (lv_at hl 0 rfl) ?_
    refine lv_bipush (v := 8) hx hb dX9_sign_43 (by decide) ?_
    refine lv_iload_n hx hb dX9_sign_45 rfl (lv_at hl 1 rfl) ?_
    refine lv_iload_n hx hb dX9_sign_46 rfl (lv_at hl 2 rfl) ?_
    refine lv_iconst (v := 0) hx hb dX9_sign_47 (by decide) ?_
    refine nc_Vv (c_X9_happen hI hon0 hon1 hon2 hok (oEv_8 ⟨lt_of_i hok0.ns hok0.nsL (m := 150) (by decide) c_29, inB_t.mp h_2, inB_t.mp h_7⟩) hd) hc hP hS hl.1 gd9_54 (nrecv (q := (RX9, TX9, 3)) hc (npic_eta hP) (nv_n hon2 (by decide) Nat.zero_lt_one) rfl rfl) ⟨rfl, rfl⟩ nok_X9_happen rfl ⟨Nat.le_of_ble_eq_true rfl, Nat.le_of_ble_eq_true rfl⟩ ⟨Nat.le_of_ble_eq_true rfl, Nat.le_of_ble_eq_true rfl⟩ dX9_sign_48 rfl (Nat.le_of_ble_eq_true rfl) (fun X1 H locs hp hP hS => ?_)
    replace hok : oOk (nJ S 8 pp v 0) := nJ_ok hok (oEv_8 ⟨lt_of_i hok0.ns hok0.nsL (m := 150) (by decide) c_29, inB_t.mp h_2, inB_t.mp h_7⟩)
    rw [hp, nEv_J] at hP
    refine lv_aload_n hx hb dX9_sign_51 rfl (lv_at hl 0 rfl) ?_
    refine g9_10 hc hP (nv_n hon2 (by decide) Nat.zero_lt_one) dX9_sign_52 ?_
    refine g9_138 hc hP (nv_o hon0 (by decide) (by decide) Nat.zero_lt_one) dX9_sign_55 ?_
    refine lv_iconst (v := 1) hx hb dX9_sign_58 (by decide) ?_
    refine lv_isub hx hb dX9_sign_59 ?_
    exact ne_xi hc hP hS hr dX9_sign_60 (Nat.le_of_ble_eq_true rfl) (Nat.le_of_ble_eq_true rfl) ((nG_t h_2).trans ((nG_t h_7).trans ((nG_t h_11).trans ((nG_t h_16).trans ((nG_t (by clear hP hS hl hc hx hb hr htb; simp_all [-Int32.not_le, -Int32.not_lt, i32_lt, nb_t, nb_f, nb_z, nb_o])).trans (rfl))))))
  · exact nt_throw hfl 1 (by decide) (by decide) (is := 141) (text := "there are 150 signatures") (by decide) hc htb hP hS hl.1 dX9_sign_32 dX9_sign_35 dX9_sign_36 dX9_sign_38 dX9_sign_41 (Nat.le_of_ble_eq_true rfl) (Nat.le_of_ble_eq_true rfl) (Nat.le_of_ble_eq_true rfl) (Nat.le_of_ble_eq_true rfl) ((nG_t h_2).trans ((nG_t h_7).trans ((nG_t h_11).trans ((nG_t h_16).trans (nG_f (by clear hP hS hl hc hx hb hr htb; simp_all [-Int32.not_le, -Int32.not_lt, i32_lt, nb_t, nb_f, nb_z, nb_o])))))) (Nat.le_of_ble_eq_true rfl) (Nat.le_of_ble_eq_true rfl)
set_option maxHeartbeats 4000000 in
set_option maxRecDepth 100000 in
theorem c_X9_pay (hfl : l.stackTraces = false) (hI : ninj ad on) (hon0 : on 0) (hon1 : on 1) (hon2 : on 2) (hok : oOk S) (hd : vp_in (X 2 21 0 4) 513) {pp a : Int32} : nXi l D dA ad on yX9_pay cX9_pay 3 (some .int) (nrx 9 6) [.ref (ad 2 20 0), .int pp, .int a] (wdo X 0 S) 6 (fun r X' => (nG (inB pp (onp S)) 2 (nG (decide (1 ≤ a) && decide (a ≤ 1000)) 0 (nG (oOpen S) 1 (nG (!oGone S pp) 1 (.inr (nJ S 9 pp a 0 11 (nix pp) 3, nEv X S 9 pp a 0))))) : Nat ⊕ (Int32 × NWd)) = .inr (r, X')) (fun k => (nG (inB pp (onp S)) 2 (nG (decide (1 ≤ a) && decide (a ≤ 1000)) 0 (nG (oOpen S) 1 (nG (!oGone S pp) 1 (.inr (nJ S 9 pp a 0 11 (nix pp) 3, nEv X S 9 pp a 0))))) : Nat ⊕ (Int32 × NWd)) = .inl k) := by
  refine nX_of hI (by decide +kernel) (Nat.le_of_ble_eq_true rfl) ?_
  intro p e s m args below meth cd ls hc hr htb hP hl hS
  have hx := hc.1
  have hb := hc.2.1
  have hl : lv_has ls 3 [(0, .ref (ad 2 20 0)), (1, .int pp), (2, .int a)] := hl
  have hok0 := hok
  refine lv_aload_n hx hb dX9_pay_0 rfl (lv_at hl 0 rfl) ?_
  refine lv_iload_n hx hb dX9_pay_1 rfl (lv_at hl 1 rfl) ?_
  refine nc_XVv (mc := 1) (c_X9_needPaper hfl hI hon0 hon1 hon2 hok) hc htb hP hS hl.1 gd9_132 (nrecv (q := (RX9, TX9, 3)) hc (npic_eta hP) (nv_n hon2 (by decide) Nat.zero_lt_one) rfl rfl) ⟨rfl, rfl⟩ nok_X9_needPaper rfl ⟨Nat.le_of_ble_eq_true rfl, Nat.le_of_ble_eq_true rfl⟩ ⟨Nat.le_of_ble_eq_true rfl, Nat.le_of_ble_eq_true rfl⟩ ⟨Nat.le_of_ble_eq_true rfl, Nat.le_of_ble_eq_true rfl⟩ dX9_pay_2 rfl (Nat.le_of_ble_eq_true rfl) (fun k9 h9 => by rw [h9.1]; exact nG_f h9.2) (fun X1 H locs hp hP hS => ?_)
  obtain ⟨h_2, hX9⟩ := hp
  rw [hX9] at hP
  refine lv_iload_n hx hb dX9_pay_5 rfl (lv_at hl 2 rfl) ?_
  refine lv_iconst (v := 1) hx hb dX9_pay_6 (by decide) ?_
  refine lv_icmp_lt (tgt := 17) hx hb dX9_pay_7 (by decide) (fun c_7 => ?_) (fun c_7 => ?_)
  · exact nt_throw hfl 0 (by decide) (by decide) (is := 143) (text := "the amount is out of range") (by decide) hc htb hP hS hl.1 dX9_pay_17 dX9_pay_20 dX9_pay_21 dX9_pay_23 dX9_pay_26 (Nat.le_of_ble_eq_true rfl) (Nat.le_of_ble_eq_true rfl) (Nat.le_of_ble_eq_true rfl) (Nat.le_of_ble_eq_true rfl) ((nG_t h_2).trans (nG_f (by clear hP hS hl hc hx hb hr htb; simp_all [-Int32.not_le, -Int32.not_lt, i32_lt, nb_t, nb_f, nb_z, nb_o]))) (Nat.le_of_ble_eq_true rfl) (Nat.le_of_ble_eq_true rfl)
  · refine lv_iload_n hx hb dX9_pay_10 rfl (lv_at hl 2 rfl) ?_
    refine lv_sipush (v := 1000) hx hb dX9_pay_11 (by decide) ?_
    refine lv_icmp_le (tgt := 27) hx hb dX9_pay_14 (by decide) (fun c_14 => ?_) (fun c_14 => ?_)
    · refine lv_aload_n hx hb dX9_pay_27 rfl (lv_at hl 0 rfl) ?_
      refine nc_XVv (mc := 1) (c_X9_needOpen hfl hI hon0 hon1 hon2 ) hc htb hP hS hl.1 gd9_123 (nrecv (q := (RX9, TX9, 3)) hc (npic_eta hP) (nv_n hon2 (by decide) Nat.zero_lt_one) rfl rfl) ⟨rfl, rfl⟩ nok_X9_needOpen rfl ⟨Nat.le_of_ble_eq_true rfl, Nat.le_of_ble_eq_true rfl⟩ ⟨Nat.le_of_ble_eq_true rfl, Nat.le_of_ble_eq_true rfl⟩ ⟨Nat.le_of_ble_eq_true rfl, Nat.le_of_ble_eq_true rfl⟩ dX9_pay_28 rfl (Nat.le_of_ble_eq_true rfl) (fun k9 h9 => by rw [h9.1]; exact (nG_t h_2).trans ((nG_t (by clear hP hS hl hc hx hb hr htb; simp_all [-Int32.not_le, -Int32.not_lt, i32_lt, nb_t, nb_f, nb_z, nb_o])).trans (nG_f h9.2))) (fun X1 H locs hp hP hS => ?_)
      obtain ⟨h_28, hX9⟩ := hp
      rw [hX9] at hP
      refine lv_aload_n hx hb dX9_pay_31 rfl (lv_at hl 0 rfl) ?_
      refine lv_iload_n hx hb dX9_pay_32 rfl (lv_at hl 1 rfl) ?_
      refine nc_XVv (mc := 1) (c_X9_needNotWithdrawn hfl hI hon0 hon1 hon2 ) hc htb hP hS hl.1 gd9_135 (nrecv (q := (RX9, TX9, 3)) hc (npic_eta hP) (nv_n hon2 (by decide) Nat.zero_lt_one) rfl rfl) ⟨rfl, rfl⟩ nok_X9_needNotWithdrawn rfl ⟨Nat.le_of_ble_eq_true rfl, Nat.le_of_ble_eq_true rfl⟩ ⟨Nat.le_of_ble_eq_true rfl, Nat.le_of_ble_eq_true rfl⟩ ⟨Nat.le_of_ble_eq_true rfl, Nat.le_of_ble_eq_true rfl⟩ dX9_pay_33 rfl (Nat.le_of_ble_eq_true rfl) (fun k9 h9 => by rw [h9.1]; exact (nG_t h_2).trans ((nG_t (by clear hP hS hl hc hx hb hr htb; simp_all [-Int32.not_le, -Int32.not_lt, i32_lt, nb_t, nb_f, nb_z, nb_o])).trans ((nG_t h_28).trans (nG_f h9.2)))) (fun X1 H locs hp hP hS => ?_)
      obtain ⟨h_33, hX9⟩ := hp
      rw [hX9] at hP
      refine lv_aload_n hx hb dX9_pay_36 rfl (lv_at hl 0 rfl) ?_
      refine lv_bipush (v := 9) hx hb dX9_pay_37 (by decide) ?_
      refine lv_iload_n hx hb dX9_pay_39 rfl (lv_at hl 1 rfl) ?_
      refine lv_iload_n hx hb dX9_pay_40 rfl (lv_at hl 2 rfl) ?_
      refine lv_iconst (v := 0) hx hb dX9_pay_41 (by decide) ?_
      refine nc_Vv (c_X9_happen hI hon0 hon1 hon2 hok (oEv_9 (inB_t.mp h_2)) hd) hc hP hS hl.1 gd9_54 (nrecv (q := (RX9, TX9, 3)) hc (npic_eta hP) (nv_n hon2 (by decide) Nat.zero_lt_one) rfl rfl) ⟨rfl, rfl⟩ nok_X9_happen rfl ⟨Nat.le_of_ble_eq_true rfl, Nat.le_of_ble_eq_true rfl⟩ ⟨Nat.le_of_ble_eq_true rfl, Nat.le_of_ble_eq_true rfl⟩ dX9_pay_42 rfl (Nat.le_of_ble_eq_true rfl) (fun X1 H locs hp hP hS => ?_)
      replace hok : oOk (nJ S 9 pp a 0) := nJ_ok hok (oEv_9 (inB_t.mp h_2))
      rw [hp, nEv_J] at hP
      refine lv_aload_n hx hb dX9_pay_45 rfl (lv_at hl 0 rfl) ?_
      refine g9_10 hc hP (nv_n hon2 (by decide) Nat.zero_lt_one) dX9_pay_46 ?_
      refine g9_145 hc hP (nv_o hon0 (by decide) (by decide) Nat.zero_lt_one) dX9_pay_49 ?_
      refine lv_iload_n hx hb dX9_pay_52 rfl (lv_at hl 1 rfl) ?_
      refine ga_10 hc hP (nv_o hon0 (by decide) (by decide) Nat.zero_lt_one) (vp_mono (inB_t.mp h_2) hok0.np12) dX9_pay_53 ?_
      refine g9_149 hc hP (nv_o hon0 (by decide) (by decide) (vp_lt (vp_mono (inB_t.mp h_2) hok0.np12))) dX9_pay_54 ?_
      exact ne_xi hc hP hS hr dX9_pay_57 (Nat.le_of_ble_eq_true rfl) (Nat.le_of_ble_eq_true rfl) ((nG_t h_2).trans ((nG_t (by clear hP hS hl hc hx hb hr htb; simp_all [-Int32.not_le, -Int32.not_lt, i32_lt, nb_t, nb_f, nb_z, nb_o])).trans ((nG_t h_28).trans ((nG_t h_33).trans (rfl)))))
    · exact nt_throw hfl 0 (by decide) (by decide) (is := 143) (text := "the amount is out of range") (by decide) hc htb hP hS hl.1 dX9_pay_17 dX9_pay_20 dX9_pay_21 dX9_pay_23 dX9_pay_26 (Nat.le_of_ble_eq_true rfl) (Nat.le_of_ble_eq_true rfl) (Nat.le_of_ble_eq_true rfl) (Nat.le_of_ble_eq_true rfl) ((nG_t h_2).trans (nG_f (by clear hP hS hl hc hx hb hr htb; simp_all [-Int32.not_le, -Int32.not_lt, i32_lt, nb_t, nb_f, nb_z, nb_o]))) (Nat.le_of_ble_eq_true rfl) (Nat.le_of_ble_eq_true rfl)
set_option maxHeartbeats 4000000 in
set_option maxRecDepth 100000 in
theorem c_X9_withdraw (hfl : l.stackTraces = false) (hI : ninj ad on) (hon0 : on 0) (hon1 : on 1) (hon2 : on 2) (hok : oOk S) (hd : vp_in (X 2 21 0 4) 513) {pp : Int32} : nXi l D dA ad on yX9_withdraw cX9_withdraw 3 (some .int) (nrx 9 6) [.ref (ad 2 20 0), .int pp] (wdo X 0 S) 6 (fun r X' => (nG (inB pp (onp S)) 2 (nG (!oGone S pp) 1 (nG (!oRej S pp) 1 (nG (oChg S) 1 (.inr (oOthers (nJ S 10 pp 0 0) pp - oOthers S pp, nEv X S 10 pp 0 0))))) : Nat ⊕ (Int32 × NWd)) = .inr (r, X')) (fun k => (nG (inB pp (onp S)) 2 (nG (!oGone S pp) 1 (nG (!oRej S pp) 1 (nG (oChg S) 1 (.inr (oOthers (nJ S 10 pp 0 0) pp - oOthers S pp, nEv X S 10 pp 0 0))))) : Nat ⊕ (Int32 × NWd)) = .inl k) := by
  refine nX_of hI (by decide +kernel) (Nat.le_of_ble_eq_true rfl) ?_
  intro p e s m args below meth cd ls hc hr htb hP hl hS
  have hx := hc.1
  have hb := hc.2.1
  have hl : lv_has ls 3 [(0, .ref (ad 2 20 0)), (1, .int pp)] := hl
  have hok0 := hok
  refine lv_aload_n hx hb dX9_withdraw_0 rfl (lv_at hl 0 rfl) ?_
  refine lv_iload_n hx hb dX9_withdraw_1 rfl (lv_at hl 1 rfl) ?_
  refine nc_XVv (mc := 1) (c_X9_needPaper hfl hI hon0 hon1 hon2 hok) hc htb hP hS hl.1 gd9_132 (nrecv (q := (RX9, TX9, 3)) hc (npic_eta hP) (nv_n hon2 (by decide) Nat.zero_lt_one) rfl rfl) ⟨rfl, rfl⟩ nok_X9_needPaper rfl ⟨Nat.le_of_ble_eq_true rfl, Nat.le_of_ble_eq_true rfl⟩ ⟨Nat.le_of_ble_eq_true rfl, Nat.le_of_ble_eq_true rfl⟩ ⟨Nat.le_of_ble_eq_true rfl, Nat.le_of_ble_eq_true rfl⟩ dX9_withdraw_2 rfl (Nat.le_of_ble_eq_true rfl) (fun k9 h9 => by rw [h9.1]; exact nG_f h9.2) (fun X1 H locs hp hP hS => ?_)
  obtain ⟨h_2, hX9⟩ := hp
  rw [hX9] at hP
  refine lv_aload_n hx hb dX9_withdraw_5 rfl (lv_at hl 0 rfl) ?_
  refine lv_iload_n hx hb dX9_withdraw_6 rfl (lv_at hl 1 rfl) ?_
  refine nc_XVv (mc := 1) (c_X9_needNotWithdrawn hfl hI hon0 hon1 hon2 ) hc htb hP hS hl.1 gd9_135 (nrecv (q := (RX9, TX9, 3)) hc (npic_eta hP) (nv_n hon2 (by decide) Nat.zero_lt_one) rfl rfl) ⟨rfl, rfl⟩ nok_X9_needNotWithdrawn rfl ⟨Nat.le_of_ble_eq_true rfl, Nat.le_of_ble_eq_true rfl⟩ ⟨Nat.le_of_ble_eq_true rfl, Nat.le_of_ble_eq_true rfl⟩ ⟨Nat.le_of_ble_eq_true rfl, Nat.le_of_ble_eq_true rfl⟩ dX9_withdraw_7 rfl (Nat.le_of_ble_eq_true rfl) (fun k9 h9 => by rw [h9.1]; exact (nG_t h_2).trans (nG_f h9.2)) (fun X1 H locs hp hP hS => ?_)
  obtain ⟨h_7, hX9⟩ := hp
  rw [hX9] at hP
  refine lv_aload_n hx hb dX9_withdraw_10 rfl (lv_at hl 0 rfl) ?_
  refine lv_iload_n hx hb dX9_withdraw_11 rfl (lv_at hl 1 rfl) ?_
  refine nc_XVv (mc := 1) (c_X9_needNotRejected hfl hI hon0 hon1 hon2 (vp_mono (inB_t.mp h_2) hok0.np12)) hc htb hP hS hl.1 gd9_154 (nrecv (q := (RX9, TX9, 3)) hc (npic_eta hP) (nv_n hon2 (by decide) Nat.zero_lt_one) rfl rfl) ⟨rfl, rfl⟩ nok_X9_needNotRejected rfl ⟨Nat.le_of_ble_eq_true rfl, Nat.le_of_ble_eq_true rfl⟩ ⟨Nat.le_of_ble_eq_true rfl, Nat.le_of_ble_eq_true rfl⟩ ⟨Nat.le_of_ble_eq_true rfl, Nat.le_of_ble_eq_true rfl⟩ dX9_withdraw_12 rfl (Nat.le_of_ble_eq_true rfl) (fun k9 h9 => by rw [h9.1]; exact (nG_t h_2).trans ((nG_t h_7).trans (nG_f h9.2))) (fun X1 H locs hp hP hS => ?_)
  obtain ⟨h_12, hX9⟩ := hp
  rw [hX9] at hP
  refine lv_aload_n hx hb dX9_withdraw_15 rfl (lv_at hl 0 rfl) ?_
  refine g9_10 hc hP (nv_n hon2 (by decide) Nat.zero_lt_one) dX9_withdraw_16 ?_
  refine g9_33 hc hP (nv_o hon0 (by decide) (by decide) Nat.zero_lt_one) dX9_withdraw_19 ?_
  refine nc_Vi (c_X1_allowsChanges hI hon0 (by decide) ) hc hP hS hl.1 gd9_157 (nrecv (q := (RX1, TX1, 4)) hc (npic_eta hP) (nv_o hon0 (by decide) (by decide) Nat.zero_lt_one) rfl rfl) ⟨rfl, rfl⟩ nok_X1_allowsChanges rfl ⟨Nat.le_of_ble_eq_true rfl, Nat.le_of_ble_eq_true rfl⟩ ⟨Nat.le_of_ble_eq_true rfl, Nat.le_of_ble_eq_true rfl⟩ dX9_withdraw_22 rfl (Nat.le_of_ble_eq_true rfl) (fun r X1 H locs hp hP hS => ?_)
  obtain ⟨hr9, hX9⟩ := hp
  rw [hX9] at hP
  subst hr9
  refine lv_if_ne (tgt := 38) hx hb dX9_withdraw_25 (by decide) (fun c_25 => ?_) (fun c_25 => ?_)
  · refine lv_aload_n hx hb dX9_withdraw_38 rfl (lv_at hl 0 rfl) ?_
    refine g9_10 hc hP (nv_n hon2 (by decide) Nat.zero_lt_one) dX9_withdraw_39 ?_
    refine lv_iload_n hx hb dX9_withdraw_42 rfl (lv_at hl 1 rfl) ?_
    refine nc_Vi (c_X4_countOfOthers hI hon0 (by decide) hok) hc hP hS hl.1 gd9_162 (nrecv (q := (RX4, TX4, 9)) hc (npic_eta hP) (nv_o hon0 (by decide) (by decide) Nat.zero_lt_one) rfl rfl) ⟨rfl, rfl⟩ nok_X4_countOfOthers rfl ⟨Nat.le_of_ble_eq_true rfl, Nat.le_of_ble_eq_true rfl⟩ ⟨Nat.le_of_ble_eq_true rfl, Nat.le_of_ble_eq_true rfl⟩ dX9_withdraw_43 rfl (Nat.le_of_ble_eq_true rfl) (fun r X1 H locs hp hP hS => ?_)
    obtain ⟨hr9, hX9⟩ := hp
    rw [hX9] at hP
    subst hr9
    refine lv_istore_n (lv' := [(2, .int _), (0, .ref _), (1, .int _)]) hx hb dX9_withdraw_46 rfl hl (by decide) rfl (fun ls hl => ?_)
    refine lv_aload_n hx hb dX9_withdraw_47 rfl (lv_at hl 1 rfl) ?_
    refine lv_bipush (v := 10) hx hb dX9_withdraw_48 (by decide) ?_
    refine lv_iload_n hx hb dX9_withdraw_50 rfl (lv_at hl 2 rfl) ?_
    refine lv_iconst (v := 0) hx hb dX9_withdraw_51 (by decide) ?_
    refine lv_iconst (v := 0) hx hb dX9_withdraw_52 (by decide) ?_
    refine nc_Vv (c_X9_happen hI hon0 hon1 hon2 hok (oEv_10 (inB_t.mp h_2)) hd) hc hP hS hl.1 gd9_54 (nrecv (q := (RX9, TX9, 3)) hc (npic_eta hP) (nv_n hon2 (by decide) Nat.zero_lt_one) rfl rfl) ⟨rfl, rfl⟩ nok_X9_happen rfl ⟨Nat.le_of_ble_eq_true rfl, Nat.le_of_ble_eq_true rfl⟩ ⟨Nat.le_of_ble_eq_true rfl, Nat.le_of_ble_eq_true rfl⟩ dX9_withdraw_53 rfl (Nat.le_of_ble_eq_true rfl) (fun X1 H locs hp hP hS => ?_)
    replace hok : oOk (nJ S 10 pp 0 0) := nJ_ok hok (oEv_10 (inB_t.mp h_2))
    rw [hp, nEv_J] at hP
    refine lv_aload_n hx hb dX9_withdraw_56 rfl (lv_at hl 1 rfl) ?_
    refine g9_10 hc hP (nv_n hon2 (by decide) Nat.zero_lt_one) dX9_withdraw_57 ?_
    refine lv_iload_n hx hb dX9_withdraw_60 rfl (lv_at hl 2 rfl) ?_
    refine nc_Vi (c_X4_countOfOthers hI hon0 (by decide) hok) hc hP hS hl.1 gd9_162 (nrecv (q := (RX4, TX4, 9)) hc (npic_eta hP) (nv_o hon0 (by decide) (by decide) Nat.zero_lt_one) rfl rfl) ⟨rfl, rfl⟩ nok_X4_countOfOthers rfl ⟨Nat.le_of_ble_eq_true rfl, Nat.le_of_ble_eq_true rfl⟩ ⟨Nat.le_of_ble_eq_true rfl, Nat.le_of_ble_eq_true rfl⟩ dX9_withdraw_61 rfl (Nat.le_of_ble_eq_true rfl) (fun r X1 H locs hp hP hS => ?_)
    obtain ⟨hr9, hX9⟩ := hp
    rw [hX9] at hP
    subst hr9
    refine lv_iload_n hx hb dX9_withdraw_64 rfl (lv_at hl 0 rfl) ?_
    refine lv_isub hx hb dX9_withdraw_65 ?_
    exact ne_xi hc hP hS hr dX9_withdraw_66 (Nat.le_of_ble_eq_true rfl) (Nat.le_of_ble_eq_true rfl) ((nG_t h_2).trans ((nG_t h_7).trans ((nG_t h_12).trans ((nG_t (by clear hP hS hl hc hx hb hr htb; simp_all [-Int32.not_le, -Int32.not_lt, i32_lt, nb_t, nb_f, nb_z, nb_o, oChg])).trans (rfl)))))
  · exact nt_throw hfl 1 (by decide) (by decide) (is := 160) (text := "the last day for changes is over") (by decide) hc htb hP hS hl.1 dX9_withdraw_28 dX9_withdraw_31 dX9_withdraw_32 dX9_withdraw_34 dX9_withdraw_37 (Nat.le_of_ble_eq_true rfl) (Nat.le_of_ble_eq_true rfl) (Nat.le_of_ble_eq_true rfl) (Nat.le_of_ble_eq_true rfl) ((nG_t h_2).trans ((nG_t h_7).trans ((nG_t h_12).trans (nG_f (by clear hP hS hl hc hx hb hr htb; simp_all [-Int32.not_le, -Int32.not_lt, i32_lt, nb_t, nb_f, nb_z, nb_o, oChg]))))) (Nat.le_of_ble_eq_true rfl) (Nat.le_of_ble_eq_true rfl)
set_option maxHeartbeats 4000000 in
set_option maxRecDepth 100000 in
theorem c_X9_die (hfl : l.stackTraces = false) (hI : ninj ad on) (hon0 : on 0) (hon1 : on 1) (hon2 : on 2) (hok : oOk S) (hd : vp_in (X 2 21 0 4) 513) {pp : Int32} : nXi l D dA ad on yX9_die cX9_die 2 (some .boolean) (nrx 9 6) [.ref (ad 2 20 0), .int pp] (wdo X 0 S) 6 (fun r X' => (nG (inB pp (onp S)) 2 (nG (!oGone S pp) 1 (nG (!oRej S pp) 1 (nG (decide (S 11 (nix pp) 6 = 0)) 1 (nG (!oPoll S) 1 (.inr (nb (oRepl (nJ S 11 pp 0 0) pp), nEv X S 11 pp 0 0)))))) : Nat ⊕ (Int32 × NWd)) = .inr (r, X')) (fun k => (nG (inB pp (onp S)) 2 (nG (!oGone S pp) 1 (nG (!oRej S pp) 1 (nG (decide (S 11 (nix pp) 6 = 0)) 1 (nG (!oPoll S) 1 (.inr (nb (oRepl (nJ S 11 pp 0 0) pp), nEv X S 11 pp 0 0)))))) : Nat ⊕ (Int32 × NWd)) = .inl k) := by
  refine nX_of hI (by decide +kernel) (Nat.le_of_ble_eq_true rfl) ?_
  intro p e s m args below meth cd ls hc hr htb hP hl hS
  have hx := hc.1
  have hb := hc.2.1
  have hl : lv_has ls 2 [(0, .ref (ad 2 20 0)), (1, .int pp)] := hl
  have hok0 := hok
  refine lv_aload_n hx hb dX9_die_0 rfl (lv_at hl 0 rfl) ?_
  refine lv_iload_n hx hb dX9_die_1 rfl (lv_at hl 1 rfl) ?_
  refine nc_XVv (mc := 1) (c_X9_needPaper hfl hI hon0 hon1 hon2 hok) hc htb hP hS hl.1 gd9_132 (nrecv (q := (RX9, TX9, 3)) hc (npic_eta hP) (nv_n hon2 (by decide) Nat.zero_lt_one) rfl rfl) ⟨rfl, rfl⟩ nok_X9_needPaper rfl ⟨Nat.le_of_ble_eq_true rfl, Nat.le_of_ble_eq_true rfl⟩ ⟨Nat.le_of_ble_eq_true rfl, Nat.le_of_ble_eq_true rfl⟩ ⟨Nat.le_of_ble_eq_true rfl, Nat.le_of_ble_eq_true rfl⟩ dX9_die_2 rfl (Nat.le_of_ble_eq_true rfl) (fun k9 h9 => by rw [h9.1]; exact nG_f h9.2) (fun X1 H locs hp hP hS => ?_)
  obtain ⟨h_2, hX9⟩ := hp
  rw [hX9] at hP
  refine lv_aload_n hx hb dX9_die_5 rfl (lv_at hl 0 rfl) ?_
  refine lv_iload_n hx hb dX9_die_6 rfl (lv_at hl 1 rfl) ?_
  refine nc_XVv (mc := 1) (c_X9_needNotWithdrawn hfl hI hon0 hon1 hon2 ) hc htb hP hS hl.1 gd9_135 (nrecv (q := (RX9, TX9, 3)) hc (npic_eta hP) (nv_n hon2 (by decide) Nat.zero_lt_one) rfl rfl) ⟨rfl, rfl⟩ nok_X9_needNotWithdrawn rfl ⟨Nat.le_of_ble_eq_true rfl, Nat.le_of_ble_eq_true rfl⟩ ⟨Nat.le_of_ble_eq_true rfl, Nat.le_of_ble_eq_true rfl⟩ ⟨Nat.le_of_ble_eq_true rfl, Nat.le_of_ble_eq_true rfl⟩ dX9_die_7 rfl (Nat.le_of_ble_eq_true rfl) (fun k9 h9 => by rw [h9.1]; exact (nG_t h_2).trans (nG_f h9.2)) (fun X1 H locs hp hP hS => ?_)
  obtain ⟨h_7, hX9⟩ := hp
  rw [hX9] at hP
  refine lv_aload_n hx hb dX9_die_10 rfl (lv_at hl 0 rfl) ?_
  refine lv_iload_n hx hb dX9_die_11 rfl (lv_at hl 1 rfl) ?_
  refine nc_XVv (mc := 1) (c_X9_needNotRejected hfl hI hon0 hon1 hon2 (vp_mono (inB_t.mp h_2) hok0.np12)) hc htb hP hS hl.1 gd9_154 (nrecv (q := (RX9, TX9, 3)) hc (npic_eta hP) (nv_n hon2 (by decide) Nat.zero_lt_one) rfl rfl) ⟨rfl, rfl⟩ nok_X9_needNotRejected rfl ⟨Nat.le_of_ble_eq_true rfl, Nat.le_of_ble_eq_true rfl⟩ ⟨Nat.le_of_ble_eq_true rfl, Nat.le_of_ble_eq_true rfl⟩ ⟨Nat.le_of_ble_eq_true rfl, Nat.le_of_ble_eq_true rfl⟩ dX9_die_12 rfl (Nat.le_of_ble_eq_true rfl) (fun k9 h9 => by rw [h9.1]; exact (nG_t h_2).trans ((nG_t h_7).trans (nG_f h9.2))) (fun X1 H locs hp hP hS => ?_)
  obtain ⟨h_12, hX9⟩ := hp
  rw [hX9] at hP
  refine lv_aload_n hx hb dX9_die_15 rfl (lv_at hl 0 rfl) ?_
  refine g9_10 hc hP (nv_n hon2 (by decide) Nat.zero_lt_one) dX9_die_16 ?_
  refine g9_145 hc hP (nv_o hon0 (by decide) (by decide) Nat.zero_lt_one) dX9_die_19 ?_
  refine lv_iload_n hx hb dX9_die_22 rfl (lv_at hl 1 rfl) ?_
  refine ga_10 hc hP (nv_o hon0 (by decide) (by decide) Nat.zero_lt_one) (vp_mono (inB_t.mp h_2) hok0.np12) dX9_die_23 ?_
  refine g9_166 hc hP (nv_o hon0 (by decide) (by decide) (vp_lt (vp_mono (inB_t.mp h_2) hok0.np12))) dX9_die_24 ?_
  refine lv_if_eq (tgt := 40) hx hb dX9_die_27 (by decide) (fun c_27 => ?_) (fun c_27 => ?_)
  · refine lv_aload_n hx hb dX9_die_40 rfl (lv_at hl 0 rfl) ?_
    refine g9_10 hc hP (nv_n hon2 (by decide) Nat.zero_lt_one) dX9_die_41 ?_
    refine g9_33 hc hP (nv_o hon0 (by decide) (by decide) Nat.zero_lt_one) dX9_die_44 ?_
    refine nc_Vi (c_X1_isPollingOpen hI hon0 (by decide) ) hc hP hS hl.1 gd9_171 (nrecv (q := (RX1, TX1, 4)) hc (npic_eta hP) (nv_o hon0 (by decide) (by decide) Nat.zero_lt_one) rfl rfl) ⟨rfl, rfl⟩ nok_X1_isPollingOpen rfl ⟨Nat.le_of_ble_eq_true rfl, Nat.le_of_ble_eq_true rfl⟩ ⟨Nat.le_of_ble_eq_true rfl, Nat.le_of_ble_eq_true rfl⟩ dX9_die_47 rfl (Nat.le_of_ble_eq_true rfl) (fun r X1 H locs hp hP hS => ?_)
    obtain ⟨hr9, hX9⟩ := hp
    rw [hX9] at hP
    subst hr9
    refine lv_if_eq (tgt := 63) hx hb dX9_die_50 (by decide) (fun c_50 => ?_) (fun c_50 => ?_)
    · refine lv_aload_n hx hb dX9_die_63 rfl (lv_at hl 0 rfl) ?_
      refine lv_bipush (v := 11) hx hb dX9_die_64 (by decide) ?_
      refine lv_iload_n hx hb dX9_die_66 rfl (lv_at hl 1 rfl) ?_
      refine lv_iconst (v := 0) hx hb dX9_die_67 (by decide) ?_
      refine lv_iconst (v := 0) hx hb dX9_die_68 (by decide) ?_
      refine nc_Vv (c_X9_happen hI hon0 hon1 hon2 hok (oEv_11 (inB_t.mp h_2)) hd) hc hP hS hl.1 gd9_54 (nrecv (q := (RX9, TX9, 3)) hc (npic_eta hP) (nv_n hon2 (by decide) Nat.zero_lt_one) rfl rfl) ⟨rfl, rfl⟩ nok_X9_happen rfl ⟨Nat.le_of_ble_eq_true rfl, Nat.le_of_ble_eq_true rfl⟩ ⟨Nat.le_of_ble_eq_true rfl, Nat.le_of_ble_eq_true rfl⟩ dX9_die_69 rfl (Nat.le_of_ble_eq_true rfl) (fun X1 H locs hp hP hS => ?_)
      replace hok : oOk (nJ S 11 pp 0 0) := nJ_ok hok (oEv_11 (inB_t.mp h_2))
      rw [hp, nEv_J] at hP
      refine lv_aload_n hx hb dX9_die_72 rfl (lv_at hl 0 rfl) ?_
      refine g9_10 hc hP (nv_n hon2 (by decide) Nat.zero_lt_one) dX9_die_73 ?_
      refine lv_iload_n hx hb dX9_die_76 rfl (lv_at hl 1 rfl) ?_
      refine nc_Vi (c_X4_canReplace hI hon0 (by decide) (vp_mono (inB_t.mp h_2) hok0.np12)) hc hP hS hl.1 gd9_176 (nrecv (q := (RX4, TX4, 9)) hc (npic_eta hP) (nv_o hon0 (by decide) (by decide) Nat.zero_lt_one) rfl rfl) ⟨rfl, rfl⟩ nok_X4_canReplace rfl ⟨Nat.le_of_ble_eq_true rfl, Nat.le_of_ble_eq_true rfl⟩ ⟨Nat.le_of_ble_eq_true rfl, Nat.le_of_ble_eq_true rfl⟩ dX9_die_77 rfl (Nat.le_of_ble_eq_true rfl) (fun r X1 H locs hp hP hS => ?_)
      obtain ⟨hr9, hX9⟩ := hp
      rw [hX9] at hP
      subst hr9
      exact ne_xz hc hP hS hr (nbz _) dX9_die_80 (Nat.le_of_ble_eq_true rfl) (Nat.le_of_ble_eq_true rfl) ((nG_t h_2).trans ((nG_t h_7).trans ((nG_t h_12).trans ((nG_t (by clear hP hS hl hc hx hb hr htb; simp_all [-Int32.not_le, -Int32.not_lt, i32_lt, nb_t, nb_f, nb_z, nb_o])).trans ((nG_t (by clear hP hS hl hc hx hb hr htb; simp_all [-Int32.not_le, -Int32.not_lt, i32_lt, nb_t, nb_f, nb_z, nb_o, oPoll])).trans (rfl))))))
    · exact nt_throw hfl 1 (by decide) (by decide) (is := 174) (text := "the polling day has come") (by decide) hc htb hP hS hl.1 dX9_die_53 dX9_die_56 dX9_die_57 dX9_die_59 dX9_die_62 (Nat.le_of_ble_eq_true rfl) (Nat.le_of_ble_eq_true rfl) (Nat.le_of_ble_eq_true rfl) (Nat.le_of_ble_eq_true rfl) ((nG_t h_2).trans ((nG_t h_7).trans ((nG_t h_12).trans ((nG_t (by clear hP hS hl hc hx hb hr htb; simp_all [-Int32.not_le, -Int32.not_lt, i32_lt, nb_t, nb_f, nb_z, nb_o])).trans (nG_f (by clear hP hS hl hc hx hb hr htb; simp_all [-Int32.not_le, -Int32.not_lt, i32_lt, nb_t, nb_f, nb_z, nb_o, oPoll])))))) (Nat.le_of_ble_eq_true rfl) (Nat.le_of_ble_eq_true rfl)
  · exact nt_throw hfl 1 (by decide) (by decide) (is := 169) (text := "the candidate is dead") (by decide) hc htb hP hS hl.1 dX9_die_30 dX9_die_33 dX9_die_34 dX9_die_36 dX9_die_39 (Nat.le_of_ble_eq_true rfl) (Nat.le_of_ble_eq_true rfl) (Nat.le_of_ble_eq_true rfl) (Nat.le_of_ble_eq_true rfl) ((nG_t h_2).trans ((nG_t h_7).trans ((nG_t h_12).trans (nG_f (by clear hP hS hl hc hx hb hr htb; simp_all [-Int32.not_le, -Int32.not_lt, i32_lt, nb_t, nb_f, nb_z, nb_o]))))) (Nat.le_of_ble_eq_true rfl) (Nat.le_of_ble_eq_true rfl)
set_option maxHeartbeats 4000000 in
set_option maxRecDepth 100000 in
theorem c_X9_replace (hfl : l.stackTraces = false) (hI : ninj ad on) (hon0 : on 0) (hon1 : on 1) (hon2 : on 2) (hok : oOk S) (hd : vp_in (X 2 21 0 4) 513) {pp n1 n2 n3 n4 : Int32} : nXi l D dA ad on yX9_replace cX9_replace 6 (some .int) (nrx 9 6) [.ref (ad 2 20 0), .int pp, .int n1, .int n2, .int n3, .int n4] (wdo X 0 S) 6 (fun r X' => (nG (inB pp (onp S)) 2 (nG (nmOk n1 n2 n3 n4) 0 (nG (oRepl S pp) 1 (.inr (nJ S 12 pp (cName n1 n2 n3 n4) 0 11 (nix pp) 5, nEv X S 12 pp (cName n1 n2 n3 n4) 0)))) : Nat ⊕ (Int32 × NWd)) = .inr (r, X')) (fun k => (nG (inB pp (onp S)) 2 (nG (nmOk n1 n2 n3 n4) 0 (nG (oRepl S pp) 1 (.inr (nJ S 12 pp (cName n1 n2 n3 n4) 0 11 (nix pp) 5, nEv X S 12 pp (cName n1 n2 n3 n4) 0)))) : Nat ⊕ (Int32 × NWd)) = .inl k) := by
  refine nX_of hI (by decide +kernel) (Nat.le_of_ble_eq_true rfl) ?_
  intro p e s m args below meth cd ls hc hr htb hP hl hS
  have hx := hc.1
  have hb := hc.2.1
  have hl : lv_has ls 6 [(0, .ref (ad 2 20 0)), (1, .int pp), (2, .int n1), (3, .int n2), (4, .int n3), (5, .int n4)] := hl
  have hok0 := hok
  refine lv_aload_n hx hb dX9_replace_0 rfl (lv_at hl 0 rfl) ?_
  refine lv_iload_n hx hb dX9_replace_1 rfl (lv_at hl 1 rfl) ?_
  refine nc_XVv (mc := 1) (c_X9_needPaper hfl hI hon0 hon1 hon2 hok) hc htb hP hS hl.1 gd9_132 (nrecv (q := (RX9, TX9, 3)) hc (npic_eta hP) (nv_n hon2 (by decide) Nat.zero_lt_one) rfl rfl) ⟨rfl, rfl⟩ nok_X9_needPaper rfl ⟨Nat.le_of_ble_eq_true rfl, Nat.le_of_ble_eq_true rfl⟩ ⟨Nat.le_of_ble_eq_true rfl, Nat.le_of_ble_eq_true rfl⟩ ⟨Nat.le_of_ble_eq_true rfl, Nat.le_of_ble_eq_true rfl⟩ dX9_replace_2 rfl (Nat.le_of_ble_eq_true rfl) (fun k9 h9 => by rw [h9.1]; exact nG_f h9.2) (fun X1 H locs hp hP hS => ?_)
  obtain ⟨h_2, hX9⟩ := hp
  rw [hX9] at hP
  refine lv_aload_n hx hb dX9_replace_5 rfl (lv_at hl 0 rfl) ?_
  refine lv_iload_n hx hb dX9_replace_6 rfl (lv_at hl 2 rfl) ?_
  refine lv_iload_n hx hb dX9_replace_7 rfl (lv_at hl 3 rfl) ?_
  refine lv_iload hx hb dX9_replace_8 (lv_at hl 4 rfl) ?_
  refine lv_iload hx hb dX9_replace_10 (lv_at hl 5 rfl) ?_
  refine nc_XVv (mc := 1) (c_X9_needName hfl hI hon0 hon1 hon2 ) hc htb hP hS hl.1 gd9_119 (nrecv (q := (RX9, TX9, 3)) hc (npic_eta hP) (nv_n hon2 (by decide) Nat.zero_lt_one) rfl rfl) ⟨rfl, rfl⟩ nok_X9_needName rfl ⟨Nat.le_of_ble_eq_true rfl, Nat.le_of_ble_eq_true rfl⟩ ⟨Nat.le_of_ble_eq_true rfl, Nat.le_of_ble_eq_true rfl⟩ ⟨Nat.le_of_ble_eq_true rfl, Nat.le_of_ble_eq_true rfl⟩ dX9_replace_12 rfl (Nat.le_of_ble_eq_true rfl) (fun k9 h9 => by rw [h9.1]; exact (nG_t h_2).trans (nG_f h9.2)) (fun X1 H locs hp hP hS => ?_)
  obtain ⟨h_12, hX9⟩ := hp
  rw [hX9] at hP
  refine lv_aload_n hx hb dX9_replace_15 rfl (lv_at hl 0 rfl) ?_
  refine g9_10 hc hP (nv_n hon2 (by decide) Nat.zero_lt_one) dX9_replace_16 ?_
  refine lv_iload_n hx hb dX9_replace_19 rfl (lv_at hl 1 rfl) ?_
  refine nc_Vi (c_X4_canReplace hI hon0 (by decide) (vp_mono (inB_t.mp h_2) hok0.np12)) hc hP hS hl.1 gd9_176 (nrecv (q := (RX4, TX4, 9)) hc (npic_eta hP) (nv_o hon0 (by decide) (by decide) Nat.zero_lt_one) rfl rfl) ⟨rfl, rfl⟩ nok_X4_canReplace rfl ⟨Nat.le_of_ble_eq_true rfl, Nat.le_of_ble_eq_true rfl⟩ ⟨Nat.le_of_ble_eq_true rfl, Nat.le_of_ble_eq_true rfl⟩ dX9_replace_20 rfl (Nat.le_of_ble_eq_true rfl) (fun r X1 H locs hp hP hS => ?_)
  obtain ⟨hr9, hX9⟩ := hp
  rw [hX9] at hP
  subst hr9
  refine lv_if_ne (tgt := 36) hx hb dX9_replace_23 (by decide) (fun c_23 => ?_) (fun c_23 => ?_)
  · refine lv_aload_n hx hb dX9_replace_36 rfl (lv_at hl 0 rfl) ?_
    refine lv_bipush (v := 12) hx hb dX9_replace_37 (by decide) ?_
    refine lv_iload_n hx hb dX9_replace_39 rfl (lv_at hl 1 rfl) ?_
    refine lv_iload_n hx hb dX9_replace_40 rfl (lv_at hl 2 rfl) ?_
    refine lv_iload_n hx hb dX9_replace_41 rfl (lv_at hl 3 rfl) ?_
    refine lv_iload hx hb dX9_replace_42 (lv_at hl 4 rfl) ?_
    refine lv_iload hx hb dX9_replace_44 (lv_at hl 5 rfl) ?_
    refine nc_Si (c_X9_nameOf hI) hc hP hS hl.1 gd9_128 ⟨rfl, rfl⟩ nok_X9_nameOf rfl ⟨Nat.le_of_ble_eq_true rfl, Nat.le_of_ble_eq_true rfl⟩ ⟨Nat.le_of_ble_eq_true rfl, Nat.le_of_ble_eq_true rfl⟩ dX9_replace_46 rfl (Nat.le_of_ble_eq_true rfl) (fun r X1 H locs hp hP hS => ?_)
    obtain ⟨hr9, hX9⟩ := hp
    rw [hX9] at hP
    subst hr9
    refine lv_iconst (v := 0) hx hb dX9_replace_49 (by decide) ?_
    refine nc_Vv (c_X9_happen hI hon0 hon1 hon2 hok (oEv_12 (inB_t.mp h_2)) hd) hc hP hS hl.1 gd9_54 (nrecv (q := (RX9, TX9, 3)) hc (npic_eta hP) (nv_n hon2 (by decide) Nat.zero_lt_one) rfl rfl) ⟨rfl, rfl⟩ nok_X9_happen rfl ⟨Nat.le_of_ble_eq_true rfl, Nat.le_of_ble_eq_true rfl⟩ ⟨Nat.le_of_ble_eq_true rfl, Nat.le_of_ble_eq_true rfl⟩ dX9_replace_50 rfl (Nat.le_of_ble_eq_true rfl) (fun X1 H locs hp hP hS => ?_)
    replace hok : oOk (nJ S 12 pp (cName n1 n2 n3 n4) 0) := nJ_ok hok (oEv_12 (inB_t.mp h_2))
    rw [hp, nEv_J] at hP
    refine lv_aload_n hx hb dX9_replace_53 rfl (lv_at hl 0 rfl) ?_
    refine g9_10 hc hP (nv_n hon2 (by decide) Nat.zero_lt_one) dX9_replace_54 ?_
    refine g9_145 hc hP (nv_o hon0 (by decide) (by decide) Nat.zero_lt_one) dX9_replace_57 ?_
    refine lv_iload_n hx hb dX9_replace_60 rfl (lv_at hl 1 rfl) ?_
    refine ga_10 hc hP (nv_o hon0 (by decide) (by decide) Nat.zero_lt_one) (vp_mono (inB_t.mp h_2) hok0.np12) dX9_replace_61 ?_
    refine g9_182 hc hP (nv_o hon0 (by decide) (by decide) (vp_lt (vp_mono (inB_t.mp h_2) hok0.np12))) dX9_replace_62 ?_
    exact ne_xi hc hP hS hr dX9_replace_65 (Nat.le_of_ble_eq_true rfl) (Nat.le_of_ble_eq_true rfl) ((nG_t h_2).trans ((nG_t h_12).trans ((nG_t (by clear hP hS hl hc hx hb hr htb; simp_all [-Int32.not_le, -Int32.not_lt, i32_lt, nb_t, nb_f, nb_z, nb_o])).trans (rfl))))
  · exact nt_throw hfl 1 (by decide) (by decide) (is := 180) (text := "the candidate is not replaceable") (by decide) hc htb hP hS hl.1 dX9_replace_26 dX9_replace_29 dX9_replace_30 dX9_replace_32 dX9_replace_35 (Nat.le_of_ble_eq_true rfl) (Nat.le_of_ble_eq_true rfl) (Nat.le_of_ble_eq_true rfl) (Nat.le_of_ble_eq_true rfl) ((nG_t h_2).trans ((nG_t h_12).trans (nG_f (by clear hP hS hl hc hx hb hr htb; simp_all [-Int32.not_le, -Int32.not_lt, i32_lt, nb_t, nb_f, nb_z, nb_o])))) (Nat.le_of_ble_eq_true rfl) (Nat.le_of_ble_eq_true rfl)
set_option maxHeartbeats 4000000 in
set_option maxRecDepth 100000 in
theorem c_X9_isReplaceable (hfl : l.stackTraces = false) (hI : ninj ad on) (hon0 : on 0) (hon1 : on 1) (hon2 : on 2) (hok : oOk S) (hd : vp_in (X 2 21 0 4) 513) {pp : Int32} : nXi l D dA ad on yX9_isReplaceable cX9_isReplaceable 2 (some .boolean) (nrx 9 6) [.ref (ad 2 20 0), .int pp] (wdo X 0 S) 6 (fun r X' => (nG (inB pp (onp S)) 2 (.inr (nb (oRepl S pp), wdo X 0 S)) : Nat ⊕ (Int32 × NWd)) = .inr (r, X')) (fun k => (nG (inB pp (onp S)) 2 (.inr (nb (oRepl S pp), wdo X 0 S)) : Nat ⊕ (Int32 × NWd)) = .inl k) := by
  refine nX_of hI (by decide +kernel) (Nat.le_of_ble_eq_true rfl) ?_
  intro p e s m args below meth cd ls hc hr htb hP hl hS
  have hx := hc.1
  have hb := hc.2.1
  have hl : lv_has ls 2 [(0, .ref (ad 2 20 0)), (1, .int pp)] := hl
  have hok0 := hok
  refine lv_aload_n hx hb dX9_isReplaceable_0 rfl (lv_at hl 0 rfl) ?_
  refine lv_iload_n hx hb dX9_isReplaceable_1 rfl (lv_at hl 1 rfl) ?_
  refine nc_XVv (mc := 1) (c_X9_needPaper hfl hI hon0 hon1 hon2 hok) hc htb hP hS hl.1 gd9_132 (nrecv (q := (RX9, TX9, 3)) hc (npic_eta hP) (nv_n hon2 (by decide) Nat.zero_lt_one) rfl rfl) ⟨rfl, rfl⟩ nok_X9_needPaper rfl ⟨Nat.le_of_ble_eq_true rfl, Nat.le_of_ble_eq_true rfl⟩ ⟨Nat.le_of_ble_eq_true rfl, Nat.le_of_ble_eq_true rfl⟩ ⟨Nat.le_of_ble_eq_true rfl, Nat.le_of_ble_eq_true rfl⟩ dX9_isReplaceable_2 rfl (Nat.le_of_ble_eq_true rfl) (fun k9 h9 => by rw [h9.1]; exact nG_f h9.2) (fun X1 H locs hp hP hS => ?_)
  obtain ⟨h_2, hX9⟩ := hp
  rw [hX9] at hP
  refine lv_aload_n hx hb dX9_isReplaceable_5 rfl (lv_at hl 0 rfl) ?_
  refine g9_10 hc hP (nv_n hon2 (by decide) Nat.zero_lt_one) dX9_isReplaceable_6 ?_
  refine lv_iload_n hx hb dX9_isReplaceable_9 rfl (lv_at hl 1 rfl) ?_
  refine nc_Vi (c_X4_canReplace hI hon0 (by decide) (vp_mono (inB_t.mp h_2) hok0.np12)) hc hP hS hl.1 gd9_176 (nrecv (q := (RX4, TX4, 9)) hc (npic_eta hP) (nv_o hon0 (by decide) (by decide) Nat.zero_lt_one) rfl rfl) ⟨rfl, rfl⟩ nok_X4_canReplace rfl ⟨Nat.le_of_ble_eq_true rfl, Nat.le_of_ble_eq_true rfl⟩ ⟨Nat.le_of_ble_eq_true rfl, Nat.le_of_ble_eq_true rfl⟩ dX9_isReplaceable_10 rfl (Nat.le_of_ble_eq_true rfl) (fun r X1 H locs hp hP hS => ?_)
  obtain ⟨hr9, hX9⟩ := hp
  rw [hX9] at hP
  subst hr9
  exact ne_xz hc hP hS hr (nbz _) dX9_isReplaceable_13 (Nat.le_of_ble_eq_true rfl) (Nat.le_of_ble_eq_true rfl) ((nG_t h_2).trans (rfl))
set_option maxHeartbeats 4000000 in
set_option maxRecDepth 100000 in
theorem c_X9_surname (hfl : l.stackTraces = false) (hI : ninj ad on) (hon0 : on 0) (hon1 : on 1) (hon2 : on 2) (hok : oOk S) (hd : vp_in (X 2 21 0 4) 513) {pp q : Int32} : nXi l D dA ad on yX9_surname cX9_surname 3 (some .char) (nrx 9 6) [.ref (ad 2 20 0), .int pp, .int q] (wdo X 0 S) 6 (fun r X' => (nG (inB pp (onp S)) 2 (nG (decide (0 ≤ q) && decide (q < 4)) 2 (.inr (cChar (S 11 (nix pp) 2) q, wdo X 0 S))) : Nat ⊕ (Int32 × NWd)) = .inr (r, X')) (fun k => (nG (inB pp (onp S)) 2 (nG (decide (0 ≤ q) && decide (q < 4)) 2 (.inr (cChar (S 11 (nix pp) 2) q, wdo X 0 S))) : Nat ⊕ (Int32 × NWd)) = .inl k) := by
  refine nX_of hI (by decide +kernel) (Nat.le_of_ble_eq_true rfl) ?_
  intro p e s m args below meth cd ls hc hr htb hP hl hS
  have hx := hc.1
  have hb := hc.2.1
  have hl : lv_has ls 3 [(0, .ref (ad 2 20 0)), (1, .int pp), (2, .int q)] := hl
  have hok0 := hok
  refine lv_aload_n hx hb dX9_surname_0 rfl (lv_at hl 0 rfl) ?_
  refine lv_iload_n hx hb dX9_surname_1 rfl (lv_at hl 1 rfl) ?_
  refine nc_XVv (mc := 1) (c_X9_needPaper hfl hI hon0 hon1 hon2 hok) hc htb hP hS hl.1 gd9_132 (nrecv (q := (RX9, TX9, 3)) hc (npic_eta hP) (nv_n hon2 (by decide) Nat.zero_lt_one) rfl rfl) ⟨rfl, rfl⟩ nok_X9_needPaper rfl ⟨Nat.le_of_ble_eq_true rfl, Nat.le_of_ble_eq_true rfl⟩ ⟨Nat.le_of_ble_eq_true rfl, Nat.le_of_ble_eq_true rfl⟩ ⟨Nat.le_of_ble_eq_true rfl, Nat.le_of_ble_eq_true rfl⟩ dX9_surname_2 rfl (Nat.le_of_ble_eq_true rfl) (fun k9 h9 => by rw [h9.1]; exact nG_f h9.2) (fun X1 H locs hp hP hS => ?_)
  obtain ⟨h_2, hX9⟩ := hp
  rw [hX9] at hP
  refine lv_iload_n hx hb dX9_surname_5 rfl (lv_at hl 2 rfl) ?_
  refine lv_if_lt (tgt := 14) hx hb dX9_surname_6 (by decide) (fun c_6 => ?_) (fun c_6 => ?_)
  · exact nt_throw hfl 2 (by decide) (by decide) (is := 187) (text := "no such place") (by decide) hc htb hP hS hl.1 dX9_surname_14 dX9_surname_17 dX9_surname_18 dX9_surname_20 dX9_surname_23 (Nat.le_of_ble_eq_true rfl) (Nat.le_of_ble_eq_true rfl) (Nat.le_of_ble_eq_true rfl) (Nat.le_of_ble_eq_true rfl) ((nG_t h_2).trans (nG_f (by clear hP hS hl hc hx hb hr htb; simp_all [-Int32.not_le, -Int32.not_lt, i32_lt, nb_t, nb_f, nb_z, nb_o]))) (Nat.le_of_ble_eq_true rfl) (Nat.le_of_ble_eq_true rfl)
  · refine lv_iload_n hx hb dX9_surname_9 rfl (lv_at hl 2 rfl) ?_
    refine lv_iconst (v := 4) hx hb dX9_surname_10 (by decide) ?_
    refine lv_icmp_lt (tgt := 24) hx hb dX9_surname_11 (by decide) (fun c_11 => ?_) (fun c_11 => ?_)
    · refine lv_aload_n hx hb dX9_surname_24 rfl (lv_at hl 0 rfl) ?_
      refine g9_10 hc hP (nv_n hon2 (by decide) Nat.zero_lt_one) dX9_surname_25 ?_
      refine g9_145 hc hP (nv_o hon0 (by decide) (by decide) Nat.zero_lt_one) dX9_surname_28 ?_
      refine lv_iload_n hx hb dX9_surname_31 rfl (lv_at hl 1 rfl) ?_
      refine ga_10 hc hP (nv_o hon0 (by decide) (by decide) Nat.zero_lt_one) (vp_mono (inB_t.mp h_2) hok0.np12) dX9_surname_32 ?_
      refine g9_190 hc hP (nv_o hon0 (by decide) (by decide) (vp_lt (vp_mono (inB_t.mp h_2) hok0.np12))) dX9_surname_33 ?_
      refine lv_iload_n hx hb dX9_surname_36 rfl (lv_at hl 2 rfl) ?_
      refine nc_Si (c_X9_characterOf hI) hc hP hS hl.1 gd9_193 ⟨rfl, rfl⟩ nok_X9_characterOf rfl ⟨Nat.le_of_ble_eq_true rfl, Nat.le_of_ble_eq_true rfl⟩ ⟨Nat.le_of_ble_eq_true rfl, Nat.le_of_ble_eq_true rfl⟩ dX9_surname_37 rfl (Nat.le_of_ble_eq_true rfl) (fun r X1 H locs hp hP hS => ?_)
      obtain ⟨hr9, hX9⟩ := hp
      rw [hX9] at hP
      subst hr9
      exact ne_xz hc hP hS hr (pk_nc _) dX9_surname_40 (Nat.le_of_ble_eq_true rfl) (Nat.le_of_ble_eq_true rfl) ((nG_t h_2).trans ((nG_t (by clear hP hS hl hc hx hb hr htb; simp_all [-Int32.not_le, -Int32.not_lt, i32_lt, nb_t, nb_f, nb_z, nb_o])).trans (rfl)))
    · exact nt_throw hfl 2 (by decide) (by decide) (is := 187) (text := "no such place") (by decide) hc htb hP hS hl.1 dX9_surname_14 dX9_surname_17 dX9_surname_18 dX9_surname_20 dX9_surname_23 (Nat.le_of_ble_eq_true rfl) (Nat.le_of_ble_eq_true rfl) (Nat.le_of_ble_eq_true rfl) (Nat.le_of_ble_eq_true rfl) ((nG_t h_2).trans (nG_f (by clear hP hS hl hc hx hb hr htb; simp_all [-Int32.not_le, -Int32.not_lt, i32_lt, nb_t, nb_f, nb_z, nb_o]))) (Nat.le_of_ble_eq_true rfl) (Nat.le_of_ble_eq_true rfl)
set_option maxHeartbeats 4000000 in
set_option maxRecDepth 100000 in
theorem c_X9_papers (hfl : l.stackTraces = false) (hI : ninj ad on) (hon0 : on 0) (hon1 : on 1) (hon2 : on 2) (hok : oOk S) (hd : vp_in (X 2 21 0 4) 513) : nXi l D dA ad on yX9_papers cX9_papers 1 (some .int) (nrx 9 6) [.ref (ad 2 20 0)] (wdo X 0 S) 6 (fun r X' => (.inr (S 0 0 6, wdo X 0 S) : Nat ⊕ (Int32 × NWd)) = .inr (r, X')) (fun k => (.inr (S 0 0 6, wdo X 0 S) : Nat ⊕ (Int32 × NWd)) = .inl k) := by
  refine nX_of hI (by decide +kernel) (Nat.le_of_ble_eq_true rfl) ?_
  intro p e s m args below meth cd ls hc hr htb hP hl hS
  have hx := hc.1
  have hb := hc.2.1
  have hl : lv_has ls 1 [(0, .ref (ad 2 20 0))] := hl
  have hok0 := hok
  refine lv_aload_n hx hb dX9_papers_0 rfl (lv_at hl 0 rfl) ?_
  refine g9_10 hc hP (nv_n hon2 (by decide) Nat.zero_lt_one) dX9_papers_1 ?_
  refine g9_43 hc hP (nv_o hon0 (by decide) (by decide) Nat.zero_lt_one) dX9_papers_4 ?_
  exact ne_xi hc hP hS hr dX9_papers_7 (Nat.le_of_ble_eq_true rfl) (Nat.le_of_ble_eq_true rfl) (rfl)
set_option maxHeartbeats 4000000 in
set_option maxRecDepth 100000 in
theorem c_X9_counted (hfl : l.stackTraces = false) (hI : ninj ad on) (hon0 : on 0) (hon1 : on 1) (hon2 : on 2) (hok : oOk S) (hd : vp_in (X 2 21 0 4) 513) {pp : Int32} : nXi l D dA ad on yX9_counted cX9_counted 2 (some .int) (nrx 9 6) [.ref (ad 2 20 0), .int pp] (wdo X 0 S) 6 (fun r X' => (nG (inB pp (onp S)) 2 (.inr (S 11 (nix pp) 8, wdo X 0 S)) : Nat ⊕ (Int32 × NWd)) = .inr (r, X')) (fun k => (nG (inB pp (onp S)) 2 (.inr (S 11 (nix pp) 8, wdo X 0 S)) : Nat ⊕ (Int32 × NWd)) = .inl k) := by
  refine nX_of hI (by decide +kernel) (Nat.le_of_ble_eq_true rfl) ?_
  intro p e s m args below meth cd ls hc hr htb hP hl hS
  have hx := hc.1
  have hb := hc.2.1
  have hl : lv_has ls 2 [(0, .ref (ad 2 20 0)), (1, .int pp)] := hl
  have hok0 := hok
  refine lv_aload_n hx hb dX9_counted_0 rfl (lv_at hl 0 rfl) ?_
  refine lv_iload_n hx hb dX9_counted_1 rfl (lv_at hl 1 rfl) ?_
  refine nc_XVv (mc := 1) (c_X9_needPaper hfl hI hon0 hon1 hon2 hok) hc htb hP hS hl.1 gd9_132 (nrecv (q := (RX9, TX9, 3)) hc (npic_eta hP) (nv_n hon2 (by decide) Nat.zero_lt_one) rfl rfl) ⟨rfl, rfl⟩ nok_X9_needPaper rfl ⟨Nat.le_of_ble_eq_true rfl, Nat.le_of_ble_eq_true rfl⟩ ⟨Nat.le_of_ble_eq_true rfl, Nat.le_of_ble_eq_true rfl⟩ ⟨Nat.le_of_ble_eq_true rfl, Nat.le_of_ble_eq_true rfl⟩ dX9_counted_2 rfl (Nat.le_of_ble_eq_true rfl) (fun k9 h9 => by rw [h9.1]; exact nG_f h9.2) (fun X1 H locs hp hP hS => ?_)
  obtain ⟨h_2, hX9⟩ := hp
  rw [hX9] at hP
  refine lv_aload_n hx hb dX9_counted_5 rfl (lv_at hl 0 rfl) ?_
  refine g9_10 hc hP (nv_n hon2 (by decide) Nat.zero_lt_one) dX9_counted_6 ?_
  refine g9_145 hc hP (nv_o hon0 (by decide) (by decide) Nat.zero_lt_one) dX9_counted_9 ?_
  refine lv_iload_n hx hb dX9_counted_12 rfl (lv_at hl 1 rfl) ?_
  refine ga_10 hc hP (nv_o hon0 (by decide) (by decide) Nat.zero_lt_one) (vp_mono (inB_t.mp h_2) hok0.np12) dX9_counted_13 ?_
  refine g9_197 hc hP (nv_o hon0 (by decide) (by decide) (vp_lt (vp_mono (inB_t.mp h_2) hok0.np12))) dX9_counted_14 ?_
  exact ne_xi hc hP hS hr dX9_counted_17 (Nat.le_of_ble_eq_true rfl) (Nat.le_of_ble_eq_true rfl) ((nG_t h_2).trans (rfl))
set_option maxHeartbeats 4000000 in
set_option maxRecDepth 100000 in
theorem c_X9_signatureResult (hfl : l.stackTraces = false) (hI : ninj ad on) (hon0 : on 0) (hon1 : on 1) (hon2 : on 2) (hok : oOk S) (hd : vp_in (X 2 21 0 4) 513) {q : Int32} : nXi l D dA ad on yX9_signatureResult cX9_signatureResult 2 (some .int) (nrx 9 6) [.ref (ad 2 20 0), .int q] (wdo X 0 S) 6 (fun r X' => (nG (decide (0 ≤ q) && decide (q < S 0 0 7)) 2 (.inr (S 13 (nix q) 4, wdo X 0 S)) : Nat ⊕ (Int32 × NWd)) = .inr (r, X')) (fun k => (nG (decide (0 ≤ q) && decide (q < S 0 0 7)) 2 (.inr (S 13 (nix q) 4, wdo X 0 S)) : Nat ⊕ (Int32 × NWd)) = .inl k) := by
  refine nX_of hI (by decide +kernel) (Nat.le_of_ble_eq_true rfl) ?_
  intro p e s m args below meth cd ls hc hr htb hP hl hS
  have hx := hc.1
  have hb := hc.2.1
  have hl : lv_has ls 2 [(0, .ref (ad 2 20 0)), (1, .int q)] := hl
  have hok0 := hok
  refine lv_iload_n hx hb dX9_signatureResult_0 rfl (lv_at hl 1 rfl) ?_
  refine lv_if_lt (tgt := 15) hx hb dX9_signatureResult_1 (by decide) (fun c_1 => ?_) (fun c_1 => ?_)
  · exact nt_throw hfl 2 (by decide) (by decide) (is := 200) (text := "no such signature") (by decide) hc htb hP hS hl.1 dX9_signatureResult_15 dX9_signatureResult_18 dX9_signatureResult_19 dX9_signatureResult_21 dX9_signatureResult_24 (Nat.le_of_ble_eq_true rfl) (Nat.le_of_ble_eq_true rfl) (Nat.le_of_ble_eq_true rfl) (Nat.le_of_ble_eq_true rfl) (nG_f (by clear hP hS hl hc hx hb hr htb; simp_all [-Int32.not_le, -Int32.not_lt, i32_lt, nb_t, nb_f, nb_z, nb_o])) (Nat.le_of_ble_eq_true rfl) (Nat.le_of_ble_eq_true rfl)
  · refine lv_iload_n hx hb dX9_signatureResult_4 rfl (lv_at hl 1 rfl) ?_
    refine lv_aload_n hx hb dX9_signatureResult_5 rfl (lv_at hl 0 rfl) ?_
    refine g9_10 hc hP (nv_n hon2 (by decide) Nat.zero_lt_one) dX9_signatureResult_6 ?_
    refine g9_138 hc hP (nv_o hon0 (by decide) (by decide) Nat.zero_lt_one) dX9_signatureResult_9 ?_
    refine lv_icmp_lt (tgt := 25) hx hb dX9_signatureResult_12 (by decide) (fun c_12 => ?_) (fun c_12 => ?_)
    · refine lv_aload_n hx hb dX9_signatureResult_25 rfl (lv_at hl 0 rfl) ?_
      refine g9_10 hc hP (nv_n hon2 (by decide) Nat.zero_lt_one) dX9_signatureResult_26 ?_
      refine g9_202 hc hP (nv_o hon0 (by decide) (by decide) Nat.zero_lt_one) dX9_signatureResult_29 ?_
      refine lv_iload_n hx hb dX9_signatureResult_32 rfl (lv_at hl 1 rfl) ?_
      refine ga_12 hc hP (nv_o hon0 (by decide) (by decide) Nat.zero_lt_one) (vp_mono (inB_t.mp ((inB_lt c_1 hok0.ns hok0.nsL).trans (decide_eq_true c_12))) hok0.ns150) dX9_signatureResult_33 ?_
      refine g9_206 hc hP (nv_o hon0 (by decide) (by decide) (vp_lt (vp_mono (inB_t.mp ((inB_lt c_1 hok0.ns hok0.nsL).trans (decide_eq_true c_12))) hok0.ns150))) dX9_signatureResult_34 ?_
      exact ne_xi hc hP hS hr dX9_signatureResult_37 (Nat.le_of_ble_eq_true rfl) (Nat.le_of_ble_eq_true rfl) ((nG_t (by clear hP hS hl hc hx hb hr htb; simp_all [-Int32.not_le, -Int32.not_lt, i32_lt, nb_t, nb_f, nb_z, nb_o])).trans (rfl))
    · exact nt_throw hfl 2 (by decide) (by decide) (is := 200) (text := "no such signature") (by decide) hc htb hP hS hl.1 dX9_signatureResult_15 dX9_signatureResult_18 dX9_signatureResult_19 dX9_signatureResult_21 dX9_signatureResult_24 (Nat.le_of_ble_eq_true rfl) (Nat.le_of_ble_eq_true rfl) (Nat.le_of_ble_eq_true rfl) (Nat.le_of_ble_eq_true rfl) (nG_f (by clear hP hS hl hc hx hb hr htb; simp_all [-Int32.not_le, -Int32.not_lt, i32_lt, nb_t, nb_f, nb_z, nb_o])) (Nat.le_of_ble_eq_true rfl) (Nat.le_of_ble_eq_true rfl)
set_option maxHeartbeats 4000000 in
set_option maxRecDepth 100000 in
theorem c_X9_wouldCount (hfl : l.stackTraces = false) (hI : ninj ad on) (hon0 : on 0) (hon1 : on 1) (hon2 : on 2) (hok : oOk S) (hd : vp_in (X 2 21 0 4) 513) {pp v : Int32} : nXi l D dA ad on yX9_wouldCount cX9_wouldCount 3 (some .boolean) (nrx 9 6) [.ref (ad 2 20 0), .int pp, .int v] (wdo X 0 S) 6 (fun r X' => (nG (inB pp (onp S)) 2 (nG (inB v (onv S)) 2 (nG (oOpen S) 1 (nG (!oGone S pp) 1 (.inr (nb (oWould S pp v), wdo X 0 S))))) : Nat ⊕ (Int32 × NWd)) = .inr (r, X')) (fun k => (nG (inB pp (onp S)) 2 (nG (inB v (onv S)) 2 (nG (oOpen S) 1 (nG (!oGone S pp) 1 (.inr (nb (oWould S pp v), wdo X 0 S))))) : Nat ⊕ (Int32 × NWd)) = .inl k) := by
  refine nX_of hI (by decide +kernel) (Nat.le_of_ble_eq_true rfl) ?_
  intro p e s m args below meth cd ls hc hr htb hP hl hS
  have hx := hc.1
  have hb := hc.2.1
  have hl : lv_has ls 3 [(0, .ref (ad 2 20 0)), (1, .int pp), (2, .int v)] := hl
  have hok0 := hok
  refine lv_aload_n hx hb dX9_wouldCount_0 rfl (lv_at hl 0 rfl) ?_
  refine lv_iload_n hx hb dX9_wouldCount_1 rfl (lv_at hl 1 rfl) ?_
  refine nc_XVv (mc := 1) (c_X9_needPaper hfl hI hon0 hon1 hon2 hok) hc htb hP hS hl.1 gd9_132 (nrecv (q := (RX9, TX9, 3)) hc (npic_eta hP) (nv_n hon2 (by decide) Nat.zero_lt_one) rfl rfl) ⟨rfl, rfl⟩ nok_X9_needPaper rfl ⟨Nat.le_of_ble_eq_true rfl, Nat.le_of_ble_eq_true rfl⟩ ⟨Nat.le_of_ble_eq_true rfl, Nat.le_of_ble_eq_true rfl⟩ ⟨Nat.le_of_ble_eq_true rfl, Nat.le_of_ble_eq_true rfl⟩ dX9_wouldCount_2 rfl (Nat.le_of_ble_eq_true rfl) (fun k9 h9 => by rw [h9.1]; exact nG_f h9.2) (fun X1 H locs hp hP hS => ?_)
  obtain ⟨h_2, hX9⟩ := hp
  rw [hX9] at hP
  refine lv_aload_n hx hb dX9_wouldCount_5 rfl (lv_at hl 0 rfl) ?_
  refine lv_iload_n hx hb dX9_wouldCount_6 rfl (lv_at hl 2 rfl) ?_
  refine nc_XVv (mc := 1) (c_X9_needVoter hfl hI hon0 hon1 hon2 hok) hc htb hP hS hl.1 gd9_88 (nrecv (q := (RX9, TX9, 3)) hc (npic_eta hP) (nv_n hon2 (by decide) Nat.zero_lt_one) rfl rfl) ⟨rfl, rfl⟩ nok_X9_needVoter rfl ⟨Nat.le_of_ble_eq_true rfl, Nat.le_of_ble_eq_true rfl⟩ ⟨Nat.le_of_ble_eq_true rfl, Nat.le_of_ble_eq_true rfl⟩ ⟨Nat.le_of_ble_eq_true rfl, Nat.le_of_ble_eq_true rfl⟩ dX9_wouldCount_7 rfl (Nat.le_of_ble_eq_true rfl) (fun k9 h9 => by rw [h9.1]; exact (nG_t h_2).trans (nG_f h9.2)) (fun X1 H locs hp hP hS => ?_)
  obtain ⟨h_7, hX9⟩ := hp
  rw [hX9] at hP
  refine lv_aload_n hx hb dX9_wouldCount_10 rfl (lv_at hl 0 rfl) ?_
  refine nc_XVv (mc := 1) (c_X9_needOpen hfl hI hon0 hon1 hon2 ) hc htb hP hS hl.1 gd9_123 (nrecv (q := (RX9, TX9, 3)) hc (npic_eta hP) (nv_n hon2 (by decide) Nat.zero_lt_one) rfl rfl) ⟨rfl, rfl⟩ nok_X9_needOpen rfl ⟨Nat.le_of_ble_eq_true rfl, Nat.le_of_ble_eq_true rfl⟩ ⟨Nat.le_of_ble_eq_true rfl, Nat.le_of_ble_eq_true rfl⟩ ⟨Nat.le_of_ble_eq_true rfl, Nat.le_of_ble_eq_true rfl⟩ dX9_wouldCount_11 rfl (Nat.le_of_ble_eq_true rfl) (fun k9 h9 => by rw [h9.1]; exact (nG_t h_2).trans ((nG_t h_7).trans (nG_f h9.2))) (fun X1 H locs hp hP hS => ?_)
  obtain ⟨h_11, hX9⟩ := hp
  rw [hX9] at hP
  refine lv_aload_n hx hb dX9_wouldCount_14 rfl (lv_at hl 0 rfl) ?_
  refine lv_iload_n hx hb dX9_wouldCount_15 rfl (lv_at hl 1 rfl) ?_
  refine nc_XVv (mc := 1) (c_X9_needNotWithdrawn hfl hI hon0 hon1 hon2 ) hc htb hP hS hl.1 gd9_135 (nrecv (q := (RX9, TX9, 3)) hc (npic_eta hP) (nv_n hon2 (by decide) Nat.zero_lt_one) rfl rfl) ⟨rfl, rfl⟩ nok_X9_needNotWithdrawn rfl ⟨Nat.le_of_ble_eq_true rfl, Nat.le_of_ble_eq_true rfl⟩ ⟨Nat.le_of_ble_eq_true rfl, Nat.le_of_ble_eq_true rfl⟩ ⟨Nat.le_of_ble_eq_true rfl, Nat.le_of_ble_eq_true rfl⟩ dX9_wouldCount_16 rfl (Nat.le_of_ble_eq_true rfl) (fun k9 h9 => by rw [h9.1]; exact (nG_t h_2).trans ((nG_t h_7).trans ((nG_t h_11).trans (nG_f h9.2)))) (fun X1 H locs hp hP hS => ?_)
  obtain ⟨h_16, hX9⟩ := hp
  rw [hX9] at hP
  refine lv_aload_n hx hb dX9_wouldCount_19 rfl (lv_at hl 0 rfl) ?_
  refine g9_10 hc hP (nv_n hon2 (by decide) Nat.zero_lt_one) dX9_wouldCount_20 ?_
  refine lv_iload_n hx hb dX9_wouldCount_23 rfl (lv_at hl 1 rfl) ?_
  refine lv_iload_n hx hb dX9_wouldCount_24 rfl (lv_at hl 2 rfl) ?_
  refine nc_Vi (c_X4_wouldSupport hI hon0 (by decide) (vp_mono (inB_t.mp h_2) hok0.np12) (vp_mono (inB_t.mp h_7) hok0.nv40)) hc hP hS hl.1 gd9_211 (nrecv (q := (RX4, TX4, 9)) hc (npic_eta hP) (nv_o hon0 (by decide) (by decide) Nat.zero_lt_one) rfl rfl) ⟨rfl, rfl⟩ nok_X4_wouldSupport rfl ⟨Nat.le_of_ble_eq_true rfl, Nat.le_of_ble_eq_true rfl⟩ ⟨Nat.le_of_ble_eq_true rfl, Nat.le_of_ble_eq_true rfl⟩ dX9_wouldCount_25 rfl (Nat.le_of_ble_eq_true rfl) (fun r X1 H locs hp hP hS => ?_)
  obtain ⟨hr9, hX9⟩ := hp
  rw [hX9] at hP
  subst hr9
  exact ne_xz hc hP hS hr (nbz _) dX9_wouldCount_28 (Nat.le_of_ble_eq_true rfl) (Nat.le_of_ble_eq_true rfl) ((nG_t h_2).trans ((nG_t h_7).trans ((nG_t h_11).trans ((nG_t h_16).trans (rfl)))))
set_option maxHeartbeats 4000000 in
set_option maxRecDepth 100000 in
theorem c_X9_paperOf (hfl : l.stackTraces = false) (hI : ninj ad on) (hon0 : on 0) (hon1 : on 1) (hon2 : on 2) (hok : oOk S) (hd : vp_in (X 2 21 0 4) 513) {v : Int32} : nXi l D dA ad on yX9_paperOf cX9_paperOf 3 (some .int) (nrx 9 6) [.ref (ad 2 20 0), .int v] (wdo X 0 S) 6 (fun r X' => (nG (inB v (onv S)) 2 (nG (!decide (oSup S v = -1)) 4 (.inr (oSup S v, wdo X 0 S))) : Nat ⊕ (Int32 × NWd)) = .inr (r, X')) (fun k => (nG (inB v (onv S)) 2 (nG (!decide (oSup S v = -1)) 4 (.inr (oSup S v, wdo X 0 S))) : Nat ⊕ (Int32 × NWd)) = .inl k) := by
  refine nX_of hI (by decide +kernel) (Nat.le_of_ble_eq_true rfl) ?_
  intro p e s m args below meth cd ls hc hr htb hP hl hS
  have hx := hc.1
  have hb := hc.2.1
  have hl : lv_has ls 3 [(0, .ref (ad 2 20 0)), (1, .int v)] := hl
  have hok0 := hok
  refine lv_aload_n hx hb dX9_paperOf_0 rfl (lv_at hl 0 rfl) ?_
  refine lv_iload_n hx hb dX9_paperOf_1 rfl (lv_at hl 1 rfl) ?_
  refine nc_XVv (mc := 1) (c_X9_needVoter hfl hI hon0 hon1 hon2 hok) hc htb hP hS hl.1 gd9_88 (nrecv (q := (RX9, TX9, 3)) hc (npic_eta hP) (nv_n hon2 (by decide) Nat.zero_lt_one) rfl rfl) ⟨rfl, rfl⟩ nok_X9_needVoter rfl ⟨Nat.le_of_ble_eq_true rfl, Nat.le_of_ble_eq_true rfl⟩ ⟨Nat.le_of_ble_eq_true rfl, Nat.le_of_ble_eq_true rfl⟩ ⟨Nat.le_of_ble_eq_true rfl, Nat.le_of_ble_eq_true rfl⟩ dX9_paperOf_2 rfl (Nat.le_of_ble_eq_true rfl) (fun k9 h9 => by rw [h9.1]; exact nG_f h9.2) (fun X1 H locs hp hP hS => ?_)
  obtain ⟨h_2, hX9⟩ := hp
  rw [hX9] at hP
  refine lv_aload_n hx hb dX9_paperOf_5 rfl (lv_at hl 0 rfl) ?_
  refine g9_10 hc hP (nv_n hon2 (by decide) Nat.zero_lt_one) dX9_paperOf_6 ?_
  refine lv_iload_n hx hb dX9_paperOf_9 rfl (lv_at hl 1 rfl) ?_
  refine nc_Vi (c_X4_supportedBy hI hon0 (by decide) hok) hc hP hS hl.1 gd9_215 (nrecv (q := (RX4, TX4, 9)) hc (npic_eta hP) (nv_o hon0 (by decide) (by decide) Nat.zero_lt_one) rfl rfl) ⟨rfl, rfl⟩ nok_X4_supportedBy rfl ⟨Nat.le_of_ble_eq_true rfl, Nat.le_of_ble_eq_true rfl⟩ ⟨Nat.le_of_ble_eq_true rfl, Nat.le_of_ble_eq_true rfl⟩ dX9_paperOf_10 rfl (Nat.le_of_ble_eq_true rfl) (fun r X1 H locs hp hP hS => ?_)
  obtain ⟨hr9, hX9⟩ := hp
  rw [hX9] at hP
  subst hr9
  refine lv_istore_n (lv' := [(2, .int _), (0, .ref _), (1, .int _)]) hx hb dX9_paperOf_13 rfl hl (by decide) rfl (fun ls hl => ?_)
  refine lv_iload_n hx hb dX9_paperOf_14 rfl (lv_at hl 0 rfl) ?_
  refine lv_iconst (v := (-1)) hx hb dX9_paperOf_15 (by decide) ?_
  refine lv_icmp_ne (tgt := 29) hx hb dX9_paperOf_16 (by decide) (fun c_16 => ?_) (fun c_16 => ?_)
  · refine lv_iload_n hx hb dX9_paperOf_29 rfl (lv_at hl 0 rfl) ?_
    exact ne_xi hc hP hS hr dX9_paperOf_30 (Nat.le_of_ble_eq_true rfl) (Nat.le_of_ble_eq_true rfl) ((nG_t h_2).trans ((nG_t (by clear hP hS hl hc hx hb hr htb; simp_all [-Int32.not_le, -Int32.not_lt, i32_lt, nb_t, nb_f, nb_z, nb_o])).trans (rfl)))
  · exact nt_throw4 hfl (is := 220) (text := "no signature of the voter counts") (by decide) hc htb hP hS hl.1 dX9_paperOf_19 dX9_paperOf_22 dX9_paperOf_23 dX9_paperOf_25 dX9_paperOf_28 (Nat.le_of_ble_eq_true rfl) (Nat.le_of_ble_eq_true rfl) (Nat.le_of_ble_eq_true rfl) (Nat.le_of_ble_eq_true rfl) ((nG_t h_2).trans (nG_f (by clear hP hS hl hc hx hb hr htb; simp_all [-Int32.not_le, -Int32.not_lt, i32_lt, nb_t, nb_f, nb_z, nb_o]))) (Nat.le_of_ble_eq_true rfl) (Nat.le_of_ble_eq_true rfl)
set_option maxHeartbeats 4000000 in
set_option maxRecDepth 100000 in
theorem c_X9_gain (hfl : l.stackTraces = false) (hI : ninj ad on) (hon0 : on 0) (hon1 : on 1) (hon2 : on 2) (hok : oOk S) (hd : vp_in (X 2 21 0 4) 513) {pp q : Int32} : nXi l D dA ad on yX9_gain cX9_gain 3 (some .int) (nrx 9 6) [.ref (ad 2 20 0), .int pp, .int q] (wdo X 0 S) 6 (fun r X' => (nG (inB pp (onp S)) 2 (nG (inB q (onp S)) 2 (nG (!decide (pp = q)) 0 (nG (oOpen S) 1 (nG (!oGone S pp) 1 (.inr (oFreed S pp q, wdo X 0 (oG S pp).2)))))) : Nat ⊕ (Int32 × NWd)) = .inr (r, X')) (fun k => (nG (inB pp (onp S)) 2 (nG (inB q (onp S)) 2 (nG (!decide (pp = q)) 0 (nG (oOpen S) 1 (nG (!oGone S pp) 1 (.inr (oFreed S pp q, wdo X 0 (oG S pp).2)))))) : Nat ⊕ (Int32 × NWd)) = .inl k) := by
  refine nX_of hI (by decide +kernel) (Nat.le_of_ble_eq_true rfl) ?_
  intro p e s m args below meth cd ls hc hr htb hP hl hS
  have hx := hc.1
  have hb := hc.2.1
  have hl : lv_has ls 3 [(0, .ref (ad 2 20 0)), (1, .int pp), (2, .int q)] := hl
  have hok0 := hok
  refine lv_aload_n hx hb dX9_gain_0 rfl (lv_at hl 0 rfl) ?_
  refine lv_iload_n hx hb dX9_gain_1 rfl (lv_at hl 1 rfl) ?_
  refine nc_XVv (mc := 1) (c_X9_needPaper hfl hI hon0 hon1 hon2 hok) hc htb hP hS hl.1 gd9_132 (nrecv (q := (RX9, TX9, 3)) hc (npic_eta hP) (nv_n hon2 (by decide) Nat.zero_lt_one) rfl rfl) ⟨rfl, rfl⟩ nok_X9_needPaper rfl ⟨Nat.le_of_ble_eq_true rfl, Nat.le_of_ble_eq_true rfl⟩ ⟨Nat.le_of_ble_eq_true rfl, Nat.le_of_ble_eq_true rfl⟩ ⟨Nat.le_of_ble_eq_true rfl, Nat.le_of_ble_eq_true rfl⟩ dX9_gain_2 rfl (Nat.le_of_ble_eq_true rfl) (fun k9 h9 => by rw [h9.1]; exact nG_f h9.2) (fun X1 H locs hp hP hS => ?_)
  obtain ⟨h_2, hX9⟩ := hp
  rw [hX9] at hP
  refine lv_aload_n hx hb dX9_gain_5 rfl (lv_at hl 0 rfl) ?_
  refine lv_iload_n hx hb dX9_gain_6 rfl (lv_at hl 2 rfl) ?_
  refine nc_XVv (mc := 1) (c_X9_needPaper hfl hI hon0 hon1 hon2 hok) hc htb hP hS hl.1 gd9_132 (nrecv (q := (RX9, TX9, 3)) hc (npic_eta hP) (nv_n hon2 (by decide) Nat.zero_lt_one) rfl rfl) ⟨rfl, rfl⟩ nok_X9_needPaper rfl ⟨Nat.le_of_ble_eq_true rfl, Nat.le_of_ble_eq_true rfl⟩ ⟨Nat.le_of_ble_eq_true rfl, Nat.le_of_ble_eq_true rfl⟩ ⟨Nat.le_of_ble_eq_true rfl, Nat.le_of_ble_eq_true rfl⟩ dX9_gain_7 rfl (Nat.le_of_ble_eq_true rfl) (fun k9 h9 => by rw [h9.1]; exact (nG_t h_2).trans (nG_f h9.2)) (fun X1 H locs hp hP hS => ?_)
  obtain ⟨h_7, hX9⟩ := hp
  rw [hX9] at hP
  refine lv_iload_n hx hb dX9_gain_10 rfl (lv_at hl 1 rfl) ?_
  refine lv_iload_n hx hb dX9_gain_11 rfl (lv_at hl 2 rfl) ?_
  refine lv_icmp_ne (tgt := 25) hx hb dX9_gain_12 (by decide) (fun c_12 => ?_) (fun c_12 => ?_)
  · refine lv_aload_n hx hb dX9_gain_25 rfl (lv_at hl 0 rfl) ?_
    refine nc_XVv (mc := 1) (c_X9_needOpen hfl hI hon0 hon1 hon2 ) hc htb hP hS hl.1 gd9_123 (nrecv (q := (RX9, TX9, 3)) hc (npic_eta hP) (nv_n hon2 (by decide) Nat.zero_lt_one) rfl rfl) ⟨rfl, rfl⟩ nok_X9_needOpen rfl ⟨Nat.le_of_ble_eq_true rfl, Nat.le_of_ble_eq_true rfl⟩ ⟨Nat.le_of_ble_eq_true rfl, Nat.le_of_ble_eq_true rfl⟩ ⟨Nat.le_of_ble_eq_true rfl, Nat.le_of_ble_eq_true rfl⟩ dX9_gain_26 rfl (Nat.le_of_ble_eq_true rfl) (fun k9 h9 => by rw [h9.1]; exact (nG_t h_2).trans ((nG_t h_7).trans ((nG_t (by clear hP hS hl hc hx hb hr htb; simp_all [-Int32.not_le, -Int32.not_lt, i32_lt, nb_t, nb_f, nb_z, nb_o])).trans (nG_f h9.2)))) (fun X1 H locs hp hP hS => ?_)
    obtain ⟨h_26, hX9⟩ := hp
    rw [hX9] at hP
    refine lv_aload_n hx hb dX9_gain_29 rfl (lv_at hl 0 rfl) ?_
    refine lv_iload_n hx hb dX9_gain_30 rfl (lv_at hl 1 rfl) ?_
    refine nc_XVv (mc := 1) (c_X9_needNotWithdrawn hfl hI hon0 hon1 hon2 ) hc htb hP hS hl.1 gd9_135 (nrecv (q := (RX9, TX9, 3)) hc (npic_eta hP) (nv_n hon2 (by decide) Nat.zero_lt_one) rfl rfl) ⟨rfl, rfl⟩ nok_X9_needNotWithdrawn rfl ⟨Nat.le_of_ble_eq_true rfl, Nat.le_of_ble_eq_true rfl⟩ ⟨Nat.le_of_ble_eq_true rfl, Nat.le_of_ble_eq_true rfl⟩ ⟨Nat.le_of_ble_eq_true rfl, Nat.le_of_ble_eq_true rfl⟩ dX9_gain_31 rfl (Nat.le_of_ble_eq_true rfl) (fun k9 h9 => by rw [h9.1]; exact (nG_t h_2).trans ((nG_t h_7).trans ((nG_t (by clear hP hS hl hc hx hb hr htb; simp_all [-Int32.not_le, -Int32.not_lt, i32_lt, nb_t, nb_f, nb_z, nb_o])).trans ((nG_t h_26).trans (nG_f h9.2))))) (fun X1 H locs hp hP hS => ?_)
    obtain ⟨h_31, hX9⟩ := hp
    rw [hX9] at hP
    refine lv_aload_n hx hb dX9_gain_34 rfl (lv_at hl 0 rfl) ?_
    refine g9_10 hc hP (nv_n hon2 (by decide) Nat.zero_lt_one) dX9_gain_35 ?_
    refine lv_iload_n hx hb dX9_gain_38 rfl (lv_at hl 1 rfl) ?_
    refine lv_iload_n hx hb dX9_gain_39 rfl (lv_at hl 2 rfl) ?_
    refine nc_Vi (c_X4_freedBy hI hon0 (by decide) hok) hc hP hS hl.1 gd9_225 (nrecv (q := (RX4, TX4, 9)) hc (npic_eta hP) (nv_o hon0 (by decide) (by decide) Nat.zero_lt_one) rfl rfl) ⟨rfl, rfl⟩ nok_X4_freedBy rfl ⟨Nat.le_of_ble_eq_true rfl, Nat.le_of_ble_eq_true rfl⟩ ⟨Nat.le_of_ble_eq_true rfl, Nat.le_of_ble_eq_true rfl⟩ dX9_gain_40 rfl (Nat.le_of_ble_eq_true rfl) (fun r X1 H locs hp hP hS => ?_)
    obtain ⟨hr9, hX9⟩ := hp
    rw [hX9] at hP
    subst hr9
    exact ne_xi hc hP hS hr dX9_gain_43 (Nat.le_of_ble_eq_true rfl) (Nat.le_of_ble_eq_true rfl) ((nG_t h_2).trans ((nG_t h_7).trans ((nG_t (by clear hP hS hl hc hx hb hr htb; simp_all [-Int32.not_le, -Int32.not_lt, i32_lt, nb_t, nb_f, nb_z, nb_o])).trans ((nG_t h_26).trans ((nG_t h_31).trans (rfl))))))
  · exact nt_throw hfl 0 (by decide) (by decide) (is := 223) (text := "both are the same paper") (by decide) hc htb hP hS hl.1 dX9_gain_15 dX9_gain_18 dX9_gain_19 dX9_gain_21 dX9_gain_24 (Nat.le_of_ble_eq_true rfl) (Nat.le_of_ble_eq_true rfl) (Nat.le_of_ble_eq_true rfl) (Nat.le_of_ble_eq_true rfl) ((nG_t h_2).trans ((nG_t h_7).trans (nG_f (by clear hP hS hl hc hx hb hr htb; simp_all [-Int32.not_le, -Int32.not_lt, i32_lt, nb_t, nb_f, nb_z, nb_o])))) (Nat.le_of_ble_eq_true rfl) (Nat.le_of_ble_eq_true rfl)
set_option maxHeartbeats 4000000 in
set_option maxRecDepth 100000 in
theorem c_X9_fewestWithdrawals (hfl : l.stackTraces = false) (hI : ninj ad on) (hon0 : on 0) (hon1 : on 1) (hon2 : on 2) (hok : oOk S) (hd : vp_in (X 2 21 0 4) 513) {pp : Int32} (hu : vp_in pp (onp S) → vp_in (oUse S pp) 4096) : nYi l D dA ad on yX9_fewestWithdrawals cX9_fewestWithdrawals 3 (some .int) (nrx 9 6) [.ref (ad 2 20 0), .int pp] (wdo X 0 S) 6 (fun r X' => (nG (inB pp (onp S)) 2 (nG (oOpen S) 1 (nG (!oGone S pp) 1 (nG (!decide (oSmall S pp = -1)) 4 (.inr (oSmall S pp, wdo X 0 (oG S pp).2))))) : Nat ⊕ (Int32 × NWd)) = .inr (r, X')) (fun k X' => (nG (inB pp (onp S)) 2 (nG (oOpen S) 1 (nG (!oGone S pp) 1 (nG (!decide (oSmall S pp = -1)) 4 (.inr (oSmall S pp, wdo X 0 (oG S pp).2))))) : Nat ⊕ (Int32 × NWd)) = .inl k ∧ (X' = wdo X 0 S ∨ X' = wdo X 0 (oG S pp).2)) := by
  refine nX_of hI (by decide +kernel) (Nat.le_of_ble_eq_true rfl) ?_
  intro p e s m args below meth cd ls hc hr htb hP hl hS
  have hx := hc.1
  have hb := hc.2.1
  have hl : lv_has ls 3 [(0, .ref (ad 2 20 0)), (1, .int pp)] := hl
  have hok0 := hok
  refine lv_aload_n hx hb dX9_fewestWithdrawals_0 rfl (lv_at hl 0 rfl) ?_
  refine lv_iload_n hx hb dX9_fewestWithdrawals_1 rfl (lv_at hl 1 rfl) ?_
  refine nc_YVv (mc := 1) (c_X9_needPaper hfl hI hon0 hon1 hon2 hok) hc htb hP hS hl.1 gd9_132 (nrecv (q := (RX9, TX9, 3)) hc (npic_eta hP) (nv_n hon2 (by decide) Nat.zero_lt_one) rfl rfl) ⟨rfl, rfl⟩ nok_X9_needPaper rfl ⟨Nat.le_of_ble_eq_true rfl, Nat.le_of_ble_eq_true rfl⟩ ⟨Nat.le_of_ble_eq_true rfl, Nat.le_of_ble_eq_true rfl⟩ ⟨Nat.le_of_ble_eq_true rfl, Nat.le_of_ble_eq_true rfl⟩ dX9_fewestWithdrawals_2 rfl (Nat.le_of_ble_eq_true rfl) (fun k9 h9 => by rw [h9.1]; exact ⟨nG_f h9.2, Or.inl rfl⟩) (fun X1 H locs hp hP hS => ?_)
  obtain ⟨h_2, hX9⟩ := hp
  rw [hX9] at hP
  refine lv_aload_n hx hb dX9_fewestWithdrawals_5 rfl (lv_at hl 0 rfl) ?_
  refine nc_YVv (mc := 1) (c_X9_needOpen hfl hI hon0 hon1 hon2 ) hc htb hP hS hl.1 gd9_123 (nrecv (q := (RX9, TX9, 3)) hc (npic_eta hP) (nv_n hon2 (by decide) Nat.zero_lt_one) rfl rfl) ⟨rfl, rfl⟩ nok_X9_needOpen rfl ⟨Nat.le_of_ble_eq_true rfl, Nat.le_of_ble_eq_true rfl⟩ ⟨Nat.le_of_ble_eq_true rfl, Nat.le_of_ble_eq_true rfl⟩ ⟨Nat.le_of_ble_eq_true rfl, Nat.le_of_ble_eq_true rfl⟩ dX9_fewestWithdrawals_6 rfl (Nat.le_of_ble_eq_true rfl) (fun k9 h9 => by rw [h9.1]; exact ⟨(nG_t h_2).trans (nG_f h9.2), Or.inl rfl⟩) (fun X1 H locs hp hP hS => ?_)
  obtain ⟨h_6, hX9⟩ := hp
  rw [hX9] at hP
  refine lv_aload_n hx hb dX9_fewestWithdrawals_9 rfl (lv_at hl 0 rfl) ?_
  refine lv_iload_n hx hb dX9_fewestWithdrawals_10 rfl (lv_at hl 1 rfl) ?_
  refine nc_YVv (mc := 1) (c_X9_needNotWithdrawn hfl hI hon0 hon1 hon2 ) hc htb hP hS hl.1 gd9_135 (nrecv (q := (RX9, TX9, 3)) hc (npic_eta hP) (nv_n hon2 (by decide) Nat.zero_lt_one) rfl rfl) ⟨rfl, rfl⟩ nok_X9_needNotWithdrawn rfl ⟨Nat.le_of_ble_eq_true rfl, Nat.le_of_ble_eq_true rfl⟩ ⟨Nat.le_of_ble_eq_true rfl, Nat.le_of_ble_eq_true rfl⟩ ⟨Nat.le_of_ble_eq_true rfl, Nat.le_of_ble_eq_true rfl⟩ dX9_fewestWithdrawals_11 rfl (Nat.le_of_ble_eq_true rfl) (fun k9 h9 => by rw [h9.1]; exact ⟨(nG_t h_2).trans ((nG_t h_6).trans (nG_f h9.2)), Or.inl rfl⟩) (fun X1 H locs hp hP hS => ?_)
  obtain ⟨h_11, hX9⟩ := hp
  rw [hX9] at hP
  refine lv_aload_n hx hb dX9_fewestWithdrawals_14 rfl (lv_at hl 0 rfl) ?_
  refine g9_10 hc hP (nv_n hon2 (by decide) Nat.zero_lt_one) dX9_fewestWithdrawals_15 ?_
  refine lv_iload_n hx hb dX9_fewestWithdrawals_18 rfl (lv_at hl 1 rfl) ?_
  refine nc_Vi (c_X4_smallestSetFor hI hon0 (by decide) hok (inB_t.mp h_2) (hu (inB_t.mp h_2))) hc hP hS hl.1 gd9_229 (nrecv (q := (RX4, TX4, 9)) hc (npic_eta hP) (nv_o hon0 (by decide) (by decide) Nat.zero_lt_one) rfl rfl) ⟨rfl, rfl⟩ nok_X4_smallestSetFor rfl ⟨Nat.le_of_ble_eq_true rfl, Nat.le_of_ble_eq_true rfl⟩ ⟨Nat.le_of_ble_eq_true rfl, Nat.le_of_ble_eq_true rfl⟩ dX9_fewestWithdrawals_19 rfl (Nat.le_of_ble_eq_true rfl) (fun r X1 H locs hp hP hS => ?_)
  obtain ⟨hr9, hX9⟩ := hp
  rw [hX9] at hP
  subst hr9
  refine lv_istore_n (lv' := [(2, .int _), (0, .ref _), (1, .int _)]) hx hb dX9_fewestWithdrawals_22 rfl hl (by decide) rfl (fun ls hl => ?_)
  refine lv_iload_n hx hb dX9_fewestWithdrawals_23 rfl (lv_at hl 0 rfl) ?_
  refine lv_iconst (v := (-1)) hx hb dX9_fewestWithdrawals_24 (by decide) ?_
  refine lv_icmp_ne (tgt := 38) hx hb dX9_fewestWithdrawals_25 (by decide) (fun c_25 => ?_) (fun c_25 => ?_)
  · refine lv_iload_n hx hb dX9_fewestWithdrawals_38 rfl (lv_at hl 0 rfl) ?_
    exact ne_xi hc hP hS hr dX9_fewestWithdrawals_39 (Nat.le_of_ble_eq_true rfl) (Nat.le_of_ble_eq_true rfl) ((nG_t h_2).trans ((nG_t h_6).trans ((nG_t h_11).trans ((nG_t (by clear hP hS hl hc hx hb hr htb; simp_all [-Int32.not_le, -Int32.not_lt, i32_lt, nb_t, nb_f, nb_z, nb_o])).trans (rfl)))))
  · exact nt_throwY4 hfl (is := 232) (text := "there is no such set") (by decide) hc htb hP hS hl.1 dX9_fewestWithdrawals_28 dX9_fewestWithdrawals_31 dX9_fewestWithdrawals_32 dX9_fewestWithdrawals_34 dX9_fewestWithdrawals_37 (Nat.le_of_ble_eq_true rfl) (Nat.le_of_ble_eq_true rfl) (Nat.le_of_ble_eq_true rfl) (Nat.le_of_ble_eq_true rfl) ⟨((nG_t h_2).trans ((nG_t h_6).trans ((nG_t h_11).trans (nG_f (by clear hP hS hl hc hx hb hr htb; simp_all [-Int32.not_le, -Int32.not_lt, i32_lt, nb_t, nb_f, nb_z, nb_o]))))), Or.inr rfl⟩ (Nat.le_of_ble_eq_true rfl) (Nat.le_of_ble_eq_true rfl)
set_option maxHeartbeats 4000000 in
set_option maxRecDepth 100000 in
theorem c_X9_signatures (hfl : l.stackTraces = false) (hI : ninj ad on) (hon0 : on 0) (hon1 : on 1) (hon2 : on 2) (hok : oOk S) (hd : vp_in (X 2 21 0 4) 513) : nXi l D dA ad on yX9_signatures cX9_signatures 1 (some .int) (nrx 9 6) [.ref (ad 2 20 0)] (wdo X 0 S) 6 (fun r X' => (.inr (S 0 0 7, wdo X 0 S) : Nat ⊕ (Int32 × NWd)) = .inr (r, X')) (fun k => (.inr (S 0 0 7, wdo X 0 S) : Nat ⊕ (Int32 × NWd)) = .inl k) := by
  refine nX_of hI (by decide +kernel) (Nat.le_of_ble_eq_true rfl) ?_
  intro p e s m args below meth cd ls hc hr htb hP hl hS
  have hx := hc.1
  have hb := hc.2.1
  have hl : lv_has ls 1 [(0, .ref (ad 2 20 0))] := hl
  have hok0 := hok
  refine lv_aload_n hx hb dX9_signatures_0 rfl (lv_at hl 0 rfl) ?_
  refine g9_10 hc hP (nv_n hon2 (by decide) Nat.zero_lt_one) dX9_signatures_1 ?_
  refine g9_138 hc hP (nv_o hon0 (by decide) (by decide) Nat.zero_lt_one) dX9_signatures_4 ?_
  exact ne_xi hc hP hS hr dX9_signatures_7 (Nat.le_of_ble_eq_true rfl) (Nat.le_of_ble_eq_true rfl) (rfl)
set_option maxHeartbeats 4000000 in
set_option maxRecDepth 100000 in
theorem c_X9_reason (hfl : l.stackTraces = false) (hI : ninj ad on) (hon0 : on 0) (hon1 : on 1) (hon2 : on 2) (hok : oOk S) (hd : vp_in (X 2 21 0 4) 513) {pp : Int32} : nXi l D dA ad on yX9_reason cX9_reason 2 (some .int) (nrx 9 6) [.ref (ad 2 20 0), .int pp] (wdo X 0 S) 6 (fun r X' => (nG (inB pp (onp S)) 2 (.inr (oWhy S pp, wdo X 0 S)) : Nat ⊕ (Int32 × NWd)) = .inr (r, X')) (fun k => (nG (inB pp (onp S)) 2 (.inr (oWhy S pp, wdo X 0 S)) : Nat ⊕ (Int32 × NWd)) = .inl k) := by
  refine nX_of hI (by decide +kernel) (Nat.le_of_ble_eq_true rfl) ?_
  intro p e s m args below meth cd ls hc hr htb hP hl hS
  have hx := hc.1
  have hb := hc.2.1
  have hl : lv_has ls 2 [(0, .ref (ad 2 20 0)), (1, .int pp)] := hl
  have hok0 := hok
  refine lv_aload_n hx hb dX9_reason_0 rfl (lv_at hl 0 rfl) ?_
  refine lv_iload_n hx hb dX9_reason_1 rfl (lv_at hl 1 rfl) ?_
  refine nc_XVv (mc := 1) (c_X9_needPaper hfl hI hon0 hon1 hon2 hok) hc htb hP hS hl.1 gd9_132 (nrecv (q := (RX9, TX9, 3)) hc (npic_eta hP) (nv_n hon2 (by decide) Nat.zero_lt_one) rfl rfl) ⟨rfl, rfl⟩ nok_X9_needPaper rfl ⟨Nat.le_of_ble_eq_true rfl, Nat.le_of_ble_eq_true rfl⟩ ⟨Nat.le_of_ble_eq_true rfl, Nat.le_of_ble_eq_true rfl⟩ ⟨Nat.le_of_ble_eq_true rfl, Nat.le_of_ble_eq_true rfl⟩ dX9_reason_2 rfl (Nat.le_of_ble_eq_true rfl) (fun k9 h9 => by rw [h9.1]; exact nG_f h9.2) (fun X1 H locs hp hP hS => ?_)
  obtain ⟨h_2, hX9⟩ := hp
  rw [hX9] at hP
  refine lv_aload_n hx hb dX9_reason_5 rfl (lv_at hl 0 rfl) ?_
  refine g9_10 hc hP (nv_n hon2 (by decide) Nat.zero_lt_one) dX9_reason_6 ?_
  refine lv_iload_n hx hb dX9_reason_9 rfl (lv_at hl 1 rfl) ?_
  refine nc_Vi (c_X4_whyNotStanding hI hon0 (by decide) (vp_mono (inB_t.mp h_2) hok0.np12)) hc hP hS hl.1 gd9_234 (nrecv (q := (RX4, TX4, 9)) hc (npic_eta hP) (nv_o hon0 (by decide) (by decide) Nat.zero_lt_one) rfl rfl) ⟨rfl, rfl⟩ nok_X4_whyNotStanding rfl ⟨Nat.le_of_ble_eq_true rfl, Nat.le_of_ble_eq_true rfl⟩ ⟨Nat.le_of_ble_eq_true rfl, Nat.le_of_ble_eq_true rfl⟩ dX9_reason_10 rfl (Nat.le_of_ble_eq_true rfl) (fun r X1 H locs hp hP hS => ?_)
  obtain ⟨hr9, hX9⟩ := hp
  rw [hX9] at hP
  subst hr9
  exact ne_xi hc hP hS hr dX9_reason_13 (Nat.le_of_ble_eq_true rfl) (Nat.le_of_ble_eq_true rfl) ((nG_t h_2).trans (rfl))
set_option maxHeartbeats 4000000 in
set_option maxRecDepth 100000 in
theorem c_X9_ballotSize (hfl : l.stackTraces = false) (hI : ninj ad on) (hon0 : on 0) (hon1 : on 1) (hon2 : on 2) (hok : oOk S) (hd : vp_in (X 2 21 0 4) 513) {a : Int32} : nXi l D dA ad on yX9_ballotSize cX9_ballotSize 2 (some .int) (nrx 9 6) [.ref (ad 2 20 0), .int a] (wdo X 0 S) 6 (fun r X' => (nG (inB a (ona S)) 2 (.inr (oStand S a, wdo X 0 S)) : Nat ⊕ (Int32 × NWd)) = .inr (r, X')) (fun k => (nG (inB a (ona S)) 2 (.inr (oStand S a, wdo X 0 S)) : Nat ⊕ (Int32 × NWd)) = .inl k) := by
  refine nX_of hI (by decide +kernel) (Nat.le_of_ble_eq_true rfl) ?_
  intro p e s m args below meth cd ls hc hr htb hP hl hS
  have hx := hc.1
  have hb := hc.2.1
  have hl : lv_has ls 2 [(0, .ref (ad 2 20 0)), (1, .int a)] := hl
  have hok0 := hok
  refine lv_aload_n hx hb dX9_ballotSize_0 rfl (lv_at hl 0 rfl) ?_
  refine lv_iload_n hx hb dX9_ballotSize_1 rfl (lv_at hl 1 rfl) ?_
  refine nc_XVv (mc := 1) (c_X9_needArea hfl hI hon0 hon1 hon2 hok) hc htb hP hS hl.1 gd9_79 (nrecv (q := (RX9, TX9, 3)) hc (npic_eta hP) (nv_n hon2 (by decide) Nat.zero_lt_one) rfl rfl) ⟨rfl, rfl⟩ nok_X9_needArea rfl ⟨Nat.le_of_ble_eq_true rfl, Nat.le_of_ble_eq_true rfl⟩ ⟨Nat.le_of_ble_eq_true rfl, Nat.le_of_ble_eq_true rfl⟩ ⟨Nat.le_of_ble_eq_true rfl, Nat.le_of_ble_eq_true rfl⟩ dX9_ballotSize_2 rfl (Nat.le_of_ble_eq_true rfl) (fun k9 h9 => by rw [h9.1]; exact nG_f h9.2) (fun X1 H locs hp hP hS => ?_)
  obtain ⟨h_2, hX9⟩ := hp
  rw [hX9] at hP
  refine lv_aload_n hx hb dX9_ballotSize_5 rfl (lv_at hl 0 rfl) ?_
  refine g9_10 hc hP (nv_n hon2 (by decide) Nat.zero_lt_one) dX9_ballotSize_6 ?_
  refine lv_iload_n hx hb dX9_ballotSize_9 rfl (lv_at hl 1 rfl) ?_
  refine nc_Vi (c_X4_countStanding hI hon0 (by decide) hok) hc hP hS hl.1 gd9_260 (nrecv (q := (RX4, TX4, 9)) hc (npic_eta hP) (nv_o hon0 (by decide) (by decide) Nat.zero_lt_one) rfl rfl) ⟨rfl, rfl⟩ nok_X4_countStanding rfl ⟨Nat.le_of_ble_eq_true rfl, Nat.le_of_ble_eq_true rfl⟩ ⟨Nat.le_of_ble_eq_true rfl, Nat.le_of_ble_eq_true rfl⟩ dX9_ballotSize_10 rfl (Nat.le_of_ble_eq_true rfl) (fun r X1 H locs hp hP hS => ?_)
  obtain ⟨hr9, hX9⟩ := hp
  rw [hX9] at hP
  subst hr9
  exact ne_xi hc hP hS hr dX9_ballotSize_13 (Nat.le_of_ble_eq_true rfl) (Nat.le_of_ble_eq_true rfl) ((nG_t h_2).trans (rfl))
set_option maxHeartbeats 4000000 in
set_option maxRecDepth 100000 in
theorem c_X9_draw (hfl : l.stackTraces = false) (hI : ninj ad on) (hon0 : on 0) (hon1 : on 1) (hon2 : on 2) (hok : oOk S) (hd : vp_in (X 2 21 0 4) 513) {a : Int32} (hlg : ∀ i, i < 26 → cSmall (nJ S 13 a 0 0 8 0 i) = true) : nXi l D dA ad on yX9_draw cX9_draw 2 (some .char) (nrx 9 6) [.ref (ad 2 20 0), .int a] (wdo X 0 S) 6 (fun r X' => (nG (!oOpen S) 1 (nG (decide (S 7 0 2 = 0)) 1 (.inr (nJ S 13 a 0 0 8 0 0, nEv X S 13 a 0 0))) : Nat ⊕ (Int32 × NWd)) = .inr (r, X')) (fun k => (nG (!oOpen S) 1 (nG (decide (S 7 0 2 = 0)) 1 (.inr (nJ S 13 a 0 0 8 0 0, nEv X S 13 a 0 0))) : Nat ⊕ (Int32 × NWd)) = .inl k) := by
  refine nX_of hI (by decide +kernel) (Nat.le_of_ble_eq_true rfl) ?_
  intro p e s m args below meth cd ls hc hr htb hP hl hS
  have hx := hc.1
  have hb := hc.2.1
  have hl : lv_has ls 2 [(0, .ref (ad 2 20 0)), (1, .int a)] := hl
  have hok0 := hok
  refine lv_aload_n hx hb dX9_draw_0 rfl (lv_at hl 0 rfl) ?_
  refine g9_10 hc hP (nv_n hon2 (by decide) Nat.zero_lt_one) dX9_draw_1 ?_
  refine g9_33 hc hP (nv_o hon0 (by decide) (by decide) Nat.zero_lt_one) dX9_draw_4 ?_
  refine nc_Vi (c_X1_isBeforeClose hI hon0 (by decide) ) hc hP hS hl.1 gd9_62 (nrecv (q := (RX1, TX1, 4)) hc (npic_eta hP) (nv_o hon0 (by decide) (by decide) Nat.zero_lt_one) rfl rfl) ⟨rfl, rfl⟩ nok_X1_isBeforeClose rfl ⟨Nat.le_of_ble_eq_true rfl, Nat.le_of_ble_eq_true rfl⟩ ⟨Nat.le_of_ble_eq_true rfl, Nat.le_of_ble_eq_true rfl⟩ dX9_draw_7 rfl (Nat.le_of_ble_eq_true rfl) (fun r X1 H locs hp hP hS => ?_)
  obtain ⟨hr9, hX9⟩ := hp
  rw [hX9] at hP
  subst hr9
  refine lv_if_eq (tgt := 24) hx hb dX9_draw_10 (by decide) (fun c_10 => ?_) (fun c_10 => ?_)
  · refine lv_aload_n hx hb dX9_draw_24 rfl (lv_at hl 0 rfl) ?_
    refine g9_10 hc hP (nv_n hon2 (by decide) Nat.zero_lt_one) dX9_draw_25 ?_
    refine g9_265 hc hP (nv_o hon0 (by decide) (by decide) Nat.zero_lt_one) dX9_draw_28 ?_
    refine g9_269 hc hP (nv_o hon0 (by decide) (by decide) Nat.zero_lt_one) dX9_draw_31 ?_
    refine lv_if_eq (tgt := 48) hx hb dX9_draw_34 (by decide) (fun c_34 => ?_) (fun c_34 => ?_)
    · refine lv_aload_n hx hb dX9_draw_48 rfl (lv_at hl 0 rfl) ?_
      refine lv_bipush (v := 13) hx hb dX9_draw_49 (by decide) ?_
      refine lv_iload_n hx hb dX9_draw_51 rfl (lv_at hl 1 rfl) ?_
      refine lv_iconst (v := 0) hx hb dX9_draw_52 (by decide) ?_
      refine lv_iconst (v := 0) hx hb dX9_draw_53 (by decide) ?_
      refine nc_Vv (c_X9_happen hI hon0 hon1 hon2 hok (oEv_13) hd) hc hP hS hl.1 gd9_54 (nrecv (q := (RX9, TX9, 3)) hc (npic_eta hP) (nv_n hon2 (by decide) Nat.zero_lt_one) rfl rfl) ⟨rfl, rfl⟩ nok_X9_happen rfl ⟨Nat.le_of_ble_eq_true rfl, Nat.le_of_ble_eq_true rfl⟩ ⟨Nat.le_of_ble_eq_true rfl, Nat.le_of_ble_eq_true rfl⟩ dX9_draw_54 rfl (Nat.le_of_ble_eq_true rfl) (fun X1 H locs hp hP hS => ?_)
      replace hok : oOk (nJ S 13 a 0 0) := nJ_ok hok (oEv_13)
      rw [hp, nEv_J] at hP
      refine lv_aload_n hx hb dX9_draw_57 rfl (lv_at hl 0 rfl) ?_
      refine g9_10 hc hP (nv_n hon2 (by decide) Nat.zero_lt_one) dX9_draw_58 ?_
      refine g9_265 hc hP (nv_o hon0 (by decide) (by decide) Nat.zero_lt_one) dX9_draw_61 ?_
      refine g9_276 hc hP (nv_o hon0 (by decide) (by decide) Nat.zero_lt_one) dX9_draw_64 ?_
      refine lv_iconst (v := 0) hx hb dX9_draw_67 (by decide) ?_
      refine la_8 hc hP (nv_o hon0 (by decide) (by decide) Nat.zero_lt_one) (by unfold vp_in; decide) dX9_draw_68 ?_
      exact ne_xz hc hP hS hr (nar_sv (hlg _ (by decide))) dX9_draw_69 (Nat.le_of_ble_eq_true rfl) (Nat.le_of_ble_eq_true rfl) ((nG_t (by clear hP hS hl hc hx hb hr htb; simp_all [-Int32.not_le, -Int32.not_lt, i32_lt, nb_t, nb_f, nb_z, nb_o])).trans ((nG_t (by clear hP hS hl hc hx hb hr htb; simp_all [-Int32.not_le, -Int32.not_lt, i32_lt, nb_t, nb_f, nb_z, nb_o])).trans (rfl)))
    · exact nt_throwW hfl 1 (by decide) (by decide) (is := 274) (text := "the letters have been drawn") (by decide) hc htb hP hS hl.1 dX9_draw_37 dX9_draw_40 dX9_draw_41 dX9_draw_44 dX9_draw_47 (Nat.le_of_ble_eq_true rfl) (Nat.le_of_ble_eq_true rfl) (Nat.le_of_ble_eq_true rfl) (Nat.le_of_ble_eq_true rfl) ((nG_t (by clear hP hS hl hc hx hb hr htb; simp_all [-Int32.not_le, -Int32.not_lt, i32_lt, nb_t, nb_f, nb_z, nb_o])).trans (nG_f (by clear hP hS hl hc hx hb hr htb; simp_all [-Int32.not_le, -Int32.not_lt, i32_lt, nb_t, nb_f, nb_z, nb_o]))) (Nat.le_of_ble_eq_true rfl) (Nat.le_of_ble_eq_true rfl)
  · exact nt_throwW hfl 1 (by decide) (by decide) (is := 263) (text := "the office is open") (by decide) hc htb hP hS hl.1 dX9_draw_13 dX9_draw_16 dX9_draw_17 dX9_draw_20 dX9_draw_23 (Nat.le_of_ble_eq_true rfl) (Nat.le_of_ble_eq_true rfl) (Nat.le_of_ble_eq_true rfl) (Nat.le_of_ble_eq_true rfl) (nG_f (by clear hP hS hl hc hx hb hr htb; simp_all [-Int32.not_le, -Int32.not_lt, i32_lt, nb_t, nb_f, nb_z, nb_o])) (Nat.le_of_ble_eq_true rfl) (Nat.le_of_ble_eq_true rfl)
set_option maxHeartbeats 4000000 in
set_option maxRecDepth 100000 in
theorem c_X9_letter (hfl : l.stackTraces = false) (hI : ninj ad on) (hon0 : on 0) (hon1 : on 1) (hon2 : on 2) (hok : oOk S) (hd : vp_in (X 2 21 0 4) 513) {q : Int32} (hlg : ∀ i, i < 26 → ¬ S 7 0 2 = 0 → cSmall (S 8 0 i) = true) : nXi l D dA ad on yX9_letter cX9_letter 2 (some .char) (nrx 9 6) [.ref (ad 2 20 0), .int q] (wdo X 0 S) 6 (fun r X' => (nG (decide (0 ≤ q) && decide (q < 26)) 2 (nG (!decide (S 7 0 2 = 0)) 1 (.inr (S 8 0 (nix q), wdo X 0 S))) : Nat ⊕ (Int32 × NWd)) = .inr (r, X')) (fun k => (nG (decide (0 ≤ q) && decide (q < 26)) 2 (nG (!decide (S 7 0 2 = 0)) 1 (.inr (S 8 0 (nix q), wdo X 0 S))) : Nat ⊕ (Int32 × NWd)) = .inl k) := by
  refine nX_of hI (by decide +kernel) (Nat.le_of_ble_eq_true rfl) ?_
  intro p e s m args below meth cd ls hc hr htb hP hl hS
  have hx := hc.1
  have hb := hc.2.1
  have hl : lv_has ls 2 [(0, .ref (ad 2 20 0)), (1, .int q)] := hl
  have hok0 := hok
  refine lv_iload_n hx hb dX9_letter_0 rfl (lv_at hl 1 rfl) ?_
  refine lv_if_lt (tgt := 10) hx hb dX9_letter_1 (by decide) (fun c_1 => ?_) (fun c_1 => ?_)
  · exact nt_throw hfl 2 (by decide) (by decide) (is := 187) (text := "no such place") (by decide) hc htb hP hS hl.1 dX9_letter_10 dX9_letter_13 dX9_letter_14 dX9_letter_16 dX9_letter_19 (Nat.le_of_ble_eq_true rfl) (Nat.le_of_ble_eq_true rfl) (Nat.le_of_ble_eq_true rfl) (Nat.le_of_ble_eq_true rfl) (nG_f (by clear hP hS hl hc hx hb hr htb; simp_all [-Int32.not_le, -Int32.not_lt, i32_lt, nb_t, nb_f, nb_z, nb_o])) (Nat.le_of_ble_eq_true rfl) (Nat.le_of_ble_eq_true rfl)
  · refine lv_iload_n hx hb dX9_letter_4 rfl (lv_at hl 1 rfl) ?_
    refine lv_bipush (v := 26) hx hb dX9_letter_5 (by decide) ?_
    refine lv_icmp_lt (tgt := 20) hx hb dX9_letter_7 (by decide) (fun c_7 => ?_) (fun c_7 => ?_)
    · refine lv_aload_n hx hb dX9_letter_20 rfl (lv_at hl 0 rfl) ?_
      refine nc_XVv (mc := 1) (c_X9_needLetters hfl hI hon0 hon1 hon2 ) hc htb hP hS hl.1 gd9_280 (nrecv (q := (RX9, TX9, 3)) hc (npic_eta hP) (nv_n hon2 (by decide) Nat.zero_lt_one) rfl rfl) ⟨rfl, rfl⟩ nok_X9_needLetters rfl ⟨Nat.le_of_ble_eq_true rfl, Nat.le_of_ble_eq_true rfl⟩ ⟨Nat.le_of_ble_eq_true rfl, Nat.le_of_ble_eq_true rfl⟩ ⟨Nat.le_of_ble_eq_true rfl, Nat.le_of_ble_eq_true rfl⟩ dX9_letter_21 rfl (Nat.le_of_ble_eq_true rfl) (fun k9 h9 => by rw [h9.1]; exact (nG_t (by clear hP hS hl hc hx hb hr htb; simp_all [-Int32.not_le, -Int32.not_lt, i32_lt, nb_t, nb_f, nb_z, nb_o])).trans (nG_f h9.2)) (fun X1 H locs hp hP hS => ?_)
      obtain ⟨h_21, hX9⟩ := hp
      rw [hX9] at hP
      refine lv_aload_n hx hb dX9_letter_24 rfl (lv_at hl 0 rfl) ?_
      refine g9_10 hc hP (nv_n hon2 (by decide) Nat.zero_lt_one) dX9_letter_25 ?_
      refine g9_265 hc hP (nv_o hon0 (by decide) (by decide) Nat.zero_lt_one) dX9_letter_28 ?_
      refine g9_276 hc hP (nv_o hon0 (by decide) (by decide) Nat.zero_lt_one) dX9_letter_31 ?_
      refine lv_iload_n hx hb dX9_letter_34 rfl (lv_at hl 1 rfl) ?_
      refine la_8 hc hP (nv_o hon0 (by decide) (by decide) Nat.zero_lt_one) (vp_r c_1 c_7 (by decide)) dX9_letter_35 ?_
      exact ne_xz hc hP hS hr (nar_sv (hlg _ (vp_lt (vp_r c_1 c_7 (by decide))) (by simpa using h_21))) dX9_letter_36 (Nat.le_of_ble_eq_true rfl) (Nat.le_of_ble_eq_true rfl) ((nG_t (by clear hP hS hl hc hx hb hr htb; simp_all [-Int32.not_le, -Int32.not_lt, i32_lt, nb_t, nb_f, nb_z, nb_o])).trans ((nG_t h_21).trans (rfl)))
    · exact nt_throw hfl 2 (by decide) (by decide) (is := 187) (text := "no such place") (by decide) hc htb hP hS hl.1 dX9_letter_10 dX9_letter_13 dX9_letter_14 dX9_letter_16 dX9_letter_19 (Nat.le_of_ble_eq_true rfl) (Nat.le_of_ble_eq_true rfl) (Nat.le_of_ble_eq_true rfl) (Nat.le_of_ble_eq_true rfl) (nG_f (by clear hP hS hl hc hx hb hr htb; simp_all [-Int32.not_le, -Int32.not_lt, i32_lt, nb_t, nb_f, nb_z, nb_o])) (Nat.le_of_ble_eq_true rfl) (Nat.le_of_ble_eq_true rfl)
set_option maxHeartbeats 4000000 in
set_option maxRecDepth 100000 in
theorem c_X9_around (hI : ninj ad on) {a b : Int32} : nMi l D dA ad on yX9_around cX9_around 2 (some .int) (nrm 2) [.int a, .int b] (X) (fun r X' => r = oAround a b ∧ X' = X) := by
  refine nM_of hI (by decide +kernel) (Nat.le_of_ble_eq_true rfl) ?_
  intro p e s m args below meth cd ls hc hr _ hP hl hS
  have hx := hc.1
  have hb := hc.2.1
  have hl : lv_has ls 2 [(0, .int a), (1, .int b)] := hl
  refine lv_iload_n hx hb dX9_around_0 rfl (lv_at hl 1 rfl) ?_
  refine lv_if_le (tgt := 12) hx hb dX9_around_1 (by decide) (fun c_1 => ?_) (fun c_1 => ?_)
  · refine lv_iconst (v := 0) hx hb dX9_around_12 (by decide) ?_
    exact ne_i hc hP hS hr dX9_around_13 ⟨by rw [oAround, if_neg (Int32.not_lt.mpr c_1)], rfl⟩
  · refine lv_iload_n hx hb dX9_around_4 rfl (lv_at hl 0 rfl) ?_
    refine lv_iload_n hx hb dX9_around_5 rfl (lv_at hl 1 rfl) ?_
    refine nc_Si (c_J9_floorMod_7cf53 hI (fun z => c_1 (by rw [z]; decide))) hc hP hS hl.1 gd9_388 ⟨rfl, rfl⟩ nok_J9_floorMod_7cf53 rfl ⟨Nat.le_of_ble_eq_true rfl, Nat.le_of_ble_eq_true rfl⟩ ⟨Nat.le_of_ble_eq_true rfl, Nat.le_of_ble_eq_true rfl⟩ dX9_around_6 rfl (Nat.le_of_ble_eq_true rfl) (fun r X1 H locs hp hP hS => ?_)
    obtain ⟨hr9, hX9⟩ := hp
    rw [hX9] at hP
    subst hr9
    refine lv_goto (tgt := 13) hx hb dX9_around_9 (by decide) ?_
    exact ne_i hc hP hS hr dX9_around_13 ⟨by rw [oAround, if_pos (Int32.not_le.mp c_1)], rfl⟩
set_option maxHeartbeats 4000000 in
set_option maxRecDepth 100000 in
theorem c_X9_placeOnBallot (hfl : l.stackTraces = false) (hI : ninj ad on) (hon0 : on 0) (hon1 : on 1) (hon2 : on 2) (hok : oOk S) (hd : vp_in (X 2 21 0 4) 513) {pp q : Int32} : nXi l D dA ad on yX9_placeOnBallot cX9_placeOnBallot 3 (some .int) (nrx 9 6) [.ref (ad 2 20 0), .int pp, .int q] (wdo X 0 S) 6 (fun r X' => (nG (inB pp (onp S)) 2 (nG (decide (0 ≤ q) && decide (q ≤ 999)) 0 (nG (!decide (S 7 0 2 = 0)) 1 (nG (decide (oWhy S pp = 0)) 1 (.inr (oAround (oPlace S pp - q) (oStand S (S 11 (nix pp) 0)), wdo X 0 S))))) : Nat ⊕ (Int32 × NWd)) = .inr (r, X')) (fun k => (nG (inB pp (onp S)) 2 (nG (decide (0 ≤ q) && decide (q ≤ 999)) 0 (nG (!decide (S 7 0 2 = 0)) 1 (nG (decide (oWhy S pp = 0)) 1 (.inr (oAround (oPlace S pp - q) (oStand S (S 11 (nix pp) 0)), wdo X 0 S))))) : Nat ⊕ (Int32 × NWd)) = .inl k) := by
  refine nX_of hI (by decide +kernel) (Nat.le_of_ble_eq_true rfl) ?_
  intro p e s m args below meth cd ls hc hr htb hP hl hS
  have hx := hc.1
  have hb := hc.2.1
  have hl : lv_has ls 3 [(0, .ref (ad 2 20 0)), (1, .int pp), (2, .int q)] := hl
  have hok0 := hok
  refine lv_aload_n hx hb dX9_placeOnBallot_0 rfl (lv_at hl 0 rfl) ?_
  refine lv_iload_n hx hb dX9_placeOnBallot_1 rfl (lv_at hl 1 rfl) ?_
  refine nc_XVv (mc := 1) (c_X9_needPaper hfl hI hon0 hon1 hon2 hok) hc htb hP hS hl.1 gd9_132 (nrecv (q := (RX9, TX9, 3)) hc (npic_eta hP) (nv_n hon2 (by decide) Nat.zero_lt_one) rfl rfl) ⟨rfl, rfl⟩ nok_X9_needPaper rfl ⟨Nat.le_of_ble_eq_true rfl, Nat.le_of_ble_eq_true rfl⟩ ⟨Nat.le_of_ble_eq_true rfl, Nat.le_of_ble_eq_true rfl⟩ ⟨Nat.le_of_ble_eq_true rfl, Nat.le_of_ble_eq_true rfl⟩ dX9_placeOnBallot_2 rfl (Nat.le_of_ble_eq_true rfl) (fun k9 h9 => by rw [h9.1]; exact nG_f h9.2) (fun X1 H locs hp hP hS => ?_)
  obtain ⟨h_2, hX9⟩ := hp
  rw [hX9] at hP
  refine lv_aload_n hx hb dX9_placeOnBallot_5 rfl (lv_at hl 0 rfl) ?_
  refine lv_iload_n hx hb dX9_placeOnBallot_6 rfl (lv_at hl 2 rfl) ?_
  refine nc_XVv (mc := 1) (c_X9_needPrecinct hfl hI hon0 hon1 hon2 ) hc htb hP hS hl.1 gd9_283 (nrecv (q := (RX9, TX9, 3)) hc (npic_eta hP) (nv_n hon2 (by decide) Nat.zero_lt_one) rfl rfl) ⟨rfl, rfl⟩ nok_X9_needPrecinct rfl ⟨Nat.le_of_ble_eq_true rfl, Nat.le_of_ble_eq_true rfl⟩ ⟨Nat.le_of_ble_eq_true rfl, Nat.le_of_ble_eq_true rfl⟩ ⟨Nat.le_of_ble_eq_true rfl, Nat.le_of_ble_eq_true rfl⟩ dX9_placeOnBallot_7 rfl (Nat.le_of_ble_eq_true rfl) (fun k9 h9 => by rw [h9.1]; exact (nG_t h_2).trans (nG_f h9.2)) (fun X1 H locs hp hP hS => ?_)
  obtain ⟨h_7, hX9⟩ := hp
  rw [hX9] at hP
  refine lv_aload_n hx hb dX9_placeOnBallot_10 rfl (lv_at hl 0 rfl) ?_
  refine nc_XVv (mc := 1) (c_X9_needLetters hfl hI hon0 hon1 hon2 ) hc htb hP hS hl.1 gd9_280 (nrecv (q := (RX9, TX9, 3)) hc (npic_eta hP) (nv_n hon2 (by decide) Nat.zero_lt_one) rfl rfl) ⟨rfl, rfl⟩ nok_X9_needLetters rfl ⟨Nat.le_of_ble_eq_true rfl, Nat.le_of_ble_eq_true rfl⟩ ⟨Nat.le_of_ble_eq_true rfl, Nat.le_of_ble_eq_true rfl⟩ ⟨Nat.le_of_ble_eq_true rfl, Nat.le_of_ble_eq_true rfl⟩ dX9_placeOnBallot_11 rfl (Nat.le_of_ble_eq_true rfl) (fun k9 h9 => by rw [h9.1]; exact (nG_t h_2).trans ((nG_t h_7).trans (nG_f h9.2))) (fun X1 H locs hp hP hS => ?_)
  obtain ⟨h_11, hX9⟩ := hp
  rw [hX9] at hP
  refine lv_aload_n hx hb dX9_placeOnBallot_14 rfl (lv_at hl 0 rfl) ?_
  refine lv_iload_n hx hb dX9_placeOnBallot_15 rfl (lv_at hl 1 rfl) ?_
  refine nc_XVv (mc := 1) (c_X9_needStanding hfl hI hon0 hon1 hon2 (vp_mono (inB_t.mp h_2) hok0.np12)) hc htb hP hS hl.1 gd9_294 (nrecv (q := (RX9, TX9, 3)) hc (npic_eta hP) (nv_n hon2 (by decide) Nat.zero_lt_one) rfl rfl) ⟨rfl, rfl⟩ nok_X9_needStanding rfl ⟨Nat.le_of_ble_eq_true rfl, Nat.le_of_ble_eq_true rfl⟩ ⟨Nat.le_of_ble_eq_true rfl, Nat.le_of_ble_eq_true rfl⟩ ⟨Nat.le_of_ble_eq_true rfl, Nat.le_of_ble_eq_true rfl⟩ dX9_placeOnBallot_16 rfl (Nat.le_of_ble_eq_true rfl) (fun k9 h9 => by rw [h9.1]; exact (nG_t h_2).trans ((nG_t h_7).trans ((nG_t h_11).trans (nG_f h9.2)))) (fun X1 H locs hp hP hS => ?_)
  obtain ⟨h_16, hX9⟩ := hp
  rw [hX9] at hP
  refine lv_aload_n hx hb dX9_placeOnBallot_19 rfl (lv_at hl 0 rfl) ?_
  refine g9_10 hc hP (nv_n hon2 (by decide) Nat.zero_lt_one) dX9_placeOnBallot_20 ?_
  refine lv_iload_n hx hb dX9_placeOnBallot_23 rfl (lv_at hl 1 rfl) ?_
  refine nc_Vi (c_X4_placeOnList hI hon0 (by decide) hok (vp_mono (inB_t.mp h_2) hok0.np12)) hc hP hS hl.1 gd9_297 (nrecv (q := (RX4, TX4, 9)) hc (npic_eta hP) (nv_o hon0 (by decide) (by decide) Nat.zero_lt_one) rfl rfl) ⟨rfl, rfl⟩ nok_X4_placeOnList rfl ⟨Nat.le_of_ble_eq_true rfl, Nat.le_of_ble_eq_true rfl⟩ ⟨Nat.le_of_ble_eq_true rfl, Nat.le_of_ble_eq_true rfl⟩ dX9_placeOnBallot_24 rfl (Nat.le_of_ble_eq_true rfl) (fun r X1 H locs hp hP hS => ?_)
  obtain ⟨hr9, hX9⟩ := hp
  rw [hX9] at hP
  subst hr9
  refine lv_iload_n hx hb dX9_placeOnBallot_27 rfl (lv_at hl 2 rfl) ?_
  refine lv_isub hx hb dX9_placeOnBallot_28 ?_
  refine lv_aload_n hx hb dX9_placeOnBallot_29 rfl (lv_at hl 0 rfl) ?_
  refine g9_10 hc hP (nv_n hon2 (by decide) Nat.zero_lt_one) dX9_placeOnBallot_30 ?_
  refine lv_aload_n hx hb dX9_placeOnBallot_33 rfl (lv_at hl 0 rfl) ?_
  refine g9_10 hc hP (nv_n hon2 (by decide) Nat.zero_lt_one) dX9_placeOnBallot_34 ?_
  refine g9_145 hc hP (nv_o hon0 (by decide) (by decide) Nat.zero_lt_one) dX9_placeOnBallot_37 ?_
  refine lv_iload_n hx hb dX9_placeOnBallot_40 rfl (lv_at hl 1 rfl) ?_
  refine ga_10 hc hP (nv_o hon0 (by decide) (by decide) Nat.zero_lt_one) (vp_mono (inB_t.mp h_2) hok0.np12) dX9_placeOnBallot_41 ?_
  refine g9_300 hc hP (nv_o hon0 (by decide) (by decide) (vp_lt (vp_mono (inB_t.mp h_2) hok0.np12))) dX9_placeOnBallot_42 ?_
  refine nc_Vi (c_X4_countStanding hI hon0 (by decide) hok) hc hP hS hl.1 gd9_260 (nrecv (q := (RX4, TX4, 9)) hc (npic_eta hP) (nv_o hon0 (by decide) (by decide) Nat.zero_lt_one) rfl rfl) ⟨rfl, rfl⟩ nok_X4_countStanding rfl ⟨Nat.le_of_ble_eq_true rfl, Nat.le_of_ble_eq_true rfl⟩ ⟨Nat.le_of_ble_eq_true rfl, Nat.le_of_ble_eq_true rfl⟩ dX9_placeOnBallot_45 rfl (Nat.le_of_ble_eq_true rfl) (fun r X1 H locs hp hP hS => ?_)
  obtain ⟨hr9, hX9⟩ := hp
  rw [hX9] at hP
  subst hr9
  refine nc_Si (c_X9_around hI) hc hP hS hl.1 gd9_288 ⟨rfl, rfl⟩ nok_X9_around rfl ⟨Nat.le_of_ble_eq_true rfl, Nat.le_of_ble_eq_true rfl⟩ ⟨Nat.le_of_ble_eq_true rfl, Nat.le_of_ble_eq_true rfl⟩ dX9_placeOnBallot_48 rfl (Nat.le_of_ble_eq_true rfl) (fun r X1 H locs hp hP hS => ?_)
  obtain ⟨hr9, hX9⟩ := hp
  rw [hX9] at hP
  subst hr9
  exact ne_xi hc hP hS hr dX9_placeOnBallot_51 (Nat.le_of_ble_eq_true rfl) (Nat.le_of_ble_eq_true rfl) ((nG_t h_2).trans ((nG_t h_7).trans ((nG_t h_11).trans ((nG_t h_16).trans (rfl)))))
set_option maxHeartbeats 4000000 in
set_option maxRecDepth 100000 in
theorem c_X9_addVotes (hfl : l.stackTraces = false) (hI : ninj ad on) (hon0 : on 0) (hon1 : on 1) (hon2 : on 2) (hok : oOk S) (hd : vp_in (X 2 21 0 4) 513) {pp a : Int32} : nXi l D dA ad on yX9_addVotes cX9_addVotes 3 (some .int) (nrx 9 6) [.ref (ad 2 20 0), .int pp, .int a] (wdo X 0 S) 6 (fun r X' => (nG (inB pp (onp S)) 2 (nG (decide (1 ≤ a) && decide (a ≤ 10000)) 0 (nG (decide (oWhy S pp = 0)) 1 (nG (oPoll S && decide (S 4 (nix (S 11 (nix pp) 0)) 2 = 0)) 1 (.inr (nJ S 14 pp a 0 11 (nix pp) 4, nEv X S 14 pp a 0))))) : Nat ⊕ (Int32 × NWd)) = .inr (r, X')) (fun k => (nG (inB pp (onp S)) 2 (nG (decide (1 ≤ a) && decide (a ≤ 10000)) 0 (nG (decide (oWhy S pp = 0)) 1 (nG (oPoll S && decide (S 4 (nix (S 11 (nix pp) 0)) 2 = 0)) 1 (.inr (nJ S 14 pp a 0 11 (nix pp) 4, nEv X S 14 pp a 0))))) : Nat ⊕ (Int32 × NWd)) = .inl k) := by
  refine nX_of hI (by decide +kernel) (Nat.le_of_ble_eq_true rfl) ?_
  intro p e s m args below meth cd ls hc hr htb hP hl hS
  have hx := hc.1
  have hb := hc.2.1
  have hl : lv_has ls 3 [(0, .ref (ad 2 20 0)), (1, .int pp), (2, .int a)] := hl
  have hok0 := hok
  refine lv_aload_n hx hb dX9_addVotes_0 rfl (lv_at hl 0 rfl) ?_
  refine lv_iload_n hx hb dX9_addVotes_1 rfl (lv_at hl 1 rfl) ?_
  refine nc_XVv (mc := 1) (c_X9_needPaper hfl hI hon0 hon1 hon2 hok) hc htb hP hS hl.1 gd9_132 (nrecv (q := (RX9, TX9, 3)) hc (npic_eta hP) (nv_n hon2 (by decide) Nat.zero_lt_one) rfl rfl) ⟨rfl, rfl⟩ nok_X9_needPaper rfl ⟨Nat.le_of_ble_eq_true rfl, Nat.le_of_ble_eq_true rfl⟩ ⟨Nat.le_of_ble_eq_true rfl, Nat.le_of_ble_eq_true rfl⟩ ⟨Nat.le_of_ble_eq_true rfl, Nat.le_of_ble_eq_true rfl⟩ dX9_addVotes_2 rfl (Nat.le_of_ble_eq_true rfl) (fun k9 h9 => by rw [h9.1]; exact nG_f h9.2) (fun X1 H locs hp hP hS => ?_)
  obtain ⟨h_2, hX9⟩ := hp
  rw [hX9] at hP
  refine lv_iload_n hx hb dX9_addVotes_5 rfl (lv_at hl 2 rfl) ?_
  refine lv_iconst (v := 1) hx hb dX9_addVotes_6 (by decide) ?_
  refine lv_icmp_lt (tgt := 17) hx hb dX9_addVotes_7 (by decide) (fun c_7 => ?_) (fun c_7 => ?_)
  · exact nt_throwW hfl 0 (by decide) (by decide) (is := 301) (text := "the number of votes is out of range") (by decide) hc htb hP hS hl.1 dX9_addVotes_17 dX9_addVotes_20 dX9_addVotes_21 dX9_addVotes_24 dX9_addVotes_27 (Nat.le_of_ble_eq_true rfl) (Nat.le_of_ble_eq_true rfl) (Nat.le_of_ble_eq_true rfl) (Nat.le_of_ble_eq_true rfl) ((nG_t h_2).trans (nG_f (by clear hP hS hl hc hx hb hr htb; simp_all [-Int32.not_le, -Int32.not_lt, i32_lt, nb_t, nb_f, nb_z, nb_o]))) (Nat.le_of_ble_eq_true rfl) (Nat.le_of_ble_eq_true rfl)
  · refine lv_iload_n hx hb dX9_addVotes_10 rfl (lv_at hl 2 rfl) ?_
    refine lv_sipush (v := 10000) hx hb dX9_addVotes_11 (by decide) ?_
    refine lv_icmp_le (tgt := 28) hx hb dX9_addVotes_14 (by decide) (fun c_14 => ?_) (fun c_14 => ?_)
    · refine lv_aload_n hx hb dX9_addVotes_28 rfl (lv_at hl 0 rfl) ?_
      refine lv_iload_n hx hb dX9_addVotes_29 rfl (lv_at hl 1 rfl) ?_
      refine nc_XVv (mc := 1) (c_X9_needStanding hfl hI hon0 hon1 hon2 (vp_mono (inB_t.mp h_2) hok0.np12)) hc htb hP hS hl.1 gd9_294 (nrecv (q := (RX9, TX9, 3)) hc (npic_eta hP) (nv_n hon2 (by decide) Nat.zero_lt_one) rfl rfl) ⟨rfl, rfl⟩ nok_X9_needStanding rfl ⟨Nat.le_of_ble_eq_true rfl, Nat.le_of_ble_eq_true rfl⟩ ⟨Nat.le_of_ble_eq_true rfl, Nat.le_of_ble_eq_true rfl⟩ ⟨Nat.le_of_ble_eq_true rfl, Nat.le_of_ble_eq_true rfl⟩ dX9_addVotes_30 rfl (Nat.le_of_ble_eq_true rfl) (fun k9 h9 => by rw [h9.1]; exact (nG_t h_2).trans ((nG_t (by clear hP hS hl hc hx hb hr htb; simp_all [-Int32.not_le, -Int32.not_lt, i32_lt, nb_t, nb_f, nb_z, nb_o])).trans (nG_f h9.2))) (fun X1 H locs hp hP hS => ?_)
      obtain ⟨h_30, hX9⟩ := hp
      rw [hX9] at hP
      refine lv_aload_n hx hb dX9_addVotes_33 rfl (lv_at hl 0 rfl) ?_
      refine lv_aload_n hx hb dX9_addVotes_34 rfl (lv_at hl 0 rfl) ?_
      refine g9_10 hc hP (nv_n hon2 (by decide) Nat.zero_lt_one) dX9_addVotes_35 ?_
      refine g9_145 hc hP (nv_o hon0 (by decide) (by decide) Nat.zero_lt_one) dX9_addVotes_38 ?_
      refine lv_iload_n hx hb dX9_addVotes_41 rfl (lv_at hl 1 rfl) ?_
      refine ga_10 hc hP (nv_o hon0 (by decide) (by decide) Nat.zero_lt_one) (vp_mono (inB_t.mp h_2) hok0.np12) dX9_addVotes_42 ?_
      refine g9_300 hc hP (nv_o hon0 (by decide) (by decide) (vp_lt (vp_mono (inB_t.mp h_2) hok0.np12))) dX9_addVotes_43 ?_
      refine nc_XVv (mc := 1) (c_X9_needCounting hfl hI hon0 hon1 hon2 (hok0.ar (vp_lt (inB_t.mp h_2)))) hc htb hP hS hl.1 gd9_303 (nrecv (q := (RX9, TX9, 3)) hc (npic_eta hP) (nv_n hon2 (by decide) Nat.zero_lt_one) rfl rfl) ⟨rfl, rfl⟩ nok_X9_needCounting rfl ⟨Nat.le_of_ble_eq_true rfl, Nat.le_of_ble_eq_true rfl⟩ ⟨Nat.le_of_ble_eq_true rfl, Nat.le_of_ble_eq_true rfl⟩ ⟨Nat.le_of_ble_eq_true rfl, Nat.le_of_ble_eq_true rfl⟩ dX9_addVotes_46 rfl (Nat.le_of_ble_eq_true rfl) (fun k9 h9 => by rw [h9.1]; exact (nG_t h_2).trans ((nG_t (by clear hP hS hl hc hx hb hr htb; simp_all [-Int32.not_le, -Int32.not_lt, i32_lt, nb_t, nb_f, nb_z, nb_o])).trans ((nG_t h_30).trans (nG_f h9.2)))) (fun X1 H locs hp hP hS => ?_)
      obtain ⟨h_46, hX9⟩ := hp
      rw [hX9] at hP
      refine lv_aload_n hx hb dX9_addVotes_49 rfl (lv_at hl 0 rfl) ?_
      refine lv_bipush (v := 14) hx hb dX9_addVotes_50 (by decide) ?_
      refine lv_iload_n hx hb dX9_addVotes_52 rfl (lv_at hl 1 rfl) ?_
      refine lv_iload_n hx hb dX9_addVotes_53 rfl (lv_at hl 2 rfl) ?_
      refine lv_iconst (v := 0) hx hb dX9_addVotes_54 (by decide) ?_
      refine nc_Vv (c_X9_happen hI hon0 hon1 hon2 hok (oEv_14 (inB_t.mp h_2)) hd) hc hP hS hl.1 gd9_54 (nrecv (q := (RX9, TX9, 3)) hc (npic_eta hP) (nv_n hon2 (by decide) Nat.zero_lt_one) rfl rfl) ⟨rfl, rfl⟩ nok_X9_happen rfl ⟨Nat.le_of_ble_eq_true rfl, Nat.le_of_ble_eq_true rfl⟩ ⟨Nat.le_of_ble_eq_true rfl, Nat.le_of_ble_eq_true rfl⟩ dX9_addVotes_55 rfl (Nat.le_of_ble_eq_true rfl) (fun X1 H locs hp hP hS => ?_)
      replace hok : oOk (nJ S 14 pp a 0) := nJ_ok hok (oEv_14 (inB_t.mp h_2))
      rw [hp, nEv_J] at hP
      refine lv_aload_n hx hb dX9_addVotes_58 rfl (lv_at hl 0 rfl) ?_
      refine g9_10 hc hP (nv_n hon2 (by decide) Nat.zero_lt_one) dX9_addVotes_59 ?_
      refine g9_145 hc hP (nv_o hon0 (by decide) (by decide) Nat.zero_lt_one) dX9_addVotes_62 ?_
      refine lv_iload_n hx hb dX9_addVotes_65 rfl (lv_at hl 1 rfl) ?_
      refine ga_10 hc hP (nv_o hon0 (by decide) (by decide) Nat.zero_lt_one) (vp_mono (inB_t.mp h_2) hok0.np12) dX9_addVotes_66 ?_
      refine g9_306 hc hP (nv_o hon0 (by decide) (by decide) (vp_lt (vp_mono (inB_t.mp h_2) hok0.np12))) dX9_addVotes_67 ?_
      exact ne_xi hc hP hS hr dX9_addVotes_70 (Nat.le_of_ble_eq_true rfl) (Nat.le_of_ble_eq_true rfl) ((nG_t h_2).trans ((nG_t (by clear hP hS hl hc hx hb hr htb; simp_all [-Int32.not_le, -Int32.not_lt, i32_lt, nb_t, nb_f, nb_z, nb_o])).trans ((nG_t h_30).trans ((nG_t h_46).trans (rfl)))))
    · exact nt_throwW hfl 0 (by decide) (by decide) (is := 301) (text := "the number of votes is out of range") (by decide) hc htb hP hS hl.1 dX9_addVotes_17 dX9_addVotes_20 dX9_addVotes_21 dX9_addVotes_24 dX9_addVotes_27 (Nat.le_of_ble_eq_true rfl) (Nat.le_of_ble_eq_true rfl) (Nat.le_of_ble_eq_true rfl) (Nat.le_of_ble_eq_true rfl) ((nG_t h_2).trans (nG_f (by clear hP hS hl hc hx hb hr htb; simp_all [-Int32.not_le, -Int32.not_lt, i32_lt, nb_t, nb_f, nb_z, nb_o]))) (Nat.le_of_ble_eq_true rfl) (Nat.le_of_ble_eq_true rfl)
set_option maxHeartbeats 4000000 in
set_option maxRecDepth 100000 in
theorem c_X9_finish (hfl : l.stackTraces = false) (hI : ninj ad on) (hon0 : on 0) (hon1 : on 1) (hon2 : on 2) (hok : oOk S) (hd : vp_in (X 2 21 0 4) 513) {a : Int32} : nXi l D dA ad on yX9_finish cX9_finish 2 (some .int) (nrx 9 6) [.ref (ad 2 20 0), .int a] (wdo X 0 S) 6 (fun r X' => (nG (inB a (ona S)) 2 (nG (oPoll S && decide (S 4 (nix a) 2 = 0)) 1 (.inr (oLostIn (nJ S 15 a 0 0) a, nEv X S 15 a 0 0))) : Nat ⊕ (Int32 × NWd)) = .inr (r, X')) (fun k => (nG (inB a (ona S)) 2 (nG (oPoll S && decide (S 4 (nix a) 2 = 0)) 1 (.inr (oLostIn (nJ S 15 a 0 0) a, nEv X S 15 a 0 0))) : Nat ⊕ (Int32 × NWd)) = .inl k) := by
  refine nX_of hI (by decide +kernel) (Nat.le_of_ble_eq_true rfl) ?_
  intro p e s m args below meth cd ls hc hr htb hP hl hS
  have hx := hc.1
  have hb := hc.2.1
  have hl : lv_has ls 2 [(0, .ref (ad 2 20 0)), (1, .int a)] := hl
  have hok0 := hok
  refine lv_aload_n hx hb dX9_finish_0 rfl (lv_at hl 0 rfl) ?_
  refine lv_iload_n hx hb dX9_finish_1 rfl (lv_at hl 1 rfl) ?_
  refine nc_XVv (mc := 1) (c_X9_needArea hfl hI hon0 hon1 hon2 hok) hc htb hP hS hl.1 gd9_79 (nrecv (q := (RX9, TX9, 3)) hc (npic_eta hP) (nv_n hon2 (by decide) Nat.zero_lt_one) rfl rfl) ⟨rfl, rfl⟩ nok_X9_needArea rfl ⟨Nat.le_of_ble_eq_true rfl, Nat.le_of_ble_eq_true rfl⟩ ⟨Nat.le_of_ble_eq_true rfl, Nat.le_of_ble_eq_true rfl⟩ ⟨Nat.le_of_ble_eq_true rfl, Nat.le_of_ble_eq_true rfl⟩ dX9_finish_2 rfl (Nat.le_of_ble_eq_true rfl) (fun k9 h9 => by rw [h9.1]; exact nG_f h9.2) (fun X1 H locs hp hP hS => ?_)
  obtain ⟨h_2, hX9⟩ := hp
  rw [hX9] at hP
  refine lv_aload_n hx hb dX9_finish_5 rfl (lv_at hl 0 rfl) ?_
  refine lv_iload_n hx hb dX9_finish_6 rfl (lv_at hl 1 rfl) ?_
  refine nc_XVv (mc := 1) (c_X9_needCounting hfl hI hon0 hon1 hon2 (vp_mono (inB_t.mp h_2) hok0.na5)) hc htb hP hS hl.1 gd9_303 (nrecv (q := (RX9, TX9, 3)) hc (npic_eta hP) (nv_n hon2 (by decide) Nat.zero_lt_one) rfl rfl) ⟨rfl, rfl⟩ nok_X9_needCounting rfl ⟨Nat.le_of_ble_eq_true rfl, Nat.le_of_ble_eq_true rfl⟩ ⟨Nat.le_of_ble_eq_true rfl, Nat.le_of_ble_eq_true rfl⟩ ⟨Nat.le_of_ble_eq_true rfl, Nat.le_of_ble_eq_true rfl⟩ dX9_finish_7 rfl (Nat.le_of_ble_eq_true rfl) (fun k9 h9 => by rw [h9.1]; exact (nG_t h_2).trans (nG_f h9.2)) (fun X1 H locs hp hP hS => ?_)
  obtain ⟨h_7, hX9⟩ := hp
  rw [hX9] at hP
  refine lv_aload_n hx hb dX9_finish_10 rfl (lv_at hl 0 rfl) ?_
  refine lv_bipush (v := 15) hx hb dX9_finish_11 (by decide) ?_
  refine lv_iload_n hx hb dX9_finish_13 rfl (lv_at hl 1 rfl) ?_
  refine lv_iconst (v := 0) hx hb dX9_finish_14 (by decide) ?_
  refine lv_iconst (v := 0) hx hb dX9_finish_15 (by decide) ?_
  refine nc_Vv (c_X9_happen hI hon0 hon1 hon2 hok (oEv_15 (inB_t.mp h_2)) hd) hc hP hS hl.1 gd9_54 (nrecv (q := (RX9, TX9, 3)) hc (npic_eta hP) (nv_n hon2 (by decide) Nat.zero_lt_one) rfl rfl) ⟨rfl, rfl⟩ nok_X9_happen rfl ⟨Nat.le_of_ble_eq_true rfl, Nat.le_of_ble_eq_true rfl⟩ ⟨Nat.le_of_ble_eq_true rfl, Nat.le_of_ble_eq_true rfl⟩ dX9_finish_16 rfl (Nat.le_of_ble_eq_true rfl) (fun X1 H locs hp hP hS => ?_)
  replace hok : oOk (nJ S 15 a 0 0) := nJ_ok hok (oEv_15 (inB_t.mp h_2))
  rw [hp, nEv_J] at hP
  refine lv_aload_n hx hb dX9_finish_19 rfl (lv_at hl 0 rfl) ?_
  refine g9_10 hc hP (nv_n hon2 (by decide) Nat.zero_lt_one) dX9_finish_20 ?_
  refine lv_iload_n hx hb dX9_finish_23 rfl (lv_at hl 1 rfl) ?_
  refine nc_Vi (c_X4_countStandingAndLost hI hon0 (by decide) hok) hc hP hS hl.1 gd9_309 (nrecv (q := (RX4, TX4, 9)) hc (npic_eta hP) (nv_o hon0 (by decide) (by decide) Nat.zero_lt_one) rfl rfl) ⟨rfl, rfl⟩ nok_X4_countStandingAndLost rfl ⟨Nat.le_of_ble_eq_true rfl, Nat.le_of_ble_eq_true rfl⟩ ⟨Nat.le_of_ble_eq_true rfl, Nat.le_of_ble_eq_true rfl⟩ dX9_finish_24 rfl (Nat.le_of_ble_eq_true rfl) (fun r X1 H locs hp hP hS => ?_)
  obtain ⟨hr9, hX9⟩ := hp
  rw [hX9] at hP
  subst hr9
  exact ne_xi hc hP hS hr dX9_finish_27 (Nat.le_of_ble_eq_true rfl) (Nat.le_of_ble_eq_true rfl) ((nG_t h_2).trans ((nG_t h_7).trans (rfl)))
set_option maxHeartbeats 4000000 in
set_option maxRecDepth 100000 in
theorem c_X9_votes (hfl : l.stackTraces = false) (hI : ninj ad on) (hon0 : on 0) (hon1 : on 1) (hon2 : on 2) (hok : oOk S) (hd : vp_in (X 2 21 0 4) 513) {pp : Int32} : nXi l D dA ad on yX9_votes cX9_votes 2 (some .int) (nrx 9 6) [.ref (ad 2 20 0), .int pp] (wdo X 0 S) 6 (fun r X' => (nG (inB pp (onp S)) 2 (.inr (S 11 (nix pp) 4, wdo X 0 S)) : Nat ⊕ (Int32 × NWd)) = .inr (r, X')) (fun k => (nG (inB pp (onp S)) 2 (.inr (S 11 (nix pp) 4, wdo X 0 S)) : Nat ⊕ (Int32 × NWd)) = .inl k) := by
  refine nX_of hI (by decide +kernel) (Nat.le_of_ble_eq_true rfl) ?_
  intro p e s m args below meth cd ls hc hr htb hP hl hS
  have hx := hc.1
  have hb := hc.2.1
  have hl : lv_has ls 2 [(0, .ref (ad 2 20 0)), (1, .int pp)] := hl
  have hok0 := hok
  refine lv_aload_n hx hb dX9_votes_0 rfl (lv_at hl 0 rfl) ?_
  refine lv_iload_n hx hb dX9_votes_1 rfl (lv_at hl 1 rfl) ?_
  refine nc_XVv (mc := 1) (c_X9_needPaper hfl hI hon0 hon1 hon2 hok) hc htb hP hS hl.1 gd9_132 (nrecv (q := (RX9, TX9, 3)) hc (npic_eta hP) (nv_n hon2 (by decide) Nat.zero_lt_one) rfl rfl) ⟨rfl, rfl⟩ nok_X9_needPaper rfl ⟨Nat.le_of_ble_eq_true rfl, Nat.le_of_ble_eq_true rfl⟩ ⟨Nat.le_of_ble_eq_true rfl, Nat.le_of_ble_eq_true rfl⟩ ⟨Nat.le_of_ble_eq_true rfl, Nat.le_of_ble_eq_true rfl⟩ dX9_votes_2 rfl (Nat.le_of_ble_eq_true rfl) (fun k9 h9 => by rw [h9.1]; exact nG_f h9.2) (fun X1 H locs hp hP hS => ?_)
  obtain ⟨h_2, hX9⟩ := hp
  rw [hX9] at hP
  refine lv_aload_n hx hb dX9_votes_5 rfl (lv_at hl 0 rfl) ?_
  refine g9_10 hc hP (nv_n hon2 (by decide) Nat.zero_lt_one) dX9_votes_6 ?_
  refine g9_145 hc hP (nv_o hon0 (by decide) (by decide) Nat.zero_lt_one) dX9_votes_9 ?_
  refine lv_iload_n hx hb dX9_votes_12 rfl (lv_at hl 1 rfl) ?_
  refine ga_10 hc hP (nv_o hon0 (by decide) (by decide) Nat.zero_lt_one) (vp_mono (inB_t.mp h_2) hok0.np12) dX9_votes_13 ?_
  refine g9_306 hc hP (nv_o hon0 (by decide) (by decide) (vp_lt (vp_mono (inB_t.mp h_2) hok0.np12))) dX9_votes_14 ?_
  exact ne_xi hc hP hS hr dX9_votes_17 (Nat.le_of_ble_eq_true rfl) (Nat.le_of_ble_eq_true rfl) ((nG_t h_2).trans (rfl))
set_option maxHeartbeats 4000000 in
set_option maxRecDepth 100000 in
theorem c_X9_winner (hfl : l.stackTraces = false) (hI : ninj ad on) (hon0 : on 0) (hon1 : on 1) (hon2 : on 2) (hok : oOk S) (hd : vp_in (X 2 21 0 4) 513) {a : Int32} : nXi l D dA ad on yX9_winner cX9_winner 3 (some .int) (nrx 9 6) [.ref (ad 2 20 0), .int a] (wdo X 0 S) 6 (fun r X' => (nG (inB a (ona S)) 2 (nG (!decide (S 4 (nix a) 2 = 0)) 1 (nG (!decide (mvs S a (onp S) = -1)) 4 (.inr (mvs S a (onp S), wdo X 0 S)))) : Nat ⊕ (Int32 × NWd)) = .inr (r, X')) (fun k => (nG (inB a (ona S)) 2 (nG (!decide (S 4 (nix a) 2 = 0)) 1 (nG (!decide (mvs S a (onp S) = -1)) 4 (.inr (mvs S a (onp S), wdo X 0 S)))) : Nat ⊕ (Int32 × NWd)) = .inl k) := by
  refine nX_of hI (by decide +kernel) (Nat.le_of_ble_eq_true rfl) ?_
  intro p e s m args below meth cd ls hc hr htb hP hl hS
  have hx := hc.1
  have hb := hc.2.1
  have hl : lv_has ls 3 [(0, .ref (ad 2 20 0)), (1, .int a)] := hl
  have hok0 := hok
  refine lv_aload_n hx hb dX9_winner_0 rfl (lv_at hl 0 rfl) ?_
  refine lv_iload_n hx hb dX9_winner_1 rfl (lv_at hl 1 rfl) ?_
  refine nc_XVv (mc := 1) (c_X9_needArea hfl hI hon0 hon1 hon2 hok) hc htb hP hS hl.1 gd9_79 (nrecv (q := (RX9, TX9, 3)) hc (npic_eta hP) (nv_n hon2 (by decide) Nat.zero_lt_one) rfl rfl) ⟨rfl, rfl⟩ nok_X9_needArea rfl ⟨Nat.le_of_ble_eq_true rfl, Nat.le_of_ble_eq_true rfl⟩ ⟨Nat.le_of_ble_eq_true rfl, Nat.le_of_ble_eq_true rfl⟩ ⟨Nat.le_of_ble_eq_true rfl, Nat.le_of_ble_eq_true rfl⟩ dX9_winner_2 rfl (Nat.le_of_ble_eq_true rfl) (fun k9 h9 => by rw [h9.1]; exact nG_f h9.2) (fun X1 H locs hp hP hS => ?_)
  obtain ⟨h_2, hX9⟩ := hp
  rw [hX9] at hP
  refine lv_aload_n hx hb dX9_winner_5 rfl (lv_at hl 0 rfl) ?_
  refine g9_10 hc hP (nv_n hon2 (by decide) Nat.zero_lt_one) dX9_winner_6 ?_
  refine g9_68 hc hP (nv_o hon0 (by decide) (by decide) Nat.zero_lt_one) dX9_winner_9 ?_
  refine g9_320 hc hP (nv_o hon0 (by decide) (by decide) Nat.zero_lt_one) dX9_winner_12 ?_
  refine lv_iload_n hx hb dX9_winner_15 rfl (lv_at hl 1 rfl) ?_
  refine ga_3 hc hP (nv_o hon0 (by decide) (by decide) Nat.zero_lt_one) (vp_mono (inB_t.mp h_2) hok0.na5) dX9_winner_16 ?_
  refine g9_324 hc hP (nv_o hon0 (by decide) (by decide) (vp_lt (vp_mono (inB_t.mp h_2) hok0.na5))) dX9_winner_17 ?_
  refine lv_if_ne (tgt := 34) hx hb dX9_winner_20 (by decide) (fun c_20 => ?_) (fun c_20 => ?_)
  · refine lv_aload_n hx hb dX9_winner_34 rfl (lv_at hl 0 rfl) ?_
    refine g9_10 hc hP (nv_n hon2 (by decide) Nat.zero_lt_one) dX9_winner_35 ?_
    refine lv_iload_n hx hb dX9_winner_38 rfl (lv_at hl 1 rfl) ?_
    refine nc_Vi (c_X4_mostVotedIn hI hon0 (by decide) hok) hc hP hS hl.1 gd9_331 (nrecv (q := (RX4, TX4, 9)) hc (npic_eta hP) (nv_o hon0 (by decide) (by decide) Nat.zero_lt_one) rfl rfl) ⟨rfl, rfl⟩ nok_X4_mostVotedIn rfl ⟨Nat.le_of_ble_eq_true rfl, Nat.le_of_ble_eq_true rfl⟩ ⟨Nat.le_of_ble_eq_true rfl, Nat.le_of_ble_eq_true rfl⟩ dX9_winner_39 rfl (Nat.le_of_ble_eq_true rfl) (fun r X1 H locs hp hP hS => ?_)
    obtain ⟨hr9, hX9⟩ := hp
    rw [hX9] at hP
    subst hr9
    refine lv_istore_n (lv' := [(2, .int _), (0, .ref _), (1, .int _)]) hx hb dX9_winner_42 rfl hl (by decide) rfl (fun ls hl => ?_)
    refine lv_iload_n hx hb dX9_winner_43 rfl (lv_at hl 0 rfl) ?_
    refine lv_iconst (v := (-1)) hx hb dX9_winner_44 (by decide) ?_
    refine lv_icmp_ne (tgt := 59) hx hb dX9_winner_45 (by decide) (fun c_45 => ?_) (fun c_45 => ?_)
    · refine lv_iload_n hx hb dX9_winner_59 rfl (lv_at hl 0 rfl) ?_
      exact ne_xi hc hP hS hr dX9_winner_60 (Nat.le_of_ble_eq_true rfl) (Nat.le_of_ble_eq_true rfl) ((nG_t h_2).trans ((nG_t (by clear hP hS hl hc hx hb hr htb; simp_all [-Int32.not_le, -Int32.not_lt, i32_lt, nb_t, nb_f, nb_z, nb_o])).trans ((nG_t (by clear hP hS hl hc hx hb hr htb; simp_all [-Int32.not_le, -Int32.not_lt, i32_lt, nb_t, nb_f, nb_z, nb_o])).trans (rfl))))
    · exact nt_throwW4 hfl (is := 334) (text := "no paper stands in the area") (by decide) hc htb hP hS hl.1 dX9_winner_48 dX9_winner_51 dX9_winner_52 dX9_winner_55 dX9_winner_58 (Nat.le_of_ble_eq_true rfl) (Nat.le_of_ble_eq_true rfl) (Nat.le_of_ble_eq_true rfl) (Nat.le_of_ble_eq_true rfl) ((nG_t h_2).trans ((nG_t (by clear hP hS hl hc hx hb hr htb; simp_all [-Int32.not_le, -Int32.not_lt, i32_lt, nb_t, nb_f, nb_z, nb_o])).trans (nG_f (by clear hP hS hl hc hx hb hr htb; simp_all [-Int32.not_le, -Int32.not_lt, i32_lt, nb_t, nb_f, nb_z, nb_o])))) (Nat.le_of_ble_eq_true rfl) (Nat.le_of_ble_eq_true rfl)
  · exact nt_throwW hfl 1 (by decide) (by decide) (is := 329) (text := "the counting is not finished") (by decide) hc htb hP hS hl.1 dX9_winner_23 dX9_winner_26 dX9_winner_27 dX9_winner_30 dX9_winner_33 (Nat.le_of_ble_eq_true rfl) (Nat.le_of_ble_eq_true rfl) (Nat.le_of_ble_eq_true rfl) (Nat.le_of_ble_eq_true rfl) ((nG_t h_2).trans (nG_f (by clear hP hS hl hc hx hb hr htb; simp_all [-Int32.not_le, -Int32.not_lt, i32_lt, nb_t, nb_f, nb_z, nb_o]))) (Nat.le_of_ble_eq_true rfl) (Nat.le_of_ble_eq_true rfl)
set_option maxHeartbeats 4000000 in
set_option maxRecDepth 100000 in
theorem c_X9_deposit (hfl : l.stackTraces = false) (hI : ninj ad on) (hon0 : on 0) (hon1 : on 1) (hon2 : on 2) (hok : oOk S) (hd : vp_in (X 2 21 0 4) 513) {pp : Int32} : nXi l D dA ad on yX9_deposit cX9_deposit 2 (some .int) (nrx 9 6) [.ref (ad 2 20 0), .int pp] (wdo X 0 S) 6 (fun r X' => (nG (inB pp (onp S)) 2 (.inr (oDep S pp, wdo X 0 S)) : Nat ⊕ (Int32 × NWd)) = .inr (r, X')) (fun k => (nG (inB pp (onp S)) 2 (.inr (oDep S pp, wdo X 0 S)) : Nat ⊕ (Int32 × NWd)) = .inl k) := by
  refine nX_of hI (by decide +kernel) (Nat.le_of_ble_eq_true rfl) ?_
  intro p e s m args below meth cd ls hc hr htb hP hl hS
  have hx := hc.1
  have hb := hc.2.1
  have hl : lv_has ls 2 [(0, .ref (ad 2 20 0)), (1, .int pp)] := hl
  have hok0 := hok
  refine lv_aload_n hx hb dX9_deposit_0 rfl (lv_at hl 0 rfl) ?_
  refine lv_iload_n hx hb dX9_deposit_1 rfl (lv_at hl 1 rfl) ?_
  refine nc_XVv (mc := 1) (c_X9_needPaper hfl hI hon0 hon1 hon2 hok) hc htb hP hS hl.1 gd9_132 (nrecv (q := (RX9, TX9, 3)) hc (npic_eta hP) (nv_n hon2 (by decide) Nat.zero_lt_one) rfl rfl) ⟨rfl, rfl⟩ nok_X9_needPaper rfl ⟨Nat.le_of_ble_eq_true rfl, Nat.le_of_ble_eq_true rfl⟩ ⟨Nat.le_of_ble_eq_true rfl, Nat.le_of_ble_eq_true rfl⟩ ⟨Nat.le_of_ble_eq_true rfl, Nat.le_of_ble_eq_true rfl⟩ dX9_deposit_2 rfl (Nat.le_of_ble_eq_true rfl) (fun k9 h9 => by rw [h9.1]; exact nG_f h9.2) (fun X1 H locs hp hP hS => ?_)
  obtain ⟨h_2, hX9⟩ := hp
  rw [hX9] at hP
  refine lv_aload_n hx hb dX9_deposit_5 rfl (lv_at hl 0 rfl) ?_
  refine g9_10 hc hP (nv_n hon2 (by decide) Nat.zero_lt_one) dX9_deposit_6 ?_
  refine lv_iload_n hx hb dX9_deposit_9 rfl (lv_at hl 1 rfl) ?_
  refine nc_Vi (c_X4_stateOfDeposit hI hon0 (by decide) hok (inB_t.mp h_2)) hc hP hS hl.1 gd9_336 (nrecv (q := (RX4, TX4, 9)) hc (npic_eta hP) (nv_o hon0 (by decide) (by decide) Nat.zero_lt_one) rfl rfl) ⟨rfl, rfl⟩ nok_X4_stateOfDeposit rfl ⟨Nat.le_of_ble_eq_true rfl, Nat.le_of_ble_eq_true rfl⟩ ⟨Nat.le_of_ble_eq_true rfl, Nat.le_of_ble_eq_true rfl⟩ dX9_deposit_10 rfl (Nat.le_of_ble_eq_true rfl) (fun r X1 H locs hp hP hS => ?_)
  obtain ⟨hr9, hX9⟩ := hp
  rw [hX9] at hP
  subst hr9
  exact ne_xi hc hP hS hr dX9_deposit_13 (Nat.le_of_ble_eq_true rfl) (Nat.le_of_ble_eq_true rfl) ((nG_t h_2).trans (rfl))
set_option maxHeartbeats 4000000 in
set_option maxRecDepth 100000 in
theorem c_X9_paid (hfl : l.stackTraces = false) (hI : ninj ad on) (hon0 : on 0) (hon1 : on 1) (hon2 : on 2) (hok : oOk S) (hd : vp_in (X 2 21 0 4) 513) {pp : Int32} : nXi l D dA ad on yX9_paid cX9_paid 2 (some .int) (nrx 9 6) [.ref (ad 2 20 0), .int pp] (wdo X 0 S) 6 (fun r X' => (nG (inB pp (onp S)) 2 (.inr (S 11 (nix pp) 3, wdo X 0 S)) : Nat ⊕ (Int32 × NWd)) = .inr (r, X')) (fun k => (nG (inB pp (onp S)) 2 (.inr (S 11 (nix pp) 3, wdo X 0 S)) : Nat ⊕ (Int32 × NWd)) = .inl k) := by
  refine nX_of hI (by decide +kernel) (Nat.le_of_ble_eq_true rfl) ?_
  intro p e s m args below meth cd ls hc hr htb hP hl hS
  have hx := hc.1
  have hb := hc.2.1
  have hl : lv_has ls 2 [(0, .ref (ad 2 20 0)), (1, .int pp)] := hl
  have hok0 := hok
  refine lv_aload_n hx hb dX9_paid_0 rfl (lv_at hl 0 rfl) ?_
  refine lv_iload_n hx hb dX9_paid_1 rfl (lv_at hl 1 rfl) ?_
  refine nc_XVv (mc := 1) (c_X9_needPaper hfl hI hon0 hon1 hon2 hok) hc htb hP hS hl.1 gd9_132 (nrecv (q := (RX9, TX9, 3)) hc (npic_eta hP) (nv_n hon2 (by decide) Nat.zero_lt_one) rfl rfl) ⟨rfl, rfl⟩ nok_X9_needPaper rfl ⟨Nat.le_of_ble_eq_true rfl, Nat.le_of_ble_eq_true rfl⟩ ⟨Nat.le_of_ble_eq_true rfl, Nat.le_of_ble_eq_true rfl⟩ ⟨Nat.le_of_ble_eq_true rfl, Nat.le_of_ble_eq_true rfl⟩ dX9_paid_2 rfl (Nat.le_of_ble_eq_true rfl) (fun k9 h9 => by rw [h9.1]; exact nG_f h9.2) (fun X1 H locs hp hP hS => ?_)
  obtain ⟨h_2, hX9⟩ := hp
  rw [hX9] at hP
  refine lv_aload_n hx hb dX9_paid_5 rfl (lv_at hl 0 rfl) ?_
  refine g9_10 hc hP (nv_n hon2 (by decide) Nat.zero_lt_one) dX9_paid_6 ?_
  refine g9_145 hc hP (nv_o hon0 (by decide) (by decide) Nat.zero_lt_one) dX9_paid_9 ?_
  refine lv_iload_n hx hb dX9_paid_12 rfl (lv_at hl 1 rfl) ?_
  refine ga_10 hc hP (nv_o hon0 (by decide) (by decide) Nat.zero_lt_one) (vp_mono (inB_t.mp h_2) hok0.np12) dX9_paid_13 ?_
  refine g9_149 hc hP (nv_o hon0 (by decide) (by decide) (vp_lt (vp_mono (inB_t.mp h_2) hok0.np12))) dX9_paid_14 ?_
  exact ne_xi hc hP hS hr dX9_paid_17 (Nat.le_of_ble_eq_true rfl) (Nat.le_of_ble_eq_true rfl) ((nG_t h_2).trans (rfl))
set_option maxHeartbeats 4000000 in
set_option maxRecDepth 100000 in
theorem c_X9_sumHeld (hfl : l.stackTraces = false) (hI : ninj ad on) (hon0 : on 0) (hon1 : on 1) (hon2 : on 2) (hok : oOk S) (hd : vp_in (X 2 21 0 4) 513) : nXi l D dA ad on yX9_sumHeld cX9_sumHeld 1 (some .int) (nrx 9 6) [.ref (ad 2 20 0)] (wdo X 0 S) 6 (fun r X' => (.inr (oSum S 0, wdo X 0 S) : Nat ⊕ (Int32 × NWd)) = .inr (r, X')) (fun k => (.inr (oSum S 0, wdo X 0 S) : Nat ⊕ (Int32 × NWd)) = .inl k) := by
  refine nX_of hI (by decide +kernel) (Nat.le_of_ble_eq_true rfl) ?_
  intro p e s m args below meth cd ls hc hr htb hP hl hS
  have hx := hc.1
  have hb := hc.2.1
  have hl : lv_has ls 1 [(0, .ref (ad 2 20 0))] := hl
  have hok0 := hok
  refine lv_aload_n hx hb dX9_sumHeld_0 rfl (lv_at hl 0 rfl) ?_
  refine g9_10 hc hP (nv_n hon2 (by decide) Nat.zero_lt_one) dX9_sumHeld_1 ?_
  refine lv_iconst (v := 0) hx hb dX9_sumHeld_4 (by decide) ?_
  refine nc_Vi (c_X4_sumOfDeposits hI hon0 (by decide) hok) hc hP hS hl.1 gd9_339 (nrecv (q := (RX4, TX4, 9)) hc (npic_eta hP) (nv_o hon0 (by decide) (by decide) Nat.zero_lt_one) rfl rfl) ⟨rfl, rfl⟩ nok_X4_sumOfDeposits rfl ⟨Nat.le_of_ble_eq_true rfl, Nat.le_of_ble_eq_true rfl⟩ ⟨Nat.le_of_ble_eq_true rfl, Nat.le_of_ble_eq_true rfl⟩ dX9_sumHeld_5 rfl (Nat.le_of_ble_eq_true rfl) (fun r X1 H locs hp hP hS => ?_)
  obtain ⟨hr9, hX9⟩ := hp
  rw [hX9] at hP
  subst hr9
  exact ne_xi hc hP hS hr dX9_sumHeld_8 (Nat.le_of_ble_eq_true rfl) (Nat.le_of_ble_eq_true rfl) (rfl)
set_option maxHeartbeats 4000000 in
set_option maxRecDepth 100000 in
theorem c_X9_sumLost (hfl : l.stackTraces = false) (hI : ninj ad on) (hon0 : on 0) (hon1 : on 1) (hon2 : on 2) (hok : oOk S) (hd : vp_in (X 2 21 0 4) 513) : nXi l D dA ad on yX9_sumLost cX9_sumLost 1 (some .int) (nrx 9 6) [.ref (ad 2 20 0)] (wdo X 0 S) 6 (fun r X' => (.inr (oSum S 2, wdo X 0 S) : Nat ⊕ (Int32 × NWd)) = .inr (r, X')) (fun k => (.inr (oSum S 2, wdo X 0 S) : Nat ⊕ (Int32 × NWd)) = .inl k) := by
  refine nX_of hI (by decide +kernel) (Nat.le_of_ble_eq_true rfl) ?_
  intro p e s m args below meth cd ls hc hr htb hP hl hS
  have hx := hc.1
  have hb := hc.2.1
  have hl : lv_has ls 1 [(0, .ref (ad 2 20 0))] := hl
  have hok0 := hok
  refine lv_aload_n hx hb dX9_sumLost_0 rfl (lv_at hl 0 rfl) ?_
  refine g9_10 hc hP (nv_n hon2 (by decide) Nat.zero_lt_one) dX9_sumLost_1 ?_
  refine lv_iconst (v := 2) hx hb dX9_sumLost_4 (by decide) ?_
  refine nc_Vi (c_X4_sumOfDeposits hI hon0 (by decide) hok) hc hP hS hl.1 gd9_339 (nrecv (q := (RX4, TX4, 9)) hc (npic_eta hP) (nv_o hon0 (by decide) (by decide) Nat.zero_lt_one) rfl rfl) ⟨rfl, rfl⟩ nok_X4_sumOfDeposits rfl ⟨Nat.le_of_ble_eq_true rfl, Nat.le_of_ble_eq_true rfl⟩ ⟨Nat.le_of_ble_eq_true rfl, Nat.le_of_ble_eq_true rfl⟩ dX9_sumLost_5 rfl (Nat.le_of_ble_eq_true rfl) (fun r X1 H locs hp hP hS => ?_)
  obtain ⟨hr9, hX9⟩ := hp
  rw [hX9] at hP
  subst hr9
  exact ne_xi hc hP hS hr dX9_sumLost_8 (Nat.le_of_ble_eq_true rfl) (Nat.le_of_ble_eq_true rfl) (rfl)
set_option maxHeartbeats 4000000 in
set_option maxRecDepth 100000 in
theorem c_X9_reasonByReplay (hfl : l.stackTraces = false) (hI : ninj ad on) (hon0 : on 0) (hon1 : on 1) (hon2 : on 2) (hok : oOk S) (hd : vp_in (X 2 21 0 4) 513) {pp : Int32} (hrp : ∀ j, j < nix (X 2 21 0 4) → oOk (rpl (X 2) (X 1) j) ∧ oEv (rpl (X 2) (X 1) j) (X 2 22 0 j) (X 2 23 0 j) (X 2 24 0 j)) (hre : oOk (rpl (X 2) (X 1) (nix (X 2 21 0 4)))) : nXi l D dA ad on yX9_reasonByReplay cX9_reasonByReplay 3 (some .int) (nrx 9 6) [.ref (ad 2 20 0), .int pp] (wdo X 0 S) 6 (fun r X' => (nG (inB pp (onp S)) 2 (.inr (oWhy (oJudge (rpl (X 2) (X 1) (nix (X 2 21 0 4)))) pp, wdo (wdo X 0 S) 1 (oJudge (rpl (X 2) (X 1) (nix (X 2 21 0 4)))))) : Nat ⊕ (Int32 × NWd)) = .inr (r, X')) (fun k => (nG (inB pp (onp S)) 2 (.inr (oWhy (oJudge (rpl (X 2) (X 1) (nix (X 2 21 0 4)))) pp, wdo (wdo X 0 S) 1 (oJudge (rpl (X 2) (X 1) (nix (X 2 21 0 4)))))) : Nat ⊕ (Int32 × NWd)) = .inl k) := by
  refine nX_of hI (by decide +kernel) (Nat.le_of_ble_eq_true rfl) ?_
  intro p e s m args below meth cd ls hc hr htb hP hl hS
  have hx := hc.1
  have hb := hc.2.1
  have hl : lv_has ls 3 [(0, .ref (ad 2 20 0)), (1, .int pp)] := hl
  have hok0 := hok
  have lp : ∀ (r j : Nat) , j + r = nix (X 2 21 0 4) → inB pp (onp S) = true → ∀ (H : Heap) (locs : List Loc) (ls : Array Slot), npic D dA ad on (wdo (wdo (wdo X 0 S) 1 (rpl (X 2) (X 1) j)) 2 (X 2)) H → va_S (nA ad on) s.heap H locs → lv_has ls 3 [(2, .int (nI j)), (1, .int pp), (0, .ref (ad 2 20 0))] → W p l e (nrx 9 6) s m args below meth cd H locs (0 + 1) (0 + 6 * 1) (vx_MQ below (va_Qi (fun r X' => (nG (inB pp (onp S)) 2 (.inr (oWhy (oJudge (rpl (X 2) (X 1) (nix (X 2 21 0 4)))) pp, wdo (wdo X 0 S) 1 (oJudge (rpl (X 2) (X 1) (nix (X 2 21 0 4)))))) : Nat ⊕ (Int32 × NWd)) = .inr (r, X')) (fun X' t => npic D dA ad on X' t.heap) (nA ad on)) (nXX D dA ad on (wdo X 0 S) (fun k => (nG (inB pp (onp S)) 2 (.inr (oWhy (oJudge (rpl (X 2) (X 1) (nix (X 2 21 0 4)))) pp, wdo (wdo X 0 S) 1 (oJudge (rpl (X 2) (X 1) (nix (X 2 21 0 4)))))) : Nat ⊕ (Int32 × NWd)) = .inl k)) args s 6 (6 * 6) (nA ad on)) (F0 m 14 ls []) := by
    intro r
    induction r with
    | zero =>
      intro j  hj h_2 H locs ls hP hS hl
      have hjn : j = nix (X 2 21 0 4) := by omega
      refine lv_iload_n hx hb dX9_reasonByReplay_14 rfl (lv_at hl 0 rfl) ?_
      refine lv_aload_n hx hb dX9_reasonByReplay_15 rfl (lv_at hl 2 rfl) ?_
      refine g9_22 hc hP (nv_n hon2 (by decide) Nat.zero_lt_one) dX9_reasonByReplay_16 ?_
      refine g9_240 hc hP (nv_n hon2 (by decide) Nat.zero_lt_one) dX9_reasonByReplay_19 ?_
      refine lv_icmp_ge (tgt := 74) hx hb dX9_reasonByReplay_22 (by decide) (fun c_22 => ?_) (fun c_22 => absurd (lp_le (vp_eq hd) hjn) c_22)
      rw [hjn, wdo_comm (by decide), show wdo (wdo X 0 S) 2 (X 2) = wdo X 0 S from wdo_eta] at hP
      refine lv_aload_n hx hb dX9_reasonByReplay_74 rfl (lv_at hl 2 rfl) ?_
      refine g9_16 hc hP (nv_n hon2 (by decide) Nat.zero_lt_one) dX9_reasonByReplay_75 ?_
      refine nc_Vv (c_X4_judge hI hon1 (by decide) hre) hc hP hS hl.1 gd9_257 (nrecv (q := (RX4, TX4, 9)) hc (npic_eta hP) (nv_o hon1 (by decide) (by decide) Nat.zero_lt_one) rfl rfl) ⟨rfl, rfl⟩ nok_X4_judge rfl ⟨Nat.le_of_ble_eq_true rfl, Nat.le_of_ble_eq_true rfl⟩ ⟨Nat.le_of_ble_eq_true rfl, Nat.le_of_ble_eq_true rfl⟩ dX9_reasonByReplay_78 rfl (Nat.le_of_ble_eq_true rfl) (fun X1 H locs hp hP hS => ?_)
      rw [hp] at hP
      refine lv_aload_n hx hb dX9_reasonByReplay_81 rfl (lv_at hl 2 rfl) ?_
      refine g9_16 hc hP (nv_n hon2 (by decide) Nat.zero_lt_one) dX9_reasonByReplay_82 ?_
      refine lv_iload_n hx hb dX9_reasonByReplay_85 rfl (lv_at hl 1 rfl) ?_
      refine nc_Vi (c_X4_whyNotStanding hI hon1 (by decide) ((vp_mono (inB_t.mp h_2) hok0.np12))) hc hP hS hl.1 gd9_234 (nrecv (q := (RX4, TX4, 9)) hc (npic_eta hP) (nv_o hon1 (by decide) (by decide) Nat.zero_lt_one) rfl rfl) ⟨rfl, rfl⟩ nok_X4_whyNotStanding rfl ⟨Nat.le_of_ble_eq_true rfl, Nat.le_of_ble_eq_true rfl⟩ ⟨Nat.le_of_ble_eq_true rfl, Nat.le_of_ble_eq_true rfl⟩ dX9_reasonByReplay_86 rfl (Nat.le_of_ble_eq_true rfl) (fun r X1 H locs hp hP hS => ?_)
      obtain ⟨hr9, hX9⟩ := hp
      rw [hX9] at hP
      subst hr9
      exact ne_xi hc hP hS hr dX9_reasonByReplay_89 (Nat.le_of_ble_eq_true rfl) (Nat.le_of_ble_eq_true rfl) ((nG_t h_2).trans (rfl))
    | succ r ih =>
      intro j  hj h_2 H locs ls hP hS hl
      have hjn : j < nix (X 2 21 0 4) := by omega
      have ej : nix (nI j) = j := nI_clamp (by have := vp_lt hd; omega)
      have hjd : vp_in (nI j) 512 := vp_in_nI (by have := vp_lt hd; omega) (by decide)
      refine lv_iload_n hx hb dX9_reasonByReplay_14 rfl (lv_at hl 0 rfl) ?_
      refine lv_aload_n hx hb dX9_reasonByReplay_15 rfl (lv_at hl 2 rfl) ?_
      refine g9_22 hc hP (nv_n hon2 (by decide) Nat.zero_lt_one) dX9_reasonByReplay_16 ?_
      refine g9_240 hc hP (nv_n hon2 (by decide) Nat.zero_lt_one) dX9_reasonByReplay_19 ?_
      refine lv_icmp_ge (tgt := 74) hx hb dX9_reasonByReplay_22 (by decide) (fun c_22 => absurd c_22 (lp_gt (vp_eq hd) hjn (by have := vp_lt hd; omega))) (fun c_22 => ?_)
      refine lv_aload_n hx hb dX9_reasonByReplay_25 rfl (lv_at hl 2 rfl) ?_
      refine g9_16 hc hP (nv_n hon2 (by decide) Nat.zero_lt_one) dX9_reasonByReplay_26 ?_
      refine lv_aload_n hx hb dX9_reasonByReplay_29 rfl (lv_at hl 2 rfl) ?_
      refine g9_22 hc hP (nv_n hon2 (by decide) Nat.zero_lt_one) dX9_reasonByReplay_30 ?_
      refine g9_243 hc hP (nv_n hon2 (by decide) Nat.zero_lt_one) dX9_reasonByReplay_33 ?_
      refine lv_iload_n hx hb dX9_reasonByReplay_36 rfl (lv_at hl 0 rfl) ?_
      refine la_22 hc hP (nv_n hon2 (by decide) Nat.zero_lt_one) hjd dX9_reasonByReplay_37 ?_
      refine lv_aload_n hx hb dX9_reasonByReplay_38 rfl (lv_at hl 2 rfl) ?_
      refine g9_22 hc hP (nv_n hon2 (by decide) Nat.zero_lt_one) dX9_reasonByReplay_39 ?_
      refine g9_247 hc hP (nv_n hon2 (by decide) Nat.zero_lt_one) dX9_reasonByReplay_42 ?_
      refine lv_iload_n hx hb dX9_reasonByReplay_45 rfl (lv_at hl 0 rfl) ?_
      refine la_23 hc hP (nv_n hon2 (by decide) Nat.zero_lt_one) hjd dX9_reasonByReplay_46 ?_
      refine lv_aload_n hx hb dX9_reasonByReplay_47 rfl (lv_at hl 2 rfl) ?_
      refine g9_22 hc hP (nv_n hon2 (by decide) Nat.zero_lt_one) dX9_reasonByReplay_48 ?_
      refine g9_250 hc hP (nv_n hon2 (by decide) Nat.zero_lt_one) dX9_reasonByReplay_51 ?_
      refine lv_iload_n hx hb dX9_reasonByReplay_54 rfl (lv_at hl 0 rfl) ?_
      refine la_24 hc hP (nv_n hon2 (by decide) Nat.zero_lt_one) hjd dX9_reasonByReplay_55 ?_
      refine lv_aload_n hx hb dX9_reasonByReplay_56 rfl (lv_at hl 2 rfl) ?_
      refine g9_22 hc hP (nv_n hon2 (by decide) Nat.zero_lt_one) dX9_reasonByReplay_57 ?_
      refine g9_253 hc hP (nv_n hon2 (by decide) Nat.zero_lt_one) dX9_reasonByReplay_60 ?_
      refine lv_iload_n hx hb dX9_reasonByReplay_63 rfl (lv_at hl 0 rfl) ?_
      refine la_25 hc hP (nv_n hon2 (by decide) Nat.zero_lt_one) hjd dX9_reasonByReplay_64 ?_
      rw [wdo_comm (by decide)] at hP
      rw [ej]
      refine nc_Vv (c_X4_happen hI hon1 (by decide) (oNeed_of (hrp j hjn).1 (hrp j hjn).2)) hc hP hS hl.1 gd9_256 (nrecv (q := (RX4, TX4, 9)) hc (npic_eta hP) (nv_o hon1 (by decide) (by decide) Nat.zero_lt_one) rfl rfl) ⟨rfl, rfl⟩ nok_X4_happen rfl ⟨Nat.le_of_ble_eq_true rfl, Nat.le_of_ble_eq_true rfl⟩ ⟨Nat.le_of_ble_eq_true rfl, Nat.le_of_ble_eq_true rfl⟩ dX9_reasonByReplay_65 rfl (Nat.le_of_ble_eq_true rfl) (fun X1 H locs hp hP hS => ?_)
      rw [hp, wdo_comm (by decide)] at hP
      refine lv_iinc (v := nI (j + 1)) (lv' := [(2, .int _), (1, .int _), (0, .ref _)]) hx hb dX9_reasonByReplay_68 hl (k := 0) rfl (nI_inc j) (by decide) rfl (fun ls hl => ?_)
      refine lv_goto (tgt := 14) hx hb dX9_reasonByReplay_71 (by decide) ?_
      exact ih (j + 1) (by omega) h_2 _ _ _ hP hS (lv_sub hl [0, 1, 2] rfl)
  refine lv_aload_n hx hb dX9_reasonByReplay_0 rfl (lv_at hl 0 rfl) ?_
  refine lv_iload_n hx hb dX9_reasonByReplay_1 rfl (lv_at hl 1 rfl) ?_
  refine nc_XVv (mc := 1) (c_X9_needPaper hfl hI hon0 hon1 hon2 hok) hc htb hP hS hl.1 gd9_132 (nrecv (q := (RX9, TX9, 3)) hc (npic_eta hP) (nv_n hon2 (by decide) Nat.zero_lt_one) rfl rfl) ⟨rfl, rfl⟩ nok_X9_needPaper rfl ⟨Nat.le_of_ble_eq_true rfl, Nat.le_of_ble_eq_true rfl⟩ ⟨Nat.le_of_ble_eq_true rfl, Nat.le_of_ble_eq_true rfl⟩ ⟨Nat.le_of_ble_eq_true rfl, Nat.le_of_ble_eq_true rfl⟩ dX9_reasonByReplay_2 rfl (Nat.le_of_ble_eq_true rfl) (fun k9 h9 => by rw [h9.1]; exact nG_f h9.2) (fun X1 H locs hp hP hS => ?_)
  obtain ⟨h_2, hX9⟩ := hp
  rw [hX9] at hP
  rw [show wdo X 0 S = wdo (wdo X 0 S) 1 (X 1) from wdo_eta.symm] at hP
  refine lv_aload_n hx hb dX9_reasonByReplay_5 rfl (lv_at hl 0 rfl) ?_
  refine g9_16 hc hP (nv_n hon2 (by decide) Nat.zero_lt_one) dX9_reasonByReplay_6 ?_
  refine nc_Vv (c_X4_restart hI hon1 (by decide)) hc hP hS hl.1 gd9_237 (nrecv (q := (RX4, TX4, 9)) hc (npic_eta hP) (nv_o hon1 (by decide) (by decide) Nat.zero_lt_one) rfl rfl) ⟨rfl, rfl⟩ nok_X4_restart rfl ⟨Nat.le_of_ble_eq_true rfl, Nat.le_of_ble_eq_true rfl⟩ ⟨Nat.le_of_ble_eq_true rfl, Nat.le_of_ble_eq_true rfl⟩ dX9_reasonByReplay_9 rfl (Nat.le_of_ble_eq_true rfl) (fun X1 H locs hp hP hS => ?_)
  rw [hp, show wdo (wdo X 0 S) 1 (oRestart (X 1)) = wdo (wdo (wdo X 0 S) 1 (rpl (X 2) (X 1) 0)) 2 (X 2) from wdo_eta.symm] at hP
  refine lv_iconst (v := nI 0) hx hb dX9_reasonByReplay_12 (by decide) ?_
  refine lv_istore_n (lv' := [(2, .int _), (0, .ref _), (1, .int _)]) hx hb dX9_reasonByReplay_13 rfl hl (by decide) rfl (fun ls hl => ?_)
  exact lp _ 0 (Nat.zero_add _) h_2 _ _ _ hP hS (lv_sub hl [0, 2, 1] rfl)
end N17
