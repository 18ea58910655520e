abbrev nxk (k : Nat) : Nat := match k with
  | 0 => 26
  | 1 => 46
  | 2 => 185
  | 3 => 100
  | 4 => 218
  | _ => 315
abbrev nxc (k : Nat) : Nat := match k with
  | 0 => 30
  | 1 => 50
  | 2 => 189
  | 3 => 104
  | 4 => 222
  | _ => 319
abbrev nxn : List String := ["java/lang/RuntimeException", "java/lang/Exception"]
def nxw (k : Nat) : List Cond := Cond.classLink "Nominator" (nxk k) (nex k) :: Cond.initialized (nex k) :: vx_atS "Nominator" (nxc k) (nex k) nxn
theorem nxw_0 : ∀ w ∈ nxw 0, w ∈ gw ∨ w ∈ nbw := by decide +kernel
theorem nxw_1 : ∀ w ∈ nxw 1, w ∈ gw ∨ w ∈ nbw := by decide +kernel
theorem nxw_2 : ∀ w ∈ nxw 2, w ∈ gw ∨ w ∈ nbw := by decide +kernel
theorem nxw_3 : ∀ w ∈ nxw 3, w ∈ gw ∨ w ∈ nbw := by decide +kernel
theorem nxw_g : ∀ k, k < 5 → ∀ w ∈ nxw k, vx_ot w = true := by decide +kernel
theorem nxw_f : ∀ k, k < 5 → Bundle.fit (nex k) = true := by decide +kernel
theorem nxw_n : ∀ n ∈ nxn, Bundle.fit n = true := by decide +kernel
theorem nxw_in : ∀ k, k < 5 → k ≠ 4 → ∀ w ∈ nxw k, w ∈ gw ∨ w ∈ nbw := by
  intro k hk h4
  match k, hk, h4 with
  | 0, _, _ => exact nxw_0
  | 1, _, _ => exact nxw_1
  | 2, _, _ => exact nxw_2
  | 3, _, _ => exact nxw_3
  | 4, _, h => exact absurd rfl h
  | k + 5, h, _ => exact absurd h (by omega)
theorem nbw_use {s : State} {args : Array Value} {w : Cond} (h : ∀ w ∈ nbw, w.before #[] s = true) (hw : w ∈ nbw) : w.before args s = true := by
  have h6 := (List.mem_filter.mp hw).2
  have h7 : w.onTables = true := by cases w <;> first | rfl | (simp [nbad] at h6; done)
  exact va_tabs (u := s) (U := s) h7 rfl (h w hw)
section NT
variable {p : Program} {l : Launch} {e : Env} {R : Room} {s : State} {m : MethodId} {args : Array Value} {below : List Frame} {meth : Method} {c : Code} {H : Heap} {locs : List Loc} {cells slots : Nat}
variable {cc : ByteArray} {nL pc : Nat} {ls : Array Slot} {rest : List Value} {D : va_G} {dA : Nat → ClassId} {ad : Nat → Nat → Nat → Nat} {on : Nat → Prop} {X : NWd}
theorem nxw_at {own : String} (hc : nC p s m args meth c cc nL own D dA ad on) (k : Nat) (hk : k < 5) (h4 : k ≠ 4) : ∀ w ∈ nxw k, w.before args s = true := by
  intro w hw
  rcases nxw_in k hk h4 w hw with h | h
  · exact hc.2.2.2.2.1 w h
  · exact nbw_use hc.2.2.2.2.2.1.2.1 h
/-- throw new E("text"), not caught here -/
theorem nt_throw {Qc : Array Value → State → Outcome → State → Prop} {E : Nat → Prop} {mc : Nat} (hfl : l.stackTraces = false) (k : Nat) (hk : k < 5) (h4 : k ≠ 4) {is : Nat} {text : String} (hs : (is, text) ∈ nstr) (hc : nC p s m args meth c cc nL "Nominator" D dA ad on) (htb : ∀ x ∈ c.exceptionTable.toList, False) (hP : npic D dA ad on X H) (hS : va_S (nA ad on) s.heap H locs) (hsz : ls.size = nL)
    (d0 : decode cc pc = .ok (.new (nxk k), 3)) (d3 : decode cc (pc + 3) = .ok (.dup, 1)) (d4 : decode cc (pc + 4) = .ok (.ldc is, 2)) (d6 : decode cc (pc + 6) = .ok (.invokespecial (nxc k), 3)) (d9 : decode cc (pc + 9) = .ok (.athrow, 1))
    (hRf : 5 < R.frames) (hRl : (rest.map fun v => v.category).sum + 82 ≤ R.locals) (hRc : cells + 1 ≤ R.cells) (hRs : slots + 6 ≤ R.slots) (hE : E k) (h1 : cells + 1 ≤ mc) (h2 : slots + 6 ≤ 6 * mc) :
    W p l e R s m args below meth c H locs cells slots (vx_MQ below Qc (nXX D dA ad on X E) args s mc (6 * mc) (nA ad on)) (F0 m pc ls rest) := by
  obtain ⟨a, ha⟩ := hc.2.2.2.2.2.1.2.2.1 _ hs
  have hw := nxw_at hc k hk h4
  have hg := nxw_g k hk
  obtain ⟨hx, hb, hml, hown, hts, hT, hZ, hI, hlk⟩ := hc
  refine vx_throwS (names := nxn) hx hb hfl hown (nxw_f k hk) nxw_n (hw _ List.mem_cons_self) (hw _ (List.mem_cons_of_mem _ List.mem_cons_self)) ha (fun w h => hw w (List.mem_cons_of_mem _ (List.mem_cons_of_mem _ h))) hg hZ.1 hZ.2 hS (hsz.trans hml.symm) d0 d3 d4 d6 d9 (fun x hx => (htb x hx).elim) hRf hRl hRc hRs hlk ?_ hS.2.2 h1 h2
  intro t hal hz hkp
  refine ⟨k, hE, ⟨rfl, npic_new hP hkp⟩, Nat.le_trans hS.1 hz, fun q h3 h4 => ?_⟩
  rw [hkp q (Nat.lt_of_lt_of_le h3 hS.1)]
  exact hS.2.1 q h3 h4
theorem nt_throwW {Qc : Array Value → State → Outcome → State → Prop} {E : Nat → Prop} {mc : Nat} (hfl : l.stackTraces = false) (k : Nat) (hk : k < 5) (h4 : k ≠ 4) {is : Nat} {text : String} (hs : (is, text) ∈ nstr) (hc : nC p s m args meth c cc nL "Nominator" D dA ad on) (htb : ∀ x ∈ c.exceptionTable.toList, False) (hP : npic D dA ad on X H) (hS : va_S (nA ad on) s.heap H locs) (hsz : ls.size = nL)
    (d0 : decode cc pc = .ok (.new (nxk k), 3)) (d3 : decode cc (pc + 3) = .ok (.dup, 1)) (d4 : decode cc (pc + 4) = .ok (.ldc_w is, 3)) (d6 : decode cc (pc + 7) = .ok (.invokespecial (nxc k), 3)) (d9 : decode cc (pc + 10) = .ok (.athrow, 1))
    (hRf : 5 < R.frames) (hRl : (rest.map fun v => v.category).sum + 82 ≤ R.locals) (hRc : cells + 1 ≤ R.cells) (hRs : slots + 6 ≤ R.slots) (hE : E k) (h1 : cells + 1 ≤ mc) (h2 : slots + 6 ≤ 6 * mc) :
    W p l e R s m args below meth c H locs cells slots (vx_MQ below Qc (nXX D dA ad on X E) args s mc (6 * mc) (nA ad on)) (F0 m pc ls rest) := by
  obtain ⟨a, ha⟩ := hc.2.2.2.2.2.1.2.2.1 _ hs
  have hw := nxw_at hc k hk h4
  have hg := nxw_g k hk
  obtain ⟨hx, hb, hml, hown, hts, hT, hZ, hI, hlk⟩ := hc
  refine vx_throwSW (names := nxn) hx hb hfl hown (nxw_f k hk) nxw_n (hw _ List.mem_cons_self) (hw _ (List.mem_cons_of_mem _ List.mem_cons_self)) ha (fun w h => hw w (List.mem_cons_of_mem _ (List.mem_cons_of_mem _ h))) hg hZ.1 hZ.2 hS (hsz.trans hml.symm) d0 d3 d4 d6 d9 (fun x hx => (htb x hx).elim) hRf hRl hRc hRs hlk ?_ hS.2.2 h1 h2
  intro t hal hz hkp
  refine ⟨k, hE, ⟨rfl, npic_new hP hkp⟩, Nat.le_trans hS.1 hz, fun q h3 h4 => ?_⟩
  rw [hkp q (Nat.lt_of_lt_of_le h3 hS.1)]
  exact hS.2.1 q h3 h4
variable {own : String} {y : MethodName} {bytes : ByteArray} {maxL idx n b : Nat} {ret : Option FieldType} {rm : Room} {As st : List Value}
/-- a call of a method that may throw; what it throws goes on to the caller -/
theorem nc_XVv {P : NWd → Prop} {E E2 : Nat → Prop} {mc mc2 : Nat} {Qc : Array Value → State → Outcome → State → Prop} (hM : nXv l D dA ad on y bytes maxL rm (.ref b :: As) X mc P E) (hc : nC p s m args meth c cc nL own D dA ad on) (htb : ∀ x ∈ c.exceptionTable.toList, False) (hP : npic D dA ad on X H) (hS : va_S (nA ad on) s.heap H locs) (hsz : ls.size = nL) (hg : GoodIn gw (wsV own idx y.cls y (nws y bytes maxL none))) (hrv : ∃ cell : Cell, H[b]? = some cell ∧ cell.vm.isStatics = false ∧ s.vm.findClass y.cls = some cell.cls) (hrm : rm.cells = mc ∧ rm.slots = 6 * mc) (hok : nOk y n) (hn : As.length = n) (hR : rm.frames + 1 ≤ R.frames ∧ 8 + (maxL + 11) + rm.locals ≤ R.locals) (hf : cells + mc ≤ R.cells ∧ slots + 6 * mc ≤ R.slots) (hf2 : cells + mc ≤ mc2 ∧ slots + 6 * mc ≤ 6 * mc2) (hdg : decode cc pc = .ok (.invokevirtual idx, 3)) (hst : st = As.reverse ++ .ref b :: rest) (hW : (rest.map fun v => v.category).sum ≤ 8)
    (kx : ∀ k, E k → E2 k)
    (kk : ∀ (X' : NWd) (H1 : Heap) (locs1 : List Loc), P X' → npic D dA ad on X' H1 → va_S (nA ad on) s.heap H1 locs1 → W p l e R s m args below meth c H1 locs1 (cells + mc) (slots + 6 * mc) (vx_MQ below Qc (nXX D dA ad on X E2) args s mc2 (6 * mc2) (nA ad on)) (F0 m (pc + 3) ls rest)) : W p l e R s m args below meth c H locs cells slots (vx_MQ below Qc (nXX D dA ad on X E2) args s mc2 (6 * mc2) (nA ad on)) (F0 m pc ls st) := by
  have hlk := hc.2.2.2.2.2.2.2.2
  refine vx_callv (vx_runV (As := As) (rest := rest) (nfix hc) hM (cwV n hc.2.2.2.2.1 hg rfl hrm.1 hrm.2 ⟨rfl, hok⟩ hR) ⟨nblind, hrv, fun U hU hW => ⟨rfl, npre_of hc hP hS hU hW⟩⟩ rfl hn hsz hst (by simpa [JFrame.monitorRoom] using hW) hdg hf) hS (nfree hS) (fun _ h => h) (nfree hS) ?_ ?_
  · intro nm ce q9 k t H1 locs1 ht _ hp hb _ _ hS1 hcell hv hcl
    refine vx_out (fun x hx => (htb x hx).elim) hlk hcell hv hcl (fun t2 ht2 _ => ?_) hS1.2.2 hf2.1 hf2.2
    rw [ht] at hb
    exact ⟨k, kx k hp, ⟨hb.1, by rw [ht2]; exact hb.2⟩, hS1.F ht2⟩
  · intro X' t H1 locs1 ht _ hp hb _ _ hS1
    rw [ht] at hb
    exact kk X' H1 locs1 hp hb hS1
/-- a call of a private static method of a nest mate -/
theorem nc_SNi {host : String} {P : Int32 → NWd → Prop} {Q : State → Prop} (hM : nMi l D dA ad on y bytes maxL ret rm As X P) (hc : nC p s m args meth c cc nL own D dA ad on) (hP : npic D dA ad on X H) (hS : va_S (nA ad on) s.heap H locs) (hsz : ls.size = nL) (hn5 : Cond.methodLinkNest own idx y host ∈ nbw) (q1 : Cond.static y ∈ gw) (q4 : Cond.initialized y.cls ∈ gw) (q5 : Cond.code y bytes maxL ret ∈ gw) (hrm : rm.cells = 0 ∧ rm.slots = 0) (hok : nOk y n) (hn : As.length = n) (hR : rm.frames + 1 ≤ R.frames ∧ 8 + (maxL + 11) + rm.locals ≤ R.locals) (hf : cells ≤ R.cells ∧ slots ≤ R.slots) (hdg : decode cc pc = .ok (.invokestatic idx, 3)) (hst : st = As.reverse ++ rest) (hW : (rest.map fun v => v.category).sum ≤ 8)
    (kk : ∀ (r : Int32) (X' : NWd) (H1 : Heap) (locs1 : List Loc), P r X' → npic D dA ad on X' H1 → va_S (nA ad on) s.heap H1 locs1 → W p l e R s m args below meth c H1 locs1 cells slots Q (F0 m (pc + 3) ls (.int r :: rest))) : W p l e R s m args below meth c H locs cells slots Q (F0 m pc ls st) := by
  refine va_calli (va_runSN (As := As) (rest := rest) (nfix hc) hM ⟨va_cnB n hc.2.2.2.2.1 (ngoodC q5) rfl hrm.1 hrm.2 (hc.2.2.2.2.2.1.2.1 _ hn5) (hc.2.2.2.2.1 _ q4) hok hR, hc.2.2.2.2.1 _ q1, trivial⟩ ⟨nblind, fun U hU hW => ⟨rfl, npre_of hc hP hS hU hW⟩⟩ rfl hn hsz hst (by simpa [JFrame.monitorRoom] using hW) hdg hf) hS (nfree hS) (fun _ h => h) ?_
  intro r X' t H1 locs1 ht _ hp hb _ _ hS1
  rw [ht] at hb
  exact kk r X' H1 locs1 hp hb hS1
end NT
