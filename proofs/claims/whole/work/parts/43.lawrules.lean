/-! The law's own methods: the two cells for answers, the calls that may throw, what catches them. -/
abbrev LSt : Type := NWd × Int64 × UInt64
def lA2 (ad : Nat → Nat → Nat → Nat) (on : Nat → Prop) (aL aD : Nat) : Nat → Prop := fun q => nA ad on q ∨ q = aL ∨ q = aD
def lcl (D : va_G) (cL : ClassId) (aL : Nat) (v : Int64) (H : Heap) : Prop := ∃ f : Nat → Int64, f 0 = v ∧ va_at D ncl (aL, .inl (cL, 1, .inr (.inl f))) H
def lcd (D : va_G) (cD : ClassId) (aD : Nat) (v : UInt64) (H : Heap) : Prop := ∃ f : Nat → UInt64, f 0 = v ∧ va_at D ncl (aD, .inl (cD, 1, .inr (.inr (.inr (.inl f))))) H
def lpic (D : va_G) (dA : Nat → ClassId) (ad : Nat → Nat → Nat → Nat) (on : Nat → Prop) (cL cD : ClassId) (aL aD : Nat) (u : LSt) (H : Heap) : Prop := npic D dA ad on u.1 H ∧ lcl D cL aL u.2.1 H ∧ lcd D cD aD u.2.2 H
def lsep (ad : Nat → Nat → Nat → Nat) (on : Nat → Prop) (aL aD : Nat) : Prop := ¬ nA ad on aL ∧ ¬ nA ad on aD ∧ aL ≠ aD
def lK (D : va_G) (cL cD : ClassId) (U : State) : Prop := va_K D ncl [(cL, .long), (cD, .double)] U
def lpre (D : va_G) (dA : Nat → ClassId) (ad : Nat → Nat → Nat → Nat) (on : Nat → Prop) (cL cD : ClassId) (aL aD : Nat) (u : LSt) (U : State) : Prop := ntab D dA U ∧ lpic D dA ad on cL cD aL aD u U.heap ∧ nst (lA2 ad on aL aD) U U.heap ∧ lK D cL cD U
abbrev lrm : Room := { frames := 10, cells := 6, slots := 36, locals := 400 }
def lM (l : Launch) (D : va_G) (dA : Nat → ClassId) (ad : Nat → Nat → Nat → Nat) (on : Nat → Prop) (cL cD : ClassId) (aL aD : Nat) (y : MethodName) (cc : ByteArray) (maxL : Nat) (hh : List (Nat × Nat × Nat × Nat)) (av : List Value) (u : LSt) (P : Int32 → LSt → Prop) : Prop :=
  Met l y (Cond.codeWith y cc maxL (some .int) hh :: gw) lrm (va_Pc av (lpre D dA ad on cL cD aL aD u)) (va_Qi P (fun u' t => lpic D dA ad on cL cD aL aD u' t.heap) (lA2 ad on aL aD)) 6 36 (lA2 ad on aL aD)
def lC (p : Program) (s : State) (m : MethodId) (args : Array Value) (meth : Method) (c : Code) (cc : ByteArray) (nL : Nat) (hh : List (Nat × Nat × Nat × Nat)) (D : va_G) (dA : Nat → ClassId) (ad : Nat → Nat → Nat → Nat) (on : Nat → Prop) (cL cD : ClassId) (aL aD : Nat) : Prop :=
  p.tables.exec = Jvm.exec ∧ c.code = cc ∧ c.maxLocals = nL ∧ s.vm.findClass "NominatorLaw" = some m.cls ∧ (∀ w ∈ gw, w.before args s = true) ∧ ntab D dA s ∧ nst (lA2 ad on aL aD) s s.heap ∧ lK D cL cD s ∧ meth.locks = false ∧ c.exceptionTable.toList = tableOf hh ∧ ninj ad on ∧ lsep ad on aL aD
theorem lpre_calling {D : va_G} {dA : Nat → ClassId} {ad : Nat → Nat → Nat → Nat} {on : Nat → Prop} {cL cD : ClassId} {aL aD : Nat} {u : LSt} {U : State} {g : JFrame} {mk : MethodId} {a : Array Value} (h : lpre D dA ad on cL cD aL aD u U) : lpre D dA ad on cL cD aL aD u (U.calling g mk a) :=
  ⟨ntab_calling h.1, h.2.1, ⟨vx_Zq.moved (u := U) (U := U.calling g mk a) (Vm.Alike.refl U.vm) h.2.2.1.1, vx_Zq.moved (u := U) (U := U.calling g mk a) (Vm.Alike.refl U.vm) h.2.2.1.2⟩, va_K.moved (u := U) (U := U.calling g mk a) (Vm.Alike.refl U.vm) h.2.2.2⟩
theorem l_ofWH {l : Launch} {y : MethodName} {ws ws' : List Cond} {rm : Room} {Pc : Array Value → State → Prop} {Qc : Array Value → State → Outcome → State → Prop} {mc ms : Nat} {free : Addr → Prop} {cc : ByteArray} {maxL : Nat} {ret : Option FieldType} {hh : List (Nat × Nat × Nat × Nat)}
    (hy : plainName y.cls = true) (hw : ws = Cond.codeWith y cc maxL ret hh :: ws')
    (body : ∀ p e s m args below meth c s₁, BodyLoose p l y (headSpec ws rm) cc maxL ret e s m args below meth c s₁ → c.maxLocals = maxL → Pc args s →
      W p l e (headSpec ws rm).room s m args below meth c s.heap [] 0 0 (MQ below Qc args s mc ms free) (entryFrame m args maxL)) : Met l y ws rm Pc Qc mc ms free := by
  refine MetFree.of_bodyS (code := cc) (maxLocals := maxL) (ret := ret) hy ?_ ?_
  · intro args s m h hn
    obtain ⟨m9, meth, c, hn9, h1, h2, h3, h4, -, h5, h6, -⟩ := Cond.codeWith_spec (atoms_spec (ws := ws) h _ (by rw [hw]; exact List.mem_cons_self))
    cases hn.symm.trans hn9
    exact ⟨meth, c, h1, h2, h3, h4, h5, h6⟩
  · intro p e s m args below meth c s₁ B hml hP _
    have hh0 : s₁.heap = s.heap := by rw [B.state]; rfl
    obtain ⟨t, a1, o, b1, b2, b3⟩ := body p e s m args below meth c s₁ B hml hP s₁ hh0 (Stand.of_body B)
    exact ⟨t, o, a1, b1, b2, ⟨b3.1, b3.2⟩⟩
section LR
variable {p : Program} {l : Launch} {e : Env} {R : Room} {s : State} {m : MethodId} {args : Array Value} {below : List Frame} {meth : Method} {c : Code} {H : Heap} {locs : List Loc} {cells slots : Nat} {Q : State → Prop}
variable {cc : ByteArray} {nL pc : Nat} {hh : List (Nat × Nat × Nat × Nat)} {ls : Array Slot} {rest : List Value} {D : va_G} {dA : Nat → ClassId} {ad : Nat → Nat → Nat → Nat} {on : Nat → Prop} {cL cD : ClassId} {aL aD : Nat} {X : NWd} {vL : Int64} {vD : UInt64}
theorem lM_of {y : MethodName} {cc : ByteArray} {maxL : Nat} {av : List Value} {u : LSt} {P : Int32 → LSt → Prop} (hI : ninj ad on) (hs : lsep ad on aL aD) (hcl : y.cls = "NominatorLaw") (hy : plainName y.cls = true) (hlen : (lg_sl av).length ≤ maxL)
    (body : ∀ (p : Program) (e : Env) (s : State) (m : MethodId) (args : Array Value) (below : List Frame) (meth : Method) (c : Code) (ls : Array Slot), lC p s m args meth c cc maxL hh D dA ad on cL cD aL aD → meth.sig.returnType = some .int → lpic D dA ad on cL cD aL aD u s.heap → lv_has ls maxL (lv_args 0 av) → va_S (lA2 ad on aL aD) s.heap s.heap [] →
      W p l e lrm s m args below meth c s.heap [] 0 0 (MQ below (va_Qi P (fun u' t => lpic D dA ad on cL cD aL aD u' t.heap) (lA2 ad on aL aD)) args s 6 36 (lA2 ad on aL aD)) (F0 m 0 ls [])) : lM l D dA ad on cL cD aL aD y cc maxL hh av u P := by
  refine l_ofWH (cc := cc) (maxL := maxL) (ret := some .int) (hh := hh) hy rfl ?_
  intro p e s m args below meth c s₁ B hml hv
  obtain ⟨rfl, hT, hP, hZ, hK⟩ := hv
  have hts := atoms_spec (ws := Cond.codeWith y cc maxL (some .int) hh :: gw) B.pre
  have hown : s.vm.findClass "NominatorLaw" = some m.cls := by rw [← hcl]; exact findClass_of_methodNamed B.named
  have htb := vx_table (x := y) B (hts _ List.mem_cons_self)
  have hl := lv_entry av (n := maxL) hlen
  rw [lg_entry_eq]
  generalize (lg_sl av ++ List.replicate (maxL - (lg_sl av).length) Slot.unset).toArray = ls at hl ⊢
  exact body p e s m av.toArray below meth c ls ⟨B.exec, B.bytes, hml, hown, fun w h => hts w (List.mem_cons_of_mem _ h), hT, hZ, hK, B.notSynchronized, htb, hI, hs⟩ B.returns hP hl va_S.rf
theorem l_end {P : Int32 → LSt → Prop} {u : LSt} {v : Int32} (hc : lC p s m args meth c cc nL hh D dA ad on cL cD aL aD) (hP : lpic D dA ad on cL cD aL aD u H) (hS : va_S (lA2 ad on aL aD) s.heap H locs) (hr : meth.sig.returnType = some .int) (hdg : decode cc pc = .ok (.ireturn, 1)) (h1 : cells ≤ 6) (h2 : slots ≤ 36) (hp : P v u) : W p l e R s m args below meth c H locs cells slots (MQ below (va_Qi P (fun u' t => lpic D dA ad on cL cD aL aD u' t.heap) (lA2 ad on aL aD)) args s 6 36 (lA2 ad on aL aD)) (F0 m pc ls [.int v]) :=
  W.widen h1 h2 (W.iret hc.1 hc.2.1 hr (fun t ht hW => ⟨⟨v, u, rfl, hp, (show lpic D dA ad on cL cD aL aD u t.heap by rw [ht]; exact hP)⟩, hS.F ht⟩) hS.2.2 hdg hc.2.2.2.2.2.2.2.2.1)
theorem lpic_kept {u : LSt} {X' : NWd} {H1 : Heap} (hs : lsep ad on aL aD) (hP : lpic D dA ad on cL cD aL aD u H) (hP1 : npic D dA ad on X' H1) (hk : ∀ q : Nat, q < H.size → ¬ nA ad on q → H1[q]? = H[q]?) : lpic D dA ad on cL cD aL aD (X', u.2) H1 := by
  obtain ⟨-, ⟨f, f0, f1⟩, ⟨g, g0, g1⟩⟩ := hP
  exact ⟨hP1, ⟨f, f0, f1.kept (hk _ f1.lt hs.1)⟩, ⟨g, g0, g1.kept (hk _ g1.lt hs.2.1)⟩⟩
theorem l_lst {x : Int64} {u : LSt} (hc : lC p s m args meth c cc nL hh D dA ad on cL cD aL aD) (hP : lpic D dA ad on cL cD aL aD u H) (hS : va_S (lA2 ad on aL aD) s.heap H locs) (hdg : decode cc pc = .ok (.lastore, 1))
    (kk : ∀ (H1 : Heap) (locs1 : List Loc), lpic D dA ad on cL cD aL aD (u.1, x, u.2.2) H1 → va_S (lA2 ad on aL aD) s.heap H1 locs1 → W p l e R s m args below meth c H1 locs1 cells slots Q (F0 m (pc + 1) ls rest)) : W p l e R s m args below meth c H locs cells slots Q (F0 m pc ls (.long x :: .int 0 :: .ref aL :: rest)) := by
  obtain ⟨hx, hb, -, -, -, -, -, hK, -, -, -, hs⟩ := hc
  obtain ⟨hp, ⟨f, f0, f1⟩, ⟨g, g0, g1⟩⟩ := hP
  have hin : vp_in 0 1 := by unfold vp_in; decide
  refine W.last hx hb f1 ((hK.2 0 _ rfl).1 1 (fun j => .long (f j))) (fun q => by cases q) (by show ¬ ((0 : Int32) < 0 ∨ (arrV _ _ _).slots.size ≤ _); rw [arrV_size]; exact hin) rfl rfl hdg fun H1 e1 z oq => ?_
  refine kk H1 _ ⟨npic_kept hp (fun q _ hq => oq q (fun (z9 : q = aL) => hs.1 (z9 ▸ hq))), ⟨vp_updL f 0 x, by simp [vp_updL], ?_⟩, ⟨g, g0, g1.kept (oq _ (fun z9 => hs.2.2 z9.symm))⟩⟩ (hS.put z oq (Or.inr (Or.inl rfl)))
  show H1[aL]? = some (vp_cell cL (1, .inr (.inl (vp_updL f 0 x))))
  rw [e1]
  show some ((arrV cL 1 (fun j => .long (f j))).setSlot (0 : Int32).toNatClampNeg (.long x)) = some (arrV cL 1 (fun j => .long (vp_updL f 0 x j)))
  rw [arrV_store]
  congr 2
  funext q
  by_cases hq : q = 0
  · subst hq; simp [updV, vp_updL]
  · simp [updV, vp_updL, hq]
theorem l_dst {x : UInt64} {u : LSt} (hc : lC p s m args meth c cc nL hh D dA ad on cL cD aL aD) (hP : lpic D dA ad on cL cD aL aD u H) (hS : va_S (lA2 ad on aL aD) s.heap H locs) (hdg : decode cc pc = .ok (.dastore, 1))
    (kk : ∀ (H1 : Heap) (locs1 : List Loc), lpic D dA ad on cL cD aL aD (u.1, u.2.1, x) H1 → va_S (lA2 ad on aL aD) s.heap H1 locs1 → W p l e R s m args below meth c H1 locs1 cells slots Q (F0 m (pc + 1) ls rest)) : W p l e R s m args below meth c H locs cells slots Q (F0 m pc ls (.double x :: .int 0 :: .ref aD :: rest)) := by
  obtain ⟨hx, hb, -, -, -, -, -, hK, -, -, -, hs⟩ := hc
  obtain ⟨hp, ⟨f, f0, f1⟩, ⟨g, g0, g1⟩⟩ := hP
  have hin : vp_in 0 1 := by unfold vp_in; decide
  refine W.dast hx hb g1 ((hK.2 1 _ rfl).1 1 (fun j => .double (g j))) (fun q => by cases q) (by show ¬ ((0 : Int32) < 0 ∨ (arrV _ _ _).slots.size ≤ _); rw [arrV_size]; exact hin) rfl rfl hdg fun H1 e1 z oq => ?_
  refine kk H1 _ ⟨npic_kept hp (fun q _ hq => oq q (fun (z9 : q = aD) => hs.2.1 (z9 ▸ hq))), ⟨f, f0, f1.kept (oq _ hs.2.2)⟩, ⟨vf_upd g 0 x, by simp [vf_upd], ?_⟩⟩ (hS.put z oq (Or.inr (Or.inr rfl)))
  show H1[aD]? = some (vp_cell cD (1, .inr (.inr (.inr (.inl (vf_upd g 0 x))))))
  rw [e1]
  show some ((arrV cD 1 (fun j => .double (g j))).setSlot (0 : Int32).toNatClampNeg (.double x)) = some (arrV cD 1 (fun j => .double (vf_upd g 0 x j)))
  rw [arrV_store]
  congr 2
  funext q
  by_cases hq : q = 0
  · subst hq; simp [updV, vf_upd]
  · simp [updV, vf_upd, hq]
theorem l_fix (hc : lC p s m args meth c cc nL hh D dA ad on cL cD aL aD) : CallFix p m c cc nL s args gw "NominatorLaw" := ⟨hc.1, hc.2.1, hc.2.2.1, hc.2.2.2.1, hc.2.2.2.2.1⟩
theorem l_npre (hc : lC p s m args meth c cc nL hh D dA ad on cL cD aL aD) (hP : npic D dA ad on X H) (hS : va_S (lA2 ad on aL aD) s.heap H locs) {U : State} (hU : U.heap = H) (hW : s.WarmedH U.vm) : npre D dA ad on X U := by
  obtain ⟨-, -, -, -, -, hT, hZ, -⟩ := hc
  exact ⟨ntab_warm hW hT, by rw [hU]; exact hP, by rw [hU]; exact vx_Zq.moved hW.alike ((hZ.1.kept hS.2.1).narrow (fun q h => Or.inl h)), by rw [hU]; exact vx_Zq.moved hW.alike ((hZ.2.kept hS.2.1).narrow (fun q h => Or.inl h))⟩
variable {y : MethodName} {bytes : ByteArray} {maxL idx n b : Nat} {ret : Option FieldType} {As st : List Value}
theorem l_Xi {P : Int32 → NWd → Prop} {E : Nat → Prop} (hM : nXi l D dA ad on y bytes maxL ret (nrx 9 6) (.ref b :: As) X 6 P E) (hc : lC p s m args meth c cc nL hh D dA ad on cL cD aL aD) (hP : lpic D dA ad on cL cD aL aD (X, vL, vD) H) (hS : va_S (lA2 ad on aL aD) s.heap H locs) (hsz : ls.size = nL) (hg : GoodIn gw (wsV "NominatorLaw" idx y.cls y (nws y bytes maxL ret))) (hrv : ∃ cell : Cell, H[b]? = some cell ∧ cell.vm.isStatics = false ∧ s.vm.findClass y.cls = some cell.cls) (hok : nOk y n) (hn : As.length = n) (hR : 10 ≤ R.frames ∧ 8 + (maxL + 11) + 360 ≤ R.locals) (hf : cells + 6 ≤ R.cells ∧ slots + 36 ≤ R.slots) (hdg : decode cc pc = .ok (.invokevirtual idx, 3)) (hst : st = As.reverse ++ .ref b :: rest) (hW : (rest.map fun v => v.category).sum ≤ 8)
    (kx : ∀ (k : Nat) (ce : Cell) (q9 : Addr) (H1 : Heap) (locs1 : List Loc), E k → lpic D dA ad on cL cD aL aD (X, vL, vD) H1 → va_S (lA2 ad on aL aD) s.heap H1 locs1 → H1[q9]? = some ce → ce.vm = .none → s.vm.findClass (nex k) = some ce.cls → vx_W p l e R s m args below meth c H1 locs1 (cells + 6) (slots + 36) Q (F0 m pc ls rest) q9)
    (kk : ∀ (r : Int32) (X' : NWd) (H1 : Heap) (locs1 : List Loc), P r X' → lpic D dA ad on cL cD aL aD (X', vL, vD) H1 → va_S (lA2 ad on aL aD) s.heap H1 locs1 → W p l e R s m args below meth c H1 locs1 (cells + 6) (slots + 36) Q (F0 m (pc + 3) ls (.int r :: rest))) : W p l e R s m args below meth c H locs cells slots Q (F0 m pc ls st) := by
  have hsep := hc.2.2.2.2.2.2.2.2.2.2.2
  refine vx_calli (vx_runV (As := As) (rest := rest) (l_fix hc) hM (cwV n hc.2.2.2.2.1 hg rfl rfl rfl ⟨rfl, hok⟩ hR) ⟨nblind, hrv, fun U hU hW => ⟨rfl, l_npre hc hP.1 hS hU hW⟩⟩ rfl hn hsz hst (by simpa [JFrame.monitorRoom] using hW) hdg hf) hS (fun q _ h => Or.inl h) (fun q h => Or.inl h) (fun q _ h => Or.inl h) ?_ ?_
  · intro nm ce q9 k t H1 locs1 ht _ hp hb _ hk hS1 hcell hv hcl
    rw [ht] at hb
    obtain ⟨rfl, hb⟩ := hb
    exact kx k ce q9 H1 locs1 hp (lpic_kept hsep hP hb hk) hS1 hcell hv hcl
  · intro r X' t H1 locs1 ht _ hp hb _ hk hS1
    rw [ht] at hb
    exact kk r X' H1 locs1 hp (lpic_kept hsep hP hb hk) hS1
theorem l_Xd {P : UInt64 → NWd → Prop} {E : Nat → Prop} (hM : nXd l D dA ad on y bytes maxL (nrx 9 6) (.ref b :: As) X 6 P E) (hc : lC p s m args meth c cc nL hh D dA ad on cL cD aL aD) (hP : lpic D dA ad on cL cD aL aD (X, vL, vD) H) (hS : va_S (lA2 ad on aL aD) s.heap H locs) (hsz : ls.size = nL) (hg : GoodIn gw (wsV "NominatorLaw" idx y.cls y (nws y bytes maxL (some .double)))) (hrv : ∃ cell : Cell, H[b]? = some cell ∧ cell.vm.isStatics = false ∧ s.vm.findClass y.cls = some cell.cls) (hok : nOk y n) (hn : As.length = n) (hR : 10 ≤ R.frames ∧ 8 + (maxL + 11) + 360 ≤ R.locals) (hf : cells + 6 ≤ R.cells ∧ slots + 36 ≤ R.slots) (hdg : decode cc pc = .ok (.invokevirtual idx, 3)) (hst : st = As.reverse ++ .ref b :: rest) (hW : (rest.map fun v => v.category).sum ≤ 8)
    (kx : ∀ (k : Nat) (ce : Cell) (q9 : Addr) (H1 : Heap) (locs1 : List Loc), E k → lpic D dA ad on cL cD aL aD (X, vL, vD) H1 → va_S (lA2 ad on aL aD) s.heap H1 locs1 → H1[q9]? = some ce → ce.vm = .none → s.vm.findClass (nex k) = some ce.cls → vx_W p l e R s m args below meth c H1 locs1 (cells + 6) (slots + 36) Q (F0 m pc ls rest) q9)
    (kk : ∀ (r : UInt64) (X' : NWd) (H1 : Heap) (locs1 : List Loc), P r X' → lpic D dA ad on cL cD aL aD (X', vL, vD) H1 → va_S (lA2 ad on aL aD) s.heap H1 locs1 → W p l e R s m args below meth c H1 locs1 (cells + 6) (slots + 36) Q (F0 m (pc + 3) ls (.double r :: rest))) : W p l e R s m args below meth c H locs cells slots Q (F0 m pc ls st) := by
  have hsep := hc.2.2.2.2.2.2.2.2.2.2.2
  refine vx_calld (vx_runV (As := As) (rest := rest) (l_fix hc) hM (cwV n hc.2.2.2.2.1 hg rfl rfl rfl ⟨rfl, hok⟩ hR) ⟨nblind, hrv, fun U hU hW => ⟨rfl, l_npre hc hP.1 hS hU hW⟩⟩ rfl hn hsz hst (by simpa [JFrame.monitorRoom] using hW) hdg hf) hS (fun q _ h => Or.inl h) (fun q h => Or.inl h) (fun q _ h => Or.inl h) ?_ ?_
  · intro nm ce q9 k t H1 locs1 ht _ hp hb _ hk hS1 hcell hv hcl
    rw [ht] at hb
    obtain ⟨rfl, hb⟩ := hb
    exact kx k ce q9 H1 locs1 hp (lpic_kept hsep hP hb hk) hS1 hcell hv hcl
  · intro r X' t H1 locs1 ht _ hp hb _ hk hS1
    rw [ht] at hb
    exact kk r X' H1 locs1 hp (lpic_kept hsep hP hb hk) hS1
theorem l_Xf {P : UInt32 → NWd → Prop} {E : Nat → Prop} (hM : nXf l D dA ad on y bytes maxL (nrx 9 6) (.ref b :: As) X 6 P E) (hc : lC p s m args meth c cc nL hh D dA ad on cL cD aL aD) (hP : lpic D dA ad on cL cD aL aD (X, vL, vD) H) (hS : va_S (lA2 ad on aL aD) s.heap H locs) (hsz : ls.size = nL) (hg : GoodIn gw (wsV "NominatorLaw" idx y.cls y (nws y bytes maxL (some .float)))) (hrv : ∃ cell : Cell, H[b]? = some cell ∧ cell.vm.isStatics = false ∧ s.vm.findClass y.cls = some cell.cls) (hok : nOk y n) (hn : As.length = n) (hR : 10 ≤ R.frames ∧ 8 + (maxL + 11) + 360 ≤ R.locals) (hf : cells + 6 ≤ R.cells ∧ slots + 36 ≤ R.slots) (hdg : decode cc pc = .ok (.invokevirtual idx, 3)) (hst : st = As.reverse ++ .ref b :: rest) (hW : (rest.map fun v => v.category).sum ≤ 8)
    (kx : ∀ (k : Nat) (ce : Cell) (q9 : Addr) (H1 : Heap) (locs1 : List Loc), E k → lpic D dA ad on cL cD aL aD (X, vL, vD) H1 → va_S (lA2 ad on aL aD) s.heap H1 locs1 → H1[q9]? = some ce → ce.vm = .none → s.vm.findClass (nex k) = some ce.cls → vx_W p l e R s m args below meth c H1 locs1 (cells + 6) (slots + 36) Q (F0 m pc ls rest) q9)
    (kk : ∀ (r : UInt32) (X' : NWd) (H1 : Heap) (locs1 : List Loc), P r X' → lpic D dA ad on cL cD aL aD (X', vL, vD) H1 → va_S (lA2 ad on aL aD) s.heap H1 locs1 → W p l e R s m args below meth c H1 locs1 (cells + 6) (slots + 36) Q (F0 m (pc + 3) ls (.float r :: rest))) : W p l e R s m args below meth c H locs cells slots Q (F0 m pc ls st) := by
  have hsep := hc.2.2.2.2.2.2.2.2.2.2.2
  refine vx_callf (vx_runV (As := As) (rest := rest) (l_fix hc) hM (cwV n hc.2.2.2.2.1 hg rfl rfl rfl ⟨rfl, hok⟩ hR) ⟨nblind, hrv, fun U hU hW => ⟨rfl, l_npre hc hP.1 hS hU hW⟩⟩ rfl hn hsz hst (by simpa [JFrame.monitorRoom] using hW) hdg hf) hS (fun q _ h => Or.inl h) (fun q h => Or.inl h) (fun q _ h => Or.inl h) ?_ ?_
  · intro nm ce q9 k t H1 locs1 ht _ hp hb _ hk hS1 hcell hv hcl
    rw [ht] at hb
    obtain ⟨rfl, hb⟩ := hb
    exact kx k ce q9 H1 locs1 hp (lpic_kept hsep hP hb hk) hS1 hcell hv hcl
  · intro r X' t H1 locs1 ht _ hp hb _ hk hS1
    rw [ht] at hb
    exact kk r X' H1 locs1 hp (lpic_kept hsep hP hb hk) hS1
/-- a call whose throws may have changed the world -/
theorem l_Yi {P : Int32 → NWd → Prop} {E : Nat → NWd → Prop} (hM : nYi l D dA ad on y bytes maxL ret (nrx 9 6) (.ref b :: As) X 6 P E) (hc : lC p s m args meth c cc nL hh D dA ad on cL cD aL aD) (hP : lpic D dA ad on cL cD aL aD (X, vL, vD) H) (hS : va_S (lA2 ad on aL aD) s.heap H locs) (hsz : ls.size = nL) (hg : GoodIn gw (wsV "NominatorLaw" idx y.cls y (nws y bytes maxL ret))) (hrv : ∃ cell : Cell, H[b]? = some cell ∧ cell.vm.isStatics = false ∧ s.vm.findClass y.cls = some cell.cls) (hok : nOk y n) (hn : As.length = n) (hR : 10 ≤ R.frames ∧ 8 + (maxL + 11) + 360 ≤ R.locals) (hf : cells + 6 ≤ R.cells ∧ slots + 36 ≤ R.slots) (hdg : decode cc pc = .ok (.invokevirtual idx, 3)) (hst : st = As.reverse ++ .ref b :: rest) (hW : (rest.map fun v => v.category).sum ≤ 8)
    (kx : ∀ (k : Nat) (X' : NWd) (ce : Cell) (q9 : Addr) (H1 : Heap) (locs1 : List Loc), E k X' → lpic D dA ad on cL cD aL aD (X', vL, vD) H1 → va_S (lA2 ad on aL aD) s.heap H1 locs1 → H1[q9]? = some ce → ce.vm = .none → s.vm.findClass (nex k) = some ce.cls → vx_W p l e R s m args below meth c H1 locs1 (cells + 6) (slots + 36) Q (F0 m pc ls rest) q9)
    (kk : ∀ (r : Int32) (X' : NWd) (H1 : Heap) (locs1 : List Loc), P r X' → lpic D dA ad on cL cD aL aD (X', vL, vD) H1 → va_S (lA2 ad on aL aD) s.heap H1 locs1 → W p l e R s m args below meth c H1 locs1 (cells + 6) (slots + 36) Q (F0 m (pc + 3) ls (.int r :: rest))) : W p l e R s m args below meth c H locs cells slots Q (F0 m pc ls st) := by
  have hsep := hc.2.2.2.2.2.2.2.2.2.2.2
  have hM2 : vx_Met l y (nws y bytes maxL ret) (nrx 9 6) (va_Pc (.ref b :: As) (npre D dA ad on X)) (va_Qi P (fun X' t => npic D dA ad on X' t.heap) (nA ad on)) (vx_X (fun u : Nat × NWd => E u.1 u.2) (fun nm u t => nm = nex u.1 ∧ npic D dA ad on u.2 t.heap) (nA ad on)) 6 (6 * 6) (nA ad on) := by
    have e : nXY D dA ad on E = vx_X (fun u : Nat × NWd => E u.1 u.2) (fun nm u t => nm = nex u.1 ∧ npic D dA ad on u.2 t.heap) (nA ad on) := by
      funext nm u t
      apply propext
      constructor
      · rintro ⟨k, X', h1, h2, h3⟩
        exact ⟨(k, X'), h1, h2, h3⟩
      · rintro ⟨⟨k, X'⟩, h1, h2, h3⟩
        exact ⟨k, X', h1, h2, h3⟩
    rw [← e]; exact hM
  refine vx_calli (vx_runV (As := As) (rest := rest) (l_fix hc) hM2 (cwV n hc.2.2.2.2.1 hg rfl rfl rfl ⟨rfl, hok⟩ hR) ⟨nblind, hrv, fun U hU hW => ⟨rfl, l_npre hc hP.1 hS hU hW⟩⟩ rfl hn hsz hst (by simpa [JFrame.monitorRoom] using hW) hdg hf) hS (fun q _ h => Or.inl h) (fun q h => Or.inl h) (fun q _ h => Or.inl h) ?_ ?_
  · intro nm ce q9 k t H1 locs1 ht _ hp hb _ hk hS1 hcell hv hcl
    rw [ht] at hb
    obtain ⟨rfl, hb⟩ := hb
    exact kx k.1 k.2 ce q9 H1 locs1 hp (lpic_kept hsep hP hb hk) hS1 hcell hv hcl
  · intro r X' t H1 locs1 ht _ hp hb _ hk hS1
    rw [ht] at hb
    exact kk r X' H1 locs1 hp (lpic_kept hsep hP hb hk) hS1
/-- what a class of throws is called in the law's pool -/
def lci (k : Nat) : Nat := match k with
  | 0 => 13
  | 1 => 15
  | 2 => 28
  | 3 => 33
  | 4 => 88
  | _ => 131
theorem lci_w : ∀ k, k < 6 → Cond.classLink "NominatorLaw" (lci k) (nex k) ∈ gw := by
  intro k hk
  match k, hk with
  | 0, _ => exact q386
  | 1, _ => exact q387
  | 2, _ => exact q584
  | 3, _ => exact q633
  | 4, _ => exact q836
  | 5, _ => exact q1044
set_option maxRecDepth 20000 in
theorem lca_w : ∀ k, k < 6 → Cond.castable (nex k) (nex k) ∈ nbw := by
  intro k hk
  match k, hk with
  | 0, _ => exact List.mem_filter.mpr ⟨List.mem_of_getElem? (i := 394) (by rfl), by rfl⟩
  | 1, _ => exact List.mem_filter.mpr ⟨List.mem_of_getElem? (i := 466) (by rfl), by rfl⟩
  | 2, _ => exact List.mem_filter.mpr ⟨List.mem_of_getElem? (i := 618) (by rfl), by rfl⟩
  | 3, _ => exact List.mem_filter.mpr ⟨List.mem_of_getElem? (i := 645) (by rfl), by rfl⟩
  | 4, _ => exact List.mem_filter.mpr ⟨List.mem_of_getElem? (i := 847) (by rfl), by rfl⟩
  | 5, _ => exact List.mem_filter.mpr ⟨List.mem_of_getElem? (i := 1056) (by rfl), by rfl⟩
theorem lnc : ∀ k, k < 6 → ∀ j, j < 6 → k ≠ j → (nex k, nex j) ∈ nnc
  | 0, _, 0, _, h => absurd rfl h
  | 0, _, 1, _, _ => List.mem_of_getElem? (i := 0) rfl
  | 0, _, 2, _, _ => List.mem_of_getElem? (i := 1) rfl
  | 0, _, 3, _, _ => List.mem_of_getElem? (i := 2) rfl
  | 0, _, 4, _, _ => List.mem_of_getElem? (i := 3) rfl
  | 0, _, 5, _, _ => List.mem_of_getElem? (i := 4) rfl
  | 1, _, 0, _, _ => List.mem_of_getElem? (i := 5) rfl
  | 1, _, 1, _, h => absurd rfl h
  | 1, _, 2, _, _ => List.mem_of_getElem? (i := 6) rfl
  | 1, _, 3, _, _ => List.mem_of_getElem? (i := 7) rfl
  | 1, _, 4, _, _ => List.mem_of_getElem? (i := 8) rfl
  | 1, _, 5, _, _ => List.mem_of_getElem? (i := 9) rfl
  | 2, _, 0, _, _ => List.mem_of_getElem? (i := 10) rfl
  | 2, _, 1, _, _ => List.mem_of_getElem? (i := 11) rfl
  | 2, _, 2, _, h => absurd rfl h
  | 2, _, 3, _, _ => List.mem_of_getElem? (i := 12) rfl
  | 2, _, 4, _, _ => List.mem_of_getElem? (i := 13) rfl
  | 2, _, 5, _, _ => List.mem_of_getElem? (i := 14) rfl
  | 3, _, 0, _, _ => List.mem_of_getElem? (i := 15) rfl
  | 3, _, 1, _, _ => List.mem_of_getElem? (i := 16) rfl
  | 3, _, 2, _, _ => List.mem_of_getElem? (i := 17) rfl
  | 3, _, 3, _, h => absurd rfl h
  | 3, _, 4, _, _ => List.mem_of_getElem? (i := 18) rfl
  | 3, _, 5, _, _ => List.mem_of_getElem? (i := 19) rfl
  | 4, _, 0, _, _ => List.mem_of_getElem? (i := 20) rfl
  | 4, _, 1, _, _ => List.mem_of_getElem? (i := 21) rfl
  | 4, _, 2, _, _ => List.mem_of_getElem? (i := 22) rfl
  | 4, _, 3, _, _ => List.mem_of_getElem? (i := 23) rfl
  | 4, _, 4, _, h => absurd rfl h
  | 4, _, 5, _, _ => List.mem_of_getElem? (i := 24) rfl
  | 5, _, 0, _, _ => List.mem_of_getElem? (i := 25) rfl
  | 5, _, 1, _, _ => List.mem_of_getElem? (i := 26) rfl
  | 5, _, 2, _, _ => List.mem_of_getElem? (i := 27) rfl
  | 5, _, 3, _, _ => List.mem_of_getElem? (i := 28) rfl
  | 5, _, 4, _, _ => List.mem_of_getElem? (i := 29) rfl
  | 5, _, 5, _, h => absurd rfl h
  | k + 6, h, _, _, _ => absurd h (by omega)
  | _, _, j + 6, h, _ => absurd h (by omega)
/-- a throw of kind k is caught by the handler of kind k; those before are of other kinds -/
theorem l_catch {k sp ep hp : Nat} {pre suf : List (Nat × Nat × Nat × Nat)} {ce : Cell} {q : Addr} (hc : lC p s m args meth c cc nL hh D dA ad on cL cD aL aD) (hk : k < 6) (hsplit : hh = pre ++ (sp, ep, hp, lci k) :: suf) (hpre : ∀ z ∈ pre, ∃ j, j < 6 ∧ k ≠ j ∧ z.2.2.2 = lci j) (hcov : sp ≤ pc ∧ pc < ep) (hcell : H[q]? = some ce) (hv : ce.vm = .none) (hcl : s.vm.findClass (nex k) = some ce.cls)
    (kk : W p l e R s m args below meth c H locs cells slots Q (F0 m hp ls [.ref q])) : vx_W p l e R s m args below meth c H locs cells slots Q (F0 m pc ls rest) q := by
  have htb := hc.2.2.2.2.2.2.2.2.2.1
  have hT := hc.2.2.2.2.2.1
  refine vx_catch (E := nex k) (name := nex k) hc.2.2.2.1 (tableOf pre) ⟨sp, ep, hp, lci k⟩ (tableOf suf) (by rw [htb, hsplit]; simp [tableOf]) (fun z hz => ?_) (by simp [covers, hcov]) ?_ (hc.2.2.2.2.1 _ (lci_w k hk)) (nbw_use hT.2.1 (lca_w k hk)) hcell hv hcl kk
  · obtain ⟨w, hw, rfl⟩ := List.mem_map.mp hz
    obtain ⟨j, hj, hne, ej⟩ := hpre w hw
    refine Or.inr ⟨?_, nex j, ?_, hT.2.2.2 _ (lnc k hk j hj hne)⟩
    · show w.2.2.2 ≠ 0
      rw [ej]
      match j, hj with
      | 0, _ => decide
      | 1, _ => decide
      | 2, _ => decide
      | 3, _ => decide
      | 4, _ => decide
      | 5, _ => decide
    · show (Cond.classLink "NominatorLaw" w.2.2.2 (nex j)).before args s = true
      rw [ej]; exact hc.2.2.2.2.1 _ (lci_w j hj)
  · show lci k ≠ 0
    match k, hk with
    | 0, _ => decide
    | 1, _ => decide
    | 2, _ => decide
    | 3, _ => decide
    | 4, _ => decide
    | 5, _ => decide
theorem l_recv (hc : lC p s m args meth c cc nL hh D dA ad on cL cD aL aD) (hP : npic D dA ad on X H) (hon : on 2) : ∃ cell : Cell, H[ad 2 20 0]? = some cell ∧ cell.vm.isStatics = false ∧ s.vm.findClass "Nominator" = some cell.cls :=
  va_recv hc.2.2.2.2.2.1.1 (npic_one (npic_at (npic_eta hP) (nv_n hon (by decide) Nat.zero_lt_one) rfl)) (q := (RX9, TX9, 3)) rfl (q0 := 0) rfl
theorem nG_inl {α : Type} {b : Bool} {k k' : Nat} {r : Nat ⊕ α} (h : nG b k r = .inl k') : k' = k ∨ r = .inl k' := by
  unfold nG at h
  cases b with
  | true => exact Or.inr h
  | false => cases h; exact Or.inl rfl
end LR
