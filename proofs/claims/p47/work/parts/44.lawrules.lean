/-! The law's own methods: what they stand in, what they call, what catches throws. -/
def lcode (k : Nat) : Int32 := match k with
  | 0 => -102
  | 1 => -103
  | 2 => -101
  | 3 => -104
  | _ => -105
/-- the answer of a call, and the world behind it: a throw's number, nothing changed; or the value -/
def lres (X : NWd) (G : Nat ⊕ (Int32 × NWd)) : Int32 × NWd := match G with
  | .inl k => (lcode k, X)
  | .inr z => z
abbrev lrm (mc : Nat) : Room := { frames := 10, cells := mc, slots := 6 * mc, locals := 400 }
def lM (l : Launch) (D : va_G) (dA : Nat → ClassId) (ad : Nat → Nat → Nat → Nat) (on : Nat → Prop) (y : MethodName) (cc : ByteArray) (maxL : Nat) (hh : List (Nat × Nat × Nat × Nat)) (av : List Value) (X : NWd) (mc : Nat) (P : Int32 → NWd → Prop) : Prop :=
  Met l y (Cond.codeWith y cc maxL (some .int) hh :: gw) (lrm mc) (va_Pc av (npre D dA ad on X)) (va_Qi P (fun X' t => npic D dA ad on X' t.heap) (nA ad on)) mc (6 * mc) (nA ad on)
def lC (p : Program) (s : State) (m : MethodId) (args : Array Value) (meth : Method) (c : Code) (cc : ByteArray) (nL : Nat) (hh : List (Nat × Nat × Nat × Nat)) (D : va_G) (dA : Nat → ClassId) (ad : Nat → Nat → Nat → Nat) (on : Nat → Prop) : Prop :=
  nC p s m args meth c cc nL "NominatorLaw" D dA ad on ∧ c.exceptionTable.toList = tableOf hh
/-- which cells the law's methods may change: the office's, and those that they make -/
def lA (s : State) (ad : Nat → Nat → Nat → Nat) (on : Nat → Prop) (A : Nat → Prop) : Prop := (∀ q, nA ad on q → A q) ∧ ∀ q, A q → nA ad on q ∨ s.heap.size ≤ q
theorem l_ofWH {l : Launch} {y : MethodName} {ws ws' : List Cond} {rm : Room} {Pc : Array Value → State → Prop} {Qc : Array Value → State → Outcome → State → Prop} {mc ms : Nat} {free : Addr → Prop} {cc : ByteArray} {maxL : Nat} {ret : Option FieldType} {hh : List (Nat × Nat × Nat × Nat)}
    (hy : plainName y.cls = true) (hw : ws = Cond.codeWith y cc maxL ret hh :: ws')
    (body : ∀ p e s m args below meth c s₁, BodyLoose p l y (headSpec ws rm) cc maxL ret e s m args below meth c s₁ → c.maxLocals = maxL → Pc args s →
      W p l e (headSpec ws rm).room s m args below meth c s.heap [] 0 0 (MQ below Qc args s mc ms free) (entryFrame m args maxL)) : Met l y ws rm Pc Qc mc ms free := by
  refine MetFree.of_bodyS (code := cc) (maxLocals := maxL) (ret := ret) hy ?_ ?_
  · intro args s m h hn
    obtain ⟨m9, meth, c, hn9, h1, h2, h3, h4, -, h5, h6, -⟩ := Cond.codeWith_spec (atoms_spec (ws := ws) h _ (by rw [hw]; exact List.mem_cons_self))
    cases hn.symm.trans hn9
    exact ⟨meth, c, h1, h2, h3, h4, h5, h6⟩
  · intro p e s m args below meth c s₁ B hml hP _
    have hh0 : s₁.heap = s.heap := by rw [B.state]; rfl
    obtain ⟨t, a1, o, b1, b2, b3⟩ := body p e s m args below meth c s₁ B hml hP s₁ hh0 (Stand.of_body B)
    exact ⟨t, o, a1, b1, b2, ⟨b3.1, b3.2⟩⟩
section LR
variable {p : Program} {l : Launch} {e : Env} {R : Room} {s : State} {m : MethodId} {args : Array Value} {below : List Frame} {meth : Method} {c : Code} {H : Heap} {locs : List Loc} {cells slots : Nat} {Q : State → Prop}
variable {cc : ByteArray} {nL pc : Nat} {hh : List (Nat × Nat × Nat × Nat)} {ls : Array Slot} {rest : List Value} {D : va_G} {dA : Nat → ClassId} {ad : Nat → Nat → Nat → Nat} {on : Nat → Prop} {X : NWd} {A : Nat → Prop}
theorem lM_of {y : MethodName} {cc : ByteArray} {maxL mc : Nat} {av : List Value} {P : Int32 → NWd → Prop} (hI : ninj ad on) (hcl : y.cls = "NominatorLaw") (hy : plainName y.cls = true) (hlen : (lg_sl av).length ≤ maxL)
    (body : ∀ (p : Program) (e : Env) (s : State) (m : MethodId) (args : Array Value) (below : List Frame) (meth : Method) (c : Code) (ls : Array Slot), lC p s m args meth c cc maxL hh D dA ad on → meth.sig.returnType = some .int → npic D dA ad on X s.heap → lv_has ls maxL (lv_args 0 av) → va_S (nA ad on) s.heap s.heap [] →
      W p l e (lrm mc) s m args below meth c s.heap [] 0 0 (MQ below (va_Qi P (fun X' t => npic D dA ad on X' t.heap) (nA ad on)) args s mc (6 * mc) (nA ad on)) (F0 m 0 ls [])) : lM l D dA ad on y cc maxL hh av X mc P := by
  refine l_ofWH (cc := cc) (maxL := maxL) (ret := some .int) (hh := hh) hy rfl ?_
  intro p e s m args below meth c s₁ B hml hv
  obtain ⟨rfl, hT, hP, hZ⟩ := hv
  have hts := atoms_spec (ws := Cond.codeWith y cc maxL (some .int) hh :: gw) B.pre
  have hown : s.vm.findClass "NominatorLaw" = some m.cls := by rw [← hcl]; exact findClass_of_methodNamed B.named
  have htb := vx_table (x := y) B (hts _ List.mem_cons_self)
  have hl := lv_entry av (n := maxL) hlen
  rw [lg_entry_eq]
  generalize (lg_sl av ++ List.replicate (maxL - (lg_sl av).length) Slot.unset).toArray = ls at hl ⊢
  exact body p e s m av.toArray below meth c ls ⟨⟨B.exec, B.bytes, hml, hown, fun w h => hts w (List.mem_cons_of_mem _ h), hT, hZ, hI, B.notSynchronized⟩, htb⟩ B.returns hP hl va_S.rf
theorem l_end {P : Int32 → NWd → Prop} {v : Int32} {mc : Nat} (hc : lC p s m args meth c cc nL hh D dA ad on) (hP : npic D dA ad on X H) (hS : va_S (nA ad on) s.heap H locs) (hr : meth.sig.returnType = some .int) (hdg : decode cc pc = .ok (.ireturn, 1)) (h1 : cells ≤ mc) (h2 : slots ≤ 6 * mc) (hp : P v X) : W p l e R s m args below meth c H locs cells slots (MQ below (va_Qi P (fun X' t => npic D dA ad on X' t.heap) (nA ad on)) args s mc (6 * mc) (nA ad on)) (F0 m pc ls [.int v]) :=
  W.widen h1 h2 (W.iret hc.1.1 hc.1.2.1 hr (fun t ht hW => ⟨⟨v, X, rfl, hp, (show npic D dA ad on X t.heap by rw [ht]; exact hP)⟩, hS.F ht⟩) hS.2.2 hdg hc.1.2.2.2.2.2.2.2.2)
variable {y : MethodName} {bytes : ByteArray} {maxL idx n b : Nat} {ret : Option FieldType} {As st : List Value} {rm : Room}
/-- a method of the office, which may throw -/
theorem l_Xi {P : Int32 → NWd → Prop} {E : Nat → Prop} (hM : nXi l D dA ad on y bytes maxL ret (nrx 9 6) (.ref b :: As) X 6 P E) (hc : lC p s m args meth c cc nL hh D dA ad on) (hP : npic D dA ad on X H) (hS : va_S (nA ad on) s.heap H locs) (hsz : ls.size = nL) (hg : GoodIn gw (wsV "NominatorLaw" idx y.cls y (nws y bytes maxL ret))) (hrv : ∃ cell : Cell, H[b]? = some cell ∧ cell.vm.isStatics = false ∧ s.vm.findClass y.cls = some cell.cls) (hok : nOk y n) (hn : As.length = n) (hR : 10 ≤ R.frames ∧ 8 + (maxL + 11) + 360 ≤ R.locals) (hf : cells + 6 ≤ R.cells ∧ slots + 36 ≤ R.slots) (hdg : decode cc pc = .ok (.invokevirtual idx, 3)) (hst : st = As.reverse ++ .ref b :: rest) (hW : (rest.map fun v => v.category).sum ≤ 8)
    (kx : ∀ (k : Nat) (ce : Cell) (q9 : Addr) (H1 : Heap) (locs1 : List Loc), E k → npic D dA ad on X H1 → va_S (nA ad on) s.heap H1 locs1 → H1[q9]? = some ce → ce.vm = .none → s.vm.findClass (nex k) = some ce.cls → vx_W p l e R s m args below meth c H1 locs1 (cells + 6) (slots + 36) Q (F0 m pc ls rest) q9)
    (kk : ∀ (r : Int32) (X' : NWd) (H1 : Heap) (locs1 : List Loc), P r X' → npic D dA ad on X' H1 → va_S (nA ad on) s.heap H1 locs1 → W p l e R s m args below meth c H1 locs1 (cells + 6) (slots + 36) Q (F0 m (pc + 3) ls (.int r :: rest))) : W p l e R s m args below meth c H locs cells slots Q (F0 m pc ls st) := by
  refine vx_calli (vx_runV (As := As) (rest := rest) (nfix hc.1) hM (cwV n hc.1.2.2.2.2.1 hg rfl rfl rfl ⟨rfl, hok⟩ hR) ⟨nblind, hrv, fun U hU hW => ⟨rfl, npre_of hc.1 hP hS hU hW⟩⟩ rfl hn hsz hst (by simpa [JFrame.monitorRoom] using hW) hdg hf) hS (fun q _ h => h) (fun q h => h) (fun q _ h => h) ?_ ?_
  · intro nm ce q9 k t H1 locs1 ht _ hp hb _ hk hS1 hcell hv hcl
    rw [ht] at hb
    obtain ⟨rfl, hb⟩ := hb
    exact kx k ce q9 H1 locs1 hp hb hS1 hcell hv hcl
  · intro r X' t H1 locs1 ht _ hp hb _ hk hS1
    rw [ht] at hb
    exact kk r X' H1 locs1 hp hb hS1
theorem l_npre (hc : nC p s m args meth c cc nL "NominatorLaw" D dA ad on) (hA : lA s ad on A) (hP : npic D dA ad on X H) (hS : va_S A s.heap H locs) {U : State} (hU : U.heap = H) (hW : s.WarmedH U.vm) : npre D dA ad on X U := by
  obtain ⟨-, -, -, -, -, hT, hZ, -, -⟩ := hc
  have hq : ∀ a : Nat, a < s.heap.size → ¬ nA ad on a → H[a]? = s.heap[a]? := fun a h1 h2 => hS.2.1 a h1 (fun z => (hA.2 a z).elim h2 (fun z2 => Nat.not_lt.mpr z2 h1))
  exact ⟨ntab_warm hW hT, by rw [hU]; exact hP, by rw [hU]; exact vx_Zq.moved hW.alike (hZ.1.kept hq), by rw [hU]; exact vx_Zq.moved hW.alike (hZ.2.kept hq)⟩
/-- a method of the office that never throws -/
theorem b_Xi {P : Int32 → NWd → Prop} {E : Nat → Prop} (hM : nXi l D dA ad on y bytes maxL ret (nrx 9 6) (.ref b :: As) X 6 P E) (hE : ∀ k, ¬ E k) (hc : nC p s m args meth c cc nL "NominatorLaw" D dA ad on) (hA : lA s ad on A) (hP : npic D dA ad on X H) (hS : va_S A s.heap H locs) (hsz : ls.size = nL) (hg : GoodIn gw (wsV "NominatorLaw" idx y.cls y (nws y bytes maxL ret))) (hrv : ∃ cell : Cell, H[b]? = some cell ∧ cell.vm.isStatics = false ∧ s.vm.findClass y.cls = some cell.cls) (hok : nOk y n) (hn : As.length = n) (hR : 10 ≤ R.frames ∧ 8 + (maxL + 11) + 360 ≤ R.locals) (hf : cells + 6 ≤ R.cells ∧ slots + 36 ≤ R.slots) (hdg : decode cc pc = .ok (.invokevirtual idx, 3)) (hst : st = As.reverse ++ .ref b :: rest) (hW : (rest.map fun v => v.category).sum ≤ 8)
    (kk : ∀ (r : Int32) (X' : NWd) (H1 : Heap) (locs1 : List Loc), P r X' → npic D dA ad on X' H1 → (∀ q : Nat, q < H.size → ¬ nA ad on q → H1[q]? = H[q]?) → va_S A s.heap H1 locs1 → W p l e R s m args below meth c H1 locs1 (cells + 6) (slots + 36) Q (F0 m (pc + 3) ls (.int r :: rest))) : W p l e R s m args below meth c H locs cells slots Q (F0 m pc ls st) := by
  refine vx_calli (vx_runV (As := As) (rest := rest) (nfix hc) hM (cwV n hc.2.2.2.2.1 hg rfl rfl rfl ⟨rfl, hok⟩ hR) ⟨nblind, hrv, fun U hU hW => ⟨rfl, l_npre hc hA hP hS hU hW⟩⟩ rfl hn hsz hst (by simpa [JFrame.monitorRoom] using hW) hdg hf) hS (fun q _ h => hA.1 q h) (fun q h => hA.1 q h) (fun q _ h => hA.1 q h) ?_ ?_
  · intro nm ce q9 k t H1 locs1 _ _ hp _ _ _ _ _ _ _
    exact absurd hp (hE k)
  · intro r X' t H1 locs1 ht _ hp hb _ hk hS1
    rw [ht] at hb
    exact kk r X' H1 locs1 hp hb hk hS1
/-- one of the law's own methods, which catches what is thrown -/
theorem b_L {P : Int32 → NWd → Prop} {mc : Nat} (hM : lM l D dA ad on y bytes maxL hh As X mc P) (hc : nC p s m args meth c cc nL "NominatorLaw" D dA ad on) (hA : lA s ad on A) (hP : npic D dA ad on X H) (hS : va_S A s.heap H locs) (hsz : ls.size = nL) (hg : GoodIn gw (va_wsS "NominatorLaw" idx y (Cond.codeWith y bytes maxL (some .int) hh :: gw))) (hok : nOk y n) (hn : As.length = n) (hR : 11 ≤ R.frames ∧ 8 + (maxL + 11) + 400 ≤ R.locals) (hf : cells + mc ≤ R.cells ∧ slots + 6 * mc ≤ R.slots) (hdg : decode cc pc = .ok (.invokestatic idx, 3)) (hst : st = As.reverse ++ rest) (hW : (rest.map fun v => v.category).sum ≤ 8)
    (kk : ∀ (r : Int32) (X' : NWd) (H1 : Heap) (locs1 : List Loc), P r X' → npic D dA ad on X' H1 → (∀ q : Nat, q < H.size → ¬ nA ad on q → H1[q]? = H[q]?) → va_S A s.heap H1 locs1 → W p l e R s m args below meth c H1 locs1 (cells + mc) (slots + 6 * mc) Q (F0 m (pc + 3) ls (.int r :: rest))) : W p l e R s m args below meth c H locs cells slots Q (F0 m pc ls st) := by
  refine va_calli (vx_runSW (As := As) (rest := rest) (nfix hc) hM (vx_cwSW n hc.2.2.2.2.1 hg rfl rfl rfl hok hR) ⟨nblind, fun U hU hW => ⟨rfl, l_npre hc hA hP hS hU hW⟩⟩ rfl hn hsz hst (by simpa [JFrame.monitorRoom] using hW) hdg hf) hS (fun q _ h => hA.1 q h) (fun q h => hA.1 q h) ?_
  intro r X' t H1 locs1 ht _ hp hb _ hk hS1
  rw [ht] at hb
  exact kk r X' H1 locs1 hp hb hk hS1
/-- one of the law's own methods that makes nothing -/
theorem b_S {P : Int32 → NWd → Prop} (hM : nMi l D dA ad on y bytes maxL ret rm As X P) (hc : nC p s m args meth c cc nL "NominatorLaw" D dA ad on) (hA : lA s ad on A) (hP : npic D dA ad on X H) (hS : va_S A s.heap H locs) (hsz : ls.size = nL) (hg : GoodIn gw (va_wsS "NominatorLaw" idx y (nws y bytes maxL ret))) (hrm : rm.cells = 0 ∧ rm.slots = 0) (hok : nOk y n) (hn : As.length = n) (hR : rm.frames + 1 ≤ R.frames ∧ 8 + (maxL + 11) + rm.locals ≤ R.locals) (hf : cells ≤ R.cells ∧ slots ≤ R.slots) (hdg : decode cc pc = .ok (.invokestatic idx, 3)) (hst : st = As.reverse ++ rest) (hW : (rest.map fun v => v.category).sum ≤ 8)
    (kk : ∀ (r : Int32) (X' : NWd) (H1 : Heap) (locs1 : List Loc), P r X' → npic D dA ad on X' H1 → (∀ q : Nat, q < H.size → ¬ nA ad on q → H1[q]? = H[q]?) → va_S A s.heap H1 locs1 → W p l e R s m args below meth c H1 locs1 cells slots Q (F0 m (pc + 3) ls (.int r :: rest))) : W p l e R s m args below meth c H locs cells slots Q (F0 m pc ls st) := by
  refine va_calli (va_runS (As := As) (rest := rest) (nfix hc) hM (va_cwS n hc.2.2.2.2.1 hg rfl hrm.1 hrm.2 hok hR) ⟨nblind, fun U hU hW => ⟨rfl, l_npre hc hA hP hS hU hW⟩⟩ rfl hn hsz hst (by simpa [JFrame.monitorRoom] using hW) hdg hf) hS (fun q _ h => hA.1 q h) (fun q h => hA.1 q h) ?_
  intro r X' t H1 locs1 ht _ hp hb _ hk hS1
  rw [ht] at hb
  exact kk r X' H1 locs1 hp hb hk hS1
theorem b_rec (hc : nC p s m args meth c cc nL "NominatorLaw" D dA ad on) (hP : npic D dA ad on X H) (hon : on 2) : ∃ cell : Cell, H[ad 2 20 0]? = some cell ∧ cell.vm.isStatics = false ∧ s.vm.findClass "Nominator" = some cell.cls :=
  va_recv hc.2.2.2.2.2.1.1 (npic_one (npic_at (npic_eta hP) (nv_n hon (by decide) Nat.zero_lt_one) rfl)) (q := (RX9, TX9, 3)) rfl (q0 := 0) rfl
/-- an array of ints beside the office -/
def lAr (D : va_G) (dA : Nat → ClassId) (a n : Nat) (f : Nat → Int32) (H : Heap) : Prop := va_at D ncl (a, .inl (dA 0, n, .inl f)) H
theorem lAr.kept {a n : Nat} {f : Nat → Int32} {H1 : Heap} (h : lAr D dA a n f H) (hn : ¬ nA ad on a) (hk : ∀ q : Nat, q < H.size → ¬ nA ad on q → H1[q]? = H[q]?) : lAr D dA a n f H1 := va_at.kept h (hk a (va_at.lt h) hn)
theorem b_ald {own : String} {a n9 : Nat} {f : Nat → Int32} (hc : nC p s m args meth c cc nL own D dA ad on) (h : lAr D dA a n9 f H) {i : Int32} (hin : vp_in i n9) (hdg : decode cc pc = .ok (.iaload, 1))
    (kk : W p l e R s m args below meth c H locs cells slots Q (F0 m (pc + 1) ls (.int (f (nix i)) :: rest))) : W p l e R s m args below meth c H locs cells slots Q (F0 m pc ls (.int i :: .ref a :: rest)) :=
  va_iald hc.1 hc.2.1 hc.2.2.2.2.2.1.1 (npic_one h) 0 0 rfl rfl hin hdg kk
/-- one of its places is written -/
theorem b_ast {own : String} {a n9 : Nat} {f : Nat → Int32} (hc : nC p s m args meth c cc nL own D dA ad on) (hS : va_S A s.heap H locs) (h : lAr D dA a n9 f H) (ha : A a) {i x : Int32} (hin : vp_in i n9) (hdg : decode cc pc = .ok (.iastore, 1))
    (kk : ∀ (H1 : Heap) (locs1 : List Loc), lAr D dA a n9 (upd f (nix i) x) H1 → (∀ q : Nat, q ≠ a → H1[q]? = H[q]?) → H1.size = H.size → va_S A s.heap H1 locs1 → W p l e R s m args below meth c H1 locs1 cells slots Q (F0 m (pc + 1) ls rest)) : W p l e R s m args below meth c H locs cells slots Q (F0 m pc ls (.int x :: .int i :: .ref a :: rest)) := by
  refine W.iast hc.1 hc.2.1 h ((hc.2.2.2.2.2.1.1.2 0 _ rfl).1 n9 (fun j => .int (f j))) (fun q => by cases q) (by show ¬ (i < 0 ∨ (arrV _ _ _).slots.size ≤ _); rw [arrV_size]; exact hin) rfl rfl hdg fun H1 e1 z oq => ?_
  refine kk H1 _ ?_ oq z (hS.put z oq ha)
  show H1[a]? = some (vp_cell _ _)
  rw [e1]
  rw [vp_cell_i, vp_cell_i, arrV_store]
  congr 2
  funext q
  by_cases hq : q = i.toNatClampNeg
  · subst hq
    simp [updV, upd]
  · simp [updV, upd, hq]
theorem npic_off {a : Nat} {H1 : Heap} (hP : npic D dA ad on X H) (hn : ¬ nA ad on a) (oq : ∀ q : Nat, q ≠ a → H1[q]? = H[q]?) : npic D dA ad on X H1 := npic_kept hP (fun q _ hq => oq q (fun z => hn (z ▸ hq)))
theorem lAr.off {a b n : Nat} {f : Nat → Int32} {H1 : Heap} (h : lAr D dA a n f H) (hn : a ≠ b) (oq : ∀ q : Nat, q ≠ b → H1[q]? = H[q]?) : lAr D dA a n f H1 := va_at.kept h (oq a hn)
/-- an array of ints is made -/
theorem b_newa {z n9 : Nat} {v : Int32} (hc : nC p s m args meth c cc nL "NominatorLaw" D dA ad on) (hS : va_S A s.heap H locs) (hz : H.size = z) (harr : Cond.arrayClass (newarray.typeOf .int) ∈ gw) (hv : ¬ v < 0) (hv9 : v.toNatClampNeg = n9) (hbytes : n9 * componentBytes (newarray.typeOf .int) ≤ 536870912) (hcells : cells + 1 ≤ R.cells) (hslots : slots + n9 ≤ R.slots) (hdg : decode cc pc = .ok (.newarray .int, 2))
    (kk : ∀ (H1 : Heap), lAr D dA z n9 (fun _ => 0) H1 → H1.size = z + 1 → (∀ q, q < z → H1[q]? = H[q]?) → va_S A s.heap H1 locs → W p l e R s m args below meth c H1 locs (cells + 1) (slots + n9) Q (F0 m (pc + 2) ls (.ref z :: rest))) : W p l e R s m args below meth c H locs cells slots Q (F0 m pc ls (.int v :: rest)) := by
  refine va_newaK (N := n9) hc.1 hc.2.1 (hc.2.2.2.2.1 _ harr) rfl hdg rfl hv hv9 hbytes hcells hslots hz fun H1 cA e1 z1 o1 hAr hNm => ?_
  have e0 : cA = dA 0 := Option.some.inj (hNm.symm.trans ((hc.2.2.2.2.2.1.1.2 0 _ rfl).2))
  subst e0
  exact kk H1 e1 z1 o1 ⟨Nat.le_trans hS.1 (by omega), fun x h1 h2 => (o1 x (by have := hS.1; omega)).trans (hS.2.1 x h1 h2), hS.2.2⟩
end LR
