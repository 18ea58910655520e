/-! The constructors: the cells that they make lie at known addresses behind the object. -/
def nrow (D : va_G) (b n : Nat) (e : va_E) (H : Heap) : Prop := ∀ k, k < n → va_at D ncl (b + k, e) H
theorem nrow.kept {D : va_G} {b n : Nat} {e : va_E} {H H1 : Heap} (h : nrow D b n e H) (hq : ∀ q, b ≤ q → q < b + n → H1[q]? = H[q]?) : nrow D b n e H1 := fun k hk => (h k hk).kept (hq _ (Nat.le_add_right _ _) (by show b + k < b + n; omega))
theorem nrow_0 {D : va_G} {b : Nat} {e : va_E} {H : Heap} : nrow D b 0 e H := fun k hk => absurd hk (Nat.not_lt_zero k)
theorem nrow_s {D : va_G} {b n : Nat} {e : va_E} {H : Heap} (h : nrow D b n e H) (h1 : va_at D ncl (b + n, e) H) : nrow D b (n + 1) e H := fun k hk => by
  by_cases hkn : k = n
  · subst hkn; exact h1
  · exact h k (by omega)
abbrev nAO : List String := ["Nominator$Area", "Nominator$Voter", "Nominator$Paper", "Nominator$Signature"]
def iC (p : Program) (s : State) (m : MethodId) (args : Array Value) (meth : Method) (c : Code) (cc : ByteArray) (nL : Nat) (own : String) (D : va_G) (dA : Nat → ClassId) (N0 : Nat) : Prop :=
  p.tables.exec = Jvm.exec ∧ c.code = cc ∧ c.maxLocals = nL ∧ s.vm.findClass own = some m.cls ∧ (∀ w ∈ gw, w.before args s = true) ∧ ntab D dA s ∧ meth.name = "<init>" ∧ meth.locks = false ∧ nst (fun q => N0 ≤ q) s s.heap ∧ ∀ C ∈ nAO, va_AO C s
/-- a constructor's contract: from the blank object at the heap's end to n cells -/
def nIv (l : Launch) (D : va_G) (dA : Nat → ClassId) (N0 : Nat) (y : MethodName) (cc : ByteArray) (maxL : Nat) (rm : Room) (h0 : Nat) (e0 : va_E) (Z : Heap → Prop) (n mc ms : Nat) : Prop :=
  Met l y (nws y cc maxL none) rm (va_Pc [.ref h0] (fun U => ntab D dA U ∧ va_at D ncl (h0, e0) U.heap ∧ U.heap.size = h0 + 1 ∧ nst (fun q => N0 ≤ q) U U.heap ∧ N0 ≤ h0 ∧ ∀ C ∈ nAO, va_AO C U)) (va_Qv (fun (_ : Unit) => True) (fun _ t => Z t.heap ∧ t.heap.size = h0 + n) (fun q => h0 ≤ q)) mc ms (fun q => h0 ≤ q)
section IR
variable {p : Program} {l : Launch} {e : Env} {R : Room} {s : State} {m : MethodId} {args : Array Value} {below : List Frame} {meth : Method} {c : Code} {H : Heap} {locs : List Loc} {cells slots : Nat} {Q : State → Prop}
variable {cc : ByteArray} {nL pc : Nat} {own : String} {ls : Array Slot} {rest : List Value} {D : va_G} {dA : Nat → ClassId} {N0 : Nat} {A : Nat → Prop}
theorem iI_of {y : MethodName} {cc : ByteArray} {maxL : Nat} {rm : Room} {h0 : Nat} {e0 : va_E} {Z : Heap → Prop} {n mc ms : Nat} (hy : plainName y.cls = true) (hini : y.name = "<init>") (hlen : (lg_sl [.ref h0]).length ≤ maxL)
    (body : ∀ (p : Program) (e : Env) (s : State) (m : MethodId) (args : Array Value) (below : List Frame) (meth : Method) (c : Code) (ls : Array Slot), iC p s m args meth c cc maxL y.cls D dA N0 → meth.sig.returnType = none → va_at D ncl (h0, e0) s.heap → s.heap.size = h0 + 1 → N0 ≤ h0 → lv_has ls maxL (lv_args 0 [.ref h0]) → va_S (fun q => h0 ≤ q) s.heap s.heap [] →
      W p l e rm s m args below meth c s.heap [] 0 0 (MQ below (va_Qv (fun (_ : Unit) => True) (fun _ t => Z t.heap ∧ t.heap.size = h0 + n) (fun q => h0 ≤ q)) args s mc ms (fun q => h0 ≤ q)) (F0 m 0 ls [])) : nIv l D dA N0 y cc maxL rm h0 e0 Z n mc ms := by
  refine Met.ofW (cc := cc) (maxL := maxL) (ret := none) hy rfl ?_
  intro p e s m args below meth c s₁ B hml hv
  obtain ⟨rfl, hT, hP, hz, hZ, hN, hAO⟩ := hv
  have hts := atoms_spec (ws := nws y cc maxL none) B.pre
  have hown : s.vm.findClass y.cls = some m.cls := findClass_of_methodNamed B.named
  have hnm := name_of_methodNamed B.named B.method
  have hl := lv_entry [.ref h0] (n := maxL) hlen
  rw [lg_entry_eq]
  generalize (lg_sl [.ref h0] ++ List.replicate (maxL - (lg_sl [.ref h0]).length) Slot.unset).toArray = ls at hl ⊢
  exact body p e s m _ below meth c ls ⟨B.exec, B.bytes, hml, hown, fun w h => hts w (List.mem_cons_of_mem _ h), hT, hnm.1.trans hini, B.notSynchronized, hZ, hAO⟩ B.returns hP hz hN hl va_S.rf
theorem i_end {h0 n mc ms : Nat} {Z : Heap → Prop} (hc : iC p s m args meth c cc nL own D dA N0) (hr : meth.sig.returnType = none) (hS : va_S (fun q => h0 ≤ q) s.heap H locs) (hZ : Z H) (hz : H.size = h0 + n) (h1 : cells ≤ mc) (h2 : slots ≤ ms) (hdg : decode cc pc = .ok (.return_, 1)) : W p l e R s m args below meth c H locs cells slots (MQ below (va_Qv (fun (_ : Unit) => True) (fun _ t => Z t.heap ∧ t.heap.size = h0 + n) (fun q => h0 ≤ q)) args s mc ms (fun q => h0 ≤ q)) (F0 m pc ls []) :=
  W.widen h1 h2 (W.vret hc.1 hc.2.1 hr (fun t ht hW => ⟨⟨(), rfl, trivial, by rw [ht]; exact hZ, by rw [ht]; exact hz⟩, hS.F ht⟩) hS.2.2 hdg hc.2.2.2.2.2.2.2.1)
theorem i_sup {idx : Nat} {h0 : Nat} (hc : iC p s m args meth c cc nL own D dA N0) (hl : ls.size = nL) (hlk : Cond.methodLink own idx objectInit ∈ gw) (hR : 1 ≤ R.frames ∧ 20 ≤ R.locals) (hW : (rest.map fun v => v.category).sum ≤ 8) (hdg : decode cc pc = .ok (.invokespecial idx, 3)) (kk : W p l e R s m args below meth c H locs cells slots Q (F0 m (pc + 3) ls rest)) : W p l e R s m args below meth c H locs cells slots Q (F0 m pc ls (.ref h0 :: rest)) :=
  W.objInit hc.1 hc.2.1 hc.2.2.2.1 (hc.2.2.2.2.1 _ hlk) (hc.2.2.2.2.1 _ q29) (hc.2.2.2.2.1 _ q30) rfl (hl.trans hc.2.2.1.symm) rfl hdg hR.1 (by show 2 * 0 + _ + 12 ≤ _; omega) kk
theorem i_new {C : String} {T : u_T} {N ci index : Nat} {fs : List Value} {z : Nat} (hc : iC p s m args meth c cc nL own D dA N0) (hS : va_S A s.heap H locs) (hz : H.size = z) (hcl : ncl[ci]? = some (C, T, N)) (hin : ∀ w ∈ u_ws C T N, w ∈ gw) (ty : Nat → FieldType) (hty : ∀ k, k < N → parseFieldDescriptor (T k).2.2.1 = some (ty k)) (hlk : Cond.classLink own index C ∈ gw) (hins : Cond.instantiable C N ∈ gw) (hini : Cond.initialized C ∈ gw) (hfs : ∀ j, j < N → defaultValue (ty j) = vp_V fs j) (hcells : cells + 1 ≤ R.cells) (hslots : slots + N ≤ R.slots) (hdg : decode cc pc = .ok (.new index, 3))
    (kk : ∀ (H1 : Heap), va_at D ncl (z, .inr (ci, fs)) H1 → H1.size = z + 1 → (∀ q, q < z → H1[q]? = H[q]?) → va_S A s.heap H1 locs → W p l e R s m args below meth c H1 locs (cells + 1) (slots + N) Q (F0 m (pc + 3) ls (.ref z :: rest))) : W p l e R s m args below meth c H locs cells slots Q (F0 m pc ls rest) := by
  obtain ⟨hx, hb, -, hown, hts, ⟨hK, -⟩, -⟩ := hc
  have hKn := hK.1 ci _ hcl
  refine W.newcK hx hb hown (hts _ hlk) (hts _ hins) (hts _ hini) rfl hdg hcells hslots hKn.2.1 hz fun H1 kC hkC e1 z1 o1 => ?_
  refine kk H1 ⟨_, hcl, (u_born ty hts hin hKn hkC e1 hty).to hfs⟩ z1 o1 ⟨Nat.le_trans hS.1 (by omega), fun x h1 h2 => (o1 x (by have := hS.1; omega)).trans (hS.2.1 x h1 h2), hS.2.2⟩
theorem i_newa {atype : ArrayType} {t0 : Nat} {ty : FieldType} {n : Int32} {N z : Nat} (hc : iC p s m args meth c cc nL own D dA N0) (hS : va_S A s.heap H locs) (hz : H.size = z) (harr : Cond.arrayClass (newarray.typeOf atype) ∈ gw) (hty : newarray.typeOf atype = ty) (ht : (ntys dA)[t0]? = some (dA t0, ty)) (hd : defaultValue ty = .int 0) (ho : ∀ C, ty ≠ .object C) (hn : ¬ n < 0) (hN : n.toNatClampNeg = N) (hbytes : N * componentBytes (newarray.typeOf atype) ≤ 536870912) (hcells : cells + 1 ≤ R.cells) (hslots : slots + N ≤ R.slots) (hdg : decode cc pc = .ok (.newarray atype, 2))
    (kk : ∀ (H1 : Heap), va_at D ncl (z, .inl (dA t0, N, .inl (fun _ => 0))) H1 → H1.size = z + 1 → (∀ q, q < z → H1[q]? = H[q]?) → va_S A s.heap H1 locs → W p l e R s m args below meth c H1 locs (cells + 1) (slots + N) Q (F0 m (pc + 2) ls (.ref z :: rest))) : W p l e R s m args below meth c H locs cells slots Q (F0 m pc ls (.int n :: rest)) := by
  obtain ⟨hx, hb, -, hown, hts, ⟨hK, -⟩, -⟩ := hc
  refine va_newaK hx hb (hts _ harr) rfl hdg rfl hn hN hbytes hcells hslots hz fun H1 cA e1 z1 o1 hAr hNm => ?_
  have hcA : cA = dA t0 := by
    have h := (hK.2 t0 _ ht).2
    rw [hty] at hNm
    cases ty with
    | object C => exact absurd rfl (ho C)
    | _ => exact Option.some.inj (hNm.symm.trans h)
  subst hcA
  refine kk H1 ?_ z1 o1 ⟨Nat.le_trans hS.1 (by omega), fun x h1 h2 => (o1 x (by have := hS.1; omega)).trans (hS.2.1 x h1 h2), hS.2.2⟩
  show H1[z]? = some (vp_cell _ _)
  rw [hty, hd] at e1
  rw [vp_cell_i]
  exact e1
theorem i_newq {C : String} {t0 index : Nat} {n : Int32} {N z : Nat} (hc : iC p s m args meth c cc nL own D dA N0) (hS : va_S A s.heap H locs) (hz : H.size = z) (hlk : Cond.classLink own index C ∈ gw) (hov : C ∈ nAO) (ht : (ntys dA)[t0]? = some (dA t0, .object C)) (hn : ¬ n < 0) (hN : n.toNatClampNeg = N) (hbytes : N * 4 ≤ 536870912) (hcells : cells + 1 ≤ R.cells) (hslots : slots + N ≤ R.slots) (hdg : decode cc pc = .ok (.anewarray index, 3))
    (kk : ∀ (H1 : Heap), va_at D ncl (z, .inl (dA t0, N, .inr (.inr (.inr (.inr (fun _ => none)))))) H1 → H1.size = z + 1 → (∀ q, q < z → H1[q]? = H[q]?) → va_S A s.heap H1 locs → W p l e R s m args below meth c H1 locs (cells + 1) (slots + N) Q (F0 m (pc + 3) ls (.ref z :: rest))) : W p l e R s m args below meth c H locs cells slots Q (F0 m pc ls (.int n :: rest)) := by
  obtain ⟨hx, hb, -, hown, hts, ⟨hK, -⟩, -, -, -, hAO⟩ := hc
  subst hN
  subst hz
  refine W.anew hx hb hown (hts _ hlk) (va_AO.use (hAO _ hov)) rfl hdg rfl hn hbytes hcells hslots fun cA kA comp f1 f2 f3 f4 => ?_
  have hcA : cA = dA t0 := by
    obtain ⟨_, _, -, -, -, h4⟩ := (hK.2 t0 _ ht).2
    exact Option.some.inj (f1.symm.trans h4)
  subst hcA
  have o1 : ∀ q : Nat, q < H.size → (H.push ({ cls := dA t0, slots := Array.replicate n.toNatClampNeg .null, vm := .none } : Cell))[q]? = H[q]? := fun q hq => by rw [Array.getElem?_push, if_neg (Nat.ne_of_lt hq)]
  have z1 : (H.push ({ cls := dA t0, slots := Array.replicate n.toNatClampNeg .null, vm := .none } : Cell)).size = H.size + 1 := by rw [Array.size_push]
  refine kk _ ?_ z1 o1 ⟨Nat.le_trans hS.1 (by rw [z1]; omega), fun x h1 h2 => (o1 x (by have := hS.1; omega)).trans (hS.2.1 x h1 h2), hS.2.2⟩
  show (H.push _)[H.size]? = some (vp_cell _ _)
  rw [Array.getElem?_push_size, vp_cell_q, ← arrV_new]
  rfl
/-- a field of a blank object is set -/
theorem i_fin {h ci : Nat} {fs : List Value} {C : String} {T : u_T} {N index : Nat} (hc : iC p s m args meth c cc nL own D dA N0) (hS : va_S A s.heap H locs) (hv : va_at D ncl (h, .inr (ci, fs)) H) (hA : A h) (hcl : ncl[ci]? = some (C, T, N)) (hin : ∀ w ∈ u_ws C T N, w ∈ gw) (ty0 : Nat → FieldType) (hty : ∀ k, k < N → parseFieldDescriptor (T k).2.2.1 = some (ty0 k)) (hnm : ∀ a, a < N → ∀ b, b < N → a ≠ b → (T a).2.1 ≠ (T b).2.1) (j : Nat) (hj : j < N) (hlink : Cond.fieldLink own index (T j).1 (T j).2.1 (T j).2.2.1 ∈ gw) (hfin : (T j).2.2.2 = true) (hdecl : (T j).1 = own) {ty : FieldType} {v : Value} (hd : parseFieldDescriptor (T j).2.2.1 = some ty) (hn : narrow ty v = v) (hfit : fits ty v = true) (hl : j < fs.length) (hdg : decode cc pc = .ok (.putfield index, 3))
    (kk : ∀ (H1 : Heap) (locs1 : List Loc), va_at D ncl (h, .inr (ci, fs.set j v)) H1 → H1.size = H.size → (∀ q, q ≠ h → H1[q]? = H[q]?) → va_S A s.heap H1 locs1 → W p l e R s m args below meth c H1 locs1 cells slots Q (F0 m (pc + 3) ls rest)) : W p l e R s m args below meth c H locs cells slots Q (F0 m pc ls (v :: .ref h :: rest)) := by
  obtain ⟨hx, hb, -, hown, hts, ⟨hK, -⟩, hmi, -, -, -⟩ := hc
  have hap := va_apart (own := own) hts hin ty0 hty hnm hK hcl
  obtain ⟨r, h1, cell, q1, q2, q3, q4⟩ := hv
  have hr : r = (C, T, N) := Option.some.inj (h1.symm.trans hcl)
  subst hr
  obtain ⟨hSl, hfc, kC, hkC, hkind⟩ := hK.1 ci _ hcl
  obtain ⟨cf, kf, fi, f, hi, hsl⟩ := hSl j hj
  have hlay := hts _ (hin _ (u_in_lay hj))
  unfold u_lay at hlay
  rw [if_pos hfin] at hlay
  have hst := (u_facts hfc hkC (u_lays hts hin hj) hi).1
  have hcf : m.cls = cf := by
    obtain ⟨_, _, c', _, _, _, -, -, hf', -, -, -, hown2, -⟩ := Cond.laysFinal_spec hlay
    have e1 : c' = cf := by have := hi.symm.trans hf'; simp at this; exact this.1.symm
    rw [hdecl] at hown2
    rw [← e1]; exact Option.some.inj (hown.symm.trans hown2)
  have h6 := u_fits hfc hkC hkind (Or.inr hlay) hi hd hn hfit
  refine W.putFinK hx hb hown (hts _ hlink) hi hst hcf hmi (by rw [q2]; exact h6) q1 q3 (by rw [hsl]; exact k2_hasslot (q4 j hj)) rfl rfl hdg fun H' e1 e2 e3 => ?_
  rw [hsl] at e1 ⊢
  exact kk H' _ ⟨_, hcl, t_OB.to (V := updV (vp_V fs) j v) ⟨_, e1, q2, q3, t_set q4 hap hj v⟩ (fun j9 _ => vp_updV_set hl v j9)⟩ e2 e3 (hS.put e2 e3 hA)
theorem i_put {h ci : Nat} {fs : List Value} {C : String} {T : u_T} {N index : Nat} (hc : iC p s m args meth c cc nL own D dA N0) (hS : va_S A s.heap H locs) (hv : va_at D ncl (h, .inr (ci, fs)) H) (hA : A h) (hcl : ncl[ci]? = some (C, T, N)) (hin : ∀ w ∈ u_ws C T N, w ∈ gw) (ty0 : Nat → FieldType) (hty : ∀ k, k < N → parseFieldDescriptor (T k).2.2.1 = some (ty0 k)) (hnm : ∀ a, a < N → ∀ b, b < N → a ≠ b → (T a).2.1 ≠ (T b).2.1) (j : Nat) (hj : j < N) (hlink : Cond.fieldLink own index (T j).1 (T j).2.1 (T j).2.2.1 ∈ gw) (hfin : (T j).2.2.2 = false) {ty : FieldType} {v : Value} (hd : parseFieldDescriptor (T j).2.2.1 = some ty) (hn : narrow ty v = v) (hfit : fits ty v = true) (hl : j < fs.length) (hdg : decode cc pc = .ok (.putfield index, 3))
    (kk : ∀ (H1 : Heap) (locs1 : List Loc), va_at D ncl (h, .inr (ci, fs.set j v)) H1 → H1.size = H.size → (∀ q, q ≠ h → H1[q]? = H[q]?) → va_S A s.heap H1 locs1 → W p l e R s m args below meth c H1 locs1 cells slots Q (F0 m (pc + 3) ls rest)) : W p l e R s m args below meth c H locs cells slots Q (F0 m pc ls (v :: .ref h :: rest)) := by
  obtain ⟨hx, hb, -, hown, hts, ⟨hK, -⟩, hmi, -, -, -⟩ := hc
  have hap := va_apart (own := own) hts hin ty0 hty hnm hK hcl
  obtain ⟨r, h1, cell, q1, q2, q3, q4⟩ := hv
  have hr : r = (C, T, N) := Option.some.inj (h1.symm.trans hcl)
  subst hr
  obtain ⟨hSl, hfc, kC, hkC, hkind⟩ := hK.1 ci _ hcl
  obtain ⟨cf, kf, fi, f, hi, hsl⟩ := hSl j hj
  have hlay := hts _ (hin _ (u_in_lay hj))
  unfold u_lay at hlay
  rw [if_neg (by rw [hfin]; decide)] at hlay
  have hst := (u_facts hfc hkC (u_lays hts hin hj) hi).1
  have h6 := u_store hfc hkC hkind hlay hi hd hn hfit
  refine W.putK hx hb (f := f) ⟨hown, hts _ hlink, ⟨_, _, _, hi⟩, hst⟩ (by rw [q2]; exact h6) q1 q3 (by rw [hsl]; exact k2_hasslot (q4 j hj)) rfl rfl hdg fun H' e1 e2 e3 => ?_
  rw [hsl] at e1 ⊢
  exact kk H' _ ⟨_, hcl, t_OB.to (V := updV (vp_V fs) j v) ⟨_, e1, q2, q3, t_set q4 hap hj v⟩ (fun j9 _ => vp_updV_set hl v j9)⟩ e2 e3 (hS.put e2 e3 hA)
theorem i_get {h ci : Nat} {fs : List Value} {C : String} {T : u_T} {N index : Nat} (hc : iC p s m args meth c cc nL own D dA N0) (hv : va_at D ncl (h, .inr (ci, fs)) H) (hcl : ncl[ci]? = some (C, T, N)) (hin : ∀ w ∈ u_ws C T N, w ∈ gw) (j : Nat) (hj : j < N) (hlink : Cond.fieldLink own index (T j).1 (T j).2.1 (T j).2.2.1 ∈ gw) {v : Value} (hfs : fs[j]? = some v) (hdg : decode cc pc = .ok (.getfield index, 3))
    (kk : W p l e R s m args below meth c H locs cells slots Q (F0 m (pc + 3) ls (v :: rest))) : W p l e R s m args below meth c H locs cells slots Q (F0 m pc ls (.ref h :: rest)) :=
  va_get hc.1 hc.2.1 hc.2.2.2.2.1 hin hc.2.2.2.1 hc.2.2.2.2.2.1.1 (npic_one hv) 0 rfl hcl j hj (hc.2.2.2.2.1 _ hlink) (fun _ h => h) hfs hdg kk
theorem i_ast {a t0 ci n v : Nat} {r : vw_C} {vs : List Value} {f g : Nat → Option Nat} (hc : iC p s m args meth c cc nL own D dA N0) (hS : va_S A s.heap H locs) (ha : va_at D ncl (a, .inl (dA t0, n, .inr (.inr (.inr (.inr f))))) H) (hA : A a) (ht : (ntys dA)[t0]? = some (dA t0, .object r.1)) (hv : va_at D ncl (v, .inr (ci, vs)) H) (hcl : ncl[ci]? = some r) {i : Int32} (hin : vp_in i n) (hg : va_up f i.toNatClampNeg (some v) = g) (hdg : decode cc pc = .ok (.aastore, 1))
    (kk : ∀ (H1 : Heap) (locs1 : List Loc), va_at D ncl (a, .inl (dA t0, n, .inr (.inr (.inr (.inr g))))) H1 → H1.size = H.size → (∀ q, q ≠ a → H1[q]? = H[q]?) → va_S A s.heap H1 locs1 → W p l e R s m args below meth c H1 locs1 cells slots Q (F0 m (pc + 1) ls rest)) : W p l e R s m args below meth c H locs cells slots Q (F0 m pc ls (.ref v :: .int i :: .ref a :: rest)) := by
  obtain ⟨hx, hb, -, hown, hts, ⟨hK, -⟩, -⟩ := hc
  have hlt : i.toNatClampNeg < n := Nat.not_le.mp fun q => hin (Or.inr q)
  have h0 : ¬ i < 0 := fun q => hin (Or.inl q)
  obtain ⟨r', hr', cellV, g1, g2, g3, -⟩ := hv
  have hcls := (hK.1 ci r hcl).2
  obtain ⟨kA, comp, k1, k2, k3, -⟩ := (hK.2 t0 _ ht).2
  have hcomp : comp = D.1 ci := Option.some.inj (k3.symm.trans hcls.1)
  subst hcomp
  obtain ⟨kC, hkC, -⟩ := hcls.2
  refine W.aast hx hb ha (fun q h => by cases h) (fun h => by cases h) k1 k2 rfl hkC ⟨h0, by show _ < (arrV _ _ _).slots.size; rw [arrV_size]; exact hlt⟩ g1 (fun q h => by rw [g3] at h; cases h) (by rw [g2]; exact hkC) (by rw [g2]; exact va_assign hcls) rfl rfl hdg fun H1 e z oq => ?_
  refine kk H1 _ ?_ z oq (hS.put z oq hA)
  show H1[a]? = some (vp_cell _ _)
  rw [e, ← hg]
  rw [vp_cell_q, vp_cell_q, arrV_store]
  congr 2
  funext q
  by_cases hq : q = i.toNatClampNeg
  · subst hq
    simp [updV, va_up, va_rf]
  · simp [updV, va_up, hq]
/-- a constructor is called -/
theorem i_call {y : MethodName} {cY : ByteArray} {maxL idx h1 n mc ms : Nat} {rm : Room} {e0 : va_E} {Z : Heap → Prop} (hM : nIv l D dA N0 y cY maxL rm h1 e0 Z n mc ms) (hc : iC p s m args meth c cc nL own D dA N0) (hS : va_S A s.heap H locs) (hv : va_at D ncl (h1, e0) H) (hz : H.size = h1 + 1) (hN : N0 ≤ h1) (hA : ∀ q, h1 ≤ q → A q) (hA0 : ∀ q, A q → N0 ≤ q) (hsz : ls.size = nL) (hini : y.name = "<init>") (hok : nOk y 0) (q1 : Cond.initialized y.cls ∈ gw) (q2 : Cond.methodLink own idx y ∈ gw) (q3 : Cond.instanceMethod y ∈ gw) (q4 : Cond.code y cY maxL none ∈ gw) (hrm : rm.cells = mc ∧ rm.slots = ms) (hR : rm.frames + 1 ≤ R.frames ∧ 8 + (maxL + 11) + rm.locals ≤ R.locals) (hf : cells + mc ≤ R.cells ∧ slots + ms ≤ R.slots) (hdg : decode cc pc = .ok (.invokespecial idx, 3)) (hW : (rest.map fun v => v.category).sum ≤ 8)
    (kk : ∀ (H1 : Heap) (locs1 : List Loc), Z H1 → H1.size = h1 + n → (∀ q, q < h1 → H1[q]? = H[q]?) → va_S A s.heap H1 locs1 → W p l e R s m args below meth c H1 locs1 (cells + mc) (slots + ms) Q (F0 m (pc + 3) ls rest)) : W p l e R s m args below meth c H locs cells slots Q (F0 m pc ls (.ref h1 :: rest)) := by
  obtain ⟨hx, hb, hml, hown, hts, hT, hmi, hlk, hZ, hAO⟩ := hc
  refine va_callv (va_runI (As := []) (rest := rest) ⟨hx, hb, hml, hown, hts⟩ hM (cwI 0 hts (ngoodC q4) rfl hrm.1 hrm.2 (hts _ q1) (hts _ q2) (hts _ q3) hini hok hR) ⟨?_, ?_⟩ rfl rfl hsz rfl (lv_room hW) hdg hf) hS (fun q _ h => hA q h) hA ?_
  · intro a U g mk q
    obtain ⟨q0, q1, q2, q3, q4, q5, q6⟩ := q
    exact ⟨q0, ntab_calling q1, q2, q3, ⟨vx_Zq.moved (u := U) (U := U.calling g mk a) (Vm.Alike.refl U.vm) q4.1, vx_Zq.moved (u := U) (U := U.calling g mk a) (Vm.Alike.refl U.vm) q4.2⟩, q5, fun C hC => va_AO.moved (u := U) (U := U.calling g mk a) (Vm.Alike.refl U.vm) (q6 C hC)⟩
  · intro U hU hW
    have hk : ∀ q : Nat, q < s.heap.size → ¬ N0 ≤ q → H[q]? = s.heap[q]? := fun q h1 h2 => hS.2.1 q h1 (fun z => h2 (hA0 q z))
    exact ⟨rfl, ntab_warm hW hT, by rw [hU]; exact hv, by rw [hU]; exact hz, ⟨by rw [hU]; exact vx_Zq.moved hW.alike (hZ.1.kept hk), by rw [hU]; exact vx_Zq.moved hW.alike (hZ.2.kept hk)⟩, hN, fun C hC => va_AO.moved hW.alike (hAO C hC)⟩
  · intro u t H1 locs1 ht _ _ hb1 _ hk1 hS1
    rw [ht] at hb1
    exact kk H1 locs1 hb1.1 hb1.2 (fun q hq => hk1 q (by omega) (by omega)) hS1
/-- and a private one -/
theorem i_callN {host : String} {y : MethodName} {cY : ByteArray} {maxL idx h1 n mc ms : Nat} {rm : Room} {e0 : va_E} {Z : Heap → Prop} (hM : nIv l D dA N0 y cY maxL rm h1 e0 Z n mc ms) (hc : iC p s m args meth c cc nL own D dA N0) (hS : va_S A s.heap H locs) (hv : va_at D ncl (h1, e0) H) (hz : H.size = h1 + 1) (hN : N0 ≤ h1) (hA : ∀ q, h1 ≤ q → A q) (hA0 : ∀ q, A q → N0 ≤ q) (hsz : ls.size = nL) (hini : y.name = "<init>") (hok : nOk y 0) (q1 : Cond.initialized y.cls ∈ gw) (q2 : Cond.methodLinkNest own idx y host ∈ nbw) (q3 : Cond.instanceMethod y ∈ gw) (q4 : Cond.code y cY maxL none ∈ gw) (hrm : rm.cells = mc ∧ rm.slots = ms) (hR : rm.frames + 1 ≤ R.frames ∧ 8 + (maxL + 11) + rm.locals ≤ R.locals) (hf : cells + mc ≤ R.cells ∧ slots + ms ≤ R.slots) (hdg : decode cc pc = .ok (.invokespecial idx, 3)) (hW : (rest.map fun v => v.category).sum ≤ 8)
    (kk : ∀ (H1 : Heap) (locs1 : List Loc), Z H1 → H1.size = h1 + n → (∀ q, q < h1 → H1[q]? = H[q]?) → va_S A s.heap H1 locs1 → W p l e R s m args below meth c H1 locs1 (cells + mc) (slots + ms) Q (F0 m (pc + 3) ls rest)) : W p l e R s m args below meth c H locs cells slots Q (F0 m pc ls (.ref h1 :: rest)) := by
  obtain ⟨hx, hb, hml, hown, hts, hT, hmi, hlk, hZ, hAO⟩ := hc
  refine va_callv (va_runIN (As := []) (rest := rest) ⟨hx, hb, hml, hown, hts⟩ hM ⟨va_cnB 0 hts (ngoodC q4) rfl hrm.1 hrm.2 (hT.2.1 _ q2) (hts _ q1) hok hR, hini, hts _ q3⟩ ⟨?_, ?_⟩ rfl rfl hsz rfl (lv_room hW) hdg hf) hS (fun q _ h => hA q h) hA ?_
  · intro a U g mk q
    obtain ⟨q0, q1, q2, q3, q4, q5, q6⟩ := q
    exact ⟨q0, ntab_calling q1, q2, q3, ⟨vx_Zq.moved (u := U) (U := U.calling g mk a) (Vm.Alike.refl U.vm) q4.1, vx_Zq.moved (u := U) (U := U.calling g mk a) (Vm.Alike.refl U.vm) q4.2⟩, q5, fun C hC => va_AO.moved (u := U) (U := U.calling g mk a) (Vm.Alike.refl U.vm) (q6 C hC)⟩
  · intro U hU hW
    have hk : ∀ q : Nat, q < s.heap.size → ¬ N0 ≤ q → H[q]? = s.heap[q]? := fun q h1 h2 => hS.2.1 q h1 (fun z => h2 (hA0 q z))
    exact ⟨rfl, ntab_warm hW hT, by rw [hU]; exact hv, by rw [hU]; exact hz, ⟨by rw [hU]; exact vx_Zq.moved hW.alike (hZ.1.kept hk), by rw [hU]; exact vx_Zq.moved hW.alike (hZ.2.kept hk)⟩, hN, fun C hC => va_AO.moved hW.alike (hAO C hC)⟩
  · intro u t H1 locs1 ht _ _ hb1 _ hk1 hS1
    rw [ht] at hb1
    exact kk H1 locs1 hb1.1 hb1.2 (fun q hq => hk1 q (by omega) (by omega)) hS1
end IR
set_option maxRecDepth 100000 in
theorem c_X0_init (l : Launch) (D : va_G) (dA : Nat → ClassId) (N0 h0 : Nat) : nIv l D dA N0 yX0_init cX0_init 1 ({ frames := 1, cells := 0, slots := 0, locals := 40 } : Room) h0 (.inr (0, [.int 0, .int 0, .int 0])) (fun H => va_at D ncl (h0, .inr (0, [.int 0, .int 0, .int 0])) H) 1 0 0 := by
  refine iI_of (by decide +kernel) rfl (Nat.le_of_ble_eq_true rfl) ?_
  intro p e s m args below meth cd ls hc hr f0 hz hN hl hS
  have hx := hc.1
  have hb := hc.2.1
  have hA : ∀ q, h0 ≤ q → (fun q => h0 ≤ q) q := fun q h => h
  have hA0 : ∀ q, (fun q => h0 ≤ q) q → N0 ≤ q := fun q (h : h0 ≤ q) => Nat.le_trans hN h
  have hl : lv_has ls 1 [(0, .ref h0)] := hl
  refine lv_aload_n hx hb dX0_init_0 rfl (lv_at hl 0 rfl) ?_
  refine i_sup hc hl.1 q72 ⟨Nat.le_of_ble_eq_true rfl, Nat.le_of_ble_eq_true rfl⟩ (Nat.le_of_ble_eq_true rfl) dX0_init_1 ?_
  exact i_end (Z := fun H => va_at D ncl (h0, .inr (0, [.int 0, .int 0, .int 0])) H) (n := 1) (mc := 0) (ms := 0) hc hr hS f0 (by omega) (Nat.le_of_ble_eq_true rfl) (Nat.le_of_ble_eq_true rfl) dX0_init_4
set_option maxRecDepth 100000 in
theorem c_X8_init (l : Launch) (D : va_G) (dA : Nat → ClassId) (N0 h0 : Nat) : nIv l D dA N0 yX8_init cX8_init 1 ({ frames := 1, cells := 0, slots := 0, locals := 40 } : Room) h0 (.inr (8, [.int 0, .int 0, .int 0])) (fun H => va_at D ncl (h0, .inr (8, [.int 0, .int 0, .int 0])) H) 1 0 0 := by
  refine iI_of (by decide +kernel) rfl (Nat.le_of_ble_eq_true rfl) ?_
  intro p e s m args below meth cd ls hc hr f0 hz hN hl hS
  have hx := hc.1
  have hb := hc.2.1
  have hA : ∀ q, h0 ≤ q → (fun q => h0 ≤ q) q := fun q h => h
  have hA0 : ∀ q, (fun q => h0 ≤ q) q → N0 ≤ q := fun q (h : h0 ≤ q) => Nat.le_trans hN h
  have hl : lv_has ls 1 [(0, .ref h0)] := hl
  refine lv_aload_n hx hb dX8_init_0 rfl (lv_at hl 0 rfl) ?_
  refine i_sup hc hl.1 q91 ⟨Nat.le_of_ble_eq_true rfl, Nat.le_of_ble_eq_true rfl⟩ (Nat.le_of_ble_eq_true rfl) dX8_init_1 ?_
  exact i_end (Z := fun H => va_at D ncl (h0, .inr (8, [.int 0, .int 0, .int 0])) H) (n := 1) (mc := 0) (ms := 0) hc hr hS f0 (by omega) (Nat.le_of_ble_eq_true rfl) (Nat.le_of_ble_eq_true rfl) dX8_init_4
set_option maxRecDepth 100000 in
theorem c_X5_init (l : Launch) (D : va_G) (dA : Nat → ClassId) (N0 h0 : Nat) : nIv l D dA N0 yX5_init cX5_init 1 ({ frames := 1, cells := 0, slots := 0, locals := 40 } : Room) h0 (.inr (5, [.int 0, .int 0, .int 0, .int 0, .int 0, .int 0, .int 0, .int 0, .int 0, .int 0])) (fun H => va_at D ncl (h0, .inr (5, [.int 0, .int 0, .int 0, .int 0, .int 0, .int 0, .int 0, .int 0, .int 0, .int 0])) H) 1 0 0 := by
  refine iI_of (by decide +kernel) rfl (Nat.le_of_ble_eq_true rfl) ?_
  intro p e s m args below meth cd ls hc hr f0 hz hN hl hS
  have hx := hc.1
  have hb := hc.2.1
  have hA : ∀ q, h0 ≤ q → (fun q => h0 ≤ q) q := fun q h => h
  have hA0 : ∀ q, (fun q => h0 ≤ q) q → N0 ≤ q := fun q (h : h0 ≤ q) => Nat.le_trans hN h
  have hl : lv_has ls 1 [(0, .ref h0)] := hl
  refine lv_aload_n hx hb dX5_init_0 rfl (lv_at hl 0 rfl) ?_
  refine i_sup hc hl.1 q155 ⟨Nat.le_of_ble_eq_true rfl, Nat.le_of_ble_eq_true rfl⟩ (Nat.le_of_ble_eq_true rfl) dX5_init_1 ?_
  exact i_end (Z := fun H => va_at D ncl (h0, .inr (5, [.int 0, .int 0, .int 0, .int 0, .int 0, .int 0, .int 0, .int 0, .int 0, .int 0])) H) (n := 1) (mc := 0) (ms := 0) hc hr hS f0 (by omega) (Nat.le_of_ble_eq_true rfl) (Nat.le_of_ble_eq_true rfl) dX5_init_4
set_option maxRecDepth 100000 in
theorem c_X7_init (l : Launch) (D : va_G) (dA : Nat → ClassId) (N0 h0 : Nat) : nIv l D dA N0 yX7_init cX7_init 1 ({ frames := 1, cells := 0, slots := 0, locals := 40 } : Room) h0 (.inr (7, [.int 0, .int 0, .int 0, .int 0, .int 0])) (fun H => va_at D ncl (h0, .inr (7, [.int 0, .int 0, .int 0, .int 0, .int 0])) H) 1 0 0 := by
  refine iI_of (by decide +kernel) rfl (Nat.le_of_ble_eq_true rfl) ?_
  intro p e s m args below meth cd ls hc hr f0 hz hN hl hS
  have hx := hc.1
  have hb := hc.2.1
  have hA : ∀ q, h0 ≤ q → (fun q => h0 ≤ q) q := fun q h => h
  have hA0 : ∀ q, (fun q => h0 ≤ q) q → N0 ≤ q := fun q (h : h0 ≤ q) => Nat.le_trans hN h
  have hl : lv_has ls 1 [(0, .ref h0)] := hl
  refine lv_aload_n hx hb dX7_init_0 rfl (lv_at hl 0 rfl) ?_
  refine i_sup hc hl.1 q208 ⟨Nat.le_of_ble_eq_true rfl, Nat.le_of_ble_eq_true rfl⟩ (Nat.le_of_ble_eq_true rfl) dX7_init_1 ?_
  exact i_end (Z := fun H => va_at D ncl (h0, .inr (7, [.int 0, .int 0, .int 0, .int 0, .int 0])) H) (n := 1) (mc := 0) (ms := 0) hc hr hS f0 (by omega) (Nat.le_of_ble_eq_true rfl) (Nat.le_of_ble_eq_true rfl) dX7_init_4
set_option maxRecDepth 100000 in
theorem c_X1_init (l : Launch) (D : va_G) (dA : Nat → ClassId) (N0 h0 : Nat) : nIv l D dA N0 yX1_init cX1_init 1 ({ frames := 1, cells := 0, slots := 0, locals := 40 } : Room) h0 (.inr (1, [.int 0, .int 0, .int 0, .int 0])) (fun H => va_at D ncl (h0, .inr (1, [.int 0, .int 0, .int 0, .int 0])) H) 1 0 0 := by
  refine iI_of (by decide +kernel) rfl (Nat.le_of_ble_eq_true rfl) ?_
  intro p e s m args below meth cd ls hc hr f0 hz hN hl hS
  have hx := hc.1
  have hb := hc.2.1
  have hA : ∀ q, h0 ≤ q → (fun q => h0 ≤ q) q := fun q h => h
  have hA0 : ∀ q, (fun q => h0 ≤ q) q → N0 ≤ q := fun q (h : h0 ≤ q) => Nat.le_trans hN h
  have hl : lv_has ls 1 [(0, .ref h0)] := hl
  refine lv_aload_n hx hb dX1_init_0 rfl (lv_at hl 0 rfl) ?_
  refine i_sup hc hl.1 q42 ⟨Nat.le_of_ble_eq_true rfl, Nat.le_of_ble_eq_true rfl⟩ (Nat.le_of_ble_eq_true rfl) dX1_init_1 ?_
  exact i_end (Z := fun H => va_at D ncl (h0, .inr (1, [.int 0, .int 0, .int 0, .int 0])) H) (n := 1) (mc := 0) (ms := 0) hc hr hS f0 (by omega) (Nat.le_of_ble_eq_true rfl) (Nat.le_of_ble_eq_true rfl) dX1_init_4
set_option maxRecDepth 100000 in
theorem c_X3_init (l : Launch) (D : va_G) (dA : Nat → ClassId) (N0 h0 : Nat) : nIv l D dA N0 yX3_init cX3_init 1 ({ frames := 2, cells := 2, slots := 52, locals := 80 } : Room) h0 (.inr (3, [.null, .null, .int 0])) (fun H => va_at D ncl (h0, .inr (3, [.ref (h0 + 1), .ref (h0 + 2), .int 0])) H ∧ va_at D ncl (h0 + 1, .inl (dA 2, 26, .inl (fun _ => 0))) H ∧ va_at D ncl (h0 + 2, .inl (dA 0, 26, .inl (fun _ => 0))) H) 3 2 52 := by
  refine iI_of (by decide +kernel) rfl (Nat.le_of_ble_eq_true rfl) ?_
  intro p e s m args below meth cd ls hc hr f0 hz hN hl hS
  have hx := hc.1
  have hb := hc.2.1
  have hA : ∀ q, h0 ≤ q → (fun q => h0 ≤ q) q := fun q h => h
  have hA0 : ∀ q, (fun q => h0 ≤ q) q → N0 ≤ q := fun q (h : h0 ≤ q) => Nat.le_trans hN h
  have hl : lv_has ls 1 [(0, .ref h0)] := hl
  refine lv_aload_n hx hb dX3_init_0 rfl (lv_at hl 0 rfl) ?_
  refine i_sup hc hl.1 q132 ⟨Nat.le_of_ble_eq_true rfl, Nat.le_of_ble_eq_true rfl⟩ (Nat.le_of_ble_eq_true rfl) dX3_init_1 ?_
  refine lv_aload_n hx hb dX3_init_4 rfl (lv_at hl 0 rfl) ?_
  refine lv_bipush (v := 26) hx hb dX3_init_5 (by decide) ?_
  refine i_newa (atype := .char) (t0 := 2) (ty := .char) (N := 26) (z := h0 + 1) hc hS hz q145 rfl rfl rfl (fun C => by intro h; cases h) (by decide) (by decide) (Nat.le_of_ble_eq_true rfl) (Nat.le_of_ble_eq_true rfl) (Nat.le_of_ble_eq_true rfl) dX3_init_7 (fun H f1 hz oq hS => ?_)
  replace f0 := f0.kept (oq (h0) (by omega))
  refine i_fin (ci := 3) (h := h0) (v := .ref (h0 + 1)) hc hS f0 (Nat.le_refl _) rfl iX3 tyX3 tyX3_ok nmX3 0 (by decide) q133 rfl rfl (tyX3_ok 0 (by decide)) rfl rfl (Nat.le_of_ble_eq_true rfl) dX3_init_9 (fun H locs f0 hz1 oq hS => ?_)
  replace hz := hz1.trans hz
  replace f0 : va_at D ncl (h0, .inr (3, [.ref (h0 + 1), .null, .int 0])) H := f0
  replace f1 := f1.kept (oq (h0 + 1) (by omega))
  refine lv_aload_n hx hb dX3_init_12 rfl (lv_at hl 0 rfl) ?_
  refine lv_bipush (v := 26) hx hb dX3_init_13 (by decide) ?_
  refine i_newa (atype := .int) (t0 := 0) (ty := .int) (N := 26) (z := h0 + 2) hc hS hz q146 rfl rfl rfl (fun C => by intro h; cases h) (by decide) (by decide) (Nat.le_of_ble_eq_true rfl) (Nat.le_of_ble_eq_true rfl) (Nat.le_of_ble_eq_true rfl) dX3_init_15 (fun H f2 hz oq hS => ?_)
  replace f0 := f0.kept (oq (h0) (by omega))
  replace f1 := f1.kept (oq (h0 + 1) (by omega))
  refine i_fin (ci := 3) (h := h0) (v := .ref (h0 + 2)) hc hS f0 (Nat.le_refl _) rfl iX3 tyX3 tyX3_ok nmX3 1 (by decide) q135 rfl rfl (tyX3_ok 1 (by decide)) rfl rfl (Nat.le_of_ble_eq_true rfl) dX3_init_17 (fun H locs f0 hz1 oq hS => ?_)
  replace hz := hz1.trans hz
  replace f0 : va_at D ncl (h0, .inr (3, [.ref (h0 + 1), .ref (h0 + 2), .int 0])) H := f0
  replace f1 := f1.kept (oq (h0 + 1) (by omega))
  replace f2 := f2.kept (oq (h0 + 2) (by omega))
  exact i_end (Z := fun H => va_at D ncl (h0, .inr (3, [.ref (h0 + 1), .ref (h0 + 2), .int 0])) H ∧ va_at D ncl (h0 + 1, .inl (dA 2, 26, .inl (fun _ => 0))) H ∧ va_at D ncl (h0 + 2, .inl (dA 0, 26, .inl (fun _ => 0))) H) (n := 3) (mc := 2) (ms := 52) hc hr hS ⟨f0, f1, f2⟩ (by omega) (Nat.le_of_ble_eq_true rfl) (Nat.le_of_ble_eq_true rfl) dX3_init_20
set_option maxRecDepth 100000 in
theorem c_X2_init (l : Launch) (D : va_G) (dA : Nat → ClassId) (N0 h0 : Nat) : nIv l D dA N0 yX2_init cX2_init 1 ({ frames := 2, cells := 4, slots := 2048, locals := 80 } : Room) h0 (.inr (2, [.null, .null, .null, .null, .int 0])) (fun H => va_at D ncl (h0, .inr (2, [.ref (h0 + 1), .ref (h0 + 2), .ref (h0 + 3), .ref (h0 + 4), .int 0])) H ∧ va_at D ncl (h0 + 1, .inl (dA 0, 512, .inl (fun _ => 0))) H ∧ va_at D ncl (h0 + 2, .inl (dA 0, 512, .inl (fun _ => 0))) H ∧ va_at D ncl (h0 + 3, .inl (dA 0, 512, .inl (fun _ => 0))) H ∧ va_at D ncl (h0 + 4, .inl (dA 0, 512, .inl (fun _ => 0))) H) 5 4 2048 := by
  refine iI_of (by decide +kernel) rfl (Nat.le_of_ble_eq_true rfl) ?_
  intro p e s m args below meth cd ls hc hr f0 hz hN hl hS
  have hx := hc.1
  have hb := hc.2.1
  have hA : ∀ q, h0 ≤ q → (fun q => h0 ≤ q) q := fun q h => h
  have hA0 : ∀ q, (fun q => h0 ≤ q) q → N0 ≤ q := fun q (h : h0 ≤ q) => Nat.le_trans hN h
  have hl : lv_has ls 1 [(0, .ref h0)] := hl
  refine lv_aload_n hx hb dX2_init_0 rfl (lv_at hl 0 rfl) ?_
  refine i_sup hc hl.1 q291 ⟨Nat.le_of_ble_eq_true rfl, Nat.le_of_ble_eq_true rfl⟩ (Nat.le_of_ble_eq_true rfl) dX2_init_1 ?_
  refine lv_aload_n hx hb dX2_init_4 rfl (lv_at hl 0 rfl) ?_
  refine lv_sipush (v := 512) hx hb dX2_init_5 (by decide) ?_
  refine i_newa (atype := .int) (t0 := 0) (ty := .int) (N := 512) (z := h0 + 1) hc hS hz q146 rfl rfl rfl (fun C => by intro h; cases h) (by decide) (by decide) (Nat.le_of_ble_eq_true rfl) (Nat.le_of_ble_eq_true rfl) (Nat.le_of_ble_eq_true rfl) dX2_init_8 (fun H f1 hz oq hS => ?_)
  replace f0 := f0.kept (oq (h0) (by omega))
  refine i_fin (ci := 2) (h := h0) (v := .ref (h0 + 1)) hc hS f0 (Nat.le_refl _) rfl iX2 tyX2 tyX2_ok nmX2 0 (by decide) q292 rfl rfl (tyX2_ok 0 (by decide)) rfl rfl (Nat.le_of_ble_eq_true rfl) dX2_init_10 (fun H locs f0 hz1 oq hS => ?_)
  replace hz := hz1.trans hz
  replace f0 : va_at D ncl (h0, .inr (2, [.ref (h0 + 1), .null, .null, .null, .int 0])) H := f0
  replace f1 := f1.kept (oq (h0 + 1) (by omega))
  refine lv_aload_n hx hb dX2_init_13 rfl (lv_at hl 0 rfl) ?_
  refine lv_sipush (v := 512) hx hb dX2_init_14 (by decide) ?_
  refine i_newa (atype := .int) (t0 := 0) (ty := .int) (N := 512) (z := h0 + 2) hc hS hz q146 rfl rfl rfl (fun C => by intro h; cases h) (by decide) (by decide) (Nat.le_of_ble_eq_true rfl) (Nat.le_of_ble_eq_true rfl) (Nat.le_of_ble_eq_true rfl) dX2_init_17 (fun H f2 hz oq hS => ?_)
  replace f0 := f0.kept (oq (h0) (by omega))
  replace f1 := f1.kept (oq (h0 + 1) (by omega))
  refine i_fin (ci := 2) (h := h0) (v := .ref (h0 + 2)) hc hS f0 (Nat.le_refl _) rfl iX2 tyX2 tyX2_ok nmX2 1 (by decide) q294 rfl rfl (tyX2_ok 1 (by decide)) rfl rfl (Nat.le_of_ble_eq_true rfl) dX2_init_19 (fun H locs f0 hz1 oq hS => ?_)
  replace hz := hz1.trans hz
  replace f0 : va_at D ncl (h0, .inr (2, [.ref (h0 + 1), .ref (h0 + 2), .null, .null, .int 0])) H := f0
  replace f1 := f1.kept (oq (h0 + 1) (by omega))
  replace f2 := f2.kept (oq (h0 + 2) (by omega))
  refine lv_aload_n hx hb dX2_init_22 rfl (lv_at hl 0 rfl) ?_
  refine lv_sipush (v := 512) hx hb dX2_init_23 (by decide) ?_
  refine i_newa (atype := .int) (t0 := 0) (ty := .int) (N := 512) (z := h0 + 3) hc hS hz q146 rfl rfl rfl (fun C => by intro h; cases h) (by decide) (by decide) (Nat.le_of_ble_eq_true rfl) (Nat.le_of_ble_eq_true rfl) (Nat.le_of_ble_eq_true rfl) dX2_init_26 (fun H f3 hz oq hS => ?_)
  replace f0 := f0.kept (oq (h0) (by omega))
  replace f1 := f1.kept (oq (h0 + 1) (by omega))
  replace f2 := f2.kept (oq (h0 + 2) (by omega))
  refine i_fin (ci := 2) (h := h0) (v := .ref (h0 + 3)) hc hS f0 (Nat.le_refl _) rfl iX2 tyX2 tyX2_ok nmX2 2 (by decide) q296 rfl rfl (tyX2_ok 2 (by decide)) rfl rfl (Nat.le_of_ble_eq_true rfl) dX2_init_28 (fun H locs f0 hz1 oq hS => ?_)
  replace hz := hz1.trans hz
  replace f0 : va_at D ncl (h0, .inr (2, [.ref (h0 + 1), .ref (h0 + 2), .ref (h0 + 3), .null, .int 0])) H := f0
  replace f1 := f1.kept (oq (h0 + 1) (by omega))
  replace f2 := f2.kept (oq (h0 + 2) (by omega))
  replace f3 := f3.kept (oq (h0 + 3) (by omega))
  refine lv_aload_n hx hb dX2_init_31 rfl (lv_at hl 0 rfl) ?_
  refine lv_sipush (v := 512) hx hb dX2_init_32 (by decide) ?_
  refine i_newa (atype := .int) (t0 := 0) (ty := .int) (N := 512) (z := h0 + 4) hc hS hz q146 rfl rfl rfl (fun C => by intro h; cases h) (by decide) (by decide) (Nat.le_of_ble_eq_true rfl) (Nat.le_of_ble_eq_true rfl) (Nat.le_of_ble_eq_true rfl) dX2_init_35 (fun H f4 hz oq hS => ?_)
  replace f0 := f0.kept (oq (h0) (by omega))
  replace f1 := f1.kept (oq (h0 + 1) (by omega))
  replace f2 := f2.kept (oq (h0 + 2) (by omega))
  replace f3 := f3.kept (oq (h0 + 3) (by omega))
  refine i_fin (ci := 2) (h := h0) (v := .ref (h0 + 4)) hc hS f0 (Nat.le_refl _) rfl iX2 tyX2 tyX2_ok nmX2 3 (by decide) q298 rfl rfl (tyX2_ok 3 (by decide)) rfl rfl (Nat.le_of_ble_eq_true rfl) dX2_init_37 (fun H locs f0 hz1 oq hS => ?_)
  replace hz := hz1.trans hz
  replace f0 : va_at D ncl (h0, .inr (2, [.ref (h0 + 1), .ref (h0 + 2), .ref (h0 + 3), .ref (h0 + 4), .int 0])) H := f0
  replace f1 := f1.kept (oq (h0 + 1) (by omega))
  replace f2 := f2.kept (oq (h0 + 2) (by omega))
  replace f3 := f3.kept (oq (h0 + 3) (by omega))
  replace f4 := f4.kept (oq (h0 + 4) (by omega))
  exact i_end (Z := fun H => va_at D ncl (h0, .inr (2, [.ref (h0 + 1), .ref (h0 + 2), .ref (h0 + 3), .ref (h0 + 4), .int 0])) H ∧ va_at D ncl (h0 + 1, .inl (dA 0, 512, .inl (fun _ => 0))) H ∧ va_at D ncl (h0 + 2, .inl (dA 0, 512, .inl (fun _ => 0))) H ∧ va_at D ncl (h0 + 3, .inl (dA 0, 512, .inl (fun _ => 0))) H ∧ va_at D ncl (h0 + 4, .inl (dA 0, 512, .inl (fun _ => 0))) H) (n := 5) (mc := 4) (ms := 2048) hc hr hS ⟨f0, f1, f2, f3, f4⟩ (by omega) (Nat.le_of_ble_eq_true rfl) (Nat.le_of_ble_eq_true rfl) dX2_init_40
theorem nup_fill {b j n : Nat} (hj : j < n) (hn : n < 2 ^ 31) : va_up (fun i => if i < j then some (b + i) else none) (nI j).toNatClampNeg (some (b + j)) = fun i => if i < j + 1 then some (b + i) else none := by
  rw [nI_clamp (Nat.lt_trans hj hn)]
  funext i
  unfold va_up
  by_cases h : i = j
  · subst h; simp
  · by_cases h2 : i < j
    · simp [h, h2, Nat.lt_succ_of_lt h2]
    · have h3 : ¬ i < j + 1 := by omega
      simp [h, h2, h3]
theorem nfull {D : va_G} {a n : Nat} {cA : ClassId} {f g : Nat → Option Nat} {H : Heap} (h : va_at D ncl (a, .inl (cA, n, .inr (.inr (.inr (.inr f))))) H) (hfg : ∀ i, i < n → f i = g i) : va_at D ncl (a, .inl (cA, n, .inr (.inr (.inr (.inr g))))) H := by
  have h1 : H[a]? = some (vp_cell cA (n, .inr (.inr (.inr (.inr f))))) := h
  show H[a]? = some (vp_cell cA (n, .inr (.inr (.inr (.inr g)))))
  rw [h1, vp_cell_q, vp_cell_q]
  congr 1
  show arrV _ _ _ = arrV _ _ _
  unfold arrV
  congr 2
  funext j
  exact congrArg _ (hfg j.val j.isLt)
theorem nfill {D : va_G} {a n b : Nat} {cA : ClassId} {H : Heap} (h : va_at D ncl (a, .inl (cA, n, .inr (.inr (.inr (.inr (fun i => if i < n then some (b + i) else none)))))) H) : va_at D ncl (a, .inl (cA, n, .inr (.inr (.inr (.inr (fun i => some (b + i))))))) H := nfull h (fun i hi => by rw [if_pos hi])
theorem nnone {D : va_G} {a n b : Nat} {cA : ClassId} {H : Heap} (h : va_at D ncl (a, .inl (cA, n, .inr (.inr (.inr (.inr (fun _ => none)))))) H) : va_at D ncl (a, .inl (cA, n, .inr (.inr (.inr (.inr (fun i => if i < 0 then some (b + i) else none)))))) H := nfull h (fun i hi => by rw [if_neg (Nat.not_lt_zero i)])
set_option maxRecDepth 100000 in
theorem c_X6_init (l : Launch) (D : va_G) (dA : Nat → ClassId) (N0 h0 : Nat) : nIv l D dA N0 yX6_init cX6_init 2 ({ frames := 2, cells := 47, slots := 180, locals := 80 } : Room) h0 (.inr (6, [.null, .null, .int 0, .int 0])) (fun H => va_at D ncl (h0, .inr (6, [.ref (h0 + 1), .ref (h0 + 2), .int 0, .int 0])) H ∧ va_at D ncl (h0 + 1, .inl (dA 3, 5, .inr (.inr (.inr (.inr (fun i => some (h0 + 3 + i))))))) H ∧ va_at D ncl (h0 + 2, .inl (dA 4, 40, .inr (.inr (.inr (.inr (fun i => some (h0 + 8 + i))))))) H ∧ nrow D (h0 + 3) 5 (.inr (0, [.int 0, .int 0, .int 0])) H ∧ nrow D (h0 + 8) 40 (.inr (8, [.int 0, .int 0, .int 0])) H) 48 47 180 := by
  refine iI_of (by decide +kernel) rfl (Nat.le_of_ble_eq_true rfl) ?_
  intro p e s m args below meth cd ls hc hr f0 hz hN hl hS
  have hx := hc.1
  have hb := hc.2.1
  have hA : ∀ q, h0 ≤ q → (fun q => h0 ≤ q) q := fun q h => h
  have hA0 : ∀ q, (fun q => h0 ≤ q) q → N0 ≤ q := fun q (h : h0 ≤ q) => Nat.le_trans hN h
  have hl : lv_has ls 2 [(0, .ref h0)] := hl
  have L49 : ∀ (r j : Nat), j + r = 40 → ∀ (H : Heap) (locs : List Loc) (ls : Array Slot), va_at D ncl (h0, .inr (6, [.ref (h0 + 1), .ref (h0 + 2), .int 0, .int 0])) H → va_at D ncl (h0 + 1, .inl (dA 3, 5, .inr (.inr (.inr (.inr (fun i => some (h0 + 3 + i))))))) H → nrow D (h0 + 3) 5 (.inr (0, [.int 0, .int 0, .int 0])) H → va_at D ncl (h0 + 2, .inl (dA 4, 40, .inr (.inr (.inr (.inr (fun i => if i < j then some (h0 + 8 + i) else none)))))) H → nrow D (h0 + 8) j (.inr (8, [.int 0, .int 0, .int 0])) H → H.size = h0 + 8 + j → va_S (fun q => h0 ≤ q) s.heap H locs → lv_has ls 2 [(1, .int (nI j)), (0, .ref h0)] → W p l e ({ frames := 2, cells := 47, slots := 180, locals := 80 } : Room) s m args below meth cd H locs (7 + j) (60 + 3 * j) (MQ below (va_Qv (fun (_ : Unit) => True) (fun _ t => (fun H => va_at D ncl (h0, .inr (6, [.ref (h0 + 1), .ref (h0 + 2), .int 0, .int 0])) H ∧ va_at D ncl (h0 + 1, .inl (dA 3, 5, .inr (.inr (.inr (.inr (fun i => some (h0 + 3 + i))))))) H ∧ va_at D ncl (h0 + 2, .inl (dA 4, 40, .inr (.inr (.inr (.inr (fun i => some (h0 + 8 + i))))))) H ∧ nrow D (h0 + 3) 5 (.inr (0, [.int 0, .int 0, .int 0])) H ∧ nrow D (h0 + 8) 40 (.inr (8, [.int 0, .int 0, .int 0])) H) t.heap ∧ t.heap.size = h0 + 48) (fun q => h0 ≤ q)) args s 47 180 (fun q => h0 ≤ q)) (F0 m 49 ls []) := by
    intro r
    induction r with
    | zero =>
      intro j hj H locs ls f0 f1 g1 f2 fr hz hS hl
      obtain rfl : j = 40 := by omega
      refine lv_iload_n hx hb dX6_init_49 rfl (lv_at hl 0 rfl) ?_
      refine lv_bipush (v := nI 40) hx hb dX6_init_50 (by decide) ?_
      refine lv_icmp_ge (tgt := 74) hx hb dX6_init_52 (by decide) (fun _ => ?_) (fun c9 => absurd (Int32.le_refl _) c9)
      replace f2 := nfill f2
      exact i_end (Z := fun H => va_at D ncl (h0, .inr (6, [.ref (h0 + 1), .ref (h0 + 2), .int 0, .int 0])) H ∧ va_at D ncl (h0 + 1, .inl (dA 3, 5, .inr (.inr (.inr (.inr (fun i => some (h0 + 3 + i))))))) H ∧ va_at D ncl (h0 + 2, .inl (dA 4, 40, .inr (.inr (.inr (.inr (fun i => some (h0 + 8 + i))))))) H ∧ nrow D (h0 + 3) 5 (.inr (0, [.int 0, .int 0, .int 0])) H ∧ nrow D (h0 + 8) 40 (.inr (8, [.int 0, .int 0, .int 0])) H) (n := 48) (mc := 47) (ms := 180) hc hr hS ⟨f0, f1, f2, g1, fr⟩ (by omega) (Nat.le_of_ble_eq_true rfl) (Nat.le_of_ble_eq_true rfl) dX6_init_74
    | succ r ih =>
      intro j hj H locs ls f0 f1 g1 f2 fr hz hS hl
      have hjn : j < 40 := by omega
      refine lv_iload_n hx hb dX6_init_49 rfl (lv_at hl 0 rfl) ?_
      refine lv_bipush (v := nI 40) hx hb dX6_init_50 (by decide) ?_
      refine lv_icmp_ge (tgt := 74) hx hb dX6_init_52 (by decide) (fun c9 => absurd c9 (nI_ge hjn (by decide))) (fun _ => ?_)
      refine lv_aload_n hx hb dX6_init_55 rfl (lv_at hl 1 rfl) ?_
      refine i_get (ci := 6) (h := h0) hc f0 rfl iX6 1 (by decide) q111 rfl dX6_init_56 ?_
      refine lv_iload_n hx hb dX6_init_59 rfl (lv_at hl 0 rfl) ?_
      refine i_new (ci := 8) (fs := [.int 0, .int 0, .int 0]) (z := h0 + 8 + j) hc hS hz rfl iX8 tyX8 tyX8_ok q66 q87 q6 (fun j hj => match j, hj with | 0, _ => rfl | 1, _ => rfl | 2, _ => rfl | n + 3, h => absurd h (by omega)) (by show 7 + j + 1 ≤ 47; omega) (by show 60 + 3 * j + 3 ≤ 180; omega) dX6_init_60 (fun H fe hz oq hS => ?_)
      replace f0 := f0.kept (oq (h0) (by omega))
      replace f1 := f1.kept (oq (h0 + 1) (by omega))
      replace g1 := g1.kept (fun q h8 h9 => oq q (by omega))
      replace f2 := f2.kept (oq (h0 + 2) (by omega))
      replace fr := fr.kept (fun q h8 h9 => oq q (by omega))
      refine lv_dup hx hb dX6_init_63 rfl ?_
      refine i_callN (h1 := h0 + 8 + j) (n := 1) (c_X8_init l D dA N0 (h0 + 8 + j)) hc hS fe hz (by omega) (fun q h => by show h0 ≤ q; omega) hA0 hl.1 rfl nok_X8_init q6 nbn6_24 q89 q90 ⟨rfl, rfl⟩ ⟨Nat.le_of_ble_eq_true rfl, Nat.le_of_ble_eq_true rfl⟩ ⟨by show 7 + j + 1 + 0 ≤ 47; omega, by show 60 + 3 * j + 3 + 0 ≤ 180; omega⟩ dX6_init_64 (Nat.le_of_ble_eq_true rfl) (fun H locs fe hz oq hS => ?_)
      replace f0 := f0.kept (oq (h0) (by omega))
      replace f1 := f1.kept (oq (h0 + 1) (by omega))
      replace g1 := g1.kept (fun q h8 h9 => oq q (by omega))
      replace f2 := f2.kept (oq (h0 + 2) (by omega))
      replace fr := fr.kept (fun q h8 h9 => oq q (by omega))
      refine i_ast (ci := 8) (r := (RX8, TX8, 3)) (a := h0 + 2) (t0 := 4) hc hS f2 (by show h0 ≤ _; omega) rfl fe rfl (nI_in hjn (by decide)) (nup_fill hjn (by decide)) dX6_init_67 (fun H locs f2 hz1 oq hS => ?_)
      replace f0 := f0.kept (oq (h0) (by omega))
      replace f1 := f1.kept (oq (h0 + 1) (by omega))
      replace g1 := g1.kept (fun q h8 h9 => oq q (by omega))
      replace fr := fr.kept (fun q h8 h9 => oq q (by omega))
      replace fe := fe.kept (oq (h0 + 8 + j) (by omega))
      refine lv_iinc (v := nI (j + 1)) (lv' := [(1, .int _), (0, .ref _)]) hx hb dX6_init_68 hl (k := 0) rfl (nI_inc j) (by decide) rfl (fun ls hl => ?_)
      refine lv_goto (tgt := 49) hx hb dX6_init_71 (by decide) ?_
      refine W.widen (k := 7 + (j + 1)) (n := 60 + 3 * (j + 1)) (by omega) (by omega) ?_
      exact ih (j + 1) (by omega) _ _ _ f0 f1 g1 f2 (nrow_s fr fe) (by omega) hS hl
  have L23 : ∀ (r j : Nat), j + r = 5 → ∀ (H : Heap) (locs : List Loc) (ls : Array Slot), va_at D ncl (h0, .inr (6, [.ref (h0 + 1), .ref (h0 + 2), .int 0, .int 0])) H → va_at D ncl (h0 + 2, .inl (dA 4, 40, .inr (.inr (.inr (.inr (fun i => if i < 0 then some (h0 + 8 + i) else none)))))) H → va_at D ncl (h0 + 1, .inl (dA 3, 5, .inr (.inr (.inr (.inr (fun i => if i < j then some (h0 + 3 + i) else none)))))) H → nrow D (h0 + 3) j (.inr (0, [.int 0, .int 0, .int 0])) H → H.size = h0 + 3 + j → va_S (fun q => h0 ≤ q) s.heap H locs → lv_has ls 2 [(1, .int (nI j)), (0, .ref h0)] → W p l e ({ frames := 2, cells := 47, slots := 180, locals := 80 } : Room) s m args below meth cd H locs (2 + j) (45 + 3 * j) (MQ below (va_Qv (fun (_ : Unit) => True) (fun _ t => (fun H => va_at D ncl (h0, .inr (6, [.ref (h0 + 1), .ref (h0 + 2), .int 0, .int 0])) H ∧ va_at D ncl (h0 + 1, .inl (dA 3, 5, .inr (.inr (.inr (.inr (fun i => some (h0 + 3 + i))))))) H ∧ va_at D ncl (h0 + 2, .inl (dA 4, 40, .inr (.inr (.inr (.inr (fun i => some (h0 + 8 + i))))))) H ∧ nrow D (h0 + 3) 5 (.inr (0, [.int 0, .int 0, .int 0])) H ∧ nrow D (h0 + 8) 40 (.inr (8, [.int 0, .int 0, .int 0])) H) t.heap ∧ t.heap.size = h0 + 48) (fun q => h0 ≤ q)) args s 47 180 (fun q => h0 ≤ q)) (F0 m 23 ls []) := by
    intro r
    induction r with
    | zero =>
      intro j hj H locs ls f0 f2 f1 fr hz hS hl
      obtain rfl : j = 5 := by omega
      refine lv_iload_n hx hb dX6_init_23 rfl (lv_at hl 0 rfl) ?_
      refine lv_iconst (v := nI 5) hx hb dX6_init_24 (by decide) ?_
      refine lv_icmp_ge (tgt := 47) hx hb dX6_init_25 (by decide) (fun _ => ?_) (fun c9 => absurd (Int32.le_refl _) c9)
      replace f1 := nfill f1
      refine lv_iconst (v := nI 0) hx hb dX6_init_47 (by decide) ?_
      refine lv_istore_n (lv' := [(1, .int _), (0, .ref _)]) hx hb dX6_init_48 rfl hl (by decide) rfl (fun ls hl => ?_)
      exact L49 40 0 (by omega) _ _ _ f0 f1 fr f2 nrow_0 (by omega) hS hl
    | succ r ih =>
      intro j hj H locs ls f0 f2 f1 fr hz hS hl
      have hjn : j < 5 := by omega
      refine lv_iload_n hx hb dX6_init_23 rfl (lv_at hl 0 rfl) ?_
      refine lv_iconst (v := nI 5) hx hb dX6_init_24 (by decide) ?_
      refine lv_icmp_ge (tgt := 47) hx hb dX6_init_25 (by decide) (fun c9 => absurd c9 (nI_ge hjn (by decide))) (fun _ => ?_)
      refine lv_aload_n hx hb dX6_init_28 rfl (lv_at hl 1 rfl) ?_
      refine i_get (ci := 6) (h := h0) hc f0 rfl iX6 0 (by decide) q108 rfl dX6_init_29 ?_
      refine lv_iload_n hx hb dX6_init_32 rfl (lv_at hl 0 rfl) ?_
      refine i_new (ci := 0) (fs := [.int 0, .int 0, .int 0]) (z := h0 + 3 + j) hc hS hz rfl iX0 tyX0 tyX0_ok q64 q68 q5 (fun j hj => match j, hj with | 0, _ => rfl | 1, _ => rfl | 2, _ => rfl | n + 3, h => absurd h (by omega)) (by show 2 + j + 1 ≤ 47; omega) (by show 45 + 3 * j + 3 ≤ 180; omega) dX6_init_33 (fun H fe hz oq hS => ?_)
      replace f0 := f0.kept (oq (h0) (by omega))
      replace f2 := f2.kept (oq (h0 + 2) (by omega))
      replace f1 := f1.kept (oq (h0 + 1) (by omega))
      replace fr := fr.kept (fun q h8 h9 => oq q (by omega))
      refine lv_dup hx hb dX6_init_36 rfl ?_
      refine i_callN (h1 := h0 + 3 + j) (n := 1) (c_X0_init l D dA N0 (h0 + 3 + j)) hc hS fe hz (by omega) (fun q h => by show h0 ≤ q; omega) hA0 hl.1 rfl nok_X0_init q5 nbn6_23 q70 q71 ⟨rfl, rfl⟩ ⟨Nat.le_of_ble_eq_true rfl, Nat.le_of_ble_eq_true rfl⟩ ⟨by show 2 + j + 1 + 0 ≤ 47; omega, by show 45 + 3 * j + 3 + 0 ≤ 180; omega⟩ dX6_init_37 (Nat.le_of_ble_eq_true rfl) (fun H locs fe hz oq hS => ?_)
      replace f0 := f0.kept (oq (h0) (by omega))
      replace f2 := f2.kept (oq (h0 + 2) (by omega))
      replace f1 := f1.kept (oq (h0 + 1) (by omega))
      replace fr := fr.kept (fun q h8 h9 => oq q (by omega))
      refine i_ast (ci := 0) (r := (RX0, TX0, 3)) (a := h0 + 1) (t0 := 3) hc hS f1 (by show h0 ≤ _; omega) rfl fe rfl (nI_in hjn (by decide)) (nup_fill hjn (by decide)) dX6_init_40 (fun H locs f1 hz1 oq hS => ?_)
      replace f0 := f0.kept (oq (h0) (by omega))
      replace f2 := f2.kept (oq (h0 + 2) (by omega))
      replace fr := fr.kept (fun q h8 h9 => oq q (by omega))
      replace fe := fe.kept (oq (h0 + 3 + j) (by omega))
      refine lv_iinc (v := nI (j + 1)) (lv' := [(1, .int _), (0, .ref _)]) hx hb dX6_init_41 hl (k := 0) rfl (nI_inc j) (by decide) rfl (fun ls hl => ?_)
      refine lv_goto (tgt := 23) hx hb dX6_init_44 (by decide) ?_
      refine W.widen (k := 2 + (j + 1)) (n := 45 + 3 * (j + 1)) (by omega) (by omega) ?_
      exact ih (j + 1) (by omega) _ _ _ f0 f2 f1 (nrow_s fr fe) (by omega) hS hl
  refine lv_aload_n hx hb dX6_init_0 rfl (lv_at hl 0 rfl) ?_
  refine i_sup hc hl.1 q63 ⟨Nat.le_of_ble_eq_true rfl, Nat.le_of_ble_eq_true rfl⟩ (Nat.le_of_ble_eq_true rfl) dX6_init_1 ?_
  refine lv_aload_n hx hb dX6_init_4 rfl (lv_at hl 0 rfl) ?_
  refine lv_iconst (v := 5) hx hb dX6_init_5 (by decide) ?_
  refine i_newq (t0 := 3) (N := 5) (z := h0 + 1) hc hS hz q64 (by decide) rfl (by decide) (by decide) (Nat.le_of_ble_eq_true rfl) (Nat.le_of_ble_eq_true rfl) (Nat.le_of_ble_eq_true rfl) dX6_init_6 (fun H f1 hz oq hS => ?_)
  replace f0 := f0.kept (oq (h0) (by omega))
  refine i_fin (ci := 6) (h := h0) (v := .ref (h0 + 1)) hc hS f0 (Nat.le_refl _) rfl iX6 tyX6 tyX6_ok nmX6 0 (by decide) q108 rfl rfl (tyX6_ok 0 (by decide)) rfl rfl (Nat.le_of_ble_eq_true rfl) dX6_init_9 (fun H locs f0 hz1 oq hS => ?_)
  replace hz := hz1.trans hz
  replace f0 : va_at D ncl (h0, .inr (6, [.ref (h0 + 1), .null, .int 0, .int 0])) H := f0
  replace f1 := f1.kept (oq (h0 + 1) (by omega))
  refine lv_aload_n hx hb dX6_init_12 rfl (lv_at hl 0 rfl) ?_
  refine lv_bipush (v := 40) hx hb dX6_init_13 (by decide) ?_
  refine i_newq (t0 := 4) (N := 40) (z := h0 + 2) hc hS hz q66 (by decide) rfl (by decide) (by decide) (Nat.le_of_ble_eq_true rfl) (Nat.le_of_ble_eq_true rfl) (Nat.le_of_ble_eq_true rfl) dX6_init_15 (fun H f2 hz oq hS => ?_)
  replace f0 := f0.kept (oq (h0) (by omega))
  replace f1 := f1.kept (oq (h0 + 1) (by omega))
  refine i_fin (ci := 6) (h := h0) (v := .ref (h0 + 2)) hc hS f0 (Nat.le_refl _) rfl iX6 tyX6 tyX6_ok nmX6 1 (by decide) q111 rfl rfl (tyX6_ok 1 (by decide)) rfl rfl (Nat.le_of_ble_eq_true rfl) dX6_init_18 (fun H locs f0 hz1 oq hS => ?_)
  replace hz := hz1.trans hz
  replace f0 : va_at D ncl (h0, .inr (6, [.ref (h0 + 1), .ref (h0 + 2), .int 0, .int 0])) H := f0
  replace f1 := f1.kept (oq (h0 + 1) (by omega))
  replace f2 := f2.kept (oq (h0 + 2) (by omega))
  refine lv_iconst (v := nI 0) hx hb dX6_init_21 (by decide) ?_
  refine lv_istore_n (lv' := [(1, .int _), (0, .ref _)]) hx hb dX6_init_22 rfl hl (by decide) rfl (fun ls hl => ?_)
  exact L23 5 0 (by omega) _ _ _ f0 (nnone f2) (nnone f1) nrow_0 (by omega) hS hl
def iad (h0 k i : Nat) : Nat := match k with
  | 0 => h0
  | 1 => h0 + 1
  | 2 => h0 + 2
  | 3 => h0 + 3
  | 4 => h0 + 5 + i
  | 5 => h0 + 4
  | 6 => h0 + 10 + i
  | 7 => h0 + 50
  | 8 => h0 + 51
  | 9 => h0 + 52
  | 10 => h0 + 53
  | 11 => h0 + 56 + i
  | 12 => h0 + 54
  | 13 => h0 + 68 + i
  | _ => h0 + 55
def ikd (n : Nat) : Nat := if n = 0 then 0 else if n = 1 then 1 else if n = 2 then 2 else if n = 3 then 3 else if n = 4 then 5 else if n < 10 then 4 else if n < 50 then 6 else if n = 50 then 7 else if n = 51 then 8 else if n = 52 then 9 else if n = 53 then 10 else if n = 54 then 12 else if n = 55 then 14 else if n < 68 then 11 else 13
def iid (n : Nat) : Nat := if n < 5 then 0 else if n < 10 then n - 5 else if n < 50 then n - 10 else if n < 56 then 0 else if n < 68 then n - 56 else n - 68
theorem iad_ok {h0 k i : Nat} (hk : k < 15) (hi : i < nsz k) : ikd (iad h0 k i - h0) = k ∧ iid (iad h0 k i - h0) = i ∧ h0 ≤ iad h0 k i ∧ iad h0 k i < h0 + 218 := by
  match k, hk, hi with
  | 0, _, hi =>
    replace hi : i < 1 := hi
    obtain rfl : i = 0 := by omega
    show ikd (h0 - h0) = 0 ∧ iid (h0 - h0) = 0 ∧ h0 ≤ h0 ∧ h0 < h0 + 218
    rw [show h0 - h0 = 0 by omega]
    exact ⟨rfl, rfl, by omega, by omega⟩
  | 1, _, hi =>
    replace hi : i < 1 := hi
    obtain rfl : i = 0 := by omega
    show ikd (h0 + 1 - h0) = 1 ∧ iid (h0 + 1 - h0) = 0 ∧ h0 ≤ h0 + 1 ∧ h0 + 1 < h0 + 218
    rw [show h0 + 1 - h0 = 1 by omega]
    exact ⟨rfl, rfl, by omega, by omega⟩
  | 2, _, hi =>
    replace hi : i < 1 := hi
    obtain rfl : i = 0 := by omega
    show ikd (h0 + 2 - h0) = 2 ∧ iid (h0 + 2 - h0) = 0 ∧ h0 ≤ h0 + 2 ∧ h0 + 2 < h0 + 218
    rw [show h0 + 2 - h0 = 2 by omega]
    exact ⟨rfl, rfl, by omega, by omega⟩
  | 3, _, hi =>
    replace hi : i < 1 := hi
    obtain rfl : i = 0 := by omega
    show ikd (h0 + 3 - h0) = 3 ∧ iid (h0 + 3 - h0) = 0 ∧ h0 ≤ h0 + 3 ∧ h0 + 3 < h0 + 218
    rw [show h0 + 3 - h0 = 3 by omega]
    exact ⟨rfl, rfl, by omega, by omega⟩
  | 4, _, hi =>
    replace hi : i < 5 := hi
    show ikd (h0 + 5 + i - h0) = 4 ∧ iid (h0 + 5 + i - h0) = i ∧ h0 ≤ h0 + 5 + i ∧ h0 + 5 + i < h0 + 218
    rw [show h0 + 5 + i - h0 = 5 + i by omega]
    unfold ikd iid
    refine ⟨?_, ?_, by omega, by omega⟩
    · rw [if_neg (by omega : ¬ 5 + i = 0), if_neg (by omega : ¬ 5 + i = 1), if_neg (by omega : ¬ 5 + i = 2), if_neg (by omega : ¬ 5 + i = 3), if_neg (by omega : ¬ 5 + i = 4), if_pos (by omega : 5 + i < 10)]
    · rw [if_neg (by omega : ¬ 5 + i < 5), if_pos (by omega : 5 + i < 10)]; omega
  | 5, _, hi =>
    replace hi : i < 1 := hi
    obtain rfl : i = 0 := by omega
    show ikd (h0 + 4 - h0) = 5 ∧ iid (h0 + 4 - h0) = 0 ∧ h0 ≤ h0 + 4 ∧ h0 + 4 < h0 + 218
    rw [show h0 + 4 - h0 = 4 by omega]
    exact ⟨rfl, rfl, by omega, by omega⟩
  | 6, _, hi =>
    replace hi : i < 40 := hi
    show ikd (h0 + 10 + i - h0) = 6 ∧ iid (h0 + 10 + i - h0) = i ∧ h0 ≤ h0 + 10 + i ∧ h0 + 10 + i < h0 + 218
    rw [show h0 + 10 + i - h0 = 10 + i by omega]
    unfold ikd iid
    refine ⟨?_, ?_, by omega, by omega⟩
    · rw [if_neg (by omega : ¬ 10 + i = 0), if_neg (by omega : ¬ 10 + i = 1), if_neg (by omega : ¬ 10 + i = 2), if_neg (by omega : ¬ 10 + i = 3), if_neg (by omega : ¬ 10 + i = 4), if_neg (by omega : ¬ 10 + i < 10), if_pos (by omega : 10 + i < 50)]
    · rw [if_neg (by omega : ¬ 10 + i < 5), if_neg (by omega : ¬ 10 + i < 10), if_pos (by omega : 10 + i < 50)]; omega
  | 7, _, hi =>
    replace hi : i < 1 := hi
    obtain rfl : i = 0 := by omega
    show ikd (h0 + 50 - h0) = 7 ∧ iid (h0 + 50 - h0) = 0 ∧ h0 ≤ h0 + 50 ∧ h0 + 50 < h0 + 218
    rw [show h0 + 50 - h0 = 50 by omega]
    exact ⟨rfl, rfl, by omega, by omega⟩
  | 8, _, hi =>
    replace hi : i < 1 := hi
    obtain rfl : i = 0 := by omega
    show ikd (h0 + 51 - h0) = 8 ∧ iid (h0 + 51 - h0) = 0 ∧ h0 ≤ h0 + 51 ∧ h0 + 51 < h0 + 218
    rw [show h0 + 51 - h0 = 51 by omega]
    exact ⟨rfl, rfl, by omega, by omega⟩
  | 9, _, hi =>
    replace hi : i < 1 := hi
    obtain rfl : i = 0 := by omega
    show ikd (h0 + 52 - h0) = 9 ∧ iid (h0 + 52 - h0) = 0 ∧ h0 ≤ h0 + 52 ∧ h0 + 52 < h0 + 218
    rw [show h0 + 52 - h0 = 52 by omega]
    exact ⟨rfl, rfl, by omega, by omega⟩
  | 10, _, hi =>
    replace hi : i < 1 := hi
    obtain rfl : i = 0 := by omega
    show ikd (h0 + 53 - h0) = 10 ∧ iid (h0 + 53 - h0) = 0 ∧ h0 ≤ h0 + 53 ∧ h0 + 53 < h0 + 218
    rw [show h0 + 53 - h0 = 53 by omega]
    exact ⟨rfl, rfl, by omega, by omega⟩
  | 11, _, hi =>
    replace hi : i < 12 := hi
    show ikd (h0 + 56 + i - h0) = 11 ∧ iid (h0 + 56 + i - h0) = i ∧ h0 ≤ h0 + 56 + i ∧ h0 + 56 + i < h0 + 218
    rw [show h0 + 56 + i - h0 = 56 + i by omega]
    unfold ikd iid
    refine ⟨?_, ?_, by omega, by omega⟩
    · rw [if_neg (by omega : ¬ 56 + i = 0), if_neg (by omega : ¬ 56 + i = 1), if_neg (by omega : ¬ 56 + i = 2), if_neg (by omega : ¬ 56 + i = 3), if_neg (by omega : ¬ 56 + i = 4), if_neg (by omega : ¬ 56 + i < 10), if_neg (by omega : ¬ 56 + i < 50), if_neg (by omega : ¬ 56 + i = 50), if_neg (by omega : ¬ 56 + i = 51), if_neg (by omega : ¬ 56 + i = 52), if_neg (by omega : ¬ 56 + i = 53), if_neg (by omega : ¬ 56 + i = 54), if_neg (by omega : ¬ 56 + i = 55), if_pos (by omega : 56 + i < 68)]
    · rw [if_neg (by omega : ¬ 56 + i < 5), if_neg (by omega : ¬ 56 + i < 10), if_neg (by omega : ¬ 56 + i < 50), if_neg (by omega : ¬ 56 + i < 56), if_pos (by omega : 56 + i < 68)]; omega
  | 12, _, hi =>
    replace hi : i < 1 := hi
    obtain rfl : i = 0 := by omega
    show ikd (h0 + 54 - h0) = 12 ∧ iid (h0 + 54 - h0) = 0 ∧ h0 ≤ h0 + 54 ∧ h0 + 54 < h0 + 218
    rw [show h0 + 54 - h0 = 54 by omega]
    exact ⟨rfl, rfl, by omega, by omega⟩
  | 13, _, hi =>
    replace hi : i < 150 := hi
    show ikd (h0 + 68 + i - h0) = 13 ∧ iid (h0 + 68 + i - h0) = i ∧ h0 ≤ h0 + 68 + i ∧ h0 + 68 + i < h0 + 218
    rw [show h0 + 68 + i - h0 = 68 + i by omega]
    unfold ikd iid
    refine ⟨?_, ?_, by omega, by omega⟩
    · rw [if_neg (by omega : ¬ 68 + i = 0), if_neg (by omega : ¬ 68 + i = 1), if_neg (by omega : ¬ 68 + i = 2), if_neg (by omega : ¬ 68 + i = 3), if_neg (by omega : ¬ 68 + i = 4), if_neg (by omega : ¬ 68 + i < 10), if_neg (by omega : ¬ 68 + i < 50), if_neg (by omega : ¬ 68 + i = 50), if_neg (by omega : ¬ 68 + i = 51), if_neg (by omega : ¬ 68 + i = 52), if_neg (by omega : ¬ 68 + i = 53), if_neg (by omega : ¬ 68 + i = 54), if_neg (by omega : ¬ 68 + i = 55), if_neg (by omega : ¬ 68 + i < 68)]
    · rw [if_neg (by omega : ¬ 68 + i < 5), if_neg (by omega : ¬ 68 + i < 10), if_neg (by omega : ¬ 68 + i < 50), if_neg (by omega : ¬ 68 + i < 56), if_neg (by omega : ¬ 68 + i < 68)]; omega
  | 14, _, hi =>
    replace hi : i < 1 := hi
    obtain rfl : i = 0 := by omega
    show ikd (h0 + 55 - h0) = 14 ∧ iid (h0 + 55 - h0) = 0 ∧ h0 ≤ h0 + 55 ∧ h0 + 55 < h0 + 218
    rw [show h0 + 55 - h0 = 55 by omega]
    exact ⟨rfl, rfl, by omega, by omega⟩
theorem iad_inj {h0 k i k' i' : Nat} (hk : k < 15) (hi : i < nsz k) (hk' : k' < 15) (hi' : i' < nsz k') (h : iad h0 k i = iad h0 k' i') : k = k' ∧ i = i' := by
  obtain ⟨a1, a2, -, -⟩ := iad_ok (h0 := h0) hk hi
  obtain ⟨b1, b2, -, -⟩ := iad_ok (h0 := h0) hk' hi'
  rw [h] at a1 a2
  exact ⟨a1.symm.trans b1, a2.symm.trans b2⟩
abbrev iS0 : NSt := fun _ _ _ => 0
def iOff (D : va_G) (dA : Nat → ClassId) (h0 : Nat) (S : NSt) (H : Heap) : Prop := ∀ k i, k < 15 → i < nsz k → va_at D ncl (iad h0 k i, ncell dA (fun _ => iad h0) (S k i) 0 k) H
theorem iOff.kept {D : va_G} {dA : Nat → ClassId} {h0 : Nat} {S : NSt} {H H1 : Heap} (h : iOff D dA h0 S H) (hq : ∀ q, h0 ≤ q → q < h0 + 218 → H1[q]? = H[q]?) : iOff D dA h0 S H1 := fun k i hk hi => (h k i hk hi).kept (hq _ (iad_ok hk hi).2.2.1 (iad_ok hk hi).2.2.2)
theorem iV0 {o k i : Nat} (h : nV (fun o => o = 0) o k i) : o = 0 ∧ k < 15 ∧ i < nsz k := by
  obtain ⟨h1, h2, h3⟩ := h
  have h1 : o = 0 := h1
  refine ⟨h1, ?_, h2⟩
  omega
theorem iinj {h0 : Nat} : ninj (fun _ => iad h0) (fun o => o = 0) := by
  intro o k i o' k' i' h h' he
  obtain ⟨rfl, hk, hi⟩ := iV0 h
  obtain ⟨rfl, hk', hi'⟩ := iV0 h'
  exact ⟨rfl, iad_inj hk hi hk' hi' he⟩
theorem inA {h0 q : Nat} (h : nA (fun _ => iad h0) (fun o => o = 0) q) : h0 ≤ q ∧ q < h0 + 218 := by
  obtain ⟨o, k, i, hv, rfl⟩ := h
  obtain ⟨-, hk, hi⟩ := iV0 hv
  exact ⟨(iad_ok hk hi).2.2.1, (iad_ok hk hi).2.2.2⟩
theorem iOff_of {D : va_G} {dA : Nat → ClassId} {h0 : Nat} {X : NWd} {H : Heap} (h : npic D dA (fun _ => iad h0) (fun o => o = 0) X H) : iOff D dA h0 (X 0) H := fun k i hk hi => h 0 k i ⟨rfl, hi, Or.inl ⟨by decide, hk⟩⟩
theorem iOff_to {D : va_G} {dA : Nat → ClassId} {h0 : Nat} {S : NSt} {H : Heap} (h : iOff D dA h0 S H) : npic D dA (fun _ => iad h0) (fun o => o = 0) (fun _ => S) H := by
  intro o k i hv
  obtain ⟨rfl, hk, hi⟩ := iV0 hv
  exact h k i hk hi
section IV
variable {p : Program} {l : Launch} {e : Env} {R : Room} {s : State} {m : MethodId} {args : Array Value} {below : List Frame} {meth : Method} {c : Code} {H : Heap} {locs : List Loc} {cells slots : Nat} {Q : State → Prop}
variable {cc : ByteArray} {nL pc : Nat} {own : String} {ls : Array Slot} {rest : List Value} {D : va_G} {dA : Nat → ClassId} {N0 : Nat} {A : Nat → Prop}
theorem i_size {g : JFrame} (kk : H.size ≤ s.heap.size + cells → W p l e R s m args below meth c H locs cells slots Q g) : W p l e R s m args below meth c H locs cells slots Q g := by
  intro T hT X
  exact kk (by rw [← hT]; exact X.heapSize) T hT X
theorem i_vv {ad : Nat → Nat → Nat → Nat} {on : Nat → Prop} {y : MethodName} {bytes : ByteArray} {maxL idx b : Nat} {rm : Room} {X : NWd} {P : NWd → Prop} (hM : nMv l D dA ad on y bytes maxL rm [.ref b] X P) (hc : iC p s m args meth c cc nL own D dA N0) (hP : npic D dA ad on X H) (hS : va_S A s.heap H locs) (hA : ∀ q, nA ad on q → A q) (hA0 : ∀ q, A q → N0 ≤ q) (hsz : ls.size = nL) (hg : GoodIn gw (wsV own idx y.cls y (nws y bytes maxL none))) (hrv : ∃ cell : Cell, H[b]? = some cell ∧ cell.vm.isStatics = false ∧ s.vm.findClass y.cls = some cell.cls) (hrm : rm.cells = 0 ∧ rm.slots = 0) (hok : nOk y 0) (hR : rm.frames + 1 ≤ R.frames ∧ 8 + (maxL + 11) + rm.locals ≤ R.locals) (hf : cells ≤ R.cells ∧ slots ≤ R.slots) (hdg : decode cc pc = .ok (.invokevirtual idx, 3)) (hW : (rest.map fun v => v.category).sum ≤ 8)
    (kk : ∀ (X' : NWd) (H1 : Heap) (locs1 : List Loc), P X' → npic D dA ad on X' H1 → H.size ≤ H1.size → va_S A s.heap H1 locs1 → W p l e R s m args below meth c H1 locs1 cells slots Q (F0 m (pc + 3) ls rest)) : W p l e R s m args below meth c H locs cells slots Q (F0 m pc ls (.ref b :: rest)) := by
  obtain ⟨hx, hb, hml, hown, hts, hT, hmi, hlk, hZ, -⟩ := hc
  refine va_callv (va_runV (As := []) (rest := rest) ⟨hx, hb, hml, hown, hts⟩ hM (cwV 0 hts hg rfl hrm.1 hrm.2 ⟨rfl, hok⟩ hR) ⟨nblind, hrv, ?_⟩ rfl rfl hsz rfl (lv_room hW) hdg hf) hS (fun q _ h => hA q h) hA ?_
  · intro U hU hW
    have hk : ∀ q : Nat, q < s.heap.size → ¬ N0 ≤ q → H[q]? = s.heap[q]? := fun q h1 h2 => hS.2.1 q h1 (fun z => h2 (hA0 q z))
    exact ⟨rfl, ntab_warm hW hT, by rw [hU]; exact hP, by rw [hU]; exact vx_Zq.moved hW.alike ((hZ.1.kept hk).narrow (fun q h => hA0 q (hA q h))), by rw [hU]; exact vx_Zq.moved hW.alike ((hZ.2.kept hk).narrow (fun q h => hA0 q (hA q h)))⟩
  · intro X' t H1 locs1 ht _ hp hb1 hz _ hS1
    rw [ht] at hb1
    exact kk X' H1 locs1 hp hb1 hz hS1
end IV
set_option maxRecDepth 100000 in
theorem c_X4_init (l : Launch) (D : va_G) (dA : Nat → ClassId) (N0 h0 : Nat) : nIv l D dA N0 yX4_init cX4_init 2 ({ frames := 5, cells := 217, slots := 1425, locals := 200 } : Room) h0 (.inr (4, [.null, .null, .null, .null, .null, .null, .int 0, .int 0, .int 0])) (fun H => iOff D dA h0 (oRestart iS0) H) 218 217 1425 := by
  refine iI_of (by decide +kernel) rfl (Nat.le_of_ble_eq_true rfl) ?_
  intro p e s m args below meth cd ls hc hr f0 hz hN hl hS
  have hx := hc.1
  have hb := hc.2.1
  have hA : ∀ q, h0 ≤ q → (fun q => h0 ≤ q) q := fun q h => h
  have hA0 : ∀ q, (fun q => h0 ≤ q) q → N0 ≤ q := fun q (h : h0 ≤ q) => Nat.le_trans hN h
  have hl : lv_has ls 2 [(0, .ref h0)] := hl
  have hz0 := hz
  have L94 : ∀ (r j : Nat), j + r = 150 → ∀ (H : Heap) (locs : List Loc) (ls : Array Slot), va_at D ncl (h0, .inr (4, [.ref (h0 + 1), .ref (h0 + 2), .ref (h0 + 50), .ref (h0 + 53), .ref (h0 + 54), .ref (h0 + 55), .int 0, .int 0, .int 0])) H → va_at D ncl (h0 + 1, .inr (1, [.int 0, .int 0, .int 0, .int 0])) H → va_at D ncl (h0 + 2, .inr (6, [.ref (h0 + 3), .ref (h0 + 4), .int 0, .int 0])) H → va_at D ncl (h0 + 3, .inl (dA 3, 5, .inr (.inr (.inr (.inr (fun i => some (h0 + 5 + i))))))) H → va_at D ncl (h0 + 4, .inl (dA 4, 40, .inr (.inr (.inr (.inr (fun i => some (h0 + 10 + i))))))) H → nrow D (h0 + 5) 5 (.inr (0, [.int 0, .int 0, .int 0])) H → nrow D (h0 + 10) 40 (.inr (8, [.int 0, .int 0, .int 0])) H → va_at D ncl (h0 + 50, .inr (3, [.ref (h0 + 51), .ref (h0 + 52), .int 0])) H → va_at D ncl (h0 + 51, .inl (dA 2, 26, .inl (fun _ => 0))) H → va_at D ncl (h0 + 52, .inl (dA 0, 26, .inl (fun _ => 0))) H → va_at D ncl (h0 + 55, .inl (dA 0, 150, .inl (fun _ => 0))) H → va_at D ncl (h0 + 53, .inl (dA 5, 12, .inr (.inr (.inr (.inr (fun i => some (h0 + 56 + i))))))) H → nrow D (h0 + 56) 12 (.inr (5, [.int 0, .int 0, .int 0, .int 0, .int 0, .int 0, .int 0, .int 0, .int 0, .int 0])) H → va_at D ncl (h0 + 54, .inl (dA 6, 150, .inr (.inr (.inr (.inr (fun i => if i < j then some (h0 + 68 + i) else none)))))) H → nrow D (h0 + 68) j (.inr (7, [.int 0, .int 0, .int 0, .int 0, .int 0])) H → H.size = h0 + 68 + j → va_S (fun q => h0 ≤ q) s.heap H locs → lv_has ls 2 [(1, .int (nI j)), (0, .ref h0)] → W p l e ({ frames := 5, cells := 217, slots := 1425, locals := 200 } : Room) s m args below meth cd H locs (67 + j) (675 + 5 * j) (MQ below (va_Qv (fun (_ : Unit) => True) (fun _ t => (fun H => iOff D dA h0 (oRestart iS0) H) t.heap ∧ t.heap.size = h0 + 218) (fun q => h0 ≤ q)) args s 217 1425 (fun q => h0 ≤ q)) (F0 m 94 ls []) := by
    intro r
    induction r with
    | zero =>
      intro j hj H locs ls f0 f2 f4 f5 f6 f7 f8 f10 f11 f12 f15 f13 g1 f14 fr hz hS hl
      obtain rfl : j = 150 := by omega
      refine lv_iload_n hx hb dX4_init_94 rfl (lv_at hl 0 rfl) ?_
      refine lv_sipush (v := nI 150) hx hb dX4_init_95 (by decide) ?_
      refine lv_icmp_ge (tgt := 120) hx hb dX4_init_98 (by decide) (fun _ => ?_) (fun c9 => absurd (Int32.le_refl _) c9)
      replace f14 := nfill f14
      have hP : npic D dA (fun _ => iad h0) (fun o => o = 0) (fun _ => iS0) H := by
        intro o k i hv
        obtain ⟨rfl, hk, hi⟩ := iV0 hv
        match k, hk, hi with
        | 0, _, hi => exact f0
        | 1, _, hi => exact f2
        | 2, _, hi => exact f4
        | 3, _, hi => exact f5
        | 4, _, hi => exact f7 i hi
        | 5, _, hi => exact f6
        | 6, _, hi => exact f8 i hi
        | 7, _, hi => exact f10
        | 8, _, hi => exact f11
        | 9, _, hi => exact f12
        | 10, _, hi => exact f13
        | 11, _, hi => exact g1 i hi
        | 12, _, hi => exact f14
        | 13, _, hi => exact fr i hi
        | 14, _, hi => exact f15
      refine lv_aload_n hx hb dX4_init_120 rfl (lv_at hl 1 rfl) ?_
      refine i_vv (c_X4_restart (o := 0) (S := iS0) iinj rfl (by decide)) hc (by have h9 := hP; rw [show (fun _ => iS0 : NWd) = wdo (fun _ => iS0) 0 iS0 from wdo_eta.symm] at h9; exact h9) hS (fun q h => (inA h).1) hA0 hl.1 gd4_50 (va_recv hc.2.2.2.2.2.1.1 (npic_one f0) (q := (RX4, TX4, 9)) rfl (q0 := 0) rfl) ⟨rfl, rfl⟩ nok_X4_restart ⟨Nat.le_of_ble_eq_true rfl, Nat.le_of_ble_eq_true rfl⟩ ⟨Nat.le_of_ble_eq_true rfl, Nat.le_of_ble_eq_true rfl⟩ dX4_init_121 (Nat.le_of_ble_eq_true rfl) (fun X1 H1 locs hp hP1 hz1 hS => ?_)
      rw [hp] at hP1
      have hZ := iOff_of hP1
      rw [wdo_at] at hZ
      refine i_size (fun hz2 => ?_)
      have hzs : s.heap.size = h0 + 1 := hz0
      exact i_end (Z := fun H => iOff D dA h0 (oRestart iS0) H) (n := 218) (mc := 217) (ms := 1425) hc hr hS hZ (by omega) (Nat.le_of_ble_eq_true rfl) (Nat.le_of_ble_eq_true rfl) dX4_init_124
    | succ r ih =>
      intro j hj H locs ls f0 f2 f4 f5 f6 f7 f8 f10 f11 f12 f15 f13 g1 f14 fr hz hS hl
      have hjn : j < 150 := by omega
      refine lv_iload_n hx hb dX4_init_94 rfl (lv_at hl 0 rfl) ?_
      refine lv_sipush (v := nI 150) hx hb dX4_init_95 (by decide) ?_
      refine lv_icmp_ge (tgt := 120) hx hb dX4_init_98 (by decide) (fun c9 => absurd c9 (nI_ge hjn (by decide))) (fun _ => ?_)
      refine lv_aload_n hx hb dX4_init_101 rfl (lv_at hl 1 rfl) ?_
      refine i_get (ci := 4) (h := h0) hc f0 rfl iX4 4 (by decide) q259 rfl dX4_init_102 ?_
      refine lv_iload_n hx hb dX4_init_105 rfl (lv_at hl 0 rfl) ?_
      refine i_new (ci := 7) (fs := [.int 0, .int 0, .int 0, .int 0, .int 0]) (z := h0 + 68 + j) hc hS hz rfl iX7 tyX7 tyX7_ok q149 q204 q9 (fun j hj => match j, hj with | 0, _ => rfl | 1, _ => rfl | 2, _ => rfl | 3, _ => rfl | 4, _ => rfl | n + 5, h => absurd h (by omega)) (by show 67 + j + 1 ≤ 217; omega) (by show 675 + 5 * j + 5 ≤ 1425; omega) dX4_init_106 (fun H fe hz oq hS => ?_)
      replace f0 := f0.kept (oq (h0) (by omega))
      replace f2 := f2.kept (oq (h0 + 1) (by omega))
      replace f4 := f4.kept (oq (h0 + 2) (by omega))
      replace f5 := f5.kept (oq (h0 + 3) (by omega))
      replace f6 := f6.kept (oq (h0 + 4) (by omega))
      replace f7 := f7.kept (fun q h8 h9 => oq q (by omega))
      replace f8 := f8.kept (fun q h8 h9 => oq q (by omega))
      replace f10 := f10.kept (oq (h0 + 50) (by omega))
      replace f11 := f11.kept (oq (h0 + 51) (by omega))
      replace f12 := f12.kept (oq (h0 + 52) (by omega))
      replace f15 := f15.kept (oq (h0 + 55) (by omega))
      replace f13 := f13.kept (oq (h0 + 53) (by omega))
      replace g1 := g1.kept (fun q h8 h9 => oq q (by omega))
      replace f14 := f14.kept (oq (h0 + 54) (by omega))
      replace fr := fr.kept (fun q h8 h9 => oq q (by omega))
      refine lv_dup hx hb dX4_init_109 rfl ?_
      refine i_callN (h1 := h0 + 68 + j) (n := 1) (c_X7_init l D dA N0 (h0 + 68 + j)) hc hS fe hz (by omega) (fun q h => by show h0 ≤ q; omega) hA0 hl.1 rfl nok_X7_init q9 nbn4_49 q206 q207 ⟨rfl, rfl⟩ ⟨Nat.le_of_ble_eq_true rfl, Nat.le_of_ble_eq_true rfl⟩ ⟨by show 67 + j + 1 + 0 ≤ 217; omega, by show 675 + 5 * j + 5 + 0 ≤ 1425; omega⟩ dX4_init_110 (Nat.le_of_ble_eq_true rfl) (fun H locs fe hz oq hS => ?_)
      replace f0 := f0.kept (oq (h0) (by omega))
      replace f2 := f2.kept (oq (h0 + 1) (by omega))
      replace f4 := f4.kept (oq (h0 + 2) (by omega))
      replace f5 := f5.kept (oq (h0 + 3) (by omega))
      replace f6 := f6.kept (oq (h0 + 4) (by omega))
      replace f7 := f7.kept (fun q h8 h9 => oq q (by omega))
      replace f8 := f8.kept (fun q h8 h9 => oq q (by omega))
      replace f10 := f10.kept (oq (h0 + 50) (by omega))
      replace f11 := f11.kept (oq (h0 + 51) (by omega))
      replace f12 := f12.kept (oq (h0 + 52) (by omega))
      replace f15 := f15.kept (oq (h0 + 55) (by omega))
      replace f13 := f13.kept (oq (h0 + 53) (by omega))
      replace g1 := g1.kept (fun q h8 h9 => oq q (by omega))
      replace f14 := f14.kept (oq (h0 + 54) (by omega))
      replace fr := fr.kept (fun q h8 h9 => oq q (by omega))
      refine i_ast (ci := 7) (r := (RX7, TX7, 5)) (a := h0 + 54) (t0 := 6) hc hS f14 (by show h0 ≤ _; omega) rfl fe rfl (nI_in hjn (by decide)) (nup_fill hjn (by decide)) dX4_init_113 (fun H locs f14 hz1 oq hS => ?_)
      replace f0 := f0.kept (oq (h0) (by omega))
      replace f2 := f2.kept (oq (h0 + 1) (by omega))
      replace f4 := f4.kept (oq (h0 + 2) (by omega))
      replace f5 := f5.kept (oq (h0 + 3) (by omega))
      replace f6 := f6.kept (oq (h0 + 4) (by omega))
      replace f7 := f7.kept (fun q h8 h9 => oq q (by omega))
      replace f8 := f8.kept (fun q h8 h9 => oq q (by omega))
      replace f10 := f10.kept (oq (h0 + 50) (by omega))
      replace f11 := f11.kept (oq (h0 + 51) (by omega))
      replace f12 := f12.kept (oq (h0 + 52) (by omega))
      replace f15 := f15.kept (oq (h0 + 55) (by omega))
      replace f13 := f13.kept (oq (h0 + 53) (by omega))
      replace g1 := g1.kept (fun q h8 h9 => oq q (by omega))
      replace fr := fr.kept (fun q h8 h9 => oq q (by omega))
      replace fe := fe.kept (oq (h0 + 68 + j) (by omega))
      refine lv_iinc (v := nI (j + 1)) (lv' := [(1, .int _), (0, .ref _)]) hx hb dX4_init_114 hl (k := 0) rfl (nI_inc j) (by decide) rfl (fun ls hl => ?_)
      refine lv_goto (tgt := 94) hx hb dX4_init_117 (by decide) ?_
      refine W.widen (k := 67 + (j + 1)) (n := 675 + 5 * (j + 1)) (by omega) (by omega) ?_
      exact ih (j + 1) (by omega) _ _ _ f0 f2 f4 f5 f6 f7 f8 f10 f11 f12 f15 f13 g1 f14 (nrow_s fr fe) (by omega) hS hl
  have L67 : ∀ (r j : Nat), j + r = 12 → ∀ (H : Heap) (locs : List Loc) (ls : Array Slot), va_at D ncl (h0, .inr (4, [.ref (h0 + 1), .ref (h0 + 2), .ref (h0 + 50), .ref (h0 + 53), .ref (h0 + 54), .ref (h0 + 55), .int 0, .int 0, .int 0])) H → va_at D ncl (h0 + 1, .inr (1, [.int 0, .int 0, .int 0, .int 0])) H → va_at D ncl (h0 + 2, .inr (6, [.ref (h0 + 3), .ref (h0 + 4), .int 0, .int 0])) H → va_at D ncl (h0 + 3, .inl (dA 3, 5, .inr (.inr (.inr (.inr (fun i => some (h0 + 5 + i))))))) H → va_at D ncl (h0 + 4, .inl (dA 4, 40, .inr (.inr (.inr (.inr (fun i => some (h0 + 10 + i))))))) H → nrow D (h0 + 5) 5 (.inr (0, [.int 0, .int 0, .int 0])) H → nrow D (h0 + 10) 40 (.inr (8, [.int 0, .int 0, .int 0])) H → va_at D ncl (h0 + 50, .inr (3, [.ref (h0 + 51), .ref (h0 + 52), .int 0])) H → va_at D ncl (h0 + 51, .inl (dA 2, 26, .inl (fun _ => 0))) H → va_at D ncl (h0 + 52, .inl (dA 0, 26, .inl (fun _ => 0))) H → va_at D ncl (h0 + 55, .inl (dA 0, 150, .inl (fun _ => 0))) H → va_at D ncl (h0 + 54, .inl (dA 6, 150, .inr (.inr (.inr (.inr (fun i => if i < 0 then some (h0 + 68 + i) else none)))))) H → va_at D ncl (h0 + 53, .inl (dA 5, 12, .inr (.inr (.inr (.inr (fun i => if i < j then some (h0 + 56 + i) else none)))))) H → nrow D (h0 + 56) j (.inr (5, [.int 0, .int 0, .int 0, .int 0, .int 0, .int 0, .int 0, .int 0, .int 0, .int 0])) H → H.size = h0 + 56 + j → va_S (fun q => h0 ≤ q) s.heap H locs → lv_has ls 2 [(1, .int (nI j)), (0, .ref h0)] → W p l e ({ frames := 5, cells := 217, slots := 1425, locals := 200 } : Room) s m args below meth cd H locs (55 + j) (555 + 10 * j) (MQ below (va_Qv (fun (_ : Unit) => True) (fun _ t => (fun H => iOff D dA h0 (oRestart iS0) H) t.heap ∧ t.heap.size = h0 + 218) (fun q => h0 ≤ q)) args s 217 1425 (fun q => h0 ≤ q)) (F0 m 67 ls []) := by
    intro r
    induction r with
    | zero =>
      intro j hj H locs ls f0 f2 f4 f5 f6 f7 f8 f10 f11 f12 f15 f14 f13 fr hz hS hl
      obtain rfl : j = 12 := by omega
      refine lv_iload_n hx hb dX4_init_67 rfl (lv_at hl 0 rfl) ?_
      refine lv_bipush (v := nI 12) hx hb dX4_init_68 (by decide) ?_
      refine lv_icmp_ge (tgt := 92) hx hb dX4_init_70 (by decide) (fun _ => ?_) (fun c9 => absurd (Int32.le_refl _) c9)
      replace f13 := nfill f13
      refine lv_iconst (v := nI 0) hx hb dX4_init_92 (by decide) ?_
      refine lv_istore_n (lv' := [(1, .int _), (0, .ref _)]) hx hb dX4_init_93 rfl hl (by decide) rfl (fun ls hl => ?_)
      exact L94 150 0 (by omega) _ _ _ f0 f2 f4 f5 f6 f7 f8 f10 f11 f12 f15 f13 fr f14 nrow_0 (by omega) hS hl
    | succ r ih =>
      intro j hj H locs ls f0 f2 f4 f5 f6 f7 f8 f10 f11 f12 f15 f14 f13 fr hz hS hl
      have hjn : j < 12 := by omega
      refine lv_iload_n hx hb dX4_init_67 rfl (lv_at hl 0 rfl) ?_
      refine lv_bipush (v := nI 12) hx hb dX4_init_68 (by decide) ?_
      refine lv_icmp_ge (tgt := 92) hx hb dX4_init_70 (by decide) (fun c9 => absurd c9 (nI_ge hjn (by decide))) (fun _ => ?_)
      refine lv_aload_n hx hb dX4_init_73 rfl (lv_at hl 1 rfl) ?_
      refine i_get (ci := 4) (h := h0) hc f0 rfl iX4 3 (by decide) q257 rfl dX4_init_74 ?_
      refine lv_iload_n hx hb dX4_init_77 rfl (lv_at hl 0 rfl) ?_
      refine i_new (ci := 5) (fs := [.int 0, .int 0, .int 0, .int 0, .int 0, .int 0, .int 0, .int 0, .int 0, .int 0]) (z := h0 + 56 + j) hc hS hz rfl iX5 tyX5 tyX5_ok q147 q151 q8 (fun j hj => match j, hj with | 0, _ => rfl | 1, _ => rfl | 2, _ => rfl | 3, _ => rfl | 4, _ => rfl | 5, _ => rfl | 6, _ => rfl | 7, _ => rfl | 8, _ => rfl | 9, _ => rfl | n + 10, h => absurd h (by omega)) (by show 55 + j + 1 ≤ 217; omega) (by show 555 + 10 * j + 10 ≤ 1425; omega) dX4_init_78 (fun H fe hz oq hS => ?_)
      replace f0 := f0.kept (oq (h0) (by omega))
      replace f2 := f2.kept (oq (h0 + 1) (by omega))
      replace f4 := f4.kept (oq (h0 + 2) (by omega))
      replace f5 := f5.kept (oq (h0 + 3) (by omega))
      replace f6 := f6.kept (oq (h0 + 4) (by omega))
      replace f7 := f7.kept (fun q h8 h9 => oq q (by omega))
      replace f8 := f8.kept (fun q h8 h9 => oq q (by omega))
      replace f10 := f10.kept (oq (h0 + 50) (by omega))
      replace f11 := f11.kept (oq (h0 + 51) (by omega))
      replace f12 := f12.kept (oq (h0 + 52) (by omega))
      replace f15 := f15.kept (oq (h0 + 55) (by omega))
      replace f14 := f14.kept (oq (h0 + 54) (by omega))
      replace f13 := f13.kept (oq (h0 + 53) (by omega))
      replace fr := fr.kept (fun q h8 h9 => oq q (by omega))
      refine lv_dup hx hb dX4_init_81 rfl ?_
      refine i_callN (h1 := h0 + 56 + j) (n := 1) (c_X5_init l D dA N0 (h0 + 56 + j)) hc hS fe hz (by omega) (fun q h => by show h0 ≤ q; omega) hA0 hl.1 rfl nok_X5_init q8 nbn4_48 q153 q154 ⟨rfl, rfl⟩ ⟨Nat.le_of_ble_eq_true rfl, Nat.le_of_ble_eq_true rfl⟩ ⟨by show 55 + j + 1 + 0 ≤ 217; omega, by show 555 + 10 * j + 10 + 0 ≤ 1425; omega⟩ dX4_init_82 (Nat.le_of_ble_eq_true rfl) (fun H locs fe hz oq hS => ?_)
      replace f0 := f0.kept (oq (h0) (by omega))
      replace f2 := f2.kept (oq (h0 + 1) (by omega))
      replace f4 := f4.kept (oq (h0 + 2) (by omega))
      replace f5 := f5.kept (oq (h0 + 3) (by omega))
      replace f6 := f6.kept (oq (h0 + 4) (by omega))
      replace f7 := f7.kept (fun q h8 h9 => oq q (by omega))
      replace f8 := f8.kept (fun q h8 h9 => oq q (by omega))
      replace f10 := f10.kept (oq (h0 + 50) (by omega))
      replace f11 := f11.kept (oq (h0 + 51) (by omega))
      replace f12 := f12.kept (oq (h0 + 52) (by omega))
      replace f15 := f15.kept (oq (h0 + 55) (by omega))
      replace f14 := f14.kept (oq (h0 + 54) (by omega))
      replace f13 := f13.kept (oq (h0 + 53) (by omega))
      replace fr := fr.kept (fun q h8 h9 => oq q (by omega))
      refine i_ast (ci := 5) (r := (RX5, TX5, 10)) (a := h0 + 53) (t0 := 5) hc hS f13 (by show h0 ≤ _; omega) rfl fe rfl (nI_in hjn (by decide)) (nup_fill hjn (by decide)) dX4_init_85 (fun H locs f13 hz1 oq hS => ?_)
      replace f0 := f0.kept (oq (h0) (by omega))
      replace f2 := f2.kept (oq (h0 + 1) (by omega))
      replace f4 := f4.kept (oq (h0 + 2) (by omega))
      replace f5 := f5.kept (oq (h0 + 3) (by omega))
      replace f6 := f6.kept (oq (h0 + 4) (by omega))
      replace f7 := f7.kept (fun q h8 h9 => oq q (by omega))
      replace f8 := f8.kept (fun q h8 h9 => oq q (by omega))
      replace f10 := f10.kept (oq (h0 + 50) (by omega))
      replace f11 := f11.kept (oq (h0 + 51) (by omega))
      replace f12 := f12.kept (oq (h0 + 52) (by omega))
      replace f15 := f15.kept (oq (h0 + 55) (by omega))
      replace f14 := f14.kept (oq (h0 + 54) (by omega))
      replace fr := fr.kept (fun q h8 h9 => oq q (by omega))
      replace fe := fe.kept (oq (h0 + 56 + j) (by omega))
      refine lv_iinc (v := nI (j + 1)) (lv' := [(1, .int _), (0, .ref _)]) hx hb dX4_init_86 hl (k := 0) rfl (nI_inc j) (by decide) rfl (fun ls hl => ?_)
      refine lv_goto (tgt := 67) hx hb dX4_init_89 (by decide) ?_
      refine W.widen (k := 55 + (j + 1)) (n := 555 + 10 * (j + 1)) (by omega) (by omega) ?_
      exact ih (j + 1) (by omega) _ _ _ f0 f2 f4 f5 f6 f7 f8 f10 f11 f12 f15 f14 f13 (nrow_s fr fe) (by omega) hS hl
  refine lv_aload_n hx hb dX4_init_0 rfl (lv_at hl 0 rfl) ?_
  refine i_sup hc hl.1 q36 ⟨Nat.le_of_ble_eq_true rfl, Nat.le_of_ble_eq_true rfl⟩ (Nat.le_of_ble_eq_true rfl) dX4_init_1 ?_
  refine lv_aload_n hx hb dX4_init_4 rfl (lv_at hl 0 rfl) ?_
  refine i_new (ci := 1) (fs := [.int 0, .int 0, .int 0, .int 0]) (z := h0 + 1) hc hS hz rfl iX1 tyX1 tyX1_ok q37 q38 q3 (fun j hj => match j, hj with | 0, _ => rfl | 1, _ => rfl | 2, _ => rfl | 3, _ => rfl | n + 4, h => absurd h (by omega)) (Nat.le_of_ble_eq_true rfl) (Nat.le_of_ble_eq_true rfl) dX4_init_5 (fun H f1 hz oq hS => ?_)
  replace f0 := f0.kept (oq (h0) (by omega))
  refine lv_dup hx hb dX4_init_8 rfl ?_
  refine i_callN (h1 := h0 + 1) (n := 1) (c_X1_init l D dA N0 (h0 + 1)) hc hS f1 hz (by omega) (fun q h => by show h0 ≤ q; omega) hA0 hl.1 rfl nok_X1_init q3 nbn4_11 q40 q41 ⟨rfl, rfl⟩ ⟨Nat.le_of_ble_eq_true rfl, Nat.le_of_ble_eq_true rfl⟩ ⟨(Nat.le_of_ble_eq_true rfl), (Nat.le_of_ble_eq_true rfl)⟩ dX4_init_9 (Nat.le_of_ble_eq_true rfl) (fun H locs hZ hz oq hS => ?_)
  replace f0 := f0.kept (oq (h0) (by omega))
  have f2 := hZ
  replace hz : H.size = h0 + 2 := by omega
  refine i_fin (ci := 4) (h := h0) (v := .ref (h0 + 1)) hc hS f0 (Nat.le_refl _) rfl iX4 tyX4 tyX4_ok nmX4 0 (by decide) q251 rfl rfl (tyX4_ok 0 (by decide)) rfl rfl (Nat.le_of_ble_eq_true rfl) dX4_init_12 (fun H locs f0 hz1 oq hS => ?_)
  replace hz := hz1.trans hz
  replace f0 : va_at D ncl (h0, .inr (4, [.ref (h0 + 1), .null, .null, .null, .null, .null, .int 0, .int 0, .int 0])) H := f0
  replace f2 := f2.kept (oq (h0 + 1) (by omega))
  refine lv_aload_n hx hb dX4_init_15 rfl (lv_at hl 0 rfl) ?_
  refine i_new (ci := 6) (fs := [.null, .null, .int 0, .int 0]) (z := h0 + 2) hc hS hz rfl iX6 tyX6 tyX6_ok q58 q59 q4 (fun j hj => match j, hj with | 0, _ => rfl | 1, _ => rfl | 2, _ => rfl | 3, _ => rfl | n + 4, h => absurd h (by omega)) (Nat.le_of_ble_eq_true rfl) (Nat.le_of_ble_eq_true rfl) dX4_init_16 (fun H f3 hz oq hS => ?_)
  replace f0 := f0.kept (oq (h0) (by omega))
  replace f2 := f2.kept (oq (h0 + 1) (by omega))
  refine lv_dup hx hb dX4_init_19 rfl ?_
  refine i_call (h1 := h0 + 2) (n := 48) (c_X6_init l D dA N0 (h0 + 2)) hc hS f3 hz (by omega) (fun q h => by show h0 ≤ q; omega) hA0 hl.1 rfl nok_X6_init q4 q60 q61 q62 ⟨rfl, rfl⟩ ⟨Nat.le_of_ble_eq_true rfl, Nat.le_of_ble_eq_true rfl⟩ ⟨(Nat.le_of_ble_eq_true rfl), (Nat.le_of_ble_eq_true rfl)⟩ dX4_init_20 (Nat.le_of_ble_eq_true rfl) (fun H locs hZ hz oq hS => ?_)
  replace f0 := f0.kept (oq (h0) (by omega))
  replace f2 := f2.kept (oq (h0 + 1) (by omega))
  obtain ⟨f4, f5, f6, f7, f8⟩ := hZ
  replace f4 : va_at D ncl (h0 + 2, .inr (6, [.ref (h0 + 3), .ref (h0 + 4), .int 0, .int 0])) H := f4
  replace f5 : va_at D ncl (h0 + 3, .inl (dA 3, 5, .inr (.inr (.inr (.inr (fun i => some (h0 + 5 + i))))))) H := f5
  replace f6 : va_at D ncl (h0 + 4, .inl (dA 4, 40, .inr (.inr (.inr (.inr (fun i => some (h0 + 10 + i))))))) H := f6
  replace f7 : nrow D (h0 + 5) 5 (.inr (0, [.int 0, .int 0, .int 0])) H := f7
  replace f8 : nrow D (h0 + 10) 40 (.inr (8, [.int 0, .int 0, .int 0])) H := f8
  replace hz : H.size = h0 + 50 := by omega
  refine i_fin (ci := 4) (h := h0) (v := .ref (h0 + 2)) hc hS f0 (Nat.le_refl _) rfl iX4 tyX4 tyX4_ok nmX4 1 (by decide) q253 rfl rfl (tyX4_ok 1 (by decide)) rfl rfl (Nat.le_of_ble_eq_true rfl) dX4_init_23 (fun H locs f0 hz1 oq hS => ?_)
  replace hz := hz1.trans hz
  replace f0 : va_at D ncl (h0, .inr (4, [.ref (h0 + 1), .ref (h0 + 2), .null, .null, .null, .null, .int 0, .int 0, .int 0])) H := f0
  replace f2 := f2.kept (oq (h0 + 1) (by omega))
  replace f4 := f4.kept (oq (h0 + 2) (by omega))
  replace f5 := f5.kept (oq (h0 + 3) (by omega))
  replace f6 := f6.kept (oq (h0 + 4) (by omega))
  replace f7 := f7.kept (fun q h8 h9 => oq q (by omega))
  replace f8 := f8.kept (fun q h8 h9 => oq q (by omega))
  refine lv_aload_n hx hb dX4_init_26 rfl (lv_at hl 0 rfl) ?_
  refine i_new (ci := 3) (fs := [.null, .null, .int 0]) (z := h0 + 50) hc hS hz rfl iX3 tyX3 tyX3_ok q127 q128 q7 (fun j hj => match j, hj with | 0, _ => rfl | 1, _ => rfl | 2, _ => rfl | n + 3, h => absurd h (by omega)) (Nat.le_of_ble_eq_true rfl) (Nat.le_of_ble_eq_true rfl) dX4_init_27 (fun H f9 hz oq hS => ?_)
  replace f0 := f0.kept (oq (h0) (by omega))
  replace f2 := f2.kept (oq (h0 + 1) (by omega))
  replace f4 := f4.kept (oq (h0 + 2) (by omega))
  replace f5 := f5.kept (oq (h0 + 3) (by omega))
  replace f6 := f6.kept (oq (h0 + 4) (by omega))
  replace f7 := f7.kept (fun q h8 h9 => oq q (by omega))
  replace f8 := f8.kept (fun q h8 h9 => oq q (by omega))
  refine lv_dup hx hb dX4_init_30 rfl ?_
  refine i_callN (h1 := h0 + 50) (n := 3) (c_X3_init l D dA N0 (h0 + 50)) hc hS f9 hz (by omega) (fun q h => by show h0 ≤ q; omega) hA0 hl.1 rfl nok_X3_init q7 nbn4_27 q130 q131 ⟨rfl, rfl⟩ ⟨Nat.le_of_ble_eq_true rfl, Nat.le_of_ble_eq_true rfl⟩ ⟨(Nat.le_of_ble_eq_true rfl), (Nat.le_of_ble_eq_true rfl)⟩ dX4_init_31 (Nat.le_of_ble_eq_true rfl) (fun H locs hZ hz oq hS => ?_)
  replace f0 := f0.kept (oq (h0) (by omega))
  replace f2 := f2.kept (oq (h0 + 1) (by omega))
  replace f4 := f4.kept (oq (h0 + 2) (by omega))
  replace f5 := f5.kept (oq (h0 + 3) (by omega))
  replace f6 := f6.kept (oq (h0 + 4) (by omega))
  replace f7 := f7.kept (fun q h8 h9 => oq q (by omega))
  replace f8 := f8.kept (fun q h8 h9 => oq q (by omega))
  obtain ⟨f10, f11, f12⟩ := hZ
  replace f10 : va_at D ncl (h0 + 50, .inr (3, [.ref (h0 + 51), .ref (h0 + 52), .int 0])) H := f10
  replace f11 : va_at D ncl (h0 + 51, .inl (dA 2, 26, .inl (fun _ => 0))) H := f11
  replace f12 : va_at D ncl (h0 + 52, .inl (dA 0, 26, .inl (fun _ => 0))) H := f12
  replace hz : H.size = h0 + 53 := by omega
  refine i_fin (ci := 4) (h := h0) (v := .ref (h0 + 50)) hc hS f0 (Nat.le_refl _) rfl iX4 tyX4 tyX4_ok nmX4 2 (by decide) q255 rfl rfl (tyX4_ok 2 (by decide)) rfl rfl (Nat.le_of_ble_eq_true rfl) dX4_init_34 (fun H locs f0 hz1 oq hS => ?_)
  replace hz := hz1.trans hz
  replace f0 : va_at D ncl (h0, .inr (4, [.ref (h0 + 1), .ref (h0 + 2), .ref (h0 + 50), .null, .null, .null, .int 0, .int 0, .int 0])) H := f0
  replace f2 := f2.kept (oq (h0 + 1) (by omega))
  replace f4 := f4.kept (oq (h0 + 2) (by omega))
  replace f5 := f5.kept (oq (h0 + 3) (by omega))
  replace f6 := f6.kept (oq (h0 + 4) (by omega))
  replace f7 := f7.kept (fun q h8 h9 => oq q (by omega))
  replace f8 := f8.kept (fun q h8 h9 => oq q (by omega))
  replace f10 := f10.kept (oq (h0 + 50) (by omega))
  replace f11 := f11.kept (oq (h0 + 51) (by omega))
  replace f12 := f12.kept (oq (h0 + 52) (by omega))
  refine lv_aload_n hx hb dX4_init_37 rfl (lv_at hl 0 rfl) ?_
  refine lv_bipush (v := 12) hx hb dX4_init_38 (by decide) ?_
  refine i_newq (t0 := 5) (N := 12) (z := h0 + 53) hc hS hz q147 (by decide) rfl (by decide) (by decide) (Nat.le_of_ble_eq_true rfl) (Nat.le_of_ble_eq_true rfl) (Nat.le_of_ble_eq_true rfl) dX4_init_40 (fun H f13 hz oq hS => ?_)
  replace f0 := f0.kept (oq (h0) (by omega))
  replace f2 := f2.kept (oq (h0 + 1) (by omega))
  replace f4 := f4.kept (oq (h0 + 2) (by omega))
  replace f5 := f5.kept (oq (h0 + 3) (by omega))
  replace f6 := f6.kept (oq (h0 + 4) (by omega))
  replace f7 := f7.kept (fun q h8 h9 => oq q (by omega))
  replace f8 := f8.kept (fun q h8 h9 => oq q (by omega))
  replace f10 := f10.kept (oq (h0 + 50) (by omega))
  replace f11 := f11.kept (oq (h0 + 51) (by omega))
  replace f12 := f12.kept (oq (h0 + 52) (by omega))
  refine i_fin (ci := 4) (h := h0) (v := .ref (h0 + 53)) hc hS f0 (Nat.le_refl _) rfl iX4 tyX4 tyX4_ok nmX4 3 (by decide) q257 rfl rfl (tyX4_ok 3 (by decide)) rfl rfl (Nat.le_of_ble_eq_true rfl) dX4_init_43 (fun H locs f0 hz1 oq hS => ?_)
  replace hz := hz1.trans hz
  replace f0 : va_at D ncl (h0, .inr (4, [.ref (h0 + 1), .ref (h0 + 2), .ref (h0 + 50), .ref (h0 + 53), .null, .null, .int 0, .int 0, .int 0])) H := f0
  replace f2 := f2.kept (oq (h0 + 1) (by omega))
  replace f4 := f4.kept (oq (h0 + 2) (by omega))
  replace f5 := f5.kept (oq (h0 + 3) (by omega))
  replace f6 := f6.kept (oq (h0 + 4) (by omega))
  replace f7 := f7.kept (fun q h8 h9 => oq q (by omega))
  replace f8 := f8.kept (fun q h8 h9 => oq q (by omega))
  replace f10 := f10.kept (oq (h0 + 50) (by omega))
  replace f11 := f11.kept (oq (h0 + 51) (by omega))
  replace f12 := f12.kept (oq (h0 + 52) (by omega))
  replace f13 := f13.kept (oq (h0 + 53) (by omega))
  refine lv_aload_n hx hb dX4_init_46 rfl (lv_at hl 0 rfl) ?_
  refine lv_sipush (v := 150) hx hb dX4_init_47 (by decide) ?_
  refine i_newq (t0 := 6) (N := 150) (z := h0 + 54) hc hS hz q149 (by decide) rfl (by decide) (by decide) (Nat.le_of_ble_eq_true rfl) (Nat.le_of_ble_eq_true rfl) (Nat.le_of_ble_eq_true rfl) dX4_init_50 (fun H f14 hz oq hS => ?_)
  replace f0 := f0.kept (oq (h0) (by omega))
  replace f2 := f2.kept (oq (h0 + 1) (by omega))
  replace f4 := f4.kept (oq (h0 + 2) (by omega))
  replace f5 := f5.kept (oq (h0 + 3) (by omega))
  replace f6 := f6.kept (oq (h0 + 4) (by omega))
  replace f7 := f7.kept (fun q h8 h9 => oq q (by omega))
  replace f8 := f8.kept (fun q h8 h9 => oq q (by omega))
  replace f10 := f10.kept (oq (h0 + 50) (by omega))
  replace f11 := f11.kept (oq (h0 + 51) (by omega))
  replace f12 := f12.kept (oq (h0 + 52) (by omega))
  replace f13 := f13.kept (oq (h0 + 53) (by omega))
  refine i_fin (ci := 4) (h := h0) (v := .ref (h0 + 54)) hc hS f0 (Nat.le_refl _) rfl iX4 tyX4 tyX4_ok nmX4 4 (by decide) q259 rfl rfl (tyX4_ok 4 (by decide)) rfl rfl (Nat.le_of_ble_eq_true rfl) dX4_init_53 (fun H locs f0 hz1 oq hS => ?_)
  replace hz := hz1.trans hz
  replace f0 : va_at D ncl (h0, .inr (4, [.ref (h0 + 1), .ref (h0 + 2), .ref (h0 + 50), .ref (h0 + 53), .ref (h0 + 54), .null, .int 0, .int 0, .int 0])) H := f0
  replace f2 := f2.kept (oq (h0 + 1) (by omega))
  replace f4 := f4.kept (oq (h0 + 2) (by omega))
  replace f5 := f5.kept (oq (h0 + 3) (by omega))
  replace f6 := f6.kept (oq (h0 + 4) (by omega))
  replace f7 := f7.kept (fun q h8 h9 => oq q (by omega))
  replace f8 := f8.kept (fun q h8 h9 => oq q (by omega))
  replace f10 := f10.kept (oq (h0 + 50) (by omega))
  replace f11 := f11.kept (oq (h0 + 51) (by omega))
  replace f12 := f12.kept (oq (h0 + 52) (by omega))
  replace f13 := f13.kept (oq (h0 + 53) (by omega))
  replace f14 := f14.kept (oq (h0 + 54) (by omega))
  refine lv_aload_n hx hb dX4_init_56 rfl (lv_at hl 0 rfl) ?_
  refine lv_sipush (v := 150) hx hb dX4_init_57 (by decide) ?_
  refine i_newa (atype := .int) (t0 := 0) (ty := .int) (N := 150) (z := h0 + 55) hc hS hz q146 rfl rfl rfl (fun C => by intro h; cases h) (by decide) (by decide) (Nat.le_of_ble_eq_true rfl) (Nat.le_of_ble_eq_true rfl) (Nat.le_of_ble_eq_true rfl) dX4_init_60 (fun H f15 hz oq hS => ?_)
  replace f0 := f0.kept (oq (h0) (by omega))
  replace f2 := f2.kept (oq (h0 + 1) (by omega))
  replace f4 := f4.kept (oq (h0 + 2) (by omega))
  replace f5 := f5.kept (oq (h0 + 3) (by omega))
  replace f6 := f6.kept (oq (h0 + 4) (by omega))
  replace f7 := f7.kept (fun q h8 h9 => oq q (by omega))
  replace f8 := f8.kept (fun q h8 h9 => oq q (by omega))
  replace f10 := f10.kept (oq (h0 + 50) (by omega))
  replace f11 := f11.kept (oq (h0 + 51) (by omega))
  replace f12 := f12.kept (oq (h0 + 52) (by omega))
  replace f13 := f13.kept (oq (h0 + 53) (by omega))
  replace f14 := f14.kept (oq (h0 + 54) (by omega))
  refine i_fin (ci := 4) (h := h0) (v := .ref (h0 + 55)) hc hS f0 (Nat.le_refl _) rfl iX4 tyX4 tyX4_ok nmX4 5 (by decide) q261 rfl rfl (tyX4_ok 5 (by decide)) rfl rfl (Nat.le_of_ble_eq_true rfl) dX4_init_62 (fun H locs f0 hz1 oq hS => ?_)
  replace hz := hz1.trans hz
  replace f0 : va_at D ncl (h0, .inr (4, [.ref (h0 + 1), .ref (h0 + 2), .ref (h0 + 50), .ref (h0 + 53), .ref (h0 + 54), .ref (h0 + 55), .int 0, .int 0, .int 0])) H := f0
  replace f2 := f2.kept (oq (h0 + 1) (by omega))
  replace f4 := f4.kept (oq (h0 + 2) (by omega))
  replace f5 := f5.kept (oq (h0 + 3) (by omega))
  replace f6 := f6.kept (oq (h0 + 4) (by omega))
  replace f7 := f7.kept (fun q h8 h9 => oq q (by omega))
  replace f8 := f8.kept (fun q h8 h9 => oq q (by omega))
  replace f10 := f10.kept (oq (h0 + 50) (by omega))
  replace f11 := f11.kept (oq (h0 + 51) (by omega))
  replace f12 := f12.kept (oq (h0 + 52) (by omega))
  replace f13 := f13.kept (oq (h0 + 53) (by omega))
  replace f14 := f14.kept (oq (h0 + 54) (by omega))
  replace f15 := f15.kept (oq (h0 + 55) (by omega))
  refine lv_iconst (v := nI 0) hx hb dX4_init_65 (by decide) ?_
  refine lv_istore_n (lv' := [(1, .int _), (0, .ref _)]) hx hb dX4_init_66 rfl hl (by decide) rfl (fun ls hl => ?_)
  exact L67 12 0 (by omega) _ _ _ f0 f2 f4 f5 f6 f7 f8 f10 f11 f12 f15 (nnone f14) (nnone f13) nrow_0 (by omega) hS hl
set_option maxRecDepth 100000 in
theorem c_X9_init (l : Launch) (D : va_G) (dA : Nat → ClassId) (N0 h0 : Nat) : nIv l D dA N0 yX9_init cX9_init 1 ({ frames := 6, cells := 441, slots := 4921, locals := 240 } : Room) h0 (.inr (9, [.null, .null, .null])) (fun H => va_at D ncl (h0, .inr (9, [.ref (h0 + 1), .ref (h0 + 219), .ref (h0 + 437)])) H ∧ iOff D dA (h0 + 1) (oRestart iS0) H ∧ iOff D dA (h0 + 219) (oRestart iS0) H ∧ va_at D ncl (h0 + 437, .inr (2, [.ref (h0 + 438), .ref (h0 + 439), .ref (h0 + 440), .ref (h0 + 441), .int 0])) H ∧ va_at D ncl (h0 + 438, .inl (dA 0, 512, .inl (fun _ => 0))) H ∧ va_at D ncl (h0 + 439, .inl (dA 0, 512, .inl (fun _ => 0))) H ∧ va_at D ncl (h0 + 440, .inl (dA 0, 512, .inl (fun _ => 0))) H ∧ va_at D ncl (h0 + 441, .inl (dA 0, 512, .inl (fun _ => 0))) H) 442 441 4921 := by
  refine iI_of (by decide +kernel) rfl (Nat.le_of_ble_eq_true rfl) ?_
  intro p e s m args below meth cd ls hc hr f0 hz hN hl hS
  have hx := hc.1
  have hb := hc.2.1
  have hA : ∀ q, h0 ≤ q → (fun q => h0 ≤ q) q := fun q h => h
  have hA0 : ∀ q, (fun q => h0 ≤ q) q → N0 ≤ q := fun q (h : h0 ≤ q) => Nat.le_trans hN h
  have hl : lv_has ls 1 [(0, .ref h0)] := hl
  refine lv_aload_n hx hb dX9_init_0 rfl (lv_at hl 0 rfl) ?_
  refine i_sup hc hl.1 q28 ⟨Nat.le_of_ble_eq_true rfl, Nat.le_of_ble_eq_true rfl⟩ (Nat.le_of_ble_eq_true rfl) dX9_init_1 ?_
  refine lv_aload_n hx hb dX9_init_4 rfl (lv_at hl 0 rfl) ?_
  refine i_new (ci := 4) (fs := [.null, .null, .null, .null, .null, .null, .int 0, .int 0, .int 0]) (z := h0 + 1) hc hS hz rfl iX4 tyX4 tyX4_ok q31 q32 q2 (fun j hj => match j, hj with | 0, _ => rfl | 1, _ => rfl | 2, _ => rfl | 3, _ => rfl | 4, _ => rfl | 5, _ => rfl | 6, _ => rfl | 7, _ => rfl | 8, _ => rfl | n + 9, h => absurd h (by omega)) (Nat.le_of_ble_eq_true rfl) (Nat.le_of_ble_eq_true rfl) dX9_init_5 (fun H f1 hz oq hS => ?_)
  replace f0 := f0.kept (oq (h0) (by omega))
  refine lv_dup hx hb dX9_init_8 rfl ?_
  refine i_call (h1 := h0 + 1) (n := 218) (c_X4_init l D dA N0 (h0 + 1)) hc hS f1 hz (by omega) (fun q h => by show h0 ≤ q; omega) hA0 hl.1 rfl nok_X4_init q2 q33 q34 q35 ⟨rfl, rfl⟩ ⟨Nat.le_of_ble_eq_true rfl, Nat.le_of_ble_eq_true rfl⟩ ⟨(Nat.le_of_ble_eq_true rfl), (Nat.le_of_ble_eq_true rfl)⟩ dX9_init_9 (Nat.le_of_ble_eq_true rfl) (fun H locs hZ hz oq hS => ?_)
  replace f0 := f0.kept (oq (h0) (by omega))
  have f2 : iOff D dA (h0 + 1) (oRestart iS0) H := hZ
  replace hz : H.size = h0 + 219 := by omega
  refine i_fin (ci := 9) (h := h0) (v := .ref (h0 + 1)) hc hS f0 (Nat.le_refl _) rfl iX9 tyX9 tyX9_ok nmX9 0 (by decide) q313 rfl rfl (tyX9_ok 0 (by decide)) rfl rfl (Nat.le_of_ble_eq_true rfl) dX9_init_12 (fun H locs f0 hz1 oq hS => ?_)
  replace hz := hz1.trans hz
  replace f0 : va_at D ncl (h0, .inr (9, [.ref (h0 + 1), .null, .null])) H := f0
  replace f2 := f2.kept (fun q h8 h9 => oq q (by omega))
  refine lv_aload_n hx hb dX9_init_15 rfl (lv_at hl 0 rfl) ?_
  refine i_new (ci := 4) (fs := [.null, .null, .null, .null, .null, .null, .int 0, .int 0, .int 0]) (z := h0 + 219) hc hS hz rfl iX4 tyX4 tyX4_ok q31 q32 q2 (fun j hj => match j, hj with | 0, _ => rfl | 1, _ => rfl | 2, _ => rfl | 3, _ => rfl | 4, _ => rfl | 5, _ => rfl | 6, _ => rfl | 7, _ => rfl | 8, _ => rfl | n + 9, h => absurd h (by omega)) (Nat.le_of_ble_eq_true rfl) (Nat.le_of_ble_eq_true rfl) dX9_init_16 (fun H f3 hz oq hS => ?_)
  replace f0 := f0.kept (oq (h0) (by omega))
  replace f2 := f2.kept (fun q h8 h9 => oq q (by omega))
  refine lv_dup hx hb dX9_init_19 rfl ?_
  refine i_call (h1 := h0 + 219) (n := 218) (c_X4_init l D dA N0 (h0 + 219)) hc hS f3 hz (by omega) (fun q h => by show h0 ≤ q; omega) hA0 hl.1 rfl nok_X4_init q2 q33 q34 q35 ⟨rfl, rfl⟩ ⟨Nat.le_of_ble_eq_true rfl, Nat.le_of_ble_eq_true rfl⟩ ⟨(Nat.le_of_ble_eq_true rfl), (Nat.le_of_ble_eq_true rfl)⟩ dX9_init_20 (Nat.le_of_ble_eq_true rfl) (fun H locs hZ hz oq hS => ?_)
  replace f0 := f0.kept (oq (h0) (by omega))
  replace f2 := f2.kept (fun q h8 h9 => oq q (by omega))
  have f4 : iOff D dA (h0 + 219) (oRestart iS0) H := hZ
  replace hz : H.size = h0 + 437 := by omega
  refine i_fin (ci := 9) (h := h0) (v := .ref (h0 + 219)) hc hS f0 (Nat.le_refl _) rfl iX9 tyX9 tyX9_ok nmX9 1 (by decide) q314 rfl rfl (tyX9_ok 1 (by decide)) rfl rfl (Nat.le_of_ble_eq_true rfl) dX9_init_23 (fun H locs f0 hz1 oq hS => ?_)
  replace hz := hz1.trans hz
  replace f0 : va_at D ncl (h0, .inr (9, [.ref (h0 + 1), .ref (h0 + 219), .null])) H := f0
  replace f2 := f2.kept (fun q h8 h9 => oq q (by omega))
  replace f4 := f4.kept (fun q h8 h9 => oq q (by omega))
  refine lv_aload_n hx hb dX9_init_26 rfl (lv_at hl 0 rfl) ?_
  refine i_new (ci := 2) (fs := [.null, .null, .null, .null, .int 0]) (z := h0 + 437) hc hS hz rfl iX2 tyX2 tyX2_ok q286 q287 q10 (fun j hj => match j, hj with | 0, _ => rfl | 1, _ => rfl | 2, _ => rfl | 3, _ => rfl | 4, _ => rfl | n + 5, h => absurd h (by omega)) (Nat.le_of_ble_eq_true rfl) (Nat.le_of_ble_eq_true rfl) dX9_init_27 (fun H f5 hz oq hS => ?_)
  replace f0 := f0.kept (oq (h0) (by omega))
  replace f2 := f2.kept (fun q h8 h9 => oq q (by omega))
  replace f4 := f4.kept (fun q h8 h9 => oq q (by omega))
  refine lv_dup hx hb dX9_init_30 rfl ?_
  refine i_callN (h1 := h0 + 437) (n := 5) (c_X2_init l D dA N0 (h0 + 437)) hc hS f5 hz (by omega) (fun q h => by show h0 ≤ q; omega) hA0 hl.1 rfl nok_X2_init q10 nbn9_21 q289 q290 ⟨rfl, rfl⟩ ⟨Nat.le_of_ble_eq_true rfl, Nat.le_of_ble_eq_true rfl⟩ ⟨(Nat.le_of_ble_eq_true rfl), (Nat.le_of_ble_eq_true rfl)⟩ dX9_init_31 (Nat.le_of_ble_eq_true rfl) (fun H locs hZ hz oq hS => ?_)
  replace f0 := f0.kept (oq (h0) (by omega))
  replace f2 := f2.kept (fun q h8 h9 => oq q (by omega))
  replace f4 := f4.kept (fun q h8 h9 => oq q (by omega))
  obtain ⟨f6, f7, f8, f9, f10⟩ := hZ
  replace f6 : va_at D ncl (h0 + 437, .inr (2, [.ref (h0 + 438), .ref (h0 + 439), .ref (h0 + 440), .ref (h0 + 441), .int 0])) H := f6
  replace f7 : va_at D ncl (h0 + 438, .inl (dA 0, 512, .inl (fun _ => 0))) H := f7
  replace f8 : va_at D ncl (h0 + 439, .inl (dA 0, 512, .inl (fun _ => 0))) H := f8
  replace f9 : va_at D ncl (h0 + 440, .inl (dA 0, 512, .inl (fun _ => 0))) H := f9
  replace f10 : va_at D ncl (h0 + 441, .inl (dA 0, 512, .inl (fun _ => 0))) H := f10
  replace hz : H.size = h0 + 442 := by omega
  refine i_fin (ci := 9) (h := h0) (v := .ref (h0 + 437)) hc hS f0 (Nat.le_refl _) rfl iX9 tyX9 tyX9_ok nmX9 2 (by decide) q315 rfl rfl (tyX9_ok 2 (by decide)) rfl rfl (Nat.le_of_ble_eq_true rfl) dX9_init_34 (fun H locs f0 hz1 oq hS => ?_)
  replace hz := hz1.trans hz
  replace f0 : va_at D ncl (h0, .inr (9, [.ref (h0 + 1), .ref (h0 + 219), .ref (h0 + 437)])) H := f0
  replace f2 := f2.kept (fun q h8 h9 => oq q (by omega))
  replace f4 := f4.kept (fun q h8 h9 => oq q (by omega))
  replace f6 := f6.kept (oq (h0 + 437) (by omega))
  replace f7 := f7.kept (oq (h0 + 438) (by omega))
  replace f8 := f8.kept (oq (h0 + 439) (by omega))
  replace f9 := f9.kept (oq (h0 + 440) (by omega))
  replace f10 := f10.kept (oq (h0 + 441) (by omega))
  exact i_end (Z := fun H => va_at D ncl (h0, .inr (9, [.ref (h0 + 1), .ref (h0 + 219), .ref (h0 + 437)])) H ∧ iOff D dA (h0 + 1) (oRestart iS0) H ∧ iOff D dA (h0 + 219) (oRestart iS0) H ∧ va_at D ncl (h0 + 437, .inr (2, [.ref (h0 + 438), .ref (h0 + 439), .ref (h0 + 440), .ref (h0 + 441), .int 0])) H ∧ va_at D ncl (h0 + 438, .inl (dA 0, 512, .inl (fun _ => 0))) H ∧ va_at D ncl (h0 + 439, .inl (dA 0, 512, .inl (fun _ => 0))) H ∧ va_at D ncl (h0 + 440, .inl (dA 0, 512, .inl (fun _ => 0))) H ∧ va_at D ncl (h0 + 441, .inl (dA 0, 512, .inl (fun _ => 0))) H) (n := 442) (mc := 441) (ms := 4921) hc hr hS ⟨f0, f2, f4, f6, f7, f8, f9, f10⟩ (by omega) (Nat.le_of_ble_eq_true rfl) (Nat.le_of_ble_eq_true rfl) dX9_init_37
