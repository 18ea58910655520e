section NE
variable {l : Launch} {D : va_G} {dA : Nat → ClassId} {ad : Nat → Nat → Nat → Nat} {on : Nat → Prop}
/-- the entry of a method that returns -/
theorem nM_of {y : MethodName} {cc : ByteArray} {maxL : Nat} {ret : Option FieldType} {rm : Room} {av : List Value} {X : NWd} {Qc : Array Value → State → Outcome → State → Prop} (hI : ninj ad on) (hy : plainName y.cls = true) (hlen : (lg_sl av).length ≤ maxL)
    (body : ∀ (p : Program) (e : Env) (s : State) (m : MethodId) (args : Array Value) (below : List Frame) (meth : Method) (c : Code) (ls : Array Slot), nC p s m args meth c cc maxL y.cls D dA ad on → meth.sig.returnType = ret → (y.name = "<init>" → meth.name = "<init>") → npic D dA ad on X s.heap → lv_has ls maxL (lv_args 0 av) → va_S (nA ad on) s.heap s.heap [] →
      W p l e rm s m args below meth c s.heap [] 0 0 (MQ below Qc args s 0 0 (nA ad on)) (F0 m 0 ls [])) : Met l y (nws y cc maxL ret) rm (va_Pc av (npre D dA ad on X)) Qc 0 0 (nA ad on) := by
  refine Met.ofW (cc := cc) (maxL := maxL) (ret := ret) hy rfl ?_
  intro p e s m args below meth c s₁ B hml hv
  obtain ⟨rfl, hT, hP, hZ⟩ := hv
  have hts := atoms_spec (ws := nws y cc maxL ret) B.pre
  have hown : s.vm.findClass y.cls = some m.cls := findClass_of_methodNamed B.named
  have hnm := name_of_methodNamed B.named B.method
  have hl := lv_entry av (n := maxL) hlen
  rw [lg_entry_eq]
  generalize (lg_sl av ++ List.replicate (maxL - (lg_sl av).length) Slot.unset).toArray = ls at hl ⊢
  exact body p e s m av.toArray below meth c ls ⟨B.exec, B.bytes, hml, hown, fun w h => hts w (List.mem_cons_of_mem _ h), hT, hZ, hI, B.notSynchronized⟩ B.returns (fun h => hnm.1.trans h) hP hl va_S.rf
/-- the entry of a method that may throw -/
theorem nX_of {y : MethodName} {cc : ByteArray} {maxL : Nat} {ret : Option FieldType} {rm : Room} {av : List Value} {X : NWd} {mc ms : Nat} {Qc : Array Value → State → Outcome → State → Prop} {XC : String → State → State → Prop} (hI : ninj ad on) (hy : plainName y.cls = true) (hlen : (lg_sl av).length ≤ maxL)
    (body : ∀ (p : Program) (e : Env) (s : State) (m : MethodId) (args : Array Value) (below : List Frame) (meth : Method) (c : Code) (ls : Array Slot), nC p s m args meth c cc maxL y.cls D dA ad on → meth.sig.returnType = ret → (∀ x ∈ c.exceptionTable.toList, False) → npic D dA ad on X s.heap → lv_has ls maxL (lv_args 0 av) → va_S (nA ad on) s.heap s.heap [] →
      W p l e rm s m args below meth c s.heap [] 0 0 (vx_MQ below Qc XC args s mc ms (nA ad on)) (F0 m 0 ls [])) : vx_Met l y (nws y cc maxL ret) rm (va_Pc av (npre D dA ad on X)) Qc XC mc ms (nA ad on) := by
  refine vx_ofW (cc := cc) (maxL := maxL) (ret := ret) hy rfl ?_
  intro p e s m args below meth c s₁ B hml htb hv
  obtain ⟨rfl, hT, hP, hZ⟩ := hv
  have hts := atoms_spec (ws := nws y cc maxL ret) B.pre
  have hown : s.vm.findClass y.cls = some m.cls := findClass_of_methodNamed B.named
  have hl := lv_entry av (n := maxL) hlen
  rw [lg_entry_eq]
  generalize (lg_sl av ++ List.replicate (maxL - (lg_sl av).length) Slot.unset).toArray = ls at hl ⊢
  exact body p e s m av.toArray below meth c ls ⟨B.exec, B.bytes, hml, hown, fun w h => hts w (List.mem_cons_of_mem _ h), hT, hZ, hI, B.notSynchronized⟩ B.returns htb hP hl va_S.rf
end NE
section NR
variable {p : Program} {l : Launch} {e : Env} {R : Room} {s : State} {m : MethodId} {args : Array Value} {below : List Frame} {meth : Method} {c : Code} {H : Heap} {locs : List Loc} {cells slots : Nat} {Q : State → Prop}
variable {cc : ByteArray} {nL pc : Nat} {own : String} {ls : Array Slot} {rest : List Value} {D : va_G} {dA : Nat → ClassId} {ad : Nat → Nat → Nat → Nat} {on : Nat → Prop} {X : NWd} {o k i : Nat} {S : NSt}
theorem npic_at (hP : npic D dA ad on (wdo X o S) H) (hv : nV on o k i) {e : va_E} (hc : ncell dA ad (S k i) o k = e) : va_at D ncl (ad o k i, e) H := by
  have h := hP o k i hv
  rw [wdo_at, hc] at h
  exact h
theorem npic_one {q : Nat × va_E} (h : va_at D ncl q H) : va_P D ncl [q] H := by
  intro k' q' hq
  have hz : k' < 1 := (List.getElem?_eq_some_iff.mp hq).1
  rw [show k' = 0 by omega] at hq
  cases hq
  exact h
/-- a field is read -/
theorem ng_get (hc : nC p s m args meth c cc nL own D dA ad on) (hP : npic D dA ad on (wdo X o S) H) (hv : nV on o k i) {ci : Nat} {fs : List Value} (he : ncell dA ad (S k i) o k = .inr (ci, fs)) {C : String} {T : u_T} {N index : Nat} (hcl : ncl[ci]? = some (C, T, N)) (hin : ∀ w ∈ u_ws C T N, w ∈ gw) (j : Nat) (hj : j < N) (hlink : Cond.fieldLink own index (T j).1 (T j).2.1 (T j).2.2.1 ∈ gw) {v : Value} (hfs : fs[j]? = some v) (hdg : decode cc pc = .ok (.getfield index, 3))
    (kk : W p l e R s m args below meth c H locs cells slots Q (F0 m (pc + 3) ls (v :: rest))) : W p l e R s m args below meth c H locs cells slots Q (F0 m pc ls (.ref (ad o k i) :: rest)) :=
  va_get hc.1 hc.2.1 hc.2.2.2.2.1 hin hc.2.2.2.1 hc.2.2.2.2.2.1.1 (npic_one (npic_at hP hv he)) 0 rfl hcl j hj (hc.2.2.2.2.1 _ hlink) (fun _ h => h) hfs hdg kk
/-- a field of a number is written -/
theorem ng_put (hc : nC p s m args meth c cc nL own D dA ad on) (hP : npic D dA ad on (wdo X o S) H) (hS : va_S (nA ad on) s.heap H locs) (hv : nV on o k i) {ci : Nat} {fs : List Value} (he : ncell dA ad (S k i) o k = .inr (ci, fs)) {C : String} {T : u_T} {N index : Nat} (hcl : ncl[ci]? = some (C, T, N)) (hin : ∀ w ∈ u_ws C T N, w ∈ gw) (ty0 : Nat → FieldType) (hty : ∀ k, k < N → parseFieldDescriptor (T k).2.2.1 = some (ty0 k)) (hnm : ∀ a, a < N → ∀ b, b < N → a ≠ b → (T a).2.1 ≠ (T b).2.1) (j : Nat) (hj : j < N) (hlink : Cond.fieldLink own index (T j).1 (T j).2.1 (T j).2.2.1 ∈ gw) (hfin : (T j).2.2.2 = false) {ty : FieldType} {v : Int32} (hd : parseFieldDescriptor (T j).2.2.1 = some ty) (hn : narrow ty (.int v) = .int v) (hfit : fits ty (.int v) = true) (hl : j < fs.length) (hset : ncell dA ad (fun j' => if j' = j then v else S k i j') o k = .inr (ci, fs.set j (.int v))) (hdg : decode cc pc = .ok (.putfield index, 3))
    (kk : ∀ (H1 : Heap) (locs1 : List Loc), npic D dA ad on (wdo X o (nput S k i j v)) H1 → va_S (nA ad on) s.heap H1 locs1 → W p l e R s m args below meth c H1 locs1 cells slots Q (F0 m (pc + 3) ls rest)) : W p l e R s m args below meth c H locs cells slots Q (F0 m pc ls (.int v :: .ref (ad o k i) :: rest)) := by
  obtain ⟨hx, hb, -, hown, hts, ⟨hK, -⟩, -, hI, -⟩ := hc
  have hap := va_apart (own := own) hts hin ty0 hty hnm hK hcl
  obtain ⟨r, h1, cell, q1, q2, q3, q4⟩ := npic_at hP hv he
  have hr : r = (C, T, N) := Option.some.inj (h1.symm.trans hcl)
  subst hr
  obtain ⟨hSl, hfc, kC, hkC, hkind⟩ := hK.1 ci _ hcl
  obtain ⟨cf, kf, fi, f, hi, hsl⟩ := hSl j hj
  have hlay := hts _ (hin _ (u_in_lay hj))
  unfold u_lay at hlay
  rw [if_neg (by rw [hfin]; decide)] at hlay
  have hst := (u_facts hfc hkC (u_lays hts hin hj) hi).1
  have h6 := u_store hfc hkC hkind hlay hi hd hn hfit
  refine W.putK hx hb (f := f) ⟨hown, hts _ hlink, ⟨_, _, _, hi⟩, hst⟩ (by rw [q2]; exact h6) q1 q3 (by rw [hsl]; exact k2_hasslot (q4 j hj)) rfl rfl hdg fun H' e1 e2 e3 => ?_
  rw [hsl] at e1 ⊢
  exact kk H' _ (npic_set (e := .inr (ci, fs.set j (.int v))) hI hP hv ⟨_, hcl, t_OB.to (V := updV (vp_V fs) j (.int v)) ⟨_, e1, q2, q3, t_set q4 hap hj (.int v)⟩ (fun j9 _ => vp_updV_set hl (.int v) j9)⟩ hset e3) (hS.put e2 e3 ⟨o, k, i, hv, rfl⟩)
/-- arrays of objects are read -/
theorem ng_aald (hc : nC p s m args meth c cc nL own D dA ad on) (hP : npic D dA ad on (wdo X o S) H) (hv : nV on o k i) {n t0 k2 : Nat} {cA : ClassId} {C : String} (he : ncell dA ad (S k i) o k = .inl (cA, n, .inr (.inr (.inr (.inr (fun j => some (ad o k2 j))))))) (ht : (ntys dA)[t0]? = some (cA, .object C)) {x : Int32} (hin : vp_in x n) (hdg : decode cc pc = .ok (.aaload, 1))
    (kk : W p l e R s m args below meth c H locs cells slots Q (F0 m (pc + 1) ls (.ref (ad o k2 (nix x)) :: rest))) : W p l e R s m args below meth c H locs cells slots Q (F0 m pc ls (.int x :: .ref (ad o k i) :: rest)) :=
  va_aldq hc.1 hc.2.1 hc.2.2.2.2.2.1.1 (npic_one (npic_at hP hv he)) 0 t0 rfl ht hin hdg kk
/-- arrays of numbers are read: int, boolean, char -/
theorem ng_iald (hc : nC p s m args meth c cc nL own D dA ad on) (hP : npic D dA ad on (wdo X o S) H) (hv : nV on o k i) {n : Nat} (he : ncell dA ad (S k i) o k = .inl (dA 0, n, .inl (S k i))) {x : Int32} (hin : vp_in x n) (hdg : decode cc pc = .ok (.iaload, 1))
    (kk : W p l e R s m args below meth c H locs cells slots Q (F0 m (pc + 1) ls (.int (S k i (nix x)) :: rest))) : W p l e R s m args below meth c H locs cells slots Q (F0 m pc ls (.int x :: .ref (ad o k i) :: rest)) :=
  va_iald hc.1 hc.2.1 hc.2.2.2.2.2.1.1 (npic_one (npic_at hP hv he)) 0 0 rfl rfl hin hdg kk
theorem ng_cald (hc : nC p s m args meth c cc nL own D dA ad on) (hP : npic D dA ad on (wdo X o S) H) (hv : nV on o k i) {n : Nat} (he : ncell dA ad (S k i) o k = .inl (dA 2, n, .inl (S k i))) {x : Int32} (hin : vp_in x n) (hdg : decode cc pc = .ok (.caload, 1))
    (kk : W p l e R s m args below meth c H locs cells slots Q (F0 m (pc + 1) ls (.int (S k i (nix x)) :: rest))) : W p l e R s m args below meth c H locs cells slots Q (F0 m pc ls (.int x :: .ref (ad o k i) :: rest)) :=
  va_cald hc.1 hc.2.1 hc.2.2.2.2.2.1.1 (npic_one (npic_at hP hv he)) 0 2 rfl rfl hin hdg kk
/-- .. and written -/
theorem ng_iast (hc : nC p s m args meth c cc nL own D dA ad on) (hP : npic D dA ad on (wdo X o S) H) (hS : va_S (nA ad on) s.heap H locs) (hv : nV on o k i) {n : Nat} (he : ∀ f, ncell dA ad f o k = .inl (dA 0, n, .inl f)) {x v : Int32} (hin : vp_in x n) (hdg : decode cc pc = .ok (.iastore, 1))
    (kk : ∀ (H1 : Heap) (locs1 : List Loc), npic D dA ad on (wdo X o (nput S k i (nix x) v)) H1 → va_S (nA ad on) s.heap H1 locs1 → W p l e R s m args below meth c H1 locs1 cells slots Q (F0 m (pc + 1) ls rest)) : W p l e R s m args below meth c H locs cells slots Q (F0 m pc ls (.int v :: .int x :: .ref (ad o k i) :: rest)) := by
  obtain ⟨hx, hb, -, hown, hts, ⟨hK, -⟩, -, hI, -⟩ := hc
  refine W.iast hx hb (npic_at hP hv (he (S k i))) ((hK.2 0 _ rfl).1 n (fun j => .int (S k i j))) (fun q => by cases q) (by show ¬ (x < 0 ∨ (arrV _ _ _).slots.size ≤ _); rw [arrV_size]; exact hin) rfl rfl hdg fun H1 e1 z oq => ?_
  refine kk H1 _ (npic_set hI hP hv ?_ (he _) oq) (hS.put z oq ⟨o, k, i, hv, rfl⟩)
  show H1[_]? = some (vp_cell _ _)
  rw [e1]
  rw [vp_cell_i, vp_cell_i, arrV_store]
  congr 2
  funext q
  by_cases hq : q = x.toNatClampNeg
  · subst hq
    simp [updV]
  · simp [updV, hq]
theorem ng_cast (hc : nC p s m args meth c cc nL own D dA ad on) (hP : npic D dA ad on (wdo X o S) H) (hS : va_S (nA ad on) s.heap H locs) (hv : nV on o k i) {n : Nat} (he : ∀ f, ncell dA ad f o k = .inl (dA 2, n, .inl f)) {x v : Int32} (hin : vp_in x n) (hdg : decode cc pc = .ok (.castore, 1))
    (kk : ∀ (H1 : Heap) (locs1 : List Loc), npic D dA ad on (wdo X o (nput S k i (nix x) (vp_nar .char v))) H1 → va_S (nA ad on) s.heap H1 locs1 → W p l e R s m args below meth c H1 locs1 cells slots Q (F0 m (pc + 1) ls rest)) : W p l e R s m args below meth c H locs cells slots Q (F0 m pc ls (.int v :: .int x :: .ref (ad o k i) :: rest)) := by
  obtain ⟨hx, hb, -, hown, hts, ⟨hK, -⟩, -, hI, -⟩ := hc
  refine W.cast hx hb (npic_at hP hv (he (S k i))) ((hK.2 2 _ rfl).1 n (fun j => .int (S k i j))) (fun q => by cases q) (by show ¬ (x < 0 ∨ (arrV _ _ _).slots.size ≤ _); rw [arrV_size]; exact hin) rfl rfl hdg fun H1 e1 z oq => ?_
  refine kk H1 _ (npic_set hI hP hv ?_ (he _) oq) (hS.put z oq ⟨o, k, i, hv, rfl⟩)
  show H1[_]? = some (vp_cell _ _)
  rw [e1]
  rw [vp_cell_i, vp_cell_i, arrV_store]
  congr 2
  funext q
  by_cases hq : q = x.toNatClampNeg
  · subst hq
    simp [updV, vp_nar]
    try rfl
  · simp [updV, hq]
/-- the ends -/
theorem ne_i {P : Int32 → NWd → Prop} {X' : NWd} {v : Int32} (hc : nC p s m args meth c cc nL own D dA ad on) (hP : npic D dA ad on X' H) (hS : va_S (nA ad on) s.heap H locs) (hr : meth.sig.returnType = some .int) (hdg : decode cc pc = .ok (.ireturn, 1)) (hp : P v X') : W p l e R s m args below meth c H locs 0 0 (MQ below (va_Qi P (fun X' t => npic D dA ad on X' t.heap) (nA ad on)) args s 0 0 (nA ad on)) (F0 m pc ls [.int v]) :=
  W.iret hc.1 hc.2.1 hr (fun t ht hW => ⟨⟨v, X', rfl, hp, (show npic D dA ad on X' t.heap by rw [ht]; exact hP)⟩, hS.F ht⟩) hS.2.2 hdg hc.2.2.2.2.2.2.2.2
theorem ne_z {P : Int32 → NWd → Prop} {X' : NWd} {v : Int32} {ty : FieldType} (hc : nC p s m args meth c cc nL own D dA ad on) (hP : npic D dA ad on X' H) (hS : va_S (nA ad on) s.heap H locs) (hr : meth.sig.returnType = some ty) (hn : narrow ty (.int v) = .int v) (hdg : decode cc pc = .ok (.ireturn, 1)) (hp : P v X') : W p l e R s m args below meth c H locs 0 0 (MQ below (va_Qi P (fun X' t => npic D dA ad on X' t.heap) (nA ad on)) args s 0 0 (nA ad on)) (F0 m pc ls [.int v]) :=
  W.zret hc.1 hc.2.1 hr hn (fun t ht hW => ⟨⟨v, X', rfl, hp, (show npic D dA ad on X' t.heap by rw [ht]; exact hP)⟩, hS.F ht⟩) hS.2.2 hdg hc.2.2.2.2.2.2.2.2
theorem ne_v {P : NWd → Prop} {X' : NWd} (hc : nC p s m args meth c cc nL own D dA ad on) (hP : npic D dA ad on X' H) (hS : va_S (nA ad on) s.heap H locs) (hr : meth.sig.returnType = none) (hdg : decode cc pc = .ok (.return_, 1)) (hp : P X') : W p l e R s m args below meth c H locs 0 0 (MQ below (va_Qv P (fun X' t => npic D dA ad on X' t.heap) (nA ad on)) args s 0 0 (nA ad on)) (F0 m pc ls []) :=
  W.vret hc.1 hc.2.1 hr (fun t ht hW => ⟨⟨X', rfl, hp, (show npic D dA ad on X' t.heap by rw [ht]; exact hP)⟩, hS.F ht⟩) hS.2.2 hdg hc.2.2.2.2.2.2.2.2
theorem ne_xi {P : Int32 → NWd → Prop} {XC : String → State → State → Prop} {X' : NWd} {v : Int32} {mc ms : Nat} (hc : nC p s m args meth c cc nL own D dA ad on) (hP : npic D dA ad on X' H) (hS : va_S (nA ad on) s.heap H locs) (hr : meth.sig.returnType = some .int) (hdg : decode cc pc = .ok (.ireturn, 1)) (h1 : cells ≤ mc) (h2 : slots ≤ ms) (hp : P v X') : W p l e R s m args below meth c H locs cells slots (vx_MQ below (va_Qi P (fun X' t => npic D dA ad on X' t.heap) (nA ad on)) XC args s mc ms (nA ad on)) (F0 m pc ls [.int v]) :=
  W.widen h1 h2 (vx_ret (W.iret hc.1 hc.2.1 hr (fun t ht hW => ⟨⟨v, X', rfl, hp, (show npic D dA ad on X' t.heap by rw [ht]; exact hP)⟩, hS.F ht⟩) hS.2.2 hdg hc.2.2.2.2.2.2.2.2))
theorem ne_xz {P : Int32 → NWd → Prop} {XC : String → State → State → Prop} {X' : NWd} {v : Int32} {mc ms : Nat} {ty : FieldType} (hc : nC p s m args meth c cc nL own D dA ad on) (hP : npic D dA ad on X' H) (hS : va_S (nA ad on) s.heap H locs) (hr : meth.sig.returnType = some ty) (hn : narrow ty (.int v) = .int v) (hdg : decode cc pc = .ok (.ireturn, 1)) (h1 : cells ≤ mc) (h2 : slots ≤ ms) (hp : P v X') : W p l e R s m args below meth c H locs cells slots (vx_MQ below (va_Qi P (fun X' t => npic D dA ad on X' t.heap) (nA ad on)) XC args s mc ms (nA ad on)) (F0 m pc ls [.int v]) :=
  W.widen h1 h2 (vx_ret (W.zret hc.1 hc.2.1 hr hn (fun t ht hW => ⟨⟨v, X', rfl, hp, (show npic D dA ad on X' t.heap by rw [ht]; exact hP)⟩, hS.F ht⟩) hS.2.2 hdg hc.2.2.2.2.2.2.2.2))
theorem ne_xv {P : NWd → Prop} {XC : String → State → State → Prop} {X' : NWd} {mc ms : Nat} (hc : nC p s m args meth c cc nL own D dA ad on) (hP : npic D dA ad on X' H) (hS : va_S (nA ad on) s.heap H locs) (hr : meth.sig.returnType = none) (hdg : decode cc pc = .ok (.return_, 1)) (h1 : cells ≤ mc) (h2 : slots ≤ ms) (hp : P X') : W p l e R s m args below meth c H locs cells slots (vx_MQ below (va_Qv P (fun X' t => npic D dA ad on X' t.heap) (nA ad on)) XC args s mc ms (nA ad on)) (F0 m pc ls []) :=
  W.widen h1 h2 (vx_ret (W.vret hc.1 hc.2.1 hr (fun t ht hW => ⟨⟨X', rfl, hp, (show npic D dA ad on X' t.heap by rw [ht]; exact hP)⟩, hS.F ht⟩) hS.2.2 hdg hc.2.2.2.2.2.2.2.2))
theorem ne_xd {P : UInt64 → NWd → Prop} {XC : String → State → State → Prop} {X' : NWd} {v : UInt64} {mc ms : Nat} (hc : nC p s m args meth c cc nL own D dA ad on) (hP : npic D dA ad on X' H) (hS : va_S (nA ad on) s.heap H locs) (hr : meth.sig.returnType = some .double) (hdg : decode cc pc = .ok (.dreturn, 1)) (h1 : cells ≤ mc) (h2 : slots ≤ ms) (hp : P v X') : W p l e R s m args below meth c H locs cells slots (vx_MQ below (va_Qd P (fun X' t => npic D dA ad on X' t.heap) (nA ad on)) XC args s mc ms (nA ad on)) (F0 m pc ls [.double v]) :=
  W.widen h1 h2 (vx_ret (W.dret hc.1 hc.2.1 hr (fun t ht hW => ⟨⟨v, X', rfl, hp, (show npic D dA ad on X' t.heap by rw [ht]; exact hP)⟩, hS.F ht⟩) hS.2.2 hdg hc.2.2.2.2.2.2.2.2))
theorem ne_xf {P : UInt32 → NWd → Prop} {XC : String → State → State → Prop} {X' : NWd} {v : UInt32} {mc ms : Nat} (hc : nC p s m args meth c cc nL own D dA ad on) (hP : npic D dA ad on X' H) (hS : va_S (nA ad on) s.heap H locs) (hr : meth.sig.returnType = some .float) (hdg : decode cc pc = .ok (.freturn, 1)) (h1 : cells ≤ mc) (h2 : slots ≤ ms) (hp : P v X') : W p l e R s m args below meth c H locs cells slots (vx_MQ below (va_Qf P (fun X' t => npic D dA ad on X' t.heap) (nA ad on)) XC args s mc ms (nA ad on)) (F0 m pc ls [.float v]) :=
  W.widen h1 h2 (vx_ret (W.fret hc.1 hc.2.1 hr (fun t ht hW => ⟨⟨v, X', rfl, hp, (show npic D dA ad on X' t.heap by rw [ht]; exact hP)⟩, hS.F ht⟩) hS.2.2 hdg hc.2.2.2.2.2.2.2.2))
/-- calls -/
abbrev nOk (y : MethodName) (n : Nat) : Prop := y.cls ≠ "java/lang/invoke/MethodHandle" ∧ y.cls ≠ "java/lang/invoke/VarHandle" ∧ (parseMethodDescriptor y.desc).map (fun d => d.parameters.length) = some n
theorem npre_of (hc : nC p s m args meth c cc nL own D dA ad on) (hP : npic D dA ad on X H) (hS : va_S (nA ad on) s.heap H locs) {U : State} (hU : U.heap = H) (hW : s.WarmedH U.vm) : npre D dA ad on X U := by
  obtain ⟨-, -, -, -, -, hT, hZ, -, -⟩ := hc
  exact ⟨ntab_warm hW hT, by rw [hU]; exact hP, by rw [hU]; exact vx_Zq.moved hW.alike (hZ.1.kept hS.2.1), by rw [hU]; exact vx_Zq.moved hW.alike (hZ.2.kept hS.2.1)⟩
theorem nblind {av : List Value} : FrameBlind (va_Pc av (npre D dA ad on X)) := fun _ _ _ _ h => ⟨h.1, npre_calling h.2⟩
theorem nfix (hc : nC p s m args meth c cc nL own D dA ad on) : CallFix p m c cc nL s args gw own := ⟨hc.1, hc.2.1, hc.2.2.1, hc.2.2.2.1, hc.2.2.2.2.1⟩
theorem nfree (hS : va_S (nA ad on) s.heap H locs) : ∀ q, q < H.size → nA ad on q → nA ad on q := fun _ _ h => h
theorem ngoodV {idx maxL : Nat} {y : MethodName} {bytes : ByteArray} {ret : Option FieldType} (q1 : Cond.methodLink own idx y ∈ gw) (q2 : Cond.instanceMethod y ∈ gw) (q3 : Cond.selects y.cls y y ∈ gw) (q4 : Cond.initialized y.cls ∈ gw) (q5 : Cond.code y bytes maxL ret ∈ gw) : GoodIn gw (wsV own idx y.cls y (nws y bytes maxL ret)) :=
  gw_good (fun w h => by
    simp only [wsV, nws, List.cons_append, List.nil_append, List.mem_cons] at h
    rcases h with rfl | rfl | rfl | rfl | rfl | h
    · exact q1
    · exact q2
    · exact q3
    · exact q4
    · exact q5
    · exact h)
theorem ngoodS {idx maxL : Nat} {y : MethodName} {bytes : ByteArray} {ret : Option FieldType} (q1 : Cond.methodLink own idx y ∈ gw) (q2 : Cond.static y ∈ gw) (q4 : Cond.initialized y.cls ∈ gw) (q5 : Cond.code y bytes maxL ret ∈ gw) : GoodIn gw (va_wsS own idx y (nws y bytes maxL ret)) :=
  gw_good (fun w h => by
    simp only [va_wsS, nws, List.cons_append, List.nil_append, List.mem_cons] at h
    rcases h with rfl | rfl | rfl | rfl | h
    · exact q1
    · exact q2
    · exact q4
    · exact q5
    · exact h)
theorem ngoodC {maxL : Nat} {y : MethodName} {bytes : ByteArray} {ret : Option FieldType} (q5 : Cond.code y bytes maxL ret ∈ gw) : GoodIn gw (nws y bytes maxL ret) :=
  gw_good (fun w h => by
    rcases List.mem_cons.mp h with rfl | h
    · exact q5
    · exact h)
theorem nrecv (hc : nC p s m args meth c cc nL own D dA ad on) (hP : npic D dA ad on (wdo X o S) H) (hv : nV on o k i) {ci : Nat} {fs : List Value} (he : ncell dA ad (S k i) o k = .inr (ci, fs)) {q : vw_C} (hcl : ncl[ci]? = some q) : ∃ cell : Cell, H[ad o k i]? = some cell ∧ cell.vm.isStatics = false ∧ s.vm.findClass q.1 = some cell.cls :=
  va_recv hc.2.2.2.2.2.1.1 (npic_one (npic_at hP hv he)) hcl (q0 := 0) rfl
variable {y : MethodName} {bytes : ByteArray} {maxL idx n b : Nat} {ret : Option FieldType} {rm : Room} {As st : List Value}
theorem nc_Vi {P : Int32 → NWd → Prop} (hM : nMi l D dA ad on y bytes maxL ret rm (.ref b :: As) X P) (hc : nC p s m args meth c cc nL own D dA ad on) (hP : npic D dA ad on X H) (hS : va_S (nA ad on) s.heap H locs) (hsz : ls.size = nL) (hg : GoodIn gw (wsV own idx y.cls y (nws y bytes maxL ret))) (hrv : ∃ cell : Cell, H[b]? = some cell ∧ cell.vm.isStatics = false ∧ s.vm.findClass y.cls = some cell.cls) (hrm : rm.cells = 0 ∧ rm.slots = 0) (hok : nOk y n) (hn : As.length = n) (hR : rm.frames + 1 ≤ R.frames ∧ 8 + (maxL + 11) + rm.locals ≤ R.locals) (hf : cells ≤ R.cells ∧ slots ≤ R.slots) (hdg : decode cc pc = .ok (.invokevirtual idx, 3)) (hst : st = As.reverse ++ .ref b :: rest) (hW : (rest.map fun v => v.category).sum ≤ 8)
    (kk : ∀ (r : Int32) (X' : NWd) (H1 : Heap) (locs1 : List Loc), P r X' → npic D dA ad on X' H1 → va_S (nA ad on) s.heap H1 locs1 → W p l e R s m args below meth c H1 locs1 cells slots Q (F0 m (pc + 3) ls (.int r :: rest))) : W p l e R s m args below meth c H locs cells slots Q (F0 m pc ls st) := by
  refine va_calli (va_runV (As := As) (rest := rest) (nfix hc) hM (cwV n hc.2.2.2.2.1 hg rfl hrm.1 hrm.2 ⟨rfl, hok⟩ hR) ⟨nblind, hrv, fun U hU hW => ⟨rfl, npre_of hc hP hS hU hW⟩⟩ rfl hn hsz hst (by simpa [JFrame.monitorRoom] using hW) hdg hf) hS (nfree hS) (fun _ h => h) ?_
  intro r X' t H1 locs1 ht _ hp hb _ _ hS1
  rw [ht] at hb
  exact kk r X' H1 locs1 hp hb hS1
theorem nc_Vv {P : NWd → Prop} (hM : nMv l D dA ad on y bytes maxL rm (.ref b :: As) X P) (hc : nC p s m args meth c cc nL own D dA ad on) (hP : npic D dA ad on X H) (hS : va_S (nA ad on) s.heap H locs) (hsz : ls.size = nL) (hg : GoodIn gw (wsV own idx y.cls y (nws y bytes maxL none))) (hrv : ∃ cell : Cell, H[b]? = some cell ∧ cell.vm.isStatics = false ∧ s.vm.findClass y.cls = some cell.cls) (hrm : rm.cells = 0 ∧ rm.slots = 0) (hok : nOk y n) (hn : As.length = n) (hR : rm.frames + 1 ≤ R.frames ∧ 8 + (maxL + 11) + rm.locals ≤ R.locals) (hf : cells ≤ R.cells ∧ slots ≤ R.slots) (hdg : decode cc pc = .ok (.invokevirtual idx, 3)) (hst : st = As.reverse ++ .ref b :: rest) (hW : (rest.map fun v => v.category).sum ≤ 8)
    (kk : ∀ (X' : NWd) (H1 : Heap) (locs1 : List Loc), P X' → npic D dA ad on X' H1 → va_S (nA ad on) s.heap H1 locs1 → W p l e R s m args below meth c H1 locs1 cells slots Q (F0 m (pc + 3) ls rest)) : W p l e R s m args below meth c H locs cells slots Q (F0 m pc ls st) := by
  refine va_callv (va_runV (As := As) (rest := rest) (nfix hc) hM (cwV n hc.2.2.2.2.1 hg rfl hrm.1 hrm.2 ⟨rfl, hok⟩ hR) ⟨nblind, hrv, fun U hU hW => ⟨rfl, npre_of hc hP hS hU hW⟩⟩ rfl hn hsz hst (by simpa [JFrame.monitorRoom] using hW) hdg hf) hS (nfree hS) (fun _ h => h) ?_
  intro X' t H1 locs1 ht _ hp hb _ _ hS1
  rw [ht] at hb
  exact kk X' H1 locs1 hp hb hS1
theorem nc_Si {P : Int32 → NWd → Prop} (hM : nMi l D dA ad on y bytes maxL ret rm As X P) (hc : nC p s m args meth c cc nL own D dA ad on) (hP : npic D dA ad on X H) (hS : va_S (nA ad on) s.heap H locs) (hsz : ls.size = nL) (hg : GoodIn gw (va_wsS own idx y (nws y bytes maxL ret))) (hrm : rm.cells = 0 ∧ rm.slots = 0) (hok : nOk y n) (hn : As.length = n) (hR : rm.frames + 1 ≤ R.frames ∧ 8 + (maxL + 11) + rm.locals ≤ R.locals) (hf : cells ≤ R.cells ∧ slots ≤ R.slots) (hdg : decode cc pc = .ok (.invokestatic idx, 3)) (hst : st = As.reverse ++ rest) (hW : (rest.map fun v => v.category).sum ≤ 8)
    (kk : ∀ (r : Int32) (X' : NWd) (H1 : Heap) (locs1 : List Loc), P r X' → npic D dA ad on X' H1 → va_S (nA ad on) s.heap H1 locs1 → W p l e R s m args below meth c H1 locs1 cells slots Q (F0 m (pc + 3) ls (.int r :: rest))) : W p l e R s m args below meth c H locs cells slots Q (F0 m pc ls st) := by
  refine va_calli (va_runS (As := As) (rest := rest) (nfix hc) hM (va_cwS n hc.2.2.2.2.1 hg rfl hrm.1 hrm.2 hok hR) ⟨nblind, fun U hU hW => ⟨rfl, npre_of hc hP hS hU hW⟩⟩ rfl hn hsz hst (by simpa [JFrame.monitorRoom] using hW) hdg hf) hS (nfree hS) (fun _ h => h) ?_
  intro r X' t H1 locs1 ht _ hp hb _ _ hS1
  rw [ht] at hb
  exact kk r X' H1 locs1 hp hb hS1
end NR
