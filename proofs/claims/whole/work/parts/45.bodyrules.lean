/-! The law's body: its rules. -/
def lB (p : Program) (l : Launch) (s : State) (m : MethodId) (meth : Method) (c : Code) (b L : Nat) (xs : Nat → Int32) (D : va_G) (dA : Nat → ClassId) (ad : Nat → Nat → Nat → Nat) (on : Nat → Prop) (cL cD : ClassId) (aL aD : Nat) : Prop :=
  p.tables.exec = Jvm.exec ∧ c.code = code ∧ c.maxLocals = 9 ∧ s.vm.findClass "NominatorLaw" = some m.cls ∧ (∀ w ∈ gw, w.before #[Value.ref b] s = true) ∧ ntab D dA s ∧ nst (fun q => s.heap.size ≤ q) s s.heap ∧ lK D cL cD s ∧ ninj ad on ∧ lsep ad on aL aD ∧ (va_X b L xs s s.heap ∧ b < s.heap.size) ∧ (∀ q, lA2 ad on aL aD q → s.heap.size ≤ q) ∧ (on 0 ∧ on 1 ∧ on 2 ∧ on 3) ∧ l.stackTraces = false
section BR
variable {p : Program} {l : Launch} {e : Env} {R : Room} {s : State} {m : MethodId} {below : List Frame} {meth : Method} {c : Code} {H : Heap} {locs : List Loc} {cells slots : Nat} {Q : State → Prop}
variable {pc b L : Nat} {xs : Nat → Int32} {ls : Array Slot} {rest : List Value} {D : va_G} {dA : Nat → ClassId} {ad : Nat → Nat → Nat → Nat} {on : Nat → Prop} {cL cD : ClassId} {aL aD : Nat} {u : LSt}
theorem b_fix (hc : lB p l s m meth c b L xs D dA ad on cL cD aL aD) : CallFix p m c code 9 s #[Value.ref b] gw "NominatorLaw" := ⟨hc.1, hc.2.1, hc.2.2.1, hc.2.2.2.1, hc.2.2.2.2.1⟩
theorem b_npre {X : NWd} (hc : lB p l s m meth c b L xs D dA ad on cL cD aL aD) (hP : npic D dA ad on X H) (hS : va_S (fun q => s.heap.size ≤ q) s.heap H locs) {U : State} (hU : U.heap = H) (hW : s.WarmedH U.vm) : npre D dA ad on X U := by
  obtain ⟨-, -, -, -, -, hT, hZ, -, -, -, -, hA, -⟩ := hc
  exact ⟨ntab_warm hW hT, by rw [hU]; exact hP, by rw [hU]; exact vx_Zq.moved hW.alike ((hZ.1.kept hS.2.1).narrow (fun q h => hA q (Or.inl h))), by rw [hU]; exact vx_Zq.moved hW.alike ((hZ.2.kept hS.2.1).narrow (fun q h => hA q (Or.inl h)))⟩
theorem b_lpre (hc : lB p l s m meth c b L xs D dA ad on cL cD aL aD) (hP : lpic D dA ad on cL cD aL aD u H) (hS : va_S (fun q => s.heap.size ≤ q) s.heap H locs) {U : State} (hU : U.heap = H) (hW : s.WarmedH U.vm) : lpre D dA ad on cL cD aL aD u U := by
  obtain ⟨-, -, -, -, -, hT, hZ, hK, -, -, -, hA, -⟩ := hc
  exact ⟨ntab_warm hW hT, by rw [hU]; exact hP, ⟨by rw [hU]; exact vx_Zq.moved hW.alike ((hZ.1.kept hS.2.1).narrow hA), by rw [hU]; exact vx_Zq.moved hW.alike ((hZ.2.kept hS.2.1).narrow hA)⟩, va_K.moved hW.alike hK⟩
theorem b_lblind {av : List Value} : FrameBlind (va_Pc av (lpre D dA ad on cL cD aL aD u)) := fun _ _ _ _ h => ⟨h.1, lpre_calling h.2⟩
/-- one of the script's ints -/
theorem b_sld (hc : lB p l s m meth c b L xs D dA ad on cL cD aL aD) (hS : va_S (fun q => s.heap.size ≤ q) s.heap H locs) {i : Int32} (hin : vp_in i L) (hdg : decode code pc = .ok (.iaload, 1))
    (kk : W p l e R s m #[Value.ref b] below meth c H locs cells slots Q (F0 m (pc + 1) ls (.int (xs (nix i)) :: rest))) : W p l e R s m #[Value.ref b] below meth c H locs cells slots Q (F0 m pc ls (.int i :: .ref b :: rest)) := by
  obtain ⟨hx, hb, -, -, -, -, -, -, -, -, ⟨hX, hbl⟩, -⟩ := hc
  exact va_sld hx hb hX hbl (fun (h : s.heap.size ≤ b) => absurd hbl (Nat.not_lt.mpr h)) hS hin hdg kk
theorem b_len (hc : lB p l s m meth c b L xs D dA ad on cL cD aL aD) (hS : va_S (fun q => s.heap.size ≤ q) s.heap H locs) (hdg : decode code pc = .ok (.arraylength, 1))
    (kk : W p l e R s m #[Value.ref b] below meth c H locs cells slots Q (F0 m (pc + 1) ls (.int (nI L) :: rest))) : W p l e R s m #[Value.ref b] below meth c H locs cells slots Q (F0 m pc ls (.ref b :: rest)) := by
  obtain ⟨hx, hb, -, -, -, -, -, -, -, -, ⟨hX, hbl⟩, -⟩ := hc
  exact va_slen hx hb hX hbl (fun (h : s.heap.size ≤ b) => absurd hbl (Nat.not_lt.mpr h)) hS hdg kk
theorem b_lld (hc : lB p l s m meth c b L xs D dA ad on cL cD aL aD) (hP : lpic D dA ad on cL cD aL aD u H) (hdg : decode code pc = .ok (.laload, 1))
    (kk : W p l e R s m #[Value.ref b] below meth c H locs cells slots Q (F0 m (pc + 1) ls (.long u.2.1 :: rest))) : W p l e R s m #[Value.ref b] below meth c H locs cells slots Q (F0 m pc ls (.int 0 :: .ref aL :: rest)) := by
  obtain ⟨f, f0, f1⟩ := hP.2.1
  have hin : vp_in 0 1 := by unfold vp_in; decide
  refine va_lald hc.1 hc.2.1 hc.2.2.2.2.2.2.2.1 (npic_one f1) 0 0 rfl rfl hin hdg ?_
  rw [show f (0 : Int32).toNatClampNeg = u.2.1 from f0]
  exact kk
theorem b_dld (hc : lB p l s m meth c b L xs D dA ad on cL cD aL aD) (hP : lpic D dA ad on cL cD aL aD u H) (hdg : decode code pc = .ok (.daload, 1))
    (kk : W p l e R s m #[Value.ref b] below meth c H locs cells slots Q (F0 m (pc + 1) ls (.double u.2.2 :: rest))) : W p l e R s m #[Value.ref b] below meth c H locs cells slots Q (F0 m pc ls (.int 0 :: .ref aD :: rest)) := by
  obtain ⟨f, f0, f1⟩ := hP.2.2
  have hin : vp_in 0 1 := by unfold vp_in; decide
  refine va_dald hc.1 hc.2.1 hc.2.2.2.2.2.2.2.1 (npic_one f1) 0 1 rfl rfl hin hdg ?_
  rw [show f (0 : Int32).toNatClampNeg = u.2.2 from f0]
  exact kk
variable {y : MethodName} {bytes : ByteArray} {maxL idx n bb : Nat} {ret : Option FieldType} {As st : List Value} {hh : List (Nat × Nat × Nat × Nat)}
/-- one of the law's own methods is called -/
theorem b_L {P : Int32 → LSt → Prop} (hM : lM l D dA ad on cL cD aL aD y bytes maxL hh As u P) (hc : lB p l s m meth c b L xs D dA ad on cL cD aL aD) (hP : lpic D dA ad on cL cD aL aD u H) (hS : va_S (fun q => s.heap.size ≤ q) s.heap H locs) (hsz : ls.size = 9) (q1 : Cond.methodLink "NominatorLaw" idx y ∈ gw) (q2 : Cond.static y ∈ gw) (q4 : Cond.initialized y.cls ∈ gw) (q5 : Cond.codeWith y bytes maxL (some .int) hh ∈ gw) (hok : nOk y n) (hn : As.length = n) (hR : 11 ≤ R.frames ∧ 8 + (maxL + 11) + 400 ≤ R.locals) (hf : cells + 6 ≤ R.cells ∧ slots + 36 ≤ R.slots) (hdg : decode code pc = .ok (.invokestatic idx, 3)) (hst : st = As.reverse ++ rest) (hW : (rest.map fun v => v.category).sum ≤ 8)
    (kk : ∀ (r : Int32) (u' : LSt) (H1 : Heap) (locs1 : List Loc), P r u' → lpic D dA ad on cL cD aL aD u' H1 → va_S (fun q => s.heap.size ≤ q) s.heap H1 locs1 → W p l e R s m #[Value.ref b] below meth c H1 locs1 (cells + 6) (slots + 36) Q (F0 m (pc + 3) ls (.int r :: rest))) : W p l e R s m #[Value.ref b] below meth c H locs cells slots Q (F0 m pc ls st) := by
  have hA := hc.2.2.2.2.2.2.2.2.2.2.2.1
  have hg : GoodIn gw (va_wsS "NominatorLaw" idx y (Cond.codeWith y bytes maxL (some .int) hh :: gw)) := gw_good (fun w h => by
    simp only [va_wsS, List.cons_append, List.nil_append, List.mem_cons] at h
    rcases h with rfl | rfl | rfl | rfl | h
    · exact q1
    · exact q2
    · exact q4
    · exact q5
    · exact h)
  refine va_calli (vx_runSW (As := As) (rest := rest) (b_fix hc) hM (vx_cwSW n hc.2.2.2.2.1 hg rfl rfl rfl hok hR) ⟨b_lblind, fun U hU hW => ⟨rfl, b_lpre hc hP hS hU hW⟩⟩ rfl hn hsz hst (by simpa [JFrame.monitorRoom] using hW) hdg hf) hS (fun q _ h => hA q h) (fun q h => hA q h) ?_
  intro r u' t H1 locs1 ht _ hp hb _ _ hS1
  rw [ht] at hb
  exact kk r u' H1 locs1 hp hb hS1
variable {X : NWd} {vL : Int64} {vD : UInt64} {rm : Room}
theorem b_Mi {P : Int32 → NWd → Prop} (hM : nMi l D dA ad on y bytes maxL ret rm (.ref bb :: As) X P) (hc : lB p l s m meth c b L xs D dA ad on cL cD aL aD) (hP : lpic D dA ad on cL cD aL aD (X, vL, vD) H) (hS : va_S (fun q => s.heap.size ≤ q) s.heap H locs) (hsz : ls.size = 9) (hg : GoodIn gw (wsV "NominatorLaw" idx y.cls y (nws y bytes maxL ret))) (hrv : ∃ cell : Cell, H[bb]? = some cell ∧ cell.vm.isStatics = false ∧ s.vm.findClass y.cls = some cell.cls) (hrm : rm.cells = 0 ∧ rm.slots = 0) (hok : nOk y n) (hn : As.length = n) (hR : rm.frames + 1 ≤ R.frames ∧ 8 + (maxL + 11) + rm.locals ≤ R.locals) (hf : cells ≤ R.cells ∧ slots ≤ R.slots) (hdg : decode code pc = .ok (.invokevirtual idx, 3)) (hst : st = As.reverse ++ .ref bb :: rest) (hW : (rest.map fun v => v.category).sum ≤ 8)
    (kk : ∀ (r : Int32) (X' : NWd) (H1 : Heap) (locs1 : List Loc), P r X' → lpic D dA ad on cL cD aL aD (X', vL, vD) H1 → va_S (fun q => s.heap.size ≤ q) s.heap H1 locs1 → W p l e R s m #[Value.ref b] below meth c H1 locs1 cells slots Q (F0 m (pc + 3) ls (.int r :: rest))) : W p l e R s m #[Value.ref b] below meth c H locs cells slots Q (F0 m pc ls st) := by
  have hA := hc.2.2.2.2.2.2.2.2.2.2.2.1
  have hsep := hc.2.2.2.2.2.2.2.2.2.1
  refine va_calli (va_runV (As := As) (rest := rest) (b_fix hc) hM (cwV n hc.2.2.2.2.1 hg rfl hrm.1 hrm.2 ⟨rfl, hok⟩ hR) ⟨nblind, hrv, fun U hU hW => ⟨rfl, b_npre hc hP.1 hS hU hW⟩⟩ rfl hn hsz hst (by simpa [JFrame.monitorRoom] using hW) hdg hf) hS (fun q _ h => hA q (Or.inl h)) (fun q h => hA q (Or.inl h)) ?_
  intro r X' t H1 locs1 ht _ hp hb _ hk hS1
  rw [ht] at hb
  exact kk r X' H1 locs1 hp (lpic_kept hsep hP hb hk) hS1
theorem b_Md {P : UInt64 → NWd → Prop} (hM : nMd l D dA ad on y bytes maxL rm (.ref bb :: As) X P) (hc : lB p l s m meth c b L xs D dA ad on cL cD aL aD) (hP : lpic D dA ad on cL cD aL aD (X, vL, vD) H) (hS : va_S (fun q => s.heap.size ≤ q) s.heap H locs) (hsz : ls.size = 9) (hg : GoodIn gw (wsV "NominatorLaw" idx y.cls y (nws y bytes maxL (some .double)))) (hrv : ∃ cell : Cell, H[bb]? = some cell ∧ cell.vm.isStatics = false ∧ s.vm.findClass y.cls = some cell.cls) (hrm : rm.cells = 0 ∧ rm.slots = 0) (hok : nOk y n) (hn : As.length = n) (hR : rm.frames + 1 ≤ R.frames ∧ 8 + (maxL + 11) + rm.locals ≤ R.locals) (hf : cells ≤ R.cells ∧ slots ≤ R.slots) (hdg : decode code pc = .ok (.invokevirtual idx, 3)) (hst : st = As.reverse ++ .ref bb :: rest) (hW : (rest.map fun v => v.category).sum ≤ 8)
    (kk : ∀ (r : UInt64) (X' : NWd) (H1 : Heap) (locs1 : List Loc), P r X' → lpic D dA ad on cL cD aL aD (X', vL, vD) H1 → va_S (fun q => s.heap.size ≤ q) s.heap H1 locs1 → W p l e R s m #[Value.ref b] below meth c H1 locs1 cells slots Q (F0 m (pc + 3) ls (.double r :: rest))) : W p l e R s m #[Value.ref b] below meth c H locs cells slots Q (F0 m pc ls st) := by
  have hA := hc.2.2.2.2.2.2.2.2.2.2.2.1
  have hsep := hc.2.2.2.2.2.2.2.2.2.1
  refine va_calld (va_runV (As := As) (rest := rest) (b_fix hc) hM (cwV n hc.2.2.2.2.1 hg rfl hrm.1 hrm.2 ⟨rfl, hok⟩ hR) ⟨nblind, hrv, fun U hU hW => ⟨rfl, b_npre hc hP.1 hS hU hW⟩⟩ rfl hn hsz hst (by simpa [JFrame.monitorRoom] using hW) hdg hf) hS (fun q _ h => hA q (Or.inl h)) (fun q h => hA q (Or.inl h)) ?_
  intro r X' t H1 locs1 ht _ hp hb _ hk hS1
  rw [ht] at hb
  exact kk r X' H1 locs1 hp (lpic_kept hsep hP hb hk) hS1
theorem b_Mf {P : UInt32 → NWd → Prop} (hM : nMf l D dA ad on y bytes maxL rm (.ref bb :: As) X P) (hc : lB p l s m meth c b L xs D dA ad on cL cD aL aD) (hP : lpic D dA ad on cL cD aL aD (X, vL, vD) H) (hS : va_S (fun q => s.heap.size ≤ q) s.heap H locs) (hsz : ls.size = 9) (hg : GoodIn gw (wsV "NominatorLaw" idx y.cls y (nws y bytes maxL (some .float)))) (hrv : ∃ cell : Cell, H[bb]? = some cell ∧ cell.vm.isStatics = false ∧ s.vm.findClass y.cls = some cell.cls) (hrm : rm.cells = 0 ∧ rm.slots = 0) (hok : nOk y n) (hn : As.length = n) (hR : rm.frames + 1 ≤ R.frames ∧ 8 + (maxL + 11) + rm.locals ≤ R.locals) (hf : cells ≤ R.cells ∧ slots ≤ R.slots) (hdg : decode code pc = .ok (.invokevirtual idx, 3)) (hst : st = As.reverse ++ .ref bb :: rest) (hW : (rest.map fun v => v.category).sum ≤ 8)
    (kk : ∀ (r : UInt32) (X' : NWd) (H1 : Heap) (locs1 : List Loc), P r X' → lpic D dA ad on cL cD aL aD (X', vL, vD) H1 → va_S (fun q => s.heap.size ≤ q) s.heap H1 locs1 → W p l e R s m #[Value.ref b] below meth c H1 locs1 cells slots Q (F0 m (pc + 3) ls (.float r :: rest))) : W p l e R s m #[Value.ref b] below meth c H locs cells slots Q (F0 m pc ls st) := by
  have hA := hc.2.2.2.2.2.2.2.2.2.2.2.1
  have hsep := hc.2.2.2.2.2.2.2.2.2.1
  refine va_callf (va_runV (As := As) (rest := rest) (b_fix hc) hM (cwV n hc.2.2.2.2.1 hg rfl hrm.1 hrm.2 ⟨rfl, hok⟩ hR) ⟨nblind, hrv, fun U hU hW => ⟨rfl, b_npre hc hP.1 hS hU hW⟩⟩ rfl hn hsz hst (by simpa [JFrame.monitorRoom] using hW) hdg hf) hS (fun q _ h => hA q (Or.inl h)) (fun q h => hA q (Or.inl h)) ?_
  intro r X' t H1 locs1 ht _ hp hb _ hk hS1
  rw [ht] at hb
  exact kk r X' H1 locs1 hp (lpic_kept hsep hP hb hk) hS1
/-- a method of the class that never throws -/
theorem b_Xi {P : Int32 → NWd → Prop} {E : Nat → Prop} (hM : nXi l D dA ad on y bytes maxL ret (nrx 9 6) (.ref bb :: As) X 6 P E) (hE : ∀ k, ¬ E k) (hc : lB p l s m meth c b L xs D dA ad on cL cD aL aD) (hP : lpic D dA ad on cL cD aL aD (X, vL, vD) H) (hS : va_S (fun q => s.heap.size ≤ q) s.heap H locs) (hsz : ls.size = 9) (hg : GoodIn gw (wsV "NominatorLaw" idx y.cls y (nws y bytes maxL ret))) (hrv : ∃ cell : Cell, H[bb]? = some cell ∧ cell.vm.isStatics = false ∧ s.vm.findClass y.cls = some cell.cls) (hok : nOk y n) (hn : As.length = n) (hR : 10 ≤ R.frames ∧ 8 + (maxL + 11) + 360 ≤ R.locals) (hf : cells + 6 ≤ R.cells ∧ slots + 36 ≤ R.slots) (hdg : decode code pc = .ok (.invokevirtual idx, 3)) (hst : st = As.reverse ++ .ref bb :: rest) (hW : (rest.map fun v => v.category).sum ≤ 8)
    (kk : ∀ (r : Int32) (X' : NWd) (H1 : Heap) (locs1 : List Loc), P r X' → lpic D dA ad on cL cD aL aD (X', vL, vD) H1 → va_S (fun q => s.heap.size ≤ q) s.heap H1 locs1 → W p l e R s m #[Value.ref b] below meth c H1 locs1 (cells + 6) (slots + 36) Q (F0 m (pc + 3) ls (.int r :: rest))) : W p l e R s m #[Value.ref b] below meth c H locs cells slots Q (F0 m pc ls st) := by
  have hA := hc.2.2.2.2.2.2.2.2.2.2.2.1
  have hsep := hc.2.2.2.2.2.2.2.2.2.1
  refine vx_calli (vx_runV (As := As) (rest := rest) (b_fix hc) hM (cwV n hc.2.2.2.2.1 hg rfl rfl rfl ⟨rfl, hok⟩ hR) ⟨nblind, hrv, fun U hU hW => ⟨rfl, b_npre hc hP.1 hS hU hW⟩⟩ rfl hn hsz hst (by simpa [JFrame.monitorRoom] using hW) hdg hf) hS (fun q _ h => hA q (Or.inl h)) (fun q h => hA q (Or.inl h)) (fun q _ h => hA q (Or.inl h)) ?_ ?_
  · intro nm ce q9 k t H1 locs1 _ _ hp _ _ _ _ _ _ _
    exact absurd hp (hE k)
  · intro r X' t H1 locs1 ht _ hp hb _ hk hS1
    rw [ht] at hb
    exact kk r X' H1 locs1 hp (lpic_kept hsep hP hb hk) hS1
theorem b_rec9 (hc : lB p l s m meth c b L xs D dA ad on cL cD aL aD) (hP : npic D dA ad on X H) : ∃ cell : Cell, H[ad 2 20 0]? = some cell ∧ cell.vm.isStatics = false ∧ s.vm.findClass "Nominator" = some cell.cls :=
  va_recv hc.2.2.2.2.2.1.1 (npic_one (npic_at (npic_eta hP) (nv_n hc.2.2.2.2.2.2.2.2.2.2.2.2.1.2.2.1 (by decide) Nat.zero_lt_one) rfl)) (q := (RX9, TX9, 3)) rfl (q0 := 0) rfl
theorem b_rec10 (hc : lB p l s m meth c b L xs D dA ad on cL cD aL aD) (hP : npic D dA ad on X H) : ∃ cell : Cell, H[ad 3 30 0]? = some cell ∧ cell.vm.isStatics = false ∧ s.vm.findClass "NominatorModel" = some cell.cls :=
  va_recv hc.2.2.2.2.2.1.1 (npic_one (npic_at (npic_eta hP) (nv_m hc.2.2.2.2.2.2.2.2.2.2.2.2.1.2.2.2 (by decide) Nat.zero_lt_one) rfl)) (q := (RX10, TX10, 31)) rfl (q0 := 0) rfl
end BR
theorem nG_inr {α : Type} {b : Bool} {k : Nat} {r : Nat ⊕ α} {z : α} (h : nG b k r = .inr z) : r = .inr z := by
  unfold nG at h
  cases b with
  | true => exact h
  | false => cases h
theorem nInv.w3 {X : NWd} {M T : NSt} {n : Nat} (h : nInv X M n) : nInv (wdo X 3 T) M n := by
  refine ⟨?_, h.z, ?_, h.hn, ?_⟩
  · rw [wdo_ne (by decide)]; exact h.q
  · rw [wdo_ne (by decide)]; exact h.d
  · rw [wdo_ne (by decide)]; exact h.r
theorem nEv3 {X : NWd} {S : NSt} {x f z t : Int32} : nEv X S x f z t 3 = X 3 := by
  unfold nEv
  rw [wdo_ne (by decide), wdo_ne (by decide)]
/-- the two answers meet -/
theorem l_key {hc : Nat → Int32} {X : NWd} {M : NSt} {n : Nat} {G : Nat ⊕ (Int32 × NWd)} {Z : Int32 × NSt} {fo : Int32 → Int64} {r : Int32} {u : LSt} (h : nInv X M n) (hs : nSim hc X M n G Z) (hp : lPi hc G fo (wdo X 0 (X 0)) r u) : Z.2 30 0 0 = r ∧ (r = 0 → u.2.1 = fo Z.1) ∧ ∃ n', n' ≤ n + 1 ∧ nInv (wdo u.1 3 Z.2) Z.2 n' := by
  rcases hp with ⟨k, h1, h2, h3⟩ | ⟨v, X', h1, h2, h3, h4⟩
  · obtain ⟨a1, a2, a3⟩ := hs.1 k h1
    refine ⟨a1.trans h2.symm, fun z => absurd (h2.symm.trans z) a2, n, Nat.le_succ n, ?_⟩
    rw [h3]; exact (h.E a3).eta.w3
  · obtain ⟨a1, a2, n', a3, a4⟩ := hs.2 v X' h1
    refine ⟨a1.trans h2.symm, fun _ => by rw [h4, a2], n', a3, ?_⟩
    rw [h3]; exact a4.w3
theorem l_keyY {hc : Nat → Int32} {X : NWd} {M : NSt} {n : Nat} {G : Nat ⊕ (Int32 × NWd)} {Z : Int32 × NSt} {fo : Int32 → Int64} {r : Int32} {u : LSt} (h : nInv X M n) (hs : nSim hc X M n G Z) (hp : lPy hc G fo X r u) : Z.2 30 0 0 = r ∧ (r = 0 → u.2.1 = fo Z.1) ∧ ∃ n', n' ≤ n + 1 ∧ nInv (wdo u.1 3 Z.2) Z.2 n' := by
  rcases hp with ⟨k, h1, h2, h3⟩ | ⟨v, X', h1, h2, h3, h4⟩
  · obtain ⟨a1, a2, a3⟩ := hs.1 k h1
    refine ⟨a1.trans h2.symm, fun z => absurd (h2.symm.trans z) a2, n, Nat.le_succ n, ?_⟩
    rcases h3 with h3 | ⟨x, h3⟩
    · rw [h3]; exact (h.E a3).eta.w3
    · rw [h3]; exact ((h.E a3).g x).w3
  · obtain ⟨a1, a2, n', a3, a4⟩ := hs.2 v X' h1
    refine ⟨a1.trans h2.symm, fun _ => by rw [h4, a2], n', a3, ?_⟩
    rw [h3]; exact a4.w3
theorem l_keyD {hc : Nat → Int32} {X : NWd} {M : NSt} {n : Nat} {G : Nat ⊕ (UInt64 × NWd)} {Z : UInt64 × NSt} {fo : UInt64 → UInt64} {r : Int32} {u : LSt} (h : nInv X M n) (hs : nSim hc X M n G Z) (hp : lPd hc G fo (wdo X 0 (X 0)) r u) : Z.2 30 0 0 = r ∧ (r = 0 → u.2.2 = fo Z.1) ∧ ∃ n', n' ≤ n + 1 ∧ nInv (wdo u.1 3 Z.2) Z.2 n' := by
  rcases hp with ⟨k, h1, h2, h3⟩ | ⟨v, X', h1, h2, h3, h4⟩
  · obtain ⟨a1, a2, a3⟩ := hs.1 k h1
    refine ⟨a1.trans h2.symm, fun z => absurd (h2.symm.trans z) a2, n, Nat.le_succ n, ?_⟩
    rw [h3]; exact (h.E a3).eta.w3
  · obtain ⟨a1, a2, n', a3, a4⟩ := hs.2 v X' h1
    refine ⟨a1.trans h2.symm, fun _ => by rw [h4, a2], n', a3, ?_⟩
    rw [h3]; exact a4.w3
theorem l_keyF {hc : Nat → Int32} {X : NWd} {M : NSt} {n : Nat} {G : Nat ⊕ (UInt32 × NWd)} {Z : UInt32 × NSt} {fo : UInt32 → UInt64} {r : Int32} {u : LSt} (h : nInv X M n) (hs : nSim hc X M n G Z) (hp : lPf hc G fo (wdo X 0 (X 0)) r u) : Z.2 30 0 0 = r ∧ (r = 0 → u.2.2 = fo Z.1 ∧ ∃ X', G = .inr (Z.1, X')) ∧ ∃ n', n' ≤ n + 1 ∧ nInv (wdo u.1 3 Z.2) Z.2 n' := by
  rcases hp with ⟨k, h1, h2, h3⟩ | ⟨v, X', h1, h2, h3, h4⟩
  · obtain ⟨a1, a2, a3⟩ := hs.1 k h1
    refine ⟨a1.trans h2.symm, fun z => absurd (h2.symm.trans z) a2, n, Nat.le_succ n, ?_⟩
    rw [h3]; exact (h.E a3).eta.w3
  · obtain ⟨a1, a2, n', a3, a4⟩ := hs.2 v X' h1
    refine ⟨a1.trans h2.symm, fun _ => ⟨by rw [h4, a2], X', by rw [a2]; exact h1⟩, n', a3, ?_⟩
    rw [h3]; exact a4.w3
theorem lg_self (v : Int64) : lg_cmp v v = 0 := by
  unfold lg_cmp
  simp
