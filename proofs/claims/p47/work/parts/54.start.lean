/-! The start of the law: the tables' words, the addresses, the first objects. -/
theorem st_arr {s : State} {args : Array Value} {ty : FieldType} (h : (Cond.arrayClass ty).before args s = true) (hno : ∀ C, ty ≠ .object C) : ∃ c, ArrOfT s c ty ∧ va_RA s c ty := by
  obtain ⟨c, k, comp, h1, h2, h3⟩ := Cond.arrayClass_spec h
  refine ⟨c, ?_, ?_⟩
  · intro n z
    exact ⟨fun k h => (by cases h), k, h2, comp, h3⟩
  · unfold va_RA
    cases ty with
    | object C => exact absurd rfl (hno C)
    | _ => exact h1
theorem st_arrO {s : State} {args : Array Value} {C : String} (h : (Cond.arrayOver (.object C)).before args s = true) : ∃ c, ArrOfT s c (.object C) ∧ va_RA s c (.object C) := by
  obtain ⟨comp, c, k, h1, h2, h3, h4, h5⟩ := Cond.arrayOver_spec h
  exact ⟨c, fun n z => ⟨fun k h => (by cases h), k, h3, comp, h4⟩, k, comp, h3, h4, h1, h5⟩
theorem st_tab {s : State} {args : Array Value} (hts : ∀ w ∈ lw_tbl, w.before args s = true) (hgv : (Jvm.Cond.and given_1 narrow_1).before args s = true) : ∃ (D : va_G) (dA : Nat → ClassId), ntab D dA s ∧ nst (fun q => s.heap.size ≤ q) s s.heap ∧ ∀ C ∈ nAO, va_AO C s := by
  have hg : ∀ w ∈ gw, w.before args s = true := fun w h => hts w (gw_tbl h)
  obtain ⟨c0, i0, k0⟩ := u_known hg iX0 (hg _ q68)
  obtain ⟨c1, i1, k1⟩ := u_known hg iX1 (hg _ q38)
  obtain ⟨c2, i2, k2⟩ := u_known hg iX2 (hg _ q287)
  obtain ⟨c3, i3, k3⟩ := u_known hg iX3 (hg _ q128)
  obtain ⟨c4, i4, k4⟩ := u_known hg iX4 (hg _ q32)
  obtain ⟨c5, i5, k5⟩ := u_known hg iX5 (hg _ q151)
  obtain ⟨c6, i6, k6⟩ := u_known hg iX6 (hg _ q59)
  obtain ⟨c7, i7, k7⟩ := u_known hg iX7 (hg _ q204)
  obtain ⟨c8, i8, k8⟩ := u_known hg iX8 (hg _ q87)
  obtain ⟨c9, i9, k9⟩ := u_known hg iX9 (hg _ q24)
  have hov : ∀ C ∈ nAO, (Cond.arrayOver (.object C)).before args s = true := fun C hC => hts _ ((show ∀ C ∈ nAO, (Cond.arrayOver (.object C)) ∈ lw_tbl by decide +kernel) C hC)
  obtain ⟨a0, A0⟩ := st_arr (hg _ q146) (fun C h => by cases h)
  obtain ⟨a2, A2⟩ := st_arr (hg _ q145) (fun C h => by cases h)
  obtain ⟨a3, A3⟩ := st_arrO (hov RX0 (by decide))
  obtain ⟨a4, A4⟩ := st_arrO (hov RX8 (by decide))
  obtain ⟨a5, A5⟩ := st_arrO (hov RX5 (by decide))
  obtain ⟨a6, A6⟩ := st_arrO (hov RX7 (by decide))
  refine ⟨(fun k => match k with | 0 => c0 | 1 => c1 | 2 => c2 | 3 => c3 | 4 => c4 | 5 => c5 | 6 => c6 | 7 => c7 | 8 => c8 | _ => c9, fun k => match k with | 0 => i0 | 1 => i1 | 2 => i2 | 3 => i3 | 4 => i4 | 5 => i5 | 6 => i6 | 7 => i7 | 8 => i8 | _ => i9), (fun k => match k with | 0 => a0 | 1 => a0 | 2 => a2 | 3 => a3 | 4 => a4 | 5 => a5 | _ => a6), ⟨⟨?_, ?_⟩, ?_, ?_, ?_⟩, ⟨?_, ?_⟩, fun C hC => va_AO.of (hov C hC)⟩
  · intro c q h
    match c, h with
    | 0, h => cases h; exact k0
    | 1, h => cases h; exact k1
    | 2, h => cases h; exact k2
    | 3, h => cases h; exact k3
    | 4, h => cases h; exact k4
    | 5, h => cases h; exact k5
    | 6, h => cases h; exact k6
    | 7, h => cases h; exact k7
    | 8, h => cases h; exact k8
    | 9, h => cases h; exact k9
    | n + 10, h => cases h
  · intro k q h
    match k, h with
    | 0, h => cases h; exact A0
    | 1, h => cases h; exact A0
    | 2, h => cases h; exact A2
    | 3, h => cases h; exact A3
    | 4, h => cases h; exact A4
    | 5, h => cases h; exact A5
    | 6, h => cases h; exact A6
    | n + 7, h => cases h
  · intro w hw
    have h9 := (show ∀ w ∈ nbw, w ∈ lw_tbl ∧ w.onTables = true by decide +kernel) w hw
    exact va_tabs h9.2 rfl (hts w h9.1)
  · intro q hq
    have h9 := hts _ ((show ∀ q ∈ nstr, (Cond.stringRef "Nominator" q.1 q.2) ∈ lw_tbl by decide +kernel) q hq)
    obtain ⟨k, cf, i, a, -, -, -, -, -, h8⟩ := Cond.stringRef_spec k9.2.1 h9
    exact ⟨a, vk_R.of h9 h8⟩
  · intro q hq
    exact va_Nc.of (flat_of_before _ hgv _ ((show ∀ q ∈ nnc, Cond.not (.castable q.1 q.2) ∈ flatC (Jvm.Cond.and given_1 narrow_1) by decide +kernel) q hq))
  · exact vx_Zqof (hts _ (by decide +kernel)) (hts _ (by decide +kernel)) (flat_of_before _ hgv _ (by decide +kernel)) (fun a h => Nat.not_le.mpr h)
  · exact vx_Zqof (hts _ (by decide +kernel)) (hts _ (by decide +kernel)) (flat_of_before _ hgv _ (by decide +kernel)) (fun a h => Nat.not_le.mpr h)
def lad (N o k i : Nat) : Nat := match o with
  | 0 => iad (N + 1) k i
  | 1 => iad (N + 219) k i
  | _ => if k = 20 then N else N + 437 + (k - 21)
def lon (o : Nat) : Prop := o < 3
theorem lad_case {o k i : Nat} (h : nV lon o k i) : (o = 0 ∧ k < 15 ∧ i < nsz k) ∨ (o = 1 ∧ k < 15 ∧ i < nsz k) ∨ (o = 2 ∧ 20 ≤ k ∧ k < 26 ∧ i = 0) := by
  obtain ⟨ho, hi, h1 | ⟨h1, h2, h3⟩ | ⟨h1, h2, h3⟩⟩ := h
  · rcases (show o = 0 ∨ o = 1 by omega) with e | e
    · exact Or.inl ⟨e, h1.2, hi⟩
    · exact Or.inr (Or.inl ⟨e, h1.2, hi⟩)
  · have := (show ∀ k, k < 26 → 20 ≤ k → nsz k = 1 by decide) k h3 h2
    exact Or.inr (Or.inr ⟨h1, h2, h3, by omega⟩)
  · have ho : o < 3 := ho
    omega
theorem lad_rng {N o k i : Nat} (h : nV lon o k i) : (o = 0 ∧ k < 15 ∧ i < nsz k ∧ lad N o k i = iad (N + 1) k i ∧ N + 1 ≤ lad N o k i ∧ lad N o k i < N + 219) ∨ (o = 1 ∧ k < 15 ∧ i < nsz k ∧ lad N o k i = iad (N + 219) k i ∧ N + 219 ≤ lad N o k i ∧ lad N o k i < N + 437) ∨ (o = 2 ∧ i = 0 ∧ ((k = 20 ∧ lad N o k i = N) ∨ (21 ≤ k ∧ k < 26 ∧ lad N o k i = N + 416 + k))) := by
  rcases lad_case h with ⟨rfl, h1, h2⟩ | ⟨rfl, h1, h2⟩ | ⟨rfl, h1, h2, rfl⟩
  · have := iad_ok (h0 := N + 1) h1 h2
    refine Or.inl ⟨rfl, h1, h2, rfl, ?_, ?_⟩
    · show N + 1 ≤ iad (N + 1) k i
      omega
    · show iad (N + 1) k i < N + 219
      omega
  · have := iad_ok (h0 := N + 219) h1 h2
    refine Or.inr (Or.inl ⟨rfl, h1, h2, rfl, ?_, ?_⟩)
    · show N + 219 ≤ iad (N + 219) k i
      omega
    · show iad (N + 219) k i < N + 437
      omega
  · refine Or.inr (Or.inr ⟨rfl, rfl, ?_⟩)
    by_cases e : k = 20
    · exact Or.inl ⟨e, if_pos e⟩
    · exact Or.inr ⟨by omega, h2, (if_neg e).trans (by omega)⟩
theorem lad_inj {N : Nat} : ninj (lad N) lon := by
  intro o k i o' k' i' h h' he
  have r := lad_rng (N := N) h
  have r' := lad_rng (N := N) h'
  generalize lad N o k i = a at r he
  generalize lad N o' k' i' = a' at r' he
  subst he
  rcases r with ⟨e0, e1, e2, e3, e4, e5⟩ | ⟨e0, e1, e2, e3, e4, e5⟩ | ⟨e0, e1, e2⟩ <;> rcases r' with ⟨f0, f1, f2, f3, f4, f5⟩ | ⟨f0, f1, f2, f3, f4, f5⟩ | ⟨f0, f1, f2⟩
  · obtain ⟨g1, g2⟩ := iad_inj e1 e2 f1 f2 (e3.symm.trans f3)
    exact ⟨e0.trans f0.symm, g1, g2⟩
  · exfalso; omega
  · exfalso; omega
  · exfalso; omega
  · obtain ⟨g1, g2⟩ := iad_inj e1 e2 f1 f2 (e3.symm.trans f3)
    exact ⟨e0.trans f0.symm, g1, g2⟩
  · exfalso; omega
  · exfalso; omega
  · exfalso; omega
  · exact ⟨by omega, by omega, by omega⟩
theorem lad_nA {N q : Nat} (h : nA (lad N) lon q) : N ≤ q ∧ q < N + 442 := by
  obtain ⟨o, k, i, hv, rfl⟩ := h
  rcases lad_rng (N := N) hv with ⟨-, -, -, -, h4, h5⟩ | ⟨-, -, -, -, h4, h5⟩ | ⟨-, -, h2⟩ <;> omega
/-- the world of the start -/
def lX0 : NWd := fun o => match o with | 0 => oRestart iS0 | 1 => oRestart iS0 | _ => fun _ _ _ => 0
theorem lad_off0 {dA : Nat → ClassId} {N k : Nat} {f : Nat → Int32} (hk : k < 15) : ncell dA (lad N) f 0 k = ncell dA (fun _ => iad (N + 1)) f 0 k := by
  match k, hk with
  | 0, _ => rfl
  | 1, _ => rfl
  | 2, _ => rfl
  | 3, _ => rfl
  | 4, _ => rfl
  | 5, _ => rfl
  | 6, _ => rfl
  | 7, _ => rfl
  | 8, _ => rfl
  | 9, _ => rfl
  | 10, _ => rfl
  | 11, _ => rfl
  | 12, _ => rfl
  | 13, _ => rfl
  | 14, _ => rfl
  | n + 15, h => exact absurd h (by omega)
theorem lad_off1 {dA : Nat → ClassId} {N k : Nat} {f : Nat → Int32} (hk : k < 15) : ncell dA (lad N) f 1 k = ncell dA (fun _ => iad (N + 219)) f 0 k := by
  match k, hk with
  | 0, _ => rfl
  | 1, _ => rfl
  | 2, _ => rfl
  | 3, _ => rfl
  | 4, _ => rfl
  | 5, _ => rfl
  | 6, _ => rfl
  | 7, _ => rfl
  | 8, _ => rfl
  | 9, _ => rfl
  | 10, _ => rfl
  | 11, _ => rfl
  | 12, _ => rfl
  | 13, _ => rfl
  | 14, _ => rfl
  | n + 15, h => exact absurd h (by omega)
def lNom (D : va_G) (dA : Nat → ClassId) (N : Nat) (H : Heap) : Prop := va_at D ncl (N, .inr (9, [.ref (N + 1), .ref (N + 219), .ref (N + 437)])) H ∧ iOff D dA (N + 1) (oRestart iS0) H ∧ iOff D dA (N + 219) (oRestart iS0) H ∧ va_at D ncl (N + 437, .inr (2, [.ref (N + 438), .ref (N + 439), .ref (N + 440), .ref (N + 441), .int 0])) H ∧ va_at D ncl (N + 438, .inl (dA 0, 512, .inl (fun _ => 0))) H ∧ va_at D ncl (N + 439, .inl (dA 0, 512, .inl (fun _ => 0))) H ∧ va_at D ncl (N + 440, .inl (dA 0, 512, .inl (fun _ => 0))) H ∧ va_at D ncl (N + 441, .inl (dA 0, 512, .inl (fun _ => 0))) H
theorem lNom.kept {D : va_G} {dA : Nat → ClassId} {N : Nat} {H H1 : Heap} (h : lNom D dA N H) (hq : ∀ q, N ≤ q → q < N + 442 → H1[q]? = H[q]?) : lNom D dA N H1 := by
  obtain ⟨h1, h2, h3, h4, h5, h6, h7, h8⟩ := h
  exact ⟨h1.kept (hq _ (by omega) (by omega)), h2.kept (fun q _ _ => hq q (by omega) (by omega)), h3.kept (fun q _ _ => hq q (by omega) (by omega)), h4.kept (hq _ (by show N ≤ N + 437; omega) (by show N + 437 < N + 442; omega)), h5.kept (hq _ (by show N ≤ N + 438; omega) (by show N + 438 < N + 442; omega)), h6.kept (hq _ (by show N ≤ N + 439; omega) (by show N + 439 < N + 442; omega)), h7.kept (hq _ (by show N ≤ N + 440; omega) (by show N + 440 < N + 442; omega)), h8.kept (hq _ (by show N ≤ N + 441; omega) (by show N + 441 < N + 442; omega))⟩
theorem lad_pic {D : va_G} {dA : Nat → ClassId} {N : Nat} {H : Heap} (h1 : lNom D dA N H) : npic D dA (lad N) lon lX0 H := by
  intro o k i hv
  rcases lad_case hv with ⟨rfl, e1, e2⟩ | ⟨rfl, e1, e2⟩ | ⟨rfl, e1, e2, rfl⟩
  · rw [lad_off0 e1]; exact h1.2.1 k i e1 e2
  · rw [lad_off1 e1]; exact h1.2.2.1 k i e1 e2
  · obtain ⟨n0, -, -, n1, n2, n3, n4, n5⟩ := h1
    rcases (show k = 20 ∨ k = 21 ∨ k = 22 ∨ k = 23 ∨ k = 24 ∨ k = 25 by omega) with rfl | rfl | rfl | rfl | rfl | rfl
    · exact n0
    · exact n1
    · exact n2
    · exact n3
    · exact n4
    · exact n5
section SR
variable {p : Program} {l : Launch} {e : Env} {R : Room} {s : State} {m : MethodId} {args : Array Value} {below : List Frame} {meth : Method} {c : Code} {H : Heap} {locs : List Loc} {cells slots : Nat} {Q : State → Prop}
variable {pc : Nat} {ls : Array Slot} {rest : List Value} {D : va_G} {dA : Nat → ClassId} {ad : Nat → Nat → Nat → Nat} {on : Nat → Prop}
theorem b_new {C : String} {T : u_T} {N ci index : Nat} {fs : List Value} {z : Nat} (hc : nC p s m args meth c code 14 "NominatorLaw" D dA ad on) (hS : va_S (fun q => s.heap.size ≤ q) s.heap H locs) (hz : H.size = z) (hcl : ncl[ci]? = some (C, T, N)) (hin : ∀ w ∈ u_ws C T N, w ∈ gw) (ty : Nat → FieldType) (hty : ∀ k, k < N → parseFieldDescriptor (T k).2.2.1 = some (ty k)) (hlk : Cond.classLink "NominatorLaw" index C ∈ gw) (hins : Cond.instantiable C N ∈ gw) (hini : Cond.initialized C ∈ gw) (hfs : ∀ j, j < N → defaultValue (ty j) = vp_V fs j) (hcells : cells + 1 ≤ R.cells) (hslots : slots + N ≤ R.slots) (hdg : decode code pc = .ok (.new index, 3))
    (kk : ∀ (H1 : Heap), va_at D ncl (z, .inr (ci, fs)) H1 → H1.size = z + 1 → (∀ q, q < z → H1[q]? = H[q]?) → va_S (fun q => s.heap.size ≤ q) s.heap H1 locs → W p l e R s m args below meth c H1 locs (cells + 1) (slots + N) Q (F0 m (pc + 3) ls (.ref z :: rest))) : W p l e R s m args below meth c H locs cells slots Q (F0 m pc ls rest) := by
  obtain ⟨hx, hb, -, hown, hts, ⟨hK, -⟩, -⟩ := hc
  have hKn := hK.1 ci _ hcl
  refine W.newcK hx hb hown (hts _ hlk) (hts _ hins) (hts _ hini) rfl hdg hcells hslots hKn.2.1 hz fun H1 kC hkC e1 z1 o1 => ?_
  refine kk H1 ⟨_, hcl, (u_born ty hts hin hKn hkC e1 hty).to hfs⟩ z1 o1 ⟨Nat.le_trans hS.1 (by omega), fun x h1 h2 => (o1 x (by have := hS.1; omega)).trans (hS.2.1 x h1 h2), hS.2.2⟩
theorem b_ini {y : MethodName} {cY : ByteArray} {maxL idx h1 n mc ms : Nat} {rm : Room} {e0 : va_E} {Z : Heap → Prop} (hM : nIv l D dA s.heap.size y cY maxL rm h1 e0 Z n mc ms) (hc : nC p s m args meth c code 14 "NominatorLaw" D dA ad on) (hZ : nst (fun q => s.heap.size ≤ q) s s.heap) (hAO : ∀ C ∈ nAO, va_AO C s) (hS : va_S (fun q => s.heap.size ≤ q) s.heap H locs) (hv : va_at D ncl (h1, e0) H) (hz : H.size = h1 + 1) (hN : s.heap.size ≤ h1) (hsz : ls.size = 14) (hini : y.name = "<init>") (hok : nOk y 0) (q1 : Cond.initialized y.cls ∈ gw) (q2 : Cond.methodLink "NominatorLaw" idx y ∈ gw) (q3 : Cond.instanceMethod y ∈ gw) (q4 : Cond.code y cY maxL none ∈ gw) (hrm : rm.cells = mc ∧ rm.slots = ms) (hR : rm.frames + 1 ≤ R.frames ∧ 8 + (maxL + 11) + rm.locals ≤ R.locals) (hf : cells + mc ≤ R.cells ∧ slots + ms ≤ R.slots) (hdg : decode code pc = .ok (.invokespecial idx, 3)) (hW : (rest.map fun v => v.category).sum ≤ 8)
    (kk : ∀ (H1 : Heap) (locs1 : List Loc), Z H1 → H1.size = h1 + n → (∀ q, q < h1 → H1[q]? = H[q]?) → va_S (fun q => s.heap.size ≤ q) s.heap H1 locs1 → W p l e R s m args below meth c H1 locs1 (cells + mc) (slots + ms) Q (F0 m (pc + 3) ls rest)) : W p l e R s m args below meth c H locs cells slots Q (F0 m pc ls (.ref h1 :: rest)) := by
  obtain ⟨hx, hb, hml, hown, hts, hT, -⟩ := hc
  refine va_callv (va_runI (As := []) (rest := rest) ⟨hx, hb, hml, hown, hts⟩ hM (cwI 0 hts (ngoodC q4) rfl hrm.1 hrm.2 (hts _ q1) (hts _ q2) (hts _ q3) hini hok hR) ⟨?_, ?_⟩ rfl rfl hsz rfl (lv_room hW) hdg hf) hS (fun q _ h => Nat.le_trans hN h) (fun q h => Nat.le_trans hN h) ?_
  · intro a U g mk q
    obtain ⟨q0, q1, q2, q3, q4, q5, q6⟩ := q
    exact ⟨q0, ntab_calling q1, q2, q3, ⟨vx_Zq.moved (u := U) (U := U.calling g mk a) (Vm.Alike.refl U.vm) q4.1, vx_Zq.moved (u := U) (U := U.calling g mk a) (Vm.Alike.refl U.vm) q4.2⟩, q5, fun C hC => va_AO.moved (u := U) (U := U.calling g mk a) (Vm.Alike.refl U.vm) (q6 C hC)⟩
  · intro U hU hW
    exact ⟨rfl, ntab_warm hW hT, by rw [hU]; exact hv, by rw [hU]; exact hz, ⟨by rw [hU]; exact vx_Zq.moved hW.alike (hZ.1.kept hS.2.1), by rw [hU]; exact vx_Zq.moved hW.alike (hZ.2.kept hS.2.1)⟩, hN, fun C hC => va_AO.moved hW.alike (hAO C hC)⟩
  · intro u t H1 locs1 ht _ _ hb1 _ hk1 hS1
    rw [ht] at hb1
    exact kk H1 locs1 hb1.1 hb1.2 (fun q hq => hk1 q (by omega) (by omega)) hS1
end SR
