/-! The start of the law: the tables' words, the addresses, the first objects. -/
theorem st_arr {s : State} {args : Array Value} {ty : FieldType} (h : (Cond.arrayClass ty).before args s = true) (hno : ∀ C, ty ≠ .object C) : ∃ c, ArrOfT s c ty ∧ va_RA s c ty := by
  obtain ⟨c, k, comp, h1, h2, h3⟩ := Cond.arrayClass_spec h
  refine ⟨c, ?_, ?_⟩
  · intro n z
    exact ⟨fun k h => (by cases h), k, h2, comp, h3⟩
  · unfold va_RA
    cases ty with
    | object C => exact absurd rfl (hno C)
    | _ => exact h1
theorem st_arrO {s : State} {args : Array Value} {C : String} (h : (Cond.arrayOver (.object C)).before args s = true) : ∃ c, ArrOfT s c (.object C) ∧ va_RA s c (.object C) := by
  obtain ⟨comp, c, k, h1, h2, h3, h4, h5⟩ := Cond.arrayOver_spec h
  exact ⟨c, fun n z => ⟨fun k h => (by cases h), k, h3, comp, h4⟩, k, comp, h3, h4, h1, h5⟩
theorem st_tab {s : State} {args : Array Value} (hts : ∀ w ∈ lw_tbl, w.before args s = true) (hgv : (Jvm.Cond.and given_1 narrow_1).before args s = true) : ∃ (D : va_G) (dA : Nat → ClassId) (cL cD : ClassId), ntab D dA s ∧ lK D cL cD s ∧ nst (fun q => s.heap.size ≤ q) s s.heap ∧ ∀ C ∈ nAO, va_AO C s := by
  have hg : ∀ w ∈ gw, w.before args s = true := fun w h => hts w (gw_tbl h)
  obtain ⟨c0, i0, k0⟩ := u_known hg iX0 (hg _ q71)
  obtain ⟨c1, i1, k1⟩ := u_known hg iX1 (hg _ q40)
  obtain ⟨c2, i2, k2⟩ := u_known hg iX2 (hg _ q290)
  obtain ⟨c3, i3, k3⟩ := u_known hg iX3 (hg _ q131)
  obtain ⟨c4, i4, k4⟩ := u_known hg iX4 (hg _ q34)
  obtain ⟨c5, i5, k5⟩ := u_known hg iX5 (hg _ q154)
  obtain ⟨c6, i6, k6⟩ := u_known hg iX6 (hg _ q62)
  obtain ⟨c7, i7, k7⟩ := u_known hg iX7 (hg _ q207)
  obtain ⟨c8, i8, k8⟩ := u_known hg iX8 (hg _ q90)
  obtain ⟨c9, i9, k9⟩ := u_known hg iX9 (hg _ q26)
  obtain ⟨c10, i10, k10⟩ := u_known hg iX10 (hg _ q1107)
  have hov : ∀ C ∈ nAO, (Cond.arrayOver (.object C)).before args s = true := fun C hC => hts _ ((show ∀ C ∈ nAO, (Cond.arrayOver (.object C)) ∈ lw_tbl by decide +kernel) C hC)
  obtain ⟨a0, A0⟩ := st_arr (hg _ q149) (fun C h => by cases h)
  obtain ⟨a1, A1⟩ := st_arr (hg _ q1206) (fun C h => by cases h)
  obtain ⟨a2, A2⟩ := st_arr (hg _ q148) (fun C h => by cases h)
  obtain ⟨a3, A3⟩ := st_arrO (hov RX0 (by decide))
  obtain ⟨a4, A4⟩ := st_arrO (hov RX8 (by decide))
  obtain ⟨a5, A5⟩ := st_arrO (hov RX5 (by decide))
  obtain ⟨a6, A6⟩ := st_arrO (hov RX7 (by decide))
  obtain ⟨cL, AL⟩ := st_arr (hg _ q1504) (fun C h => by cases h)
  obtain ⟨cD, AD⟩ := st_arr (hg _ q1505) (fun C h => by cases h)
  refine ⟨(fun k => match k with | 0 => c0 | 1 => c1 | 2 => c2 | 3 => c3 | 4 => c4 | 5 => c5 | 6 => c6 | 7 => c7 | 8 => c8 | 9 => c9 | _ => c10, fun k => match k with | 0 => i0 | 1 => i1 | 2 => i2 | 3 => i3 | 4 => i4 | 5 => i5 | 6 => i6 | 7 => i7 | 8 => i8 | 9 => i9 | _ => i10), (fun k => match k with | 0 => a0 | 1 => a1 | 2 => a2 | 3 => a3 | 4 => a4 | 5 => a5 | _ => a6), cL, cD, ⟨⟨?_, ?_⟩, ?_, ?_, ?_⟩, ⟨?_, ?_⟩, ⟨?_, ?_⟩, fun C hC => va_AO.of (hov C hC)⟩
  · intro c q h
    match c, h with
    | 0, h => cases h; exact k0
    | 1, h => cases h; exact k1
    | 2, h => cases h; exact k2
    | 3, h => cases h; exact k3
    | 4, h => cases h; exact k4
    | 5, h => cases h; exact k5
    | 6, h => cases h; exact k6
    | 7, h => cases h; exact k7
    | 8, h => cases h; exact k8
    | 9, h => cases h; exact k9
    | 10, h => cases h; exact k10
    | n + 11, h => cases h
  · intro k q h
    match k, h with
    | 0, h => cases h; exact A0
    | 1, h => cases h; exact A1
    | 2, h => cases h; exact A2
    | 3, h => cases h; exact A3
    | 4, h => cases h; exact A4
    | 5, h => cases h; exact A5
    | 6, h => cases h; exact A6
    | n + 7, h => cases h
  · intro w hw
    have h9 := (show ∀ w ∈ nbw, w ∈ lw_tbl ∧ w.onTables = true by decide +kernel) w hw
    exact va_tabs h9.2 rfl (hts w h9.1)
  · intro q hq
    have h9 := hts _ ((show ∀ q ∈ nstr, (Cond.stringRef "Nominator" q.1 q.2) ∈ lw_tbl by decide +kernel) q hq)
    obtain ⟨k, cf, i, a, -, -, -, -, -, h8⟩ := Cond.stringRef_spec k9.2.1 h9
    exact ⟨a, vk_R.of h9 h8⟩
  · intro q hq
    exact va_Nc.of (flat_of_before _ hgv _ ((show ∀ q ∈ nnc, Cond.not (.castable q.1 q.2) ∈ flatC (Jvm.Cond.and given_1 narrow_1) by decide +kernel) q hq))
  · intro c q h
    match c, h with
    | 0, h => cases h; exact k0
    | 1, h => cases h; exact k1
    | 2, h => cases h; exact k2
    | 3, h => cases h; exact k3
    | 4, h => cases h; exact k4
    | 5, h => cases h; exact k5
    | 6, h => cases h; exact k6
    | 7, h => cases h; exact k7
    | 8, h => cases h; exact k8
    | 9, h => cases h; exact k9
    | 10, h => cases h; exact k10
    | n + 11, h => cases h
  · intro k q h
    match k, h with
    | 0, h => cases h; exact AL
    | 1, h => cases h; exact AD
    | n + 2, h => cases h
  · exact vx_Zqof (hts _ (by decide +kernel)) (hts _ (by decide +kernel)) (flat_of_before _ hgv _ (by decide +kernel)) (fun a h => Nat.not_le.mpr h)
  · exact vx_Zqof (hts _ (by decide +kernel)) (hts _ (by decide +kernel)) (flat_of_before _ hgv _ (by decide +kernel)) (fun a h => Nat.not_le.mpr h)
/-- where the model's cells lie behind its object -/
def lmk (k : Nat) : Nat := match k with
  | 36 => 1
  | 37 => 2
  | 38 => 3
  | 40 => 4
  | 41 => 5
  | 43 => 6
  | 44 => 7
  | 45 => 8
  | 46 => 9
  | 47 => 10
  | 48 => 11
  | 49 => 12
  | 50 => 13
  | 51 => 14
  | 53 => 15
  | 54 => 16
  | 55 => 17
  | 56 => 18
  | 58 => 19
  | 59 => 20
  | 60 => 21
  | _ => 0
def lad (N o k i : Nat) : Nat := match o with
  | 0 => iad (N + 1) k i
  | 1 => iad (N + 219) k i
  | 2 => if k = 20 then N else N + 437 + (k - 21)
  | _ => N + 442 + lmk k
def lon (o : Nat) : Prop := o < 4
theorem lad_case {N o k i : Nat} (h : nV lon o k i) : (o = 0 ∧ k < 15 ∧ i < nsz k) ∨ (o = 1 ∧ k < 15 ∧ i < nsz k) ∨ (o = 2 ∧ 20 ≤ k ∧ k < 26 ∧ i = 0) ∨ (o = 3 ∧ 30 ≤ k ∧ k < 61 ∧ 0 < nsz k ∧ i = 0) := by
  obtain ⟨-, hi, h1 | ⟨h1, h2, h3⟩ | ⟨h1, h2, h3⟩⟩ := h
  · rcases (show o = 0 ∨ o = 1 by omega) with e | e
    · exact Or.inl ⟨e, h1.2, hi⟩
    · exact Or.inr (Or.inl ⟨e, h1.2, hi⟩)
  · have := (show ∀ k, k < 26 → 20 ≤ k → nsz k = 1 by decide) k h3 h2
    exact Or.inr (Or.inr (Or.inl ⟨h1, h2, h3, by omega⟩))
  · have := (show ∀ k, k < 61 → 30 ≤ k → nsz k ≤ 1 by decide) k h3 h2
    exact Or.inr (Or.inr (Or.inr ⟨h1, h2, h3, by omega, by omega⟩))
theorem lad_lt {N o k i : Nat} (h : nV lon o k i) : N ≤ lad N o k i ∧ lad N o k i < N + 464 := by
  rcases lad_case (N := N) h with ⟨rfl, h1, h2⟩ | ⟨rfl, h1, h2⟩ | ⟨rfl, h1, h2, rfl⟩ | ⟨rfl, h1, h2, h3, rfl⟩
  · have := iad_ok (h0 := N + 1) h1 h2
    show N ≤ iad (N + 1) k i ∧ iad (N + 1) k i < N + 464
    omega
  · have := iad_ok (h0 := N + 219) h1 h2
    show N ≤ iad (N + 219) k i ∧ iad (N + 219) k i < N + 464
    omega
  · show N ≤ (if k = 20 then N else N + 437 + (k - 21)) ∧ (if k = 20 then N else N + 437 + (k - 21)) < N + 464
    split <;> omega
  · have := (show ∀ k, k < 61 → lmk k < 22 by decide) k h2
    show N ≤ N + 442 + lmk k ∧ N + 442 + lmk k < N + 464
    omega
theorem lad_rng {N o k i : Nat} (h : nV lon o k i) : (o = 0 ∧ k < 15 ∧ i < nsz k ∧ lad N o k i = iad (N + 1) k i ∧ N + 1 ≤ lad N o k i ∧ lad N o k i < N + 219) ∨ (o = 1 ∧ k < 15 ∧ i < nsz k ∧ lad N o k i = iad (N + 219) k i ∧ N + 219 ≤ lad N o k i ∧ lad N o k i < N + 437) ∨ (o = 2 ∧ i = 0 ∧ ((k = 20 ∧ lad N o k i = N) ∨ (21 ≤ k ∧ k < 26 ∧ lad N o k i = N + 416 + k))) ∨ (o = 3 ∧ i = 0 ∧ 30 ≤ k ∧ k < 61 ∧ 0 < nsz k ∧ lad N o k i = N + 442 + lmk k) := by
  rcases lad_case (N := N) h with ⟨rfl, h1, h2⟩ | ⟨rfl, h1, h2⟩ | ⟨rfl, h1, h2, rfl⟩ | ⟨rfl, h1, h2, h3, rfl⟩
  · have := iad_ok (h0 := N + 1) h1 h2
    refine Or.inl ⟨rfl, h1, h2, rfl, ?_, ?_⟩
    · show N + 1 ≤ iad (N + 1) k i
      omega
    · show iad (N + 1) k i < N + 219
      omega
  · have := iad_ok (h0 := N + 219) h1 h2
    refine Or.inr (Or.inl ⟨rfl, h1, h2, rfl, ?_, ?_⟩)
    · show N + 219 ≤ iad (N + 219) k i
      omega
    · show iad (N + 219) k i < N + 437
      omega
  · refine Or.inr (Or.inr (Or.inl ⟨rfl, rfl, ?_⟩))
    by_cases e : k = 20
    · exact Or.inl ⟨e, if_pos e⟩
    · exact Or.inr ⟨by omega, h2, (if_neg e).trans (by omega)⟩
  · exact Or.inr (Or.inr (Or.inr ⟨rfl, rfl, h1, h2, h3, rfl⟩))
def kml (n : Nat) : Nat := match n with
  | 1 => 36
  | 2 => 37
  | 3 => 38
  | 4 => 40
  | 5 => 41
  | 6 => 43
  | 7 => 44
  | 8 => 45
  | 9 => 46
  | 10 => 47
  | 11 => 48
  | 12 => 49
  | 13 => 50
  | 14 => 51
  | 15 => 53
  | 16 => 54
  | 17 => 55
  | 18 => 56
  | 19 => 58
  | 20 => 59
  | 21 => 60
  | _ => 30
theorem kml_lmk : ∀ k, k < 61 → 30 ≤ k → 0 < nsz k → kml (lmk k) = k := by decide
theorem lmk_inj (k : Nat) (h1 : k < 61) (h2 : 30 ≤ k) (h3 : 0 < nsz k) (k' : Nat) (h1' : k' < 61) (h2' : 30 ≤ k') (h3' : 0 < nsz k') (h : lmk k = lmk k') : k = k' := by
  rw [← kml_lmk k h1 h2 h3, h, kml_lmk k' h1' h2' h3']
theorem lad_inj {N : Nat} : ninj (lad N) lon := by
  intro o k i o' k' i' h h' he
  have r := lad_rng (N := N) h
  have r' := lad_rng (N := N) h'
  generalize lad N o k i = a at r he
  generalize lad N o' k' i' = a' at r' he
  subst he
  rcases r with ⟨e0, e1, e2, e3, e4, e5⟩ | ⟨e0, e1, e2, e3, e4, e5⟩ | ⟨e0, e1, e2⟩ | ⟨e0, e1, e2, e3, e4, e5⟩ <;> rcases r' with ⟨f0, f1, f2, f3, f4, f5⟩ | ⟨f0, f1, f2, f3, f4, f5⟩ | ⟨f0, f1, f2⟩ | ⟨f0, f1, f2, f3, f4, f5⟩
  · obtain ⟨g1, g2⟩ := iad_inj e1 e2 f1 f2 (e3.symm.trans f3)
    exact ⟨e0.trans f0.symm, g1, g2⟩
  · exfalso; omega
  · exfalso; omega
  · exfalso; omega
  · exfalso; omega
  · obtain ⟨g1, g2⟩ := iad_inj e1 e2 f1 f2 (e3.symm.trans f3)
    exact ⟨e0.trans f0.symm, g1, g2⟩
  · exfalso; omega
  · exfalso; omega
  · exfalso; omega
  · exfalso; omega
  · exact ⟨by omega, by omega, by omega⟩
  · exfalso; omega
  · exfalso; omega
  · exfalso; omega
  · exfalso; omega
  · have := lmk_inj k e3 e2 e4 k' f3 f2 f4 (by omega)
    exact ⟨by omega, this, by omega⟩
theorem lad_nA {N q : Nat} (h : nA (lad N) lon q) : N ≤ q ∧ q < N + 464 := by
  obtain ⟨o, k, i, hv, rfl⟩ := h
  exact lad_lt hv
theorem lad_sep {N : Nat} : lsep (lad N) lon (N + 464) (N + 465) := ⟨fun h => by have := lad_nA h; omega, fun h => by have := lad_nA h; omega, by omega⟩
theorem lad_A2 {N q : Nat} (h : lA2 (lad N) lon (N + 464) (N + 465) q) : N ≤ q := by
  rcases h with h | rfl | rfl
  · exact (lad_nA h).1
  · omega
  · omega
/-- the world of the start -/
def lX0 : NWd := fun o => match o with | 0 => oRestart iS0 | 1 => oRestart iS0 | 2 => fun _ _ _ => 0 | _ => mS0
theorem lad_off0 {dA : Nat → ClassId} {N k : Nat} {f : Nat → Int32} (hk : k < 15) : ncell dA (lad N) f 0 k = ncell dA (fun _ => iad (N + 1)) f 0 k := by
  match k, hk with
  | 0, _ => rfl
  | 1, _ => rfl
  | 2, _ => rfl
  | 3, _ => rfl
  | 4, _ => rfl
  | 5, _ => rfl
  | 6, _ => rfl
  | 7, _ => rfl
  | 8, _ => rfl
  | 9, _ => rfl
  | 10, _ => rfl
  | 11, _ => rfl
  | 12, _ => rfl
  | 13, _ => rfl
  | 14, _ => rfl
  | n + 15, h => exact absurd h (by omega)
theorem lad_off1 {dA : Nat → ClassId} {N k : Nat} {f : Nat → Int32} (hk : k < 15) : ncell dA (lad N) f 1 k = ncell dA (fun _ => iad (N + 219)) f 0 k := by
  match k, hk with
  | 0, _ => rfl
  | 1, _ => rfl
  | 2, _ => rfl
  | 3, _ => rfl
  | 4, _ => rfl
  | 5, _ => rfl
  | 6, _ => rfl
  | 7, _ => rfl
  | 8, _ => rfl
  | 9, _ => rfl
  | 10, _ => rfl
  | 11, _ => rfl
  | 12, _ => rfl
  | 13, _ => rfl
  | 14, _ => rfl
  | n + 15, h => exact absurd h (by omega)
def lNom (D : va_G) (dA : Nat → ClassId) (N : Nat) (H : Heap) : Prop := va_at D ncl (N, .inr (9, [.ref (N + 1), .ref (N + 219), .ref (N + 437)])) H ∧ iOff D dA (N + 1) (oRestart iS0) H ∧ iOff D dA (N + 219) (oRestart iS0) H ∧ va_at D ncl (N + 437, .inr (2, [.ref (N + 438), .ref (N + 439), .ref (N + 440), .ref (N + 441), .int 0])) H ∧ va_at D ncl (N + 438, .inl (dA 0, 512, .inl (fun _ => 0))) H ∧ va_at D ncl (N + 439, .inl (dA 0, 512, .inl (fun _ => 0))) H ∧ va_at D ncl (N + 440, .inl (dA 0, 512, .inl (fun _ => 0))) H ∧ va_at D ncl (N + 441, .inl (dA 0, 512, .inl (fun _ => 0))) H
theorem lNom.kept {D : va_G} {dA : Nat → ClassId} {N : Nat} {H H1 : Heap} (h : lNom D dA N H) (hq : ∀ q, N ≤ q → q < N + 442 → H1[q]? = H[q]?) : lNom D dA N H1 := by
  obtain ⟨h1, h2, h3, h4, h5, h6, h7, h8⟩ := h
  exact ⟨h1.kept (hq _ (by omega) (by omega)), h2.kept (fun q _ _ => hq q (by omega) (by omega)), h3.kept (fun q _ _ => hq q (by omega) (by omega)), h4.kept (hq _ (by show N ≤ N + 437; omega) (by show N + 437 < N + 442; omega)), h5.kept (hq _ (by show N ≤ N + 438; omega) (by show N + 438 < N + 442; omega)), h6.kept (hq _ (by show N ≤ N + 439; omega) (by show N + 439 < N + 442; omega)), h7.kept (hq _ (by show N ≤ N + 440; omega) (by show N + 440 < N + 442; omega)), h8.kept (hq _ (by show N ≤ N + 441; omega) (by show N + 441 < N + 442; omega))⟩
def lMod (D : va_G) (dA : Nat → ClassId) (g : Nat) (H : Heap) : Prop := va_at D ncl (g, .inr (10, [.int 0, .int 20, .int 25, .int 40, .int 0, .int 0, .ref (g + 1), .ref (g + 2), .ref (g + 3), .int 0, .ref (g + 4), .ref (g + 5), .int 0, .ref (g + 6), .ref (g + 7), .ref (g + 8), .ref (g + 9), .ref (g + 10), .ref (g + 11), .ref (g + 12), .ref (g + 13), .ref (g + 14), .int 0, .ref (g + 15), .ref (g + 16), .ref (g + 17), .ref (g + 18), .int 0, .ref (g + 19), .ref (g + 20), .ref (g + 21)])) H ∧ va_at D ncl (g + 1, .inl (dA 0, 5, .inl (fun _ => 0))) H ∧ va_at D ncl (g + 2, .inl (dA 0, 5, .inl (fun _ => 0))) H ∧ va_at D ncl (g + 3, .inl (dA 1, 5, .inl (fun _ => 0))) H ∧ va_at D ncl (g + 4, .inl (dA 0, 40, .inl (fun _ => 0))) H ∧ va_at D ncl (g + 5, .inl (dA 1, 40, .inl (fun _ => 0))) H ∧ va_at D ncl (g + 6, .inl (dA 0, 12, .inl (fun _ => 0))) H ∧ va_at D ncl (g + 7, .inl (dA 0, 12, .inl (fun _ => 0))) H ∧ va_at D ncl (g + 8, .inl (dA 2, 48, .inl (fun _ => 0))) H ∧ va_at D ncl (g + 9, .inl (dA 0, 12, .inl (fun _ => 0))) H ∧ va_at D ncl (g + 10, .inl (dA 0, 12, .inl (fun _ => 0))) H ∧ va_at D ncl (g + 11, .inl (dA 1, 12, .inl (fun _ => 0))) H ∧ va_at D ncl (g + 12, .inl (dA 0, 12, .inl (fun _ => 0))) H ∧ va_at D ncl (g + 13, .inl (dA 0, 12, .inl (fun _ => 0))) H ∧ va_at D ncl (g + 14, .inl (dA 0, 12, .inl (fun _ => 0))) H ∧ va_at D ncl (g + 15, .inl (dA 0, 150, .inl (fun _ => 0))) H ∧ va_at D ncl (g + 16, .inl (dA 0, 150, .inl (fun _ => 0))) H ∧ va_at D ncl (g + 17, .inl (dA 1, 150, .inl (fun _ => 0))) H ∧ va_at D ncl (g + 18, .inl (dA 0, 150, .inl (fun _ => 0))) H ∧ va_at D ncl (g + 19, .inl (dA 2, 26, .inl (fun _ => 0))) H ∧ va_at D ncl (g + 20, .inl (dA 0, 12, .inl (fun _ => 0))) H ∧ va_at D ncl (g + 21, .inl (dA 0, 12, .inl (fun _ => 0))) H
theorem lMod.kept {D : va_G} {dA : Nat → ClassId} {g : Nat} {H H1 : Heap} (h : lMod D dA g H) (hq : ∀ q, g ≤ q → q < g + 22 → H1[q]? = H[q]?) : lMod D dA g H1 := by
  obtain ⟨m0, m1, m2, m3, m4, m5, m6, m7, m8, m9, m10, m11, m12, m13, m14, m15, m16, m17, m18, m19, m20, m21⟩ := h
  exact ⟨m0.kept (hq _ (by show g ≤ g; omega) (by show g < g + 22; omega)), m1.kept (hq _ (by show g ≤ g + 1; omega) (by show g + 1 < g + 22; omega)), m2.kept (hq _ (by show g ≤ g + 2; omega) (by show g + 2 < g + 22; omega)), m3.kept (hq _ (by show g ≤ g + 3; omega) (by show g + 3 < g + 22; omega)), m4.kept (hq _ (by show g ≤ g + 4; omega) (by show g + 4 < g + 22; omega)), m5.kept (hq _ (by show g ≤ g + 5; omega) (by show g + 5 < g + 22; omega)), m6.kept (hq _ (by show g ≤ g + 6; omega) (by show g + 6 < g + 22; omega)), m7.kept (hq _ (by show g ≤ g + 7; omega) (by show g + 7 < g + 22; omega)), m8.kept (hq _ (by show g ≤ g + 8; omega) (by show g + 8 < g + 22; omega)), m9.kept (hq _ (by show g ≤ g + 9; omega) (by show g + 9 < g + 22; omega)), m10.kept (hq _ (by show g ≤ g + 10; omega) (by show g + 10 < g + 22; omega)), m11.kept (hq _ (by show g ≤ g + 11; omega) (by show g + 11 < g + 22; omega)), m12.kept (hq _ (by show g ≤ g + 12; omega) (by show g + 12 < g + 22; omega)), m13.kept (hq _ (by show g ≤ g + 13; omega) (by show g + 13 < g + 22; omega)), m14.kept (hq _ (by show g ≤ g + 14; omega) (by show g + 14 < g + 22; omega)), m15.kept (hq _ (by show g ≤ g + 15; omega) (by show g + 15 < g + 22; omega)), m16.kept (hq _ (by show g ≤ g + 16; omega) (by show g + 16 < g + 22; omega)), m17.kept (hq _ (by show g ≤ g + 17; omega) (by show g + 17 < g + 22; omega)), m18.kept (hq _ (by show g ≤ g + 18; omega) (by show g + 18 < g + 22; omega)), m19.kept (hq _ (by show g ≤ g + 19; omega) (by show g + 19 < g + 22; omega)), m20.kept (hq _ (by show g ≤ g + 20; omega) (by show g + 20 < g + 22; omega)), m21.kept (hq _ (by show g ≤ g + 21; omega) (by show g + 21 < g + 22; omega))⟩
theorem lad_pic {D : va_G} {dA : Nat → ClassId} {N : Nat} {H : Heap} (h1 : lNom D dA N H) (h2 : lMod D dA (N + 442) H) : npic D dA (lad N) lon lX0 H := by
  intro o k i hv
  rcases lad_case (N := N) hv with ⟨rfl, e1, e2⟩ | ⟨rfl, e1, e2⟩ | ⟨rfl, e1, e2, rfl⟩ | ⟨rfl, e1, e2, e3, rfl⟩
  · rw [lad_off0 e1]; exact h1.2.1 k i e1 e2
  · rw [lad_off1 e1]; exact h1.2.2.1 k i e1 e2
  · obtain ⟨n0, -, -, n1, n2, n3, n4, n5⟩ := h1
    rcases (show k = 20 ∨ k = 21 ∨ k = 22 ∨ k = 23 ∨ k = 24 ∨ k = 25 by omega) with rfl | rfl | rfl | rfl | rfl | rfl
    · exact n0
    · exact n1
    · exact n2
    · exact n3
    · exact n4
    · exact n5
  · obtain ⟨m0, m1, m2, m3, m4, m5, m6, m7, m8, m9, m10, m11, m12, m13, m14, m15, m16, m17, m18, m19, m20, m21⟩ := h2
    have z : ∀ k, k ≠ 30 → lX0 3 k 0 = fun _ => 0 := fun k hk => funext fun j => mS0_z hk
    have hk := (show ∀ k, k < 61 → 30 ≤ k → 0 < nsz k → k ∈ ([30, 36, 37, 38, 40, 41, 43, 44, 45, 46, 47, 48, 49, 50, 51, 53, 54, 55, 56, 58, 59, 60] : List Nat) by decide) k e2 e1 e3
    simp only [List.mem_cons, List.not_mem_nil, or_false] at hk
    rcases hk with rfl | rfl | rfl | rfl | rfl | rfl | rfl | rfl | rfl | rfl | rfl | rfl | rfl | rfl | rfl | rfl | rfl | rfl | rfl | rfl | rfl | rfl
    · exact m0
    · rw [z 36 (by decide)]; exact m1
    · rw [z 37 (by decide)]; exact m2
    · rw [z 38 (by decide)]; exact m3
    · rw [z 40 (by decide)]; exact m4
    · rw [z 41 (by decide)]; exact m5
    · rw [z 43 (by decide)]; exact m6
    · rw [z 44 (by decide)]; exact m7
    · rw [z 45 (by decide)]; exact m8
    · rw [z 46 (by decide)]; exact m9
    · rw [z 47 (by decide)]; exact m10
    · rw [z 48 (by decide)]; exact m11
    · rw [z 49 (by decide)]; exact m12
    · rw [z 50 (by decide)]; exact m13
    · rw [z 51 (by decide)]; exact m14
    · rw [z 53 (by decide)]; exact m15
    · rw [z 54 (by decide)]; exact m16
    · rw [z 55 (by decide)]; exact m17
    · rw [z 56 (by decide)]; exact m18
    · rw [z 58 (by decide)]; exact m19
    · rw [z 59 (by decide)]; exact m20
    · rw [z 60 (by decide)]; exact m21
section SR
variable {p : Program} {l : Launch} {e : Env} {R : Room} {s : State} {m : MethodId} {below : List Frame} {meth : Method} {c : Code} {H : Heap} {locs : List Loc} {cells slots : Nat} {Q : State → Prop}
variable {pc b L : Nat} {xs : Nat → Int32} {ls : Array Slot} {rest : List Value} {D : va_G} {dA : Nat → ClassId} {ad : Nat → Nat → Nat → Nat} {on : Nat → Prop} {cL cD : ClassId} {aL aD : Nat} {u : LSt}
theorem b_new {C : String} {T : u_T} {N ci index : Nat} {fs : List Value} {z : Nat} (hc : lB p l s m meth c b L xs D dA ad on cL cD aL aD) (hS : va_S (fun q => s.heap.size ≤ q) s.heap H locs) (hz : H.size = z) (hcl : ncl[ci]? = some (C, T, N)) (hin : ∀ w ∈ u_ws C T N, w ∈ gw) (ty : Nat → FieldType) (hty : ∀ k, k < N → parseFieldDescriptor (T k).2.2.1 = some (ty k)) (hlk : Cond.classLink "NominatorLaw" index C ∈ gw) (hins : Cond.instantiable C N ∈ gw) (hini : Cond.initialized C ∈ gw) (hfs : ∀ j, j < N → defaultValue (ty j) = vp_V fs j) (hcells : cells + 1 ≤ R.cells) (hslots : slots + N ≤ R.slots) (hdg : decode code pc = .ok (.new index, 3))
    (kk : ∀ (H1 : Heap), va_at D ncl (z, .inr (ci, fs)) H1 → H1.size = z + 1 → (∀ q, q < z → H1[q]? = H[q]?) → va_S (fun q => s.heap.size ≤ q) s.heap H1 locs → W p l e R s m #[Value.ref b] below meth c H1 locs (cells + 1) (slots + N) Q (F0 m (pc + 3) ls (.ref z :: rest))) : W p l e R s m #[Value.ref b] below meth c H locs cells slots Q (F0 m pc ls rest) := by
  obtain ⟨hx, hb, -, hown, hts, ⟨hK, -⟩, -⟩ := hc
  have hKn := hK.1 ci _ hcl
  refine W.newcK hx hb hown (hts _ hlk) (hts _ hins) (hts _ hini) rfl hdg hcells hslots hKn.2.1 hz fun H1 kC hkC e1 z1 o1 => ?_
  refine kk H1 ⟨_, hcl, (u_born ty hts hin hKn hkC e1 hty).to hfs⟩ z1 o1 ⟨Nat.le_trans hS.1 (by omega), fun x h1 h2 => (o1 x (by have := hS.1; omega)).trans (hS.2.1 x h1 h2), hS.2.2⟩
theorem b_newa {atype : ArrayType} {z : Nat} {ty : FieldType} (hc : lB p l s m meth c b L xs D dA ad on cL cD aL aD) (hS : va_S (fun q => s.heap.size ≤ q) s.heap H locs) (hz : H.size = z) (harr : Cond.arrayClass (newarray.typeOf atype) ∈ gw) (hty : newarray.typeOf atype = ty) (hbytes : 1 * componentBytes (newarray.typeOf atype) ≤ 536870912) (hcells : cells + 1 ≤ R.cells) (hslots : slots + 1 ≤ R.slots) (hdg : decode code pc = .ok (.newarray atype, 2))
    (kk : ∀ (H1 : Heap) (cA : ClassId), s.vm.findClass ("[" ++ ty.toString) = some cA → H1[z]? = some (arrV cA 1 fun _ => defaultValue ty) → H1.size = z + 1 → (∀ q, q < z → H1[q]? = H[q]?) → va_S (fun q => s.heap.size ≤ q) s.heap H1 locs → W p l e R s m #[Value.ref b] below meth c H1 locs (cells + 1) (slots + 1) Q (F0 m (pc + 2) ls (.ref z :: rest))) : W p l e R s m #[Value.ref b] below meth c H locs cells slots Q (F0 m pc ls (.int 1 :: rest)) := by
  subst hty
  obtain ⟨hx, hb, -, hown, hts, ⟨hK, -⟩, -⟩ := hc
  refine va_newaK hx hb (hts _ harr) rfl hdg rfl (by decide) (by decide) hbytes hcells hslots hz fun H1 cA e1 z1 o1 hAr hNm => ?_
  exact kk H1 cA hNm e1 z1 o1 ⟨Nat.le_trans hS.1 (by omega), fun x h1 h2 => (o1 x (by have := hS.1; omega)).trans (hS.2.1 x h1 h2), hS.2.2⟩
theorem b_ini {y : MethodName} {cY : ByteArray} {maxL idx h1 n mc ms : Nat} {rm : Room} {e0 : va_E} {Z : Heap → Prop} (hM : nIv l D dA s.heap.size y cY maxL rm h1 e0 Z n mc ms) (hc : lB p l s m meth c b L xs D dA ad on cL cD aL aD) (hAO : ∀ C ∈ nAO, va_AO C s) (hS : va_S (fun q => s.heap.size ≤ q) s.heap H locs) (hv : va_at D ncl (h1, e0) H) (hz : H.size = h1 + 1) (hN : s.heap.size ≤ h1) (hsz : ls.size = 9) (hini : y.name = "<init>") (hok : nOk y 0) (q1 : Cond.initialized y.cls ∈ gw) (q2 : Cond.methodLink "NominatorLaw" idx y ∈ gw) (q3 : Cond.instanceMethod y ∈ gw) (q4 : Cond.code y cY maxL none ∈ gw) (hrm : rm.cells = mc ∧ rm.slots = ms) (hR : rm.frames + 1 ≤ R.frames ∧ 8 + (maxL + 11) + rm.locals ≤ R.locals) (hf : cells + mc ≤ R.cells ∧ slots + ms ≤ R.slots) (hdg : decode code pc = .ok (.invokespecial idx, 3)) (hW : (rest.map fun v => v.category).sum ≤ 8)
    (kk : ∀ (H1 : Heap) (locs1 : List Loc), Z H1 → H1.size = h1 + n → (∀ q, q < h1 → H1[q]? = H[q]?) → va_S (fun q => s.heap.size ≤ q) s.heap H1 locs1 → W p l e R s m #[Value.ref b] below meth c H1 locs1 (cells + mc) (slots + ms) Q (F0 m (pc + 3) ls rest)) : W p l e R s m #[Value.ref b] below meth c H locs cells slots Q (F0 m pc ls (.ref h1 :: rest)) := by
  obtain ⟨hx, hb, hml, hown, hts, hT, hZ, -⟩ := hc
  refine va_callv (va_runI (As := []) (rest := rest) ⟨hx, hb, hml, hown, hts⟩ hM (cwI 0 hts (ngoodC q4) rfl hrm.1 hrm.2 (hts _ q1) (hts _ q2) (hts _ q3) hini hok hR) ⟨?_, ?_⟩ rfl rfl hsz rfl (lv_room hW) hdg hf) hS (fun q _ h => Nat.le_trans hN h) (fun q h => Nat.le_trans hN h) ?_
  · intro a U g mk q
    obtain ⟨q0, q1, q2, q3, q4, q5, q6⟩ := q
    exact ⟨q0, ntab_calling q1, q2, q3, ⟨vx_Zq.moved (u := U) (U := U.calling g mk a) (Vm.Alike.refl U.vm) q4.1, vx_Zq.moved (u := U) (U := U.calling g mk a) (Vm.Alike.refl U.vm) q4.2⟩, q5, fun C hC => va_AO.moved (u := U) (U := U.calling g mk a) (Vm.Alike.refl U.vm) (q6 C hC)⟩
  · intro U hU hW
    exact ⟨rfl, ntab_warm hW hT, by rw [hU]; exact hv, by rw [hU]; exact hz, ⟨by rw [hU]; exact vx_Zq.moved hW.alike (hZ.1.kept hS.2.1), by rw [hU]; exact vx_Zq.moved hW.alike (hZ.2.kept hS.2.1)⟩, hN, fun C hC => va_AO.moved hW.alike (hAO C hC)⟩
  · intro u t H1 locs1 ht _ _ hb1 _ hk1 hS1
    rw [ht] at hb1
    exact kk H1 locs1 hb1.1 hb1.2 (fun q hq => hk1 q (by omega) (by omega)) hS1
end SR
/-- the law's first steps: the objects, the two answers' arrays, the counter -/
theorem l_entry {p : Program} {l : Launch} {e : Env} {s : State} {m : MethodId} {below : List Frame} {meth : Method} {c : Code} {Q : State → Prop} {b L : Nat} {xs : Nat → Int32} {D : va_G} {dA : Nat → ClassId} {cL cD : ClassId} {ls : Array Slot}
    (hc : lB p l s m meth c b L xs D dA (lad s.heap.size) lon cL cD (s.heap.size + 464) (s.heap.size + 465)) (hAO : ∀ C ∈ nAO, va_AO C s) (hl : lv_has ls 9 [(0, .ref b)])
    (kk : ∀ (H1 : Heap) (locs1 : List Loc) (ls1 : Array Slot), lpic D dA (lad s.heap.size) lon cL cD (s.heap.size + 464) (s.heap.size + 465) (lX0, 0, 0) H1 → va_S (fun q => s.heap.size ≤ q) s.heap H1 locs1 → lv_has ls1 9 [(5, .int 0), (4, .ref (s.heap.size + 465)), (3, .ref (s.heap.size + 464)), (2, .ref (s.heap.size + 442)), (1, .ref s.heap.size), (0, .ref b)] → W p l e room_1 s m #[Value.ref b] below meth c H1 locs1 466 5846 Q (F0 m 28 ls1 [])) :
    W p l e room_1 s m #[Value.ref b] below meth c s.heap [] 0 0 Q (F0 m 0 ls []) := by
  have hx := hc.1
  have hb := hc.2.1
  have hK := hc.2.2.2.2.2.2.2.1
  have hS : va_S (fun q => s.heap.size ≤ q) s.heap s.heap [] := va_S.rf
  have hz : s.heap.size = s.heap.size := rfl
  generalize hN : s.heap.size = N at hc hS hz kk
  refine b_new (ci := 9) (fs := [.null, .null, .null]) (z := N) hc (by rw [hN]; exact hS) hN rfl iX9 tyX9 tyX9_ok q25 q26 q1 (fun j hj => match j, hj with | 0, _ => rfl | 1, _ => rfl | 2, _ => rfl | n + 3, h => absurd h (by omega)) (Nat.le_of_ble_eq_true rfl) (Nat.le_of_ble_eq_true rfl) dL_law_0 (fun H f1 hz oq hS => ?_)
  refine lv_dup hx hb dL_law_3 rfl ?_
  refine b_ini (h1 := N) (n := 442) (c_X9_init l D dA s.heap.size N) hc hAO hS f1 hz (by omega) hl.1 rfl nok_X9_init q1 q27 q28 q29 ⟨rfl, rfl⟩ ⟨Nat.le_of_ble_eq_true rfl, Nat.le_of_ble_eq_true rfl⟩ ⟨Nat.le_of_ble_eq_true rfl, Nat.le_of_ble_eq_true rfl⟩ dL_law_4 (Nat.le_of_ble_eq_true rfl) (fun H locs hZ hz oq hS => ?_)
  have f2 : lNom D dA N H := hZ
  refine lv_astore_n (lv' := [(1, .ref N), (0, .ref b)]) hx hb dL_law_7 rfl hl (by decide) rfl (fun ls hl => ?_)
  refine b_new (ci := 10) (fs := [.int 0, .int 0, .int 0, .int 0, .int 0, .int 0, .null, .null, .null, .int 0, .null, .null, .int 0, .null, .null, .null, .null, .null, .null, .null, .null, .null, .int 0, .null, .null, .null, .null, .int 0, .null, .null, .null]) (z := N + 442) hc hS hz rfl iX10 tyX10 tyX10_ok q1106 q1107 q11 (fun j hj => ?_) (Nat.le_of_ble_eq_true rfl) (Nat.le_of_ble_eq_true rfl) dL_law_8 (fun H f3 hz oq hS => ?_)
  · match j, hj with
    | 0, _ => exact rfl
    | 1, _ => exact rfl
    | 2, _ => exact rfl
    | 3, _ => exact rfl
    | 4, _ => exact rfl
    | 5, _ => exact rfl
    | 6, _ => exact rfl
    | 7, _ => exact rfl
    | 8, _ => exact rfl
    | 9, _ => exact rfl
    | 10, _ => exact rfl
    | 11, _ => exact rfl
    | 12, _ => exact rfl
    | 13, _ => exact rfl
    | 14, _ => exact rfl
    | 15, _ => exact rfl
    | 16, _ => exact rfl
    | 17, _ => exact rfl
    | 18, _ => exact rfl
    | 19, _ => exact rfl
    | 20, _ => exact rfl
    | 21, _ => exact rfl
    | 22, _ => exact rfl
    | 23, _ => exact rfl
    | 24, _ => exact rfl
    | 25, _ => exact rfl
    | 26, _ => exact rfl
    | 27, _ => exact rfl
    | 28, _ => exact rfl
    | 29, _ => exact rfl
    | 30, _ => exact rfl
    | n + 31, h => exact absurd h (by omega)
  replace f2 := f2.kept (fun q _ h9 => oq q h9)
  refine lv_dup hx hb dL_law_11 rfl ?_
  refine b_ini (h1 := N + 442) (n := 22) (c_X10_init l D dA s.heap.size (N + 442)) hc hAO hS f3 hz (by omega) hl.1 rfl nok_X10_init q11 q1108 q1109 q1110 ⟨rfl, rfl⟩ ⟨Nat.le_of_ble_eq_true rfl, Nat.le_of_ble_eq_true rfl⟩ ⟨Nat.le_of_ble_eq_true rfl, Nat.le_of_ble_eq_true rfl⟩ dL_law_12 (Nat.le_of_ble_eq_true rfl) (fun H locs hZ hz oq hS => ?_)
  replace f2 := f2.kept (fun q _ h9 => oq q h9)
  have f4 : lMod D dA (N + 442) H := hZ
  refine lv_astore_n (lv' := [(2, .ref (N + 442)), (1, .ref N), (0, .ref b)]) hx hb dL_law_15 rfl hl (by decide) rfl (fun ls hl => ?_)
  refine lv_iconst (v := 1) hx hb dL_law_16 (by decide) ?_
  refine b_newa (atype := .long) (z := N + 464) (ty := .long) hc hS (hz.trans (by omega)) q1504 rfl (by decide) (Nat.le_of_ble_eq_true rfl) (Nat.le_of_ble_eq_true rfl) dL_law_17 (fun H cA hA f5 hz oq hS => ?_)
  replace f2 := f2.kept (fun q _ h9 => oq q (by omega))
  replace f4 := f4.kept (fun q _ h9 => oq q (by omega))
  refine lv_astore_n (lv' := [(3, .ref (N + 464)), (2, .ref (N + 442)), (1, .ref N), (0, .ref b)]) hx hb dL_law_19 rfl hl (by decide) rfl (fun ls hl => ?_)
  refine lv_iconst (v := 1) hx hb dL_law_20 (by decide) ?_
  refine b_newa (atype := .double) (z := N + 465) (ty := .double) hc hS (hz.trans (by omega)) q1505 rfl (by decide) (Nat.le_of_ble_eq_true rfl) (Nat.le_of_ble_eq_true rfl) dL_law_21 (fun H cA2 hA2 f6 hz oq hS => ?_)
  replace f2 := f2.kept (fun q _ h9 => oq q (by omega))
  replace f4 := f4.kept (fun q _ h9 => oq q (by omega))
  have f7 := (oq (N + 464) (by omega)).trans f5
  refine lv_astore (lv' := [(4, .ref (N + 465)), (3, .ref (N + 464)), (2, .ref (N + 442)), (1, .ref N), (0, .ref b)]) hx hb dL_law_23 hl (by decide) rfl (fun ls hl => ?_)
  refine lv_iconst (v := 0) hx hb dL_law_25 (by decide) ?_
  refine lv_istore (lv' := [(5, .int 0), (4, .ref (N + 465)), (3, .ref (N + 464)), (2, .ref (N + 442)), (1, .ref N), (0, .ref b)]) hx hb dL_law_26 hl (by decide) rfl (fun ls hl => ?_)
  have e1 : cA = cL := Option.some.inj (hA.symm.trans ((hK.2 0 _ rfl).2))
  have e2 : cA2 = cD := Option.some.inj (hA2.symm.trans ((hK.2 1 _ rfl).2))
  subst e1 e2
  exact kk H locs ls ⟨lad_pic f2 f4, ⟨fun _ => 0, rfl, f7⟩, ⟨fun _ => 0, rfl, f6⟩⟩ (by rw [hN] at hS; exact hS) hl
