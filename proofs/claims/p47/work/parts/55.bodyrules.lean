/-! The law's body: its rules. -/
abbrev yA (s : State) : Nat → Prop := fun q => s.heap.size ≤ q
/-- what holds all along the law's body -/
def yG (p : Program) (l : Launch) (s : State) (m : MethodId) (meth : Method) (c : Code) (b L : Nat) (xs : Nat → Int32) (D : va_G) (dA : Nat → ClassId) (ad : Nat → Nat → Nat → Nat) (on : Nat → Prop) (aP aS : Nat) : Prop :=
  nC p s m #[Value.ref b] meth c code 14 "NominatorLaw" D dA ad on ∧ l.stackTraces = false ∧ ninj ad on ∧ on 0 ∧ on 1 ∧ on 2 ∧ lA s ad on (yA s) ∧ (va_X b L xs s s.heap ∧ b < s.heap.size) ∧ L ≤ 260 ∧ (¬ nA ad on aP ∧ s.heap.size ≤ aP) ∧ (¬ nA ad on aS ∧ s.heap.size ≤ aS) ∧ aP ≠ aS
/-- the state of a run between two calls -/
def yH (s : State) (D : va_G) (dA : Nat → ClassId) (ad : Nat → Nat → Nat → Nat) (on : Nat → Prop) (aP aS : Nat) (X : NWd) (nv e : Nat) (f1 f2 : Nat → Int32) (H : Heap) (locs : List Loc) : Prop :=
  npic D dA ad on X H ∧ va_S (yA s) s.heap H locs ∧ lInv X 2 nv e ∧ lAr D dA aP 150 f1 H ∧ lAr D dA aS 150 f2 H ∧ ∀ k, k < ons (X 0) → f1 k = X 0 13 k 0 ∧ f2 k = X 0 13 k 1
section YR
variable {p : Program} {l : Launch} {e9 : Env} {R : Room} {s : State} {m : MethodId} {below : List Frame} {meth : Method} {c : Code} {H : Heap} {locs : List Loc} {cells slots : Nat} {Q : State → Prop}
variable {pc b L : Nat} {xs : Nat → Int32} {ls : Array Slot} {rest st : List Value} {D : va_G} {dA : Nat → ClassId} {ad : Nat → Nat → Nat → Nat} {on : Nat → Prop} {X X' : NWd} {aP aS nv e n : Nat} {f1 f2 : Nat → Int32}
theorem yH.kept {H1 : Heap} {locs1 : List Loc} (hG : yG p l s m meth c b L xs D dA ad on aP aS) (h : yH s D dA ad on aP aS X nv e f1 f2 H locs) (hP1 : npic D dA ad on X H1) (hk : ∀ q : Nat, q < H.size → ¬ nA ad on q → H1[q]? = H[q]?) (hS1 : va_S (yA s) s.heap H1 locs1) : yH s D dA ad on aP aS X nv e f1 f2 H1 locs1 := by
  obtain ⟨-, -, -, -, -, -, -, -, -, ⟨p1, -⟩, ⟨p2, -⟩, -⟩ := hG
  obtain ⟨-, -, h3, h4, h5, h6⟩ := h
  exact ⟨hP1, hS1, h3, h4.kept p1 hk, h5.kept p2 hk, h6⟩
theorem yH.mono {e' : Nat} (h : yH s D dA ad on aP aS X nv e f1 f2 H locs) (he : e ≤ e') : yH s D dA ad on aP aS X nv e' f1 f2 H locs := ⟨h.1, h.2.1, h.2.2.1.mono he, h.2.2.2⟩
/-- behind an event other than a signature -/
theorem yH.ev {H1 : Heap} {locs1 : List Loc} {r : Int32} (hG : yG p l s m meth c b L xs D dA ad on aP aS) (h : yH s D dA ad on aP aS X nv e f1 f2 H locs) (hP1 : npic D dA ad on X' H1) (hk : ∀ q : Nat, q < H.size → ¬ nA ad on q → H1[q]? = H[q]?) (hS1 : va_S (yA s) s.heap H1 locs1) (hl : (r < 0 ∧ X' = X) ∨ (¬ r < 0 ∧ lInv X' 2 nv (e + 1) ∧ sK (X 0) (X' 0))) : yH s D dA ad on aP aS X' nv (e + 1) f1 f2 H1 locs1 ∧ (r < 0 → hst (X' 0) nv = hst (X 0) nv) := by
  rcases hl with ⟨h1, rfl⟩ | ⟨h1, h2, h3, h4⟩
  · exact ⟨(h.kept hG hP1 hk hS1).mono (Nat.le_succ e), fun _ => rfl⟩
  · obtain ⟨-, -, -, -, -, -, -, -, -, ⟨p1, -⟩, ⟨p2, -⟩, -⟩ := hG
    obtain ⟨-, -, -, a1, a2, a3⟩ := h
    refine ⟨⟨hP1, hS1, h2, a1.kept p1 hk, a2.kept p2 hk, fun k hk9 => ?_⟩, fun z => absurd z h1⟩
    rw [(h4 k).1, (h4 k).2]
    exact a3 k (by rw [← h3]; exact hk9)
/-- one of the script's ints -/
theorem b_cell {K : Nat} (hG : yG p l s m meth c b L xs D dA ad on aP aS) (hK : K < 1000) (hP : npic D dA ad on X H) (hS : va_S (yA s) s.heap H locs) (hsz : ls.size = 14) (hR : 2 ≤ R.frames ∧ 61 ≤ R.locals) (hf : cells ≤ R.cells ∧ slots ≤ R.slots) (hdg : decode code pc = .ok (.invokestatic 170, 3)) (hst9 : st = .int (nI K) :: .ref b :: rest) (hW : (rest.map fun v => v.category).sum ≤ 8)
    (kk : ∀ (r : Int32) (H1 : Heap) (locs1 : List Loc), npic D dA ad on X H1 → (∀ q : Nat, q < H.size → ¬ nA ad on q → H1[q]? = H[q]?) → va_S (yA s) s.heap H1 locs1 → W p l e9 R s m #[Value.ref b] below meth c H1 locs1 cells slots Q (F0 m (pc + 3) ls (.int r :: rest))) : W p l e9 R s m #[Value.ref b] below meth c H locs cells slots Q (F0 m pc ls st) := by
  obtain ⟨hc, -, hI, -, -, -, hA, ⟨hX, hbl⟩, hL, -⟩ := hG
  have hbA : ¬ yA s b := Nat.not_le.mpr hbl
  have hbn : ¬ nA ad on b := fun z => hbA (hA.1 b z)
  have hM : lMc l D dA ad on X b L K xs := c_cell hI (by omega) (by omega)
  refine va_calli (va_runS (As := [.ref b, .int (nI K)]) (rest := rest) (nfix hc) hM (va_cwS 2 hc.2.2.2.2.1 gL_cell rfl rfl rfl nok_L_cell ⟨hR.1, hR.2⟩) ⟨lMc_blind, fun U hU hW => ⟨rfl, l_npre hc hA hP hS hU hW, va_X.moved hW.alike (by rw [hU]; exact hX.kept (hS.2.1 b hbl hbA)), by rw [hU]; exact Nat.lt_of_lt_of_le hbl hS.1, hbn⟩⟩ rfl rfl hsz hst9 (by simpa [JFrame.monitorRoom] using hW) hdg hf) hS (fun q _ h => hA.1 q h) (fun q h => hA.1 q h) ?_
  intro r X2 t H1 locs1 ht _ hp hb _ hk hS1
  rw [ht] at hb
  have hp : X2 = X := hp
  subst hp
  exact kk r H1 locs1 hb hk hS1
/-- the number out of all answers -/
theorem b_state (hG : yG p l s m meth c b L xs D dA ad on aP aS) (hV : lInv X 2 nv e) (hnv : nv ≤ 40) (hP : npic D dA ad on X H) (hS : va_S (yA s) s.heap H locs) (hsz : ls.size = 14) (hR : 12 ≤ R.frames ∧ 8 + (6 + 11) + 460 ≤ R.locals) (hf : cells + 3102 ≤ R.cells ∧ slots + 18612 ≤ R.slots) (hdg : decode code pc = .ok (.invokestatic 174, 3)) (hst9 : st = .int (nI nv) :: .ref (ad 2 20 0) :: rest) (hW : (rest.map fun v => v.category).sum ≤ 8)
    (kk : ∀ (H1 : Heap) (locs1 : List Loc), npic D dA ad on X H1 → (∀ q : Nat, q < H.size → ¬ nA ad on q → H1[q]? = H[q]?) → va_S (yA s) s.heap H1 locs1 → W p l e9 R s m #[Value.ref b] below meth c H1 locs1 (cells + 3102) (slots + 18612) Q (F0 m (pc + 3) ls (.long (hst (X 0) nv) :: rest))) : W p l e9 R s m #[Value.ref b] below meth c H locs cells slots Q (F0 m pc ls st) := by
  obtain ⟨hc, hfl, hI, hon0, hon1, hon2, hA, -⟩ := hG
  refine va_calll (va_runS (As := [.ref (ad 2 20 0), .int (nI nv)]) (rest := rest) (nfix hc) (c_state (l := l) (D := D) (dA := dA) hfl hI hon0 hon1 hon2 hV.ok hnv) (va_cwS 2 hc.2.2.2.2.1 gL_state rfl rfl rfl nok_L_state ⟨hR.1, hR.2⟩) ⟨nblind, fun U hU hW => ⟨rfl, l_npre hc hA hP hS hU hW⟩⟩ rfl rfl hsz hst9 (by simpa [JFrame.monitorRoom] using hW) hdg hf) hS (fun q _ h => hA.1 q h) (fun q h => hA.1 q h) ?_
  intro r X2 t H1 locs1 ht _ hp hb _ hk hS1
  rw [ht] at hb
  obtain ⟨hr, hp⟩ := hp
  subst hr
  have hp : X2 = X := hp
  subst hp
  exact kk H1 locs1 hb hk hS1
/-- the check of soundness: it answers 1 -/
theorem b_sound (hG : yG p l s m meth c b L xs D dA ad on aP aS) (h : yH s D dA ad on aP aS X nv e f1 f2 H locs) (he : e ≤ 500) (hsz : ls.size = 14) (hR : 12 ≤ R.frames ∧ 8 + (14 + 11) + 460 ≤ R.locals) (hf : cells + 1165 ≤ R.cells ∧ slots + 6990 ≤ R.slots) (hdg : decode code pc = .ok (.invokestatic 183, 3)) (hst9 : st = .int (nI nv) :: .ref aS :: .ref aP :: .ref (ad 2 20 0) :: rest) (hW : (rest.map fun v => v.category).sum ≤ 8)
    (kk : ∀ (X' : NWd) (H1 : Heap) (locs1 : List Loc), yH s D dA ad on aP aS X' nv e f1 f2 H1 locs1 → W p l e9 R s m #[Value.ref b] below meth c H1 locs1 (cells + 1165) (slots + 6990) Q (F0 m (pc + 3) ls (.int 1 :: rest))) : W p l e9 R s m #[Value.ref b] below meth c H locs cells slots Q (F0 m pc ls st) := by
  obtain ⟨hc, hfl, hI, hon0, hon1, hon2, hA, -, -, ⟨p1, -⟩, ⟨p2, -⟩, -⟩ := hG
  obtain ⟨hP, hS, hV, a1, a2, a3⟩ := h
  have hz : ∀ q, zA ad on H.size q → yA s q := fun q h => h.elim (hA.1 q) (fun z => Nat.le_trans hS.1 z)
  refine va_calli (va_runS (As := [.ref (ad 2 20 0), .ref aP, .ref aS, .int (nI nv)]) (rest := rest) (nfix hc) (c_sound (l := l) (D := D) (dA := dA) (N1 := H.size) hfl hI hon0 hon1 hon2 hV he p1 p2 a3) (va_cwS 4 hc.2.2.2.2.1 gL_sound rfl rfl rfl nok_L_sound ⟨hR.1, hR.2⟩) ⟨zPc_blind, fun U hU hW => ⟨rfl, l_npre hc hA hP hS hU hW, by rw [hU], by rw [hU]; exact a1, by rw [hU]; exact a2⟩⟩ rfl rfl hsz hst9 (by simpa [JFrame.monitorRoom] using hW) hdg hf) hS (fun q _ h => hz q h) hz ?_
  intro r X2 t H1 locs1 ht _ hp hb _ hk hS1
  rw [ht] at hb
  obtain ⟨rfl, R9, rfl⟩ := hp
  have hk2 : ∀ q : Nat, q < H.size → ¬ nA ad on q → H1[q]? = H[q]? := fun q h1 h2 => hk q h1 (fun z => z.elim h2 (fun z2 => absurd h1 (Nat.not_lt.mpr z2)))
  have e0 : wdo X 1 R9 0 = X 0 := wdo_ne (by decide)
  exact kk _ H1 locs1 ⟨hb, hS1, hV.rep R9, a1.kept p1 hk2, a2.kept p2 hk2, by rw [e0]; exact a3⟩
end YR
