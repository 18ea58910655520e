/-! The law's own method that calls the office, case by case. -/
def lhh : List (Nat × Nat × Nat × Nat) := [(0, 145, 373, 113), (146, 152, 373, 113), (153, 158, 373, 113), (159, 165, 373, 113), (166, 171, 373, 113), (172, 177, 373, 113), (178, 184, 373, 113), (185, 191, 373, 113), (192, 197, 373, 113), (198, 211, 373, 113), (212, 225, 373, 113), (226, 231, 373, 113), (232, 237, 373, 113), (238, 252, 373, 113), (253, 258, 373, 113), (259, 265, 373, 113), (266, 271, 373, 113), (272, 277, 373, 113), (278, 283, 373, 113), (284, 289, 373, 113), (290, 295, 373, 113), (296, 301, 373, 113), (302, 308, 373, 113), (309, 315, 373, 113), (316, 321, 373, 113), (322, 327, 373, 113), (328, 333, 373, 113), (334, 339, 373, 113), (340, 345, 373, 113), (346, 351, 373, 113), (352, 365, 373, 113), (366, 372, 373, 113), (0, 145, 378, 115), (146, 152, 378, 115), (153, 158, 378, 115), (159, 165, 378, 115), (166, 171, 378, 115), (172, 177, 378, 115), (178, 184, 378, 115), (185, 191, 378, 115), (192, 197, 378, 115), (198, 211, 378, 115), (212, 225, 378, 115), (226, 231, 378, 115), (232, 237, 378, 115), (238, 252, 378, 115), (253, 258, 378, 115), (259, 265, 378, 115), (266, 271, 378, 115), (272, 277, 378, 115), (278, 283, 378, 115), (284, 289, 378, 115), (290, 295, 378, 115), (296, 301, 378, 115), (302, 308, 378, 115), (309, 315, 378, 115), (316, 321, 378, 115), (322, 327, 378, 115), (328, 333, 378, 115), (334, 339, 378, 115), (340, 345, 378, 115), (346, 351, 378, 115), (352, 365, 378, 115), (366, 372, 378, 115), (0, 145, 383, 117), (146, 152, 383, 117), (153, 158, 383, 117), (159, 165, 383, 117), (166, 171, 383, 117), (172, 177, 383, 117), (178, 184, 383, 117), (185, 191, 383, 117), (192, 197, 383, 117), (198, 211, 383, 117), (212, 225, 383, 117), (226, 231, 383, 117), (232, 237, 383, 117), (238, 252, 383, 117), (253, 258, 383, 117), (259, 265, 383, 117), (266, 271, 383, 117), (272, 277, 383, 117), (278, 283, 383, 117), (284, 289, 383, 117), (290, 295, 383, 117), (296, 301, 383, 117), (302, 308, 383, 117), (309, 315, 383, 117), (316, 321, 383, 117), (322, 327, 383, 117), (328, 333, 383, 117), (334, 339, 383, 117), (340, 345, 383, 117), (346, 351, 383, 117), (352, 365, 383, 117), (366, 372, 383, 117), (0, 145, 388, 119), (146, 152, 388, 119), (153, 158, 388, 119), (159, 165, 388, 119), (166, 171, 388, 119), (172, 177, 388, 119), (178, 184, 388, 119), (185, 191, 388, 119), (192, 197, 388, 119), (198, 211, 388, 119), (212, 225, 388, 119), (226, 231, 388, 119), (232, 237, 388, 119), (238, 252, 388, 119), (253, 258, 388, 119), (259, 265, 388, 119), (266, 271, 388, 119), (272, 277, 388, 119), (278, 283, 388, 119), (284, 289, 388, 119), (290, 295, 388, 119), (296, 301, 388, 119), (302, 308, 388, 119), (309, 315, 388, 119), (316, 321, 388, 119), (322, 327, 388, 119), (328, 333, 388, 119), (334, 339, 388, 119), (340, 345, 388, 119), (346, 351, 388, 119), (352, 365, 388, 119), (366, 372, 388, 119), (0, 145, 393, 121), (146, 152, 393, 121), (153, 158, 393, 121), (159, 165, 393, 121), (166, 171, 393, 121), (172, 177, 393, 121), (178, 184, 393, 121), (185, 191, 393, 121), (192, 197, 393, 121), (198, 211, 393, 121), (212, 225, 393, 121), (226, 231, 393, 121), (232, 237, 393, 121), (238, 252, 393, 121), (253, 258, 393, 121), (259, 265, 393, 121), (266, 271, 393, 121), (272, 277, 393, 121), (278, 283, 393, 121), (284, 289, 393, 121), (290, 295, 393, 121), (296, 301, 393, 121), (302, 308, 393, 121), (309, 315, 393, 121), (316, 321, 393, 121), (322, 327, 393, 121), (328, 333, 393, 121), (334, 339, 393, 121), (340, 345, 393, 121), (346, 351, 393, 121), (352, 365, 393, 121), (366, 372, 393, 121)]
theorem q_call : Cond.codeWith yL_call cL_call 5 (some .int) lhh ∈ gw := q353
theorem nok_L_call : nOk yL_call 4 := ⟨by decide +kernel, by decide +kernel, by decide +kernel⟩
theorem nok_L_file : nOk yL_file 4 := ⟨by decide +kernel, by decide +kernel, by decide +kernel⟩
theorem nok_L_cell : nOk yL_cell 2 := ⟨by decide +kernel, by decide +kernel, by decide +kernel⟩
theorem nok_L_low : nOk yL_low 2 := ⟨by decide +kernel, by decide +kernel, by decide +kernel⟩
theorem nok_L_letter : nOk yL_letter 1 := ⟨by decide +kernel, by decide +kernel, by decide +kernel⟩
theorem nok_L_name : nOk yL_name 1 := ⟨by decide +kernel, by decide +kernel, by decide +kernel⟩
theorem nok_L_state : nOk yL_state 2 := ⟨by decide +kernel, by decide +kernel, by decide +kernel⟩
theorem nok_L_sound : nOk yL_sound 4 := ⟨by decide +kernel, by decide +kernel, by decide +kernel⟩
/-- what a class of throws is called in the law's pool -/
def lci (k : Nat) : Nat := match k with
  | 0 => 115
  | 1 => 117
  | 2 => 113
  | 3 => 119
  | _ => 121
def lcj (k c : Nat) : Bool := (!decide (k = 0) && decide (c = 115)) || (!decide (k = 1) && decide (c = 117)) || (!decide (k = 2) && decide (c = 113)) || (!decide (k = 3) && decide (c = 119)) || (!decide (k = 4) && decide (c = 121))
theorem lcj_spec {k c : Nat} (h : lcj k c = true) : ∃ j, j < 5 ∧ k ≠ j ∧ c = lci j := by
  unfold lcj at h
  simp only [Bool.or_eq_true, Bool.and_eq_true, Bool.not_eq_true', decide_eq_false_iff_not, decide_eq_true_eq] at h
  rcases h with (((h | h) | h) | h) | h
  · exact ⟨0, by decide, h.1, h.2⟩
  · exact ⟨1, by decide, h.1, h.2⟩
  · exact ⟨2, by decide, h.1, h.2⟩
  · exact ⟨3, by decide, h.1, h.2⟩
  · exact ⟨4, by decide, h.1, h.2⟩
theorem lci_w : ∀ k, k < 5 → Cond.classLink "NominatorLaw" (lci k) (nex k) ∈ gw := by
  intro k hk
  match k, hk with
  | 0, _ => exact q433
  | 1, _ => exact q434
  | 2, _ => exact q354
  | 3, _ => exact q435
  | 4, _ => exact q436
set_option maxRecDepth 20000 in
theorem lca_w : ∀ k, k < 5 → Cond.castable (nex k) (nex k) ∈ nbw := by
  intro k hk
  match k, hk with
  | 0, _ => exact List.mem_filter.mpr ⟨List.mem_of_getElem? (i := 443) (by rfl), by rfl⟩
  | 1, _ => exact List.mem_filter.mpr ⟨List.mem_of_getElem? (i := 459) (by rfl), by rfl⟩
  | 2, _ => exact List.mem_filter.mpr ⟨List.mem_of_getElem? (i := 577) (by rfl), by rfl⟩
  | 3, _ => exact List.mem_filter.mpr ⟨List.mem_of_getElem? (i := 600) (by rfl), by rfl⟩
  | 4, _ => exact List.mem_filter.mpr ⟨List.mem_of_getElem? (i := 723) (by rfl), by rfl⟩
theorem lnc : ∀ k, k < 5 → ∀ j, j < 5 → k ≠ j → (nex k, nex j) ∈ nnc
  | 0, _, 0, _, h => absurd rfl h
  | 0, _, 1, _, _ => List.mem_of_getElem? (i := 0) rfl
  | 0, _, 2, _, _ => List.mem_of_getElem? (i := 1) rfl
  | 0, _, 3, _, _ => List.mem_of_getElem? (i := 2) rfl
  | 0, _, 4, _, _ => List.mem_of_getElem? (i := 3) rfl
  | 1, _, 0, _, _ => List.mem_of_getElem? (i := 4) rfl
  | 1, _, 1, _, h => absurd rfl h
  | 1, _, 2, _, _ => List.mem_of_getElem? (i := 5) rfl
  | 1, _, 3, _, _ => List.mem_of_getElem? (i := 6) rfl
  | 1, _, 4, _, _ => List.mem_of_getElem? (i := 7) rfl
  | 2, _, 0, _, _ => List.mem_of_getElem? (i := 8) rfl
  | 2, _, 1, _, _ => List.mem_of_getElem? (i := 9) rfl
  | 2, _, 2, _, h => absurd rfl h
  | 2, _, 3, _, _ => List.mem_of_getElem? (i := 10) rfl
  | 2, _, 4, _, _ => List.mem_of_getElem? (i := 11) rfl
  | 3, _, 0, _, _ => List.mem_of_getElem? (i := 12) rfl
  | 3, _, 1, _, _ => List.mem_of_getElem? (i := 13) rfl
  | 3, _, 2, _, _ => List.mem_of_getElem? (i := 14) rfl
  | 3, _, 3, _, h => absurd rfl h
  | 3, _, 4, _, _ => List.mem_of_getElem? (i := 15) rfl
  | 4, _, 0, _, _ => List.mem_of_getElem? (i := 16) rfl
  | 4, _, 1, _, _ => List.mem_of_getElem? (i := 17) rfl
  | 4, _, 2, _, _ => List.mem_of_getElem? (i := 18) rfl
  | 4, _, 3, _, _ => List.mem_of_getElem? (i := 19) rfl
  | 4, _, 4, _, h => absurd rfl h
  | k + 5, h, _, _, _ => absurd h (by omega)
  | _, _, j + 5, h, _ => absurd h (by omega)
theorem lci_n0 : ∀ k, k < 5 → lci k ≠ 0 := by decide
section LCT
variable {p : Program} {l : Launch} {e : Env} {R : Room} {s : State} {m : MethodId} {args : Array Value} {below : List Frame} {meth : Method} {c : Code} {H : Heap} {locs : List Loc} {cells slots : Nat} {Q : State → Prop}
variable {cc : ByteArray} {nL pc : Nat} {hh : List (Nat × Nat × Nat × Nat)} {ls : Array Slot} {rest : List Value} {D : va_G} {dA : Nat → ClassId} {ad : Nat → Nat → Nat → Nat} {on : Nat → Prop} {X : NWd}
/-- a throw of kind k is caught by the row i of the table; those before don't cover the place, or are of other kinds -/
theorem l_catch {k i sp ep hp : Nat} {ce : Cell} {q : Addr} (hc : lC p s m args meth c cc nL hh D dA ad on) (hk : k < 5) (hi : hh[i]? = some (sp, ep, hp, lci k)) (hpre : (hh.take i).all (fun z => !(decide (z.1 ≤ pc) && decide (pc < z.2.1)) || lcj k z.2.2.2) = true) (hcov : sp ≤ pc ∧ pc < ep) (hcell : H[q]? = some ce) (hv : ce.vm = .none) (hcl : s.vm.findClass (nex k) = some ce.cls)
    (kk : W p l e R s m args below meth c H locs cells slots Q (F0 m hp ls [.ref q])) : vx_W p l e R s m args below meth c H locs cells slots Q (F0 m pc ls rest) q := by
  obtain ⟨hc, htb⟩ := hc
  have hT := hc.2.2.2.2.2.1
  have hsplit : hh = hh.take i ++ (sp, ep, hp, lci k) :: hh.drop (i + 1) := by
    obtain ⟨h1, h2⟩ := List.getElem?_eq_some_iff.mp hi
    rw [← h2, ← List.drop_eq_getElem_cons h1, List.take_append_drop]
  refine vx_catch (E := nex k) (name := nex k) hc.2.2.2.1 (tableOf (hh.take i)) ⟨sp, ep, hp, lci k⟩ (tableOf (hh.drop (i + 1))) ?_ (fun z hz => ?_) (by simp [covers, hcov]) (lci_n0 k hk) (hc.2.2.2.2.1 _ (lci_w k hk)) (nbw_use hT.2.1 (lca_w k hk)) hcell hv hcl kk
  · rw [htb]
    have h9 := congrArg tableOf hsplit
    rw [h9]
    simp [tableOf]
  · obtain ⟨w, hw, rfl⟩ := List.mem_map.mp hz
    have h9 := List.all_eq_true.mp hpre w hw
    rcases Bool.or_eq_true _ _ ▸ h9 with h9 | h9
    · left
      simp only [Bool.not_eq_true'] at h9
      simpa [covers] using h9
    · right
      obtain ⟨j, hj, hne, ej⟩ := lcj_spec h9
      refine ⟨?_, nex j, ?_, hT.2.2.2 _ (lnc k hk j hj hne)⟩
      · show w.2.2.2 ≠ 0
        rw [ej]; exact lci_n0 j hj
      · show (Cond.classLink "NominatorLaw" w.2.2.2 (nex j)).before args s = true
        rw [ej]; exact hc.2.2.2.2.1 _ (lci_w j hj)
variable {y : MethodName} {bytes : ByteArray} {maxL idx n b : Nat} {ret : Option FieldType} {As st : List Value} {rm : Room}
/-- a method of the office that makes nothing -/
theorem b_Mi {P : Int32 → NWd → Prop} (hM : nMi l D dA ad on y bytes maxL ret rm (.ref b :: As) X P) (hc : nC p s m args meth c cc nL "NominatorLaw" D dA ad on) (hP : npic D dA ad on X H) (hS : va_S (nA ad on) s.heap H locs) (hsz : ls.size = nL) (hg : GoodIn gw (wsV "NominatorLaw" idx y.cls y (nws y bytes maxL ret))) (hrv : ∃ cell : Cell, H[b]? = some cell ∧ cell.vm.isStatics = false ∧ s.vm.findClass y.cls = some cell.cls) (hrm : rm.cells = 0 ∧ rm.slots = 0) (hok : nOk y n) (hn : As.length = n) (hR : rm.frames + 1 ≤ R.frames ∧ 8 + (maxL + 11) + rm.locals ≤ R.locals) (hf : cells ≤ R.cells ∧ slots ≤ R.slots) (hdg : decode cc pc = .ok (.invokevirtual idx, 3)) (hst : st = As.reverse ++ .ref b :: rest) (hW : (rest.map fun v => v.category).sum ≤ 8)
    (kk : ∀ (r : Int32) (X' : NWd) (H1 : Heap) (locs1 : List Loc), P r X' → npic D dA ad on X' H1 → va_S (nA ad on) s.heap H1 locs1 → W p l e R s m args below meth c H1 locs1 cells slots Q (F0 m (pc + 3) ls (.int r :: rest))) : W p l e R s m args below meth c H locs cells slots Q (F0 m pc ls st) :=
  nc_Vi hM hc hP hS hsz hg hrv hrm hok hn hR hf hdg hst hW kk
end LCT
theorem nG_inl {α : Type} {b : Bool} {k k' : Nat} {r : Nat ⊕ α} (h : nG b k r = .inl k') : k' = k ∨ r = .inl k' := by
  unfold nG at h
  cases b with
  | true => exact Or.inr h
  | false => cases h; exact Or.inl rfl
theorem nG_inr {α : Type} {b : Bool} {k : Nat} {r : Nat ⊕ α} {z : α} (h : nG b k r = .inr z) : b = true ∧ r = .inr z := by
  unfold nG at h
  cases b with
  | true => exact ⟨rfl, h⟩
  | false => cases h
def l01 (G : Nat ⊕ (Int32 × NWd)) : Prop := ∀ v X', G = .inr (v, X') → v = 0 ∨ v = 1
theorem l01_nG {b : Bool} {k : Nat} {G : Nat ⊕ (Int32 × NWd)} (h : b = true → l01 G) : l01 (nG b k G) := fun v X' hg => h (nG_inr hg).1 v X' (nG_inr hg).2
theorem l01_v {v : Int32} {X : NWd} (h : v = 0 ∨ v = 1) : l01 (.inr (v, X)) := fun v' X' hg => by cases hg; exact h
theorem l01_nb {b : Bool} {X : NWd} : l01 (.inr (nb b, X)) := l01_v (by cases b <;> simp [nb])
section LM
variable {l : Launch} {D : va_G} {dA : Nat → ClassId} {ad : Nat → Nat → Nat → Nat} {on : Nat → Prop} {X : NWd} {S : NSt}
set_option maxHeartbeats 4000000 in
set_option maxRecDepth 100000 in
/-- of a signature that there is: nothing is made -/
theorem c_X9_signatureResult0 (hI : ninj ad on) (hon0 : on 0) (hon2 : on 2) (hok : oOk S) {q : Int32} (h1 : 0 ≤ q) (h2 : q < S 0 0 7) : nMi l D dA ad on yX9_signatureResult cX9_signatureResult 2 (some .int) (nrm 9) [.ref (ad 2 20 0), .int q] (wdo X 0 S) (fun r X' => r = S 13 (nix q) 4 ∧ X' = wdo X 0 S) := by
  refine nM_of hI (by decide +kernel) (Nat.le_of_ble_eq_true rfl) ?_
  intro p e s m args below meth cd ls hc hr _ hP hl hS
  have hx := hc.1
  have hb := hc.2.1
  have hl : lv_has ls 2 [(0, .ref (ad 2 20 0)), (1, .int q)] := hl
  have c_1 : ¬ q < 0 := Int32.not_lt.mpr h1
  have hq : vp_in q 150 := vp_mono (inB_t.mp ((inB_lt c_1 hok.ns hok.nsL).trans (decide_eq_true h2))) hok.ns150
  refine lv_iload_n hx hb dX9_signatureResult_0 rfl (lv_at hl 1 rfl) ?_
  refine lv_if_lt (tgt := 15) hx hb dX9_signatureResult_1 (by decide) (fun z => absurd z c_1) (fun _ => ?_)
  refine lv_iload_n hx hb dX9_signatureResult_4 rfl (lv_at hl 1 rfl) ?_
  refine lv_aload_n hx hb dX9_signatureResult_5 rfl (lv_at hl 0 rfl) ?_
  refine g9_10 hc hP (nv_n hon2 (by decide) Nat.zero_lt_one) dX9_signatureResult_6 ?_
  refine g9_138 hc hP (nv_o hon0 (by decide) (by decide) Nat.zero_lt_one) dX9_signatureResult_9 ?_
  refine lv_icmp_lt (tgt := 25) hx hb dX9_signatureResult_12 (by decide) (fun _ => ?_) (fun z => absurd h2 z)
  refine lv_aload_n hx hb dX9_signatureResult_25 rfl (lv_at hl 0 rfl) ?_
  refine g9_10 hc hP (nv_n hon2 (by decide) Nat.zero_lt_one) dX9_signatureResult_26 ?_
  refine g9_202 hc hP (nv_o hon0 (by decide) (by decide) Nat.zero_lt_one) dX9_signatureResult_29 ?_
  refine lv_iload_n hx hb dX9_signatureResult_32 rfl (lv_at hl 1 rfl) ?_
  refine ga_12 hc hP (nv_o hon0 (by decide) (by decide) Nat.zero_lt_one) hq dX9_signatureResult_33 ?_
  refine g9_206 hc hP (nv_o hon0 (by decide) (by decide) (vp_lt hq)) dX9_signatureResult_34 ?_
  exact ne_i hc hP hS hr dX9_signatureResult_37 ⟨rfl, rfl⟩
set_option maxHeartbeats 4000000 in
theorem lk_pass (hfl : l.stackTraces = false) (hI : ninj ad on) (hon0 : on 0) (hon1 : on 1) (hon2 : on 2) (hok : oOk (X 0)) (hd : vp_in (X 2 21 0 4) 513) {a9 b9 : Int32} : lM l D dA ad on yL_call cL_call 5 lhh [.ref (ad 2 20 0), .int 0, .int a9, .int b9] (wdo X 0 (X 0)) 6 (fun r X' => (r, X') = lres (wdo X 0 (X 0)) (nG (decide (1 ≤ a9) && decide (a9 ≤ 30)) 0 (nG (decide ((X 0) 1 0 0 + a9 ≤ 99)) 1 (.inr (nJ (X 0) 1 a9 0 0 1 0 0, nEv X (X 0) 1 a9 0 0))))) := by
  refine lM_of hI rfl (by decide +kernel) (Nat.le_of_ble_eq_true rfl) ?_
  intro p e s m args below meth cd ls hc hr hP hl hS
  have hx := hc.1.1
  have hb := hc.1.2.1
  have hl : lv_has ls 5 [(0, .ref (ad 2 20 0)), (1, .int 0), (2, .int a9), (3, .int b9)] := hl
  refine lv_iload_n hx hb dL_call_0 rfl (lv_at hl 1 rfl) ?_
  refine lv_tableIn (tgt := 140) (off := 139) hx hb dL_call_1 (by decide) (by decide) (by rfl) (by decide) ?_
  refine lv_aload_n hx hb dL_call_140 rfl (lv_at hl 0 rfl) ?_
  refine lv_iload_n hx hb dL_call_141 rfl (lv_at hl 2 rfl) ?_
  refine l_Xi (X := wdo X 0 (X 0)) (As := [.int a9]) (rest := []) (c_X9_pass (S := X 0) (a := a9) hfl hI hon0 hon1 hon2 hok hd) hc hP hS hl.1 (ngoodV q437 q438 q439 q1 q440) (b_rec hc.1 hP hon2) nok_X9_pass rfl ⟨(Nat.le_of_ble_eq_true rfl), (Nat.le_of_ble_eq_true rfl)⟩ ⟨(Nat.le_of_ble_eq_true rfl), (Nat.le_of_ble_eq_true rfl)⟩ dL_call_142 rfl (Nat.le_of_ble_eq_true rfl) ?_ ?_
  · intro k ce q9 H locs hE hP hS hcell hv hcl
    have hE9 : (nG (decide (1 ≤ a9) && decide (a9 ≤ 30)) 0 (nG (decide ((X 0) 1 0 0 + a9 ≤ 99)) 1 (.inr (nJ (X 0) 1 a9 0 0 1 0 0, nEv X (X 0) 1 a9 0 0))) : Nat ⊕ (Int32 × NWd)) = .inl k := hE
    have hks : k = 0 ∨ k = 1 := by
      rcases nG_inl hE9 with h9 | h9
      · exact Or.inl h9
      · skip
        rcases nG_inl h9 with h9 | h9
        · exact Or.inr (h9)
        · cases h9
    rcases hks with rfl | rfl
    · refine l_catch (k := 0) (i := 32) (sp := 0) (ep := 145) (hp := 378) hc (by decide) rfl (by decide +kernel) ⟨by decide, by decide⟩ hcell hv hcl ?_
      refine lv_astore (lv' := [(4, .ref _), (0, .ref _), (1, .int _), (2, .int _), (3, .int _)]) hx hb dL_call_378 hl (by decide) rfl (fun ls hl => ?_)
      refine lv_bipush (v := -102) hx hb dL_call_380 (by decide) ?_
      exact l_end hc hP hS hr dL_call_382 (Nat.le_of_ble_eq_true rfl) (Nat.le_of_ble_eq_true rfl) (congrArg (lres (wdo X 0 (X 0))) hE9).symm
    · refine l_catch (k := 1) (i := 64) (sp := 0) (ep := 145) (hp := 383) hc (by decide) rfl (by decide +kernel) ⟨by decide, by decide⟩ hcell hv hcl ?_
      refine lv_astore (lv' := [(4, .ref _), (0, .ref _), (1, .int _), (2, .int _), (3, .int _)]) hx hb dL_call_383 hl (by decide) rfl (fun ls hl => ?_)
      refine lv_bipush (v := -103) hx hb dL_call_385 (by decide) ?_
      exact l_end hc hP hS hr dL_call_387 (Nat.le_of_ble_eq_true rfl) (Nat.le_of_ble_eq_true rfl) (congrArg (lres (wdo X 0 (X 0))) hE9).symm
  · intro r X2 H locs hp hP hS
    exact l_end hc hP hS hr dL_call_145 (Nat.le_of_ble_eq_true rfl) (Nat.le_of_ble_eq_true rfl) (congrArg (lres (wdo X 0 (X 0))) hp).symm
set_option maxHeartbeats 4000000 in
theorem lk_addArea (hfl : l.stackTraces = false) (hI : ninj ad on) (hon0 : on 0) (hon1 : on 1) (hon2 : on 2) (hok : oOk (X 0)) (hd : vp_in (X 2 21 0 4) 513) {a9 b9 : Int32} : lM l D dA ad on yL_call cL_call 5 lhh [.ref (ad 2 20 0), .int 1, .int a9, .int b9] (wdo X 0 (X 0)) 6 (fun r X' => (r, X') = lres (wdo X 0 (X 0)) (nG (decide (1 ≤ a9) && decide (a9 ≤ 10) && decide (0 ≤ b9) && decide (b9 ≤ 1000)) 0 (nG (decide ((X 0) 2 0 2 < 5)) 1 (.inr (nJ (X 0) 2 a9 b9 0 2 0 2 - 1, nEv X (X 0) 2 a9 b9 0))))) := by
  refine lM_of hI rfl (by decide +kernel) (Nat.le_of_ble_eq_true rfl) ?_
  intro p e s m args below meth cd ls hc hr hP hl hS
  have hx := hc.1.1
  have hb := hc.1.2.1
  have hl : lv_has ls 5 [(0, .ref (ad 2 20 0)), (1, .int 1), (2, .int a9), (3, .int b9)] := hl
  refine lv_iload_n hx hb dL_call_0 rfl (lv_at hl 1 rfl) ?_
  refine lv_tableIn (tgt := 146) (off := 145) hx hb dL_call_1 (by decide) (by decide) (by rfl) (by decide) ?_
  refine lv_aload_n hx hb dL_call_146 rfl (lv_at hl 0 rfl) ?_
  refine lv_iload_n hx hb dL_call_147 rfl (lv_at hl 2 rfl) ?_
  refine lv_iload_n hx hb dL_call_148 rfl (lv_at hl 3 rfl) ?_
  refine l_Xi (X := wdo X 0 (X 0)) (As := [.int a9, .int b9]) (rest := []) (c_X9_addArea (S := X 0) (a := a9) (b := b9) hfl hI hon0 hon1 hon2 hok hd) hc hP hS hl.1 (ngoodV q561 q562 q563 q1 q564) (b_rec hc.1 hP hon2) nok_X9_addArea rfl ⟨(Nat.le_of_ble_eq_true rfl), (Nat.le_of_ble_eq_true rfl)⟩ ⟨(Nat.le_of_ble_eq_true rfl), (Nat.le_of_ble_eq_true rfl)⟩ dL_call_149 rfl (Nat.le_of_ble_eq_true rfl) ?_ ?_
  · intro k ce q9 H locs hE hP hS hcell hv hcl
    have hE9 : (nG (decide (1 ≤ a9) && decide (a9 ≤ 10) && decide (0 ≤ b9) && decide (b9 ≤ 1000)) 0 (nG (decide ((X 0) 2 0 2 < 5)) 1 (.inr (nJ (X 0) 2 a9 b9 0 2 0 2 - 1, nEv X (X 0) 2 a9 b9 0))) : Nat ⊕ (Int32 × NWd)) = .inl k := hE
    have hks : k = 0 ∨ k = 1 := by
      rcases nG_inl hE9 with h9 | h9
      · exact Or.inl h9
      · skip
        rcases nG_inl h9 with h9 | h9
        · exact Or.inr (h9)
        · cases h9
    rcases hks with rfl | rfl
    · refine l_catch (k := 0) (i := 33) (sp := 146) (ep := 152) (hp := 378) hc (by decide) rfl (by decide +kernel) ⟨by decide, by decide⟩ hcell hv hcl ?_
      refine lv_astore (lv' := [(4, .ref _), (0, .ref _), (1, .int _), (2, .int _), (3, .int _)]) hx hb dL_call_378 hl (by decide) rfl (fun ls hl => ?_)
      refine lv_bipush (v := -102) hx hb dL_call_380 (by decide) ?_
      exact l_end hc hP hS hr dL_call_382 (Nat.le_of_ble_eq_true rfl) (Nat.le_of_ble_eq_true rfl) (congrArg (lres (wdo X 0 (X 0))) hE9).symm
    · refine l_catch (k := 1) (i := 65) (sp := 146) (ep := 152) (hp := 383) hc (by decide) rfl (by decide +kernel) ⟨by decide, by decide⟩ hcell hv hcl ?_
      refine lv_astore (lv' := [(4, .ref _), (0, .ref _), (1, .int _), (2, .int _), (3, .int _)]) hx hb dL_call_383 hl (by decide) rfl (fun ls hl => ?_)
      refine lv_bipush (v := -103) hx hb dL_call_385 (by decide) ?_
      exact l_end hc hP hS hr dL_call_387 (Nat.le_of_ble_eq_true rfl) (Nat.le_of_ble_eq_true rfl) (congrArg (lres (wdo X 0 (X 0))) hE9).symm
  · intro r X2 H locs hp hP hS
    exact l_end hc hP hS hr dL_call_152 (Nat.le_of_ble_eq_true rfl) (Nat.le_of_ble_eq_true rfl) (congrArg (lres (wdo X 0 (X 0))) hp).symm
set_option maxHeartbeats 4000000 in
theorem lk_addVoter (hfl : l.stackTraces = false) (hI : ninj ad on) (hon0 : on 0) (hon1 : on 1) (hon2 : on 2) (hok : oOk (X 0)) (hd : vp_in (X 2 21 0 4) 513) {a9 b9 : Int32} : lM l D dA ad on yL_call cL_call 5 lhh [.ref (ad 2 20 0), .int 2, .int a9, .int b9] (wdo X 0 (X 0)) 6 (fun r X' => (r, X') = lres (wdo X 0 (X 0)) (nG (inB a9 (ona (X 0))) 2 (nG (decide ((X 0) 2 0 3 < 40)) 1 (.inr (nJ (X 0) 3 a9 0 0 2 0 3 - 1, nEv X (X 0) 3 a9 0 0))))) := by
  refine lM_of hI rfl (by decide +kernel) (Nat.le_of_ble_eq_true rfl) ?_
  intro p e s m args below meth cd ls hc hr hP hl hS
  have hx := hc.1.1
  have hb := hc.1.2.1
  have hl : lv_has ls 5 [(0, .ref (ad 2 20 0)), (1, .int 2), (2, .int a9), (3, .int b9)] := hl
  refine lv_iload_n hx hb dL_call_0 rfl (lv_at hl 1 rfl) ?_
  refine lv_tableIn (tgt := 153) (off := 152) hx hb dL_call_1 (by decide) (by decide) (by rfl) (by decide) ?_
  refine lv_aload_n hx hb dL_call_153 rfl (lv_at hl 0 rfl) ?_
  refine lv_iload_n hx hb dL_call_154 rfl (lv_at hl 2 rfl) ?_
  refine l_Xi (X := wdo X 0 (X 0)) (As := [.int a9]) (rest := []) (c_X9_addVoter (S := X 0) (a := a9) hfl hI hon0 hon1 hon2 hok hd) hc hP hS hl.1 (ngoodV q567 q568 q569 q1 q570) (b_rec hc.1 hP hon2) nok_X9_addVoter rfl ⟨(Nat.le_of_ble_eq_true rfl), (Nat.le_of_ble_eq_true rfl)⟩ ⟨(Nat.le_of_ble_eq_true rfl), (Nat.le_of_ble_eq_true rfl)⟩ dL_call_155 rfl (Nat.le_of_ble_eq_true rfl) ?_ ?_
  · intro k ce q9 H locs hE hP hS hcell hv hcl
    have hE9 : (nG (inB a9 (ona (X 0))) 2 (nG (decide ((X 0) 2 0 3 < 40)) 1 (.inr (nJ (X 0) 3 a9 0 0 2 0 3 - 1, nEv X (X 0) 3 a9 0 0))) : Nat ⊕ (Int32 × NWd)) = .inl k := hE
    have hks : k = 2 ∨ k = 1 := by
      rcases nG_inl hE9 with h9 | h9
      · exact Or.inl h9
      · skip
        rcases nG_inl h9 with h9 | h9
        · exact Or.inr (h9)
        · cases h9
    rcases hks with rfl | rfl
    · refine l_catch (k := 2) (i := 2) (sp := 153) (ep := 158) (hp := 373) hc (by decide) rfl (by decide +kernel) ⟨by decide, by decide⟩ hcell hv hcl ?_
      refine lv_astore (lv' := [(4, .ref _), (0, .ref _), (1, .int _), (2, .int _), (3, .int _)]) hx hb dL_call_373 hl (by decide) rfl (fun ls hl => ?_)
      refine lv_bipush (v := -101) hx hb dL_call_375 (by decide) ?_
      exact l_end hc hP hS hr dL_call_377 (Nat.le_of_ble_eq_true rfl) (Nat.le_of_ble_eq_true rfl) (congrArg (lres (wdo X 0 (X 0))) hE9).symm
    · refine l_catch (k := 1) (i := 66) (sp := 153) (ep := 158) (hp := 383) hc (by decide) rfl (by decide +kernel) ⟨by decide, by decide⟩ hcell hv hcl ?_
      refine lv_astore (lv' := [(4, .ref _), (0, .ref _), (1, .int _), (2, .int _), (3, .int _)]) hx hb dL_call_383 hl (by decide) rfl (fun ls hl => ?_)
      refine lv_bipush (v := -103) hx hb dL_call_385 (by decide) ?_
      exact l_end hc hP hS hr dL_call_387 (Nat.le_of_ble_eq_true rfl) (Nat.le_of_ble_eq_true rfl) (congrArg (lres (wdo X 0 (X 0))) hE9).symm
  · intro r X2 H locs hp hP hS
    exact l_end hc hP hS hr dL_call_158 (Nat.le_of_ble_eq_true rfl) (Nat.le_of_ble_eq_true rfl) (congrArg (lres (wdo X 0 (X 0))) hp).symm
set_option maxHeartbeats 4000000 in
theorem lk_move (hfl : l.stackTraces = false) (hI : ninj ad on) (hon0 : on 0) (hon1 : on 1) (hon2 : on 2) (hok : oOk (X 0)) (hd : vp_in (X 2 21 0 4) 513) {a9 b9 : Int32} : lM l D dA ad on yL_call cL_call 5 lhh [.ref (ad 2 20 0), .int 3, .int a9, .int b9] (wdo X 0 (X 0)) 6 (fun r X' => (r, X') = lres (wdo X 0 (X 0)) (nG (inB a9 (onv (X 0))) 2 (nG (inB b9 (ona (X 0))) 2 (nG (!decide ((X 0) 6 (nix a9) 0 = b9)) 3 (.inr ((X 0) 6 (nix a9) 0, nEv X (X 0) 4 a9 b9 0)))))) := by
  refine lM_of hI rfl (by decide +kernel) (Nat.le_of_ble_eq_true rfl) ?_
  intro p e s m args below meth cd ls hc hr hP hl hS
  have hx := hc.1.1
  have hb := hc.1.2.1
  have hl : lv_has ls 5 [(0, .ref (ad 2 20 0)), (1, .int 3), (2, .int a9), (3, .int b9)] := hl
  refine lv_iload_n hx hb dL_call_0 rfl (lv_at hl 1 rfl) ?_
  refine lv_tableIn (tgt := 159) (off := 158) hx hb dL_call_1 (by decide) (by decide) (by rfl) (by decide) ?_
  refine lv_aload_n hx hb dL_call_159 rfl (lv_at hl 0 rfl) ?_
  refine lv_iload_n hx hb dL_call_160 rfl (lv_at hl 2 rfl) ?_
  refine lv_iload_n hx hb dL_call_161 rfl (lv_at hl 3 rfl) ?_
  refine l_Xi (X := wdo X 0 (X 0)) (As := [.int a9, .int b9]) (rest := []) (c_X9_move (S := X 0) (v := a9) (a := b9) hfl hI hon0 hon1 hon2 hok hd) hc hP hS hl.1 (ngoodV q589 q590 q591 q1 q592) (b_rec hc.1 hP hon2) nok_X9_move rfl ⟨(Nat.le_of_ble_eq_true rfl), (Nat.le_of_ble_eq_true rfl)⟩ ⟨(Nat.le_of_ble_eq_true rfl), (Nat.le_of_ble_eq_true rfl)⟩ dL_call_162 rfl (Nat.le_of_ble_eq_true rfl) ?_ ?_
  · intro k ce q9 H locs hE hP hS hcell hv hcl
    have hE9 : (nG (inB a9 (onv (X 0))) 2 (nG (inB b9 (ona (X 0))) 2 (nG (!decide ((X 0) 6 (nix a9) 0 = b9)) 3 (.inr ((X 0) 6 (nix a9) 0, nEv X (X 0) 4 a9 b9 0)))) : Nat ⊕ (Int32 × NWd)) = .inl k := hE
    have hks : k = 2 ∨ k = 3 := by
      rcases nG_inl hE9 with h9 | h9
      · exact Or.inl h9
      · skip
        rcases nG_inl h9 with h9 | h9
        · exact Or.inl h9
        · skip
          rcases nG_inl h9 with h9 | h9
          · exact Or.inr (h9)
          · cases h9
    rcases hks with rfl | rfl
    · refine l_catch (k := 2) (i := 3) (sp := 159) (ep := 165) (hp := 373) hc (by decide) rfl (by decide +kernel) ⟨by decide, by decide⟩ hcell hv hcl ?_
      refine lv_astore (lv' := [(4, .ref _), (0, .ref _), (1, .int _), (2, .int _), (3, .int _)]) hx hb dL_call_373 hl (by decide) rfl (fun ls hl => ?_)
      refine lv_bipush (v := -101) hx hb dL_call_375 (by decide) ?_
      exact l_end hc hP hS hr dL_call_377 (Nat.le_of_ble_eq_true rfl) (Nat.le_of_ble_eq_true rfl) (congrArg (lres (wdo X 0 (X 0))) hE9).symm
    · refine l_catch (k := 3) (i := 99) (sp := 159) (ep := 165) (hp := 388) hc (by decide) rfl (by decide +kernel) ⟨by decide, by decide⟩ hcell hv hcl ?_
      refine lv_astore (lv' := [(4, .ref _), (0, .ref _), (1, .int _), (2, .int _), (3, .int _)]) hx hb dL_call_388 hl (by decide) rfl (fun ls hl => ?_)
      refine lv_bipush (v := -104) hx hb dL_call_390 (by decide) ?_
      exact l_end hc hP hS hr dL_call_392 (Nat.le_of_ble_eq_true rfl) (Nat.le_of_ble_eq_true rfl) (congrArg (lres (wdo X 0 (X 0))) hE9).symm
  · intro r X2 H locs hp hP hS
    exact l_end hc hP hS hr dL_call_165 (Nat.le_of_ble_eq_true rfl) (Nat.le_of_ble_eq_true rfl) (congrArg (lres (wdo X 0 (X 0))) hp).symm
set_option maxHeartbeats 4000000 in
theorem lk_strike (hfl : l.stackTraces = false) (hI : ninj ad on) (hon0 : on 0) (hon1 : on 1) (hon2 : on 2) (hok : oOk (X 0)) (hd : vp_in (X 2 21 0 4) 513) {a9 b9 : Int32} : lM l D dA ad on yL_call cL_call 5 lhh [.ref (ad 2 20 0), .int 4, .int a9, .int b9] (wdo X 0 (X 0)) 6 (fun r X' => (r, X') = lres (wdo X 0 (X 0)) (nG (inB a9 (onv (X 0))) 2 (nG (!decide ((X 0) 6 (nix a9) 1 = 0)) 1 (.inr (oRoll (nJ (X 0) 5 a9 0 0), nEv X (X 0) 5 a9 0 0))))) := by
  refine lM_of hI rfl (by decide +kernel) (Nat.le_of_ble_eq_true rfl) ?_
  intro p e s m args below meth cd ls hc hr hP hl hS
  have hx := hc.1.1
  have hb := hc.1.2.1
  have hl : lv_has ls 5 [(0, .ref (ad 2 20 0)), (1, .int 4), (2, .int a9), (3, .int b9)] := hl
  refine lv_iload_n hx hb dL_call_0 rfl (lv_at hl 1 rfl) ?_
  refine lv_tableIn (tgt := 166) (off := 165) hx hb dL_call_1 (by decide) (by decide) (by rfl) (by decide) ?_
  refine lv_aload_n hx hb dL_call_166 rfl (lv_at hl 0 rfl) ?_
  refine lv_iload_n hx hb dL_call_167 rfl (lv_at hl 2 rfl) ?_
  refine l_Xi (X := wdo X 0 (X 0)) (As := [.int a9]) (rest := []) (c_X9_strike (S := X 0) (v := a9) hfl hI hon0 hon1 hon2 hok hd) hc hP hS hl.1 (ngoodV q614 q615 q616 q1 q617) (b_rec hc.1 hP hon2) nok_X9_strike rfl ⟨(Nat.le_of_ble_eq_true rfl), (Nat.le_of_ble_eq_true rfl)⟩ ⟨(Nat.le_of_ble_eq_true rfl), (Nat.le_of_ble_eq_true rfl)⟩ dL_call_168 rfl (Nat.le_of_ble_eq_true rfl) ?_ ?_
  · intro k ce q9 H locs hE hP hS hcell hv hcl
    have hE9 : (nG (inB a9 (onv (X 0))) 2 (nG (!decide ((X 0) 6 (nix a9) 1 = 0)) 1 (.inr (oRoll (nJ (X 0) 5 a9 0 0), nEv X (X 0) 5 a9 0 0))) : Nat ⊕ (Int32 × NWd)) = .inl k := hE
    have hks : k = 2 ∨ k = 1 := by
      rcases nG_inl hE9 with h9 | h9
      · exact Or.inl h9
      · skip
        rcases nG_inl h9 with h9 | h9
        · exact Or.inr (h9)
        · cases h9
    rcases hks with rfl | rfl
    · refine l_catch (k := 2) (i := 4) (sp := 166) (ep := 171) (hp := 373) hc (by decide) rfl (by decide +kernel) ⟨by decide, by decide⟩ hcell hv hcl ?_
      refine lv_astore (lv' := [(4, .ref _), (0, .ref _), (1, .int _), (2, .int _), (3, .int _)]) hx hb dL_call_373 hl (by decide) rfl (fun ls hl => ?_)
      refine lv_bipush (v := -101) hx hb dL_call_375 (by decide) ?_
      exact l_end hc hP hS hr dL_call_377 (Nat.le_of_ble_eq_true rfl) (Nat.le_of_ble_eq_true rfl) (congrArg (lres (wdo X 0 (X 0))) hE9).symm
    · refine l_catch (k := 1) (i := 68) (sp := 166) (ep := 171) (hp := 383) hc (by decide) rfl (by decide +kernel) ⟨by decide, by decide⟩ hcell hv hcl ?_
      refine lv_astore (lv' := [(4, .ref _), (0, .ref _), (1, .int _), (2, .int _), (3, .int _)]) hx hb dL_call_383 hl (by decide) rfl (fun ls hl => ?_)
      refine lv_bipush (v := -103) hx hb dL_call_385 (by decide) ?_
      exact l_end hc hP hS hr dL_call_387 (Nat.le_of_ble_eq_true rfl) (Nat.le_of_ble_eq_true rfl) (congrArg (lres (wdo X 0 (X 0))) hE9).symm
  · intro r X2 H locs hp hP hS
    exact l_end hc hP hS hr dL_call_171 (Nat.le_of_ble_eq_true rfl) (Nat.le_of_ble_eq_true rfl) (congrArg (lres (wdo X 0 (X 0))) hp).symm
set_option maxHeartbeats 4000000 in
theorem lk_restore (hfl : l.stackTraces = false) (hI : ninj ad on) (hon0 : on 0) (hon1 : on 1) (hon2 : on 2) (hok : oOk (X 0)) (hd : vp_in (X 2 21 0 4) 513) {a9 b9 : Int32} : lM l D dA ad on yL_call cL_call 5 lhh [.ref (ad 2 20 0), .int 5, .int a9, .int b9] (wdo X 0 (X 0)) 6 (fun r X' => (r, X') = lres (wdo X 0 (X 0)) (nG (inB a9 (onv (X 0))) 2 (nG (decide ((X 0) 6 (nix a9) 1 = 0)) 1 (.inr (oRoll (nJ (X 0) 6 a9 0 0), nEv X (X 0) 6 a9 0 0))))) := by
  refine lM_of hI rfl (by decide +kernel) (Nat.le_of_ble_eq_true rfl) ?_
  intro p e s m args below meth cd ls hc hr hP hl hS
  have hx := hc.1.1
  have hb := hc.1.2.1
  have hl : lv_has ls 5 [(0, .ref (ad 2 20 0)), (1, .int 5), (2, .int a9), (3, .int b9)] := hl
  refine lv_iload_n hx hb dL_call_0 rfl (lv_at hl 1 rfl) ?_
  refine lv_tableIn (tgt := 172) (off := 171) hx hb dL_call_1 (by decide) (by decide) (by rfl) (by decide) ?_
  refine lv_aload_n hx hb dL_call_172 rfl (lv_at hl 0 rfl) ?_
  refine lv_iload_n hx hb dL_call_173 rfl (lv_at hl 2 rfl) ?_
  refine l_Xi (X := wdo X 0 (X 0)) (As := [.int a9]) (rest := []) (c_X9_restore (S := X 0) (v := a9) hfl hI hon0 hon1 hon2 hok hd) hc hP hS hl.1 (ngoodV q623 q624 q625 q1 q626) (b_rec hc.1 hP hon2) nok_X9_restore rfl ⟨(Nat.le_of_ble_eq_true rfl), (Nat.le_of_ble_eq_true rfl)⟩ ⟨(Nat.le_of_ble_eq_true rfl), (Nat.le_of_ble_eq_true rfl)⟩ dL_call_174 rfl (Nat.le_of_ble_eq_true rfl) ?_ ?_
  · intro k ce q9 H locs hE hP hS hcell hv hcl
    have hE9 : (nG (inB a9 (onv (X 0))) 2 (nG (decide ((X 0) 6 (nix a9) 1 = 0)) 1 (.inr (oRoll (nJ (X 0) 6 a9 0 0), nEv X (X 0) 6 a9 0 0))) : Nat ⊕ (Int32 × NWd)) = .inl k := hE
    have hks : k = 2 ∨ k = 1 := by
      rcases nG_inl hE9 with h9 | h9
      · exact Or.inl h9
      · skip
        rcases nG_inl h9 with h9 | h9
        · exact Or.inr (h9)
        · cases h9
    rcases hks with rfl | rfl
    · refine l_catch (k := 2) (i := 5) (sp := 172) (ep := 177) (hp := 373) hc (by decide) rfl (by decide +kernel) ⟨by decide, by decide⟩ hcell hv hcl ?_
      refine lv_astore (lv' := [(4, .ref _), (0, .ref _), (1, .int _), (2, .int _), (3, .int _)]) hx hb dL_call_373 hl (by decide) rfl (fun ls hl => ?_)
      refine lv_bipush (v := -101) hx hb dL_call_375 (by decide) ?_
      exact l_end hc hP hS hr dL_call_377 (Nat.le_of_ble_eq_true rfl) (Nat.le_of_ble_eq_true rfl) (congrArg (lres (wdo X 0 (X 0))) hE9).symm
    · refine l_catch (k := 1) (i := 69) (sp := 172) (ep := 177) (hp := 383) hc (by decide) rfl (by decide +kernel) ⟨by decide, by decide⟩ hcell hv hcl ?_
      refine lv_astore (lv' := [(4, .ref _), (0, .ref _), (1, .int _), (2, .int _), (3, .int _)]) hx hb dL_call_383 hl (by decide) rfl (fun ls hl => ?_)
      refine lv_bipush (v := -103) hx hb dL_call_385 (by decide) ?_
      exact l_end hc hP hS hr dL_call_387 (Nat.le_of_ble_eq_true rfl) (Nat.le_of_ble_eq_true rfl) (congrArg (lres (wdo X 0 (X 0))) hE9).symm
  · intro r X2 H locs hp hP hS
    exact l_end hc hP hS hr dL_call_177 (Nat.le_of_ble_eq_true rfl) (Nat.le_of_ble_eq_true rfl) (congrArg (lres (wdo X 0 (X 0))) hp).symm
set_option maxHeartbeats 4000000 in
theorem lk_sign (hfl : l.stackTraces = false) (hI : ninj ad on) (hon0 : on 0) (hon1 : on 1) (hon2 : on 2) (hok : oOk (X 0)) (hd : vp_in (X 2 21 0 4) 513) {a9 b9 : Int32} : lM l D dA ad on yL_call cL_call 5 lhh [.ref (ad 2 20 0), .int 6, .int a9, .int b9] (wdo X 0 (X 0)) 6 (fun r X' => (r, X') = lres (wdo X 0 (X 0)) (nG (inB a9 (onp (X 0))) 2 (nG (inB b9 (onv (X 0))) 2 (nG (oOpen (X 0)) 1 (nG (!oGone (X 0) a9) 1 (nG (decide ((X 0) 0 0 7 < 150)) 1 (.inr (nJ (X 0) 8 a9 b9 0 0 0 7 - 1, nEv X (X 0) 8 a9 b9 0)))))))) := by
  refine lM_of hI rfl (by decide +kernel) (Nat.le_of_ble_eq_true rfl) ?_
  intro p e s m args below meth cd ls hc hr hP hl hS
  have hx := hc.1.1
  have hb := hc.1.2.1
  have hl : lv_has ls 5 [(0, .ref (ad 2 20 0)), (1, .int 6), (2, .int a9), (3, .int b9)] := hl
  refine lv_iload_n hx hb dL_call_0 rfl (lv_at hl 1 rfl) ?_
  refine lv_tableIn (tgt := 178) (off := 177) hx hb dL_call_1 (by decide) (by decide) (by rfl) (by decide) ?_
  refine lv_aload_n hx hb dL_call_178 rfl (lv_at hl 0 rfl) ?_
  refine lv_iload_n hx hb dL_call_179 rfl (lv_at hl 2 rfl) ?_
  refine lv_iload_n hx hb dL_call_180 rfl (lv_at hl 3 rfl) ?_
  refine l_Xi (X := wdo X 0 (X 0)) (As := [.int a9, .int b9]) (rest := []) (c_X9_sign (S := X 0) (pp := a9) (v := b9) hfl hI hon0 hon1 hon2 hok hd) hc hP hS hl.1 (ngoodV q628 q629 q630 q1 q631) (b_rec hc.1 hP hon2) nok_X9_sign rfl ⟨(Nat.le_of_ble_eq_true rfl), (Nat.le_of_ble_eq_true rfl)⟩ ⟨(Nat.le_of_ble_eq_true rfl), (Nat.le_of_ble_eq_true rfl)⟩ dL_call_181 rfl (Nat.le_of_ble_eq_true rfl) ?_ ?_
  · intro k ce q9 H locs hE hP hS hcell hv hcl
    have hE9 : (nG (inB a9 (onp (X 0))) 2 (nG (inB b9 (onv (X 0))) 2 (nG (oOpen (X 0)) 1 (nG (!oGone (X 0) a9) 1 (nG (decide ((X 0) 0 0 7 < 150)) 1 (.inr (nJ (X 0) 8 a9 b9 0 0 0 7 - 1, nEv X (X 0) 8 a9 b9 0)))))) : Nat ⊕ (Int32 × NWd)) = .inl k := hE
    have hks : k = 2 ∨ k = 1 := by
      rcases nG_inl hE9 with h9 | h9
      · exact Or.inl h9
      · skip
        rcases nG_inl h9 with h9 | h9
        · exact Or.inl h9
        · skip
          rcases nG_inl h9 with h9 | h9
          · exact Or.inr (h9)
          · skip
            rcases nG_inl h9 with h9 | h9
            · exact Or.inr (h9)
            · skip
              rcases nG_inl h9 with h9 | h9
              · exact Or.inr (h9)
              · cases h9
    rcases hks with rfl | rfl
    · refine l_catch (k := 2) (i := 6) (sp := 178) (ep := 184) (hp := 373) hc (by decide) rfl (by decide +kernel) ⟨by decide, by decide⟩ hcell hv hcl ?_
      refine lv_astore (lv' := [(4, .ref _), (0, .ref _), (1, .int _), (2, .int _), (3, .int _)]) hx hb dL_call_373 hl (by decide) rfl (fun ls hl => ?_)
      refine lv_bipush (v := -101) hx hb dL_call_375 (by decide) ?_
      exact l_end hc hP hS hr dL_call_377 (Nat.le_of_ble_eq_true rfl) (Nat.le_of_ble_eq_true rfl) (congrArg (lres (wdo X 0 (X 0))) hE9).symm
    · refine l_catch (k := 1) (i := 70) (sp := 178) (ep := 184) (hp := 383) hc (by decide) rfl (by decide +kernel) ⟨by decide, by decide⟩ hcell hv hcl ?_
      refine lv_astore (lv' := [(4, .ref _), (0, .ref _), (1, .int _), (2, .int _), (3, .int _)]) hx hb dL_call_383 hl (by decide) rfl (fun ls hl => ?_)
      refine lv_bipush (v := -103) hx hb dL_call_385 (by decide) ?_
      exact l_end hc hP hS hr dL_call_387 (Nat.le_of_ble_eq_true rfl) (Nat.le_of_ble_eq_true rfl) (congrArg (lres (wdo X 0 (X 0))) hE9).symm
  · intro r X2 H locs hp hP hS
    exact l_end hc hP hS hr dL_call_184 (Nat.le_of_ble_eq_true rfl) (Nat.le_of_ble_eq_true rfl) (congrArg (lres (wdo X 0 (X 0))) hp).symm
set_option maxHeartbeats 4000000 in
theorem lk_pay (hfl : l.stackTraces = false) (hI : ninj ad on) (hon0 : on 0) (hon1 : on 1) (hon2 : on 2) (hok : oOk (X 0)) (hd : vp_in (X 2 21 0 4) 513) {a9 b9 : Int32} : lM l D dA ad on yL_call cL_call 5 lhh [.ref (ad 2 20 0), .int 7, .int a9, .int b9] (wdo X 0 (X 0)) 6 (fun r X' => (r, X') = lres (wdo X 0 (X 0)) (nG (inB a9 (onp (X 0))) 2 (nG (decide (1 ≤ b9) && decide (b9 ≤ 1000)) 0 (nG (oOpen (X 0)) 1 (nG (!oGone (X 0) a9) 1 (.inr (nJ (X 0) 9 a9 b9 0 11 (nix a9) 3, nEv X (X 0) 9 a9 b9 0))))))) := by
  refine lM_of hI rfl (by decide +kernel) (Nat.le_of_ble_eq_true rfl) ?_
  intro p e s m args below meth cd ls hc hr hP hl hS
  have hx := hc.1.1
  have hb := hc.1.2.1
  have hl : lv_has ls 5 [(0, .ref (ad 2 20 0)), (1, .int 7), (2, .int a9), (3, .int b9)] := hl
  refine lv_iload_n hx hb dL_call_0 rfl (lv_at hl 1 rfl) ?_
  refine lv_tableIn (tgt := 185) (off := 184) hx hb dL_call_1 (by decide) (by decide) (by rfl) (by decide) ?_
  refine lv_aload_n hx hb dL_call_185 rfl (lv_at hl 0 rfl) ?_
  refine lv_iload_n hx hb dL_call_186 rfl (lv_at hl 2 rfl) ?_
  refine lv_iload_n hx hb dL_call_187 rfl (lv_at hl 3 rfl) ?_
  refine l_Xi (X := wdo X 0 (X 0)) (As := [.int a9, .int b9]) (rest := []) (c_X9_pay (S := X 0) (pp := a9) (a := b9) hfl hI hon0 hon1 hon2 hok hd) hc hP hS hl.1 (ngoodV q649 q650 q651 q1 q652) (b_rec hc.1 hP hon2) nok_X9_pay rfl ⟨(Nat.le_of_ble_eq_true rfl), (Nat.le_of_ble_eq_true rfl)⟩ ⟨(Nat.le_of_ble_eq_true rfl), (Nat.le_of_ble_eq_true rfl)⟩ dL_call_188 rfl (Nat.le_of_ble_eq_true rfl) ?_ ?_
  · intro k ce q9 H locs hE hP hS hcell hv hcl
    have hE9 : (nG (inB a9 (onp (X 0))) 2 (nG (decide (1 ≤ b9) && decide (b9 ≤ 1000)) 0 (nG (oOpen (X 0)) 1 (nG (!oGone (X 0) a9) 1 (.inr (nJ (X 0) 9 a9 b9 0 11 (nix a9) 3, nEv X (X 0) 9 a9 b9 0))))) : Nat ⊕ (Int32 × NWd)) = .inl k := hE
    have hks : k = 2 ∨ k = 0 ∨ k = 1 := by
      rcases nG_inl hE9 with h9 | h9
      · exact Or.inl h9
      · skip
        rcases nG_inl h9 with h9 | h9
        · exact Or.inr (Or.inl h9)
        · skip
          rcases nG_inl h9 with h9 | h9
          · exact Or.inr (Or.inr (h9))
          · skip
            rcases nG_inl h9 with h9 | h9
            · exact Or.inr (Or.inr (h9))
            · cases h9
    rcases hks with rfl | rfl | rfl
    · refine l_catch (k := 2) (i := 7) (sp := 185) (ep := 191) (hp := 373) hc (by decide) rfl (by decide +kernel) ⟨by decide, by decide⟩ hcell hv hcl ?_
      refine lv_astore (lv' := [(4, .ref _), (0, .ref _), (1, .int _), (2, .int _), (3, .int _)]) hx hb dL_call_373 hl (by decide) rfl (fun ls hl => ?_)
      refine lv_bipush (v := -101) hx hb dL_call_375 (by decide) ?_
      exact l_end hc hP hS hr dL_call_377 (Nat.le_of_ble_eq_true rfl) (Nat.le_of_ble_eq_true rfl) (congrArg (lres (wdo X 0 (X 0))) hE9).symm
    · refine l_catch (k := 0) (i := 39) (sp := 185) (ep := 191) (hp := 378) hc (by decide) rfl (by decide +kernel) ⟨by decide, by decide⟩ hcell hv hcl ?_
      refine lv_astore (lv' := [(4, .ref _), (0, .ref _), (1, .int _), (2, .int _), (3, .int _)]) hx hb dL_call_378 hl (by decide) rfl (fun ls hl => ?_)
      refine lv_bipush (v := -102) hx hb dL_call_380 (by decide) ?_
      exact l_end hc hP hS hr dL_call_382 (Nat.le_of_ble_eq_true rfl) (Nat.le_of_ble_eq_true rfl) (congrArg (lres (wdo X 0 (X 0))) hE9).symm
    · refine l_catch (k := 1) (i := 71) (sp := 185) (ep := 191) (hp := 383) hc (by decide) rfl (by decide +kernel) ⟨by decide, by decide⟩ hcell hv hcl ?_
      refine lv_astore (lv' := [(4, .ref _), (0, .ref _), (1, .int _), (2, .int _), (3, .int _)]) hx hb dL_call_383 hl (by decide) rfl (fun ls hl => ?_)
      refine lv_bipush (v := -103) hx hb dL_call_385 (by decide) ?_
      exact l_end hc hP hS hr dL_call_387 (Nat.le_of_ble_eq_true rfl) (Nat.le_of_ble_eq_true rfl) (congrArg (lres (wdo X 0 (X 0))) hE9).symm
  · intro r X2 H locs hp hP hS
    exact l_end hc hP hS hr dL_call_191 (Nat.le_of_ble_eq_true rfl) (Nat.le_of_ble_eq_true rfl) (congrArg (lres (wdo X 0 (X 0))) hp).symm
set_option maxHeartbeats 4000000 in
theorem lk_withdraw (hfl : l.stackTraces = false) (hI : ninj ad on) (hon0 : on 0) (hon1 : on 1) (hon2 : on 2) (hok : oOk (X 0)) (hd : vp_in (X 2 21 0 4) 513) {a9 b9 : Int32} : lM l D dA ad on yL_call cL_call 5 lhh [.ref (ad 2 20 0), .int 8, .int a9, .int b9] (wdo X 0 (X 0)) 6 (fun r X' => (r, X') = lres (wdo X 0 (X 0)) (nG (inB a9 (onp (X 0))) 2 (nG (!oGone (X 0) a9) 1 (nG (!oRej (X 0) a9) 1 (nG (oChg (X 0)) 1 (.inr (oOthers (nJ (X 0) 10 a9 0 0) a9 - oOthers (X 0) a9, nEv X (X 0) 10 a9 0 0))))))) := by
  refine lM_of hI rfl (by decide +kernel) (Nat.le_of_ble_eq_true rfl) ?_
  intro p e s m args below meth cd ls hc hr hP hl hS
  have hx := hc.1.1
  have hb := hc.1.2.1
  have hl : lv_has ls 5 [(0, .ref (ad 2 20 0)), (1, .int 8), (2, .int a9), (3, .int b9)] := hl
  refine lv_iload_n hx hb dL_call_0 rfl (lv_at hl 1 rfl) ?_
  refine lv_tableIn (tgt := 192) (off := 191) hx hb dL_call_1 (by decide) (by decide) (by rfl) (by decide) ?_
  refine lv_aload_n hx hb dL_call_192 rfl (lv_at hl 0 rfl) ?_
  refine lv_iload_n hx hb dL_call_193 rfl (lv_at hl 2 rfl) ?_
  refine l_Xi (X := wdo X 0 (X 0)) (As := [.int a9]) (rest := []) (c_X9_withdraw (S := X 0) (pp := a9) hfl hI hon0 hon1 hon2 hok hd) hc hP hS hl.1 (ngoodV q654 q655 q656 q1 q657) (b_rec hc.1 hP hon2) nok_X9_withdraw rfl ⟨(Nat.le_of_ble_eq_true rfl), (Nat.le_of_ble_eq_true rfl)⟩ ⟨(Nat.le_of_ble_eq_true rfl), (Nat.le_of_ble_eq_true rfl)⟩ dL_call_194 rfl (Nat.le_of_ble_eq_true rfl) ?_ ?_
  · intro k ce q9 H locs hE hP hS hcell hv hcl
    have hE9 : (nG (inB a9 (onp (X 0))) 2 (nG (!oGone (X 0) a9) 1 (nG (!oRej (X 0) a9) 1 (nG (oChg (X 0)) 1 (.inr (oOthers (nJ (X 0) 10 a9 0 0) a9 - oOthers (X 0) a9, nEv X (X 0) 10 a9 0 0))))) : Nat ⊕ (Int32 × NWd)) = .inl k := hE
    have hks : k = 2 ∨ k = 1 := by
      rcases nG_inl hE9 with h9 | h9
      · exact Or.inl h9
      · skip
        rcases nG_inl h9 with h9 | h9
        · exact Or.inr (h9)
        · skip
          rcases nG_inl h9 with h9 | h9
          · exact Or.inr (h9)
          · skip
            rcases nG_inl h9 with h9 | h9
            · exact Or.inr (h9)
            · cases h9
    rcases hks with rfl | rfl
    · refine l_catch (k := 2) (i := 8) (sp := 192) (ep := 197) (hp := 373) hc (by decide) rfl (by decide +kernel) ⟨by decide, by decide⟩ hcell hv hcl ?_
      refine lv_astore (lv' := [(4, .ref _), (0, .ref _), (1, .int _), (2, .int _), (3, .int _)]) hx hb dL_call_373 hl (by decide) rfl (fun ls hl => ?_)
      refine lv_bipush (v := -101) hx hb dL_call_375 (by decide) ?_
      exact l_end hc hP hS hr dL_call_377 (Nat.le_of_ble_eq_true rfl) (Nat.le_of_ble_eq_true rfl) (congrArg (lres (wdo X 0 (X 0))) hE9).symm
    · refine l_catch (k := 1) (i := 72) (sp := 192) (ep := 197) (hp := 383) hc (by decide) rfl (by decide +kernel) ⟨by decide, by decide⟩ hcell hv hcl ?_
      refine lv_astore (lv' := [(4, .ref _), (0, .ref _), (1, .int _), (2, .int _), (3, .int _)]) hx hb dL_call_383 hl (by decide) rfl (fun ls hl => ?_)
      refine lv_bipush (v := -103) hx hb dL_call_385 (by decide) ?_
      exact l_end hc hP hS hr dL_call_387 (Nat.le_of_ble_eq_true rfl) (Nat.le_of_ble_eq_true rfl) (congrArg (lres (wdo X 0 (X 0))) hE9).symm
  · intro r X2 H locs hp hP hS
    exact l_end hc hP hS hr dL_call_197 (Nat.le_of_ble_eq_true rfl) (Nat.le_of_ble_eq_true rfl) (congrArg (lres (wdo X 0 (X 0))) hp).symm
set_option maxHeartbeats 4000000 in
theorem lk_die (hfl : l.stackTraces = false) (hI : ninj ad on) (hon0 : on 0) (hon1 : on 1) (hon2 : on 2) (hok : oOk (X 0)) (hd : vp_in (X 2 21 0 4) 513) {a9 b9 : Int32} : lM l D dA ad on yL_call cL_call 5 lhh [.ref (ad 2 20 0), .int 9, .int a9, .int b9] (wdo X 0 (X 0)) 6 (fun r X' => (r, X') = lres (wdo X 0 (X 0)) (nG (inB a9 (onp (X 0))) 2 (nG (!oGone (X 0) a9) 1 (nG (!oRej (X 0) a9) 1 (nG (decide ((X 0) 11 (nix a9) 6 = 0)) 1 (nG (!oPoll (X 0)) 1 (.inr (nb (oRepl (nJ (X 0) 11 a9 0 0) a9), nEv X (X 0) 11 a9 0 0)))))))) := by
  refine lM_of hI rfl (by decide +kernel) (Nat.le_of_ble_eq_true rfl) ?_
  intro p e s m args below meth cd ls hc hr hP hl hS
  have hx := hc.1.1
  have hb := hc.1.2.1
  have hl : lv_has ls 5 [(0, .ref (ad 2 20 0)), (1, .int 9), (2, .int a9), (3, .int b9)] := hl
  refine lv_iload_n hx hb dL_call_0 rfl (lv_at hl 1 rfl) ?_
  refine lv_tableIn (tgt := 198) (off := 197) hx hb dL_call_1 (by decide) (by decide) (by rfl) (by decide) ?_
  refine lv_aload_n hx hb dL_call_198 rfl (lv_at hl 0 rfl) ?_
  refine lv_iload_n hx hb dL_call_199 rfl (lv_at hl 2 rfl) ?_
  refine l_Xi (X := wdo X 0 (X 0)) (As := [.int a9]) (rest := []) (c_X9_die (S := X 0) (pp := a9) hfl hI hon0 hon1 hon2 hok hd) hc hP hS hl.1 (ngoodV q676 q677 q678 q1 q679) (b_rec hc.1 hP hon2) nok_X9_die rfl ⟨(Nat.le_of_ble_eq_true rfl), (Nat.le_of_ble_eq_true rfl)⟩ ⟨(Nat.le_of_ble_eq_true rfl), (Nat.le_of_ble_eq_true rfl)⟩ dL_call_200 rfl (Nat.le_of_ble_eq_true rfl) ?_ ?_
  · intro k ce q9 H locs hE hP hS hcell hv hcl
    have hE9 : (nG (inB a9 (onp (X 0))) 2 (nG (!oGone (X 0) a9) 1 (nG (!oRej (X 0) a9) 1 (nG (decide ((X 0) 11 (nix a9) 6 = 0)) 1 (nG (!oPoll (X 0)) 1 (.inr (nb (oRepl (nJ (X 0) 11 a9 0 0) a9), nEv X (X 0) 11 a9 0 0)))))) : Nat ⊕ (Int32 × NWd)) = .inl k := hE
    have hks : k = 2 ∨ k = 1 := by
      rcases nG_inl hE9 with h9 | h9
      · exact Or.inl h9
      · skip
        rcases nG_inl h9 with h9 | h9
        · exact Or.inr (h9)
        · skip
          rcases nG_inl h9 with h9 | h9
          · exact Or.inr (h9)
          · skip
            rcases nG_inl h9 with h9 | h9
            · exact Or.inr (h9)
            · skip
              rcases nG_inl h9 with h9 | h9
              · exact Or.inr (h9)
              · cases h9
    rcases hks with rfl | rfl
    · refine l_catch (k := 2) (i := 9) (sp := 198) (ep := 211) (hp := 373) hc (by decide) rfl (by decide +kernel) ⟨by decide, by decide⟩ hcell hv hcl ?_
      refine lv_astore (lv' := [(4, .ref _), (0, .ref _), (1, .int _), (2, .int _), (3, .int _)]) hx hb dL_call_373 hl (by decide) rfl (fun ls hl => ?_)
      refine lv_bipush (v := -101) hx hb dL_call_375 (by decide) ?_
      exact l_end hc hP hS hr dL_call_377 (Nat.le_of_ble_eq_true rfl) (Nat.le_of_ble_eq_true rfl) (congrArg (lres (wdo X 0 (X 0))) hE9).symm
    · refine l_catch (k := 1) (i := 73) (sp := 198) (ep := 211) (hp := 383) hc (by decide) rfl (by decide +kernel) ⟨by decide, by decide⟩ hcell hv hcl ?_
      refine lv_astore (lv' := [(4, .ref _), (0, .ref _), (1, .int _), (2, .int _), (3, .int _)]) hx hb dL_call_383 hl (by decide) rfl (fun ls hl => ?_)
      refine lv_bipush (v := -103) hx hb dL_call_385 (by decide) ?_
      exact l_end hc hP hS hr dL_call_387 (Nat.le_of_ble_eq_true rfl) (Nat.le_of_ble_eq_true rfl) (congrArg (lres (wdo X 0 (X 0))) hE9).symm
  · intro r X2 H locs hp hP hS
    have h01 := (l01_nG (fun _ => (l01_nG (fun _ => (l01_nG (fun _ => (l01_nG (fun _ => (l01_nG (fun _ => l01_nb)))))))))) r X2 hp
    refine lv_if_eq (tgt := 210) hx hb dL_call_203 (by decide) (fun h0 => ?_) (fun h0 => ?_)
    · refine lv_iconst (v := 0) hx hb dL_call_210 (by decide) ?_
      subst h0
      exact l_end hc hP hS hr dL_call_211 (Nat.le_of_ble_eq_true rfl) (Nat.le_of_ble_eq_true rfl) (congrArg (lres (wdo X 0 (X 0))) hp).symm
    · refine lv_iconst (v := 1) hx hb dL_call_206 (by decide) ?_
      refine lv_goto (tgt := 211) hx hb dL_call_207 (by decide) ?_
      have h1 : r = 1 := h01.resolve_left h0
      subst h1
      exact l_end hc hP hS hr dL_call_211 (Nat.le_of_ble_eq_true rfl) (Nat.le_of_ble_eq_true rfl) (congrArg (lres (wdo X 0 (X 0))) hp).symm
set_option maxHeartbeats 4000000 in
theorem lk_isReplaceable (hfl : l.stackTraces = false) (hI : ninj ad on) (hon0 : on 0) (hon1 : on 1) (hon2 : on 2) (hok : oOk (X 0)) (hd : vp_in (X 2 21 0 4) 513) {a9 b9 : Int32} : lM l D dA ad on yL_call cL_call 5 lhh [.ref (ad 2 20 0), .int 10, .int a9, .int b9] (wdo X 0 (X 0)) 6 (fun r X' => (r, X') = lres (wdo X 0 (X 0)) (nG (inB a9 (onp (X 0))) 2 (.inr (nb (oRepl (X 0) a9), wdo X 0 (X 0))))) := by
  refine lM_of hI rfl (by decide +kernel) (Nat.le_of_ble_eq_true rfl) ?_
  intro p e s m args below meth cd ls hc hr hP hl hS
  have hx := hc.1.1
  have hb := hc.1.2.1
  have hl : lv_has ls 5 [(0, .ref (ad 2 20 0)), (1, .int 10), (2, .int a9), (3, .int b9)] := hl
  refine lv_iload_n hx hb dL_call_0 rfl (lv_at hl 1 rfl) ?_
  refine lv_tableIn (tgt := 212) (off := 211) hx hb dL_call_1 (by decide) (by decide) (by rfl) (by decide) ?_
  refine lv_aload_n hx hb dL_call_212 rfl (lv_at hl 0 rfl) ?_
  refine lv_iload_n hx hb dL_call_213 rfl (lv_at hl 2 rfl) ?_
  refine l_Xi (X := wdo X 0 (X 0)) (As := [.int a9]) (rest := []) (c_X9_isReplaceable (S := X 0) (pp := a9) hfl hI hon0 hon1 hon2 hok hd) hc hP hS hl.1 (ngoodV q692 q693 q694 q1 q695) (b_rec hc.1 hP hon2) nok_X9_isReplaceable rfl ⟨(Nat.le_of_ble_eq_true rfl), (Nat.le_of_ble_eq_true rfl)⟩ ⟨(Nat.le_of_ble_eq_true rfl), (Nat.le_of_ble_eq_true rfl)⟩ dL_call_214 rfl (Nat.le_of_ble_eq_true rfl) ?_ ?_
  · intro k ce q9 H locs hE hP hS hcell hv hcl
    have hE9 : (nG (inB a9 (onp (X 0))) 2 (.inr (nb (oRepl (X 0) a9), wdo X 0 (X 0))) : Nat ⊕ (Int32 × NWd)) = .inl k := hE
    have hks : k = 2 := by
      rcases nG_inl hE9 with h9 | h9
      · exact h9
      · cases h9
    rcases hks with rfl
    · refine l_catch (k := 2) (i := 10) (sp := 212) (ep := 225) (hp := 373) hc (by decide) rfl (by decide +kernel) ⟨by decide, by decide⟩ hcell hv hcl ?_
      refine lv_astore (lv' := [(4, .ref _), (0, .ref _), (1, .int _), (2, .int _), (3, .int _)]) hx hb dL_call_373 hl (by decide) rfl (fun ls hl => ?_)
      refine lv_bipush (v := -101) hx hb dL_call_375 (by decide) ?_
      exact l_end hc hP hS hr dL_call_377 (Nat.le_of_ble_eq_true rfl) (Nat.le_of_ble_eq_true rfl) (congrArg (lres (wdo X 0 (X 0))) hE9).symm
  · intro r X2 H locs hp hP hS
    have h01 := (l01_nG (fun _ => l01_nb)) r X2 hp
    refine lv_if_eq (tgt := 224) hx hb dL_call_217 (by decide) (fun h0 => ?_) (fun h0 => ?_)
    · refine lv_iconst (v := 0) hx hb dL_call_224 (by decide) ?_
      subst h0
      exact l_end hc hP hS hr dL_call_225 (Nat.le_of_ble_eq_true rfl) (Nat.le_of_ble_eq_true rfl) (congrArg (lres (wdo X 0 (X 0))) hp).symm
    · refine lv_iconst (v := 1) hx hb dL_call_220 (by decide) ?_
      refine lv_goto (tgt := 225) hx hb dL_call_221 (by decide) ?_
      have h1 : r = 1 := h01.resolve_left h0
      subst h1
      exact l_end hc hP hS hr dL_call_225 (Nat.le_of_ble_eq_true rfl) (Nat.le_of_ble_eq_true rfl) (congrArg (lres (wdo X 0 (X 0))) hp).symm
set_option maxHeartbeats 4000000 in
theorem lk_counted (hfl : l.stackTraces = false) (hI : ninj ad on) (hon0 : on 0) (hon1 : on 1) (hon2 : on 2) (hok : oOk (X 0)) (hd : vp_in (X 2 21 0 4) 513) {a9 b9 : Int32} : lM l D dA ad on yL_call cL_call 5 lhh [.ref (ad 2 20 0), .int 11, .int a9, .int b9] (wdo X 0 (X 0)) 6 (fun r X' => (r, X') = lres (wdo X 0 (X 0)) (nG (inB a9 (onp (X 0))) 2 (.inr ((X 0) 11 (nix a9) 8, wdo X 0 (X 0))))) := by
  refine lM_of hI rfl (by decide +kernel) (Nat.le_of_ble_eq_true rfl) ?_
  intro p e s m args below meth cd ls hc hr hP hl hS
  have hx := hc.1.1
  have hb := hc.1.2.1
  have hl : lv_has ls 5 [(0, .ref (ad 2 20 0)), (1, .int 11), (2, .int a9), (3, .int b9)] := hl
  refine lv_iload_n hx hb dL_call_0 rfl (lv_at hl 1 rfl) ?_
  refine lv_tableIn (tgt := 226) (off := 225) hx hb dL_call_1 (by decide) (by decide) (by rfl) (by decide) ?_
  refine lv_aload_n hx hb dL_call_226 rfl (lv_at hl 0 rfl) ?_
  refine lv_iload_n hx hb dL_call_227 rfl (lv_at hl 2 rfl) ?_
  refine l_Xi (X := wdo X 0 (X 0)) (As := [.int a9]) (rest := []) (c_X9_counted (S := X 0) (pp := a9) hfl hI hon0 hon1 hon2 hok hd) hc hP hS hl.1 (ngoodV q696 q697 q698 q1 q699) (b_rec hc.1 hP hon2) nok_X9_counted rfl ⟨(Nat.le_of_ble_eq_true rfl), (Nat.le_of_ble_eq_true rfl)⟩ ⟨(Nat.le_of_ble_eq_true rfl), (Nat.le_of_ble_eq_true rfl)⟩ dL_call_228 rfl (Nat.le_of_ble_eq_true rfl) ?_ ?_
  · intro k ce q9 H locs hE hP hS hcell hv hcl
    have hE9 : (nG (inB a9 (onp (X 0))) 2 (.inr ((X 0) 11 (nix a9) 8, wdo X 0 (X 0))) : Nat ⊕ (Int32 × NWd)) = .inl k := hE
    have hks : k = 2 := by
      rcases nG_inl hE9 with h9 | h9
      · exact h9
      · cases h9
    rcases hks with rfl
    · refine l_catch (k := 2) (i := 11) (sp := 226) (ep := 231) (hp := 373) hc (by decide) rfl (by decide +kernel) ⟨by decide, by decide⟩ hcell hv hcl ?_
      refine lv_astore (lv' := [(4, .ref _), (0, .ref _), (1, .int _), (2, .int _), (3, .int _)]) hx hb dL_call_373 hl (by decide) rfl (fun ls hl => ?_)
      refine lv_bipush (v := -101) hx hb dL_call_375 (by decide) ?_
      exact l_end hc hP hS hr dL_call_377 (Nat.le_of_ble_eq_true rfl) (Nat.le_of_ble_eq_true rfl) (congrArg (lres (wdo X 0 (X 0))) hE9).symm
  · intro r X2 H locs hp hP hS
    exact l_end hc hP hS hr dL_call_231 (Nat.le_of_ble_eq_true rfl) (Nat.le_of_ble_eq_true rfl) (congrArg (lres (wdo X 0 (X 0))) hp).symm
set_option maxHeartbeats 4000000 in
theorem lk_signatureResult (hfl : l.stackTraces = false) (hI : ninj ad on) (hon0 : on 0) (hon1 : on 1) (hon2 : on 2) (hok : oOk (X 0)) (hd : vp_in (X 2 21 0 4) 513) {a9 b9 : Int32} : lM l D dA ad on yL_call cL_call 5 lhh [.ref (ad 2 20 0), .int 12, .int a9, .int b9] (wdo X 0 (X 0)) 6 (fun r X' => (r, X') = lres (wdo X 0 (X 0)) (nG (decide (0 ≤ a9) && decide (a9 < (X 0) 0 0 7)) 2 (.inr ((X 0) 13 (nix a9) 4, wdo X 0 (X 0))))) := by
  refine lM_of hI rfl (by decide +kernel) (Nat.le_of_ble_eq_true rfl) ?_
  intro p e s m args below meth cd ls hc hr hP hl hS
  have hx := hc.1.1
  have hb := hc.1.2.1
  have hl : lv_has ls 5 [(0, .ref (ad 2 20 0)), (1, .int 12), (2, .int a9), (3, .int b9)] := hl
  refine lv_iload_n hx hb dL_call_0 rfl (lv_at hl 1 rfl) ?_
  refine lv_tableIn (tgt := 232) (off := 231) hx hb dL_call_1 (by decide) (by decide) (by rfl) (by decide) ?_
  refine lv_aload_n hx hb dL_call_232 rfl (lv_at hl 0 rfl) ?_
  refine lv_iload_n hx hb dL_call_233 rfl (lv_at hl 2 rfl) ?_
  refine l_Xi (X := wdo X 0 (X 0)) (As := [.int a9]) (rest := []) (c_X9_signatureResult (S := X 0) (q := a9) hfl hI hon0 hon1 hon2 hok hd) hc hP hS hl.1 (ngoodV q700 q701 q702 q1 q703) (b_rec hc.1 hP hon2) nok_X9_signatureResult rfl ⟨(Nat.le_of_ble_eq_true rfl), (Nat.le_of_ble_eq_true rfl)⟩ ⟨(Nat.le_of_ble_eq_true rfl), (Nat.le_of_ble_eq_true rfl)⟩ dL_call_234 rfl (Nat.le_of_ble_eq_true rfl) ?_ ?_
  · intro k ce q9 H locs hE hP hS hcell hv hcl
    have hE9 : (nG (decide (0 ≤ a9) && decide (a9 < (X 0) 0 0 7)) 2 (.inr ((X 0) 13 (nix a9) 4, wdo X 0 (X 0))) : Nat ⊕ (Int32 × NWd)) = .inl k := hE
    have hks : k = 2 := by
      rcases nG_inl hE9 with h9 | h9
      · exact h9
      · cases h9
    rcases hks with rfl
    · refine l_catch (k := 2) (i := 12) (sp := 232) (ep := 237) (hp := 373) hc (by decide) rfl (by decide +kernel) ⟨by decide, by decide⟩ hcell hv hcl ?_
      refine lv_astore (lv' := [(4, .ref _), (0, .ref _), (1, .int _), (2, .int _), (3, .int _)]) hx hb dL_call_373 hl (by decide) rfl (fun ls hl => ?_)
      refine lv_bipush (v := -101) hx hb dL_call_375 (by decide) ?_
      exact l_end hc hP hS hr dL_call_377 (Nat.le_of_ble_eq_true rfl) (Nat.le_of_ble_eq_true rfl) (congrArg (lres (wdo X 0 (X 0))) hE9).symm
  · intro r X2 H locs hp hP hS
    exact l_end hc hP hS hr dL_call_237 (Nat.le_of_ble_eq_true rfl) (Nat.le_of_ble_eq_true rfl) (congrArg (lres (wdo X 0 (X 0))) hp).symm
set_option maxHeartbeats 4000000 in
theorem lk0_signatureResult (hI : ninj ad on) (hon0 : on 0) (hon2 : on 2) (hok : oOk (X 0)) {a9 b9 : Int32} (h1 : 0 ≤ a9) (h2 : a9 < X 0 0 0 7) : lM l D dA ad on yL_call cL_call 5 lhh [.ref (ad 2 20 0), .int 12, .int a9, .int b9] (wdo X 0 (X 0)) 0 (fun r X' => r = X 0 13 (nix a9) 4 ∧ X' = wdo X 0 (X 0)) := by
  refine lM_of hI rfl (by decide +kernel) (Nat.le_of_ble_eq_true rfl) ?_
  intro p e s m args below meth cd ls hc hr hP hl hS
  have hx := hc.1.1
  have hb := hc.1.2.1
  have hl : lv_has ls 5 [(0, .ref (ad 2 20 0)), (1, .int 12), (2, .int a9), (3, .int b9)] := hl
  refine lv_iload_n hx hb dL_call_0 rfl (lv_at hl 1 rfl) ?_
  refine lv_tableIn (tgt := 232) (off := 231) hx hb dL_call_1 (by decide) (by decide) (by rfl) (by decide) ?_
  refine lv_aload_n hx hb dL_call_232 rfl (lv_at hl 0 rfl) ?_
  refine lv_iload_n hx hb dL_call_233 rfl (lv_at hl 2 rfl) ?_
  refine b_Mi (X := wdo X 0 (X 0)) (As := [.int a9]) (rest := []) (c_X9_signatureResult0 (S := X 0) (q := a9) hI hon0 hon2 hok h1 h2) hc.1 hP hS hl.1 (ngoodV q700 q701 q702 q1 q703) (b_rec hc.1 hP hon2) ⟨rfl, rfl⟩ nok_X9_signatureResult rfl ⟨(Nat.le_of_ble_eq_true rfl), (Nat.le_of_ble_eq_true rfl)⟩ ⟨(Nat.le_of_ble_eq_true rfl), (Nat.le_of_ble_eq_true rfl)⟩ dL_call_234 rfl (Nat.le_of_ble_eq_true rfl) ?_
  intro r X2 H locs hp hP hS
  exact l_end hc hP hS hr dL_call_237 (Nat.le_of_ble_eq_true rfl) (Nat.le_of_ble_eq_true rfl) hp
set_option maxHeartbeats 4000000 in
theorem lk_paperOf (hfl : l.stackTraces = false) (hI : ninj ad on) (hon0 : on 0) (hon1 : on 1) (hon2 : on 2) (hok : oOk (X 0)) (hd : vp_in (X 2 21 0 4) 513) {a9 b9 : Int32} : lM l D dA ad on yL_call cL_call 5 lhh [.ref (ad 2 20 0), .int 14, .int a9, .int b9] (wdo X 0 (X 0)) 6 (fun r X' => (r, X') = lres (wdo X 0 (X 0)) (nG (inB a9 (onv (X 0))) 2 (nG (!decide (oSup (X 0) a9 = -1)) 4 (.inr (oSup (X 0) a9, wdo X 0 (X 0)))))) := by
  refine lM_of hI rfl (by decide +kernel) (Nat.le_of_ble_eq_true rfl) ?_
  intro p e s m args below meth cd ls hc hr hP hl hS
  have hx := hc.1.1
  have hb := hc.1.2.1
  have hl : lv_has ls 5 [(0, .ref (ad 2 20 0)), (1, .int 14), (2, .int a9), (3, .int b9)] := hl
  refine lv_iload_n hx hb dL_call_0 rfl (lv_at hl 1 rfl) ?_
  refine lv_tableIn (tgt := 253) (off := 252) hx hb dL_call_1 (by decide) (by decide) (by rfl) (by decide) ?_
  refine lv_aload_n hx hb dL_call_253 rfl (lv_at hl 0 rfl) ?_
  refine lv_iload_n hx hb dL_call_254 rfl (lv_at hl 2 rfl) ?_
  refine l_Xi (X := wdo X 0 (X 0)) (As := [.int a9]) (rest := []) (c_X9_paperOf (S := X 0) (v := a9) hfl hI hon0 hon1 hon2 hok hd) hc hP hS hl.1 (ngoodV q713 q714 q715 q1 q716) (b_rec hc.1 hP hon2) nok_X9_paperOf rfl ⟨(Nat.le_of_ble_eq_true rfl), (Nat.le_of_ble_eq_true rfl)⟩ ⟨(Nat.le_of_ble_eq_true rfl), (Nat.le_of_ble_eq_true rfl)⟩ dL_call_255 rfl (Nat.le_of_ble_eq_true rfl) ?_ ?_
  · intro k ce q9 H locs hE hP hS hcell hv hcl
    have hE9 : (nG (inB a9 (onv (X 0))) 2 (nG (!decide (oSup (X 0) a9 = -1)) 4 (.inr (oSup (X 0) a9, wdo X 0 (X 0)))) : Nat ⊕ (Int32 × NWd)) = .inl k := hE
    have hks : k = 2 ∨ k = 4 := by
      rcases nG_inl hE9 with h9 | h9
      · exact Or.inl h9
      · skip
        rcases nG_inl h9 with h9 | h9
        · exact Or.inr (h9)
        · cases h9
    rcases hks with rfl | rfl
    · refine l_catch (k := 2) (i := 14) (sp := 253) (ep := 258) (hp := 373) hc (by decide) rfl (by decide +kernel) ⟨by decide, by decide⟩ hcell hv hcl ?_
      refine lv_astore (lv' := [(4, .ref _), (0, .ref _), (1, .int _), (2, .int _), (3, .int _)]) hx hb dL_call_373 hl (by decide) rfl (fun ls hl => ?_)
      refine lv_bipush (v := -101) hx hb dL_call_375 (by decide) ?_
      exact l_end hc hP hS hr dL_call_377 (Nat.le_of_ble_eq_true rfl) (Nat.le_of_ble_eq_true rfl) (congrArg (lres (wdo X 0 (X 0))) hE9).symm
    · refine l_catch (k := 4) (i := 142) (sp := 253) (ep := 258) (hp := 393) hc (by decide) rfl (by decide +kernel) ⟨by decide, by decide⟩ hcell hv hcl ?_
      refine lv_astore (lv' := [(4, .ref _), (0, .ref _), (1, .int _), (2, .int _), (3, .int _)]) hx hb dL_call_393 hl (by decide) rfl (fun ls hl => ?_)
      refine lv_bipush (v := -105) hx hb dL_call_395 (by decide) ?_
      exact l_end hc hP hS hr dL_call_397 (Nat.le_of_ble_eq_true rfl) (Nat.le_of_ble_eq_true rfl) (congrArg (lres (wdo X 0 (X 0))) hE9).symm
  · intro r X2 H locs hp hP hS
    exact l_end hc hP hS hr dL_call_258 (Nat.le_of_ble_eq_true rfl) (Nat.le_of_ble_eq_true rfl) (congrArg (lres (wdo X 0 (X 0))) hp).symm
set_option maxHeartbeats 4000000 in
theorem lk_reason (hfl : l.stackTraces = false) (hI : ninj ad on) (hon0 : on 0) (hon1 : on 1) (hon2 : on 2) (hok : oOk (X 0)) (hd : vp_in (X 2 21 0 4) 513) {a9 b9 : Int32} : lM l D dA ad on yL_call cL_call 5 lhh [.ref (ad 2 20 0), .int 17, .int a9, .int b9] (wdo X 0 (X 0)) 6 (fun r X' => (r, X') = lres (wdo X 0 (X 0)) (nG (inB a9 (onp (X 0))) 2 (.inr (oWhy (X 0) a9, wdo X 0 (X 0))))) := by
  refine lM_of hI rfl (by decide +kernel) (Nat.le_of_ble_eq_true rfl) ?_
  intro p e s m args below meth cd ls hc hr hP hl hS
  have hx := hc.1.1
  have hb := hc.1.2.1
  have hl : lv_has ls 5 [(0, .ref (ad 2 20 0)), (1, .int 17), (2, .int a9), (3, .int b9)] := hl
  refine lv_iload_n hx hb dL_call_0 rfl (lv_at hl 1 rfl) ?_
  refine lv_tableIn (tgt := 272) (off := 271) hx hb dL_call_1 (by decide) (by decide) (by rfl) (by decide) ?_
  refine lv_aload_n hx hb dL_call_272 rfl (lv_at hl 0 rfl) ?_
  refine lv_iload_n hx hb dL_call_273 rfl (lv_at hl 2 rfl) ?_
  refine l_Xi (X := wdo X 0 (X 0)) (As := [.int a9]) (rest := []) (c_X9_reason (S := X 0) (pp := a9) hfl hI hon0 hon1 hon2 hok hd) hc hP hS hl.1 (ngoodV q773 q774 q775 q1 q776) (b_rec hc.1 hP hon2) nok_X9_reason rfl ⟨(Nat.le_of_ble_eq_true rfl), (Nat.le_of_ble_eq_true rfl)⟩ ⟨(Nat.le_of_ble_eq_true rfl), (Nat.le_of_ble_eq_true rfl)⟩ dL_call_274 rfl (Nat.le_of_ble_eq_true rfl) ?_ ?_
  · intro k ce q9 H locs hE hP hS hcell hv hcl
    have hE9 : (nG (inB a9 (onp (X 0))) 2 (.inr (oWhy (X 0) a9, wdo X 0 (X 0))) : Nat ⊕ (Int32 × NWd)) = .inl k := hE
    have hks : k = 2 := by
      rcases nG_inl hE9 with h9 | h9
      · exact h9
      · cases h9
    rcases hks with rfl
    · refine l_catch (k := 2) (i := 17) (sp := 272) (ep := 277) (hp := 373) hc (by decide) rfl (by decide +kernel) ⟨by decide, by decide⟩ hcell hv hcl ?_
      refine lv_astore (lv' := [(4, .ref _), (0, .ref _), (1, .int _), (2, .int _), (3, .int _)]) hx hb dL_call_373 hl (by decide) rfl (fun ls hl => ?_)
      refine lv_bipush (v := -101) hx hb dL_call_375 (by decide) ?_
      exact l_end hc hP hS hr dL_call_377 (Nat.le_of_ble_eq_true rfl) (Nat.le_of_ble_eq_true rfl) (congrArg (lres (wdo X 0 (X 0))) hE9).symm
  · intro r X2 H locs hp hP hS
    exact l_end hc hP hS hr dL_call_277 (Nat.le_of_ble_eq_true rfl) (Nat.le_of_ble_eq_true rfl) (congrArg (lres (wdo X 0 (X 0))) hp).symm
set_option maxHeartbeats 4000000 in
theorem lk_reasonByReplay (hfl : l.stackTraces = false) (hI : ninj ad on) (hon0 : on 0) (hon1 : on 1) (hon2 : on 2) (hok : oOk (X 0)) (hd : vp_in (X 2 21 0 4) 513) {a9 b9 : Int32} (hrp : ∀ j, j < nix (X 2 21 0 4) → oOk (rpl (X 2) (X 1) j) ∧ oEv (rpl (X 2) (X 1) j) (X 2 22 0 j) (X 2 23 0 j) (X 2 24 0 j)) (hre : oOk (rpl (X 2) (X 1) (nix (X 2 21 0 4)))) : lM l D dA ad on yL_call cL_call 5 lhh [.ref (ad 2 20 0), .int 18, .int a9, .int b9] (wdo X 0 (X 0)) 6 (fun r X' => (r, X') = lres (wdo X 0 (X 0)) (nG (inB a9 (onp (X 0))) 2 (.inr (oWhy (oJudge (rpl (X 2) (X 1) (nix (X 2 21 0 4)))) a9, wdo (wdo X 0 (X 0)) 1 (oJudge (rpl (X 2) (X 1) (nix (X 2 21 0 4)))))))) := by
  refine lM_of hI rfl (by decide +kernel) (Nat.le_of_ble_eq_true rfl) ?_
  intro p e s m args below meth cd ls hc hr hP hl hS
  have hx := hc.1.1
  have hb := hc.1.2.1
  have hl : lv_has ls 5 [(0, .ref (ad 2 20 0)), (1, .int 18), (2, .int a9), (3, .int b9)] := hl
  refine lv_iload_n hx hb dL_call_0 rfl (lv_at hl 1 rfl) ?_
  refine lv_tableIn (tgt := 278) (off := 277) hx hb dL_call_1 (by decide) (by decide) (by rfl) (by decide) ?_
  refine lv_aload_n hx hb dL_call_278 rfl (lv_at hl 0 rfl) ?_
  refine lv_iload_n hx hb dL_call_279 rfl (lv_at hl 2 rfl) ?_
  refine l_Xi (X := wdo X 0 (X 0)) (As := [.int a9]) (rest := []) (c_X9_reasonByReplay (S := X 0) (pp := a9) hfl hI hon0 hon1 hon2 hok hd hrp hre) hc hP hS hl.1 (ngoodV q781 q782 q783 q1 q784) (b_rec hc.1 hP hon2) nok_X9_reasonByReplay rfl ⟨(Nat.le_of_ble_eq_true rfl), (Nat.le_of_ble_eq_true rfl)⟩ ⟨(Nat.le_of_ble_eq_true rfl), (Nat.le_of_ble_eq_true rfl)⟩ dL_call_280 rfl (Nat.le_of_ble_eq_true rfl) ?_ ?_
  · intro k ce q9 H locs hE hP hS hcell hv hcl
    have hE9 : (nG (inB a9 (onp (X 0))) 2 (.inr (oWhy (oJudge (rpl (X 2) (X 1) (nix (X 2 21 0 4)))) a9, wdo (wdo X 0 (X 0)) 1 (oJudge (rpl (X 2) (X 1) (nix (X 2 21 0 4)))))) : Nat ⊕ (Int32 × NWd)) = .inl k := hE
    have hks : k = 2 := by
      rcases nG_inl hE9 with h9 | h9
      · exact h9
      · cases h9
    rcases hks with rfl
    · refine l_catch (k := 2) (i := 18) (sp := 278) (ep := 283) (hp := 373) hc (by decide) rfl (by decide +kernel) ⟨by decide, by decide⟩ hcell hv hcl ?_
      refine lv_astore (lv' := [(4, .ref _), (0, .ref _), (1, .int _), (2, .int _), (3, .int _)]) hx hb dL_call_373 hl (by decide) rfl (fun ls hl => ?_)
      refine lv_bipush (v := -101) hx hb dL_call_375 (by decide) ?_
      exact l_end hc hP hS hr dL_call_377 (Nat.le_of_ble_eq_true rfl) (Nat.le_of_ble_eq_true rfl) (congrArg (lres (wdo X 0 (X 0))) hE9).symm
  · intro r X2 H locs hp hP hS
    exact l_end hc hP hS hr dL_call_283 (Nat.le_of_ble_eq_true rfl) (Nat.le_of_ble_eq_true rfl) (congrArg (lres (wdo X 0 (X 0))) hp).symm
set_option maxHeartbeats 4000000 in
theorem lk_ballotSize (hfl : l.stackTraces = false) (hI : ninj ad on) (hon0 : on 0) (hon1 : on 1) (hon2 : on 2) (hok : oOk (X 0)) (hd : vp_in (X 2 21 0 4) 513) {a9 b9 : Int32} : lM l D dA ad on yL_call cL_call 5 lhh [.ref (ad 2 20 0), .int 19, .int a9, .int b9] (wdo X 0 (X 0)) 6 (fun r X' => (r, X') = lres (wdo X 0 (X 0)) (nG (inB a9 (ona (X 0))) 2 (.inr (oStand (X 0) a9, wdo X 0 (X 0))))) := by
  refine lM_of hI rfl (by decide +kernel) (Nat.le_of_ble_eq_true rfl) ?_
  intro p e s m args below meth cd ls hc hr hP hl hS
  have hx := hc.1.1
  have hb := hc.1.2.1
  have hl : lv_has ls 5 [(0, .ref (ad 2 20 0)), (1, .int 19), (2, .int a9), (3, .int b9)] := hl
  refine lv_iload_n hx hb dL_call_0 rfl (lv_at hl 1 rfl) ?_
  refine lv_tableIn (tgt := 284) (off := 283) hx hb dL_call_1 (by decide) (by decide) (by rfl) (by decide) ?_
  refine lv_aload_n hx hb dL_call_284 rfl (lv_at hl 0 rfl) ?_
  refine lv_iload_n hx hb dL_call_285 rfl (lv_at hl 2 rfl) ?_
  refine l_Xi (X := wdo X 0 (X 0)) (As := [.int a9]) (rest := []) (c_X9_ballotSize (S := X 0) (a := a9) hfl hI hon0 hon1 hon2 hok hd) hc hP hS hl.1 (ngoodV q786 q787 q788 q1 q789) (b_rec hc.1 hP hon2) nok_X9_ballotSize rfl ⟨(Nat.le_of_ble_eq_true rfl), (Nat.le_of_ble_eq_true rfl)⟩ ⟨(Nat.le_of_ble_eq_true rfl), (Nat.le_of_ble_eq_true rfl)⟩ dL_call_286 rfl (Nat.le_of_ble_eq_true rfl) ?_ ?_
  · intro k ce q9 H locs hE hP hS hcell hv hcl
    have hE9 : (nG (inB a9 (ona (X 0))) 2 (.inr (oStand (X 0) a9, wdo X 0 (X 0))) : Nat ⊕ (Int32 × NWd)) = .inl k := hE
    have hks : k = 2 := by
      rcases nG_inl hE9 with h9 | h9
      · exact h9
      · cases h9
    rcases hks with rfl
    · refine l_catch (k := 2) (i := 19) (sp := 284) (ep := 289) (hp := 373) hc (by decide) rfl (by decide +kernel) ⟨by decide, by decide⟩ hcell hv hcl ?_
      refine lv_astore (lv' := [(4, .ref _), (0, .ref _), (1, .int _), (2, .int _), (3, .int _)]) hx hb dL_call_373 hl (by decide) rfl (fun ls hl => ?_)
      refine lv_bipush (v := -101) hx hb dL_call_375 (by decide) ?_
      exact l_end hc hP hS hr dL_call_377 (Nat.le_of_ble_eq_true rfl) (Nat.le_of_ble_eq_true rfl) (congrArg (lres (wdo X 0 (X 0))) hE9).symm
  · intro r X2 H locs hp hP hS
    exact l_end hc hP hS hr dL_call_289 (Nat.le_of_ble_eq_true rfl) (Nat.le_of_ble_eq_true rfl) (congrArg (lres (wdo X 0 (X 0))) hp).symm
set_option maxHeartbeats 4000000 in
theorem lk_addVotes (hfl : l.stackTraces = false) (hI : ninj ad on) (hon0 : on 0) (hon1 : on 1) (hon2 : on 2) (hok : oOk (X 0)) (hd : vp_in (X 2 21 0 4) 513) {a9 b9 : Int32} : lM l D dA ad on yL_call cL_call 5 lhh [.ref (ad 2 20 0), .int 23, .int a9, .int b9] (wdo X 0 (X 0)) 6 (fun r X' => (r, X') = lres (wdo X 0 (X 0)) (nG (inB a9 (onp (X 0))) 2 (nG (decide (1 ≤ b9) && decide (b9 ≤ 10000)) 0 (nG (decide (oWhy (X 0) a9 = 0)) 1 (nG (oPoll (X 0) && decide ((X 0) 4 (nix ((X 0) 11 (nix a9) 0)) 2 = 0)) 1 (.inr (nJ (X 0) 14 a9 b9 0 11 (nix a9) 4, nEv X (X 0) 14 a9 b9 0))))))) := by
  refine lM_of hI rfl (by decide +kernel) (Nat.le_of_ble_eq_true rfl) ?_
  intro p e s m args below meth cd ls hc hr hP hl hS
  have hx := hc.1.1
  have hb := hc.1.2.1
  have hl : lv_has ls 5 [(0, .ref (ad 2 20 0)), (1, .int 23), (2, .int a9), (3, .int b9)] := hl
  refine lv_iload_n hx hb dL_call_0 rfl (lv_at hl 1 rfl) ?_
  refine lv_tableIn (tgt := 309) (off := 308) hx hb dL_call_1 (by decide) (by decide) (by rfl) (by decide) ?_
  refine lv_aload_n hx hb dL_call_309 rfl (lv_at hl 0 rfl) ?_
  refine lv_iload_n hx hb dL_call_310 rfl (lv_at hl 2 rfl) ?_
  refine lv_iload_n hx hb dL_call_311 rfl (lv_at hl 3 rfl) ?_
  refine l_Xi (X := wdo X 0 (X 0)) (As := [.int a9, .int b9]) (rest := []) (c_X9_addVotes (S := X 0) (pp := a9) (a := b9) hfl hI hon0 hon1 hon2 hok hd) hc hP hS hl.1 (ngoodV q853 q854 q855 q1 q856) (b_rec hc.1 hP hon2) nok_X9_addVotes rfl ⟨(Nat.le_of_ble_eq_true rfl), (Nat.le_of_ble_eq_true rfl)⟩ ⟨(Nat.le_of_ble_eq_true rfl), (Nat.le_of_ble_eq_true rfl)⟩ dL_call_312 rfl (Nat.le_of_ble_eq_true rfl) ?_ ?_
  · intro k ce q9 H locs hE hP hS hcell hv hcl
    have hE9 : (nG (inB a9 (onp (X 0))) 2 (nG (decide (1 ≤ b9) && decide (b9 ≤ 10000)) 0 (nG (decide (oWhy (X 0) a9 = 0)) 1 (nG (oPoll (X 0) && decide ((X 0) 4 (nix ((X 0) 11 (nix a9) 0)) 2 = 0)) 1 (.inr (nJ (X 0) 14 a9 b9 0 11 (nix a9) 4, nEv X (X 0) 14 a9 b9 0))))) : Nat ⊕ (Int32 × NWd)) = .inl k := hE
    have hks : k = 2 ∨ k = 0 ∨ k = 1 := by
      rcases nG_inl hE9 with h9 | h9
      · exact Or.inl h9
      · skip
        rcases nG_inl h9 with h9 | h9
        · exact Or.inr (Or.inl h9)
        · skip
          rcases nG_inl h9 with h9 | h9
          · exact Or.inr (Or.inr (h9))
          · skip
            rcases nG_inl h9 with h9 | h9
            · exact Or.inr (Or.inr (h9))
            · cases h9
    rcases hks with rfl | rfl | rfl
    · refine l_catch (k := 2) (i := 23) (sp := 309) (ep := 315) (hp := 373) hc (by decide) rfl (by decide +kernel) ⟨by decide, by decide⟩ hcell hv hcl ?_
      refine lv_astore (lv' := [(4, .ref _), (0, .ref _), (1, .int _), (2, .int _), (3, .int _)]) hx hb dL_call_373 hl (by decide) rfl (fun ls hl => ?_)
      refine lv_bipush (v := -101) hx hb dL_call_375 (by decide) ?_
      exact l_end hc hP hS hr dL_call_377 (Nat.le_of_ble_eq_true rfl) (Nat.le_of_ble_eq_true rfl) (congrArg (lres (wdo X 0 (X 0))) hE9).symm
    · refine l_catch (k := 0) (i := 55) (sp := 309) (ep := 315) (hp := 378) hc (by decide) rfl (by decide +kernel) ⟨by decide, by decide⟩ hcell hv hcl ?_
      refine lv_astore (lv' := [(4, .ref _), (0, .ref _), (1, .int _), (2, .int _), (3, .int _)]) hx hb dL_call_378 hl (by decide) rfl (fun ls hl => ?_)
      refine lv_bipush (v := -102) hx hb dL_call_380 (by decide) ?_
      exact l_end hc hP hS hr dL_call_382 (Nat.le_of_ble_eq_true rfl) (Nat.le_of_ble_eq_true rfl) (congrArg (lres (wdo X 0 (X 0))) hE9).symm
    · refine l_catch (k := 1) (i := 87) (sp := 309) (ep := 315) (hp := 383) hc (by decide) rfl (by decide +kernel) ⟨by decide, by decide⟩ hcell hv hcl ?_
      refine lv_astore (lv' := [(4, .ref _), (0, .ref _), (1, .int _), (2, .int _), (3, .int _)]) hx hb dL_call_383 hl (by decide) rfl (fun ls hl => ?_)
      refine lv_bipush (v := -103) hx hb dL_call_385 (by decide) ?_
      exact l_end hc hP hS hr dL_call_387 (Nat.le_of_ble_eq_true rfl) (Nat.le_of_ble_eq_true rfl) (congrArg (lres (wdo X 0 (X 0))) hE9).symm
  · intro r X2 H locs hp hP hS
    exact l_end hc hP hS hr dL_call_315 (Nat.le_of_ble_eq_true rfl) (Nat.le_of_ble_eq_true rfl) (congrArg (lres (wdo X 0 (X 0))) hp).symm
set_option maxHeartbeats 4000000 in
theorem lk_finish (hfl : l.stackTraces = false) (hI : ninj ad on) (hon0 : on 0) (hon1 : on 1) (hon2 : on 2) (hok : oOk (X 0)) (hd : vp_in (X 2 21 0 4) 513) {a9 b9 : Int32} : lM l D dA ad on yL_call cL_call 5 lhh [.ref (ad 2 20 0), .int 24, .int a9, .int b9] (wdo X 0 (X 0)) 6 (fun r X' => (r, X') = lres (wdo X 0 (X 0)) (nG (inB a9 (ona (X 0))) 2 (nG (oPoll (X 0) && decide ((X 0) 4 (nix a9) 2 = 0)) 1 (.inr (oLostIn (nJ (X 0) 15 a9 0 0) a9, nEv X (X 0) 15 a9 0 0))))) := by
  refine lM_of hI rfl (by decide +kernel) (Nat.le_of_ble_eq_true rfl) ?_
  intro p e s m args below meth cd ls hc hr hP hl hS
  have hx := hc.1.1
  have hb := hc.1.2.1
  have hl : lv_has ls 5 [(0, .ref (ad 2 20 0)), (1, .int 24), (2, .int a9), (3, .int b9)] := hl
  refine lv_iload_n hx hb dL_call_0 rfl (lv_at hl 1 rfl) ?_
  refine lv_tableIn (tgt := 316) (off := 315) hx hb dL_call_1 (by decide) (by decide) (by rfl) (by decide) ?_
  refine lv_aload_n hx hb dL_call_316 rfl (lv_at hl 0 rfl) ?_
  refine lv_iload_n hx hb dL_call_317 rfl (lv_at hl 2 rfl) ?_
  refine l_Xi (X := wdo X 0 (X 0)) (As := [.int a9]) (rest := []) (c_X9_finish (S := X 0) (a := a9) hfl hI hon0 hon1 hon2 hok hd) hc hP hS hl.1 (ngoodV q864 q865 q866 q1 q867) (b_rec hc.1 hP hon2) nok_X9_finish rfl ⟨(Nat.le_of_ble_eq_true rfl), (Nat.le_of_ble_eq_true rfl)⟩ ⟨(Nat.le_of_ble_eq_true rfl), (Nat.le_of_ble_eq_true rfl)⟩ dL_call_318 rfl (Nat.le_of_ble_eq_true rfl) ?_ ?_
  · intro k ce q9 H locs hE hP hS hcell hv hcl
    have hE9 : (nG (inB a9 (ona (X 0))) 2 (nG (oPoll (X 0) && decide ((X 0) 4 (nix a9) 2 = 0)) 1 (.inr (oLostIn (nJ (X 0) 15 a9 0 0) a9, nEv X (X 0) 15 a9 0 0))) : Nat ⊕ (Int32 × NWd)) = .inl k := hE
    have hks : k = 2 ∨ k = 1 := by
      rcases nG_inl hE9 with h9 | h9
      · exact Or.inl h9
      · skip
        rcases nG_inl h9 with h9 | h9
        · exact Or.inr (h9)
        · cases h9
    rcases hks with rfl | rfl
    · refine l_catch (k := 2) (i := 24) (sp := 316) (ep := 321) (hp := 373) hc (by decide) rfl (by decide +kernel) ⟨by decide, by decide⟩ hcell hv hcl ?_
      refine lv_astore (lv' := [(4, .ref _), (0, .ref _), (1, .int _), (2, .int _), (3, .int _)]) hx hb dL_call_373 hl (by decide) rfl (fun ls hl => ?_)
      refine lv_bipush (v := -101) hx hb dL_call_375 (by decide) ?_
      exact l_end hc hP hS hr dL_call_377 (Nat.le_of_ble_eq_true rfl) (Nat.le_of_ble_eq_true rfl) (congrArg (lres (wdo X 0 (X 0))) hE9).symm
    · refine l_catch (k := 1) (i := 88) (sp := 316) (ep := 321) (hp := 383) hc (by decide) rfl (by decide +kernel) ⟨by decide, by decide⟩ hcell hv hcl ?_
      refine lv_astore (lv' := [(4, .ref _), (0, .ref _), (1, .int _), (2, .int _), (3, .int _)]) hx hb dL_call_383 hl (by decide) rfl (fun ls hl => ?_)
      refine lv_bipush (v := -103) hx hb dL_call_385 (by decide) ?_
      exact l_end hc hP hS hr dL_call_387 (Nat.le_of_ble_eq_true rfl) (Nat.le_of_ble_eq_true rfl) (congrArg (lres (wdo X 0 (X 0))) hE9).symm
  · intro r X2 H locs hp hP hS
    exact l_end hc hP hS hr dL_call_321 (Nat.le_of_ble_eq_true rfl) (Nat.le_of_ble_eq_true rfl) (congrArg (lres (wdo X 0 (X 0))) hp).symm
set_option maxHeartbeats 4000000 in
theorem lk_votes (hfl : l.stackTraces = false) (hI : ninj ad on) (hon0 : on 0) (hon1 : on 1) (hon2 : on 2) (hok : oOk (X 0)) (hd : vp_in (X 2 21 0 4) 513) {a9 b9 : Int32} : lM l D dA ad on yL_call cL_call 5 lhh [.ref (ad 2 20 0), .int 25, .int a9, .int b9] (wdo X 0 (X 0)) 6 (fun r X' => (r, X') = lres (wdo X 0 (X 0)) (nG (inB a9 (onp (X 0))) 2 (.inr ((X 0) 11 (nix a9) 4, wdo X 0 (X 0))))) := by
  refine lM_of hI rfl (by decide +kernel) (Nat.le_of_ble_eq_true rfl) ?_
  intro p e s m args below meth cd ls hc hr hP hl hS
  have hx := hc.1.1
  have hb := hc.1.2.1
  have hl : lv_has ls 5 [(0, .ref (ad 2 20 0)), (1, .int 25), (2, .int a9), (3, .int b9)] := hl
  refine lv_iload_n hx hb dL_call_0 rfl (lv_at hl 1 rfl) ?_
  refine lv_tableIn (tgt := 322) (off := 321) hx hb dL_call_1 (by decide) (by decide) (by rfl) (by decide) ?_
  refine lv_aload_n hx hb dL_call_322 rfl (lv_at hl 0 rfl) ?_
  refine lv_iload_n hx hb dL_call_323 rfl (lv_at hl 2 rfl) ?_
  refine l_Xi (X := wdo X 0 (X 0)) (As := [.int a9]) (rest := []) (c_X9_votes (S := X 0) (pp := a9) hfl hI hon0 hon1 hon2 hok hd) hc hP hS hl.1 (ngoodV q881 q882 q883 q1 q884) (b_rec hc.1 hP hon2) nok_X9_votes rfl ⟨(Nat.le_of_ble_eq_true rfl), (Nat.le_of_ble_eq_true rfl)⟩ ⟨(Nat.le_of_ble_eq_true rfl), (Nat.le_of_ble_eq_true rfl)⟩ dL_call_324 rfl (Nat.le_of_ble_eq_true rfl) ?_ ?_
  · intro k ce q9 H locs hE hP hS hcell hv hcl
    have hE9 : (nG (inB a9 (onp (X 0))) 2 (.inr ((X 0) 11 (nix a9) 4, wdo X 0 (X 0))) : Nat ⊕ (Int32 × NWd)) = .inl k := hE
    have hks : k = 2 := by
      rcases nG_inl hE9 with h9 | h9
      · exact h9
      · cases h9
    rcases hks with rfl
    · refine l_catch (k := 2) (i := 25) (sp := 322) (ep := 327) (hp := 373) hc (by decide) rfl (by decide +kernel) ⟨by decide, by decide⟩ hcell hv hcl ?_
      refine lv_astore (lv' := [(4, .ref _), (0, .ref _), (1, .int _), (2, .int _), (3, .int _)]) hx hb dL_call_373 hl (by decide) rfl (fun ls hl => ?_)
      refine lv_bipush (v := -101) hx hb dL_call_375 (by decide) ?_
      exact l_end hc hP hS hr dL_call_377 (Nat.le_of_ble_eq_true rfl) (Nat.le_of_ble_eq_true rfl) (congrArg (lres (wdo X 0 (X 0))) hE9).symm
  · intro r X2 H locs hp hP hS
    exact l_end hc hP hS hr dL_call_327 (Nat.le_of_ble_eq_true rfl) (Nat.le_of_ble_eq_true rfl) (congrArg (lres (wdo X 0 (X 0))) hp).symm
set_option maxHeartbeats 4000000 in
theorem lk_deposit (hfl : l.stackTraces = false) (hI : ninj ad on) (hon0 : on 0) (hon1 : on 1) (hon2 : on 2) (hok : oOk (X 0)) (hd : vp_in (X 2 21 0 4) 513) {a9 b9 : Int32} : lM l D dA ad on yL_call cL_call 5 lhh [.ref (ad 2 20 0), .int 27, .int a9, .int b9] (wdo X 0 (X 0)) 6 (fun r X' => (r, X') = lres (wdo X 0 (X 0)) (nG (inB a9 (onp (X 0))) 2 (.inr (oDep (X 0) a9, wdo X 0 (X 0))))) := by
  refine lM_of hI rfl (by decide +kernel) (Nat.le_of_ble_eq_true rfl) ?_
  intro p e s m args below meth cd ls hc hr hP hl hS
  have hx := hc.1.1
  have hb := hc.1.2.1
  have hl : lv_has ls 5 [(0, .ref (ad 2 20 0)), (1, .int 27), (2, .int a9), (3, .int b9)] := hl
  refine lv_iload_n hx hb dL_call_0 rfl (lv_at hl 1 rfl) ?_
  refine lv_tableIn (tgt := 334) (off := 333) hx hb dL_call_1 (by decide) (by decide) (by rfl) (by decide) ?_
  refine lv_aload_n hx hb dL_call_334 rfl (lv_at hl 0 rfl) ?_
  refine lv_iload_n hx hb dL_call_335 rfl (lv_at hl 2 rfl) ?_
  refine l_Xi (X := wdo X 0 (X 0)) (As := [.int a9]) (rest := []) (c_X9_deposit (S := X 0) (pp := a9) hfl hI hon0 hon1 hon2 hok hd) hc hP hS hl.1 (ngoodV q895 q896 q897 q1 q898) (b_rec hc.1 hP hon2) nok_X9_deposit rfl ⟨(Nat.le_of_ble_eq_true rfl), (Nat.le_of_ble_eq_true rfl)⟩ ⟨(Nat.le_of_ble_eq_true rfl), (Nat.le_of_ble_eq_true rfl)⟩ dL_call_336 rfl (Nat.le_of_ble_eq_true rfl) ?_ ?_
  · intro k ce q9 H locs hE hP hS hcell hv hcl
    have hE9 : (nG (inB a9 (onp (X 0))) 2 (.inr (oDep (X 0) a9, wdo X 0 (X 0))) : Nat ⊕ (Int32 × NWd)) = .inl k := hE
    have hks : k = 2 := by
      rcases nG_inl hE9 with h9 | h9
      · exact h9
      · cases h9
    rcases hks with rfl
    · refine l_catch (k := 2) (i := 27) (sp := 334) (ep := 339) (hp := 373) hc (by decide) rfl (by decide +kernel) ⟨by decide, by decide⟩ hcell hv hcl ?_
      refine lv_astore (lv' := [(4, .ref _), (0, .ref _), (1, .int _), (2, .int _), (3, .int _)]) hx hb dL_call_373 hl (by decide) rfl (fun ls hl => ?_)
      refine lv_bipush (v := -101) hx hb dL_call_375 (by decide) ?_
      exact l_end hc hP hS hr dL_call_377 (Nat.le_of_ble_eq_true rfl) (Nat.le_of_ble_eq_true rfl) (congrArg (lres (wdo X 0 (X 0))) hE9).symm
  · intro r X2 H locs hp hP hS
    exact l_end hc hP hS hr dL_call_339 (Nat.le_of_ble_eq_true rfl) (Nat.le_of_ble_eq_true rfl) (congrArg (lres (wdo X 0 (X 0))) hp).symm
set_option maxHeartbeats 4000000 in
theorem lk_paid (hfl : l.stackTraces = false) (hI : ninj ad on) (hon0 : on 0) (hon1 : on 1) (hon2 : on 2) (hok : oOk (X 0)) (hd : vp_in (X 2 21 0 4) 513) {a9 b9 : Int32} : lM l D dA ad on yL_call cL_call 5 lhh [.ref (ad 2 20 0), .int 28, .int a9, .int b9] (wdo X 0 (X 0)) 6 (fun r X' => (r, X') = lres (wdo X 0 (X 0)) (nG (inB a9 (onp (X 0))) 2 (.inr ((X 0) 11 (nix a9) 3, wdo X 0 (X 0))))) := by
  refine lM_of hI rfl (by decide +kernel) (Nat.le_of_ble_eq_true rfl) ?_
  intro p e s m args below meth cd ls hc hr hP hl hS
  have hx := hc.1.1
  have hb := hc.1.2.1
  have hl : lv_has ls 5 [(0, .ref (ad 2 20 0)), (1, .int 28), (2, .int a9), (3, .int b9)] := hl
  refine lv_iload_n hx hb dL_call_0 rfl (lv_at hl 1 rfl) ?_
  refine lv_tableIn (tgt := 340) (off := 339) hx hb dL_call_1 (by decide) (by decide) (by rfl) (by decide) ?_
  refine lv_aload_n hx hb dL_call_340 rfl (lv_at hl 0 rfl) ?_
  refine lv_iload_n hx hb dL_call_341 rfl (lv_at hl 2 rfl) ?_
  refine l_Xi (X := wdo X 0 (X 0)) (As := [.int a9]) (rest := []) (c_X9_paid (S := X 0) (pp := a9) hfl hI hon0 hon1 hon2 hok hd) hc hP hS hl.1 (ngoodV q900 q901 q902 q1 q903) (b_rec hc.1 hP hon2) nok_X9_paid rfl ⟨(Nat.le_of_ble_eq_true rfl), (Nat.le_of_ble_eq_true rfl)⟩ ⟨(Nat.le_of_ble_eq_true rfl), (Nat.le_of_ble_eq_true rfl)⟩ dL_call_342 rfl (Nat.le_of_ble_eq_true rfl) ?_ ?_
  · intro k ce q9 H locs hE hP hS hcell hv hcl
    have hE9 : (nG (inB a9 (onp (X 0))) 2 (.inr ((X 0) 11 (nix a9) 3, wdo X 0 (X 0))) : Nat ⊕ (Int32 × NWd)) = .inl k := hE
    have hks : k = 2 := by
      rcases nG_inl hE9 with h9 | h9
      · exact h9
      · cases h9
    rcases hks with rfl
    · refine l_catch (k := 2) (i := 28) (sp := 340) (ep := 345) (hp := 373) hc (by decide) rfl (by decide +kernel) ⟨by decide, by decide⟩ hcell hv hcl ?_
      refine lv_astore (lv' := [(4, .ref _), (0, .ref _), (1, .int _), (2, .int _), (3, .int _)]) hx hb dL_call_373 hl (by decide) rfl (fun ls hl => ?_)
      refine lv_bipush (v := -101) hx hb dL_call_375 (by decide) ?_
      exact l_end hc hP hS hr dL_call_377 (Nat.le_of_ble_eq_true rfl) (Nat.le_of_ble_eq_true rfl) (congrArg (lres (wdo X 0 (X 0))) hE9).symm
  · intro r X2 H locs hp hP hS
    exact l_end hc hP hS hr dL_call_345 (Nat.le_of_ble_eq_true rfl) (Nat.le_of_ble_eq_true rfl) (congrArg (lres (wdo X 0 (X 0))) hp).symm
set_option maxHeartbeats 4000000 in
theorem lk_areaOf (hfl : l.stackTraces = false) (hI : ninj ad on) (hon0 : on 0) (hon1 : on 1) (hon2 : on 2) (hok : oOk (X 0)) (hd : vp_in (X 2 21 0 4) 513) {a9 b9 : Int32} : lM l D dA ad on yL_call cL_call 5 lhh [.ref (ad 2 20 0), .int 29, .int a9, .int b9] (wdo X 0 (X 0)) 6 (fun r X' => (r, X') = lres (wdo X 0 (X 0)) (nG (inB a9 (onv (X 0))) 2 (.inr ((X 0) 6 (nix a9) 0, wdo X 0 (X 0))))) := by
  refine lM_of hI rfl (by decide +kernel) (Nat.le_of_ble_eq_true rfl) ?_
  intro p e s m args below meth cd ls hc hr hP hl hS
  have hx := hc.1.1
  have hb := hc.1.2.1
  have hl : lv_has ls 5 [(0, .ref (ad 2 20 0)), (1, .int 29), (2, .int a9), (3, .int b9)] := hl
  refine lv_iload_n hx hb dL_call_0 rfl (lv_at hl 1 rfl) ?_
  refine lv_tableIn (tgt := 346) (off := 345) hx hb dL_call_1 (by decide) (by decide) (by rfl) (by decide) ?_
  refine lv_aload_n hx hb dL_call_346 rfl (lv_at hl 0 rfl) ?_
  refine lv_iload_n hx hb dL_call_347 rfl (lv_at hl 2 rfl) ?_
  refine l_Xi (X := wdo X 0 (X 0)) (As := [.int a9]) (rest := []) (c_X9_areaOf (S := X 0) (v := a9) hfl hI hon0 hon1 hon2 hok hd) hc hP hS hl.1 (ngoodV q904 q905 q906 q1 q907) (b_rec hc.1 hP hon2) nok_X9_areaOf rfl ⟨(Nat.le_of_ble_eq_true rfl), (Nat.le_of_ble_eq_true rfl)⟩ ⟨(Nat.le_of_ble_eq_true rfl), (Nat.le_of_ble_eq_true rfl)⟩ dL_call_348 rfl (Nat.le_of_ble_eq_true rfl) ?_ ?_
  · intro k ce q9 H locs hE hP hS hcell hv hcl
    have hE9 : (nG (inB a9 (onv (X 0))) 2 (.inr ((X 0) 6 (nix a9) 0, wdo X 0 (X 0))) : Nat ⊕ (Int32 × NWd)) = .inl k := hE
    have hks : k = 2 := by
      rcases nG_inl hE9 with h9 | h9
      · exact h9
      · cases h9
    rcases hks with rfl
    · refine l_catch (k := 2) (i := 29) (sp := 346) (ep := 351) (hp := 373) hc (by decide) rfl (by decide +kernel) ⟨by decide, by decide⟩ hcell hv hcl ?_
      refine lv_astore (lv' := [(4, .ref _), (0, .ref _), (1, .int _), (2, .int _), (3, .int _)]) hx hb dL_call_373 hl (by decide) rfl (fun ls hl => ?_)
      refine lv_bipush (v := -101) hx hb dL_call_375 (by decide) ?_
      exact l_end hc hP hS hr dL_call_377 (Nat.le_of_ble_eq_true rfl) (Nat.le_of_ble_eq_true rfl) (congrArg (lres (wdo X 0 (X 0))) hE9).symm
  · intro r X2 H locs hp hP hS
    exact l_end hc hP hS hr dL_call_351 (Nat.le_of_ble_eq_true rfl) (Nat.le_of_ble_eq_true rfl) (congrArg (lres (wdo X 0 (X 0))) hp).symm
set_option maxHeartbeats 4000000 in
theorem lk_isOnRoll (hfl : l.stackTraces = false) (hI : ninj ad on) (hon0 : on 0) (hon1 : on 1) (hon2 : on 2) (hok : oOk (X 0)) (hd : vp_in (X 2 21 0 4) 513) {a9 b9 : Int32} (h01 : vp_in a9 (onv (X 0)) → (X 0) 6 (nix a9) 1 = 0 ∨ (X 0) 6 (nix a9) 1 = 1) : lM l D dA ad on yL_call cL_call 5 lhh [.ref (ad 2 20 0), .int 30, .int a9, .int b9] (wdo X 0 (X 0)) 6 (fun r X' => (r, X') = lres (wdo X 0 (X 0)) (nG (inB a9 (onv (X 0))) 2 (.inr ((X 0) 6 (nix a9) 1, wdo X 0 (X 0))))) := by
  refine lM_of hI rfl (by decide +kernel) (Nat.le_of_ble_eq_true rfl) ?_
  intro p e s m args below meth cd ls hc hr hP hl hS
  have hx := hc.1.1
  have hb := hc.1.2.1
  have hl : lv_has ls 5 [(0, .ref (ad 2 20 0)), (1, .int 30), (2, .int a9), (3, .int b9)] := hl
  refine lv_iload_n hx hb dL_call_0 rfl (lv_at hl 1 rfl) ?_
  refine lv_tableIn (tgt := 352) (off := 351) hx hb dL_call_1 (by decide) (by decide) (by rfl) (by decide) ?_
  refine lv_aload_n hx hb dL_call_352 rfl (lv_at hl 0 rfl) ?_
  refine lv_iload_n hx hb dL_call_353 rfl (lv_at hl 2 rfl) ?_
  refine l_Xi (X := wdo X 0 (X 0)) (As := [.int a9]) (rest := []) (c_X9_isOnRoll (S := X 0) (v := a9) hfl hI hon0 hon1 hon2 hok hd h01) hc hP hS hl.1 (ngoodV q908 q909 q910 q1 q911) (b_rec hc.1 hP hon2) nok_X9_isOnRoll rfl ⟨(Nat.le_of_ble_eq_true rfl), (Nat.le_of_ble_eq_true rfl)⟩ ⟨(Nat.le_of_ble_eq_true rfl), (Nat.le_of_ble_eq_true rfl)⟩ dL_call_354 rfl (Nat.le_of_ble_eq_true rfl) ?_ ?_
  · intro k ce q9 H locs hE hP hS hcell hv hcl
    have hE9 : (nG (inB a9 (onv (X 0))) 2 (.inr ((X 0) 6 (nix a9) 1, wdo X 0 (X 0))) : Nat ⊕ (Int32 × NWd)) = .inl k := hE
    have hks : k = 2 := by
      rcases nG_inl hE9 with h9 | h9
      · exact h9
      · cases h9
    rcases hks with rfl
    · refine l_catch (k := 2) (i := 30) (sp := 352) (ep := 365) (hp := 373) hc (by decide) rfl (by decide +kernel) ⟨by decide, by decide⟩ hcell hv hcl ?_
      refine lv_astore (lv' := [(4, .ref _), (0, .ref _), (1, .int _), (2, .int _), (3, .int _)]) hx hb dL_call_373 hl (by decide) rfl (fun ls hl => ?_)
      refine lv_bipush (v := -101) hx hb dL_call_375 (by decide) ?_
      exact l_end hc hP hS hr dL_call_377 (Nat.le_of_ble_eq_true rfl) (Nat.le_of_ble_eq_true rfl) (congrArg (lres (wdo X 0 (X 0))) hE9).symm
  · intro r X2 H locs hp hP hS
    have h01 := (l01_nG (fun hg => l01_v (h01 (inB_t.mp hg)))) r X2 hp
    refine lv_if_eq (tgt := 364) hx hb dL_call_357 (by decide) (fun h0 => ?_) (fun h0 => ?_)
    · refine lv_iconst (v := 0) hx hb dL_call_364 (by decide) ?_
      subst h0
      exact l_end hc hP hS hr dL_call_365 (Nat.le_of_ble_eq_true rfl) (Nat.le_of_ble_eq_true rfl) (congrArg (lres (wdo X 0 (X 0))) hp).symm
    · refine lv_iconst (v := 1) hx hb dL_call_360 (by decide) ?_
      refine lv_goto (tgt := 365) hx hb dL_call_361 (by decide) ?_
      have h1 : r = 1 := h01.resolve_left h0
      subst h1
      exact l_end hc hP hS hr dL_call_365 (Nat.le_of_ble_eq_true rfl) (Nat.le_of_ble_eq_true rfl) (congrArg (lres (wdo X 0 (X 0))) hp).symm
set_option maxHeartbeats 4000000 in
theorem lk_surname (hfl : l.stackTraces = false) (hI : ninj ad on) (hon0 : on 0) (hon1 : on 1) (hon2 : on 2) (hok : oOk (X 0)) (hd : vp_in (X 2 21 0 4) 513) {a9 b9 : Int32} : lM l D dA ad on yL_call cL_call 5 lhh [.ref (ad 2 20 0), .int 31, .int a9, .int b9] (wdo X 0 (X 0)) 6 (fun r X' => (r, X') = lres (wdo X 0 (X 0)) (nG (inB a9 (onp (X 0))) 2 (nG (decide (0 ≤ b9) && decide (b9 < 4)) 2 (.inr (cChar ((X 0) 11 (nix a9) 2) b9, wdo X 0 (X 0)))))) := by
  refine lM_of hI rfl (by decide +kernel) (Nat.le_of_ble_eq_true rfl) ?_
  intro p e s m args below meth cd ls hc hr hP hl hS
  have hx := hc.1.1
  have hb := hc.1.2.1
  have hl : lv_has ls 5 [(0, .ref (ad 2 20 0)), (1, .int 31), (2, .int a9), (3, .int b9)] := hl
  refine lv_iload_n hx hb dL_call_0 rfl (lv_at hl 1 rfl) ?_
  refine lv_tableOut (tgt := 366) hx hb dL_call_1 (Or.inr (by decide)) (by decide) ?_
  refine lv_aload_n hx hb dL_call_366 rfl (lv_at hl 0 rfl) ?_
  refine lv_iload_n hx hb dL_call_367 rfl (lv_at hl 2 rfl) ?_
  refine lv_iload_n hx hb dL_call_368 rfl (lv_at hl 3 rfl) ?_
  refine l_Xi (X := wdo X 0 (X 0)) (As := [.int a9, .int b9]) (rest := []) (c_X9_surname (S := X 0) (pp := a9) (q := b9) hfl hI hon0 hon1 hon2 hok hd) hc hP hS hl.1 (ngoodV q912 q913 q914 q1 q915) (b_rec hc.1 hP hon2) nok_X9_surname rfl ⟨(Nat.le_of_ble_eq_true rfl), (Nat.le_of_ble_eq_true rfl)⟩ ⟨(Nat.le_of_ble_eq_true rfl), (Nat.le_of_ble_eq_true rfl)⟩ dL_call_369 rfl (Nat.le_of_ble_eq_true rfl) ?_ ?_
  · intro k ce q9 H locs hE hP hS hcell hv hcl
    have hE9 : (nG (inB a9 (onp (X 0))) 2 (nG (decide (0 ≤ b9) && decide (b9 < 4)) 2 (.inr (cChar ((X 0) 11 (nix a9) 2) b9, wdo X 0 (X 0)))) : Nat ⊕ (Int32 × NWd)) = .inl k := hE
    have hks : k = 2 := by
      rcases nG_inl hE9 with h9 | h9
      · exact h9
      · skip
        rcases nG_inl h9 with h9 | h9
        · exact h9
        · cases h9
    rcases hks with rfl
    · refine l_catch (k := 2) (i := 31) (sp := 366) (ep := 372) (hp := 373) hc (by decide) rfl (by decide +kernel) ⟨by decide, by decide⟩ hcell hv hcl ?_
      refine lv_astore (lv' := [(4, .ref _), (0, .ref _), (1, .int _), (2, .int _), (3, .int _)]) hx hb dL_call_373 hl (by decide) rfl (fun ls hl => ?_)
      refine lv_bipush (v := -101) hx hb dL_call_375 (by decide) ?_
      exact l_end hc hP hS hr dL_call_377 (Nat.le_of_ble_eq_true rfl) (Nat.le_of_ble_eq_true rfl) (congrArg (lres (wdo X 0 (X 0))) hE9).symm
  · intro r X2 H locs hp hP hS
    exact l_end hc hP hS hr dL_call_372 (Nat.le_of_ble_eq_true rfl) (Nat.le_of_ble_eq_true rfl) (congrArg (lres (wdo X 0 (X 0))) hp).symm
end LM
