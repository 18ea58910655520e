/-! The law's first steps: an office, two areas, the voters. -/
/-- the office before the first paper -/
def lI0 (X : NWd) (na nv e : Nat) : Prop := lInv X na nv e ∧ X 0 1 0 0 = 0 ∧ ons (X 0) = 0
theorem lX0_inv : lI0 lX0 0 0 0 := by
  refine ⟨⟨⟨mS0, 0, start_inv rfl rfl, Nat.le_refl _⟩, ?_, ?_, ?_, rfl, rfl, rfl⟩, rfl, rfl⟩
  · intro a b hab hb
    exact absurd hb (Nat.not_lt_zero b)
  · intro i
    exact ⟨⟨0, Nat.zero_le _, rfl⟩, ⟨0, Nat.zero_le _, rfl⟩, 0, Nat.zero_le _, rfl⟩
  · intro i
    show ¬ (0 : Int32) < 0
    decide
section AR
variable {X X' : NWd} {na nv e : Nat} {a9 b9 r : Int32}
theorem lI0_opn {S : NSt} (h0 : S 1 0 0 = 0) (h1 : S 1 0 1 = 20) : oOpen S = true := by
  unfold oOpen
  rw [h0, h1]; decide
theorem lI0_area (h : lI0 X na nv e) (he : e < 500) (hna : na < 5) (ha : (decide (1 ≤ a9) && decide (a9 ≤ 10) && decide (0 ≤ b9) && decide (b9 ≤ 1000)) = true) (hr : (r, X') = lres (wdo X 0 (X 0)) (nG (decide (1 ≤ a9) && decide (a9 ≤ 10) && decide (0 ≤ b9) && decide (b9 ≤ 1000)) 0 (nG (decide ((X 0) 2 0 2 < 5)) 1 (.inr (nJ (X 0) 2 a9 b9 0 2 0 2 - 1, nEv X (X 0) 2 a9 b9 0))))) : r = nI na ∧ lI0 X' (na + 1) nv (e + 1) := by
  obtain ⟨hV, hd0, hn0⟩ := h
  obtain ⟨M, n, hI, hn⟩ := hV.i
  have hna9 : X 0 2 0 2 = nI na := by rw [hI.oOk.na, hV.ena]
  have g2 : decide (X 0 2 0 2 < 5) = true := by rw [hna9]; exact decide_eq_true ((nI_ltI (b := 5) (by omega) (by decide)).mpr hna)
  have hG : (nG (decide (1 ≤ a9) && decide (a9 ≤ 10) && decide (0 ≤ b9) && decide (b9 ≤ 1000)) 0 (nG (decide ((X 0) 2 0 2 < 5)) 1 (.inr (nJ (X 0) 2 a9 b9 0 2 0 2 - 1, nEv X (X 0) 2 a9 b9 0))) : Nat ⊕ (Int32 × NWd)) = .inr (nJ (X 0) 2 a9 b9 0 2 0 2 - 1, nEv X (X 0) 2 a9 b9 0) := by rw [nG_t ha, nG_t g2]
  obtain ⟨-, -, n', hn', hI'⟩ := (sim_addArea (hc := fun k => if k = 0 then 1 else 2) (a := a9) (b := b9) hI rfl (by omega) rfl rfl).2 _ _ hG
  rw [hG] at hr
  have hr9 : (r, X') = (nJ (X 0) 2 a9 b9 0 2 0 2 - 1, nEv X (X 0) 2 a9 b9 0) := hr
  have hr1 : r = nJ (X 0) 2 a9 b9 0 2 0 2 - 1 := congrArg Prod.fst hr9
  have hX : X' = nEv X (X 0) 2 a9 b9 0 := congrArg Prod.snd hr9
  subst hX
  have hs := oJudge_same (oHap (X 0) 2 a9 b9 0)
  have e2 : oHap (X 0) 2 a9 b9 0 2 0 2 = nI (na + 1) := by
    rw [hp2]; unfold rollArea; rw [nput_se, hna9, nI_1]
  have e3 : oHap (X 0) 2 a9 b9 0 2 0 3 = X 0 2 0 3 := by
    rw [hp2]; unfold rollArea areaBegin; rw [nput_nj (by decide), nput_nk (by decide), nput_nk (by decide), nput_nk (by decide)]
  have e1 : ∀ j, oHap (X 0) 2 a9 b9 0 1 0 j = X 0 1 0 j := by
    intro j
    rw [hp2]; unfold rollArea areaBegin; rw [nput_nk (by decide), nput_nk (by decide), nput_nk (by decide), nput_nk (by decide)]
  have e7 : oHap (X 0) 2 a9 b9 0 0 0 7 = X 0 0 0 7 := by
    rw [hp2]; unfold rollArea areaBegin; rw [nput_nk (by decide), nput_nk (by decide), nput_nk (by decide), nput_nk (by decide)]
  refine ⟨?_, hV.step hI' (by omega) (Or.inr (Or.inr (lI0_opn (by rw [e1]; exact hd0) (by rw [e1]; exact hV.cl)))) (Or.inr (Or.inl rfl)) (Or.inr (Or.inl rfl)) ?_ ?_ ?_, ?_, ?_⟩
  · rw [hr1]
    show oJudge (oHap (X 0) 2 a9 b9 0) 2 0 2 - 1 = _
    rw [hs 2 0 2 (by decide) (by decide), e2, nI_pred]
  · show nix (oHap (X 0) 2 a9 b9 0 2 0 2) = _
    rw [e2, nix_nI (by omega)]
  · rw [← hV.env]; show nix (oHap (X 0) 2 a9 b9 0 2 0 3) = _; rw [e3]; rfl
  · rw [e1]; exact hV.cl
  · rw [nEv0]; show oJudge (oHap (X 0) 2 a9 b9 0) 1 0 0 = _; rw [hs 1 0 0 (by decide) (by decide), e1]; exact hd0
  · rw [nEv0]; show nix (oJudge (oHap (X 0) 2 a9 b9 0) 0 0 7) = _; rw [hs 0 0 7 (by decide) (by decide), e7]; exact hn0
theorem lI0_voter (h : lI0 X na nv e) (he : e < 500) (hnv : nv < 40) (ha : inB a9 (ona (X 0)) = true) (hr : (r, X') = lres (wdo X 0 (X 0)) (nG (inB a9 (ona (X 0))) 2 (nG (decide ((X 0) 2 0 3 < 40)) 1 (.inr (nJ (X 0) 3 a9 0 0 2 0 3 - 1, nEv X (X 0) 3 a9 0 0))))) : r = nI nv ∧ lI0 X' na (nv + 1) (e + 1) := by
  obtain ⟨hV, hd0, hn0⟩ := h
  obtain ⟨M, n, hI, hn⟩ := hV.i
  have hnv9 : X 0 2 0 3 = nI nv := by rw [hI.oOk.nv, hV.env]
  have g2 : decide (X 0 2 0 3 < 40) = true := by rw [hnv9]; exact decide_eq_true ((nI_ltI (b := 40) (by omega) (by decide)).mpr hnv)
  have hG : (nG (inB a9 (ona (X 0))) 2 (nG (decide ((X 0) 2 0 3 < 40)) 1 (.inr (nJ (X 0) 3 a9 0 0 2 0 3 - 1, nEv X (X 0) 3 a9 0 0))) : Nat ⊕ (Int32 × NWd)) = .inr (nJ (X 0) 3 a9 0 0 2 0 3 - 1, nEv X (X 0) 3 a9 0 0) := by rw [nG_t ha, nG_t g2]
  obtain ⟨-, -, n', hn', hI'⟩ := (sim_addVoter (hc := fun k => if k = 2 then 1 else 2) (a := a9) hI rfl (by omega) rfl rfl).2 _ _ hG
  rw [hG] at hr
  have hr9 : (r, X') = (nJ (X 0) 3 a9 0 0 2 0 3 - 1, nEv X (X 0) 3 a9 0 0) := hr
  have hr1 : r = nJ (X 0) 3 a9 0 0 2 0 3 - 1 := congrArg Prod.fst hr9
  have hX : X' = nEv X (X 0) 3 a9 0 0 := congrArg Prod.snd hr9
  subst hX
  have hs := oJudge_same (oHap (X 0) 3 a9 0 0)
  have e3 : oHap (X 0) 3 a9 0 0 2 0 3 = nI (nv + 1) := by
    rw [hp3]; unfold rollVoter; rw [nput_se, hnv9, nI_1]
  have e2 : oHap (X 0) 3 a9 0 0 2 0 2 = X 0 2 0 2 := by
    rw [hp3]; unfold rollVoter voterBegin; rw [nput_nj (by decide), nput_nk (by decide), nput_nk (by decide), nput_nk (by decide)]
  have e1 : ∀ j, oHap (X 0) 3 a9 0 0 1 0 j = X 0 1 0 j := by
    intro j
    rw [hp3]; unfold rollVoter voterBegin; rw [nput_nk (by decide), nput_nk (by decide), nput_nk (by decide), nput_nk (by decide)]
  have e7 : oHap (X 0) 3 a9 0 0 0 0 7 = X 0 0 0 7 := by
    rw [hp3]; unfold rollVoter voterBegin; rw [nput_nk (by decide), nput_nk (by decide), nput_nk (by decide), nput_nk (by decide)]
  refine ⟨?_, hV.step hI' (by omega) (Or.inr (Or.inr (lI0_opn (by rw [e1]; exact hd0) (by rw [e1]; exact hV.cl)))) (Or.inr (Or.inr (Or.inl rfl))) (Or.inr (Or.inr (Or.inl ⟨rfl, fun z => (inB_t.mp ha) (Or.inl z)⟩))) ?_ ?_ ?_, ?_, ?_⟩
  · rw [hr1]
    show oJudge (oHap (X 0) 3 a9 0 0) 2 0 3 - 1 = _
    rw [hs 2 0 3 (by decide) (by decide), e3, nI_pred]
  · rw [← hV.ena]; show nix (oHap (X 0) 3 a9 0 0 2 0 2) = _; rw [e2]; rfl
  · show nix (oHap (X 0) 3 a9 0 0 2 0 3) = _
    rw [e3, nix_nI (by omega)]
  · rw [e1]; exact hV.cl
  · rw [nEv0]; show oJudge (oHap (X 0) 3 a9 0 0) 1 0 0 = _; rw [hs 1 0 0 (by decide) (by decide), e1]; exact hd0
  · rw [nEv0]; show nix (oJudge (oHap (X 0) 3 a9 0 0) 0 0 7) = _; rw [hs 0 0 7 (by decide) (by decide), e7]; exact hn0
end AR
section YS
variable {p : Program} {l : Launch} {e9 : Env} {s : State} {m : MethodId} {below : List Frame} {meth : Method} {c : Code} {Q : State → Prop} {b L : Nat} {xs : Nat → Int32} {D : va_G} {dA : Nat → ClassId} {ad : Nat → Nat → Nat → Nat} {on : Nat → Prop} {aP aS nv : Nat}
set_option maxHeartbeats 4000000 in
set_option maxRecDepth 100000 in
theorem y_131 (hG : yG p l s m meth c b L xs D dA ad on aP aS) (hnv : 0 < nv ∧ nv ≤ 40) (hend : ∀ (H : Heap) (locs : List Loc) (ls : Array Slot), va_S (yA s) s.heap H locs → W p l e9 room_1 s m #[Value.ref b] below meth c H locs 745879 6858280 Q (F0 m 905 ls [.int 1])) : ∀ (n j : Nat), n + j = nv → ∀ (X : NWd) (H : Heap) (locs : List Loc) (ls : Array Slot), lI0 X 2 j (2 + j) → npic D dA ad on X H → va_S (yA s) s.heap H locs → lAr D dA aP 150 (fun _ => 0) H → lAr D dA aS 150 (fun _ => 0) H → lv_has ls 14 [(5, .int (nI j)), (4, .int (nI nv)), (3, .ref aS), (2, .ref aP), (1, .ref (ad 2 20 0)), (0, .ref b)] → W p l e9 room_1 s m #[Value.ref b] below meth c H locs (600 + 6 * j) (7000 + 36 * j) Q (F0 m 131 ls []) := by
  have hG9 := hG
  obtain ⟨hc, hfl, hI, hon0, hon1, hon2, hA, ⟨hX9, hbl⟩, hL9, ⟨hp1, hp2⟩, ⟨hs1, hs2⟩, hps⟩ := hG
  have hx := hc.1
  have hb := hc.2.1
  intro n
  induction n with
  | zero =>
    intro j hj X H locs ls hI0 hP hS ha1 ha2 hl
    refine lv_iload hx hb dL_law_131 (lv_at hl 0 rfl) ?_
    refine lv_iload hx hb dL_law_133 (lv_at hl 1 rfl) ?_
    obtain rfl : nv = j := by omega
    refine lv_icmp_ge (tgt := 169) hx hb dL_law_135 (by decide) (fun _ => ?_) (fun z => absurd ((nI_leI (by omega) (by omega)).mpr (Nat.le_refl _)) z)
    refine lv_iconst (v := 0) hx hb dL_law_169 (by decide) ?_
    refine lv_istore (lv' := [(5, .int (nI 0)), (4, .int (nI nv)), (3, .ref aS), (2, .ref aP), (1, .ref (ad 2 20 0)), (0, .ref b)]) hx hb dL_law_170 hl (by decide) rfl (fun ls hl => ?_)
    exact W.widen (by omega) (by omega) (y_loop hG9 hnv hend 70 0 rfl X _ _ H locs ls ⟨hP, hS, hI0.1.mono (by omega), ha1, ha2, fun k hk => absurd hk (by rw [hI0.2.2]; exact Nat.not_lt_zero k)⟩ (lv_sub hl [0, 1, 2, 3, 4, 5] rfl))
  | succ n ih =>
    intro j hj X H locs ls hI0 hP hS ha1 ha2 hl
    refine lv_iload hx hb dL_law_131 (lv_at hl 0 rfl) ?_
    refine lv_iload hx hb dL_law_133 (lv_at hl 1 rfl) ?_
    refine lv_icmp_ge (tgt := 169) hx hb dL_law_135 (by decide) (fun z => absurd ((nI_leI (by omega) (by omega)).mp z) (by omega)) (fun _ => ?_)
    obtain ⟨hok, hd, h01⟩ := hI0.1.ok
    refine lv_aload_n hx hb dL_law_138 rfl (lv_at hl 4 rfl) ?_
    refine lv_iconst (v := 2) hx hb dL_law_139 (by decide) ?_
    refine lv_aload_n hx hb dL_law_140 rfl (lv_at hl 5 rfl) ?_
    refine lv_iconst (v := 3) hx hb dL_law_141 (by decide) ?_
    refine lv_iload hx hb dL_law_142 (lv_at hl 0 rfl) ?_
    refine lv_iadd hx hb dL_law_144 ?_
    rw [show (3 : Int32) + nI j = nI (3 + j) from by rw [show (3 : Int32) = nI 3 from rfl, nI_add]]
    refine b_cell hG9 (by omega) hP hS hl.1 ⟨(Nat.le_of_ble_eq_true rfl), (Nat.le_of_ble_eq_true rfl)⟩ ⟨by show _ ≤ 745879; omega, by show _ ≤ 6858280; omega⟩ dL_law_145 rfl (Nat.le_of_ble_eq_true rfl) ?_
    intro g9 H locs hP hk hS
    replace ha1 := ha1.kept hp1 hk
    replace ha2 := ha2.kept hs1 hk
    refine lv_iconst (v := 2) hx hb dL_law_148 (by decide) ?_
    refine b_S (c_low (X := X) hI (N := 2) (by decide) (by decide)) hc hA hP hS hl.1 gL_low ⟨rfl, rfl⟩ nok_L_low rfl ⟨(Nat.le_of_ble_eq_true rfl), (Nat.le_of_ble_eq_true rfl)⟩ ⟨by show _ ≤ 745879; omega, by show _ ≤ 6858280; omega⟩ dL_law_149 rfl (Nat.le_of_ble_eq_true rfl) ?_
    intro va X8 H locs hp hP hk hS
    obtain ⟨⟨a_va, b_va, c_va⟩, e8⟩ := hp
    rw [e8] at hP
    subst c_va
    replace ha1 := ha1.kept hp1 hk
    replace ha2 := ha2.kept hs1 hk
    refine lv_iconst (v := 0) hx hb dL_law_152 (by decide) ?_
    have hin : inB (nI a_va) (ona (X 0)) = true := inB_t.mpr (by rw [hI0.1.ena]; exact vp_in_nI b_va (by decide))
    refine b_L (lk_addVoter (X := X) hfl hI hon0 hon1 hon2 hok hd) hc hA (npic_eta hP) hS hl.1 gL_call nok_L_call rfl ⟨(Nat.le_of_ble_eq_true rfl), (Nat.le_of_ble_eq_true rfl)⟩ ⟨by show _ ≤ 745879; omega, by show _ ≤ 6858280; omega⟩ dL_law_153 rfl (Nat.le_of_ble_eq_true rfl) ?_
    intro r X2 H locs hp hP hk hS
    obtain ⟨hr9, hI2⟩ := lI0_voter hI0 (by omega) (by omega) hin hp
    replace ha1 := ha1.kept hp1 hk
    replace ha2 := ha2.kept hs1 hk
    subst hr9
    refine lv_iload hx hb dL_law_156 (lv_at hl 0 rfl) ?_
    refine lv_icmp_eq (tgt := 163) hx hb dL_law_158 (by decide) (fun _ => ?_) (fun z => absurd rfl z)
    refine lv_iinc (lv' := [(5, .int (nI (j + 1))), (4, .int (nI nv)), (3, .ref aS), (2, .ref aP), (1, .ref (ad 2 20 0)), (0, .ref b)]) (v := (nI (j + 1))) hx hb dL_law_163 hl (k := 0) rfl (by rw [show Int32.ofInt 1 = 1 from by decide, nI_1]) (by decide) rfl (fun ls hl => ?_)
    refine lv_goto (tgt := 131) hx hb dL_law_166 (by decide) ?_
    exact W.widen (by omega) (by omega) (ih (j + 1) (by omega) X2 H locs ls hI2 hP hS ha1 ha2 (lv_sub hl [0, 1, 2, 3, 4, 5] rfl))
set_option maxHeartbeats 4000000 in
set_option maxRecDepth 100000 in
theorem y_64 (hG : yG p l s m meth c b L xs D dA ad on aP aS) (hnv : 0 < nv ∧ nv ≤ 40) (hend : ∀ (H : Heap) (locs : List Loc) (ls : Array Slot), va_S (yA s) s.heap H locs → W p l e9 room_1 s m #[Value.ref b] below meth c H locs 745879 6858280 Q (F0 m 905 ls [.int 1])) {X : NWd} : ∀ (H : Heap) (locs : List Loc) (ls : Array Slot), lI0 X 1 0 1 → npic D dA ad on X H → va_S (yA s) s.heap H locs → lAr D dA aP 150 (fun _ => 0) H → lAr D dA aS 150 (fun _ => 0) H → lv_has ls 14 [(4, .int (nI nv)), (3, .ref aS), (2, .ref aP), (1, .ref (ad 2 20 0)), (0, .ref b)] → W p l e9 room_1 s m #[Value.ref b] below meth c H locs (450) (5300) Q (F0 m 64 ls []) := by
  have hG9 := hG
  obtain ⟨hc, hfl, hI, hon0, hon1, hon2, hA, ⟨hX9, hbl⟩, hL9, ⟨hp1, hp2⟩, ⟨hs1, hs2⟩, hps⟩ := hG
  have hx := hc.1
  have hb := hc.2.1
  intro H locs ls hI0 hP hS ha1 ha2 hl
  obtain ⟨hok, hd, h01⟩ := hI0.1.ok
  refine lv_aload_n hx hb dL_law_64 rfl (lv_at hl 3 rfl) ?_
  refine lv_iconst (v := 1) hx hb dL_law_65 (by decide) ?_
  refine lv_iconst (v := 1) hx hb dL_law_66 (by decide) ?_
  refine lv_iconst (v := 0) hx hb dL_law_67 (by decide) ?_
  refine b_L (lk_addArea (X := X) hfl hI hon0 hon1 hon2 hok hd) hc hA (npic_eta hP) hS hl.1 gL_call nok_L_call rfl ⟨(Nat.le_of_ble_eq_true rfl), (Nat.le_of_ble_eq_true rfl)⟩ ⟨by show _ ≤ 745879; omega, by show _ ≤ 6858280; omega⟩ dL_law_68 rfl (Nat.le_of_ble_eq_true rfl) ?_
  intro r X2 H locs hp hP hk hS
  obtain ⟨hr9, hI2⟩ := lI0_area hI0 (by decide) (by decide) (by decide) hp
  replace ha1 := ha1.kept hp1 hk
  replace ha2 := ha2.kept hs1 hk
  subst hr9
  clear hp hok hd h01 hI0
  obtain ⟨hok, hd, h01⟩ := hI2.1.ok
  refine lv_iconst (v := 1) hx hb dL_law_71 (by decide) ?_
  refine lv_icmp_ne (tgt := 126) hx hb dL_law_72 (by decide) (fun z => absurd rfl z) (fun _ => ?_)
  refine lv_aload_n hx hb dL_law_75 rfl (lv_at hl 3 rfl) ?_
  refine lv_iconst (v := 2) hx hb dL_law_76 (by decide) ?_
  refine lv_iconst (v := 2) hx hb dL_law_77 (by decide) ?_
  refine lv_iconst (v := 0) hx hb dL_law_78 (by decide) ?_
  refine b_L (lk_addVoter (X := X2) hfl hI hon0 hon1 hon2 hok hd) hc hA (npic_eta hP) hS hl.1 gL_call nok_L_call rfl ⟨(Nat.le_of_ble_eq_true rfl), (Nat.le_of_ble_eq_true rfl)⟩ ⟨by show _ ≤ 745879; omega, by show _ ≤ 6858280; omega⟩ dL_law_79 rfl (Nat.le_of_ble_eq_true rfl) ?_
  intro r X3 H locs hp hP hk hS
  have hp9 : (r, X3) = (-101, wdo X2 0 (X2 0)) := Eq.trans hp (by rw [nG_f (show inB 2 (ona (X2 0)) = false from by rw [hI2.1.ena]; decide)]; rfl)
  have hr9 : r = -101 := congrArg Prod.fst hp9
  have hX3 : X3 = wdo X2 0 (X2 0) := congrArg Prod.snd hp9
  clear hp hp9
  rw [hX3, wdo_eta] at hP
  subst hr9
  replace ha1 := ha1.kept hp1 hk
  replace ha2 := ha2.kept hs1 hk
  refine lv_bipush (v := -101) hx hb dL_law_82 (by decide) ?_
  refine lv_icmp_ne (tgt := 126) hx hb dL_law_84 (by decide) (fun z => absurd rfl z) (fun _ => ?_)
  refine lv_aload_n hx hb dL_law_87 rfl (lv_at hl 3 rfl) ?_
  refine lv_iconst (v := 0) hx hb dL_law_88 (by decide) ?_
  refine lv_bipush (v := 31) hx hb dL_law_89 (by decide) ?_
  refine lv_iconst (v := 0) hx hb dL_law_91 (by decide) ?_
  refine b_L (lk_pass (X := X2) hfl hI hon0 hon1 hon2 hok hd) hc hA (npic_eta hP) hS hl.1 gL_call nok_L_call rfl ⟨(Nat.le_of_ble_eq_true rfl), (Nat.le_of_ble_eq_true rfl)⟩ ⟨by show _ ≤ 745879; omega, by show _ ≤ 6858280; omega⟩ dL_law_92 rfl (Nat.le_of_ble_eq_true rfl) ?_
  intro r X3 H locs hp hP hk hS
  have hp9 : (r, X3) = (-102, wdo X2 0 (X2 0)) := Eq.trans hp (by rw [nG_f (by decide)]; rfl)
  have hr9 : r = -102 := congrArg Prod.fst hp9
  have hX3 : X3 = wdo X2 0 (X2 0) := congrArg Prod.snd hp9
  clear hp hp9
  rw [hX3, wdo_eta] at hP
  subst hr9
  replace ha1 := ha1.kept hp1 hk
  replace ha2 := ha2.kept hs1 hk
  refine lv_bipush (v := -102) hx hb dL_law_95 (by decide) ?_
  refine lv_icmp_ne (tgt := 126) hx hb dL_law_97 (by decide) (fun z => absurd rfl z) (fun _ => ?_)
  refine lv_aload_n hx hb dL_law_100 rfl (lv_at hl 3 rfl) ?_
  refine lv_iconst (v := 0) hx hb dL_law_101 (by decide) ?_
  refine lv_iconst (v := 0) hx hb dL_law_102 (by decide) ?_
  refine lv_iconst (v := 0) hx hb dL_law_103 (by decide) ?_
  refine b_L (lk_pass (X := X2) hfl hI hon0 hon1 hon2 hok hd) hc hA (npic_eta hP) hS hl.1 gL_call nok_L_call rfl ⟨(Nat.le_of_ble_eq_true rfl), (Nat.le_of_ble_eq_true rfl)⟩ ⟨by show _ ≤ 745879; omega, by show _ ≤ 6858280; omega⟩ dL_law_104 rfl (Nat.le_of_ble_eq_true rfl) ?_
  intro r X3 H locs hp hP hk hS
  have hp9 : (r, X3) = (-102, wdo X2 0 (X2 0)) := Eq.trans hp (by rw [nG_f (by decide)]; rfl)
  have hr9 : r = -102 := congrArg Prod.fst hp9
  have hX3 : X3 = wdo X2 0 (X2 0) := congrArg Prod.snd hp9
  clear hp hp9
  rw [hX3, wdo_eta] at hP
  subst hr9
  replace ha1 := ha1.kept hp1 hk
  replace ha2 := ha2.kept hs1 hk
  refine lv_bipush (v := -102) hx hb dL_law_107 (by decide) ?_
  refine lv_icmp_ne (tgt := 126) hx hb dL_law_109 (by decide) (fun z => absurd rfl z) (fun _ => ?_)
  refine lv_aload_n hx hb dL_law_112 rfl (lv_at hl 3 rfl) ?_
  refine bx (As := []) (c_X9_day (X := X2) (S := X2 0) hfl hI hon0 hon1 hon2 hok hd) hc hA hP hS hl.1 (ngoodV q323 q324 q325 q1 q326) (b_rec hc hP hon2) nok_X9_day rfl ⟨(Nat.le_of_ble_eq_true rfl), (Nat.le_of_ble_eq_true rfl)⟩ ⟨by show _ ≤ 745879; omega, by show _ ≤ 6858280; omega⟩ dL_law_113 rfl (Nat.le_of_ble_eq_true rfl) ?_
  intro H locs hP hk hS
  replace ha1 := ha1.kept hp1 hk
  replace ha2 := ha2.kept hs1 hk
  refine lv_if_ne (tgt := 126) hx hb dL_law_116 (by decide) (fun z => absurd hI2.2.1 z) (fun _ => ?_)
  refine lv_aload_n hx hb dL_law_119 rfl (lv_at hl 3 rfl) ?_
  refine bx (As := []) (c_X9_isOpen (X := X2) (S := X2 0) hfl hI hon0 hon1 hon2 hok hd) hc hA hP hS hl.1 (ngoodV q327 q328 q329 q1 q330) (b_rec hc hP hon2) nok_X9_isOpen rfl ⟨(Nat.le_of_ble_eq_true rfl), (Nat.le_of_ble_eq_true rfl)⟩ ⟨by show _ ≤ 745879; omega, by show _ ≤ 6858280; omega⟩ dL_law_120 rfl (Nat.le_of_ble_eq_true rfl) ?_
  intro H locs hP hk hS
  replace ha1 := ha1.kept hp1 hk
  replace ha2 := ha2.kept hs1 hk
  rw [lI0_opn hI2.2.1 hI2.1.cl]
  refine lv_if_ne (tgt := 128) hx hb dL_law_123 (by decide) (fun _ => ?_) (fun z => absurd z (by decide))
  refine lv_iconst (v := 0) hx hb dL_law_128 (by decide) ?_
  refine lv_istore (lv' := [(5, .int (nI 0)), (4, .int (nI nv)), (3, .ref aS), (2, .ref aP), (1, .ref (ad 2 20 0)), (0, .ref b)]) hx hb dL_law_129 hl (by decide) rfl (fun ls hl => ?_)
  exact W.widen (by omega) (by omega) (y_131 hG9 hnv hend nv 0 rfl X2 H locs ls hI2 hP hS ha1 ha2 hl)
set_option maxHeartbeats 4000000 in
set_option maxRecDepth 100000 in
theorem y_35 (hG : yG p l s m meth c b L xs D dA ad on aP aS) (hnv : 0 < nv ∧ nv ≤ 40) (hend : ∀ (H : Heap) (locs : List Loc) (ls : Array Slot), va_S (yA s) s.heap H locs → W p l e9 room_1 s m #[Value.ref b] below meth c H locs 745879 6858280 Q (F0 m 905 ls [.int 1])) {X : NWd} : ∀ (H : Heap) (locs : List Loc) (ls : Array Slot), lI0 X 0 0 0 → npic D dA ad on X H → va_S (yA s) s.heap H locs → lAr D dA aP 150 (fun _ => 0) H → lAr D dA aS 150 (fun _ => 0) H → lv_has ls 14 [(4, .int (nI nv)), (3, .ref aS), (2, .ref aP), (1, .ref (ad 2 20 0)), (0, .ref b)] → W p l e9 room_1 s m #[Value.ref b] below meth c H locs (444) (5224) Q (F0 m 35 ls []) := by
  have hG9 := hG
  obtain ⟨hc, hfl, hI, hon0, hon1, hon2, hA, ⟨hX9, hbl⟩, hL9, ⟨hp1, hp2⟩, ⟨hs1, hs2⟩, hps⟩ := hG
  have hx := hc.1
  have hb := hc.2.1
  intro H locs ls hI0 hP hS ha1 ha2 hl
  obtain ⟨hok, hd, h01⟩ := hI0.1.ok
  refine lv_aload_n hx hb dL_law_35 rfl (lv_at hl 3 rfl) ?_
  refine lv_iconst (v := 1) hx hb dL_law_36 (by decide) ?_
  refine lv_iconst (v := 1) hx hb dL_law_37 (by decide) ?_
  refine lv_aload_n hx hb dL_law_38 rfl (lv_at hl 4 rfl) ?_
  refine lv_iconst (v := 1) hx hb dL_law_39 (by decide) ?_
  refine b_cell (K := 1) hG9 (by decide) hP hS hl.1 ⟨(Nat.le_of_ble_eq_true rfl), (Nat.le_of_ble_eq_true rfl)⟩ ⟨by show _ ≤ 745879; omega, by show _ ≤ 6858280; omega⟩ dL_law_40 rfl (Nat.le_of_ble_eq_true rfl) ?_
  intro g1 H locs hP hk hS
  replace ha1 := ha1.kept hp1 hk
  replace ha2 := ha2.kept hs1 hk
  refine lv_iconst (v := 3) hx hb dL_law_43 (by decide) ?_
  refine b_S (c_low (X := X) hI (N := 3) (by decide) (by decide)) hc hA hP hS hl.1 gL_low ⟨rfl, rfl⟩ nok_L_low rfl ⟨(Nat.le_of_ble_eq_true rfl), (Nat.le_of_ble_eq_true rfl)⟩ ⟨by show _ ≤ 745879; omega, by show _ ≤ 6858280; omega⟩ dL_law_44 rfl (Nat.le_of_ble_eq_true rfl) ?_
  intro ra X8 H locs hp hP hk hS
  obtain ⟨⟨a_ra, b_ra, c_ra⟩, e8⟩ := hp
  rw [e8] at hP
  subst c_ra
  replace ha1 := ha1.kept hp1 hk
  replace ha2 := ha2.kept hs1 hk
  refine lv_iadd hx hb dL_law_47 ?_
  refine lv_aload_n hx hb dL_law_48 rfl (lv_at hl 4 rfl) ?_
  refine lv_iconst (v := 2) hx hb dL_law_49 (by decide) ?_
  refine b_cell (K := 2) hG9 (by decide) hP hS hl.1 ⟨(Nat.le_of_ble_eq_true rfl), (Nat.le_of_ble_eq_true rfl)⟩ ⟨by show _ ≤ 745879; omega, by show _ ≤ 6858280; omega⟩ dL_law_50 rfl (Nat.le_of_ble_eq_true rfl) ?_
  intro g2 H locs hP hk hS
  replace ha1 := ha1.kept hp1 hk
  replace ha2 := ha2.kept hs1 hk
  refine lv_bipush (v := 25) hx hb dL_law_53 (by decide) ?_
  refine b_S (c_low (X := X) hI (N := 25) (by decide) (by decide)) hc hA hP hS hl.1 gL_low ⟨rfl, rfl⟩ nok_L_low rfl ⟨(Nat.le_of_ble_eq_true rfl), (Nat.le_of_ble_eq_true rfl)⟩ ⟨by show _ ≤ 745879; omega, by show _ ≤ 6858280; omega⟩ dL_law_55 rfl (Nat.le_of_ble_eq_true rfl) ?_
  intro rb X8 H locs hp hP hk hS
  obtain ⟨⟨a_rb, b_rb, c_rb⟩, e8⟩ := hp
  rw [e8] at hP
  subst c_rb
  replace ha1 := ha1.kept hp1 hk
  replace ha2 := ha2.kept hs1 hk
  refine b_L (lk_addArea (X := X) hfl hI hon0 hon1 hon2 hok hd) hc hA (npic_eta hP) hS hl.1 gL_call nok_L_call rfl ⟨(Nat.le_of_ble_eq_true rfl), (Nat.le_of_ble_eq_true rfl)⟩ ⟨by show _ ≤ 745879; omega, by show _ ≤ 6858280; omega⟩ dL_law_58 rfl (Nat.le_of_ble_eq_true rfl) ?_
  intro r X2 H locs hp hP hk hS
  have hg : (decide (1 ≤ 1 + nI a_ra) && decide (1 + nI a_ra ≤ 10) && decide (0 ≤ nI a_rb) && decide (nI a_rb ≤ 1000)) = true := by
    rw [show (1 : Int32) + nI a_ra = nI (1 + a_ra) from by rw [show (1 : Int32) = nI 1 from rfl, nI_add]]
    have q1 : (1 : Int32) ≤ nI (1 + a_ra) := (nI_leI (a := 1) (b := 1 + a_ra) (by decide) (by omega)).mpr (by omega)
    have q2 : nI (1 + a_ra) ≤ (10 : Int32) := (nI_leI (a := 1 + a_ra) (b := 10) (by omega) (by decide)).mpr (by omega)
    have q3 : (0 : Int32) ≤ nI a_rb := nI_pos' (by omega)
    have q4 : nI a_rb ≤ (1000 : Int32) := (nI_leI (a := a_rb) (b := 1000) (by omega) (by decide)).mpr (by omega)
    rw [decide_eq_true q1, decide_eq_true q2, decide_eq_true q3, decide_eq_true q4]
    rfl
  obtain ⟨hr9, hI2⟩ := lI0_area hI0 (by decide) (by decide) hg hp
  replace ha1 := ha1.kept hp1 hk
  replace ha2 := ha2.kept hs1 hk
  subst hr9
  refine lv_if_ne (tgt := 126) hx hb dL_law_61 (by decide) (fun z => absurd rfl z) (fun _ => ?_)
  exact W.widen (by omega) (by omega) (y_64 hG9 hnv hend H locs ls hI2 hP hS ha1 ha2 hl)
end YS
