/-! The end of the law: the close, and what comes behind it. -/
section FZ
variable {S : NSt} {X X' W : NWd} {na nv e : Nat} {x f z t r : Int32}
theorem fz_k6 (hx : x = 4 ∨ x = 5) (ho : oOpen (X 0) = false) {k : Nat} (hk : k ≠ 6) : nEv X (X 0) x f z t 0 k = X 0 k := by
  have hop : oOpen (oHap (X 0) x f z t) = false := by
    rw [(hap_kp (S := X 0) (f := f) (z := z) (t := t) (x := x) (by rcases hx with rfl | rfl <;> decide)).opn]; exact ho
  rw [nEv0]
  show oJudge (oHap (X 0) x f z t) k = _
  rw [oJudge_cl hop]
  rcases hx with rfl | rfl
  · rw [hp4, nput_k _ hk]
  · rw [hp5, nput_k _ hk]
theorem fz_lres (hx : x = 4 ∨ x = 5) (ho : oOpen (X 0) = false) {v : Int32} {g : Bool} {G : Nat ⊕ (Int32 × NWd)} (hg : gch g (v, nEv X (X 0) x f z t) G) (hr : (r, X') = lres (wdo X 0 (X 0)) G) : ∀ k, k ≠ 6 → X' 0 k = X 0 k := by
  intro k hk
  rcases lres_ev hg hr with ⟨-, -, -, hX⟩ | ⟨-, hX⟩
  · have hX : X' = nEv X (X 0) x f z t := hX
    rw [hX]; exact fz_k6 hx ho hk
  · rw [hX, wdo_eta]
theorem nI_sub21 {d : Nat} (h : d ≤ 21) : (21 : Int32) - nI d = nI (21 - d) := by
  have h1 : nI (21 - d) + nI d = nI 21 := by rw [nI_add]; congr 1; omega
  rw [show (21 : Int32) = nI 21 from rfl, ← h1, Int32.add_sub_cancel]
theorem fz_pass (h : lInv X na nv e) (ho : oOpen (X 0) = true) (hr : (r, X') = lres (wdo X 0 (X 0)) (nG (decide (1 ≤ 21 - X 0 1 0 0) && decide (21 - X 0 1 0 0 ≤ 30)) 0 (nG (decide (X 0 1 0 0 + (21 - X 0 1 0 0) ≤ 99)) 1 (.inr (nJ (X 0) 1 (21 - X 0 1 0 0) 0 0 1 0 0, nEv X (X 0) 1 (21 - X 0 1 0 0) 0 0))))) : r = 21 ∧ oOpen (X' 0) = false ∧ onp (X' 0) = onp (X 0) ∧ ons (X' 0) = ons (X 0) ∧ (∀ k, k < ons (X 0) → X' 0 13 k 4 = X 0 13 k 4) ∧ (∀ k, X' 0 13 k 0 = X 0 13 k 0 ∧ X' 0 13 k 1 = X 0 13 k 1) ∧ ∀ i, i < onp (X 0) → oWhy (X' 0) (nI i) = oWhy (X 0) (nI i) := by
  obtain ⟨M, n, hI, hn⟩ := h.i
  obtain ⟨d, hd, ed⟩ := hI.z.d
  have hQ := hI.q
  have hB := hQ.b
  have e0 : X 0 1 0 0 = nI d := hB.c0.trans ed
  have h20 : d ≤ 20 := by
    unfold oOpen at ho
    have := of_decide_eq_true ho
    rw [e0, h.cl] at this
    exact (nI_leI (b := 20) (by omega) (by decide)).mp this
  have el : (21 : Int32) - X 0 1 0 0 = nI (21 - d) := by rw [e0]; exact nI_sub21 (by omega)
  have es : X 0 1 0 0 + (21 - X 0 1 0 0) = 21 := by rw [el, e0, nI_add, show d + (21 - d) = 21 by omega]; rfl
  have g1 : (decide (1 ≤ 21 - X 0 1 0 0) && decide (21 - X 0 1 0 0 ≤ 30)) = true := by
    rw [el, Bool.and_eq_true, decide_eq_true_eq, decide_eq_true_eq]
    exact ⟨(nI_leI (a := 1) (by decide) (by omega)).mpr (by omega), (nI_leI (b := 30) (by omega) (by decide)).mpr (by omega)⟩
  rw [nG_t g1, nG_t (by rw [es]; decide)] at hr
  have hr9 : (r, X') = (nJ (X 0) 1 (21 - X 0 1 0 0) 0 0 1 0 0, nEv X (X 0) 1 (21 - X 0 1 0 0) 0 0) := hr
  have hr1 : r = nJ (X 0) 1 (21 - X 0 1 0 0) 0 0 1 0 0 := congrArg Prod.fst hr9
  have hX : X' = nEv X (X 0) 1 (21 - X 0 1 0 0) 0 0 := congrArg Prod.snd hr9
  have hs := oJudge_same (X 0)
  have hT : nJ (X 0) 1 (21 - X 0 1 0 0) 0 0 = nput (oJudge (X 0)) 1 0 0 21 := by
    show oJudge (nput (oJudge (X 0)) 1 0 0 (oJudge (X 0) 1 0 0 + (21 - X 0 1 0 0))) = _
    rw [hs 1 0 0 (by decide) (by decide), es]
    refine oJudge_cl ?_
    unfold oOpen
    rw [nput_se, nput_nj (by decide), hs 1 0 1 (by decide) (by decide), h.cl]
    decide
  have hX0 : X' 0 = nput (oJudge (X 0)) 1 0 0 21 := by rw [hX, nEv0, hT]
  have hJ := hQ.P.J hQ.f
  refine ⟨?_, ?_, ?_, ?_, ?_, ?_, ?_⟩
  · rw [hr1, hT, nput_se]
  · rw [hX0]
    unfold oOpen
    rw [nput_se, nput_nj (by decide), hs 1 0 1 (by decide) (by decide), h.cl]
    decide
  · rw [hX0]; show nix (nput (oJudge (X 0)) 1 0 0 21 0 0 6) = _; rw [nput_nk (by decide), hs 0 0 6 (by decide) (by decide)]; rfl
  · rw [hX0]; show nix (nput (oJudge (X 0)) 1 0 0 21 0 0 7) = _; rw [nput_nk (by decide), hs 0 0 7 (by decide) (by decide)]; rfl
  · intro k hk
    have hk' : k < mns M := by rw [← hB.eons]; exact hk
    rw [hX0, nput_nk (by decide), hJ.j.r4 k hk', hQ.j.r4 k hk']
  · intro k
    rw [hX0, nput_nk (by decide), nput_nk (by decide), hs 13 k 0 (by decide) (by decide), hs 13 k 1 (by decide) (by decide)]
    exact ⟨rfl, rfl⟩
  · intro i hi
    have h12 := hB.np12
    have hi' : vp_in (nI i) (mnp M) := vp_in_nI (by rw [← hB.eonp]; exact hi) (by omega)
    have e1 : oWhy (X' 0) (nI i) = oWhy (oJudge (X 0)) (nI i) := by
      rw [hX0]
      unfold oWhy oGone
      rw [nput_k _ (show (0 : Nat) ≠ 1 by decide), nput_k _ (show (11 : Nat) ≠ 1 by decide)]
    rw [e1, hJ.why hi', hQ.why hi']
theorem fz_pay {q : Int32} {Z : Nat ⊕ (Int32 × NWd)} (ho : oOpen S = false) (hp : inB q (onp S) = true) : lres W (nG (inB q (onp S)) 2 (nG (decide ((1 : Int32) ≤ 5) && decide ((5 : Int32) ≤ 1000)) 0 (nG (oOpen S) 1 Z))) = (-103, W) := by
  rw [nG_t hp, nG_t (by decide), nG_f ho]; rfl
theorem fz_sign {q v : Int32} {Z : Nat ⊕ (Int32 × NWd)} (ho : oOpen S = false) (hp : inB q (onp S) = true) (hv : inB v (onv S) = true) : lres W (nG (inB q (onp S)) 2 (nG (inB v (onv S)) 2 (nG (oOpen S) 1 Z))) = (-103, W) := by
  rw [nG_t hp, nG_t hv, nG_f ho]; rfl
theorem fz_why {T : NSt} (h : ∀ k, k ≠ 6 → T k = S k) (q : Int32) : oWhy T q = oWhy S q := by
  unfold oWhy oGone
  rw [h 0 (by decide), h 11 (by decide)]
theorem fz_opn {T : NSt} (h : ∀ k, k ≠ 6 → T k = S k) : oOpen T = oOpen S := by unfold oOpen; rw [h 1 (by decide)]
theorem fz_np {T : NSt} (h : ∀ k, k ≠ 6 → T k = S k) : onp T = onp S ∧ ons T = ons S := by unfold onp ons; rw [h 0 (by decide)]; exact ⟨rfl, rfl⟩
end FZ
/-- the two arrays behind the close, apart from all else -/
def yT (s : State) (ad : Nat → Nat → Nat → Nat) (on : Nat → Prop) (aP aS aR aQ : Nat) : Prop := (¬ nA ad on aR ∧ s.heap.size ≤ aR ∧ aR ≠ aP ∧ aR ≠ aS) ∧ ¬ nA ad on aQ ∧ s.heap.size ≤ aQ ∧ aQ ≠ aP ∧ aQ ≠ aS ∧ aQ ≠ aR
section YF
variable {p : Program} {l : Launch} {e9 : Env} {s : State} {m : MethodId} {below : List Frame} {meth : Method} {c : Code} {Q : State → Prop} {b L : Nat} {xs : Nat → Int32} {D : va_G} {dA : Nat → ClassId} {ad : Nat → Nat → Nat → Nat} {on : Nat → Prop} {aP aS aR aQ nv : Nat} {h1 h2 : Nat → Int32}
set_option maxHeartbeats 4000000 in
set_option maxRecDepth 100000 in
theorem y_897 (hG : yG p l s m meth c b L xs D dA ad on aP aS) (hnv : nv ≤ 40) (hend : ∀ (H : Heap) (locs : List Loc) (ls : Array Slot), va_S (yA s) s.heap H locs → W p l e9 room_1 s m #[Value.ref b] below meth c H locs 745879 6858280 Q (F0 m 905 ls [.int 1])) : ∀ (X : NWd) (f1 f2 : Nat → Int32) (H : Heap) (locs : List Loc) (ls : Array Slot), yH s D dA ad on aP aS X nv 400 f1 f2 H locs → lv_has ls 14 [(4, .int (nI nv)), (3, .ref aS), (2, .ref aP), (1, .ref (ad 2 20 0)), (0, .ref b)] → W p l e9 room_1 s m #[Value.ref b] below meth c H locs (700000) (6000000) Q (F0 m 897 ls []) := by
  have hG9 := hG
  obtain ⟨hc, hfl, hI, hon0, hon1, hon2, hA, ⟨hX9, hbl⟩, hL9, ⟨hp1, hp2⟩, ⟨hs1, hs2⟩, hps⟩ := hG
  have hx := hc.1
  have hb := hc.2.1
  intro X f1 f2 H locs ls hH hl
  refine lv_aload_n hx hb dL_law_897 rfl (lv_at hl 3 rfl) ?_
  refine lv_aload_n hx hb dL_law_898 rfl (lv_at hl 2 rfl) ?_
  refine lv_aload_n hx hb dL_law_899 rfl (lv_at hl 1 rfl) ?_
  refine lv_iload hx hb dL_law_900 (lv_at hl 0 rfl) ?_
  refine b_sound hG9 hH (by decide) hl.1 ⟨(Nat.le_of_ble_eq_true rfl), (Nat.le_of_ble_eq_true rfl)⟩ ⟨(Nat.le_of_ble_eq_true rfl), (Nat.le_of_ble_eq_true rfl)⟩ dL_law_902 rfl (Nat.le_of_ble_eq_true rfl) ?_
  intro X2 H locs hH
  exact W.widen (by omega) (by omega) (hend H locs ls hH.2.1)
set_option maxHeartbeats 4000000 in
set_option maxRecDepth 100000 in
theorem y_849 (hG : yG p l s m meth c b L xs D dA ad on aP aS) (hnv : nv ≤ 40) (hend : ∀ (H : Heap) (locs : List Loc) (ls : Array Slot), va_S (yA s) s.heap H locs → W p l e9 room_1 s m #[Value.ref b] below meth c H locs 745879 6858280 Q (F0 m 905 ls [.int 1])) (hT : yT s ad on aP aS aR aQ) {X : NWd} {f1 f2 : Nat → Int32} (ho : oOpen (X 0) = false) (hw : ∀ i, i < onp (X 0) → h2 i = oWhy (X 0) (nI i)) : ∀ (n j : Nat), n + j = onp (X 0) → ∀ (H : Heap) (locs : List Loc) (ls : Array Slot), yH s D dA ad on aP aS X nv 400 f1 f2 H locs → lAr D dA aQ 12 h2 H → lv_has ls 14 [(8, .int (nI j)), (6, .ref aQ), (5, .ref aR), (4, .int (nI nv)), (3, .ref aS), (2, .ref aP), (1, .ref (ad 2 20 0)), (0, .ref b)] → W p l e9 room_1 s m #[Value.ref b] below meth c H locs (690000 + 18 * j) (5900000 + 108 * j) Q (F0 m 849 ls []) := by
  have hG9 := hG
  obtain ⟨hc, hfl, hI, hon0, hon1, hon2, hA, ⟨hX9, hbl⟩, hL9, ⟨hp1, hp2⟩, ⟨hs1, hs2⟩, hps⟩ := hG
  have hx := hc.1
  have hb := hc.2.1
  have hT9 := hT
  obtain ⟨⟨r1, r2, r3, r4⟩, u1, u2, u3, u4, u5⟩ := hT
  intro n
  induction n with
  | zero =>
    intro j hj H locs ls hH hQ9 hl
    have hH9 := hH
    obtain ⟨hP, hS, hV, ha1, ha2, hag⟩ := hH
    obtain ⟨hok, hd, h01⟩ := hV.ok
    have h12 := hok.np12
    have h150 := hok.ns150
    have enp := hok.np
    have ens := hok.ns
    refine lv_iload hx hb dL_law_849 (lv_at hl 0 rfl) ?_
    refine lv_aload_n hx hb dL_law_851 rfl (lv_at hl 6 rfl) ?_
    refine bx (As := []) (c_X9_papers (X := X) (S := X 0) hfl hI hon0 hon1 hon2 hok hd) hc hA hP hS hl.1 (ngoodV q335 q336 q337 q1 q338) (b_rec hc hP hon2) nok_X9_papers rfl ⟨(Nat.le_of_ble_eq_true rfl), (Nat.le_of_ble_eq_true rfl)⟩ ⟨by show _ ≤ 745879; omega, by show _ ≤ 6858280; omega⟩ dL_law_852 rfl (Nat.le_of_ble_eq_true rfl) ?_
    intro H locs hP hk hS
    replace hH9 := hH9.kept hG9 hP hk hS
    replace hQ9 := hQ9.kept u1 hk
    rw [enp]
    obtain rfl : j = onp (X 0) := by omega
    refine lv_icmp_ge (tgt := 897) hx hb dL_law_855 (by decide) (fun _ => ?_) (fun z => absurd ((nI_leI (by omega) (by omega)).mpr (Nat.le_refl _)) z)
    exact W.widen (by omega) (by omega) (y_897 hG9 hnv hend X f1 f2 H locs ls hH9 (lv_sub hl [3, 4, 5, 6, 7] rfl))
  | succ n ih =>
    intro j hj H locs ls hH hQ9 hl
    have hH9 := hH
    obtain ⟨hP, hS, hV, ha1, ha2, hag⟩ := hH
    obtain ⟨hok, hd, h01⟩ := hV.ok
    have h12 := hok.np12
    have h150 := hok.ns150
    have enp := hok.np
    have ens := hok.ns
    refine lv_iload hx hb dL_law_849 (lv_at hl 0 rfl) ?_
    refine lv_aload_n hx hb dL_law_851 rfl (lv_at hl 6 rfl) ?_
    refine bx (As := []) (c_X9_papers (X := X) (S := X 0) hfl hI hon0 hon1 hon2 hok hd) hc hA hP hS hl.1 (ngoodV q335 q336 q337 q1 q338) (b_rec hc hP hon2) nok_X9_papers rfl ⟨(Nat.le_of_ble_eq_true rfl), (Nat.le_of_ble_eq_true rfl)⟩ ⟨by show _ ≤ 745879; omega, by show _ ≤ 6858280; omega⟩ dL_law_852 rfl (Nat.le_of_ble_eq_true rfl) ?_
    intro H locs hP hk hS
    replace hH9 := hH9.kept hG9 hP hk hS
    replace hQ9 := hQ9.kept u1 hk
    rw [enp]
    refine lv_icmp_ge (tgt := 897) hx hb dL_law_855 (by decide) (fun z => absurd ((nI_leI (by omega) (by omega)).mp z) (by omega)) (fun _ => ?_)
    have hin : inB (nI j) (onp (X 0)) = true := inB_t.mpr (vp_in_nI (by omega) (by omega))
    refine lv_aload_n hx hb dL_law_858 rfl (lv_at hl 6 rfl) ?_
    refine lv_bipush (v := 17) hx hb dL_law_859 (by decide) ?_
    refine lv_iload hx hb dL_law_861 (lv_at hl 0 rfl) ?_
    refine lv_iconst (v := 0) hx hb dL_law_863 (by decide) ?_
    refine bqv (lk_reason (X := X) hfl hI hon0 hon1 hon2 hok hd) (lq_t hin) hc hA hP hS hl.1 rfl ⟨(Nat.le_of_ble_eq_true rfl), (Nat.le_of_ble_eq_true rfl)⟩ ⟨by show _ ≤ 745879; omega, by show _ ≤ 6858280; omega⟩ dL_law_864 rfl (Nat.le_of_ble_eq_true rfl) ?_
    intro H locs hP hk hS
    replace hH9 := hH9.kept hG9 hP hk hS
    replace hQ9 := hQ9.kept u1 hk
    refine lv_aload hx hb dL_law_867 (lv_at hl 1 rfl) ?_
    refine lv_iload hx hb dL_law_869 (lv_at hl 0 rfl) ?_
    refine b_ald hc hQ9 (vp_in_nI (by omega) (by decide)) dL_law_871 ?_
    rw [nix_nI (by omega), hw j (by omega)]
    refine lv_icmp_ne (tgt := 889) hx hb dL_law_872 (by decide) (fun z => absurd rfl z) (fun _ => ?_)
    refine lv_aload_n hx hb dL_law_875 rfl (lv_at hl 6 rfl) ?_
    refine lv_bipush (v := 7) hx hb dL_law_876 (by decide) ?_
    refine lv_iload hx hb dL_law_878 (lv_at hl 0 rfl) ?_
    refine lv_iconst (v := 5) hx hb dL_law_880 (by decide) ?_
    refine b_L (lk_pay (X := X) hfl hI hon0 hon1 hon2 hok hd) hc hA (npic_eta hP) hS hl.1 gL_call nok_L_call rfl ⟨(Nat.le_of_ble_eq_true rfl), (Nat.le_of_ble_eq_true rfl)⟩ ⟨by show _ ≤ 745879; omega, by show _ ≤ 6858280; omega⟩ dL_law_881 rfl (Nat.le_of_ble_eq_true rfl) ?_
    intro r X2 H locs hp hP hk hS
    have hp9 : (r, X2) = (-103, wdo X 0 (X 0)) := Eq.trans hp (fz_pay ho hin)
    have hr9 : r = -103 := congrArg Prod.fst hp9
    have hX2 : X2 = wdo X 0 (X 0) := congrArg Prod.snd hp9
    clear hp hp9
    rw [hX2, wdo_eta] at hP
    subst hr9
    replace hH9 := hH9.kept hG9 hP hk hS
    replace hQ9 := hQ9.kept u1 hk
    refine lv_bipush (v := -103) hx hb dL_law_884 (by decide) ?_
    refine lv_icmp_eq (tgt := 891) hx hb dL_law_886 (by decide) (fun _ => ?_) (fun z => absurd rfl z)
    refine lv_iinc (lv' := [(8, .int (nI (j + 1))), (6, .ref aQ), (5, .ref aR), (4, .int (nI nv)), (3, .ref aS), (2, .ref aP), (1, .ref (ad 2 20 0)), (0, .ref b)]) (v := (nI (j + 1))) hx hb dL_law_891 hl (k := 0) rfl (by rw [show Int32.ofInt 1 = 1 from by decide, nI_1]) (by decide) rfl (fun ls hl => ?_)
    refine lv_goto (tgt := 849) hx hb dL_law_894 (by decide) ?_
    exact W.widen (by omega) (by omega) (ih (j + 1) (by omega) H locs ls hH9 hQ9 (lv_sub hl [0, 1, 2, 3, 4, 5, 6, 7] rfl))
set_option maxHeartbeats 4000000 in
set_option maxRecDepth 100000 in
theorem y_793 (hG : yG p l s m meth c b L xs D dA ad on aP aS) (hnv : nv ≤ 40) (hend : ∀ (H : Heap) (locs : List Loc) (ls : Array Slot), va_S (yA s) s.heap H locs → W p l e9 room_1 s m #[Value.ref b] below meth c H locs 745879 6858280 Q (F0 m 905 ls [.int 1])) (hT : yT s ad on aP aS aR aQ) {X : NWd} {f1 f2 : Nat → Int32} (ho : oOpen (X 0) = false) (hw : ∀ i, i < onp (X 0) → h2 i = oWhy (X 0) (nI i)) (hr9 : ∀ k, k < ons (X 0) → h1 k = X 0 13 k 4) : ∀ (n j : Nat), n + j = ons (X 0) → ∀ (H : Heap) (locs : List Loc) (ls : Array Slot), yH s D dA ad on aP aS X nv 400 f1 f2 H locs → lAr D dA aR 150 h1 H → lAr D dA aQ 12 h2 H → lv_has ls 14 [(8, .int (nI j)), (6, .ref aQ), (5, .ref aR), (4, .int (nI nv)), (3, .ref aS), (2, .ref aP), (1, .ref (ad 2 20 0)), (0, .ref b)] → W p l e9 room_1 s m #[Value.ref b] below meth c H locs (680000 + 18 * j) (5800000 + 108 * j) Q (F0 m 793 ls []) := by
  have hG9 := hG
  obtain ⟨hc, hfl, hI, hon0, hon1, hon2, hA, ⟨hX9, hbl⟩, hL9, ⟨hp1, hp2⟩, ⟨hs1, hs2⟩, hps⟩ := hG
  have hx := hc.1
  have hb := hc.2.1
  have hT9 := hT
  obtain ⟨⟨r1, r2, r3, r4⟩, u1, u2, u3, u4, u5⟩ := hT
  intro n
  induction n with
  | zero =>
    intro j hj H locs ls hH hR hQ9 hl
    have hH9 := hH
    obtain ⟨hP, hS, hV, ha1, ha2, hag⟩ := hH
    obtain ⟨hok, hd, h01⟩ := hV.ok
    have h12 := hok.np12
    have h150 := hok.ns150
    have enp := hok.np
    have ens := hok.ns
    refine lv_iload hx hb dL_law_793 (lv_at hl 0 rfl) ?_
    refine lv_aload_n hx hb dL_law_795 rfl (lv_at hl 6 rfl) ?_
    refine bx (As := []) (c_X9_signatures (X := X) (S := X 0) hfl hI hon0 hon1 hon2 hok hd) hc hA hP hS hl.1 (ngoodV q339 q340 q341 q1 q342) (b_rec hc hP hon2) nok_X9_signatures rfl ⟨(Nat.le_of_ble_eq_true rfl), (Nat.le_of_ble_eq_true rfl)⟩ ⟨by show _ ≤ 745879; omega, by show _ ≤ 6858280; omega⟩ dL_law_796 rfl (Nat.le_of_ble_eq_true rfl) ?_
    intro H locs hP hk hS
    replace hH9 := hH9.kept hG9 hP hk hS
    replace hR := hR.kept r1 hk
    replace hQ9 := hQ9.kept u1 hk
    rw [ens]
    obtain rfl : j = ons (X 0) := by omega
    refine lv_icmp_ge (tgt := 846) hx hb dL_law_799 (by decide) (fun _ => ?_) (fun z => absurd ((nI_leI (by omega) (by omega)).mpr (Nat.le_refl _)) z)
    refine lv_iconst (v := 0) hx hb dL_law_846 (by decide) ?_
    refine lv_istore (lv' := [(8, .int (nI 0)), (6, .ref aQ), (5, .ref aR), (4, .int (nI nv)), (3, .ref aS), (2, .ref aP), (1, .ref (ad 2 20 0)), (0, .ref b)]) hx hb dL_law_847 hl (by decide) rfl (fun ls hl => ?_)
    exact W.widen (by omega) (by omega) (y_849 hG9 hnv hend hT9 ho hw (onp (X 0)) 0 rfl H locs ls hH9 hQ9 (lv_sub hl [0, 1, 2, 3, 4, 5, 6, 7] rfl))
  | succ n ih =>
    intro j hj H locs ls hH hR hQ9 hl
    have hH9 := hH
    obtain ⟨hP, hS, hV, ha1, ha2, hag⟩ := hH
    obtain ⟨hok, hd, h01⟩ := hV.ok
    have h12 := hok.np12
    have h150 := hok.ns150
    have enp := hok.np
    have ens := hok.ns
    refine lv_iload hx hb dL_law_793 (lv_at hl 0 rfl) ?_
    refine lv_aload_n hx hb dL_law_795 rfl (lv_at hl 6 rfl) ?_
    refine bx (As := []) (c_X9_signatures (X := X) (S := X 0) hfl hI hon0 hon1 hon2 hok hd) hc hA hP hS hl.1 (ngoodV q339 q340 q341 q1 q342) (b_rec hc hP hon2) nok_X9_signatures rfl ⟨(Nat.le_of_ble_eq_true rfl), (Nat.le_of_ble_eq_true rfl)⟩ ⟨by show _ ≤ 745879; omega, by show _ ≤ 6858280; omega⟩ dL_law_796 rfl (Nat.le_of_ble_eq_true rfl) ?_
    intro H locs hP hk hS
    replace hH9 := hH9.kept hG9 hP hk hS
    replace hR := hR.kept r1 hk
    replace hQ9 := hQ9.kept u1 hk
    rw [ens]
    refine lv_icmp_ge (tgt := 846) hx hb dL_law_799 (by decide) (fun z => absurd ((nI_leI (by omega) (by omega)).mp z) (by omega)) (fun _ => ?_)
    have hjn : j < ons (X 0) := by omega
    refine lv_aload_n hx hb dL_law_802 rfl (lv_at hl 6 rfl) ?_
    refine lv_bipush (v := 12) hx hb dL_law_803 (by decide) ?_
    refine lv_iload hx hb dL_law_805 (lv_at hl 0 rfl) ?_
    refine lv_iconst (v := 0) hx hb dL_law_807 (by decide) ?_
    refine bqv (lk_signatureResult (X := X) hfl hI hon0 hon1 hon2 hok hd) ((lq_t (by rw [ens, decide_eq_true (nI_pos' (by omega)), decide_eq_true ((nI_ltI (by omega) (by omega)).mpr hjn)]; rfl)).trans (by rw [nix_nI (by omega)])) hc hA hP hS hl.1 rfl ⟨(Nat.le_of_ble_eq_true rfl), (Nat.le_of_ble_eq_true rfl)⟩ ⟨by show _ ≤ 745879; omega, by show _ ≤ 6858280; omega⟩ dL_law_808 rfl (Nat.le_of_ble_eq_true rfl) ?_
    intro H locs hP hk hS
    replace hH9 := hH9.kept hG9 hP hk hS
    replace hR := hR.kept r1 hk
    replace hQ9 := hQ9.kept u1 hk
    refine lv_aload hx hb dL_law_811 (lv_at hl 2 rfl) ?_
    refine lv_iload hx hb dL_law_813 (lv_at hl 0 rfl) ?_
    refine b_ald hc hR (vp_in_nI (by omega) (by decide)) dL_law_815 ?_
    rw [nix_nI (by omega), hr9 j hjn]
    refine lv_icmp_ne (tgt := 838) hx hb dL_law_816 (by decide) (fun z => absurd rfl z) (fun _ => ?_)
    refine lv_aload_n hx hb dL_law_819 rfl (lv_at hl 6 rfl) ?_
    refine lv_bipush (v := 6) hx hb dL_law_820 (by decide) ?_
    refine lv_aload_n hx hb dL_law_822 rfl (lv_at hl 5 rfl) ?_
    refine lv_iload hx hb dL_law_823 (lv_at hl 0 rfl) ?_
    refine b_ald hc hH9.2.2.2.1 (vp_in_nI (by omega) (by decide)) dL_law_825 ?_
    refine lv_aload_n hx hb dL_law_826 rfl (lv_at hl 4 rfl) ?_
    refine lv_iload hx hb dL_law_827 (lv_at hl 0 rfl) ?_
    refine b_ald hc hH9.2.2.2.2.1 (vp_in_nI (by omega) (by decide)) dL_law_829 ?_
    rw [nix_nI (by omega), (hag j hjn).1, (hag j hjn).2]
    obtain ⟨M, hQ0⟩ := hV.q
    have hB := hQ0.b
    have hj' : j < mns M := by rw [← hB.eons]; exact hjn
    have hpin : inB (X 0 13 j 0) (onp (X 0)) = true := inB_t.mpr (by rw [(hB.si j hj').1, hB.eonp]; exact (hB.si j hj').2.2.2.2.1)
    have hvin : inB (X 0 13 j 1) (onv (X 0)) = true := inB_t.mpr (by rw [(hB.si j hj').2.1, hB.eonv]; exact (hB.si j hj').2.2.2.2.2)
    refine b_L (lk_sign (X := X) hfl hI hon0 hon1 hon2 hok hd) hc hA (npic_eta hP) hS hl.1 gL_call nok_L_call rfl ⟨(Nat.le_of_ble_eq_true rfl), (Nat.le_of_ble_eq_true rfl)⟩ ⟨by show _ ≤ 745879; omega, by show _ ≤ 6858280; omega⟩ dL_law_830 rfl (Nat.le_of_ble_eq_true rfl) ?_
    intro r X2 H locs hp hP hk hS
    have hp9 : (r, X2) = (-103, wdo X 0 (X 0)) := Eq.trans hp (fz_sign ho hpin hvin)
    have hr8 : r = -103 := congrArg Prod.fst hp9
    have hX2 : X2 = wdo X 0 (X 0) := congrArg Prod.snd hp9
    clear hp hp9
    rw [hX2, wdo_eta] at hP
    subst hr8
    replace hH9 := hH9.kept hG9 hP hk hS
    replace hR := hR.kept r1 hk
    replace hQ9 := hQ9.kept u1 hk
    refine lv_bipush (v := -103) hx hb dL_law_833 (by decide) ?_
    refine lv_icmp_eq (tgt := 840) hx hb dL_law_835 (by decide) (fun _ => ?_) (fun z => absurd rfl z)
    refine lv_iinc (lv' := [(8, .int (nI (j + 1))), (6, .ref aQ), (5, .ref aR), (4, .int (nI nv)), (3, .ref aS), (2, .ref aP), (1, .ref (ad 2 20 0)), (0, .ref b)]) (v := (nI (j + 1))) hx hb dL_law_840 hl (k := 0) rfl (by rw [show Int32.ofInt 1 = 1 from by decide, nI_1]) (by decide) rfl (fun ls hl => ?_)
    refine lv_goto (tgt := 793) hx hb dL_law_843 (by decide) ?_
    exact W.widen (by omega) (by omega) (ih (j + 1) (by omega) H locs ls hH9 hR hQ9 (lv_sub hl [0, 1, 2, 3, 4, 5, 6, 7] rfl))
set_option maxHeartbeats 4000000 in
set_option maxRecDepth 100000 in
theorem y_748 (hG : yG p l s m meth c b L xs D dA ad on aP aS) (hnv : nv ≤ 40) (hend : ∀ (H : Heap) (locs : List Loc) (ls : Array Slot), va_S (yA s) s.heap H locs → W p l e9 room_1 s m #[Value.ref b] below meth c H locs 745879 6858280 Q (F0 m 905 ls [.int 1])) (hT : yT s ad on aP aS aR aQ) : ∀ (n j : Nat), n + j = nv → ∀ (X : NWd) (f1 f2 : Nat → Int32) (H : Heap) (locs : List Loc) (ls : Array Slot), oOpen (X 0) = false → onp (X 0) ≤ 12 → (∀ i, i < onp (X 0) → h2 i = oWhy (X 0) (nI i)) → (∀ k, k < ons (X 0) → h1 k = X 0 13 k 4) →  yH s D dA ad on aP aS X nv (200 + j) f1 f2 H locs → lAr D dA aR 150 h1 H → lAr D dA aQ 12 h2 H → lv_has ls 14 [(8, .int (nI j)), (6, .ref aQ), (5, .ref aR), (4, .int (nI nv)), (3, .ref aS), (2, .ref aP), (1, .ref (ad 2 20 0)), (0, .ref b)] → W p l e9 room_1 s m #[Value.ref b] below meth c H locs (670000 + 6 * j) (5700000 + 36 * j) Q (F0 m 748 ls []) := by
  have hG9 := hG
  obtain ⟨hc, hfl, hI, hon0, hon1, hon2, hA, ⟨hX9, hbl⟩, hL9, ⟨hp1, hp2⟩, ⟨hs1, hs2⟩, hps⟩ := hG
  have hx := hc.1
  have hb := hc.2.1
  have hT9 := hT
  obtain ⟨⟨r1, r2, r3, r4⟩, u1, u2, u3, u4, u5⟩ := hT
  intro n
  induction n with
  | zero =>
    intro j hj X f1 f2 H locs ls ho hn12 hw hr9 hH hR hQ9 hl
    have hH9 := hH
    obtain ⟨hP, hS, hV, ha1, ha2, hag⟩ := hH
    obtain ⟨hok, hd, h01⟩ := hV.ok
    have h12 := hok.np12
    have h150 := hok.ns150
    have enp := hok.np
    have ens := hok.ns
    refine lv_iload hx hb dL_law_748 (lv_at hl 0 rfl) ?_
    refine lv_iload hx hb dL_law_750 (lv_at hl 3 rfl) ?_
    obtain rfl : nv = j := by omega
    refine lv_icmp_ge (tgt := 790) hx hb dL_law_752 (by decide) (fun _ => ?_) (fun z => absurd ((nI_leI (by omega) (by omega)).mpr (Nat.le_refl _)) z)
    refine lv_iconst (v := 0) hx hb dL_law_790 (by decide) ?_
    refine lv_istore (lv' := [(8, .int (nI 0)), (6, .ref aQ), (5, .ref aR), (4, .int (nI nv)), (3, .ref aS), (2, .ref aP), (1, .ref (ad 2 20 0)), (0, .ref b)]) hx hb dL_law_791 hl (by decide) rfl (fun ls hl => ?_)
    exact W.widen (by omega) (by omega) (y_793 hG9 hnv hend hT9 ho hw hr9 (ons (X 0)) 0 rfl H locs ls (hH9.mono (by omega)) hR hQ9 (lv_sub hl [0, 1, 2, 3, 4, 5, 6, 7] rfl))
  | succ n ih =>
    intro j hj X f1 f2 H locs ls ho hn12 hw hr9 hH hR hQ9 hl
    have hH9 := hH
    obtain ⟨hP, hS, hV, ha1, ha2, hag⟩ := hH
    obtain ⟨hok, hd, h01⟩ := hV.ok
    have h12 := hok.np12
    have h150 := hok.ns150
    have enp := hok.np
    have ens := hok.ns
    refine lv_iload hx hb dL_law_748 (lv_at hl 0 rfl) ?_
    refine lv_iload hx hb dL_law_750 (lv_at hl 3 rfl) ?_
    refine lv_icmp_ge (tgt := 790) hx hb dL_law_752 (by decide) (fun z => absurd ((nI_leI (by omega) (by omega)).mp z) (by omega)) (fun _ => ?_)
    refine lv_aload_n hx hb dL_law_755 rfl (lv_at hl 6 rfl) ?_
    refine lv_aload_n hx hb dL_law_756 rfl (lv_at hl 7 rfl) ?_
    refine lv_bipush (v := 100) hx hb dL_law_757 (by decide) ?_
    refine lv_iload hx hb dL_law_759 (lv_at hl 0 rfl) ?_
    refine lv_iadd hx hb dL_law_761 ?_
    rw [show (100 : Int32) + nI j = nI (100 + j) from by rw [show (100 : Int32) = nI 100 from rfl, nI_add]]
    refine b_cell hG9 (by omega) hP hS hl.1 ⟨(Nat.le_of_ble_eq_true rfl), (Nat.le_of_ble_eq_true rfl)⟩ ⟨by show _ ≤ 745879; omega, by show _ ≤ 6858280; omega⟩ dL_law_762 rfl (Nat.le_of_ble_eq_true rfl) ?_
    intro g9 H locs hP hk hS
    replace hH9 := hH9.kept hG9 hP hk hS
    replace hR := hR.kept r1 hk
    replace hQ9 := hQ9.kept u1 hk
    refine lv_iconst (v := 2) hx hb dL_law_765 (by decide) ?_
    refine b_S (c_low (X := X) hI (N := 2) (by decide) (by decide)) hc hA hP hS hl.1 gL_low ⟨rfl, rfl⟩ nok_L_low rfl ⟨(Nat.le_of_ble_eq_true rfl), (Nat.le_of_ble_eq_true rfl)⟩ ⟨by show _ ≤ 745879; omega, by show _ ≤ 6858280; omega⟩ dL_law_766 rfl (Nat.le_of_ble_eq_true rfl) ?_
    intro r8 X8 H locs hp hP hk hS
    obtain ⟨-, e8⟩ := hp
    rw [e8] at hP
    replace hH9 := hH9.kept hG9 hP hk hS
    replace hR := hR.kept r1 hk
    replace hQ9 := hQ9.kept u1 hk
    have go : ∀ (r : Int32) (X2 : NWd) (H1 : Heap) (locs1 : List Loc), npic D dA ad on X2 H1 → (∀ q : Nat, q < H.size → ¬ nA ad on q → H1[q]? = H[q]?) → va_S (yA s) s.heap H1 locs1 → ((r < 0 ∧ X2 = X) ∨ (¬ r < 0 ∧ lInv X2 2 nv (200 + j + 1) ∧ sK (X 0) (X2 0))) → (∀ k, k ≠ 6 → X2 0 k = X 0 k) → W p l e9 room_1 s m #[Value.ref b] below meth c H1 locs1 (670000 + 6 * j + 6) (5700000 + 36 * j + 36) Q (F0 m 783 ls [.int r]) := by
      intro r X2 H1 locs1 hP1 hk hS1 hl1 hf
      have hH2 := (hH9.ev hG9 hP1 hk hS1 hl1).1
      replace hR := hR.kept r1 hk
      replace hQ9 := hQ9.kept u1 hk
      obtain ⟨f3, f4⟩ := fz_np hf
      refine lv_pop hx hb dL_law_783 rfl ?_
      refine lv_iinc (lv' := [(8, .int (nI (j + 1))), (6, .ref aQ), (5, .ref aR), (4, .int (nI nv)), (3, .ref aS), (2, .ref aP), (1, .ref (ad 2 20 0)), (0, .ref b)]) (v := (nI (j + 1))) hx hb dL_law_784 hl (k := 0) rfl (by rw [show Int32.ofInt 1 = 1 from by decide, nI_1]) (by decide) rfl (fun ls hl => ?_)
      refine lv_goto (tgt := 748) hx hb dL_law_787 (by decide) ?_
      exact W.widen (by omega) (by omega) (ih (j + 1) (by omega) X2 f1 f2 H1 locs1 ls (by rw [fz_opn hf]; exact ho) (by rw [f3]; exact hn12) (fun i hi => by rw [fz_why hf]; exact hw i (by rw [← f3]; exact hi)) (fun k hk => by rw [hf 13 (by decide)]; exact hr9 k (by rw [← f4]; exact hk)) hH2 hR hQ9 (lv_sub hl [0, 1, 2, 3, 4, 5, 6, 7] rfl))
    refine lv_if_ne (tgt := 776) hx hb dL_law_769 (by decide) (fun _ => ?_) (fun _ => ?_)
    · refine lv_iconst (v := 3) hx hb dL_law_776 (by decide) ?_
      refine lv_iload hx hb dL_law_777 (lv_at hl 0 rfl) ?_
      refine lv_iconst (v := 0) hx hb dL_law_779 (by decide) ?_
      refine b_L (lk_move (X := X) hfl hI hon0 hon1 hon2 hok hd) hc hA (npic_eta hP) hS hl.1 gL_call nok_L_call rfl ⟨(Nat.le_of_ble_eq_true rfl), (Nat.le_of_ble_eq_true rfl)⟩ ⟨by show _ ≤ 745879; omega, by show _ ≤ 6858280; omega⟩ dL_law_780 rfl (Nat.le_of_ble_eq_true rfl) ?_
      intro r X2 H1 locs1 hp hP1 hk hS1
      exact go r X2 H1 locs1 hP1 hk hS1 (le_move (b9 := 0) hV (by omega) hp) (fz_lres  (Or.inl rfl) ho (gch_g (gch_g (gch_g gch_r))) hp)
    · refine lv_iconst (v := 4) hx hb dL_law_772 (by decide) ?_
      refine lv_goto (tgt := 777) hx hb dL_law_773 (by decide) ?_
      refine lv_iload hx hb dL_law_777 (lv_at hl 0 rfl) ?_
      refine lv_iconst (v := 0) hx hb dL_law_779 (by decide) ?_
      refine b_L (lk_strike (X := X) hfl hI hon0 hon1 hon2 hok hd) hc hA (npic_eta hP) hS hl.1 gL_call nok_L_call rfl ⟨(Nat.le_of_ble_eq_true rfl), (Nat.le_of_ble_eq_true rfl)⟩ ⟨by show _ ≤ 745879; omega, by show _ ≤ 6858280; omega⟩ dL_law_780 rfl (Nat.le_of_ble_eq_true rfl) ?_
      intro r X2 H1 locs1 hp hP1 hk hS1
      exact go r X2 H1 locs1 hP1 hk hS1 (le_strike (b9 := 0) hV (by omega) hp) (fz_lres (Or.inr rfl) ho (gch_g (gch_g gch_r)) hp)
set_option maxHeartbeats 4000000 in
set_option maxRecDepth 100000 in
theorem y_714 (hG : yG p l s m meth c b L xs D dA ad on aP aS) (hnv : nv ≤ 40) (hend : ∀ (H : Heap) (locs : List Loc) (ls : Array Slot), va_S (yA s) s.heap H locs → W p l e9 room_1 s m #[Value.ref b] below meth c H locs 745879 6858280 Q (F0 m 905 ls [.int 1])) (hT : yT s ad on aP aS aR aQ) : ∀ (X : NWd) (f1 f2 : Nat → Int32) (H : Heap) (locs : List Loc) (ls : Array Slot) (k7 : Int32), oOpen (X 0) = true → (∀ i, i < onp (X 0) → h2 i = oWhy (X 0) (nI i)) → (∀ k, k < ons (X 0) → h1 k = X 0 13 k 4) → yH s D dA ad on aP aS X nv 199 f1 f2 H locs → lAr D dA aR 150 h1 H → lAr D dA aQ 12 h2 H → lv_has ls 14 [(7, .int k7), (6, .ref aQ), (5, .ref aR), (4, .int (nI nv)), (3, .ref aS), (2, .ref aP), (1, .ref (ad 2 20 0)), (0, .ref b)] → W p l e9 room_1 s m #[Value.ref b] below meth c H locs (660000) (5600000) Q (F0 m 714 ls []) := by
  have hG9 := hG
  obtain ⟨hc, hfl, hI, hon0, hon1, hon2, hA, ⟨hX9, hbl⟩, hL9, ⟨hp1, hp2⟩, ⟨hs1, hs2⟩, hps⟩ := hG
  have hx := hc.1
  have hb := hc.2.1
  have hT9 := hT
  obtain ⟨⟨r1, r2, r3, r4⟩, u1, u2, u3, u4, u5⟩ := hT
  intro X f1 f2 H locs ls k7 ho hw hr9 hH hR hQ9 hl
  have hH9 := hH
  obtain ⟨hP, hS, hV, ha1, ha2, hag⟩ := hH
  obtain ⟨hok, hd, h01⟩ := hV.ok
  have h12 := hok.np12
  have h150 := hok.ns150
  have enp := hok.np
  have ens := hok.ns
  refine lv_bipush (v := 21) hx hb dL_law_714 (by decide) ?_
  refine lv_aload_n hx hb dL_law_716 rfl (lv_at hl 6 rfl) ?_
  refine bx (As := []) (c_X9_day (X := X) (S := X 0) hfl hI hon0 hon1 hon2 hok hd) hc hA hP hS hl.1 (ngoodV q323 q324 q325 q1 q326) (b_rec hc hP hon2) nok_X9_day rfl ⟨(Nat.le_of_ble_eq_true rfl), (Nat.le_of_ble_eq_true rfl)⟩ ⟨by show _ ≤ 745879; omega, by show _ ≤ 6858280; omega⟩ dL_law_717 rfl (Nat.le_of_ble_eq_true rfl) ?_
  intro H locs hP hk hS
  replace hH9 := hH9.kept hG9 hP hk hS
  replace hR := hR.kept r1 hk
  replace hQ9 := hQ9.kept u1 hk
  refine lv_isub hx hb dL_law_720 ?_
  refine lv_istore (lv' := [(7, .int (21 - X 0 1 0 0)), (6, .ref aQ), (5, .ref aR), (4, .int (nI nv)), (3, .ref aS), (2, .ref aP), (1, .ref (ad 2 20 0)), (0, .ref b)]) hx hb dL_law_721 hl (by decide) rfl (fun ls hl => ?_)
  refine lv_aload_n hx hb dL_law_723 rfl (lv_at hl 6 rfl) ?_
  refine lv_iconst (v := 0) hx hb dL_law_724 (by decide) ?_
  refine lv_iload hx hb dL_law_725 (lv_at hl 0 rfl) ?_
  refine lv_iconst (v := 0) hx hb dL_law_727 (by decide) ?_
  refine b_L (lk_pass (X := X) hfl hI hon0 hon1 hon2 hok hd) hc hA (npic_eta hP) hS hl.1 gL_call nok_L_call rfl ⟨(Nat.le_of_ble_eq_true rfl), (Nat.le_of_ble_eq_true rfl)⟩ ⟨by show _ ≤ 745879; omega, by show _ ≤ 6858280; omega⟩ dL_law_728 rfl (Nat.le_of_ble_eq_true rfl) ?_
  intro r X2 H1 locs1 hp hP1 hk hS1
  obtain ⟨z1, z2, z3, z4, z5, z6, z7⟩ := fz_pass hV ho hp
  have hl1 := le_pass (b9 := 0) hV (by omega) hp
  have hH2 := (hH9.ev hG9 hP1 hk hS1 hl1).1
  replace hR := hR.kept r1 hk
  replace hQ9 := hQ9.kept u1 hk
  subst z1
  have hH8 := hH2
  obtain ⟨hP, hS, hV2, -, -, -⟩ := hH8
  obtain ⟨hok2, hd2, h012⟩ := hV2.ok
  refine lv_bipush (v := 21) hx hb dL_law_731 (by decide) ?_
  refine lv_icmp_ne (tgt := 743) hx hb dL_law_733 (by decide) (fun z => absurd rfl z) (fun _ => ?_)
  refine lv_aload_n hx hb dL_law_736 rfl (lv_at hl 6 rfl) ?_
  refine bx (As := []) (c_X9_isOpen (X := X2) (S := X2 0) hfl hI hon0 hon1 hon2 hok2 hd2) hc hA hP hS hl.1 (ngoodV q327 q328 q329 q1 q330) (b_rec hc hP hon2) nok_X9_isOpen rfl ⟨(Nat.le_of_ble_eq_true rfl), (Nat.le_of_ble_eq_true rfl)⟩ ⟨by show _ ≤ 745879; omega, by show _ ≤ 6858280; omega⟩ dL_law_737 rfl (Nat.le_of_ble_eq_true rfl) ?_
  intro H locs hP hk hS
  replace hH2 := hH2.kept hG9 hP hk hS
  replace hR := hR.kept r1 hk
  replace hQ9 := hQ9.kept u1 hk
  refine lv_if_eq (tgt := 745) hx hb dL_law_740 (by decide) (fun _ => ?_) (fun z => absurd (by rw [z2]; rfl) z)
  refine lv_iconst (v := 0) hx hb dL_law_745 (by decide) ?_
  refine lv_istore (lv' := [(8, .int (nI 0)), (7, .int (21 - X 0 1 0 0)), (6, .ref aQ), (5, .ref aR), (4, .int (nI nv)), (3, .ref aS), (2, .ref aP), (1, .ref (ad 2 20 0)), (0, .ref b)]) hx hb dL_law_746 hl (by decide) rfl (fun ls hl => ?_)
  exact W.widen (by omega) (by omega) (y_748 hG9 hnv hend hT9 nv 0 rfl X2 f1 f2 H locs ls z2 (by rw [z3]; exact h12) (fun i hi => by rw [z7 i (by rw [← z3]; exact hi)]; exact hw i (by rw [← z3]; exact hi)) (fun k hk => by rw [z5 k (by rw [← z4]; exact hk)]; exact hr9 k (by rw [← z4]; exact hk)) hH2 hR hQ9 (lv_sub hl [0, 2, 3, 4, 5, 6, 7, 8] rfl))
set_option maxHeartbeats 4000000 in
set_option maxRecDepth 100000 in
theorem y_685 (hG : yG p l s m meth c b L xs D dA ad on aP aS) (hnv : nv ≤ 40) (hend : ∀ (H : Heap) (locs : List Loc) (ls : Array Slot), va_S (yA s) s.heap H locs → W p l e9 room_1 s m #[Value.ref b] below meth c H locs 745879 6858280 Q (F0 m 905 ls [.int 1])) (hT : yT s ad on aP aS aR aQ) {X : NWd} {f1 f2 : Nat → Int32} (ho : oOpen (X 0) = true) (hr9 : ∀ k, k < ons (X 0) → h1 k = X 0 13 k 4) : ∀ (n j : Nat), n + j = onp (X 0) → ∀ (h2 : Nat → Int32) (H : Heap) (locs : List Loc) (ls : Array Slot), (∀ i, i < j → h2 i = oWhy (X 0) (nI i)) → yH s D dA ad on aP aS X nv 199 f1 f2 H locs → lAr D dA aR 150 h1 H → lAr D dA aQ 12 h2 H → lv_has ls 14 [(7, .int (nI j)), (6, .ref aQ), (5, .ref aR), (4, .int (nI nv)), (3, .ref aS), (2, .ref aP), (1, .ref (ad 2 20 0)), (0, .ref b)] → W p l e9 room_1 s m #[Value.ref b] below meth c H locs (650000 + 12 * j) (5500000 + 72 * j) Q (F0 m 685 ls []) := by
  have hG9 := hG
  obtain ⟨hc, hfl, hI, hon0, hon1, hon2, hA, ⟨hX9, hbl⟩, hL9, ⟨hp1, hp2⟩, ⟨hs1, hs2⟩, hps⟩ := hG
  have hx := hc.1
  have hb := hc.2.1
  have hT9 := hT
  obtain ⟨⟨r1, r2, r3, r4⟩, u1, u2, u3, u4, u5⟩ := hT
  intro n
  induction n with
  | zero =>
    intro j hj h2 H locs ls hw hH hR hQ9 hl
    have hH9 := hH
    obtain ⟨hP, hS, hV, ha1, ha2, hag⟩ := hH
    obtain ⟨hok, hd, h01⟩ := hV.ok
    have h12 := hok.np12
    have h150 := hok.ns150
    have enp := hok.np
    have ens := hok.ns
    refine lv_iload hx hb dL_law_685 (lv_at hl 0 rfl) ?_
    refine lv_aload_n hx hb dL_law_687 rfl (lv_at hl 6 rfl) ?_
    refine bx (As := []) (c_X9_papers (X := X) (S := X 0) hfl hI hon0 hon1 hon2 hok hd) hc hA hP hS hl.1 (ngoodV q335 q336 q337 q1 q338) (b_rec hc hP hon2) nok_X9_papers rfl ⟨(Nat.le_of_ble_eq_true rfl), (Nat.le_of_ble_eq_true rfl)⟩ ⟨by show _ ≤ 745879; omega, by show _ ≤ 6858280; omega⟩ dL_law_688 rfl (Nat.le_of_ble_eq_true rfl) ?_
    intro H locs hP hk hS
    replace hH9 := hH9.kept hG9 hP hk hS
    replace hR := hR.kept r1 hk
    replace hQ9 := hQ9.kept u1 hk
    rw [enp]
    obtain rfl : j = onp (X 0) := by omega
    refine lv_icmp_ge (tgt := 714) hx hb dL_law_691 (by decide) (fun _ => ?_) (fun z => absurd ((nI_leI (by omega) (by omega)).mpr (Nat.le_refl _)) z)
    exact W.widen (by omega) (by omega) (y_714 hG9 hnv hend hT9 X f1 f2 H locs ls _ ho hw hr9 hH9 hR hQ9 hl)
  | succ n ih =>
    intro j hj h2 H locs ls hw hH hR hQ9 hl
    have hH9 := hH
    obtain ⟨hP, hS, hV, ha1, ha2, hag⟩ := hH
    obtain ⟨hok, hd, h01⟩ := hV.ok
    have h12 := hok.np12
    have h150 := hok.ns150
    have enp := hok.np
    have ens := hok.ns
    refine lv_iload hx hb dL_law_685 (lv_at hl 0 rfl) ?_
    refine lv_aload_n hx hb dL_law_687 rfl (lv_at hl 6 rfl) ?_
    refine bx (As := []) (c_X9_papers (X := X) (S := X 0) hfl hI hon0 hon1 hon2 hok hd) hc hA hP hS hl.1 (ngoodV q335 q336 q337 q1 q338) (b_rec hc hP hon2) nok_X9_papers rfl ⟨(Nat.le_of_ble_eq_true rfl), (Nat.le_of_ble_eq_true rfl)⟩ ⟨by show _ ≤ 745879; omega, by show _ ≤ 6858280; omega⟩ dL_law_688 rfl (Nat.le_of_ble_eq_true rfl) ?_
    intro H locs hP hk hS
    replace hH9 := hH9.kept hG9 hP hk hS
    replace hR := hR.kept r1 hk
    replace hQ9 := hQ9.kept u1 hk
    rw [enp]
    refine lv_icmp_ge (tgt := 714) hx hb dL_law_691 (by decide) (fun z => absurd ((nI_leI (by omega) (by omega)).mp z) (by omega)) (fun _ => ?_)
    have hin : inB (nI j) (onp (X 0)) = true := inB_t.mpr (vp_in_nI (by omega) (by omega))
    refine lv_aload hx hb dL_law_694 (lv_at hl 1 rfl) ?_
    refine lv_iload hx hb dL_law_696 (lv_at hl 0 rfl) ?_
    refine lv_aload_n hx hb dL_law_698 rfl (lv_at hl 6 rfl) ?_
    refine lv_bipush (v := 17) hx hb dL_law_699 (by decide) ?_
    refine lv_iload hx hb dL_law_701 (lv_at hl 0 rfl) ?_
    refine lv_iconst (v := 0) hx hb dL_law_703 (by decide) ?_
    refine bqv (lk_reason (X := X) hfl hI hon0 hon1 hon2 hok hd) (lq_t hin) hc hA hP hS hl.1 rfl ⟨(Nat.le_of_ble_eq_true rfl), (Nat.le_of_ble_eq_true rfl)⟩ ⟨by show _ ≤ 745879; omega, by show _ ≤ 6858280; omega⟩ dL_law_704 rfl (Nat.le_of_ble_eq_true rfl) ?_
    intro H locs hP hk hS
    replace hH9 := hH9.kept hG9 hP hk hS
    replace hR := hR.kept r1 hk
    replace hQ9 := hQ9.kept u1 hk
    refine b_ast hc hS hQ9 u2 (vp_in_nI (by omega) (by decide)) dL_law_707 (fun H locs hQ8 oq _ hS => ?_)
    replace hP := npic_off hP u1 oq
    replace hH9 : yH s D dA ad on aP aS X nv 199 f1 f2 H locs := ⟨hP, hS, hV, hH9.2.2.2.1.off u3.symm oq, hH9.2.2.2.2.1.off u4.symm oq, hag⟩
    replace hR := hR.off u5.symm oq
    rw [nix_nI (by omega)] at hQ8
    refine lv_iinc (lv' := [(7, .int (nI (j + 1))), (6, .ref aQ), (5, .ref aR), (4, .int (nI nv)), (3, .ref aS), (2, .ref aP), (1, .ref (ad 2 20 0)), (0, .ref b)]) (v := (nI (j + 1))) hx hb dL_law_708 hl (k := 0) rfl (by rw [show Int32.ofInt 1 = 1 from by decide, nI_1]) (by decide) rfl (fun ls hl => ?_)
    refine lv_goto (tgt := 685) hx hb dL_law_711 (by decide) ?_
    refine W.widen (by omega) (by omega) (ih (j + 1) (by omega) _ H locs ls (fun i hi => ?_) hH9 hR hQ8 (lv_sub hl [0, 1, 2, 3, 4, 5, 6, 7] rfl))
    by_cases q : i = j
    · subst q; unfold upd; rw [if_pos rfl]
    · unfold upd; rw [if_neg q]; exact hw i (by omega)
set_option maxHeartbeats 4000000 in
set_option maxRecDepth 100000 in
theorem y_653 (hG : yG p l s m meth c b L xs D dA ad on aP aS) (hnv : nv ≤ 40) (hend : ∀ (H : Heap) (locs : List Loc) (ls : Array Slot), va_S (yA s) s.heap H locs → W p l e9 room_1 s m #[Value.ref b] below meth c H locs 745879 6858280 Q (F0 m 905 ls [.int 1])) (hT : yT s ad on aP aS aR aQ) {X : NWd} {f1 f2 : Nat → Int32} (ho : oOpen (X 0) = true) : ∀ (n j : Nat), n + j = ons (X 0) → ∀ (h1 : Nat → Int32) (H : Heap) (locs : List Loc) (ls : Array Slot), (∀ k, k < j → h1 k = X 0 13 k 4) → yH s D dA ad on aP aS X nv 199 f1 f2 H locs → lAr D dA aR 150 h1 H → lAr D dA aQ 12 (fun _ => 0) H → lv_has ls 14 [(7, .int (nI j)), (6, .ref aQ), (5, .ref aR), (4, .int (nI nv)), (3, .ref aS), (2, .ref aP), (1, .ref (ad 2 20 0)), (0, .ref b)] → W p l e9 room_1 s m #[Value.ref b] below meth c H locs (640000 + 12 * j) (5400000 + 72 * j) Q (F0 m 653 ls []) := by
  have hG9 := hG
  obtain ⟨hc, hfl, hI, hon0, hon1, hon2, hA, ⟨hX9, hbl⟩, hL9, ⟨hp1, hp2⟩, ⟨hs1, hs2⟩, hps⟩ := hG
  have hx := hc.1
  have hb := hc.2.1
  have hT9 := hT
  obtain ⟨⟨r1, r2, r3, r4⟩, u1, u2, u3, u4, u5⟩ := hT
  intro n
  induction n with
  | zero =>
    intro j hj h1 H locs ls hr9 hH hR hQ9 hl
    have hH9 := hH
    obtain ⟨hP, hS, hV, ha1, ha2, hag⟩ := hH
    obtain ⟨hok, hd, h01⟩ := hV.ok
    have h12 := hok.np12
    have h150 := hok.ns150
    have enp := hok.np
    have ens := hok.ns
    refine lv_iload hx hb dL_law_653 (lv_at hl 0 rfl) ?_
    refine lv_aload_n hx hb dL_law_655 rfl (lv_at hl 6 rfl) ?_
    refine bx (As := []) (c_X9_signatures (X := X) (S := X 0) hfl hI hon0 hon1 hon2 hok hd) hc hA hP hS hl.1 (ngoodV q339 q340 q341 q1 q342) (b_rec hc hP hon2) nok_X9_signatures rfl ⟨(Nat.le_of_ble_eq_true rfl), (Nat.le_of_ble_eq_true rfl)⟩ ⟨by show _ ≤ 745879; omega, by show _ ≤ 6858280; omega⟩ dL_law_656 rfl (Nat.le_of_ble_eq_true rfl) ?_
    intro H locs hP hk hS
    replace hH9 := hH9.kept hG9 hP hk hS
    replace hR := hR.kept r1 hk
    replace hQ9 := hQ9.kept u1 hk
    rw [ens]
    obtain rfl : j = ons (X 0) := by omega
    refine lv_icmp_ge (tgt := 682) hx hb dL_law_659 (by decide) (fun _ => ?_) (fun z => absurd ((nI_leI (by omega) (by omega)).mpr (Nat.le_refl _)) z)
    refine lv_iconst (v := 0) hx hb dL_law_682 (by decide) ?_
    refine lv_istore (lv' := [(7, .int (nI 0)), (6, .ref aQ), (5, .ref aR), (4, .int (nI nv)), (3, .ref aS), (2, .ref aP), (1, .ref (ad 2 20 0)), (0, .ref b)]) hx hb dL_law_683 hl (by decide) rfl (fun ls hl => ?_)
    exact W.widen (by omega) (by omega) (y_685 hG9 hnv hend hT9 ho hr9 (onp (X 0)) 0 rfl _ H locs ls (fun i hi => absurd hi (Nat.not_lt_zero i)) hH9 hR hQ9 (lv_sub hl [0, 1, 2, 3, 4, 5, 6, 7] rfl))
  | succ n ih =>
    intro j hj h1 H locs ls hr9 hH hR hQ9 hl
    have hH9 := hH
    obtain ⟨hP, hS, hV, ha1, ha2, hag⟩ := hH
    obtain ⟨hok, hd, h01⟩ := hV.ok
    have h12 := hok.np12
    have h150 := hok.ns150
    have enp := hok.np
    have ens := hok.ns
    refine lv_iload hx hb dL_law_653 (lv_at hl 0 rfl) ?_
    refine lv_aload_n hx hb dL_law_655 rfl (lv_at hl 6 rfl) ?_
    refine bx (As := []) (c_X9_signatures (X := X) (S := X 0) hfl hI hon0 hon1 hon2 hok hd) hc hA hP hS hl.1 (ngoodV q339 q340 q341 q1 q342) (b_rec hc hP hon2) nok_X9_signatures rfl ⟨(Nat.le_of_ble_eq_true rfl), (Nat.le_of_ble_eq_true rfl)⟩ ⟨by show _ ≤ 745879; omega, by show _ ≤ 6858280; omega⟩ dL_law_656 rfl (Nat.le_of_ble_eq_true rfl) ?_
    intro H locs hP hk hS
    replace hH9 := hH9.kept hG9 hP hk hS
    replace hR := hR.kept r1 hk
    replace hQ9 := hQ9.kept u1 hk
    rw [ens]
    refine lv_icmp_ge (tgt := 682) hx hb dL_law_659 (by decide) (fun z => absurd ((nI_leI (by omega) (by omega)).mp z) (by omega)) (fun _ => ?_)
    have hjn : j < ons (X 0) := by omega
    refine lv_aload hx hb dL_law_662 (lv_at hl 2 rfl) ?_
    refine lv_iload hx hb dL_law_664 (lv_at hl 0 rfl) ?_
    refine lv_aload_n hx hb dL_law_666 rfl (lv_at hl 6 rfl) ?_
    refine lv_bipush (v := 12) hx hb dL_law_667 (by decide) ?_
    refine lv_iload hx hb dL_law_669 (lv_at hl 0 rfl) ?_
    refine lv_iconst (v := 0) hx hb dL_law_671 (by decide) ?_
    refine bqv (lk_signatureResult (X := X) hfl hI hon0 hon1 hon2 hok hd) ((lq_t (by rw [ens, decide_eq_true (nI_pos' (by omega)), decide_eq_true ((nI_ltI (by omega) (by omega)).mpr hjn)]; rfl)).trans (by rw [nix_nI (by omega)])) hc hA hP hS hl.1 rfl ⟨(Nat.le_of_ble_eq_true rfl), (Nat.le_of_ble_eq_true rfl)⟩ ⟨by show _ ≤ 745879; omega, by show _ ≤ 6858280; omega⟩ dL_law_672 rfl (Nat.le_of_ble_eq_true rfl) ?_
    intro H locs hP hk hS
    replace hH9 := hH9.kept hG9 hP hk hS
    replace hR := hR.kept r1 hk
    replace hQ9 := hQ9.kept u1 hk
    refine b_ast hc hS hR r2 (vp_in_nI (by omega) (by decide)) dL_law_675 (fun H locs hR8 oq _ hS => ?_)
    replace hP := npic_off hP r1 oq
    replace hH9 : yH s D dA ad on aP aS X nv 199 f1 f2 H locs := ⟨hP, hS, hV, hH9.2.2.2.1.off r3.symm oq, hH9.2.2.2.2.1.off r4.symm oq, hag⟩
    replace hQ9 := hQ9.off u5 oq
    rw [nix_nI (by omega)] at hR8
    refine lv_iinc (lv' := [(7, .int (nI (j + 1))), (6, .ref aQ), (5, .ref aR), (4, .int (nI nv)), (3, .ref aS), (2, .ref aP), (1, .ref (ad 2 20 0)), (0, .ref b)]) (v := (nI (j + 1))) hx hb dL_law_676 hl (k := 0) rfl (by rw [show Int32.ofInt 1 = 1 from by decide, nI_1]) (by decide) rfl (fun ls hl => ?_)
    refine lv_goto (tgt := 653) hx hb dL_law_679 (by decide) ?_
    refine W.widen (by omega) (by omega) (ih (j + 1) (by omega) _ H locs ls (fun i hi => ?_) hH9 hR8 hQ9 (lv_sub hl [0, 1, 2, 3, 4, 5, 6, 7] rfl))
    by_cases q : i = j
    · subst q; unfold upd; rw [if_pos rfl]
    · unfold upd; rw [if_neg q]; exact hr9 i (by omega)
set_option maxHeartbeats 4000000 in
set_option maxRecDepth 100000 in
theorem y_630 (hG : yG p l s m meth c b L xs D dA ad on aP aS) (hnv : nv ≤ 40) (hend : ∀ (H : Heap) (locs : List Loc) (ls : Array Slot), va_S (yA s) s.heap H locs → W p l e9 room_1 s m #[Value.ref b] below meth c H locs 745879 6858280 Q (F0 m 905 ls [.int 1])) : ∀ (X : NWd) (f1 f2 : Nat → Int32) (H : Heap) (locs : List Loc) (ls : Array Slot), yH s D dA ad on aP aS X nv 199 f1 f2 H locs → lv_has ls 14 [(4, .int (nI nv)), (3, .ref aS), (2, .ref aP), (1, .ref (ad 2 20 0)), (0, .ref b)] → W p l e9 room_1 s m #[Value.ref b] below meth c H locs (630000) (5300000) Q (F0 m 630 ls []) := by
  have hG9 := hG
  obtain ⟨hc, hfl, hI, hon0, hon1, hon2, hA, ⟨hX9, hbl⟩, hL9, ⟨hp1, hp2⟩, ⟨hs1, hs2⟩, hps⟩ := hG
  have hx := hc.1
  have hb := hc.2.1
  intro X f1 f2 H locs ls hH hl
  have hH9 := hH
  obtain ⟨hP, hS, hV, ha1, ha2, hag⟩ := hH
  obtain ⟨hok, hd, h01⟩ := hV.ok
  have h12 := hok.np12
  have h150 := hok.ns150
  have enp := hok.np
  have ens := hok.ns
  refine lv_aload_n hx hb dL_law_630 rfl (lv_at hl 3 rfl) ?_
  refine bx (As := []) (c_X9_isOpen (X := X) (S := X 0) hfl hI hon0 hon1 hon2 hok hd) hc hA hP hS hl.1 (ngoodV q327 q328 q329 q1 q330) (b_rec hc hP hon2) nok_X9_isOpen rfl ⟨(Nat.le_of_ble_eq_true rfl), (Nat.le_of_ble_eq_true rfl)⟩ ⟨by show _ ≤ 745879; omega, by show _ ≤ 6858280; omega⟩ dL_law_631 rfl (Nat.le_of_ble_eq_true rfl) ?_
  intro H locs hP hk hS
  replace hH9 := hH9.kept hG9 hP hk hS
  refine lv_if_eq (tgt := 897) hx hb dL_law_634 (by decide) (fun _ => ?_) (fun z => ?_)
  · exact W.widen (by omega) (by omega) (y_897 hG9 hnv hend X f1 f2 H locs ls (hH9.mono (by decide)) hl)
  · have ho : oOpen (X 0) = true := nb_nz.mp z
    refine lv_sipush (v := 150) hx hb dL_law_637 (by decide) ?_
    obtain ⟨-, -, -, hl1, hl2, -⟩ := hH9
    have hle := hS.1
    have t1 : aP < H.size := va_at.lt hl1
    have t2 : aS < H.size := va_at.lt hl2
    refine b_newa (z := H.size) (n9 := 150) hc hS rfl q146 (by decide) rfl (by decide) (by show _ ≤ 745879; omega) (by show _ ≤ 6858280; omega) dL_law_640 (fun H2 hR hz oq hS => ?_)
    have r1 : ¬ nA ad on H.size := fun q => Nat.lt_irrefl _ (npic_nA hP q)
    replace hP : npic D dA ad on X H2 := npic_kept hP (fun q h9 _ => oq q h9)
    replace hl1 : lAr D dA aP 150 f1 H2 := va_at.kept hl1 (oq _ t1)
    replace hl2 : lAr D dA aS 150 f2 H2 := va_at.kept hl2 (oq _ t2)
    generalize H.size = aR at hR hz oq hS r1 hle t1 t2 ⊢
    refine lv_astore (lv' := [(5, .ref aR), (4, .int (nI nv)), (3, .ref aS), (2, .ref aP), (1, .ref (ad 2 20 0)), (0, .ref b)]) hx hb dL_law_642 hl (by decide) rfl (fun ls hl => ?_)
    refine lv_bipush (v := 12) hx hb dL_law_644 (by decide) ?_
    have t3 : aR < H2.size := by omega
    refine b_newa (z := H2.size) (n9 := 12) hc hS rfl q146 (by decide) rfl (by decide) (by show _ ≤ 745879; omega) (by show _ ≤ 6858280; omega) dL_law_646 (fun H3 hQ9 hz2 oq hS => ?_)
    have u1 : ¬ nA ad on H2.size := fun q => Nat.lt_irrefl _ (npic_nA hP q)
    replace hP : npic D dA ad on X H3 := npic_kept hP (fun q h9 _ => oq q h9)
    replace hl1 : lAr D dA aP 150 f1 H3 := va_at.kept hl1 (oq _ (va_at.lt hl1))
    replace hl2 : lAr D dA aS 150 f2 H3 := va_at.kept hl2 (oq _ (va_at.lt hl2))
    replace hR : lAr D dA aR 150 (fun _ => 0) H3 := va_at.kept hR (oq _ t3)
    generalize H2.size = aQ at hQ9 hz2 oq hS u1 t3 hz ⊢
    refine lv_astore (lv' := [(6, .ref aQ), (5, .ref aR), (4, .int (nI nv)), (3, .ref aS), (2, .ref aP), (1, .ref (ad 2 20 0)), (0, .ref b)]) hx hb dL_law_648 hl (by decide) rfl (fun ls hl => ?_)
    refine lv_iconst (v := 0) hx hb dL_law_650 (by decide) ?_
    refine lv_istore (lv' := [(7, .int (nI 0)), (6, .ref aQ), (5, .ref aR), (4, .int (nI nv)), (3, .ref aS), (2, .ref aP), (1, .ref (ad 2 20 0)), (0, .ref b)]) hx hb dL_law_651 hl (by decide) rfl (fun ls hl => ?_)
    have hT : yT s ad on aP aS aR aQ := ⟨⟨r1, hle, by omega, by omega⟩, u1, by omega, by omega, by omega, by omega⟩
    exact W.widen (by omega) (by omega) (y_653 hG9 hnv hend hT ho (ons (X 0)) 0 rfl _ H3 locs ls (fun i hi => absurd hi (Nat.not_lt_zero i)) ⟨hP, hS, hV, hl1, hl2, hag⟩ hR hQ9 (lv_sub hl [0, 1, 2, 3, 4, 5, 6, 7] rfl))
end YF
