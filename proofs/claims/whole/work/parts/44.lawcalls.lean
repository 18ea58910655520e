/-! The law's own methods, one by one. -/
def lPi (hc : Nat → Int32) (G : Nat ⊕ (Int32 × NWd)) (fo : Int32 → Int64) (X : NWd) : Int32 → LSt → Prop := fun r u => (∃ k, G = .inl k ∧ r = hc k ∧ u.1 = X) ∨ ∃ v X', G = .inr (v, X') ∧ r = 0 ∧ u.1 = X' ∧ u.2.1 = fo v
def lPd (hc : Nat → Int32) (G : Nat ⊕ (UInt64 × NWd)) (fo : UInt64 → UInt64) (X : NWd) : Int32 → LSt → Prop := fun r u => (∃ k, G = .inl k ∧ r = hc k ∧ u.1 = X) ∨ ∃ v X', G = .inr (v, X') ∧ r = 0 ∧ u.1 = X' ∧ u.2.2 = fo v
def lPf (hc : Nat → Int32) (G : Nat ⊕ (UInt32 × NWd)) (fo : UInt32 → UInt64) (X : NWd) : Int32 → LSt → Prop := fun r u => (∃ k, G = .inl k ∧ r = hc k ∧ u.1 = X) ∨ ∃ v X', G = .inr (v, X') ∧ r = 0 ∧ u.1 = X' ∧ u.2.2 = fo v
def lPy (hc : Nat → Int32) (G : Nat ⊕ (Int32 × NWd)) (fo : Int32 → Int64) (X : NWd) : Int32 → LSt → Prop := fun r u => (∃ k, G = .inl k ∧ r = hc k ∧ (u.1 = wdo X 0 (X 0) ∨ ∃ x, u.1 = wdo X 0 (oG (X 0) x).2)) ∨ ∃ v X', G = .inr (v, X') ∧ r = 0 ∧ u.1 = X' ∧ u.2.1 = fo v
section LM
variable {l : Launch} {D : va_G} {dA : Nat → ClassId} {ad : Nat → Nat → Nat → Nat} {on : Nat → Prop} {cL cD : ClassId} {aL aD : Nat} {X : NWd} {vL : Int64} {vD : UInt64}
set_option maxHeartbeats 4000000 in
theorem lw_setCalendar (hfl : l.stackTraces = false) (hI : ninj ad on) (hs : lsep ad on aL aD) (hon0 : on 0) (hon1 : on 1) (hon2 : on 2) (hok : oOk (X 0)) (hd : vp_in (X 2 21 0 4) 513) {a b c : Int32} : lM l D dA ad on cL cD aL aD yL_setCalendar cL_setCalendar 6 [(0, 12, 15, 13), (0, 12, 19, 15)] [.ref (ad 2 20 0), .int a, .int b, .int c, .ref aL] (wdo X 0 (X 0), vL, vD) (lPi (fun k => if k = 0 then 1 else if k = 1 then 2 else 0) (nG (decide (0 ≤ a) && decide (a ≤ b) && decide (b < c) && decide (c ≤ 60)) 0 (nG (decide ((X 0) 1 0 0 = 0) && decide ((X 0) 0 0 6 ≤ 0)) 1 (.inr ((X 0) 1 0 3, nEv X (X 0) 0 a b c))) : Nat ⊕ (Int32 × NWd)) (fun v => v.toInt64) (wdo X 0 (X 0))) := by
  refine lM_of hI hs rfl (by decide +kernel) (Nat.le_of_ble_eq_true rfl) ?_
  intro p e s m args below meth cd ls hc hr hP hl hS
  have hx := hc.1
  have hb := hc.2.1
  have hl : lv_has ls 6 [(0, .ref (ad 2 20 0)), (1, .int a), (2, .int b), (3, .int c), (4, .ref aL)] := hl
  refine lv_aload hx hb dL_setCalendar_0 (lv_at hl 4 rfl) ?_
  refine lv_iconst (v := 0) hx hb dL_setCalendar_2 (by decide) ?_
  refine lv_aload_n hx hb dL_setCalendar_3 rfl (lv_at hl 0 rfl) ?_
  refine lv_iload_n hx hb dL_setCalendar_4 rfl (lv_at hl 1 rfl) ?_
  refine lv_iload_n hx hb dL_setCalendar_5 rfl (lv_at hl 2 rfl) ?_
  refine lv_iload_n hx hb dL_setCalendar_6 rfl (lv_at hl 3 rfl) ?_
  refine l_Xi (X := wdo X 0 (X 0)) (As := [.int a, .int b, .int c]) (rest := [.int 0, .ref aL]) (c_X9_setCalendar (S := X 0) (a := a) (b := b) (c := c) hfl hI hon0 hon1 hon2 hok hd) hc hP hS hl.1 (ngoodV q388 q389 q390 q1 q391) (l_recv hc hP.1 hon2) nok_X9_setCalendar rfl ⟨(Nat.le_of_ble_eq_true rfl), (Nat.le_of_ble_eq_true rfl)⟩ ⟨(Nat.le_of_ble_eq_true rfl), (Nat.le_of_ble_eq_true rfl)⟩ dL_setCalendar_7 rfl (Nat.le_of_ble_eq_true rfl) ?_ ?_
  · intro k ce q9 H locs hE hP hS hcell hv hcl
    have hE9 : (nG (decide (0 ≤ a) && decide (a ≤ b) && decide (b < c) && decide (c ≤ 60)) 0 (nG (decide ((X 0) 1 0 0 = 0) && decide ((X 0) 0 0 6 ≤ 0)) 1 (.inr ((X 0) 1 0 3, nEv X (X 0) 0 a b c))) : Nat ⊕ (Int32 × NWd)) = .inl k := hE
    have hks : k = 0 ∨ k = 1 := by
      rcases nG_inl hE9 with h9 | h9
      · exact Or.inl h9
      · skip
        rcases nG_inl h9 with h9 | h9
        · exact Or.inr (h9)
        · cases h9
    rcases hks with rfl | rfl
    · refine l_catch (k := 0) (sp := 0) (ep := 12) (hp := 15) (pre := []) (suf := [(0, 12, 19, 15)]) hc (by decide) rfl ?_ ⟨by decide, by decide⟩ hcell hv hcl ?_
      · intro z hz; cases hz
      · skip
        refine lv_astore (lv' := [(5, .ref _), (0, .ref _), (1, .int _), (2, .int _), (3, .int _), (4, .ref _)]) hx hb dL_setCalendar_15 hl (by decide) rfl (fun ls hl => ?_)
        refine lv_iconst (v := 1) hx hb dL_setCalendar_17 (by decide) ?_
        exact l_end hc hP hS hr dL_setCalendar_18 (Nat.le_of_ble_eq_true rfl) (Nat.le_of_ble_eq_true rfl) (Or.inl ⟨0, hE9, rfl, rfl⟩)
    · refine l_catch (k := 1) (sp := 0) (ep := 12) (hp := 19) (pre := [(0, 12, 15, 13)]) (suf := []) hc (by decide) rfl ?_ ⟨by decide, by decide⟩ hcell hv hcl ?_
      · intro z hz
        simp only [List.mem_cons, List.not_mem_nil, or_false] at hz
        subst hz
        exact ⟨0, by decide, by decide, rfl⟩
      · skip
        refine lv_astore (lv' := [(5, .ref _), (0, .ref _), (1, .int _), (2, .int _), (3, .int _), (4, .ref _)]) hx hb dL_setCalendar_19 hl (by decide) rfl (fun ls hl => ?_)
        refine lv_iconst (v := 2) hx hb dL_setCalendar_21 (by decide) ?_
        exact l_end hc hP hS hr dL_setCalendar_22 (Nat.le_of_ble_eq_true rfl) (Nat.le_of_ble_eq_true rfl) (Or.inl ⟨1, hE9, rfl, rfl⟩)
  · intro r X2 H locs hp hP hS
    refine lv_i2l (v := _) hx hb dL_setCalendar_10 rfl ?_
    refine l_lst hc hP hS dL_setCalendar_11 (fun H locs hP hS => ?_)
    refine lv_goto (tgt := 23) hx hb dL_setCalendar_12 (by decide) ?_
    refine lv_iconst (v := 0) hx hb dL_setCalendar_23 (by decide) ?_
    exact l_end hc hP hS hr dL_setCalendar_24 (Nat.le_of_ble_eq_true rfl) (Nat.le_of_ble_eq_true rfl) (Or.inr ⟨r, X2, hp, rfl, rfl, rfl⟩)
set_option maxHeartbeats 4000000 in
theorem lw_pass (hfl : l.stackTraces = false) (hI : ninj ad on) (hs : lsep ad on aL aD) (hon0 : on 0) (hon1 : on 1) (hon2 : on 2) (hok : oOk (X 0)) (hd : vp_in (X 2 21 0 4) 513) {a : Int32} : lM l D dA ad on cL cD aL aD yL_pass cL_pass 4 [(0, 9, 12, 13), (0, 9, 15, 15)] [.ref (ad 2 20 0), .int a, .ref aL] (wdo X 0 (X 0), vL, vD) (lPi (fun k => if k = 0 then 1 else if k = 1 then 2 else 0) (nG (decide (1 ≤ a) && decide (a ≤ 30)) 0 (nG (decide ((X 0) 1 0 0 + a ≤ 99)) 1 (.inr (nJ (X 0) 1 a 0 0 1 0 0, nEv X (X 0) 1 a 0 0))) : Nat ⊕ (Int32 × NWd)) (fun v => v.toInt64) (wdo X 0 (X 0))) := by
  refine lM_of hI hs rfl (by decide +kernel) (Nat.le_of_ble_eq_true rfl) ?_
  intro p e s m args below meth cd ls hc hr hP hl hS
  have hx := hc.1
  have hb := hc.2.1
  have hl : lv_has ls 4 [(0, .ref (ad 2 20 0)), (1, .int a), (2, .ref aL)] := hl
  refine lv_aload_n hx hb dL_pass_0 rfl (lv_at hl 2 rfl) ?_
  refine lv_iconst (v := 0) hx hb dL_pass_1 (by decide) ?_
  refine lv_aload_n hx hb dL_pass_2 rfl (lv_at hl 0 rfl) ?_
  refine lv_iload_n hx hb dL_pass_3 rfl (lv_at hl 1 rfl) ?_
  refine l_Xi (X := wdo X 0 (X 0)) (As := [.int a]) (rest := [.int 0, .ref aL]) (c_X9_pass (S := X 0) (a := a) hfl hI hon0 hon1 hon2 hok hd) hc hP hS hl.1 (ngoodV q566 q567 q568 q1 q569) (l_recv hc hP.1 hon2) nok_X9_pass rfl ⟨(Nat.le_of_ble_eq_true rfl), (Nat.le_of_ble_eq_true rfl)⟩ ⟨(Nat.le_of_ble_eq_true rfl), (Nat.le_of_ble_eq_true rfl)⟩ dL_pass_4 rfl (Nat.le_of_ble_eq_true rfl) ?_ ?_
  · intro k ce q9 H locs hE hP hS hcell hv hcl
    have hE9 : (nG (decide (1 ≤ a) && decide (a ≤ 30)) 0 (nG (decide ((X 0) 1 0 0 + a ≤ 99)) 1 (.inr (nJ (X 0) 1 a 0 0 1 0 0, nEv X (X 0) 1 a 0 0))) : Nat ⊕ (Int32 × NWd)) = .inl k := hE
    have hks : k = 0 ∨ k = 1 := by
      rcases nG_inl hE9 with h9 | h9
      · exact Or.inl h9
      · skip
        rcases nG_inl h9 with h9 | h9
        · exact Or.inr (h9)
        · cases h9
    rcases hks with rfl | rfl
    · refine l_catch (k := 0) (sp := 0) (ep := 9) (hp := 12) (pre := []) (suf := [(0, 9, 15, 15)]) hc (by decide) rfl ?_ ⟨by decide, by decide⟩ hcell hv hcl ?_
      · intro z hz; cases hz
      · skip
        refine lv_astore_n (lv' := [(3, .ref _), (0, .ref _), (1, .int _), (2, .ref _)]) hx hb dL_pass_12 rfl hl (by decide) rfl (fun ls hl => ?_)
        refine lv_iconst (v := 1) hx hb dL_pass_13 (by decide) ?_
        exact l_end hc hP hS hr dL_pass_14 (Nat.le_of_ble_eq_true rfl) (Nat.le_of_ble_eq_true rfl) (Or.inl ⟨0, hE9, rfl, rfl⟩)
    · refine l_catch (k := 1) (sp := 0) (ep := 9) (hp := 15) (pre := [(0, 9, 12, 13)]) (suf := []) hc (by decide) rfl ?_ ⟨by decide, by decide⟩ hcell hv hcl ?_
      · intro z hz
        simp only [List.mem_cons, List.not_mem_nil, or_false] at hz
        subst hz
        exact ⟨0, by decide, by decide, rfl⟩
      · skip
        refine lv_astore_n (lv' := [(3, .ref _), (0, .ref _), (1, .int _), (2, .ref _)]) hx hb dL_pass_15 rfl hl (by decide) rfl (fun ls hl => ?_)
        refine lv_iconst (v := 2) hx hb dL_pass_16 (by decide) ?_
        exact l_end hc hP hS hr dL_pass_17 (Nat.le_of_ble_eq_true rfl) (Nat.le_of_ble_eq_true rfl) (Or.inl ⟨1, hE9, rfl, rfl⟩)
  · intro r X2 H locs hp hP hS
    refine lv_i2l (v := _) hx hb dL_pass_7 rfl ?_
    refine l_lst hc hP hS dL_pass_8 (fun H locs hP hS => ?_)
    refine lv_goto (tgt := 18) hx hb dL_pass_9 (by decide) ?_
    refine lv_iconst (v := 0) hx hb dL_pass_18 (by decide) ?_
    exact l_end hc hP hS hr dL_pass_19 (Nat.le_of_ble_eq_true rfl) (Nat.le_of_ble_eq_true rfl) (Or.inr ⟨r, X2, hp, rfl, rfl, rfl⟩)
set_option maxHeartbeats 4000000 in
theorem lw_addArea (hfl : l.stackTraces = false) (hI : ninj ad on) (hs : lsep ad on aL aD) (hon0 : on 0) (hon1 : on 1) (hon2 : on 2) (hok : oOk (X 0)) (hd : vp_in (X 2 21 0 4) 513) {a b : Int32} : lM l D dA ad on cL cD aL aD yL_addArea cL_addArea 5 [(0, 10, 13, 13), (0, 10, 17, 15)] [.ref (ad 2 20 0), .int a, .int b, .ref aL] (wdo X 0 (X 0), vL, vD) (lPi (fun k => if k = 0 then 1 else if k = 1 then 2 else 0) (nG (decide (1 ≤ a) && decide (a ≤ 10) && decide (0 ≤ b) && decide (b ≤ 1000)) 0 (nG (decide ((X 0) 2 0 2 < 5)) 1 (.inr (nJ (X 0) 2 a b 0 2 0 2 - 1, nEv X (X 0) 2 a b 0))) : Nat ⊕ (Int32 × NWd)) (fun v => v.toInt64) (wdo X 0 (X 0))) := by
  refine lM_of hI hs rfl (by decide +kernel) (Nat.le_of_ble_eq_true rfl) ?_
  intro p e s m args below meth cd ls hc hr hP hl hS
  have hx := hc.1
  have hb := hc.2.1
  have hl : lv_has ls 5 [(0, .ref (ad 2 20 0)), (1, .int a), (2, .int b), (3, .ref aL)] := hl
  refine lv_aload_n hx hb dL_addArea_0 rfl (lv_at hl 3 rfl) ?_
  refine lv_iconst (v := 0) hx hb dL_addArea_1 (by decide) ?_
  refine lv_aload_n hx hb dL_addArea_2 rfl (lv_at hl 0 rfl) ?_
  refine lv_iload_n hx hb dL_addArea_3 rfl (lv_at hl 1 rfl) ?_
  refine lv_iload_n hx hb dL_addArea_4 rfl (lv_at hl 2 rfl) ?_
  refine l_Xi (X := wdo X 0 (X 0)) (As := [.int a, .int b]) (rest := [.int 0, .ref aL]) (c_X9_addArea (S := X 0) (a := a) (b := b) hfl hI hon0 hon1 hon2 hok hd) hc hP hS hl.1 (ngoodV q575 q576 q577 q1 q578) (l_recv hc hP.1 hon2) nok_X9_addArea rfl ⟨(Nat.le_of_ble_eq_true rfl), (Nat.le_of_ble_eq_true rfl)⟩ ⟨(Nat.le_of_ble_eq_true rfl), (Nat.le_of_ble_eq_true rfl)⟩ dL_addArea_5 rfl (Nat.le_of_ble_eq_true rfl) ?_ ?_
  · intro k ce q9 H locs hE hP hS hcell hv hcl
    have hE9 : (nG (decide (1 ≤ a) && decide (a ≤ 10) && decide (0 ≤ b) && decide (b ≤ 1000)) 0 (nG (decide ((X 0) 2 0 2 < 5)) 1 (.inr (nJ (X 0) 2 a b 0 2 0 2 - 1, nEv X (X 0) 2 a b 0))) : Nat ⊕ (Int32 × NWd)) = .inl k := hE
    have hks : k = 0 ∨ k = 1 := by
      rcases nG_inl hE9 with h9 | h9
      · exact Or.inl h9
      · skip
        rcases nG_inl h9 with h9 | h9
        · exact Or.inr (h9)
        · cases h9
    rcases hks with rfl | rfl
    · refine l_catch (k := 0) (sp := 0) (ep := 10) (hp := 13) (pre := []) (suf := [(0, 10, 17, 15)]) hc (by decide) rfl ?_ ⟨by decide, by decide⟩ hcell hv hcl ?_
      · intro z hz; cases hz
      · skip
        refine lv_astore (lv' := [(4, .ref _), (0, .ref _), (1, .int _), (2, .int _), (3, .ref _)]) hx hb dL_addArea_13 hl (by decide) rfl (fun ls hl => ?_)
        refine lv_iconst (v := 1) hx hb dL_addArea_15 (by decide) ?_
        exact l_end hc hP hS hr dL_addArea_16 (Nat.le_of_ble_eq_true rfl) (Nat.le_of_ble_eq_true rfl) (Or.inl ⟨0, hE9, rfl, rfl⟩)
    · refine l_catch (k := 1) (sp := 0) (ep := 10) (hp := 17) (pre := [(0, 10, 13, 13)]) (suf := []) hc (by decide) rfl ?_ ⟨by decide, by decide⟩ hcell hv hcl ?_
      · intro z hz
        simp only [List.mem_cons, List.not_mem_nil, or_false] at hz
        subst hz
        exact ⟨0, by decide, by decide, rfl⟩
      · skip
        refine lv_astore (lv' := [(4, .ref _), (0, .ref _), (1, .int _), (2, .int _), (3, .ref _)]) hx hb dL_addArea_17 hl (by decide) rfl (fun ls hl => ?_)
        refine lv_iconst (v := 2) hx hb dL_addArea_19 (by decide) ?_
        exact l_end hc hP hS hr dL_addArea_20 (Nat.le_of_ble_eq_true rfl) (Nat.le_of_ble_eq_true rfl) (Or.inl ⟨1, hE9, rfl, rfl⟩)
  · intro r X2 H locs hp hP hS
    refine lv_i2l (v := _) hx hb dL_addArea_8 rfl ?_
    refine l_lst hc hP hS dL_addArea_9 (fun H locs hP hS => ?_)
    refine lv_goto (tgt := 21) hx hb dL_addArea_10 (by decide) ?_
    refine lv_iconst (v := 0) hx hb dL_addArea_21 (by decide) ?_
    exact l_end hc hP hS hr dL_addArea_22 (Nat.le_of_ble_eq_true rfl) (Nat.le_of_ble_eq_true rfl) (Or.inr ⟨r, X2, hp, rfl, rfl, rfl⟩)
set_option maxHeartbeats 4000000 in
theorem lw_addVoter (hfl : l.stackTraces = false) (hI : ninj ad on) (hs : lsep ad on aL aD) (hon0 : on 0) (hon1 : on 1) (hon2 : on 2) (hok : oOk (X 0)) (hd : vp_in (X 2 21 0 4) 513) {a : Int32} : lM l D dA ad on cL cD aL aD yL_addVoter cL_addVoter 4 [(0, 9, 12, 28), (0, 9, 15, 15)] [.ref (ad 2 20 0), .int a, .ref aL] (wdo X 0 (X 0), vL, vD) (lPi (fun k => if k = 2 then 1 else if k = 1 then 2 else 0) (nG (inB a (ona (X 0))) 2 (nG (decide ((X 0) 2 0 3 < 40)) 1 (.inr (nJ (X 0) 3 a 0 0 2 0 3 - 1, nEv X (X 0) 3 a 0 0))) : Nat ⊕ (Int32 × NWd)) (fun v => v.toInt64) (wdo X 0 (X 0))) := by
  refine lM_of hI hs rfl (by decide +kernel) (Nat.le_of_ble_eq_true rfl) ?_
  intro p e s m args below meth cd ls hc hr hP hl hS
  have hx := hc.1
  have hb := hc.2.1
  have hl : lv_has ls 4 [(0, .ref (ad 2 20 0)), (1, .int a), (2, .ref aL)] := hl
  refine lv_aload_n hx hb dL_addVoter_0 rfl (lv_at hl 2 rfl) ?_
  refine lv_iconst (v := 0) hx hb dL_addVoter_1 (by decide) ?_
  refine lv_aload_n hx hb dL_addVoter_2 rfl (lv_at hl 0 rfl) ?_
  refine lv_iload_n hx hb dL_addVoter_3 rfl (lv_at hl 1 rfl) ?_
  refine l_Xi (X := wdo X 0 (X 0)) (As := [.int a]) (rest := [.int 0, .ref aL]) (c_X9_addVoter (S := X 0) (a := a) hfl hI hon0 hon1 hon2 hok hd) hc hP hS hl.1 (ngoodV q608 q609 q610 q1 q611) (l_recv hc hP.1 hon2) nok_X9_addVoter rfl ⟨(Nat.le_of_ble_eq_true rfl), (Nat.le_of_ble_eq_true rfl)⟩ ⟨(Nat.le_of_ble_eq_true rfl), (Nat.le_of_ble_eq_true rfl)⟩ dL_addVoter_4 rfl (Nat.le_of_ble_eq_true rfl) ?_ ?_
  · intro k ce q9 H locs hE hP hS hcell hv hcl
    have hE9 : (nG (inB a (ona (X 0))) 2 (nG (decide ((X 0) 2 0 3 < 40)) 1 (.inr (nJ (X 0) 3 a 0 0 2 0 3 - 1, nEv X (X 0) 3 a 0 0))) : Nat ⊕ (Int32 × NWd)) = .inl k := hE
    have hks : k = 2 ∨ k = 1 := by
      rcases nG_inl hE9 with h9 | h9
      · exact Or.inl h9
      · skip
        rcases nG_inl h9 with h9 | h9
        · exact Or.inr (h9)
        · cases h9
    rcases hks with rfl | rfl
    · refine l_catch (k := 2) (sp := 0) (ep := 9) (hp := 12) (pre := []) (suf := [(0, 9, 15, 15)]) hc (by decide) rfl ?_ ⟨by decide, by decide⟩ hcell hv hcl ?_
      · intro z hz; cases hz
      · skip
        refine lv_astore_n (lv' := [(3, .ref _), (0, .ref _), (1, .int _), (2, .ref _)]) hx hb dL_addVoter_12 rfl hl (by decide) rfl (fun ls hl => ?_)
        refine lv_iconst (v := 1) hx hb dL_addVoter_13 (by decide) ?_
        exact l_end hc hP hS hr dL_addVoter_14 (Nat.le_of_ble_eq_true rfl) (Nat.le_of_ble_eq_true rfl) (Or.inl ⟨2, hE9, rfl, rfl⟩)
    · refine l_catch (k := 1) (sp := 0) (ep := 9) (hp := 15) (pre := [(0, 9, 12, 28)]) (suf := []) hc (by decide) rfl ?_ ⟨by decide, by decide⟩ hcell hv hcl ?_
      · intro z hz
        simp only [List.mem_cons, List.not_mem_nil, or_false] at hz
        subst hz
        exact ⟨2, by decide, by decide, rfl⟩
      · skip
        refine lv_astore_n (lv' := [(3, .ref _), (0, .ref _), (1, .int _), (2, .ref _)]) hx hb dL_addVoter_15 rfl hl (by decide) rfl (fun ls hl => ?_)
        refine lv_iconst (v := 2) hx hb dL_addVoter_16 (by decide) ?_
        exact l_end hc hP hS hr dL_addVoter_17 (Nat.le_of_ble_eq_true rfl) (Nat.le_of_ble_eq_true rfl) (Or.inl ⟨1, hE9, rfl, rfl⟩)
  · intro r X2 H locs hp hP hS
    refine lv_i2l (v := _) hx hb dL_addVoter_7 rfl ?_
    refine l_lst hc hP hS dL_addVoter_8 (fun H locs hP hS => ?_)
    refine lv_goto (tgt := 18) hx hb dL_addVoter_9 (by decide) ?_
    refine lv_iconst (v := 0) hx hb dL_addVoter_18 (by decide) ?_
    exact l_end hc hP hS hr dL_addVoter_19 (Nat.le_of_ble_eq_true rfl) (Nat.le_of_ble_eq_true rfl) (Or.inr ⟨r, X2, hp, rfl, rfl, rfl⟩)
set_option maxHeartbeats 4000000 in
theorem lw_move (hfl : l.stackTraces = false) (hI : ninj ad on) (hs : lsep ad on aL aD) (hon0 : on 0) (hon1 : on 1) (hon2 : on 2) (hok : oOk (X 0)) (hd : vp_in (X 2 21 0 4) 513) {v a : Int32} : lM l D dA ad on cL cD aL aD yL_move cL_move 5 [(0, 10, 13, 28), (0, 10, 17, 33)] [.ref (ad 2 20 0), .int v, .int a, .ref aL] (wdo X 0 (X 0), vL, vD) (lPi (fun k => if k = 2 then 1 else if k = 3 then 2 else 0) (nG (inB v (onv (X 0))) 2 (nG (inB a (ona (X 0))) 2 (nG (!decide ((X 0) 6 (nix v) 0 = a)) 3 (.inr ((X 0) 6 (nix v) 0, nEv X (X 0) 4 v a 0)))) : Nat ⊕ (Int32 × NWd)) (fun v => v.toInt64) (wdo X 0 (X 0))) := by
  refine lM_of hI hs rfl (by decide +kernel) (Nat.le_of_ble_eq_true rfl) ?_
  intro p e s m args below meth cd ls hc hr hP hl hS
  have hx := hc.1
  have hb := hc.2.1
  have hl : lv_has ls 5 [(0, .ref (ad 2 20 0)), (1, .int v), (2, .int a), (3, .ref aL)] := hl
  refine lv_aload_n hx hb dL_move_0 rfl (lv_at hl 3 rfl) ?_
  refine lv_iconst (v := 0) hx hb dL_move_1 (by decide) ?_
  refine lv_aload_n hx hb dL_move_2 rfl (lv_at hl 0 rfl) ?_
  refine lv_iload_n hx hb dL_move_3 rfl (lv_at hl 1 rfl) ?_
  refine lv_iload_n hx hb dL_move_4 rfl (lv_at hl 2 rfl) ?_
  refine l_Xi (X := wdo X 0 (X 0)) (As := [.int v, .int a]) (rest := [.int 0, .ref aL]) (c_X9_move (S := X 0) (v := v) (a := a) hfl hI hon0 hon1 hon2 hok hd) hc hP hS hl.1 (ngoodV q634 q635 q636 q1 q637) (l_recv hc hP.1 hon2) nok_X9_move rfl ⟨(Nat.le_of_ble_eq_true rfl), (Nat.le_of_ble_eq_true rfl)⟩ ⟨(Nat.le_of_ble_eq_true rfl), (Nat.le_of_ble_eq_true rfl)⟩ dL_move_5 rfl (Nat.le_of_ble_eq_true rfl) ?_ ?_
  · intro k ce q9 H locs hE hP hS hcell hv hcl
    have hE9 : (nG (inB v (onv (X 0))) 2 (nG (inB a (ona (X 0))) 2 (nG (!decide ((X 0) 6 (nix v) 0 = a)) 3 (.inr ((X 0) 6 (nix v) 0, nEv X (X 0) 4 v a 0)))) : Nat ⊕ (Int32 × NWd)) = .inl k := hE
    have hks : k = 2 ∨ k = 3 := by
      rcases nG_inl hE9 with h9 | h9
      · exact Or.inl h9
      · skip
        rcases nG_inl h9 with h9 | h9
        · exact Or.inl h9
        · skip
          rcases nG_inl h9 with h9 | h9
          · exact Or.inr (h9)
          · cases h9
    rcases hks with rfl | rfl
    · refine l_catch (k := 2) (sp := 0) (ep := 10) (hp := 13) (pre := []) (suf := [(0, 10, 17, 33)]) hc (by decide) rfl ?_ ⟨by decide, by decide⟩ hcell hv hcl ?_
      · intro z hz; cases hz
      · skip
        refine lv_astore (lv' := [(4, .ref _), (0, .ref _), (1, .int _), (2, .int _), (3, .ref _)]) hx hb dL_move_13 hl (by decide) rfl (fun ls hl => ?_)
        refine lv_iconst (v := 1) hx hb dL_move_15 (by decide) ?_
        exact l_end hc hP hS hr dL_move_16 (Nat.le_of_ble_eq_true rfl) (Nat.le_of_ble_eq_true rfl) (Or.inl ⟨2, hE9, rfl, rfl⟩)
    · refine l_catch (k := 3) (sp := 0) (ep := 10) (hp := 17) (pre := [(0, 10, 13, 28)]) (suf := []) hc (by decide) rfl ?_ ⟨by decide, by decide⟩ hcell hv hcl ?_
      · intro z hz
        simp only [List.mem_cons, List.not_mem_nil, or_false] at hz
        subst hz
        exact ⟨2, by decide, by decide, rfl⟩
      · skip
        refine lv_astore (lv' := [(4, .ref _), (0, .ref _), (1, .int _), (2, .int _), (3, .ref _)]) hx hb dL_move_17 hl (by decide) rfl (fun ls hl => ?_)
        refine lv_iconst (v := 2) hx hb dL_move_19 (by decide) ?_
        exact l_end hc hP hS hr dL_move_20 (Nat.le_of_ble_eq_true rfl) (Nat.le_of_ble_eq_true rfl) (Or.inl ⟨3, hE9, rfl, rfl⟩)
  · intro r X2 H locs hp hP hS
    refine lv_i2l (v := _) hx hb dL_move_8 rfl ?_
    refine l_lst hc hP hS dL_move_9 (fun H locs hP hS => ?_)
    refine lv_goto (tgt := 21) hx hb dL_move_10 (by decide) ?_
    refine lv_iconst (v := 0) hx hb dL_move_21 (by decide) ?_
    exact l_end hc hP hS hr dL_move_22 (Nat.le_of_ble_eq_true rfl) (Nat.le_of_ble_eq_true rfl) (Or.inr ⟨r, X2, hp, rfl, rfl, rfl⟩)
set_option maxHeartbeats 4000000 in
theorem lw_strike (hfl : l.stackTraces = false) (hI : ninj ad on) (hs : lsep ad on aL aD) (hon0 : on 0) (hon1 : on 1) (hon2 : on 2) (hok : oOk (X 0)) (hd : vp_in (X 2 21 0 4) 513) {v : Int32} : lM l D dA ad on cL cD aL aD yL_strike cL_strike 4 [(0, 9, 12, 28), (0, 9, 15, 15)] [.ref (ad 2 20 0), .int v, .ref aL] (wdo X 0 (X 0), vL, vD) (lPi (fun k => if k = 2 then 1 else if k = 1 then 2 else 0) (nG (inB v (onv (X 0))) 2 (nG (!decide ((X 0) 6 (nix v) 1 = 0)) 1 (.inr (oRoll (nJ (X 0) 5 v 0 0), nEv X (X 0) 5 v 0 0))) : Nat ⊕ (Int32 × NWd)) (fun v => v.toInt64) (wdo X 0 (X 0))) := by
  refine lM_of hI hs rfl (by decide +kernel) (Nat.le_of_ble_eq_true rfl) ?_
  intro p e s m args below meth cd ls hc hr hP hl hS
  have hx := hc.1
  have hb := hc.2.1
  have hl : lv_has ls 4 [(0, .ref (ad 2 20 0)), (1, .int v), (2, .ref aL)] := hl
  refine lv_aload_n hx hb dL_strike_0 rfl (lv_at hl 2 rfl) ?_
  refine lv_iconst (v := 0) hx hb dL_strike_1 (by decide) ?_
  refine lv_aload_n hx hb dL_strike_2 rfl (lv_at hl 0 rfl) ?_
  refine lv_iload_n hx hb dL_strike_3 rfl (lv_at hl 1 rfl) ?_
  refine l_Xi (X := wdo X 0 (X 0)) (As := [.int v]) (rest := [.int 0, .ref aL]) (c_X9_strike (S := X 0) (v := v) hfl hI hon0 hon1 hon2 hok hd) hc hP hS hl.1 (ngoodV q662 q663 q664 q1 q665) (l_recv hc hP.1 hon2) nok_X9_strike rfl ⟨(Nat.le_of_ble_eq_true rfl), (Nat.le_of_ble_eq_true rfl)⟩ ⟨(Nat.le_of_ble_eq_true rfl), (Nat.le_of_ble_eq_true rfl)⟩ dL_strike_4 rfl (Nat.le_of_ble_eq_true rfl) ?_ ?_
  · intro k ce q9 H locs hE hP hS hcell hv hcl
    have hE9 : (nG (inB v (onv (X 0))) 2 (nG (!decide ((X 0) 6 (nix v) 1 = 0)) 1 (.inr (oRoll (nJ (X 0) 5 v 0 0), nEv X (X 0) 5 v 0 0))) : Nat ⊕ (Int32 × NWd)) = .inl k := hE
    have hks : k = 2 ∨ k = 1 := by
      rcases nG_inl hE9 with h9 | h9
      · exact Or.inl h9
      · skip
        rcases nG_inl h9 with h9 | h9
        · exact Or.inr (h9)
        · cases h9
    rcases hks with rfl | rfl
    · refine l_catch (k := 2) (sp := 0) (ep := 9) (hp := 12) (pre := []) (suf := [(0, 9, 15, 15)]) hc (by decide) rfl ?_ ⟨by decide, by decide⟩ hcell hv hcl ?_
      · intro z hz; cases hz
      · skip
        refine lv_astore_n (lv' := [(3, .ref _), (0, .ref _), (1, .int _), (2, .ref _)]) hx hb dL_strike_12 rfl hl (by decide) rfl (fun ls hl => ?_)
        refine lv_iconst (v := 1) hx hb dL_strike_13 (by decide) ?_
        exact l_end hc hP hS hr dL_strike_14 (Nat.le_of_ble_eq_true rfl) (Nat.le_of_ble_eq_true rfl) (Or.inl ⟨2, hE9, rfl, rfl⟩)
    · refine l_catch (k := 1) (sp := 0) (ep := 9) (hp := 15) (pre := [(0, 9, 12, 28)]) (suf := []) hc (by decide) rfl ?_ ⟨by decide, by decide⟩ hcell hv hcl ?_
      · intro z hz
        simp only [List.mem_cons, List.not_mem_nil, or_false] at hz
        subst hz
        exact ⟨2, by decide, by decide, rfl⟩
      · skip
        refine lv_astore_n (lv' := [(3, .ref _), (0, .ref _), (1, .int _), (2, .ref _)]) hx hb dL_strike_15 rfl hl (by decide) rfl (fun ls hl => ?_)
        refine lv_iconst (v := 2) hx hb dL_strike_16 (by decide) ?_
        exact l_end hc hP hS hr dL_strike_17 (Nat.le_of_ble_eq_true rfl) (Nat.le_of_ble_eq_true rfl) (Or.inl ⟨1, hE9, rfl, rfl⟩)
  · intro r X2 H locs hp hP hS
    refine lv_i2l (v := _) hx hb dL_strike_7 rfl ?_
    refine l_lst hc hP hS dL_strike_8 (fun H locs hP hS => ?_)
    refine lv_goto (tgt := 18) hx hb dL_strike_9 (by decide) ?_
    refine lv_iconst (v := 0) hx hb dL_strike_18 (by decide) ?_
    exact l_end hc hP hS hr dL_strike_19 (Nat.le_of_ble_eq_true rfl) (Nat.le_of_ble_eq_true rfl) (Or.inr ⟨r, X2, hp, rfl, rfl, rfl⟩)
set_option maxHeartbeats 4000000 in
theorem lw_restore (hfl : l.stackTraces = false) (hI : ninj ad on) (hs : lsep ad on aL aD) (hon0 : on 0) (hon1 : on 1) (hon2 : on 2) (hok : oOk (X 0)) (hd : vp_in (X 2 21 0 4) 513) {v : Int32} : lM l D dA ad on cL cD aL aD yL_restore cL_restore 4 [(0, 9, 12, 28), (0, 9, 15, 15)] [.ref (ad 2 20 0), .int v, .ref aL] (wdo X 0 (X 0), vL, vD) (lPi (fun k => if k = 2 then 1 else if k = 1 then 2 else 0) (nG (inB v (onv (X 0))) 2 (nG (decide ((X 0) 6 (nix v) 1 = 0)) 1 (.inr (oRoll (nJ (X 0) 6 v 0 0), nEv X (X 0) 6 v 0 0))) : Nat ⊕ (Int32 × NWd)) (fun v => v.toInt64) (wdo X 0 (X 0))) := by
  refine lM_of hI hs rfl (by decide +kernel) (Nat.le_of_ble_eq_true rfl) ?_
  intro p e s m args below meth cd ls hc hr hP hl hS
  have hx := hc.1
  have hb := hc.2.1
  have hl : lv_has ls 4 [(0, .ref (ad 2 20 0)), (1, .int v), (2, .ref aL)] := hl
  refine lv_aload_n hx hb dL_restore_0 rfl (lv_at hl 2 rfl) ?_
  refine lv_iconst (v := 0) hx hb dL_restore_1 (by decide) ?_
  refine lv_aload_n hx hb dL_restore_2 rfl (lv_at hl 0 rfl) ?_
  refine lv_iload_n hx hb dL_restore_3 rfl (lv_at hl 1 rfl) ?_
  refine l_Xi (X := wdo X 0 (X 0)) (As := [.int v]) (rest := [.int 0, .ref aL]) (c_X9_restore (S := X 0) (v := v) hfl hI hon0 hon1 hon2 hok hd) hc hP hS hl.1 (ngoodV q674 q675 q676 q1 q677) (l_recv hc hP.1 hon2) nok_X9_restore rfl ⟨(Nat.le_of_ble_eq_true rfl), (Nat.le_of_ble_eq_true rfl)⟩ ⟨(Nat.le_of_ble_eq_true rfl), (Nat.le_of_ble_eq_true rfl)⟩ dL_restore_4 rfl (Nat.le_of_ble_eq_true rfl) ?_ ?_
  · intro k ce q9 H locs hE hP hS hcell hv hcl
    have hE9 : (nG (inB v (onv (X 0))) 2 (nG (decide ((X 0) 6 (nix v) 1 = 0)) 1 (.inr (oRoll (nJ (X 0) 6 v 0 0), nEv X (X 0) 6 v 0 0))) : Nat ⊕ (Int32 × NWd)) = .inl k := hE
    have hks : k = 2 ∨ k = 1 := by
      rcases nG_inl hE9 with h9 | h9
      · exact Or.inl h9
      · skip
        rcases nG_inl h9 with h9 | h9
        · exact Or.inr (h9)
        · cases h9
    rcases hks with rfl | rfl
    · refine l_catch (k := 2) (sp := 0) (ep := 9) (hp := 12) (pre := []) (suf := [(0, 9, 15, 15)]) hc (by decide) rfl ?_ ⟨by decide, by decide⟩ hcell hv hcl ?_
      · intro z hz; cases hz
      · skip
        refine lv_astore_n (lv' := [(3, .ref _), (0, .ref _), (1, .int _), (2, .ref _)]) hx hb dL_restore_12 rfl hl (by decide) rfl (fun ls hl => ?_)
        refine lv_iconst (v := 1) hx hb dL_restore_13 (by decide) ?_
        exact l_end hc hP hS hr dL_restore_14 (Nat.le_of_ble_eq_true rfl) (Nat.le_of_ble_eq_true rfl) (Or.inl ⟨2, hE9, rfl, rfl⟩)
    · refine l_catch (k := 1) (sp := 0) (ep := 9) (hp := 15) (pre := [(0, 9, 12, 28)]) (suf := []) hc (by decide) rfl ?_ ⟨by decide, by decide⟩ hcell hv hcl ?_
      · intro z hz
        simp only [List.mem_cons, List.not_mem_nil, or_false] at hz
        subst hz
        exact ⟨2, by decide, by decide, rfl⟩
      · skip
        refine lv_astore_n (lv' := [(3, .ref _), (0, .ref _), (1, .int _), (2, .ref _)]) hx hb dL_restore_15 rfl hl (by decide) rfl (fun ls hl => ?_)
        refine lv_iconst (v := 2) hx hb dL_restore_16 (by decide) ?_
        exact l_end hc hP hS hr dL_restore_17 (Nat.le_of_ble_eq_true rfl) (Nat.le_of_ble_eq_true rfl) (Or.inl ⟨1, hE9, rfl, rfl⟩)
  · intro r X2 H locs hp hP hS
    refine lv_i2l (v := _) hx hb dL_restore_7 rfl ?_
    refine l_lst hc hP hS dL_restore_8 (fun H locs hP hS => ?_)
    refine lv_goto (tgt := 18) hx hb dL_restore_9 (by decide) ?_
    refine lv_iconst (v := 0) hx hb dL_restore_18 (by decide) ?_
    exact l_end hc hP hS hr dL_restore_19 (Nat.le_of_ble_eq_true rfl) (Nat.le_of_ble_eq_true rfl) (Or.inr ⟨r, X2, hp, rfl, rfl, rfl⟩)
set_option maxHeartbeats 4000000 in
theorem lw_areaOf (hfl : l.stackTraces = false) (hI : ninj ad on) (hs : lsep ad on aL aD) (hon0 : on 0) (hon1 : on 1) (hon2 : on 2) (hok : oOk (X 0)) (hd : vp_in (X 2 21 0 4) 513) {v : Int32} : lM l D dA ad on cL cD aL aD yL_areaOf cL_areaOf 4 [(0, 9, 12, 28)] [.ref (ad 2 20 0), .int v, .ref aL] (wdo X 0 (X 0), vL, vD) (lPi (fun k => if k = 2 then 1 else 0) (nG (inB v (onv (X 0))) 2 (.inr ((X 0) 6 (nix v) 0, wdo X 0 (X 0))) : Nat ⊕ (Int32 × NWd)) (fun v => v.toInt64) (wdo X 0 (X 0))) := by
  refine lM_of hI hs rfl (by decide +kernel) (Nat.le_of_ble_eq_true rfl) ?_
  intro p e s m args below meth cd ls hc hr hP hl hS
  have hx := hc.1
  have hb := hc.2.1
  have hl : lv_has ls 4 [(0, .ref (ad 2 20 0)), (1, .int v), (2, .ref aL)] := hl
  refine lv_aload_n hx hb dL_areaOf_0 rfl (lv_at hl 2 rfl) ?_
  refine lv_iconst (v := 0) hx hb dL_areaOf_1 (by decide) ?_
  refine lv_aload_n hx hb dL_areaOf_2 rfl (lv_at hl 0 rfl) ?_
  refine lv_iload_n hx hb dL_areaOf_3 rfl (lv_at hl 1 rfl) ?_
  refine l_Xi (X := wdo X 0 (X 0)) (As := [.int v]) (rest := [.int 0, .ref aL]) (c_X9_areaOf (S := X 0) (v := v) hfl hI hon0 hon1 hon2 hok hd) hc hP hS hl.1 (ngoodV q682 q683 q684 q1 q685) (l_recv hc hP.1 hon2) nok_X9_areaOf rfl ⟨(Nat.le_of_ble_eq_true rfl), (Nat.le_of_ble_eq_true rfl)⟩ ⟨(Nat.le_of_ble_eq_true rfl), (Nat.le_of_ble_eq_true rfl)⟩ dL_areaOf_4 rfl (Nat.le_of_ble_eq_true rfl) ?_ ?_
  · intro k ce q9 H locs hE hP hS hcell hv hcl
    have hE9 : (nG (inB v (onv (X 0))) 2 (.inr ((X 0) 6 (nix v) 0, wdo X 0 (X 0))) : Nat ⊕ (Int32 × NWd)) = .inl k := hE
    have hks : k = 2 := by
      rcases nG_inl hE9 with h9 | h9
      · exact h9
      · cases h9
    subst hks
    refine l_catch (k := 2) (sp := 0) (ep := 9) (hp := 12) (pre := []) (suf := []) hc (by decide) rfl ?_ ⟨by decide, by decide⟩ hcell hv hcl ?_
    · intro z hz; cases hz
    · skip
      refine lv_astore_n (lv' := [(3, .ref _), (0, .ref _), (1, .int _), (2, .ref _)]) hx hb dL_areaOf_12 rfl hl (by decide) rfl (fun ls hl => ?_)
      refine lv_iconst (v := 1) hx hb dL_areaOf_13 (by decide) ?_
      exact l_end hc hP hS hr dL_areaOf_14 (Nat.le_of_ble_eq_true rfl) (Nat.le_of_ble_eq_true rfl) (Or.inl ⟨2, hE9, rfl, rfl⟩)
  · intro r X2 H locs hp hP hS
    refine lv_i2l (v := _) hx hb dL_areaOf_7 rfl ?_
    refine l_lst hc hP hS dL_areaOf_8 (fun H locs hP hS => ?_)
    refine lv_goto (tgt := 15) hx hb dL_areaOf_9 (by decide) ?_
    refine lv_iconst (v := 0) hx hb dL_areaOf_15 (by decide) ?_
    exact l_end hc hP hS hr dL_areaOf_16 (Nat.le_of_ble_eq_true rfl) (Nat.le_of_ble_eq_true rfl) (Or.inr ⟨r, X2, hp, rfl, rfl, rfl⟩)
set_option maxHeartbeats 4000000 in
theorem lw_isOnRoll (hfl : l.stackTraces = false) (hI : ninj ad on) (hs : lsep ad on aL aD) (hon0 : on 0) (hon1 : on 1) (hon2 : on 2) (hok : oOk (X 0)) (hd : vp_in (X 2 21 0 4) 513) {v : Int32} (h01 : vp_in v (onv (X 0)) → (X 0) 6 (nix v) 1 = 0 ∨ (X 0) 6 (nix v) 1 = 1) : lM l D dA ad on cL cD aL aD yL_isOnRoll cL_isOnRoll 4 [(0, 16, 19, 28)] [.ref (ad 2 20 0), .int v, .ref aL] (wdo X 0 (X 0), vL, vD) (lPi (fun k => if k = 2 then 1 else 0) (nG (inB v (onv (X 0))) 2 (.inr ((X 0) 6 (nix v) 1, wdo X 0 (X 0))) : Nat ⊕ (Int32 × NWd)) (fun v => if v = 0 then 0 else 1) (wdo X 0 (X 0))) := by
  refine lM_of hI hs rfl (by decide +kernel) (Nat.le_of_ble_eq_true rfl) ?_
  intro p e s m args below meth cd ls hc hr hP hl hS
  have hx := hc.1
  have hb := hc.2.1
  have hl : lv_has ls 4 [(0, .ref (ad 2 20 0)), (1, .int v), (2, .ref aL)] := hl
  refine lv_aload_n hx hb dL_isOnRoll_0 rfl (lv_at hl 2 rfl) ?_
  refine lv_iconst (v := 0) hx hb dL_isOnRoll_1 (by decide) ?_
  refine lv_aload_n hx hb dL_isOnRoll_2 rfl (lv_at hl 0 rfl) ?_
  refine lv_iload_n hx hb dL_isOnRoll_3 rfl (lv_at hl 1 rfl) ?_
  refine l_Xi (X := wdo X 0 (X 0)) (As := [.int v]) (rest := [.int 0, .ref aL]) (c_X9_isOnRoll (S := X 0) (v := v) hfl hI hon0 hon1 hon2 hok hd h01) hc hP hS hl.1 (ngoodV q689 q690 q691 q1 q692) (l_recv hc hP.1 hon2) nok_X9_isOnRoll rfl ⟨(Nat.le_of_ble_eq_true rfl), (Nat.le_of_ble_eq_true rfl)⟩ ⟨(Nat.le_of_ble_eq_true rfl), (Nat.le_of_ble_eq_true rfl)⟩ dL_isOnRoll_4 rfl (Nat.le_of_ble_eq_true rfl) ?_ ?_
  · intro k ce q9 H locs hE hP hS hcell hv hcl
    have hE9 : (nG (inB v (onv (X 0))) 2 (.inr ((X 0) 6 (nix v) 1, wdo X 0 (X 0))) : Nat ⊕ (Int32 × NWd)) = .inl k := hE
    have hks : k = 2 := by
      rcases nG_inl hE9 with h9 | h9
      · exact h9
      · cases h9
    subst hks
    refine l_catch (k := 2) (sp := 0) (ep := 16) (hp := 19) (pre := []) (suf := []) hc (by decide) rfl ?_ ⟨by decide, by decide⟩ hcell hv hcl ?_
    · intro z hz; cases hz
    · skip
      refine lv_astore_n (lv' := [(3, .ref _), (0, .ref _), (1, .int _), (2, .ref _)]) hx hb dL_isOnRoll_19 rfl hl (by decide) rfl (fun ls hl => ?_)
      refine lv_iconst (v := 1) hx hb dL_isOnRoll_20 (by decide) ?_
      exact l_end hc hP hS hr dL_isOnRoll_21 (Nat.le_of_ble_eq_true rfl) (Nat.le_of_ble_eq_true rfl) (Or.inl ⟨2, hE9, rfl, rfl⟩)
  · intro r X2 H locs hp hP hS
    refine lv_if_eq (tgt := 14) hx hb dL_isOnRoll_7 (by decide) (fun c9 => ?_) (fun c9 => ?_)
    · refine lv_lconst (v := 0) hx hb dL_isOnRoll_14 rfl ?_
      refine l_lst hc hP hS dL_isOnRoll_15 (fun H locs hP hS => ?_)
      refine lv_goto (tgt := 22) hx hb dL_isOnRoll_16 (by decide) ?_
      refine lv_iconst (v := 0) hx hb dL_isOnRoll_22 (by decide) ?_
      exact l_end hc hP hS hr dL_isOnRoll_23 (Nat.le_of_ble_eq_true rfl) (Nat.le_of_ble_eq_true rfl) (Or.inr ⟨r, X2, hp, rfl, rfl, (if_pos c9).symm⟩)
    · refine lv_lconst (v := 1) hx hb dL_isOnRoll_10 rfl ?_
      refine lv_goto (tgt := 15) hx hb dL_isOnRoll_11 (by decide) ?_
      refine l_lst hc hP hS dL_isOnRoll_15 (fun H locs hP hS => ?_)
      refine lv_goto (tgt := 22) hx hb dL_isOnRoll_16 (by decide) ?_
      refine lv_iconst (v := 0) hx hb dL_isOnRoll_22 (by decide) ?_
      exact l_end hc hP hS hr dL_isOnRoll_23 (Nat.le_of_ble_eq_true rfl) (Nat.le_of_ble_eq_true rfl) (Or.inr ⟨r, X2, hp, rfl, rfl, (if_neg c9).symm⟩)
set_option maxHeartbeats 4000000 in
theorem lw_file (hfl : l.stackTraces = false) (hI : ninj ad on) (hs : lsep ad on aL aD) (hon0 : on 0) (hon1 : on 1) (hon2 : on 2) (hok : oOk (X 0)) (hd : vp_in (X 2 21 0 4) 513) {a pp n1 n2 n3 n4 : Int32} : lM l D dA ad on cL cD aL aD yL_file cL_file 9 [(0, 18, 21, 28), (0, 18, 25, 13), (0, 18, 29, 15)] [.ref (ad 2 20 0), .int a, .int pp, .int n1, .int n2, .int n3, .int n4, .ref aL] (wdo X 0 (X 0), vL, vD) (lPi (fun k => if k = 2 then 1 else if k = 0 then 2 else if k = 1 then 3 else 0) (nG (inB a (ona (X 0))) 2 (nG (decide (-1 ≤ pp) && decide (pp ≤ 7)) 0 (nG (nmOk n1 n2 n3 n4) 0 (nG (oOpen (X 0)) 1 (nG (decide ((X 0) 0 0 6 < 12)) 1 (.inr (nJ (X 0) 7 a pp (cName n1 n2 n3 n4) 0 0 6 - 1, nEv X (X 0) 7 a pp (cName n1 n2 n3 n4))))))) : Nat ⊕ (Int32 × NWd)) (fun v => v.toInt64) (wdo X 0 (X 0))) := by
  refine lM_of hI hs rfl (by decide +kernel) (Nat.le_of_ble_eq_true rfl) ?_
  intro p e s m args below meth cd ls hc hr hP hl hS
  have hx := hc.1
  have hb := hc.2.1
  have hl : lv_has ls 9 [(0, .ref (ad 2 20 0)), (1, .int a), (2, .int pp), (3, .int n1), (4, .int n2), (5, .int n3), (6, .int n4), (7, .ref aL)] := hl
  refine lv_aload hx hb dL_file_0 (lv_at hl 7 rfl) ?_
  refine lv_iconst (v := 0) hx hb dL_file_2 (by decide) ?_
  refine lv_aload_n hx hb dL_file_3 rfl (lv_at hl 0 rfl) ?_
  refine lv_iload_n hx hb dL_file_4 rfl (lv_at hl 1 rfl) ?_
  refine lv_iload_n hx hb dL_file_5 rfl (lv_at hl 2 rfl) ?_
  refine lv_iload_n hx hb dL_file_6 rfl (lv_at hl 3 rfl) ?_
  refine lv_iload hx hb dL_file_7 (lv_at hl 4 rfl) ?_
  refine lv_iload hx hb dL_file_9 (lv_at hl 5 rfl) ?_
  refine lv_iload hx hb dL_file_11 (lv_at hl 6 rfl) ?_
  refine l_Xi (X := wdo X 0 (X 0)) (As := [.int a, .int pp, .int n1, .int n2, .int n3, .int n4]) (rest := [.int 0, .ref aL]) (c_X9_file (S := X 0) (a := a) (pp := pp) (n1 := n1) (n2 := n2) (n3 := n3) (n4 := n4) hfl hI hon0 hon1 hon2 hok hd) hc hP hS hl.1 (ngoodV q696 q697 q698 q1 q699) (l_recv hc hP.1 hon2) nok_X9_file rfl ⟨(Nat.le_of_ble_eq_true rfl), (Nat.le_of_ble_eq_true rfl)⟩ ⟨(Nat.le_of_ble_eq_true rfl), (Nat.le_of_ble_eq_true rfl)⟩ dL_file_13 rfl (Nat.le_of_ble_eq_true rfl) ?_ ?_
  · intro k ce q9 H locs hE hP hS hcell hv hcl
    have hE9 : (nG (inB a (ona (X 0))) 2 (nG (decide (-1 ≤ pp) && decide (pp ≤ 7)) 0 (nG (nmOk n1 n2 n3 n4) 0 (nG (oOpen (X 0)) 1 (nG (decide ((X 0) 0 0 6 < 12)) 1 (.inr (nJ (X 0) 7 a pp (cName n1 n2 n3 n4) 0 0 6 - 1, nEv X (X 0) 7 a pp (cName n1 n2 n3 n4))))))) : Nat ⊕ (Int32 × NWd)) = .inl k := hE
    have hks : k = 2 ∨ k = 0 ∨ k = 1 := by
      rcases nG_inl hE9 with h9 | h9
      · exact Or.inl h9
      · skip
        rcases nG_inl h9 with h9 | h9
        · exact Or.inr (Or.inl h9)
        · skip
          rcases nG_inl h9 with h9 | h9
          · exact Or.inr (Or.inl h9)
          · skip
            rcases nG_inl h9 with h9 | h9
            · exact Or.inr (Or.inr (h9))
            · skip
              rcases nG_inl h9 with h9 | h9
              · exact Or.inr (Or.inr (h9))
              · cases h9
    rcases hks with rfl | rfl | rfl
    · refine l_catch (k := 2) (sp := 0) (ep := 18) (hp := 21) (pre := []) (suf := [(0, 18, 25, 13), (0, 18, 29, 15)]) hc (by decide) rfl ?_ ⟨by decide, by decide⟩ hcell hv hcl ?_
      · intro z hz; cases hz
      · skip
        refine lv_astore (lv' := [(8, .ref _), (0, .ref _), (1, .int _), (2, .int _), (3, .int _), (4, .int _), (5, .int _), (6, .int _), (7, .ref _)]) hx hb dL_file_21 hl (by decide) rfl (fun ls hl => ?_)
        refine lv_iconst (v := 1) hx hb dL_file_23 (by decide) ?_
        exact l_end hc hP hS hr dL_file_24 (Nat.le_of_ble_eq_true rfl) (Nat.le_of_ble_eq_true rfl) (Or.inl ⟨2, hE9, rfl, rfl⟩)
    · refine l_catch (k := 0) (sp := 0) (ep := 18) (hp := 25) (pre := [(0, 18, 21, 28)]) (suf := [(0, 18, 29, 15)]) hc (by decide) rfl ?_ ⟨by decide, by decide⟩ hcell hv hcl ?_
      · intro z hz
        simp only [List.mem_cons, List.not_mem_nil, or_false] at hz
        subst hz
        exact ⟨2, by decide, by decide, rfl⟩
      · skip
        refine lv_astore (lv' := [(8, .ref _), (0, .ref _), (1, .int _), (2, .int _), (3, .int _), (4, .int _), (5, .int _), (6, .int _), (7, .ref _)]) hx hb dL_file_25 hl (by decide) rfl (fun ls hl => ?_)
        refine lv_iconst (v := 2) hx hb dL_file_27 (by decide) ?_
        exact l_end hc hP hS hr dL_file_28 (Nat.le_of_ble_eq_true rfl) (Nat.le_of_ble_eq_true rfl) (Or.inl ⟨0, hE9, rfl, rfl⟩)
    · refine l_catch (k := 1) (sp := 0) (ep := 18) (hp := 29) (pre := [(0, 18, 21, 28), (0, 18, 25, 13)]) (suf := []) hc (by decide) rfl ?_ ⟨by decide, by decide⟩ hcell hv hcl ?_
      · intro z hz
        simp only [List.mem_cons, List.not_mem_nil, or_false] at hz
        rcases hz with rfl | rfl
        · exact ⟨2, by decide, by decide, rfl⟩
        · exact ⟨0, by decide, by decide, rfl⟩
      · skip
        refine lv_astore (lv' := [(8, .ref _), (0, .ref _), (1, .int _), (2, .int _), (3, .int _), (4, .int _), (5, .int _), (6, .int _), (7, .ref _)]) hx hb dL_file_29 hl (by decide) rfl (fun ls hl => ?_)
        refine lv_iconst (v := 3) hx hb dL_file_31 (by decide) ?_
        exact l_end hc hP hS hr dL_file_32 (Nat.le_of_ble_eq_true rfl) (Nat.le_of_ble_eq_true rfl) (Or.inl ⟨1, hE9, rfl, rfl⟩)
  · intro r X2 H locs hp hP hS
    refine lv_i2l (v := _) hx hb dL_file_16 rfl ?_
    refine l_lst hc hP hS dL_file_17 (fun H locs hP hS => ?_)
    refine lv_goto (tgt := 33) hx hb dL_file_18 (by decide) ?_
    refine lv_iconst (v := 0) hx hb dL_file_33 (by decide) ?_
    exact l_end hc hP hS hr dL_file_34 (Nat.le_of_ble_eq_true rfl) (Nat.le_of_ble_eq_true rfl) (Or.inr ⟨r, X2, hp, rfl, rfl, rfl⟩)
set_option maxHeartbeats 4000000 in
theorem lw_sign (hfl : l.stackTraces = false) (hI : ninj ad on) (hs : lsep ad on aL aD) (hon0 : on 0) (hon1 : on 1) (hon2 : on 2) (hok : oOk (X 0)) (hd : vp_in (X 2 21 0 4) 513) {pp v : Int32} : lM l D dA ad on cL cD aL aD yL_sign cL_sign 5 [(0, 10, 13, 28), (0, 10, 17, 15)] [.ref (ad 2 20 0), .int pp, .int v, .ref aL] (wdo X 0 (X 0), vL, vD) (lPi (fun k => if k = 2 then 1 else if k = 1 then 2 else 0) (nG (inB pp (onp (X 0))) 2 (nG (inB v (onv (X 0))) 2 (nG (oOpen (X 0)) 1 (nG (!oGone (X 0) pp) 1 (nG (decide ((X 0) 0 0 7 < 150)) 1 (.inr (nJ (X 0) 8 pp v 0 0 0 7 - 1, nEv X (X 0) 8 pp v 0)))))) : Nat ⊕ (Int32 × NWd)) (fun v => v.toInt64) (wdo X 0 (X 0))) := by
  refine lM_of hI hs rfl (by decide +kernel) (Nat.le_of_ble_eq_true rfl) ?_
  intro p e s m args below meth cd ls hc hr hP hl hS
  have hx := hc.1
  have hb := hc.2.1
  have hl : lv_has ls 5 [(0, .ref (ad 2 20 0)), (1, .int pp), (2, .int v), (3, .ref aL)] := hl
  refine lv_aload_n hx hb dL_sign_0 rfl (lv_at hl 3 rfl) ?_
  refine lv_iconst (v := 0) hx hb dL_sign_1 (by decide) ?_
  refine lv_aload_n hx hb dL_sign_2 rfl (lv_at hl 0 rfl) ?_
  refine lv_iload_n hx hb dL_sign_3 rfl (lv_at hl 1 rfl) ?_
  refine lv_iload_n hx hb dL_sign_4 rfl (lv_at hl 2 rfl) ?_
  refine l_Xi (X := wdo X 0 (X 0)) (As := [.int pp, .int v]) (rest := [.int 0, .ref aL]) (c_X9_sign (S := X 0) (pp := pp) (v := v) hfl hI hon0 hon1 hon2 hok hd) hc hP hS hl.1 (ngoodV q724 q725 q726 q1 q727) (l_recv hc hP.1 hon2) nok_X9_sign rfl ⟨(Nat.le_of_ble_eq_true rfl), (Nat.le_of_ble_eq_true rfl)⟩ ⟨(Nat.le_of_ble_eq_true rfl), (Nat.le_of_ble_eq_true rfl)⟩ dL_sign_5 rfl (Nat.le_of_ble_eq_true rfl) ?_ ?_
  · intro k ce q9 H locs hE hP hS hcell hv hcl
    have hE9 : (nG (inB pp (onp (X 0))) 2 (nG (inB v (onv (X 0))) 2 (nG (oOpen (X 0)) 1 (nG (!oGone (X 0) pp) 1 (nG (decide ((X 0) 0 0 7 < 150)) 1 (.inr (nJ (X 0) 8 pp v 0 0 0 7 - 1, nEv X (X 0) 8 pp v 0)))))) : Nat ⊕ (Int32 × NWd)) = .inl k := hE
    have hks : k = 2 ∨ k = 1 := by
      rcases nG_inl hE9 with h9 | h9
      · exact Or.inl h9
      · skip
        rcases nG_inl h9 with h9 | h9
        · exact Or.inl h9
        · skip
          rcases nG_inl h9 with h9 | h9
          · exact Or.inr (h9)
          · skip
            rcases nG_inl h9 with h9 | h9
            · exact Or.inr (h9)
            · skip
              rcases nG_inl h9 with h9 | h9
              · exact Or.inr (h9)
              · cases h9
    rcases hks with rfl | rfl
    · refine l_catch (k := 2) (sp := 0) (ep := 10) (hp := 13) (pre := []) (suf := [(0, 10, 17, 15)]) hc (by decide) rfl ?_ ⟨by decide, by decide⟩ hcell hv hcl ?_
      · intro z hz; cases hz
      · skip
        refine lv_astore (lv' := [(4, .ref _), (0, .ref _), (1, .int _), (2, .int _), (3, .ref _)]) hx hb dL_sign_13 hl (by decide) rfl (fun ls hl => ?_)
        refine lv_iconst (v := 1) hx hb dL_sign_15 (by decide) ?_
        exact l_end hc hP hS hr dL_sign_16 (Nat.le_of_ble_eq_true rfl) (Nat.le_of_ble_eq_true rfl) (Or.inl ⟨2, hE9, rfl, rfl⟩)
    · refine l_catch (k := 1) (sp := 0) (ep := 10) (hp := 17) (pre := [(0, 10, 13, 28)]) (suf := []) hc (by decide) rfl ?_ ⟨by decide, by decide⟩ hcell hv hcl ?_
      · intro z hz
        simp only [List.mem_cons, List.not_mem_nil, or_false] at hz
        subst hz
        exact ⟨2, by decide, by decide, rfl⟩
      · skip
        refine lv_astore (lv' := [(4, .ref _), (0, .ref _), (1, .int _), (2, .int _), (3, .ref _)]) hx hb dL_sign_17 hl (by decide) rfl (fun ls hl => ?_)
        refine lv_iconst (v := 2) hx hb dL_sign_19 (by decide) ?_
        exact l_end hc hP hS hr dL_sign_20 (Nat.le_of_ble_eq_true rfl) (Nat.le_of_ble_eq_true rfl) (Or.inl ⟨1, hE9, rfl, rfl⟩)
  · intro r X2 H locs hp hP hS
    refine lv_i2l (v := _) hx hb dL_sign_8 rfl ?_
    refine l_lst hc hP hS dL_sign_9 (fun H locs hP hS => ?_)
    refine lv_goto (tgt := 21) hx hb dL_sign_10 (by decide) ?_
    refine lv_iconst (v := 0) hx hb dL_sign_21 (by decide) ?_
    exact l_end hc hP hS hr dL_sign_22 (Nat.le_of_ble_eq_true rfl) (Nat.le_of_ble_eq_true rfl) (Or.inr ⟨r, X2, hp, rfl, rfl, rfl⟩)
set_option maxHeartbeats 4000000 in
theorem lw_pay (hfl : l.stackTraces = false) (hI : ninj ad on) (hs : lsep ad on aL aD) (hon0 : on 0) (hon1 : on 1) (hon2 : on 2) (hok : oOk (X 0)) (hd : vp_in (X 2 21 0 4) 513) {pp a : Int32} : lM l D dA ad on cL cD aL aD yL_pay cL_pay 5 [(0, 10, 13, 28), (0, 10, 17, 13), (0, 10, 21, 15)] [.ref (ad 2 20 0), .int pp, .int a, .ref aL] (wdo X 0 (X 0), vL, vD) (lPi (fun k => if k = 2 then 1 else if k = 0 then 2 else if k = 1 then 3 else 0) (nG (inB pp (onp (X 0))) 2 (nG (decide (1 ≤ a) && decide (a ≤ 1000)) 0 (nG (oOpen (X 0)) 1 (nG (!oGone (X 0) pp) 1 (.inr (nJ (X 0) 9 pp a 0 11 (nix pp) 3, nEv X (X 0) 9 pp a 0))))) : Nat ⊕ (Int32 × NWd)) (fun v => v.toInt64) (wdo X 0 (X 0))) := by
  refine lM_of hI hs rfl (by decide +kernel) (Nat.le_of_ble_eq_true rfl) ?_
  intro p e s m args below meth cd ls hc hr hP hl hS
  have hx := hc.1
  have hb := hc.2.1
  have hl : lv_has ls 5 [(0, .ref (ad 2 20 0)), (1, .int pp), (2, .int a), (3, .ref aL)] := hl
  refine lv_aload_n hx hb dL_pay_0 rfl (lv_at hl 3 rfl) ?_
  refine lv_iconst (v := 0) hx hb dL_pay_1 (by decide) ?_
  refine lv_aload_n hx hb dL_pay_2 rfl (lv_at hl 0 rfl) ?_
  refine lv_iload_n hx hb dL_pay_3 rfl (lv_at hl 1 rfl) ?_
  refine lv_iload_n hx hb dL_pay_4 rfl (lv_at hl 2 rfl) ?_
  refine l_Xi (X := wdo X 0 (X 0)) (As := [.int pp, .int a]) (rest := [.int 0, .ref aL]) (c_X9_pay (S := X 0) (pp := pp) (a := a) hfl hI hon0 hon1 hon2 hok hd) hc hP hS hl.1 (ngoodV q743 q744 q745 q1 q746) (l_recv hc hP.1 hon2) nok_X9_pay rfl ⟨(Nat.le_of_ble_eq_true rfl), (Nat.le_of_ble_eq_true rfl)⟩ ⟨(Nat.le_of_ble_eq_true rfl), (Nat.le_of_ble_eq_true rfl)⟩ dL_pay_5 rfl (Nat.le_of_ble_eq_true rfl) ?_ ?_
  · intro k ce q9 H locs hE hP hS hcell hv hcl
    have hE9 : (nG (inB pp (onp (X 0))) 2 (nG (decide (1 ≤ a) && decide (a ≤ 1000)) 0 (nG (oOpen (X 0)) 1 (nG (!oGone (X 0) pp) 1 (.inr (nJ (X 0) 9 pp a 0 11 (nix pp) 3, nEv X (X 0) 9 pp a 0))))) : Nat ⊕ (Int32 × NWd)) = .inl k := hE
    have hks : k = 2 ∨ k = 0 ∨ k = 1 := by
      rcases nG_inl hE9 with h9 | h9
      · exact Or.inl h9
      · skip
        rcases nG_inl h9 with h9 | h9
        · exact Or.inr (Or.inl h9)
        · skip
          rcases nG_inl h9 with h9 | h9
          · exact Or.inr (Or.inr (h9))
          · skip
            rcases nG_inl h9 with h9 | h9
            · exact Or.inr (Or.inr (h9))
            · cases h9
    rcases hks with rfl | rfl | rfl
    · refine l_catch (k := 2) (sp := 0) (ep := 10) (hp := 13) (pre := []) (suf := [(0, 10, 17, 13), (0, 10, 21, 15)]) hc (by decide) rfl ?_ ⟨by decide, by decide⟩ hcell hv hcl ?_
      · intro z hz; cases hz
      · skip
        refine lv_astore (lv' := [(4, .ref _), (0, .ref _), (1, .int _), (2, .int _), (3, .ref _)]) hx hb dL_pay_13 hl (by decide) rfl (fun ls hl => ?_)
        refine lv_iconst (v := 1) hx hb dL_pay_15 (by decide) ?_
        exact l_end hc hP hS hr dL_pay_16 (Nat.le_of_ble_eq_true rfl) (Nat.le_of_ble_eq_true rfl) (Or.inl ⟨2, hE9, rfl, rfl⟩)
    · refine l_catch (k := 0) (sp := 0) (ep := 10) (hp := 17) (pre := [(0, 10, 13, 28)]) (suf := [(0, 10, 21, 15)]) hc (by decide) rfl ?_ ⟨by decide, by decide⟩ hcell hv hcl ?_
      · intro z hz
        simp only [List.mem_cons, List.not_mem_nil, or_false] at hz
        subst hz
        exact ⟨2, by decide, by decide, rfl⟩
      · skip
        refine lv_astore (lv' := [(4, .ref _), (0, .ref _), (1, .int _), (2, .int _), (3, .ref _)]) hx hb dL_pay_17 hl (by decide) rfl (fun ls hl => ?_)
        refine lv_iconst (v := 2) hx hb dL_pay_19 (by decide) ?_
        exact l_end hc hP hS hr dL_pay_20 (Nat.le_of_ble_eq_true rfl) (Nat.le_of_ble_eq_true rfl) (Or.inl ⟨0, hE9, rfl, rfl⟩)
    · refine l_catch (k := 1) (sp := 0) (ep := 10) (hp := 21) (pre := [(0, 10, 13, 28), (0, 10, 17, 13)]) (suf := []) hc (by decide) rfl ?_ ⟨by decide, by decide⟩ hcell hv hcl ?_
      · intro z hz
        simp only [List.mem_cons, List.not_mem_nil, or_false] at hz
        rcases hz with rfl | rfl
        · exact ⟨2, by decide, by decide, rfl⟩
        · exact ⟨0, by decide, by decide, rfl⟩
      · skip
        refine lv_astore (lv' := [(4, .ref _), (0, .ref _), (1, .int _), (2, .int _), (3, .ref _)]) hx hb dL_pay_21 hl (by decide) rfl (fun ls hl => ?_)
        refine lv_iconst (v := 3) hx hb dL_pay_23 (by decide) ?_
        exact l_end hc hP hS hr dL_pay_24 (Nat.le_of_ble_eq_true rfl) (Nat.le_of_ble_eq_true rfl) (Or.inl ⟨1, hE9, rfl, rfl⟩)
  · intro r X2 H locs hp hP hS
    refine lv_i2l (v := _) hx hb dL_pay_8 rfl ?_
    refine l_lst hc hP hS dL_pay_9 (fun H locs hP hS => ?_)
    refine lv_goto (tgt := 25) hx hb dL_pay_10 (by decide) ?_
    refine lv_iconst (v := 0) hx hb dL_pay_25 (by decide) ?_
    exact l_end hc hP hS hr dL_pay_26 (Nat.le_of_ble_eq_true rfl) (Nat.le_of_ble_eq_true rfl) (Or.inr ⟨r, X2, hp, rfl, rfl, rfl⟩)
set_option maxHeartbeats 4000000 in
theorem lw_withdraw (hfl : l.stackTraces = false) (hI : ninj ad on) (hs : lsep ad on aL aD) (hon0 : on 0) (hon1 : on 1) (hon2 : on 2) (hok : oOk (X 0)) (hd : vp_in (X 2 21 0 4) 513) {pp : Int32} : lM l D dA ad on cL cD aL aD yL_withdraw cL_withdraw 4 [(0, 9, 12, 28), (0, 9, 15, 15)] [.ref (ad 2 20 0), .int pp, .ref aL] (wdo X 0 (X 0), vL, vD) (lPi (fun k => if k = 2 then 1 else if k = 1 then 2 else 0) (nG (inB pp (onp (X 0))) 2 (nG (!oGone (X 0) pp) 1 (nG (!oRej (X 0) pp) 1 (nG (oChg (X 0)) 1 (.inr (oOthers (nJ (X 0) 10 pp 0 0) pp - oOthers (X 0) pp, nEv X (X 0) 10 pp 0 0))))) : Nat ⊕ (Int32 × NWd)) (fun v => v.toInt64) (wdo X 0 (X 0))) := by
  refine lM_of hI hs rfl (by decide +kernel) (Nat.le_of_ble_eq_true rfl) ?_
  intro p e s m args below meth cd ls hc hr hP hl hS
  have hx := hc.1
  have hb := hc.2.1
  have hl : lv_has ls 4 [(0, .ref (ad 2 20 0)), (1, .int pp), (2, .ref aL)] := hl
  refine lv_aload_n hx hb dL_withdraw_0 rfl (lv_at hl 2 rfl) ?_
  refine lv_iconst (v := 0) hx hb dL_withdraw_1 (by decide) ?_
  refine lv_aload_n hx hb dL_withdraw_2 rfl (lv_at hl 0 rfl) ?_
  refine lv_iload_n hx hb dL_withdraw_3 rfl (lv_at hl 1 rfl) ?_
  refine l_Xi (X := wdo X 0 (X 0)) (As := [.int pp]) (rest := [.int 0, .ref aL]) (c_X9_withdraw (S := X 0) (pp := pp) hfl hI hon0 hon1 hon2 hok hd) hc hP hS hl.1 (ngoodV q751 q752 q753 q1 q754) (l_recv hc hP.1 hon2) nok_X9_withdraw rfl ⟨(Nat.le_of_ble_eq_true rfl), (Nat.le_of_ble_eq_true rfl)⟩ ⟨(Nat.le_of_ble_eq_true rfl), (Nat.le_of_ble_eq_true rfl)⟩ dL_withdraw_4 rfl (Nat.le_of_ble_eq_true rfl) ?_ ?_
  · intro k ce q9 H locs hE hP hS hcell hv hcl
    have hE9 : (nG (inB pp (onp (X 0))) 2 (nG (!oGone (X 0) pp) 1 (nG (!oRej (X 0) pp) 1 (nG (oChg (X 0)) 1 (.inr (oOthers (nJ (X 0) 10 pp 0 0) pp - oOthers (X 0) pp, nEv X (X 0) 10 pp 0 0))))) : Nat ⊕ (Int32 × NWd)) = .inl k := hE
    have hks : k = 2 ∨ k = 1 := by
      rcases nG_inl hE9 with h9 | h9
      · exact Or.inl h9
      · skip
        rcases nG_inl h9 with h9 | h9
        · exact Or.inr (h9)
        · skip
          rcases nG_inl h9 with h9 | h9
          · exact Or.inr (h9)
          · skip
            rcases nG_inl h9 with h9 | h9
            · exact Or.inr (h9)
            · cases h9
    rcases hks with rfl | rfl
    · refine l_catch (k := 2) (sp := 0) (ep := 9) (hp := 12) (pre := []) (suf := [(0, 9, 15, 15)]) hc (by decide) rfl ?_ ⟨by decide, by decide⟩ hcell hv hcl ?_
      · intro z hz; cases hz
      · skip
        refine lv_astore_n (lv' := [(3, .ref _), (0, .ref _), (1, .int _), (2, .ref _)]) hx hb dL_withdraw_12 rfl hl (by decide) rfl (fun ls hl => ?_)
        refine lv_iconst (v := 1) hx hb dL_withdraw_13 (by decide) ?_
        exact l_end hc hP hS hr dL_withdraw_14 (Nat.le_of_ble_eq_true rfl) (Nat.le_of_ble_eq_true rfl) (Or.inl ⟨2, hE9, rfl, rfl⟩)
    · refine l_catch (k := 1) (sp := 0) (ep := 9) (hp := 15) (pre := [(0, 9, 12, 28)]) (suf := []) hc (by decide) rfl ?_ ⟨by decide, by decide⟩ hcell hv hcl ?_
      · intro z hz
        simp only [List.mem_cons, List.not_mem_nil, or_false] at hz
        subst hz
        exact ⟨2, by decide, by decide, rfl⟩
      · skip
        refine lv_astore_n (lv' := [(3, .ref _), (0, .ref _), (1, .int _), (2, .ref _)]) hx hb dL_withdraw_15 rfl hl (by decide) rfl (fun ls hl => ?_)
        refine lv_iconst (v := 2) hx hb dL_withdraw_16 (by decide) ?_
        exact l_end hc hP hS hr dL_withdraw_17 (Nat.le_of_ble_eq_true rfl) (Nat.le_of_ble_eq_true rfl) (Or.inl ⟨1, hE9, rfl, rfl⟩)
  · intro r X2 H locs hp hP hS
    refine lv_i2l (v := _) hx hb dL_withdraw_7 rfl ?_
    refine l_lst hc hP hS dL_withdraw_8 (fun H locs hP hS => ?_)
    refine lv_goto (tgt := 18) hx hb dL_withdraw_9 (by decide) ?_
    refine lv_iconst (v := 0) hx hb dL_withdraw_18 (by decide) ?_
    exact l_end hc hP hS hr dL_withdraw_19 (Nat.le_of_ble_eq_true rfl) (Nat.le_of_ble_eq_true rfl) (Or.inr ⟨r, X2, hp, rfl, rfl, rfl⟩)
set_option maxHeartbeats 4000000 in
theorem lw_die (hfl : l.stackTraces = false) (hI : ninj ad on) (hs : lsep ad on aL aD) (hon0 : on 0) (hon1 : on 1) (hon2 : on 2) (hok : oOk (X 0)) (hd : vp_in (X 2 21 0 4) 513) {pp : Int32} : lM l D dA ad on cL cD aL aD yL_die cL_die 4 [(0, 16, 19, 28), (0, 16, 22, 15)] [.ref (ad 2 20 0), .int pp, .ref aL] (wdo X 0 (X 0), vL, vD) (lPi (fun k => if k = 2 then 1 else if k = 1 then 2 else 0) (nG (inB pp (onp (X 0))) 2 (nG (!oGone (X 0) pp) 1 (nG (!oRej (X 0) pp) 1 (nG (decide ((X 0) 11 (nix pp) 6 = 0)) 1 (nG (!oPoll (X 0)) 1 (.inr (nb (oRepl (nJ (X 0) 11 pp 0 0) pp), nEv X (X 0) 11 pp 0 0)))))) : Nat ⊕ (Int32 × NWd)) (fun v => if v = 0 then 0 else 1) (wdo X 0 (X 0))) := by
  refine lM_of hI hs rfl (by decide +kernel) (Nat.le_of_ble_eq_true rfl) ?_
  intro p e s m args below meth cd ls hc hr hP hl hS
  have hx := hc.1
  have hb := hc.2.1
  have hl : lv_has ls 4 [(0, .ref (ad 2 20 0)), (1, .int pp), (2, .ref aL)] := hl
  refine lv_aload_n hx hb dL_die_0 rfl (lv_at hl 2 rfl) ?_
  refine lv_iconst (v := 0) hx hb dL_die_1 (by decide) ?_
  refine lv_aload_n hx hb dL_die_2 rfl (lv_at hl 0 rfl) ?_
  refine lv_iload_n hx hb dL_die_3 rfl (lv_at hl 1 rfl) ?_
  refine l_Xi (X := wdo X 0 (X 0)) (As := [.int pp]) (rest := [.int 0, .ref aL]) (c_X9_die (S := X 0) (pp := pp) hfl hI hon0 hon1 hon2 hok hd) hc hP hS hl.1 (ngoodV q770 q771 q772 q1 q773) (l_recv hc hP.1 hon2) nok_X9_die rfl ⟨(Nat.le_of_ble_eq_true rfl), (Nat.le_of_ble_eq_true rfl)⟩ ⟨(Nat.le_of_ble_eq_true rfl), (Nat.le_of_ble_eq_true rfl)⟩ dL_die_4 rfl (Nat.le_of_ble_eq_true rfl) ?_ ?_
  · intro k ce q9 H locs hE hP hS hcell hv hcl
    have hE9 : (nG (inB pp (onp (X 0))) 2 (nG (!oGone (X 0) pp) 1 (nG (!oRej (X 0) pp) 1 (nG (decide ((X 0) 11 (nix pp) 6 = 0)) 1 (nG (!oPoll (X 0)) 1 (.inr (nb (oRepl (nJ (X 0) 11 pp 0 0) pp), nEv X (X 0) 11 pp 0 0)))))) : Nat ⊕ (Int32 × NWd)) = .inl k := hE
    have hks : k = 2 ∨ k = 1 := by
      rcases nG_inl hE9 with h9 | h9
      · exact Or.inl h9
      · skip
        rcases nG_inl h9 with h9 | h9
        · exact Or.inr (h9)
        · skip
          rcases nG_inl h9 with h9 | h9
          · exact Or.inr (h9)
          · skip
            rcases nG_inl h9 with h9 | h9
            · exact Or.inr (h9)
            · skip
              rcases nG_inl h9 with h9 | h9
              · exact Or.inr (h9)
              · cases h9
    rcases hks with rfl | rfl
    · refine l_catch (k := 2) (sp := 0) (ep := 16) (hp := 19) (pre := []) (suf := [(0, 16, 22, 15)]) hc (by decide) rfl ?_ ⟨by decide, by decide⟩ hcell hv hcl ?_
      · intro z hz; cases hz
      · skip
        refine lv_astore_n (lv' := [(3, .ref _), (0, .ref _), (1, .int _), (2, .ref _)]) hx hb dL_die_19 rfl hl (by decide) rfl (fun ls hl => ?_)
        refine lv_iconst (v := 1) hx hb dL_die_20 (by decide) ?_
        exact l_end hc hP hS hr dL_die_21 (Nat.le_of_ble_eq_true rfl) (Nat.le_of_ble_eq_true rfl) (Or.inl ⟨2, hE9, rfl, rfl⟩)
    · refine l_catch (k := 1) (sp := 0) (ep := 16) (hp := 22) (pre := [(0, 16, 19, 28)]) (suf := []) hc (by decide) rfl ?_ ⟨by decide, by decide⟩ hcell hv hcl ?_
      · intro z hz
        simp only [List.mem_cons, List.not_mem_nil, or_false] at hz
        subst hz
        exact ⟨2, by decide, by decide, rfl⟩
      · skip
        refine lv_astore_n (lv' := [(3, .ref _), (0, .ref _), (1, .int _), (2, .ref _)]) hx hb dL_die_22 rfl hl (by decide) rfl (fun ls hl => ?_)
        refine lv_iconst (v := 2) hx hb dL_die_23 (by decide) ?_
        exact l_end hc hP hS hr dL_die_24 (Nat.le_of_ble_eq_true rfl) (Nat.le_of_ble_eq_true rfl) (Or.inl ⟨1, hE9, rfl, rfl⟩)
  · intro r X2 H locs hp hP hS
    refine lv_if_eq (tgt := 14) hx hb dL_die_7 (by decide) (fun c9 => ?_) (fun c9 => ?_)
    · refine lv_lconst (v := 0) hx hb dL_die_14 rfl ?_
      refine l_lst hc hP hS dL_die_15 (fun H locs hP hS => ?_)
      refine lv_goto (tgt := 25) hx hb dL_die_16 (by decide) ?_
      refine lv_iconst (v := 0) hx hb dL_die_25 (by decide) ?_
      exact l_end hc hP hS hr dL_die_26 (Nat.le_of_ble_eq_true rfl) (Nat.le_of_ble_eq_true rfl) (Or.inr ⟨r, X2, hp, rfl, rfl, (if_pos c9).symm⟩)
    · refine lv_lconst (v := 1) hx hb dL_die_10 rfl ?_
      refine lv_goto (tgt := 15) hx hb dL_die_11 (by decide) ?_
      refine l_lst hc hP hS dL_die_15 (fun H locs hP hS => ?_)
      refine lv_goto (tgt := 25) hx hb dL_die_16 (by decide) ?_
      refine lv_iconst (v := 0) hx hb dL_die_25 (by decide) ?_
      exact l_end hc hP hS hr dL_die_26 (Nat.le_of_ble_eq_true rfl) (Nat.le_of_ble_eq_true rfl) (Or.inr ⟨r, X2, hp, rfl, rfl, (if_neg c9).symm⟩)
set_option maxHeartbeats 4000000 in
theorem lw_replace (hfl : l.stackTraces = false) (hI : ninj ad on) (hs : lsep ad on aL aD) (hon0 : on 0) (hon1 : on 1) (hon2 : on 2) (hok : oOk (X 0)) (hd : vp_in (X 2 21 0 4) 513) {pp n1 n2 n3 n4 : Int32} : lM l D dA ad on cL cD aL aD yL_replace cL_replace 8 [(0, 16, 19, 28), (0, 16, 23, 13), (0, 16, 27, 15)] [.ref (ad 2 20 0), .int pp, .int n1, .int n2, .int n3, .int n4, .ref aL] (wdo X 0 (X 0), vL, vD) (lPi (fun k => if k = 2 then 1 else if k = 0 then 2 else if k = 1 then 3 else 0) (nG (inB pp (onp (X 0))) 2 (nG (nmOk n1 n2 n3 n4) 0 (nG (oRepl (X 0) pp) 1 (.inr (nJ (X 0) 12 pp (cName n1 n2 n3 n4) 0 11 (nix pp) 5, nEv X (X 0) 12 pp (cName n1 n2 n3 n4) 0)))) : Nat ⊕ (Int32 × NWd)) (fun v => v.toInt64) (wdo X 0 (X 0))) := by
  refine lM_of hI hs rfl (by decide +kernel) (Nat.le_of_ble_eq_true rfl) ?_
  intro p e s m args below meth cd ls hc hr hP hl hS
  have hx := hc.1
  have hb := hc.2.1
  have hl : lv_has ls 8 [(0, .ref (ad 2 20 0)), (1, .int pp), (2, .int n1), (3, .int n2), (4, .int n3), (5, .int n4), (6, .ref aL)] := hl
  refine lv_aload hx hb dL_replace_0 (lv_at hl 6 rfl) ?_
  refine lv_iconst (v := 0) hx hb dL_replace_2 (by decide) ?_
  refine lv_aload_n hx hb dL_replace_3 rfl (lv_at hl 0 rfl) ?_
  refine lv_iload_n hx hb dL_replace_4 rfl (lv_at hl 1 rfl) ?_
  refine lv_iload_n hx hb dL_replace_5 rfl (lv_at hl 2 rfl) ?_
  refine lv_iload_n hx hb dL_replace_6 rfl (lv_at hl 3 rfl) ?_
  refine lv_iload hx hb dL_replace_7 (lv_at hl 4 rfl) ?_
  refine lv_iload hx hb dL_replace_9 (lv_at hl 5 rfl) ?_
  refine l_Xi (X := wdo X 0 (X 0)) (As := [.int pp, .int n1, .int n2, .int n3, .int n4]) (rest := [.int 0, .ref aL]) (c_X9_replace (S := X 0) (pp := pp) (n1 := n1) (n2 := n2) (n3 := n3) (n4 := n4) hfl hI hon0 hon1 hon2 hok hd) hc hP hS hl.1 (ngoodV q784 q785 q786 q1 q787) (l_recv hc hP.1 hon2) nok_X9_replace rfl ⟨(Nat.le_of_ble_eq_true rfl), (Nat.le_of_ble_eq_true rfl)⟩ ⟨(Nat.le_of_ble_eq_true rfl), (Nat.le_of_ble_eq_true rfl)⟩ dL_replace_11 rfl (Nat.le_of_ble_eq_true rfl) ?_ ?_
  · intro k ce q9 H locs hE hP hS hcell hv hcl
    have hE9 : (nG (inB pp (onp (X 0))) 2 (nG (nmOk n1 n2 n3 n4) 0 (nG (oRepl (X 0) pp) 1 (.inr (nJ (X 0) 12 pp (cName n1 n2 n3 n4) 0 11 (nix pp) 5, nEv X (X 0) 12 pp (cName n1 n2 n3 n4) 0)))) : Nat ⊕ (Int32 × NWd)) = .inl k := hE
    have hks : k = 2 ∨ k = 0 ∨ k = 1 := by
      rcases nG_inl hE9 with h9 | h9
      · exact Or.inl h9
      · skip
        rcases nG_inl h9 with h9 | h9
        · exact Or.inr (Or.inl h9)
        · skip
          rcases nG_inl h9 with h9 | h9
          · exact Or.inr (Or.inr (h9))
          · cases h9
    rcases hks with rfl | rfl | rfl
    · refine l_catch (k := 2) (sp := 0) (ep := 16) (hp := 19) (pre := []) (suf := [(0, 16, 23, 13), (0, 16, 27, 15)]) hc (by decide) rfl ?_ ⟨by decide, by decide⟩ hcell hv hcl ?_
      · intro z hz; cases hz
      · skip
        refine lv_astore (lv' := [(7, .ref _), (0, .ref _), (1, .int _), (2, .int _), (3, .int _), (4, .int _), (5, .int _), (6, .ref _)]) hx hb dL_replace_19 hl (by decide) rfl (fun ls hl => ?_)
        refine lv_iconst (v := 1) hx hb dL_replace_21 (by decide) ?_
        exact l_end hc hP hS hr dL_replace_22 (Nat.le_of_ble_eq_true rfl) (Nat.le_of_ble_eq_true rfl) (Or.inl ⟨2, hE9, rfl, rfl⟩)
    · refine l_catch (k := 0) (sp := 0) (ep := 16) (hp := 23) (pre := [(0, 16, 19, 28)]) (suf := [(0, 16, 27, 15)]) hc (by decide) rfl ?_ ⟨by decide, by decide⟩ hcell hv hcl ?_
      · intro z hz
        simp only [List.mem_cons, List.not_mem_nil, or_false] at hz
        subst hz
        exact ⟨2, by decide, by decide, rfl⟩
      · skip
        refine lv_astore (lv' := [(7, .ref _), (0, .ref _), (1, .int _), (2, .int _), (3, .int _), (4, .int _), (5, .int _), (6, .ref _)]) hx hb dL_replace_23 hl (by decide) rfl (fun ls hl => ?_)
        refine lv_iconst (v := 2) hx hb dL_replace_25 (by decide) ?_
        exact l_end hc hP hS hr dL_replace_26 (Nat.le_of_ble_eq_true rfl) (Nat.le_of_ble_eq_true rfl) (Or.inl ⟨0, hE9, rfl, rfl⟩)
    · refine l_catch (k := 1) (sp := 0) (ep := 16) (hp := 27) (pre := [(0, 16, 19, 28), (0, 16, 23, 13)]) (suf := []) hc (by decide) rfl ?_ ⟨by decide, by decide⟩ hcell hv hcl ?_
      · intro z hz
        simp only [List.mem_cons, List.not_mem_nil, or_false] at hz
        rcases hz with rfl | rfl
        · exact ⟨2, by decide, by decide, rfl⟩
        · exact ⟨0, by decide, by decide, rfl⟩
      · skip
        refine lv_astore (lv' := [(7, .ref _), (0, .ref _), (1, .int _), (2, .int _), (3, .int _), (4, .int _), (5, .int _), (6, .ref _)]) hx hb dL_replace_27 hl (by decide) rfl (fun ls hl => ?_)
        refine lv_iconst (v := 3) hx hb dL_replace_29 (by decide) ?_
        exact l_end hc hP hS hr dL_replace_30 (Nat.le_of_ble_eq_true rfl) (Nat.le_of_ble_eq_true rfl) (Or.inl ⟨1, hE9, rfl, rfl⟩)
  · intro r X2 H locs hp hP hS
    refine lv_i2l (v := _) hx hb dL_replace_14 rfl ?_
    refine l_lst hc hP hS dL_replace_15 (fun H locs hP hS => ?_)
    refine lv_goto (tgt := 31) hx hb dL_replace_16 (by decide) ?_
    refine lv_iconst (v := 0) hx hb dL_replace_31 (by decide) ?_
    exact l_end hc hP hS hr dL_replace_32 (Nat.le_of_ble_eq_true rfl) (Nat.le_of_ble_eq_true rfl) (Or.inr ⟨r, X2, hp, rfl, rfl, rfl⟩)
set_option maxHeartbeats 4000000 in
theorem lw_isReplaceable (hfl : l.stackTraces = false) (hI : ninj ad on) (hs : lsep ad on aL aD) (hon0 : on 0) (hon1 : on 1) (hon2 : on 2) (hok : oOk (X 0)) (hd : vp_in (X 2 21 0 4) 513) {pp : Int32} : lM l D dA ad on cL cD aL aD yL_isReplaceable cL_isReplaceable 4 [(0, 16, 19, 28)] [.ref (ad 2 20 0), .int pp, .ref aL] (wdo X 0 (X 0), vL, vD) (lPi (fun k => if k = 2 then 1 else 0) (nG (inB pp (onp (X 0))) 2 (.inr (nb (oRepl (X 0) pp), wdo X 0 (X 0))) : Nat ⊕ (Int32 × NWd)) (fun v => if v = 0 then 0 else 1) (wdo X 0 (X 0))) := by
  refine lM_of hI hs rfl (by decide +kernel) (Nat.le_of_ble_eq_true rfl) ?_
  intro p e s m args below meth cd ls hc hr hP hl hS
  have hx := hc.1
  have hb := hc.2.1
  have hl : lv_has ls 4 [(0, .ref (ad 2 20 0)), (1, .int pp), (2, .ref aL)] := hl
  refine lv_aload_n hx hb dL_isReplaceable_0 rfl (lv_at hl 2 rfl) ?_
  refine lv_iconst (v := 0) hx hb dL_isReplaceable_1 (by decide) ?_
  refine lv_aload_n hx hb dL_isReplaceable_2 rfl (lv_at hl 0 rfl) ?_
  refine lv_iload_n hx hb dL_isReplaceable_3 rfl (lv_at hl 1 rfl) ?_
  refine l_Xi (X := wdo X 0 (X 0)) (As := [.int pp]) (rest := [.int 0, .ref aL]) (c_X9_isReplaceable (S := X 0) (pp := pp) hfl hI hon0 hon1 hon2 hok hd) hc hP hS hl.1 (ngoodV q792 q793 q794 q1 q795) (l_recv hc hP.1 hon2) nok_X9_isReplaceable rfl ⟨(Nat.le_of_ble_eq_true rfl), (Nat.le_of_ble_eq_true rfl)⟩ ⟨(Nat.le_of_ble_eq_true rfl), (Nat.le_of_ble_eq_true rfl)⟩ dL_isReplaceable_4 rfl (Nat.le_of_ble_eq_true rfl) ?_ ?_
  · intro k ce q9 H locs hE hP hS hcell hv hcl
    have hE9 : (nG (inB pp (onp (X 0))) 2 (.inr (nb (oRepl (X 0) pp), wdo X 0 (X 0))) : Nat ⊕ (Int32 × NWd)) = .inl k := hE
    have hks : k = 2 := by
      rcases nG_inl hE9 with h9 | h9
      · exact h9
      · cases h9
    subst hks
    refine l_catch (k := 2) (sp := 0) (ep := 16) (hp := 19) (pre := []) (suf := []) hc (by decide) rfl ?_ ⟨by decide, by decide⟩ hcell hv hcl ?_
    · intro z hz; cases hz
    · skip
      refine lv_astore_n (lv' := [(3, .ref _), (0, .ref _), (1, .int _), (2, .ref _)]) hx hb dL_isReplaceable_19 rfl hl (by decide) rfl (fun ls hl => ?_)
      refine lv_iconst (v := 1) hx hb dL_isReplaceable_20 (by decide) ?_
      exact l_end hc hP hS hr dL_isReplaceable_21 (Nat.le_of_ble_eq_true rfl) (Nat.le_of_ble_eq_true rfl) (Or.inl ⟨2, hE9, rfl, rfl⟩)
  · intro r X2 H locs hp hP hS
    refine lv_if_eq (tgt := 14) hx hb dL_isReplaceable_7 (by decide) (fun c9 => ?_) (fun c9 => ?_)
    · refine lv_lconst (v := 0) hx hb dL_isReplaceable_14 rfl ?_
      refine l_lst hc hP hS dL_isReplaceable_15 (fun H locs hP hS => ?_)
      refine lv_goto (tgt := 22) hx hb dL_isReplaceable_16 (by decide) ?_
      refine lv_iconst (v := 0) hx hb dL_isReplaceable_22 (by decide) ?_
      exact l_end hc hP hS hr dL_isReplaceable_23 (Nat.le_of_ble_eq_true rfl) (Nat.le_of_ble_eq_true rfl) (Or.inr ⟨r, X2, hp, rfl, rfl, (if_pos c9).symm⟩)
    · refine lv_lconst (v := 1) hx hb dL_isReplaceable_10 rfl ?_
      refine lv_goto (tgt := 15) hx hb dL_isReplaceable_11 (by decide) ?_
      refine l_lst hc hP hS dL_isReplaceable_15 (fun H locs hP hS => ?_)
      refine lv_goto (tgt := 22) hx hb dL_isReplaceable_16 (by decide) ?_
      refine lv_iconst (v := 0) hx hb dL_isReplaceable_22 (by decide) ?_
      exact l_end hc hP hS hr dL_isReplaceable_23 (Nat.le_of_ble_eq_true rfl) (Nat.le_of_ble_eq_true rfl) (Or.inr ⟨r, X2, hp, rfl, rfl, (if_neg c9).symm⟩)
set_option maxHeartbeats 4000000 in
theorem lw_surname (hfl : l.stackTraces = false) (hI : ninj ad on) (hs : lsep ad on aL aD) (hon0 : on 0) (hon1 : on 1) (hon2 : on 2) (hok : oOk (X 0)) (hd : vp_in (X 2 21 0 4) 513) {pp q : Int32} : lM l D dA ad on cL cD aL aD yL_surname cL_surname 5 [(0, 10, 13, 28)] [.ref (ad 2 20 0), .int pp, .int q, .ref aL] (wdo X 0 (X 0), vL, vD) (lPi (fun k => if k = 2 then 1 else 0) (nG (inB pp (onp (X 0))) 2 (nG (decide (0 ≤ q) && decide (q < 4)) 2 (.inr (cChar ((X 0) 11 (nix pp) 2) q, wdo X 0 (X 0)))) : Nat ⊕ (Int32 × NWd)) (fun v => v.toInt64) (wdo X 0 (X 0))) := by
  refine lM_of hI hs rfl (by decide +kernel) (Nat.le_of_ble_eq_true rfl) ?_
  intro p e s m args below meth cd ls hc hr hP hl hS
  have hx := hc.1
  have hb := hc.2.1
  have hl : lv_has ls 5 [(0, .ref (ad 2 20 0)), (1, .int pp), (2, .int q), (3, .ref aL)] := hl
  refine lv_aload_n hx hb dL_surname_0 rfl (lv_at hl 3 rfl) ?_
  refine lv_iconst (v := 0) hx hb dL_surname_1 (by decide) ?_
  refine lv_aload_n hx hb dL_surname_2 rfl (lv_at hl 0 rfl) ?_
  refine lv_iload_n hx hb dL_surname_3 rfl (lv_at hl 1 rfl) ?_
  refine lv_iload_n hx hb dL_surname_4 rfl (lv_at hl 2 rfl) ?_
  refine l_Xi (X := wdo X 0 (X 0)) (As := [.int pp, .int q]) (rest := [.int 0, .ref aL]) (c_X9_surname (S := X 0) (pp := pp) (q := q) hfl hI hon0 hon1 hon2 hok hd) hc hP hS hl.1 (ngoodV q799 q800 q801 q1 q802) (l_recv hc hP.1 hon2) nok_X9_surname rfl ⟨(Nat.le_of_ble_eq_true rfl), (Nat.le_of_ble_eq_true rfl)⟩ ⟨(Nat.le_of_ble_eq_true rfl), (Nat.le_of_ble_eq_true rfl)⟩ dL_surname_5 rfl (Nat.le_of_ble_eq_true rfl) ?_ ?_
  · intro k ce q9 H locs hE hP hS hcell hv hcl
    have hE9 : (nG (inB pp (onp (X 0))) 2 (nG (decide (0 ≤ q) && decide (q < 4)) 2 (.inr (cChar ((X 0) 11 (nix pp) 2) q, wdo X 0 (X 0)))) : Nat ⊕ (Int32 × NWd)) = .inl k := hE
    have hks : k = 2 := by
      rcases nG_inl hE9 with h9 | h9
      · exact h9
      · skip
        rcases nG_inl h9 with h9 | h9
        · exact h9
        · cases h9
    subst hks
    refine l_catch (k := 2) (sp := 0) (ep := 10) (hp := 13) (pre := []) (suf := []) hc (by decide) rfl ?_ ⟨by decide, by decide⟩ hcell hv hcl ?_
    · intro z hz; cases hz
    · skip
      refine lv_astore (lv' := [(4, .ref _), (0, .ref _), (1, .int _), (2, .int _), (3, .ref _)]) hx hb dL_surname_13 hl (by decide) rfl (fun ls hl => ?_)
      refine lv_iconst (v := 1) hx hb dL_surname_15 (by decide) ?_
      exact l_end hc hP hS hr dL_surname_16 (Nat.le_of_ble_eq_true rfl) (Nat.le_of_ble_eq_true rfl) (Or.inl ⟨2, hE9, rfl, rfl⟩)
  · intro r X2 H locs hp hP hS
    refine lv_i2l (v := _) hx hb dL_surname_8 rfl ?_
    refine l_lst hc hP hS dL_surname_9 (fun H locs hP hS => ?_)
    refine lv_goto (tgt := 17) hx hb dL_surname_10 (by decide) ?_
    refine lv_iconst (v := 0) hx hb dL_surname_17 (by decide) ?_
    exact l_end hc hP hS hr dL_surname_18 (Nat.le_of_ble_eq_true rfl) (Nat.le_of_ble_eq_true rfl) (Or.inr ⟨r, X2, hp, rfl, rfl, rfl⟩)
set_option maxHeartbeats 4000000 in
theorem lw_counted (hfl : l.stackTraces = false) (hI : ninj ad on) (hs : lsep ad on aL aD) (hon0 : on 0) (hon1 : on 1) (hon2 : on 2) (hok : oOk (X 0)) (hd : vp_in (X 2 21 0 4) 513) {pp : Int32} : lM l D dA ad on cL cD aL aD yL_counted cL_counted 4 [(0, 9, 12, 28)] [.ref (ad 2 20 0), .int pp, .ref aL] (wdo X 0 (X 0), vL, vD) (lPi (fun k => if k = 2 then 1 else 0) (nG (inB pp (onp (X 0))) 2 (.inr ((X 0) 11 (nix pp) 8, wdo X 0 (X 0))) : Nat ⊕ (Int32 × NWd)) (fun v => v.toInt64) (wdo X 0 (X 0))) := by
  refine lM_of hI hs rfl (by decide +kernel) (Nat.le_of_ble_eq_true rfl) ?_
  intro p e s m args below meth cd ls hc hr hP hl hS
  have hx := hc.1
  have hb := hc.2.1
  have hl : lv_has ls 4 [(0, .ref (ad 2 20 0)), (1, .int pp), (2, .ref aL)] := hl
  refine lv_aload_n hx hb dL_counted_0 rfl (lv_at hl 2 rfl) ?_
  refine lv_iconst (v := 0) hx hb dL_counted_1 (by decide) ?_
  refine lv_aload_n hx hb dL_counted_2 rfl (lv_at hl 0 rfl) ?_
  refine lv_iload_n hx hb dL_counted_3 rfl (lv_at hl 1 rfl) ?_
  refine l_Xi (X := wdo X 0 (X 0)) (As := [.int pp]) (rest := [.int 0, .ref aL]) (c_X9_counted (S := X 0) (pp := pp) hfl hI hon0 hon1 hon2 hok hd) hc hP hS hl.1 (ngoodV q810 q811 q812 q1 q813) (l_recv hc hP.1 hon2) nok_X9_counted rfl ⟨(Nat.le_of_ble_eq_true rfl), (Nat.le_of_ble_eq_true rfl)⟩ ⟨(Nat.le_of_ble_eq_true rfl), (Nat.le_of_ble_eq_true rfl)⟩ dL_counted_4 rfl (Nat.le_of_ble_eq_true rfl) ?_ ?_
  · intro k ce q9 H locs hE hP hS hcell hv hcl
    have hE9 : (nG (inB pp (onp (X 0))) 2 (.inr ((X 0) 11 (nix pp) 8, wdo X 0 (X 0))) : Nat ⊕ (Int32 × NWd)) = .inl k := hE
    have hks : k = 2 := by
      rcases nG_inl hE9 with h9 | h9
      · exact h9
      · cases h9
    subst hks
    refine l_catch (k := 2) (sp := 0) (ep := 9) (hp := 12) (pre := []) (suf := []) hc (by decide) rfl ?_ ⟨by decide, by decide⟩ hcell hv hcl ?_
    · intro z hz; cases hz
    · skip
      refine lv_astore_n (lv' := [(3, .ref _), (0, .ref _), (1, .int _), (2, .ref _)]) hx hb dL_counted_12 rfl hl (by decide) rfl (fun ls hl => ?_)
      refine lv_iconst (v := 1) hx hb dL_counted_13 (by decide) ?_
      exact l_end hc hP hS hr dL_counted_14 (Nat.le_of_ble_eq_true rfl) (Nat.le_of_ble_eq_true rfl) (Or.inl ⟨2, hE9, rfl, rfl⟩)
  · intro r X2 H locs hp hP hS
    refine lv_i2l (v := _) hx hb dL_counted_7 rfl ?_
    refine l_lst hc hP hS dL_counted_8 (fun H locs hP hS => ?_)
    refine lv_goto (tgt := 15) hx hb dL_counted_9 (by decide) ?_
    refine lv_iconst (v := 0) hx hb dL_counted_15 (by decide) ?_
    exact l_end hc hP hS hr dL_counted_16 (Nat.le_of_ble_eq_true rfl) (Nat.le_of_ble_eq_true rfl) (Or.inr ⟨r, X2, hp, rfl, rfl, rfl⟩)
set_option maxHeartbeats 4000000 in
theorem lw_signatureResult (hfl : l.stackTraces = false) (hI : ninj ad on) (hs : lsep ad on aL aD) (hon0 : on 0) (hon1 : on 1) (hon2 : on 2) (hok : oOk (X 0)) (hd : vp_in (X 2 21 0 4) 513) {q : Int32} : lM l D dA ad on cL cD aL aD yL_signatureResult cL_signatureResult 4 [(0, 9, 12, 28)] [.ref (ad 2 20 0), .int q, .ref aL] (wdo X 0 (X 0), vL, vD) (lPi (fun k => if k = 2 then 1 else 0) (nG (decide (0 ≤ q) && decide (q < (X 0) 0 0 7)) 2 (.inr ((X 0) 13 (nix q) 4, wdo X 0 (X 0))) : Nat ⊕ (Int32 × NWd)) (fun v => v.toInt64) (wdo X 0 (X 0))) := by
  refine lM_of hI hs rfl (by decide +kernel) (Nat.le_of_ble_eq_true rfl) ?_
  intro p e s m args below meth cd ls hc hr hP hl hS
  have hx := hc.1
  have hb := hc.2.1
  have hl : lv_has ls 4 [(0, .ref (ad 2 20 0)), (1, .int q), (2, .ref aL)] := hl
  refine lv_aload_n hx hb dL_signatureResult_0 rfl (lv_at hl 2 rfl) ?_
  refine lv_iconst (v := 0) hx hb dL_signatureResult_1 (by decide) ?_
  refine lv_aload_n hx hb dL_signatureResult_2 rfl (lv_at hl 0 rfl) ?_
  refine lv_iload_n hx hb dL_signatureResult_3 rfl (lv_at hl 1 rfl) ?_
  refine l_Xi (X := wdo X 0 (X 0)) (As := [.int q]) (rest := [.int 0, .ref aL]) (c_X9_signatureResult (S := X 0) (q := q) hfl hI hon0 hon1 hon2 hok hd) hc hP hS hl.1 (ngoodV q817 q818 q819 q1 q820) (l_recv hc hP.1 hon2) nok_X9_signatureResult rfl ⟨(Nat.le_of_ble_eq_true rfl), (Nat.le_of_ble_eq_true rfl)⟩ ⟨(Nat.le_of_ble_eq_true rfl), (Nat.le_of_ble_eq_true rfl)⟩ dL_signatureResult_4 rfl (Nat.le_of_ble_eq_true rfl) ?_ ?_
  · intro k ce q9 H locs hE hP hS hcell hv hcl
    have hE9 : (nG (decide (0 ≤ q) && decide (q < (X 0) 0 0 7)) 2 (.inr ((X 0) 13 (nix q) 4, wdo X 0 (X 0))) : Nat ⊕ (Int32 × NWd)) = .inl k := hE
    have hks : k = 2 := by
      rcases nG_inl hE9 with h9 | h9
      · exact h9
      · cases h9
    subst hks
    refine l_catch (k := 2) (sp := 0) (ep := 9) (hp := 12) (pre := []) (suf := []) hc (by decide) rfl ?_ ⟨by decide, by decide⟩ hcell hv hcl ?_
    · intro z hz; cases hz
    · skip
      refine lv_astore_n (lv' := [(3, .ref _), (0, .ref _), (1, .int _), (2, .ref _)]) hx hb dL_signatureResult_12 rfl hl (by decide) rfl (fun ls hl => ?_)
      refine lv_iconst (v := 1) hx hb dL_signatureResult_13 (by decide) ?_
      exact l_end hc hP hS hr dL_signatureResult_14 (Nat.le_of_ble_eq_true rfl) (Nat.le_of_ble_eq_true rfl) (Or.inl ⟨2, hE9, rfl, rfl⟩)
  · intro r X2 H locs hp hP hS
    refine lv_i2l (v := _) hx hb dL_signatureResult_7 rfl ?_
    refine l_lst hc hP hS dL_signatureResult_8 (fun H locs hP hS => ?_)
    refine lv_goto (tgt := 15) hx hb dL_signatureResult_9 (by decide) ?_
    refine lv_iconst (v := 0) hx hb dL_signatureResult_15 (by decide) ?_
    exact l_end hc hP hS hr dL_signatureResult_16 (Nat.le_of_ble_eq_true rfl) (Nat.le_of_ble_eq_true rfl) (Or.inr ⟨r, X2, hp, rfl, rfl, rfl⟩)
set_option maxHeartbeats 4000000 in
theorem lw_wouldCount (hfl : l.stackTraces = false) (hI : ninj ad on) (hs : lsep ad on aL aD) (hon0 : on 0) (hon1 : on 1) (hon2 : on 2) (hok : oOk (X 0)) (hd : vp_in (X 2 21 0 4) 513) {pp v : Int32} : lM l D dA ad on cL cD aL aD yL_wouldCount cL_wouldCount 5 [(0, 17, 20, 28), (0, 17, 24, 15)] [.ref (ad 2 20 0), .int pp, .int v, .ref aL] (wdo X 0 (X 0), vL, vD) (lPi (fun k => if k = 2 then 1 else if k = 1 then 2 else 0) (nG (inB pp (onp (X 0))) 2 (nG (inB v (onv (X 0))) 2 (nG (oOpen (X 0)) 1 (nG (!oGone (X 0) pp) 1 (.inr (nb (oWould (X 0) pp v), wdo X 0 (X 0)))))) : Nat ⊕ (Int32 × NWd)) (fun v => if v = 0 then 0 else 1) (wdo X 0 (X 0))) := by
  refine lM_of hI hs rfl (by decide +kernel) (Nat.le_of_ble_eq_true rfl) ?_
  intro p e s m args below meth cd ls hc hr hP hl hS
  have hx := hc.1
  have hb := hc.2.1
  have hl : lv_has ls 5 [(0, .ref (ad 2 20 0)), (1, .int pp), (2, .int v), (3, .ref aL)] := hl
  refine lv_aload_n hx hb dL_wouldCount_0 rfl (lv_at hl 3 rfl) ?_
  refine lv_iconst (v := 0) hx hb dL_wouldCount_1 (by decide) ?_
  refine lv_aload_n hx hb dL_wouldCount_2 rfl (lv_at hl 0 rfl) ?_
  refine lv_iload_n hx hb dL_wouldCount_3 rfl (lv_at hl 1 rfl) ?_
  refine lv_iload_n hx hb dL_wouldCount_4 rfl (lv_at hl 2 rfl) ?_
  refine l_Xi (X := wdo X 0 (X 0)) (As := [.int pp, .int v]) (rest := [.int 0, .ref aL]) (c_X9_wouldCount (S := X 0) (pp := pp) (v := v) hfl hI hon0 hon1 hon2 hok hd) hc hP hS hl.1 (ngoodV q825 q826 q827 q1 q828) (l_recv hc hP.1 hon2) nok_X9_wouldCount rfl ⟨(Nat.le_of_ble_eq_true rfl), (Nat.le_of_ble_eq_true rfl)⟩ ⟨(Nat.le_of_ble_eq_true rfl), (Nat.le_of_ble_eq_true rfl)⟩ dL_wouldCount_5 rfl (Nat.le_of_ble_eq_true rfl) ?_ ?_
  · intro k ce q9 H locs hE hP hS hcell hv hcl
    have hE9 : (nG (inB pp (onp (X 0))) 2 (nG (inB v (onv (X 0))) 2 (nG (oOpen (X 0)) 1 (nG (!oGone (X 0) pp) 1 (.inr (nb (oWould (X 0) pp v), wdo X 0 (X 0)))))) : Nat ⊕ (Int32 × NWd)) = .inl k := hE
    have hks : k = 2 ∨ k = 1 := by
      rcases nG_inl hE9 with h9 | h9
      · exact Or.inl h9
      · skip
        rcases nG_inl h9 with h9 | h9
        · exact Or.inl h9
        · skip
          rcases nG_inl h9 with h9 | h9
          · exact Or.inr (h9)
          · skip
            rcases nG_inl h9 with h9 | h9
            · exact Or.inr (h9)
            · cases h9
    rcases hks with rfl | rfl
    · refine l_catch (k := 2) (sp := 0) (ep := 17) (hp := 20) (pre := []) (suf := [(0, 17, 24, 15)]) hc (by decide) rfl ?_ ⟨by decide, by decide⟩ hcell hv hcl ?_
      · intro z hz; cases hz
      · skip
        refine lv_astore (lv' := [(4, .ref _), (0, .ref _), (1, .int _), (2, .int _), (3, .ref _)]) hx hb dL_wouldCount_20 hl (by decide) rfl (fun ls hl => ?_)
        refine lv_iconst (v := 1) hx hb dL_wouldCount_22 (by decide) ?_
        exact l_end hc hP hS hr dL_wouldCount_23 (Nat.le_of_ble_eq_true rfl) (Nat.le_of_ble_eq_true rfl) (Or.inl ⟨2, hE9, rfl, rfl⟩)
    · refine l_catch (k := 1) (sp := 0) (ep := 17) (hp := 24) (pre := [(0, 17, 20, 28)]) (suf := []) hc (by decide) rfl ?_ ⟨by decide, by decide⟩ hcell hv hcl ?_
      · intro z hz
        simp only [List.mem_cons, List.not_mem_nil, or_false] at hz
        subst hz
        exact ⟨2, by decide, by decide, rfl⟩
      · skip
        refine lv_astore (lv' := [(4, .ref _), (0, .ref _), (1, .int _), (2, .int _), (3, .ref _)]) hx hb dL_wouldCount_24 hl (by decide) rfl (fun ls hl => ?_)
        refine lv_iconst (v := 2) hx hb dL_wouldCount_26 (by decide) ?_
        exact l_end hc hP hS hr dL_wouldCount_27 (Nat.le_of_ble_eq_true rfl) (Nat.le_of_ble_eq_true rfl) (Or.inl ⟨1, hE9, rfl, rfl⟩)
  · intro r X2 H locs hp hP hS
    refine lv_if_eq (tgt := 15) hx hb dL_wouldCount_8 (by decide) (fun c9 => ?_) (fun c9 => ?_)
    · refine lv_lconst (v := 0) hx hb dL_wouldCount_15 rfl ?_
      refine l_lst hc hP hS dL_wouldCount_16 (fun H locs hP hS => ?_)
      refine lv_goto (tgt := 28) hx hb dL_wouldCount_17 (by decide) ?_
      refine lv_iconst (v := 0) hx hb dL_wouldCount_28 (by decide) ?_
      exact l_end hc hP hS hr dL_wouldCount_29 (Nat.le_of_ble_eq_true rfl) (Nat.le_of_ble_eq_true rfl) (Or.inr ⟨r, X2, hp, rfl, rfl, (if_pos c9).symm⟩)
    · refine lv_lconst (v := 1) hx hb dL_wouldCount_11 rfl ?_
      refine lv_goto (tgt := 16) hx hb dL_wouldCount_12 (by decide) ?_
      refine l_lst hc hP hS dL_wouldCount_16 (fun H locs hP hS => ?_)
      refine lv_goto (tgt := 28) hx hb dL_wouldCount_17 (by decide) ?_
      refine lv_iconst (v := 0) hx hb dL_wouldCount_28 (by decide) ?_
      exact l_end hc hP hS hr dL_wouldCount_29 (Nat.le_of_ble_eq_true rfl) (Nat.le_of_ble_eq_true rfl) (Or.inr ⟨r, X2, hp, rfl, rfl, (if_neg c9).symm⟩)
set_option maxHeartbeats 4000000 in
theorem lw_paperOf (hfl : l.stackTraces = false) (hI : ninj ad on) (hs : lsep ad on aL aD) (hon0 : on 0) (hon1 : on 1) (hon2 : on 2) (hok : oOk (X 0)) (hd : vp_in (X 2 21 0 4) 513) {v : Int32} : lM l D dA ad on cL cD aL aD yL_paperOf cL_paperOf 4 [(0, 9, 12, 28), (0, 9, 15, 88)] [.ref (ad 2 20 0), .int v, .ref aL] (wdo X 0 (X 0), vL, vD) (lPi (fun k => if k = 2 then 1 else if k = 4 then 2 else 0) (nG (inB v (onv (X 0))) 2 (nG (!decide (oSup (X 0) v = -1)) 4 (.inr (oSup (X 0) v, wdo X 0 (X 0)))) : Nat ⊕ (Int32 × NWd)) (fun v => v.toInt64) (wdo X 0 (X 0))) := by
  refine lM_of hI hs rfl (by decide +kernel) (Nat.le_of_ble_eq_true rfl) ?_
  intro p e s m args below meth cd ls hc hr hP hl hS
  have hx := hc.1
  have hb := hc.2.1
  have hl : lv_has ls 4 [(0, .ref (ad 2 20 0)), (1, .int v), (2, .ref aL)] := hl
  refine lv_aload_n hx hb dL_paperOf_0 rfl (lv_at hl 2 rfl) ?_
  refine lv_iconst (v := 0) hx hb dL_paperOf_1 (by decide) ?_
  refine lv_aload_n hx hb dL_paperOf_2 rfl (lv_at hl 0 rfl) ?_
  refine lv_iload_n hx hb dL_paperOf_3 rfl (lv_at hl 1 rfl) ?_
  refine l_Xi (X := wdo X 0 (X 0)) (As := [.int v]) (rest := [.int 0, .ref aL]) (c_X9_paperOf (S := X 0) (v := v) hfl hI hon0 hon1 hon2 hok hd) hc hP hS hl.1 (ngoodV q837 q838 q839 q1 q840) (l_recv hc hP.1 hon2) nok_X9_paperOf rfl ⟨(Nat.le_of_ble_eq_true rfl), (Nat.le_of_ble_eq_true rfl)⟩ ⟨(Nat.le_of_ble_eq_true rfl), (Nat.le_of_ble_eq_true rfl)⟩ dL_paperOf_4 rfl (Nat.le_of_ble_eq_true rfl) ?_ ?_
  · intro k ce q9 H locs hE hP hS hcell hv hcl
    have hE9 : (nG (inB v (onv (X 0))) 2 (nG (!decide (oSup (X 0) v = -1)) 4 (.inr (oSup (X 0) v, wdo X 0 (X 0)))) : Nat ⊕ (Int32 × NWd)) = .inl k := hE
    have hks : k = 2 ∨ k = 4 := by
      rcases nG_inl hE9 with h9 | h9
      · exact Or.inl h9
      · skip
        rcases nG_inl h9 with h9 | h9
        · exact Or.inr (h9)
        · cases h9
    rcases hks with rfl | rfl
    · refine l_catch (k := 2) (sp := 0) (ep := 9) (hp := 12) (pre := []) (suf := [(0, 9, 15, 88)]) hc (by decide) rfl ?_ ⟨by decide, by decide⟩ hcell hv hcl ?_
      · intro z hz; cases hz
      · skip
        refine lv_astore_n (lv' := [(3, .ref _), (0, .ref _), (1, .int _), (2, .ref _)]) hx hb dL_paperOf_12 rfl hl (by decide) rfl (fun ls hl => ?_)
        refine lv_iconst (v := 1) hx hb dL_paperOf_13 (by decide) ?_
        exact l_end hc hP hS hr dL_paperOf_14 (Nat.le_of_ble_eq_true rfl) (Nat.le_of_ble_eq_true rfl) (Or.inl ⟨2, hE9, rfl, rfl⟩)
    · refine l_catch (k := 4) (sp := 0) (ep := 9) (hp := 15) (pre := [(0, 9, 12, 28)]) (suf := []) hc (by decide) rfl ?_ ⟨by decide, by decide⟩ hcell hv hcl ?_
      · intro z hz
        simp only [List.mem_cons, List.not_mem_nil, or_false] at hz
        subst hz
        exact ⟨2, by decide, by decide, rfl⟩
      · skip
        refine lv_astore_n (lv' := [(3, .ref _), (0, .ref _), (1, .int _), (2, .ref _)]) hx hb dL_paperOf_15 rfl hl (by decide) rfl (fun ls hl => ?_)
        refine lv_iconst (v := 2) hx hb dL_paperOf_16 (by decide) ?_
        exact l_end hc hP hS hr dL_paperOf_17 (Nat.le_of_ble_eq_true rfl) (Nat.le_of_ble_eq_true rfl) (Or.inl ⟨4, hE9, rfl, rfl⟩)
  · intro r X2 H locs hp hP hS
    refine lv_i2l (v := _) hx hb dL_paperOf_7 rfl ?_
    refine l_lst hc hP hS dL_paperOf_8 (fun H locs hP hS => ?_)
    refine lv_goto (tgt := 18) hx hb dL_paperOf_9 (by decide) ?_
    refine lv_iconst (v := 0) hx hb dL_paperOf_18 (by decide) ?_
    exact l_end hc hP hS hr dL_paperOf_19 (Nat.le_of_ble_eq_true rfl) (Nat.le_of_ble_eq_true rfl) (Or.inr ⟨r, X2, hp, rfl, rfl, rfl⟩)
set_option maxHeartbeats 4000000 in
theorem lw_gain (hfl : l.stackTraces = false) (hI : ninj ad on) (hs : lsep ad on aL aD) (hon0 : on 0) (hon1 : on 1) (hon2 : on 2) (hok : oOk (X 0)) (hd : vp_in (X 2 21 0 4) 513) {pp q : Int32} : lM l D dA ad on cL cD aL aD yL_gain cL_gain 5 [(0, 10, 13, 28), (0, 10, 17, 13), (0, 10, 21, 15)] [.ref (ad 2 20 0), .int pp, .int q, .ref aL] (wdo X 0 (X 0), vL, vD) (lPi (fun k => if k = 2 then 1 else if k = 0 then 2 else if k = 1 then 3 else 0) (nG (inB pp (onp (X 0))) 2 (nG (inB q (onp (X 0))) 2 (nG (!decide (pp = q)) 0 (nG (oOpen (X 0)) 1 (nG (!oGone (X 0) pp) 1 (.inr (oFreed (X 0) pp q, wdo X 0 (oG (X 0) pp).2)))))) : Nat ⊕ (Int32 × NWd)) (fun v => v.toInt64) (wdo X 0 (X 0))) := by
  refine lM_of hI hs rfl (by decide +kernel) (Nat.le_of_ble_eq_true rfl) ?_
  intro p e s m args below meth cd ls hc hr hP hl hS
  have hx := hc.1
  have hb := hc.2.1
  have hl : lv_has ls 5 [(0, .ref (ad 2 20 0)), (1, .int pp), (2, .int q), (3, .ref aL)] := hl
  refine lv_aload_n hx hb dL_gain_0 rfl (lv_at hl 3 rfl) ?_
  refine lv_iconst (v := 0) hx hb dL_gain_1 (by decide) ?_
  refine lv_aload_n hx hb dL_gain_2 rfl (lv_at hl 0 rfl) ?_
  refine lv_iload_n hx hb dL_gain_3 rfl (lv_at hl 1 rfl) ?_
  refine lv_iload_n hx hb dL_gain_4 rfl (lv_at hl 2 rfl) ?_
  refine l_Xi (X := wdo X 0 (X 0)) (As := [.int pp, .int q]) (rest := [.int 0, .ref aL]) (c_X9_gain (S := X 0) (pp := pp) (q := q) hfl hI hon0 hon1 hon2 hok hd) hc hP hS hl.1 (ngoodV q864 q865 q866 q1 q867) (l_recv hc hP.1 hon2) nok_X9_gain rfl ⟨(Nat.le_of_ble_eq_true rfl), (Nat.le_of_ble_eq_true rfl)⟩ ⟨(Nat.le_of_ble_eq_true rfl), (Nat.le_of_ble_eq_true rfl)⟩ dL_gain_5 rfl (Nat.le_of_ble_eq_true rfl) ?_ ?_
  · intro k ce q9 H locs hE hP hS hcell hv hcl
    have hE9 : (nG (inB pp (onp (X 0))) 2 (nG (inB q (onp (X 0))) 2 (nG (!decide (pp = q)) 0 (nG (oOpen (X 0)) 1 (nG (!oGone (X 0) pp) 1 (.inr (oFreed (X 0) pp q, wdo X 0 (oG (X 0) pp).2)))))) : Nat ⊕ (Int32 × NWd)) = .inl k := hE
    have hks : k = 2 ∨ k = 0 ∨ k = 1 := by
      rcases nG_inl hE9 with h9 | h9
      · exact Or.inl h9
      · skip
        rcases nG_inl h9 with h9 | h9
        · exact Or.inl h9
        · skip
          rcases nG_inl h9 with h9 | h9
          · exact Or.inr (Or.inl h9)
          · skip
            rcases nG_inl h9 with h9 | h9
            · exact Or.inr (Or.inr (h9))
            · skip
              rcases nG_inl h9 with h9 | h9
              · exact Or.inr (Or.inr (h9))
              · cases h9
    rcases hks with rfl | rfl | rfl
    · refine l_catch (k := 2) (sp := 0) (ep := 10) (hp := 13) (pre := []) (suf := [(0, 10, 17, 13), (0, 10, 21, 15)]) hc (by decide) rfl ?_ ⟨by decide, by decide⟩ hcell hv hcl ?_
      · intro z hz; cases hz
      · skip
        refine lv_astore (lv' := [(4, .ref _), (0, .ref _), (1, .int _), (2, .int _), (3, .ref _)]) hx hb dL_gain_13 hl (by decide) rfl (fun ls hl => ?_)
        refine lv_iconst (v := 1) hx hb dL_gain_15 (by decide) ?_
        exact l_end hc hP hS hr dL_gain_16 (Nat.le_of_ble_eq_true rfl) (Nat.le_of_ble_eq_true rfl) (Or.inl ⟨2, hE9, rfl, rfl⟩)
    · refine l_catch (k := 0) (sp := 0) (ep := 10) (hp := 17) (pre := [(0, 10, 13, 28)]) (suf := [(0, 10, 21, 15)]) hc (by decide) rfl ?_ ⟨by decide, by decide⟩ hcell hv hcl ?_
      · intro z hz
        simp only [List.mem_cons, List.not_mem_nil, or_false] at hz
        subst hz
        exact ⟨2, by decide, by decide, rfl⟩
      · skip
        refine lv_astore (lv' := [(4, .ref _), (0, .ref _), (1, .int _), (2, .int _), (3, .ref _)]) hx hb dL_gain_17 hl (by decide) rfl (fun ls hl => ?_)
        refine lv_iconst (v := 2) hx hb dL_gain_19 (by decide) ?_
        exact l_end hc hP hS hr dL_gain_20 (Nat.le_of_ble_eq_true rfl) (Nat.le_of_ble_eq_true rfl) (Or.inl ⟨0, hE9, rfl, rfl⟩)
    · refine l_catch (k := 1) (sp := 0) (ep := 10) (hp := 21) (pre := [(0, 10, 13, 28), (0, 10, 17, 13)]) (suf := []) hc (by decide) rfl ?_ ⟨by decide, by decide⟩ hcell hv hcl ?_
      · intro z hz
        simp only [List.mem_cons, List.not_mem_nil, or_false] at hz
        rcases hz with rfl | rfl
        · exact ⟨2, by decide, by decide, rfl⟩
        · exact ⟨0, by decide, by decide, rfl⟩
      · skip
        refine lv_astore (lv' := [(4, .ref _), (0, .ref _), (1, .int _), (2, .int _), (3, .ref _)]) hx hb dL_gain_21 hl (by decide) rfl (fun ls hl => ?_)
        refine lv_iconst (v := 3) hx hb dL_gain_23 (by decide) ?_
        exact l_end hc hP hS hr dL_gain_24 (Nat.le_of_ble_eq_true rfl) (Nat.le_of_ble_eq_true rfl) (Or.inl ⟨1, hE9, rfl, rfl⟩)
  · intro r X2 H locs hp hP hS
    refine lv_i2l (v := _) hx hb dL_gain_8 rfl ?_
    refine l_lst hc hP hS dL_gain_9 (fun H locs hP hS => ?_)
    refine lv_goto (tgt := 25) hx hb dL_gain_10 (by decide) ?_
    refine lv_iconst (v := 0) hx hb dL_gain_25 (by decide) ?_
    exact l_end hc hP hS hr dL_gain_26 (Nat.le_of_ble_eq_true rfl) (Nat.le_of_ble_eq_true rfl) (Or.inr ⟨r, X2, hp, rfl, rfl, rfl⟩)
set_option maxHeartbeats 4000000 in
theorem lw_fewestWithdrawals (hfl : l.stackTraces = false) (hI : ninj ad on) (hs : lsep ad on aL aD) (hon0 : on 0) (hon1 : on 1) (hon2 : on 2) (hok : oOk (X 0)) (hd : vp_in (X 2 21 0 4) 513) {pp : Int32} (hu : vp_in pp (onp (X 0)) → vp_in (oUse (X 0) pp) 4096) : lM l D dA ad on cL cD aL aD yL_fewestWithdrawals cL_fewestWithdrawals 4 [(0, 9, 12, 28), (0, 9, 15, 15), (0, 9, 18, 88)] [.ref (ad 2 20 0), .int pp, .ref aL] (wdo X 0 (X 0), vL, vD) (lPy (fun k => if k = 2 then 1 else if k = 1 then 2 else if k = 4 then 3 else 0) (nG (inB pp (onp (X 0))) 2 (nG (oOpen (X 0)) 1 (nG (!oGone (X 0) pp) 1 (nG (!decide (oSmall (X 0) pp = -1)) 4 (.inr (oSmall (X 0) pp, wdo X 0 (oG (X 0) pp).2))))) : Nat ⊕ (Int32 × NWd)) (fun v => v.toInt64) X) := by
  refine lM_of hI hs rfl (by decide +kernel) (Nat.le_of_ble_eq_true rfl) ?_
  intro p e s m args below meth cd ls hc hr hP hl hS
  have hx := hc.1
  have hb := hc.2.1
  have hl : lv_has ls 4 [(0, .ref (ad 2 20 0)), (1, .int pp), (2, .ref aL)] := hl
  refine lv_aload_n hx hb dL_fewestWithdrawals_0 rfl (lv_at hl 2 rfl) ?_
  refine lv_iconst (v := 0) hx hb dL_fewestWithdrawals_1 (by decide) ?_
  refine lv_aload_n hx hb dL_fewestWithdrawals_2 rfl (lv_at hl 0 rfl) ?_
  refine lv_iload_n hx hb dL_fewestWithdrawals_3 rfl (lv_at hl 1 rfl) ?_
  refine l_Yi (X := wdo X 0 (X 0)) (As := [.int pp]) (rest := [.int 0, .ref aL]) (c_X9_fewestWithdrawals (S := X 0) (pp := pp) hfl hI hon0 hon1 hon2 hok hd hu) hc hP hS hl.1 (ngoodV q884 q885 q886 q1 q887) (l_recv hc hP.1 hon2) nok_X9_fewestWithdrawals rfl ⟨(Nat.le_of_ble_eq_true rfl), (Nat.le_of_ble_eq_true rfl)⟩ ⟨(Nat.le_of_ble_eq_true rfl), (Nat.le_of_ble_eq_true rfl)⟩ dL_fewestWithdrawals_4 rfl (Nat.le_of_ble_eq_true rfl) ?_ ?_
  · intro k X2 ce q9 H locs hE hP hS hcell hv hcl
    have hE9 : (nG (inB pp (onp (X 0))) 2 (nG (oOpen (X 0)) 1 (nG (!oGone (X 0) pp) 1 (nG (!decide (oSmall (X 0) pp = -1)) 4 (.inr (oSmall (X 0) pp, wdo X 0 (oG (X 0) pp).2))))) : Nat ⊕ (Int32 × NWd)) = .inl k := hE.1
    have hks : k = 2 ∨ k = 1 ∨ k = 4 := by
      rcases nG_inl hE9 with h9 | h9
      · exact Or.inl h9
      · skip
        rcases nG_inl h9 with h9 | h9
        · exact Or.inr (Or.inl h9)
        · skip
          rcases nG_inl h9 with h9 | h9
          · exact Or.inr (Or.inl h9)
          · skip
            rcases nG_inl h9 with h9 | h9
            · exact Or.inr (Or.inr (h9))
            · cases h9
    rcases hks with rfl | rfl | rfl
    · refine l_catch (k := 2) (sp := 0) (ep := 9) (hp := 12) (pre := []) (suf := [(0, 9, 15, 15), (0, 9, 18, 88)]) hc (by decide) rfl ?_ ⟨by decide, by decide⟩ hcell hv hcl ?_
      · intro z hz; cases hz
      · skip
        refine lv_astore_n (lv' := [(3, .ref _), (0, .ref _), (1, .int _), (2, .ref _)]) hx hb dL_fewestWithdrawals_12 rfl hl (by decide) rfl (fun ls hl => ?_)
        refine lv_iconst (v := 1) hx hb dL_fewestWithdrawals_13 (by decide) ?_
        exact l_end hc hP hS hr dL_fewestWithdrawals_14 (Nat.le_of_ble_eq_true rfl) (Nat.le_of_ble_eq_true rfl) (Or.inl ⟨2, hE9, rfl, hE.2.imp id (fun z => ⟨_, z⟩)⟩)
    · refine l_catch (k := 1) (sp := 0) (ep := 9) (hp := 15) (pre := [(0, 9, 12, 28)]) (suf := [(0, 9, 18, 88)]) hc (by decide) rfl ?_ ⟨by decide, by decide⟩ hcell hv hcl ?_
      · intro z hz
        simp only [List.mem_cons, List.not_mem_nil, or_false] at hz
        subst hz
        exact ⟨2, by decide, by decide, rfl⟩
      · skip
        refine lv_astore_n (lv' := [(3, .ref _), (0, .ref _), (1, .int _), (2, .ref _)]) hx hb dL_fewestWithdrawals_15 rfl hl (by decide) rfl (fun ls hl => ?_)
        refine lv_iconst (v := 2) hx hb dL_fewestWithdrawals_16 (by decide) ?_
        exact l_end hc hP hS hr dL_fewestWithdrawals_17 (Nat.le_of_ble_eq_true rfl) (Nat.le_of_ble_eq_true rfl) (Or.inl ⟨1, hE9, rfl, hE.2.imp id (fun z => ⟨_, z⟩)⟩)
    · refine l_catch (k := 4) (sp := 0) (ep := 9) (hp := 18) (pre := [(0, 9, 12, 28), (0, 9, 15, 15)]) (suf := []) hc (by decide) rfl ?_ ⟨by decide, by decide⟩ hcell hv hcl ?_
      · intro z hz
        simp only [List.mem_cons, List.not_mem_nil, or_false] at hz
        rcases hz with rfl | rfl
        · exact ⟨2, by decide, by decide, rfl⟩
        · exact ⟨1, by decide, by decide, rfl⟩
      · skip
        refine lv_astore_n (lv' := [(3, .ref _), (0, .ref _), (1, .int _), (2, .ref _)]) hx hb dL_fewestWithdrawals_18 rfl hl (by decide) rfl (fun ls hl => ?_)
        refine lv_iconst (v := 3) hx hb dL_fewestWithdrawals_19 (by decide) ?_
        exact l_end hc hP hS hr dL_fewestWithdrawals_20 (Nat.le_of_ble_eq_true rfl) (Nat.le_of_ble_eq_true rfl) (Or.inl ⟨4, hE9, rfl, hE.2.imp id (fun z => ⟨_, z⟩)⟩)
  · intro r X2 H locs hp hP hS
    refine lv_i2l (v := _) hx hb dL_fewestWithdrawals_7 rfl ?_
    refine l_lst hc hP hS dL_fewestWithdrawals_8 (fun H locs hP hS => ?_)
    refine lv_goto (tgt := 21) hx hb dL_fewestWithdrawals_9 (by decide) ?_
    refine lv_iconst (v := 0) hx hb dL_fewestWithdrawals_21 (by decide) ?_
    exact l_end hc hP hS hr dL_fewestWithdrawals_22 (Nat.le_of_ble_eq_true rfl) (Nat.le_of_ble_eq_true rfl) (Or.inr ⟨r, X2, hp, rfl, rfl, rfl⟩)
set_option maxHeartbeats 4000000 in
theorem lw_reason (hfl : l.stackTraces = false) (hI : ninj ad on) (hs : lsep ad on aL aD) (hon0 : on 0) (hon1 : on 1) (hon2 : on 2) (hok : oOk (X 0)) (hd : vp_in (X 2 21 0 4) 513) {pp : Int32} : lM l D dA ad on cL cD aL aD yL_reason cL_reason 4 [(0, 9, 12, 28)] [.ref (ad 2 20 0), .int pp, .ref aL] (wdo X 0 (X 0), vL, vD) (lPi (fun k => if k = 2 then 1 else 0) (nG (inB pp (onp (X 0))) 2 (.inr (oWhy (X 0) pp, wdo X 0 (X 0))) : Nat ⊕ (Int32 × NWd)) (fun v => v.toInt64) (wdo X 0 (X 0))) := by
  refine lM_of hI hs rfl (by decide +kernel) (Nat.le_of_ble_eq_true rfl) ?_
  intro p e s m args below meth cd ls hc hr hP hl hS
  have hx := hc.1
  have hb := hc.2.1
  have hl : lv_has ls 4 [(0, .ref (ad 2 20 0)), (1, .int pp), (2, .ref aL)] := hl
  refine lv_aload_n hx hb dL_reason_0 rfl (lv_at hl 2 rfl) ?_
  refine lv_iconst (v := 0) hx hb dL_reason_1 (by decide) ?_
  refine lv_aload_n hx hb dL_reason_2 rfl (lv_at hl 0 rfl) ?_
  refine lv_iload_n hx hb dL_reason_3 rfl (lv_at hl 1 rfl) ?_
  refine l_Xi (X := wdo X 0 (X 0)) (As := [.int pp]) (rest := [.int 0, .ref aL]) (c_X9_reason (S := X 0) (pp := pp) hfl hI hon0 hon1 hon2 hok hd) hc hP hS hl.1 (ngoodV q906 q907 q908 q1 q909) (l_recv hc hP.1 hon2) nok_X9_reason rfl ⟨(Nat.le_of_ble_eq_true rfl), (Nat.le_of_ble_eq_true rfl)⟩ ⟨(Nat.le_of_ble_eq_true rfl), (Nat.le_of_ble_eq_true rfl)⟩ dL_reason_4 rfl (Nat.le_of_ble_eq_true rfl) ?_ ?_
  · intro k ce q9 H locs hE hP hS hcell hv hcl
    have hE9 : (nG (inB pp (onp (X 0))) 2 (.inr (oWhy (X 0) pp, wdo X 0 (X 0))) : Nat ⊕ (Int32 × NWd)) = .inl k := hE
    have hks : k = 2 := by
      rcases nG_inl hE9 with h9 | h9
      · exact h9
      · cases h9
    subst hks
    refine l_catch (k := 2) (sp := 0) (ep := 9) (hp := 12) (pre := []) (suf := []) hc (by decide) rfl ?_ ⟨by decide, by decide⟩ hcell hv hcl ?_
    · intro z hz; cases hz
    · skip
      refine lv_astore_n (lv' := [(3, .ref _), (0, .ref _), (1, .int _), (2, .ref _)]) hx hb dL_reason_12 rfl hl (by decide) rfl (fun ls hl => ?_)
      refine lv_iconst (v := 1) hx hb dL_reason_13 (by decide) ?_
      exact l_end hc hP hS hr dL_reason_14 (Nat.le_of_ble_eq_true rfl) (Nat.le_of_ble_eq_true rfl) (Or.inl ⟨2, hE9, rfl, rfl⟩)
  · intro r X2 H locs hp hP hS
    refine lv_i2l (v := _) hx hb dL_reason_7 rfl ?_
    refine l_lst hc hP hS dL_reason_8 (fun H locs hP hS => ?_)
    refine lv_goto (tgt := 15) hx hb dL_reason_9 (by decide) ?_
    refine lv_iconst (v := 0) hx hb dL_reason_15 (by decide) ?_
    exact l_end hc hP hS hr dL_reason_16 (Nat.le_of_ble_eq_true rfl) (Nat.le_of_ble_eq_true rfl) (Or.inr ⟨r, X2, hp, rfl, rfl, rfl⟩)
set_option maxHeartbeats 4000000 in
theorem lw_reasonByReplay (hfl : l.stackTraces = false) (hI : ninj ad on) (hs : lsep ad on aL aD) (hon0 : on 0) (hon1 : on 1) (hon2 : on 2) (hok : oOk (X 0)) (hd : vp_in (X 2 21 0 4) 513) {pp : Int32} (hrp : ∀ j, j < nix (X 2 21 0 4) → oOk (rpl (X 2) (X 1) j) ∧ oEv (rpl (X 2) (X 1) j) (X 2 22 0 j) (X 2 23 0 j) (X 2 24 0 j)) (hre : oOk (rpl (X 2) (X 1) (nix (X 2 21 0 4)))) : lM l D dA ad on cL cD aL aD yL_reasonByReplay cL_reasonByReplay 4 [(0, 9, 12, 28)] [.ref (ad 2 20 0), .int pp, .ref aL] (wdo X 0 (X 0), vL, vD) (lPi (fun k => if k = 2 then 1 else 0) (nG (inB pp (onp (X 0))) 2 (.inr (oWhy (oJudge (rpl (X 2) (X 1) (nix (X 2 21 0 4)))) pp, wdo (wdo X 0 (X 0)) 1 (oJudge (rpl (X 2) (X 1) (nix (X 2 21 0 4)))))) : Nat ⊕ (Int32 × NWd)) (fun v => v.toInt64) (wdo X 0 (X 0))) := by
  refine lM_of hI hs rfl (by decide +kernel) (Nat.le_of_ble_eq_true rfl) ?_
  intro p e s m args below meth cd ls hc hr hP hl hS
  have hx := hc.1
  have hb := hc.2.1
  have hl : lv_has ls 4 [(0, .ref (ad 2 20 0)), (1, .int pp), (2, .ref aL)] := hl
  refine lv_aload_n hx hb dL_reasonByReplay_0 rfl (lv_at hl 2 rfl) ?_
  refine lv_iconst (v := 0) hx hb dL_reasonByReplay_1 (by decide) ?_
  refine lv_aload_n hx hb dL_reasonByReplay_2 rfl (lv_at hl 0 rfl) ?_
  refine lv_iload_n hx hb dL_reasonByReplay_3 rfl (lv_at hl 1 rfl) ?_
  refine l_Xi (X := wdo X 0 (X 0)) (As := [.int pp]) (rest := [.int 0, .ref aL]) (c_X9_reasonByReplay (S := X 0) (pp := pp) hfl hI hon0 hon1 hon2 hok hd hrp hre) hc hP hS hl.1 (ngoodV q917 q918 q919 q1 q920) (l_recv hc hP.1 hon2) nok_X9_reasonByReplay rfl ⟨(Nat.le_of_ble_eq_true rfl), (Nat.le_of_ble_eq_true rfl)⟩ ⟨(Nat.le_of_ble_eq_true rfl), (Nat.le_of_ble_eq_true rfl)⟩ dL_reasonByReplay_4 rfl (Nat.le_of_ble_eq_true rfl) ?_ ?_
  · intro k ce q9 H locs hE hP hS hcell hv hcl
    have hE9 : (nG (inB pp (onp (X 0))) 2 (.inr (oWhy (oJudge (rpl (X 2) (X 1) (nix (X 2 21 0 4)))) pp, wdo (wdo X 0 (X 0)) 1 (oJudge (rpl (X 2) (X 1) (nix (X 2 21 0 4)))))) : Nat ⊕ (Int32 × NWd)) = .inl k := hE
    have hks : k = 2 := by
      rcases nG_inl hE9 with h9 | h9
      · exact h9
      · cases h9
    subst hks
    refine l_catch (k := 2) (sp := 0) (ep := 9) (hp := 12) (pre := []) (suf := []) hc (by decide) rfl ?_ ⟨by decide, by decide⟩ hcell hv hcl ?_
    · intro z hz; cases hz
    · skip
      refine lv_astore_n (lv' := [(3, .ref _), (0, .ref _), (1, .int _), (2, .ref _)]) hx hb dL_reasonByReplay_12 rfl hl (by decide) rfl (fun ls hl => ?_)
      refine lv_iconst (v := 1) hx hb dL_reasonByReplay_13 (by decide) ?_
      exact l_end hc hP hS hr dL_reasonByReplay_14 (Nat.le_of_ble_eq_true rfl) (Nat.le_of_ble_eq_true rfl) (Or.inl ⟨2, hE9, rfl, rfl⟩)
  · intro r X2 H locs hp hP hS
    refine lv_i2l (v := _) hx hb dL_reasonByReplay_7 rfl ?_
    refine l_lst hc hP hS dL_reasonByReplay_8 (fun H locs hP hS => ?_)
    refine lv_goto (tgt := 15) hx hb dL_reasonByReplay_9 (by decide) ?_
    refine lv_iconst (v := 0) hx hb dL_reasonByReplay_15 (by decide) ?_
    exact l_end hc hP hS hr dL_reasonByReplay_16 (Nat.le_of_ble_eq_true rfl) (Nat.le_of_ble_eq_true rfl) (Or.inr ⟨r, X2, hp, rfl, rfl, rfl⟩)
set_option maxHeartbeats 4000000 in
theorem lw_ballotSize (hfl : l.stackTraces = false) (hI : ninj ad on) (hs : lsep ad on aL aD) (hon0 : on 0) (hon1 : on 1) (hon2 : on 2) (hok : oOk (X 0)) (hd : vp_in (X 2 21 0 4) 513) {a : Int32} : lM l D dA ad on cL cD aL aD yL_ballotSize cL_ballotSize 4 [(0, 9, 12, 28)] [.ref (ad 2 20 0), .int a, .ref aL] (wdo X 0 (X 0), vL, vD) (lPi (fun k => if k = 2 then 1 else 0) (nG (inB a (ona (X 0))) 2 (.inr (oStand (X 0) a, wdo X 0 (X 0))) : Nat ⊕ (Int32 × NWd)) (fun v => v.toInt64) (wdo X 0 (X 0))) := by
  refine lM_of hI hs rfl (by decide +kernel) (Nat.le_of_ble_eq_true rfl) ?_
  intro p e s m args below meth cd ls hc hr hP hl hS
  have hx := hc.1
  have hb := hc.2.1
  have hl : lv_has ls 4 [(0, .ref (ad 2 20 0)), (1, .int a), (2, .ref aL)] := hl
  refine lv_aload_n hx hb dL_ballotSize_0 rfl (lv_at hl 2 rfl) ?_
  refine lv_iconst (v := 0) hx hb dL_ballotSize_1 (by decide) ?_
  refine lv_aload_n hx hb dL_ballotSize_2 rfl (lv_at hl 0 rfl) ?_
  refine lv_iload_n hx hb dL_ballotSize_3 rfl (lv_at hl 1 rfl) ?_
  refine l_Xi (X := wdo X 0 (X 0)) (As := [.int a]) (rest := [.int 0, .ref aL]) (c_X9_ballotSize (S := X 0) (a := a) hfl hI hon0 hon1 hon2 hok hd) hc hP hS hl.1 (ngoodV q925 q926 q927 q1 q928) (l_recv hc hP.1 hon2) nok_X9_ballotSize rfl ⟨(Nat.le_of_ble_eq_true rfl), (Nat.le_of_ble_eq_true rfl)⟩ ⟨(Nat.le_of_ble_eq_true rfl), (Nat.le_of_ble_eq_true rfl)⟩ dL_ballotSize_4 rfl (Nat.le_of_ble_eq_true rfl) ?_ ?_
  · intro k ce q9 H locs hE hP hS hcell hv hcl
    have hE9 : (nG (inB a (ona (X 0))) 2 (.inr (oStand (X 0) a, wdo X 0 (X 0))) : Nat ⊕ (Int32 × NWd)) = .inl k := hE
    have hks : k = 2 := by
      rcases nG_inl hE9 with h9 | h9
      · exact h9
      · cases h9
    subst hks
    refine l_catch (k := 2) (sp := 0) (ep := 9) (hp := 12) (pre := []) (suf := []) hc (by decide) rfl ?_ ⟨by decide, by decide⟩ hcell hv hcl ?_
    · intro z hz; cases hz
    · skip
      refine lv_astore_n (lv' := [(3, .ref _), (0, .ref _), (1, .int _), (2, .ref _)]) hx hb dL_ballotSize_12 rfl hl (by decide) rfl (fun ls hl => ?_)
      refine lv_iconst (v := 1) hx hb dL_ballotSize_13 (by decide) ?_
      exact l_end hc hP hS hr dL_ballotSize_14 (Nat.le_of_ble_eq_true rfl) (Nat.le_of_ble_eq_true rfl) (Or.inl ⟨2, hE9, rfl, rfl⟩)
  · intro r X2 H locs hp hP hS
    refine lv_i2l (v := _) hx hb dL_ballotSize_7 rfl ?_
    refine l_lst hc hP hS dL_ballotSize_8 (fun H locs hP hS => ?_)
    refine lv_goto (tgt := 15) hx hb dL_ballotSize_9 (by decide) ?_
    refine lv_iconst (v := 0) hx hb dL_ballotSize_15 (by decide) ?_
    exact l_end hc hP hS hr dL_ballotSize_16 (Nat.le_of_ble_eq_true rfl) (Nat.le_of_ble_eq_true rfl) (Or.inr ⟨r, X2, hp, rfl, rfl, rfl⟩)
set_option maxHeartbeats 4000000 in
theorem lw_draw (hfl : l.stackTraces = false) (hI : ninj ad on) (hs : lsep ad on aL aD) (hon0 : on 0) (hon1 : on 1) (hon2 : on 2) (hok : oOk (X 0)) (hd : vp_in (X 2 21 0 4) 513) {a : Int32} (hlg : ∀ i, i < 26 → cSmall (nJ (X 0) 13 a 0 0 8 0 i) = true) : lM l D dA ad on cL cD aL aD yL_draw cL_draw 4 [(0, 9, 12, 15)] [.ref (ad 2 20 0), .int a, .ref aL] (wdo X 0 (X 0), vL, vD) (lPi (fun k => if k = 1 then 1 else 0) (nG (!oOpen (X 0)) 1 (nG (decide ((X 0) 7 0 2 = 0)) 1 (.inr (nJ (X 0) 13 a 0 0 8 0 0, nEv X (X 0) 13 a 0 0))) : Nat ⊕ (Int32 × NWd)) (fun v => v.toInt64) (wdo X 0 (X 0))) := by
  refine lM_of hI hs rfl (by decide +kernel) (Nat.le_of_ble_eq_true rfl) ?_
  intro p e s m args below meth cd ls hc hr hP hl hS
  have hx := hc.1
  have hb := hc.2.1
  have hl : lv_has ls 4 [(0, .ref (ad 2 20 0)), (1, .int a), (2, .ref aL)] := hl
  refine lv_aload_n hx hb dL_draw_0 rfl (lv_at hl 2 rfl) ?_
  refine lv_iconst (v := 0) hx hb dL_draw_1 (by decide) ?_
  refine lv_aload_n hx hb dL_draw_2 rfl (lv_at hl 0 rfl) ?_
  refine lv_iload_n hx hb dL_draw_3 rfl (lv_at hl 1 rfl) ?_
  refine l_Xi (X := wdo X 0 (X 0)) (As := [.int a]) (rest := [.int 0, .ref aL]) (c_X9_draw (S := X 0) (a := a) hfl hI hon0 hon1 hon2 hok hd hlg) hc hP hS hl.1 (ngoodV q941 q942 q943 q1 q944) (l_recv hc hP.1 hon2) nok_X9_draw rfl ⟨(Nat.le_of_ble_eq_true rfl), (Nat.le_of_ble_eq_true rfl)⟩ ⟨(Nat.le_of_ble_eq_true rfl), (Nat.le_of_ble_eq_true rfl)⟩ dL_draw_4 rfl (Nat.le_of_ble_eq_true rfl) ?_ ?_
  · intro k ce q9 H locs hE hP hS hcell hv hcl
    have hE9 : (nG (!oOpen (X 0)) 1 (nG (decide ((X 0) 7 0 2 = 0)) 1 (.inr (nJ (X 0) 13 a 0 0 8 0 0, nEv X (X 0) 13 a 0 0))) : Nat ⊕ (Int32 × NWd)) = .inl k := hE
    have hks : k = 1 := by
      rcases nG_inl hE9 with h9 | h9
      · exact h9
      · skip
        rcases nG_inl h9 with h9 | h9
        · exact h9
        · cases h9
    subst hks
    refine l_catch (k := 1) (sp := 0) (ep := 9) (hp := 12) (pre := []) (suf := []) hc (by decide) rfl ?_ ⟨by decide, by decide⟩ hcell hv hcl ?_
    · intro z hz; cases hz
    · skip
      refine lv_astore_n (lv' := [(3, .ref _), (0, .ref _), (1, .int _), (2, .ref _)]) hx hb dL_draw_12 rfl hl (by decide) rfl (fun ls hl => ?_)
      refine lv_iconst (v := 1) hx hb dL_draw_13 (by decide) ?_
      exact l_end hc hP hS hr dL_draw_14 (Nat.le_of_ble_eq_true rfl) (Nat.le_of_ble_eq_true rfl) (Or.inl ⟨1, hE9, rfl, rfl⟩)
  · intro r X2 H locs hp hP hS
    refine lv_i2l (v := _) hx hb dL_draw_7 rfl ?_
    refine l_lst hc hP hS dL_draw_8 (fun H locs hP hS => ?_)
    refine lv_goto (tgt := 15) hx hb dL_draw_9 (by decide) ?_
    refine lv_iconst (v := 0) hx hb dL_draw_15 (by decide) ?_
    exact l_end hc hP hS hr dL_draw_16 (Nat.le_of_ble_eq_true rfl) (Nat.le_of_ble_eq_true rfl) (Or.inr ⟨r, X2, hp, rfl, rfl, rfl⟩)
set_option maxHeartbeats 4000000 in
theorem lw_letter (hfl : l.stackTraces = false) (hI : ninj ad on) (hs : lsep ad on aL aD) (hon0 : on 0) (hon1 : on 1) (hon2 : on 2) (hok : oOk (X 0)) (hd : vp_in (X 2 21 0 4) 513) {q : Int32} (hlg : ∀ i, i < 26 → ¬ (X 0) 7 0 2 = 0 → cSmall ((X 0) 8 0 i) = true) : lM l D dA ad on cL cD aL aD yL_letter cL_letter 4 [(0, 9, 12, 28), (0, 9, 15, 15)] [.ref (ad 2 20 0), .int q, .ref aL] (wdo X 0 (X 0), vL, vD) (lPi (fun k => if k = 2 then 1 else if k = 1 then 2 else 0) (nG (decide (0 ≤ q) && decide (q < 26)) 2 (nG (!decide ((X 0) 7 0 2 = 0)) 1 (.inr ((X 0) 8 0 (nix q), wdo X 0 (X 0)))) : Nat ⊕ (Int32 × NWd)) (fun v => v.toInt64) (wdo X 0 (X 0))) := by
  refine lM_of hI hs rfl (by decide +kernel) (Nat.le_of_ble_eq_true rfl) ?_
  intro p e s m args below meth cd ls hc hr hP hl hS
  have hx := hc.1
  have hb := hc.2.1
  have hl : lv_has ls 4 [(0, .ref (ad 2 20 0)), (1, .int q), (2, .ref aL)] := hl
  refine lv_aload_n hx hb dL_letter_0 rfl (lv_at hl 2 rfl) ?_
  refine lv_iconst (v := 0) hx hb dL_letter_1 (by decide) ?_
  refine lv_aload_n hx hb dL_letter_2 rfl (lv_at hl 0 rfl) ?_
  refine lv_iload_n hx hb dL_letter_3 rfl (lv_at hl 1 rfl) ?_
  refine l_Xi (X := wdo X 0 (X 0)) (As := [.int q]) (rest := [.int 0, .ref aL]) (c_X9_letter (S := X 0) (q := q) hfl hI hon0 hon1 hon2 hok hd hlg) hc hP hS hl.1 (ngoodV q950 q951 q952 q1 q953) (l_recv hc hP.1 hon2) nok_X9_letter rfl ⟨(Nat.le_of_ble_eq_true rfl), (Nat.le_of_ble_eq_true rfl)⟩ ⟨(Nat.le_of_ble_eq_true rfl), (Nat.le_of_ble_eq_true rfl)⟩ dL_letter_4 rfl (Nat.le_of_ble_eq_true rfl) ?_ ?_
  · intro k ce q9 H locs hE hP hS hcell hv hcl
    have hE9 : (nG (decide (0 ≤ q) && decide (q < 26)) 2 (nG (!decide ((X 0) 7 0 2 = 0)) 1 (.inr ((X 0) 8 0 (nix q), wdo X 0 (X 0)))) : Nat ⊕ (Int32 × NWd)) = .inl k := hE
    have hks : k = 2 ∨ k = 1 := by
      rcases nG_inl hE9 with h9 | h9
      · exact Or.inl h9
      · skip
        rcases nG_inl h9 with h9 | h9
        · exact Or.inr (h9)
        · cases h9
    rcases hks with rfl | rfl
    · refine l_catch (k := 2) (sp := 0) (ep := 9) (hp := 12) (pre := []) (suf := [(0, 9, 15, 15)]) hc (by decide) rfl ?_ ⟨by decide, by decide⟩ hcell hv hcl ?_
      · intro z hz; cases hz
      · skip
        refine lv_astore_n (lv' := [(3, .ref _), (0, .ref _), (1, .int _), (2, .ref _)]) hx hb dL_letter_12 rfl hl (by decide) rfl (fun ls hl => ?_)
        refine lv_iconst (v := 1) hx hb dL_letter_13 (by decide) ?_
        exact l_end hc hP hS hr dL_letter_14 (Nat.le_of_ble_eq_true rfl) (Nat.le_of_ble_eq_true rfl) (Or.inl ⟨2, hE9, rfl, rfl⟩)
    · refine l_catch (k := 1) (sp := 0) (ep := 9) (hp := 15) (pre := [(0, 9, 12, 28)]) (suf := []) hc (by decide) rfl ?_ ⟨by decide, by decide⟩ hcell hv hcl ?_
      · intro z hz
        simp only [List.mem_cons, List.not_mem_nil, or_false] at hz
        subst hz
        exact ⟨2, by decide, by decide, rfl⟩
      · skip
        refine lv_astore_n (lv' := [(3, .ref _), (0, .ref _), (1, .int _), (2, .ref _)]) hx hb dL_letter_15 rfl hl (by decide) rfl (fun ls hl => ?_)
        refine lv_iconst (v := 2) hx hb dL_letter_16 (by decide) ?_
        exact l_end hc hP hS hr dL_letter_17 (Nat.le_of_ble_eq_true rfl) (Nat.le_of_ble_eq_true rfl) (Or.inl ⟨1, hE9, rfl, rfl⟩)
  · intro r X2 H locs hp hP hS
    refine lv_i2l (v := _) hx hb dL_letter_7 rfl ?_
    refine l_lst hc hP hS dL_letter_8 (fun H locs hP hS => ?_)
    refine lv_goto (tgt := 18) hx hb dL_letter_9 (by decide) ?_
    refine lv_iconst (v := 0) hx hb dL_letter_18 (by decide) ?_
    exact l_end hc hP hS hr dL_letter_19 (Nat.le_of_ble_eq_true rfl) (Nat.le_of_ble_eq_true rfl) (Or.inr ⟨r, X2, hp, rfl, rfl, rfl⟩)
set_option maxHeartbeats 4000000 in
theorem lw_ballot (hfl : l.stackTraces = false) (hI : ninj ad on) (hs : lsep ad on aL aD) (hon0 : on 0) (hon1 : on 1) (hon2 : on 2) (hok : oOk (X 0)) (hd : vp_in (X 2 21 0 4) 513) {a q r9 : Int32} : lM l D dA ad on cL cD aL aD yL_ballot cL_ballot 6 [(0, 12, 15, 28), (0, 12, 19, 13), (0, 12, 23, 15), (0, 12, 27, 88)] [.ref (ad 2 20 0), .int a, .int q, .int r9, .ref aL] (wdo X 0 (X 0), vL, vD) (lPi (fun k => if k = 2 then 1 else if k = 0 then 2 else if k = 1 then 3 else if k = 4 then 4 else 0) (nG (inB a (ona (X 0))) 2 (nG (decide (0 ≤ q) && decide (q ≤ 999)) 0 (nG (!decide ((X 0) 7 0 2 = 0)) 1 (nG (decide (0 ≤ r9) && decide (r9 < oStand (X 0) a)) 4 (.inr (oAt (X 0) a (oAround (q + r9) (oStand (X 0) a)), wdo X 0 (X 0)))))) : Nat ⊕ (Int32 × NWd)) (fun v => v.toInt64) (wdo X 0 (X 0))) := by
  refine lM_of hI hs rfl (by decide +kernel) (Nat.le_of_ble_eq_true rfl) ?_
  intro p e s m args below meth cd ls hc hr hP hl hS
  have hx := hc.1
  have hb := hc.2.1
  have hl : lv_has ls 6 [(0, .ref (ad 2 20 0)), (1, .int a), (2, .int q), (3, .int r9), (4, .ref aL)] := hl
  refine lv_aload hx hb dL_ballot_0 (lv_at hl 4 rfl) ?_
  refine lv_iconst (v := 0) hx hb dL_ballot_2 (by decide) ?_
  refine lv_aload_n hx hb dL_ballot_3 rfl (lv_at hl 0 rfl) ?_
  refine lv_iload_n hx hb dL_ballot_4 rfl (lv_at hl 1 rfl) ?_
  refine lv_iload_n hx hb dL_ballot_5 rfl (lv_at hl 2 rfl) ?_
  refine lv_iload_n hx hb dL_ballot_6 rfl (lv_at hl 3 rfl) ?_
  refine l_Xi (X := wdo X 0 (X 0)) (As := [.int a, .int q, .int r9]) (rest := [.int 0, .ref aL]) (c_X9_ballot (S := X 0) (a := a) (q := q) (r9 := r9) hfl hI hon0 hon1 hon2 hok hd) hc hP hS hl.1 (ngoodV q962 q963 q964 q1 q965) (l_recv hc hP.1 hon2) nok_X9_ballot rfl ⟨(Nat.le_of_ble_eq_true rfl), (Nat.le_of_ble_eq_true rfl)⟩ ⟨(Nat.le_of_ble_eq_true rfl), (Nat.le_of_ble_eq_true rfl)⟩ dL_ballot_7 rfl (Nat.le_of_ble_eq_true rfl) ?_ ?_
  · intro k ce q9 H locs hE hP hS hcell hv hcl
    have hE9 : (nG (inB a (ona (X 0))) 2 (nG (decide (0 ≤ q) && decide (q ≤ 999)) 0 (nG (!decide ((X 0) 7 0 2 = 0)) 1 (nG (decide (0 ≤ r9) && decide (r9 < oStand (X 0) a)) 4 (.inr (oAt (X 0) a (oAround (q + r9) (oStand (X 0) a)), wdo X 0 (X 0)))))) : Nat ⊕ (Int32 × NWd)) = .inl k := hE
    have hks : k = 2 ∨ k = 0 ∨ k = 1 ∨ k = 4 := by
      rcases nG_inl hE9 with h9 | h9
      · exact Or.inl h9
      · skip
        rcases nG_inl h9 with h9 | h9
        · exact Or.inr (Or.inl h9)
        · skip
          rcases nG_inl h9 with h9 | h9
          · exact Or.inr (Or.inr (Or.inl h9))
          · skip
            rcases nG_inl h9 with h9 | h9
            · exact Or.inr (Or.inr (Or.inr (h9)))
            · cases h9
    rcases hks with rfl | rfl | rfl | rfl
    · refine l_catch (k := 2) (sp := 0) (ep := 12) (hp := 15) (pre := []) (suf := [(0, 12, 19, 13), (0, 12, 23, 15), (0, 12, 27, 88)]) hc (by decide) rfl ?_ ⟨by decide, by decide⟩ hcell hv hcl ?_
      · intro z hz; cases hz
      · skip
        refine lv_astore (lv' := [(5, .ref _), (0, .ref _), (1, .int _), (2, .int _), (3, .int _), (4, .ref _)]) hx hb dL_ballot_15 hl (by decide) rfl (fun ls hl => ?_)
        refine lv_iconst (v := 1) hx hb dL_ballot_17 (by decide) ?_
        exact l_end hc hP hS hr dL_ballot_18 (Nat.le_of_ble_eq_true rfl) (Nat.le_of_ble_eq_true rfl) (Or.inl ⟨2, hE9, rfl, rfl⟩)
    · refine l_catch (k := 0) (sp := 0) (ep := 12) (hp := 19) (pre := [(0, 12, 15, 28)]) (suf := [(0, 12, 23, 15), (0, 12, 27, 88)]) hc (by decide) rfl ?_ ⟨by decide, by decide⟩ hcell hv hcl ?_
      · intro z hz
        simp only [List.mem_cons, List.not_mem_nil, or_false] at hz
        subst hz
        exact ⟨2, by decide, by decide, rfl⟩
      · skip
        refine lv_astore (lv' := [(5, .ref _), (0, .ref _), (1, .int _), (2, .int _), (3, .int _), (4, .ref _)]) hx hb dL_ballot_19 hl (by decide) rfl (fun ls hl => ?_)
        refine lv_iconst (v := 2) hx hb dL_ballot_21 (by decide) ?_
        exact l_end hc hP hS hr dL_ballot_22 (Nat.le_of_ble_eq_true rfl) (Nat.le_of_ble_eq_true rfl) (Or.inl ⟨0, hE9, rfl, rfl⟩)
    · refine l_catch (k := 1) (sp := 0) (ep := 12) (hp := 23) (pre := [(0, 12, 15, 28), (0, 12, 19, 13)]) (suf := [(0, 12, 27, 88)]) hc (by decide) rfl ?_ ⟨by decide, by decide⟩ hcell hv hcl ?_
      · intro z hz
        simp only [List.mem_cons, List.not_mem_nil, or_false] at hz
        rcases hz with rfl | rfl
        · exact ⟨2, by decide, by decide, rfl⟩
        · exact ⟨0, by decide, by decide, rfl⟩
      · skip
        refine lv_astore (lv' := [(5, .ref _), (0, .ref _), (1, .int _), (2, .int _), (3, .int _), (4, .ref _)]) hx hb dL_ballot_23 hl (by decide) rfl (fun ls hl => ?_)
        refine lv_iconst (v := 3) hx hb dL_ballot_25 (by decide) ?_
        exact l_end hc hP hS hr dL_ballot_26 (Nat.le_of_ble_eq_true rfl) (Nat.le_of_ble_eq_true rfl) (Or.inl ⟨1, hE9, rfl, rfl⟩)
    · refine l_catch (k := 4) (sp := 0) (ep := 12) (hp := 27) (pre := [(0, 12, 15, 28), (0, 12, 19, 13), (0, 12, 23, 15)]) (suf := []) hc (by decide) rfl ?_ ⟨by decide, by decide⟩ hcell hv hcl ?_
      · intro z hz
        simp only [List.mem_cons, List.not_mem_nil, or_false] at hz
        rcases hz with rfl | rfl | rfl
        · exact ⟨2, by decide, by decide, rfl⟩
        · exact ⟨0, by decide, by decide, rfl⟩
        · exact ⟨1, by decide, by decide, rfl⟩
      · skip
        refine lv_astore (lv' := [(5, .ref _), (0, .ref _), (1, .int _), (2, .int _), (3, .int _), (4, .ref _)]) hx hb dL_ballot_27 hl (by decide) rfl (fun ls hl => ?_)
        refine lv_iconst (v := 4) hx hb dL_ballot_29 (by decide) ?_
        exact l_end hc hP hS hr dL_ballot_30 (Nat.le_of_ble_eq_true rfl) (Nat.le_of_ble_eq_true rfl) (Or.inl ⟨4, hE9, rfl, rfl⟩)
  · intro r X2 H locs hp hP hS
    refine lv_i2l (v := _) hx hb dL_ballot_10 rfl ?_
    refine l_lst hc hP hS dL_ballot_11 (fun H locs hP hS => ?_)
    refine lv_goto (tgt := 31) hx hb dL_ballot_12 (by decide) ?_
    refine lv_iconst (v := 0) hx hb dL_ballot_31 (by decide) ?_
    exact l_end hc hP hS hr dL_ballot_32 (Nat.le_of_ble_eq_true rfl) (Nat.le_of_ble_eq_true rfl) (Or.inr ⟨r, X2, hp, rfl, rfl, rfl⟩)
set_option maxHeartbeats 4000000 in
theorem lw_placeOnBallot (hfl : l.stackTraces = false) (hI : ninj ad on) (hs : lsep ad on aL aD) (hon0 : on 0) (hon1 : on 1) (hon2 : on 2) (hok : oOk (X 0)) (hd : vp_in (X 2 21 0 4) 513) {pp q : Int32} : lM l D dA ad on cL cD aL aD yL_placeOnBallot cL_placeOnBallot 5 [(0, 10, 13, 28), (0, 10, 17, 13), (0, 10, 21, 15)] [.ref (ad 2 20 0), .int pp, .int q, .ref aL] (wdo X 0 (X 0), vL, vD) (lPi (fun k => if k = 2 then 1 else if k = 0 then 2 else if k = 1 then 3 else 0) (nG (inB pp (onp (X 0))) 2 (nG (decide (0 ≤ q) && decide (q ≤ 999)) 0 (nG (!decide ((X 0) 7 0 2 = 0)) 1 (nG (decide (oWhy (X 0) pp = 0)) 1 (.inr (oAround (oPlace (X 0) pp - q) (oStand (X 0) ((X 0) 11 (nix pp) 0)), wdo X 0 (X 0)))))) : Nat ⊕ (Int32 × NWd)) (fun v => v.toInt64) (wdo X 0 (X 0))) := by
  refine lM_of hI hs rfl (by decide +kernel) (Nat.le_of_ble_eq_true rfl) ?_
  intro p e s m args below meth cd ls hc hr hP hl hS
  have hx := hc.1
  have hb := hc.2.1
  have hl : lv_has ls 5 [(0, .ref (ad 2 20 0)), (1, .int pp), (2, .int q), (3, .ref aL)] := hl
  refine lv_aload_n hx hb dL_placeOnBallot_0 rfl (lv_at hl 3 rfl) ?_
  refine lv_iconst (v := 0) hx hb dL_placeOnBallot_1 (by decide) ?_
  refine lv_aload_n hx hb dL_placeOnBallot_2 rfl (lv_at hl 0 rfl) ?_
  refine lv_iload_n hx hb dL_placeOnBallot_3 rfl (lv_at hl 1 rfl) ?_
  refine lv_iload_n hx hb dL_placeOnBallot_4 rfl (lv_at hl 2 rfl) ?_
  refine l_Xi (X := wdo X 0 (X 0)) (As := [.int pp, .int q]) (rest := [.int 0, .ref aL]) (c_X9_placeOnBallot (S := X 0) (pp := pp) (q := q) hfl hI hon0 hon1 hon2 hok hd) hc hP hS hl.1 (ngoodV q999 q1000 q1001 q1 q1002) (l_recv hc hP.1 hon2) nok_X9_placeOnBallot rfl ⟨(Nat.le_of_ble_eq_true rfl), (Nat.le_of_ble_eq_true rfl)⟩ ⟨(Nat.le_of_ble_eq_true rfl), (Nat.le_of_ble_eq_true rfl)⟩ dL_placeOnBallot_5 rfl (Nat.le_of_ble_eq_true rfl) ?_ ?_
  · intro k ce q9 H locs hE hP hS hcell hv hcl
    have hE9 : (nG (inB pp (onp (X 0))) 2 (nG (decide (0 ≤ q) && decide (q ≤ 999)) 0 (nG (!decide ((X 0) 7 0 2 = 0)) 1 (nG (decide (oWhy (X 0) pp = 0)) 1 (.inr (oAround (oPlace (X 0) pp - q) (oStand (X 0) ((X 0) 11 (nix pp) 0)), wdo X 0 (X 0)))))) : Nat ⊕ (Int32 × NWd)) = .inl k := hE
    have hks : k = 2 ∨ k = 0 ∨ k = 1 := by
      rcases nG_inl hE9 with h9 | h9
      · exact Or.inl h9
      · skip
        rcases nG_inl h9 with h9 | h9
        · exact Or.inr (Or.inl h9)
        · skip
          rcases nG_inl h9 with h9 | h9
          · exact Or.inr (Or.inr (h9))
          · skip
            rcases nG_inl h9 with h9 | h9
            · exact Or.inr (Or.inr (h9))
            · cases h9
    rcases hks with rfl | rfl | rfl
    · refine l_catch (k := 2) (sp := 0) (ep := 10) (hp := 13) (pre := []) (suf := [(0, 10, 17, 13), (0, 10, 21, 15)]) hc (by decide) rfl ?_ ⟨by decide, by decide⟩ hcell hv hcl ?_
      · intro z hz; cases hz
      · skip
        refine lv_astore (lv' := [(4, .ref _), (0, .ref _), (1, .int _), (2, .int _), (3, .ref _)]) hx hb dL_placeOnBallot_13 hl (by decide) rfl (fun ls hl => ?_)
        refine lv_iconst (v := 1) hx hb dL_placeOnBallot_15 (by decide) ?_
        exact l_end hc hP hS hr dL_placeOnBallot_16 (Nat.le_of_ble_eq_true rfl) (Nat.le_of_ble_eq_true rfl) (Or.inl ⟨2, hE9, rfl, rfl⟩)
    · refine l_catch (k := 0) (sp := 0) (ep := 10) (hp := 17) (pre := [(0, 10, 13, 28)]) (suf := [(0, 10, 21, 15)]) hc (by decide) rfl ?_ ⟨by decide, by decide⟩ hcell hv hcl ?_
      · intro z hz
        simp only [List.mem_cons, List.not_mem_nil, or_false] at hz
        subst hz
        exact ⟨2, by decide, by decide, rfl⟩
      · skip
        refine lv_astore (lv' := [(4, .ref _), (0, .ref _), (1, .int _), (2, .int _), (3, .ref _)]) hx hb dL_placeOnBallot_17 hl (by decide) rfl (fun ls hl => ?_)
        refine lv_iconst (v := 2) hx hb dL_placeOnBallot_19 (by decide) ?_
        exact l_end hc hP hS hr dL_placeOnBallot_20 (Nat.le_of_ble_eq_true rfl) (Nat.le_of_ble_eq_true rfl) (Or.inl ⟨0, hE9, rfl, rfl⟩)
    · refine l_catch (k := 1) (sp := 0) (ep := 10) (hp := 21) (pre := [(0, 10, 13, 28), (0, 10, 17, 13)]) (suf := []) hc (by decide) rfl ?_ ⟨by decide, by decide⟩ hcell hv hcl ?_
      · intro z hz
        simp only [List.mem_cons, List.not_mem_nil, or_false] at hz
        rcases hz with rfl | rfl
        · exact ⟨2, by decide, by decide, rfl⟩
        · exact ⟨0, by decide, by decide, rfl⟩
      · skip
        refine lv_astore (lv' := [(4, .ref _), (0, .ref _), (1, .int _), (2, .int _), (3, .ref _)]) hx hb dL_placeOnBallot_21 hl (by decide) rfl (fun ls hl => ?_)
        refine lv_iconst (v := 3) hx hb dL_placeOnBallot_23 (by decide) ?_
        exact l_end hc hP hS hr dL_placeOnBallot_24 (Nat.le_of_ble_eq_true rfl) (Nat.le_of_ble_eq_true rfl) (Or.inl ⟨1, hE9, rfl, rfl⟩)
  · intro r X2 H locs hp hP hS
    refine lv_i2l (v := _) hx hb dL_placeOnBallot_8 rfl ?_
    refine l_lst hc hP hS dL_placeOnBallot_9 (fun H locs hP hS => ?_)
    refine lv_goto (tgt := 25) hx hb dL_placeOnBallot_10 (by decide) ?_
    refine lv_iconst (v := 0) hx hb dL_placeOnBallot_25 (by decide) ?_
    exact l_end hc hP hS hr dL_placeOnBallot_26 (Nat.le_of_ble_eq_true rfl) (Nat.le_of_ble_eq_true rfl) (Or.inr ⟨r, X2, hp, rfl, rfl, rfl⟩)
set_option maxHeartbeats 4000000 in
theorem lw_addVotes (hfl : l.stackTraces = false) (hI : ninj ad on) (hs : lsep ad on aL aD) (hon0 : on 0) (hon1 : on 1) (hon2 : on 2) (hok : oOk (X 0)) (hd : vp_in (X 2 21 0 4) 513) {pp a : Int32} : lM l D dA ad on cL cD aL aD yL_addVotes cL_addVotes 5 [(0, 10, 13, 28), (0, 10, 17, 13), (0, 10, 21, 15)] [.ref (ad 2 20 0), .int pp, .int a, .ref aL] (wdo X 0 (X 0), vL, vD) (lPi (fun k => if k = 2 then 1 else if k = 0 then 2 else if k = 1 then 3 else 0) (nG (inB pp (onp (X 0))) 2 (nG (decide (1 ≤ a) && decide (a ≤ 10000)) 0 (nG (decide (oWhy (X 0) pp = 0)) 1 (nG (oPoll (X 0) && decide ((X 0) 4 (nix ((X 0) 11 (nix pp) 0)) 2 = 0)) 1 (.inr (nJ (X 0) 14 pp a 0 11 (nix pp) 4, nEv X (X 0) 14 pp a 0))))) : Nat ⊕ (Int32 × NWd)) (fun v => v.toInt64) (wdo X 0 (X 0))) := by
  refine lM_of hI hs rfl (by decide +kernel) (Nat.le_of_ble_eq_true rfl) ?_
  intro p e s m args below meth cd ls hc hr hP hl hS
  have hx := hc.1
  have hb := hc.2.1
  have hl : lv_has ls 5 [(0, .ref (ad 2 20 0)), (1, .int pp), (2, .int a), (3, .ref aL)] := hl
  refine lv_aload_n hx hb dL_addVotes_0 rfl (lv_at hl 3 rfl) ?_
  refine lv_iconst (v := 0) hx hb dL_addVotes_1 (by decide) ?_
  refine lv_aload_n hx hb dL_addVotes_2 rfl (lv_at hl 0 rfl) ?_
  refine lv_iload_n hx hb dL_addVotes_3 rfl (lv_at hl 1 rfl) ?_
  refine lv_iload_n hx hb dL_addVotes_4 rfl (lv_at hl 2 rfl) ?_
  refine l_Xi (X := wdo X 0 (X 0)) (As := [.int pp, .int a]) (rest := [.int 0, .ref aL]) (c_X9_addVotes (S := X 0) (pp := pp) (a := a) hfl hI hon0 hon1 hon2 hok hd) hc hP hS hl.1 (ngoodV q1012 q1013 q1014 q1 q1015) (l_recv hc hP.1 hon2) nok_X9_addVotes rfl ⟨(Nat.le_of_ble_eq_true rfl), (Nat.le_of_ble_eq_true rfl)⟩ ⟨(Nat.le_of_ble_eq_true rfl), (Nat.le_of_ble_eq_true rfl)⟩ dL_addVotes_5 rfl (Nat.le_of_ble_eq_true rfl) ?_ ?_
  · intro k ce q9 H locs hE hP hS hcell hv hcl
    have hE9 : (nG (inB pp (onp (X 0))) 2 (nG (decide (1 ≤ a) && decide (a ≤ 10000)) 0 (nG (decide (oWhy (X 0) pp = 0)) 1 (nG (oPoll (X 0) && decide ((X 0) 4 (nix ((X 0) 11 (nix pp) 0)) 2 = 0)) 1 (.inr (nJ (X 0) 14 pp a 0 11 (nix pp) 4, nEv X (X 0) 14 pp a 0))))) : Nat ⊕ (Int32 × NWd)) = .inl k := hE
    have hks : k = 2 ∨ k = 0 ∨ k = 1 := by
      rcases nG_inl hE9 with h9 | h9
      · exact Or.inl h9
      · skip
        rcases nG_inl h9 with h9 | h9
        · exact Or.inr (Or.inl h9)
        · skip
          rcases nG_inl h9 with h9 | h9
          · exact Or.inr (Or.inr (h9))
          · skip
            rcases nG_inl h9 with h9 | h9
            · exact Or.inr (Or.inr (h9))
            · cases h9
    rcases hks with rfl | rfl | rfl
    · refine l_catch (k := 2) (sp := 0) (ep := 10) (hp := 13) (pre := []) (suf := [(0, 10, 17, 13), (0, 10, 21, 15)]) hc (by decide) rfl ?_ ⟨by decide, by decide⟩ hcell hv hcl ?_
      · intro z hz; cases hz
      · skip
        refine lv_astore (lv' := [(4, .ref _), (0, .ref _), (1, .int _), (2, .int _), (3, .ref _)]) hx hb dL_addVotes_13 hl (by decide) rfl (fun ls hl => ?_)
        refine lv_iconst (v := 1) hx hb dL_addVotes_15 (by decide) ?_
        exact l_end hc hP hS hr dL_addVotes_16 (Nat.le_of_ble_eq_true rfl) (Nat.le_of_ble_eq_true rfl) (Or.inl ⟨2, hE9, rfl, rfl⟩)
    · refine l_catch (k := 0) (sp := 0) (ep := 10) (hp := 17) (pre := [(0, 10, 13, 28)]) (suf := [(0, 10, 21, 15)]) hc (by decide) rfl ?_ ⟨by decide, by decide⟩ hcell hv hcl ?_
      · intro z hz
        simp only [List.mem_cons, List.not_mem_nil, or_false] at hz
        subst hz
        exact ⟨2, by decide, by decide, rfl⟩
      · skip
        refine lv_astore (lv' := [(4, .ref _), (0, .ref _), (1, .int _), (2, .int _), (3, .ref _)]) hx hb dL_addVotes_17 hl (by decide) rfl (fun ls hl => ?_)
        refine lv_iconst (v := 2) hx hb dL_addVotes_19 (by decide) ?_
        exact l_end hc hP hS hr dL_addVotes_20 (Nat.le_of_ble_eq_true rfl) (Nat.le_of_ble_eq_true rfl) (Or.inl ⟨0, hE9, rfl, rfl⟩)
    · refine l_catch (k := 1) (sp := 0) (ep := 10) (hp := 21) (pre := [(0, 10, 13, 28), (0, 10, 17, 13)]) (suf := []) hc (by decide) rfl ?_ ⟨by decide, by decide⟩ hcell hv hcl ?_
      · intro z hz
        simp only [List.mem_cons, List.not_mem_nil, or_false] at hz
        rcases hz with rfl | rfl
        · exact ⟨2, by decide, by decide, rfl⟩
        · exact ⟨0, by decide, by decide, rfl⟩
      · skip
        refine lv_astore (lv' := [(4, .ref _), (0, .ref _), (1, .int _), (2, .int _), (3, .ref _)]) hx hb dL_addVotes_21 hl (by decide) rfl (fun ls hl => ?_)
        refine lv_iconst (v := 3) hx hb dL_addVotes_23 (by decide) ?_
        exact l_end hc hP hS hr dL_addVotes_24 (Nat.le_of_ble_eq_true rfl) (Nat.le_of_ble_eq_true rfl) (Or.inl ⟨1, hE9, rfl, rfl⟩)
  · intro r X2 H locs hp hP hS
    refine lv_i2l (v := _) hx hb dL_addVotes_8 rfl ?_
    refine l_lst hc hP hS dL_addVotes_9 (fun H locs hP hS => ?_)
    refine lv_goto (tgt := 25) hx hb dL_addVotes_10 (by decide) ?_
    refine lv_iconst (v := 0) hx hb dL_addVotes_25 (by decide) ?_
    exact l_end hc hP hS hr dL_addVotes_26 (Nat.le_of_ble_eq_true rfl) (Nat.le_of_ble_eq_true rfl) (Or.inr ⟨r, X2, hp, rfl, rfl, rfl⟩)
set_option maxHeartbeats 4000000 in
theorem lw_finish (hfl : l.stackTraces = false) (hI : ninj ad on) (hs : lsep ad on aL aD) (hon0 : on 0) (hon1 : on 1) (hon2 : on 2) (hok : oOk (X 0)) (hd : vp_in (X 2 21 0 4) 513) {a : Int32} : lM l D dA ad on cL cD aL aD yL_finish cL_finish 4 [(0, 9, 12, 28), (0, 9, 15, 15)] [.ref (ad 2 20 0), .int a, .ref aL] (wdo X 0 (X 0), vL, vD) (lPi (fun k => if k = 2 then 1 else if k = 1 then 2 else 0) (nG (inB a (ona (X 0))) 2 (nG (oPoll (X 0) && decide ((X 0) 4 (nix a) 2 = 0)) 1 (.inr (oLostIn (nJ (X 0) 15 a 0 0) a, nEv X (X 0) 15 a 0 0))) : Nat ⊕ (Int32 × NWd)) (fun v => v.toInt64) (wdo X 0 (X 0))) := by
  refine lM_of hI hs rfl (by decide +kernel) (Nat.le_of_ble_eq_true rfl) ?_
  intro p e s m args below meth cd ls hc hr hP hl hS
  have hx := hc.1
  have hb := hc.2.1
  have hl : lv_has ls 4 [(0, .ref (ad 2 20 0)), (1, .int a), (2, .ref aL)] := hl
  refine lv_aload_n hx hb dL_finish_0 rfl (lv_at hl 2 rfl) ?_
  refine lv_iconst (v := 0) hx hb dL_finish_1 (by decide) ?_
  refine lv_aload_n hx hb dL_finish_2 rfl (lv_at hl 0 rfl) ?_
  refine lv_iload_n hx hb dL_finish_3 rfl (lv_at hl 1 rfl) ?_
  refine l_Xi (X := wdo X 0 (X 0)) (As := [.int a]) (rest := [.int 0, .ref aL]) (c_X9_finish (S := X 0) (a := a) hfl hI hon0 hon1 hon2 hok hd) hc hP hS hl.1 (ngoodV q1026 q1027 q1028 q1 q1029) (l_recv hc hP.1 hon2) nok_X9_finish rfl ⟨(Nat.le_of_ble_eq_true rfl), (Nat.le_of_ble_eq_true rfl)⟩ ⟨(Nat.le_of_ble_eq_true rfl), (Nat.le_of_ble_eq_true rfl)⟩ dL_finish_4 rfl (Nat.le_of_ble_eq_true rfl) ?_ ?_
  · intro k ce q9 H locs hE hP hS hcell hv hcl
    have hE9 : (nG (inB a (ona (X 0))) 2 (nG (oPoll (X 0) && decide ((X 0) 4 (nix a) 2 = 0)) 1 (.inr (oLostIn (nJ (X 0) 15 a 0 0) a, nEv X (X 0) 15 a 0 0))) : Nat ⊕ (Int32 × NWd)) = .inl k := hE
    have hks : k = 2 ∨ k = 1 := by
      rcases nG_inl hE9 with h9 | h9
      · exact Or.inl h9
      · skip
        rcases nG_inl h9 with h9 | h9
        · exact Or.inr (h9)
        · cases h9
    rcases hks with rfl | rfl
    · refine l_catch (k := 2) (sp := 0) (ep := 9) (hp := 12) (pre := []) (suf := [(0, 9, 15, 15)]) hc (by decide) rfl ?_ ⟨by decide, by decide⟩ hcell hv hcl ?_
      · intro z hz; cases hz
      · skip
        refine lv_astore_n (lv' := [(3, .ref _), (0, .ref _), (1, .int _), (2, .ref _)]) hx hb dL_finish_12 rfl hl (by decide) rfl (fun ls hl => ?_)
        refine lv_iconst (v := 1) hx hb dL_finish_13 (by decide) ?_
        exact l_end hc hP hS hr dL_finish_14 (Nat.le_of_ble_eq_true rfl) (Nat.le_of_ble_eq_true rfl) (Or.inl ⟨2, hE9, rfl, rfl⟩)
    · refine l_catch (k := 1) (sp := 0) (ep := 9) (hp := 15) (pre := [(0, 9, 12, 28)]) (suf := []) hc (by decide) rfl ?_ ⟨by decide, by decide⟩ hcell hv hcl ?_
      · intro z hz
        simp only [List.mem_cons, List.not_mem_nil, or_false] at hz
        subst hz
        exact ⟨2, by decide, by decide, rfl⟩
      · skip
        refine lv_astore_n (lv' := [(3, .ref _), (0, .ref _), (1, .int _), (2, .ref _)]) hx hb dL_finish_15 rfl hl (by decide) rfl (fun ls hl => ?_)
        refine lv_iconst (v := 2) hx hb dL_finish_16 (by decide) ?_
        exact l_end hc hP hS hr dL_finish_17 (Nat.le_of_ble_eq_true rfl) (Nat.le_of_ble_eq_true rfl) (Or.inl ⟨1, hE9, rfl, rfl⟩)
  · intro r X2 H locs hp hP hS
    refine lv_i2l (v := _) hx hb dL_finish_7 rfl ?_
    refine l_lst hc hP hS dL_finish_8 (fun H locs hP hS => ?_)
    refine lv_goto (tgt := 18) hx hb dL_finish_9 (by decide) ?_
    refine lv_iconst (v := 0) hx hb dL_finish_18 (by decide) ?_
    exact l_end hc hP hS hr dL_finish_19 (Nat.le_of_ble_eq_true rfl) (Nat.le_of_ble_eq_true rfl) (Or.inr ⟨r, X2, hp, rfl, rfl, rfl⟩)
set_option maxHeartbeats 4000000 in
theorem lw_votes (hfl : l.stackTraces = false) (hI : ninj ad on) (hs : lsep ad on aL aD) (hon0 : on 0) (hon1 : on 1) (hon2 : on 2) (hok : oOk (X 0)) (hd : vp_in (X 2 21 0 4) 513) {pp : Int32} : lM l D dA ad on cL cD aL aD yL_votes cL_votes 4 [(0, 9, 12, 28)] [.ref (ad 2 20 0), .int pp, .ref aL] (wdo X 0 (X 0), vL, vD) (lPi (fun k => if k = 2 then 1 else 0) (nG (inB pp (onp (X 0))) 2 (.inr ((X 0) 11 (nix pp) 4, wdo X 0 (X 0))) : Nat ⊕ (Int32 × NWd)) (fun v => v.toInt64) (wdo X 0 (X 0))) := by
  refine lM_of hI hs rfl (by decide +kernel) (Nat.le_of_ble_eq_true rfl) ?_
  intro p e s m args below meth cd ls hc hr hP hl hS
  have hx := hc.1
  have hb := hc.2.1
  have hl : lv_has ls 4 [(0, .ref (ad 2 20 0)), (1, .int pp), (2, .ref aL)] := hl
  refine lv_aload_n hx hb dL_votes_0 rfl (lv_at hl 2 rfl) ?_
  refine lv_iconst (v := 0) hx hb dL_votes_1 (by decide) ?_
  refine lv_aload_n hx hb dL_votes_2 rfl (lv_at hl 0 rfl) ?_
  refine lv_iload_n hx hb dL_votes_3 rfl (lv_at hl 1 rfl) ?_
  refine l_Xi (X := wdo X 0 (X 0)) (As := [.int pp]) (rest := [.int 0, .ref aL]) (c_X9_votes (S := X 0) (pp := pp) hfl hI hon0 hon1 hon2 hok hd) hc hP hS hl.1 (ngoodV q1037 q1038 q1039 q1 q1040) (l_recv hc hP.1 hon2) nok_X9_votes rfl ⟨(Nat.le_of_ble_eq_true rfl), (Nat.le_of_ble_eq_true rfl)⟩ ⟨(Nat.le_of_ble_eq_true rfl), (Nat.le_of_ble_eq_true rfl)⟩ dL_votes_4 rfl (Nat.le_of_ble_eq_true rfl) ?_ ?_
  · intro k ce q9 H locs hE hP hS hcell hv hcl
    have hE9 : (nG (inB pp (onp (X 0))) 2 (.inr ((X 0) 11 (nix pp) 4, wdo X 0 (X 0))) : Nat ⊕ (Int32 × NWd)) = .inl k := hE
    have hks : k = 2 := by
      rcases nG_inl hE9 with h9 | h9
      · exact h9
      · cases h9
    subst hks
    refine l_catch (k := 2) (sp := 0) (ep := 9) (hp := 12) (pre := []) (suf := []) hc (by decide) rfl ?_ ⟨by decide, by decide⟩ hcell hv hcl ?_
    · intro z hz; cases hz
    · skip
      refine lv_astore_n (lv' := [(3, .ref _), (0, .ref _), (1, .int _), (2, .ref _)]) hx hb dL_votes_12 rfl hl (by decide) rfl (fun ls hl => ?_)
      refine lv_iconst (v := 1) hx hb dL_votes_13 (by decide) ?_
      exact l_end hc hP hS hr dL_votes_14 (Nat.le_of_ble_eq_true rfl) (Nat.le_of_ble_eq_true rfl) (Or.inl ⟨2, hE9, rfl, rfl⟩)
  · intro r X2 H locs hp hP hS
    refine lv_i2l (v := _) hx hb dL_votes_7 rfl ?_
    refine l_lst hc hP hS dL_votes_8 (fun H locs hP hS => ?_)
    refine lv_goto (tgt := 15) hx hb dL_votes_9 (by decide) ?_
    refine lv_iconst (v := 0) hx hb dL_votes_15 (by decide) ?_
    exact l_end hc hP hS hr dL_votes_16 (Nat.le_of_ble_eq_true rfl) (Nat.le_of_ble_eq_true rfl) (Or.inr ⟨r, X2, hp, rfl, rfl, rfl⟩)
set_option maxHeartbeats 4000000 in
theorem lw_share (hfl : l.stackTraces = false) (hI : ninj ad on) (hs : lsep ad on aL aD) (hon0 : on 0) (hon1 : on 1) (hon2 : on 2) (hok : oOk (X 0)) (hd : vp_in (X 2 21 0 4) 513) {pp : Int32} : lM l D dA ad on cL cD aL aD yL_share cL_share 4 [(0, 8, 11, 28), (0, 8, 14, 131)] [.ref (ad 2 20 0), .int pp, .ref aD] (wdo X 0 (X 0), vL, vD) (lPd (fun k => if k = 2 then 1 else if k = 5 then 2 else 0) (nG (inB pp (onp (X 0))) 2 (nG (!decide (oVotes (X 0) ((X 0) 11 (nix pp) 0) = 0)) 5 (.inr (FP.ddiv (FP.i2d ((X 0) 11 (nix pp) 4)) (FP.i2d (oVotes (X 0) ((X 0) 11 (nix pp) 0))), wdo X 0 (X 0)))) : Nat ⊕ (UInt64 × NWd)) (fun v => v) (wdo X 0 (X 0))) := by
  refine lM_of hI hs rfl (by decide +kernel) (Nat.le_of_ble_eq_true rfl) ?_
  intro p e s m args below meth cd ls hc hr hP hl hS
  have hx := hc.1
  have hb := hc.2.1
  have hl : lv_has ls 4 [(0, .ref (ad 2 20 0)), (1, .int pp), (2, .ref aD)] := hl
  refine lv_aload_n hx hb dL_share_0 rfl (lv_at hl 2 rfl) ?_
  refine lv_iconst (v := 0) hx hb dL_share_1 (by decide) ?_
  refine lv_aload_n hx hb dL_share_2 rfl (lv_at hl 0 rfl) ?_
  refine lv_iload_n hx hb dL_share_3 rfl (lv_at hl 1 rfl) ?_
  refine l_Xd (X := wdo X 0 (X 0)) (As := [.int pp]) (rest := [.int 0, .ref aD]) (c_X9_share (S := X 0) (pp := pp) hfl hI hon0 hon1 hon2 hok hd fp_d) hc hP hS hl.1 (ngoodV q1058 q1059 q1060 q1 q1061) (l_recv hc hP.1 hon2) nok_X9_share rfl ⟨(Nat.le_of_ble_eq_true rfl), (Nat.le_of_ble_eq_true rfl)⟩ ⟨(Nat.le_of_ble_eq_true rfl), (Nat.le_of_ble_eq_true rfl)⟩ dL_share_4 rfl (Nat.le_of_ble_eq_true rfl) ?_ ?_
  · intro k ce q9 H locs hE hP hS hcell hv hcl
    have hE9 : (nG (inB pp (onp (X 0))) 2 (nG (!decide (oVotes (X 0) ((X 0) 11 (nix pp) 0) = 0)) 5 (.inr (FP.ddiv (FP.i2d ((X 0) 11 (nix pp) 4)) (FP.i2d (oVotes (X 0) ((X 0) 11 (nix pp) 0))), wdo X 0 (X 0)))) : Nat ⊕ (UInt64 × NWd)) = .inl k := hE
    have hks : k = 2 ∨ k = 5 := by
      rcases nG_inl hE9 with h9 | h9
      · exact Or.inl h9
      · skip
        rcases nG_inl h9 with h9 | h9
        · exact Or.inr (h9)
        · cases h9
    rcases hks with rfl | rfl
    · refine l_catch (k := 2) (sp := 0) (ep := 8) (hp := 11) (pre := []) (suf := [(0, 8, 14, 131)]) hc (by decide) rfl ?_ ⟨by decide, by decide⟩ hcell hv hcl ?_
      · intro z hz; cases hz
      · skip
        refine lv_astore_n (lv' := [(3, .ref _), (0, .ref _), (1, .int _), (2, .ref _)]) hx hb dL_share_11 rfl hl (by decide) rfl (fun ls hl => ?_)
        refine lv_iconst (v := 1) hx hb dL_share_12 (by decide) ?_
        exact l_end hc hP hS hr dL_share_13 (Nat.le_of_ble_eq_true rfl) (Nat.le_of_ble_eq_true rfl) (Or.inl ⟨2, hE9, rfl, rfl⟩)
    · refine l_catch (k := 5) (sp := 0) (ep := 8) (hp := 14) (pre := [(0, 8, 11, 28)]) (suf := []) hc (by decide) rfl ?_ ⟨by decide, by decide⟩ hcell hv hcl ?_
      · intro z hz
        simp only [List.mem_cons, List.not_mem_nil, or_false] at hz
        subst hz
        exact ⟨2, by decide, by decide, rfl⟩
      · skip
        refine lv_astore_n (lv' := [(3, .ref _), (0, .ref _), (1, .int _), (2, .ref _)]) hx hb dL_share_14 rfl hl (by decide) rfl (fun ls hl => ?_)
        refine lv_iconst (v := 2) hx hb dL_share_15 (by decide) ?_
        exact l_end hc hP hS hr dL_share_16 (Nat.le_of_ble_eq_true rfl) (Nat.le_of_ble_eq_true rfl) (Or.inl ⟨5, hE9, rfl, rfl⟩)
  · intro r X2 H locs hp hP hS
    refine l_dst hc hP hS dL_share_7 (fun H locs hP hS => ?_)
    refine lv_goto (tgt := 17) hx hb dL_share_8 (by decide) ?_
    refine lv_iconst (v := 0) hx hb dL_share_17 (by decide) ?_
    exact l_end hc hP hS hr dL_share_18 (Nat.le_of_ble_eq_true rfl) (Nat.le_of_ble_eq_true rfl) (Or.inr ⟨r, X2, hp, rfl, rfl, rfl⟩)
set_option maxHeartbeats 4000000 in
theorem lw_winner (hfl : l.stackTraces = false) (hI : ninj ad on) (hs : lsep ad on aL aD) (hon0 : on 0) (hon1 : on 1) (hon2 : on 2) (hok : oOk (X 0)) (hd : vp_in (X 2 21 0 4) 513) {a : Int32} : lM l D dA ad on cL cD aL aD yL_winner cL_winner 4 [(0, 9, 12, 28), (0, 9, 15, 15), (0, 9, 18, 88)] [.ref (ad 2 20 0), .int a, .ref aL] (wdo X 0 (X 0), vL, vD) (lPi (fun k => if k = 2 then 1 else if k = 1 then 2 else if k = 4 then 3 else 0) (nG (inB a (ona (X 0))) 2 (nG (!decide ((X 0) 4 (nix a) 2 = 0)) 1 (nG (!decide (mvs (X 0) a (onp (X 0)) = -1)) 4 (.inr (mvs (X 0) a (onp (X 0)), wdo X 0 (X 0))))) : Nat ⊕ (Int32 × NWd)) (fun v => v.toInt64) (wdo X 0 (X 0))) := by
  refine lM_of hI hs rfl (by decide +kernel) (Nat.le_of_ble_eq_true rfl) ?_
  intro p e s m args below meth cd ls hc hr hP hl hS
  have hx := hc.1
  have hb := hc.2.1
  have hl : lv_has ls 4 [(0, .ref (ad 2 20 0)), (1, .int a), (2, .ref aL)] := hl
  refine lv_aload_n hx hb dL_winner_0 rfl (lv_at hl 2 rfl) ?_
  refine lv_iconst (v := 0) hx hb dL_winner_1 (by decide) ?_
  refine lv_aload_n hx hb dL_winner_2 rfl (lv_at hl 0 rfl) ?_
  refine lv_iload_n hx hb dL_winner_3 rfl (lv_at hl 1 rfl) ?_
  refine l_Xi (X := wdo X 0 (X 0)) (As := [.int a]) (rest := [.int 0, .ref aL]) (c_X9_winner (S := X 0) (a := a) hfl hI hon0 hon1 hon2 hok hd) hc hP hS hl.1 (ngoodV q1069 q1070 q1071 q1 q1072) (l_recv hc hP.1 hon2) nok_X9_winner rfl ⟨(Nat.le_of_ble_eq_true rfl), (Nat.le_of_ble_eq_true rfl)⟩ ⟨(Nat.le_of_ble_eq_true rfl), (Nat.le_of_ble_eq_true rfl)⟩ dL_winner_4 rfl (Nat.le_of_ble_eq_true rfl) ?_ ?_
  · intro k ce q9 H locs hE hP hS hcell hv hcl
    have hE9 : (nG (inB a (ona (X 0))) 2 (nG (!decide ((X 0) 4 (nix a) 2 = 0)) 1 (nG (!decide (mvs (X 0) a (onp (X 0)) = -1)) 4 (.inr (mvs (X 0) a (onp (X 0)), wdo X 0 (X 0))))) : Nat ⊕ (Int32 × NWd)) = .inl k := hE
    have hks : k = 2 ∨ k = 1 ∨ k = 4 := by
      rcases nG_inl hE9 with h9 | h9
      · exact Or.inl h9
      · skip
        rcases nG_inl h9 with h9 | h9
        · exact Or.inr (Or.inl h9)
        · skip
          rcases nG_inl h9 with h9 | h9
          · exact Or.inr (Or.inr (h9))
          · cases h9
    rcases hks with rfl | rfl | rfl
    · refine l_catch (k := 2) (sp := 0) (ep := 9) (hp := 12) (pre := []) (suf := [(0, 9, 15, 15), (0, 9, 18, 88)]) hc (by decide) rfl ?_ ⟨by decide, by decide⟩ hcell hv hcl ?_
      · intro z hz; cases hz
      · skip
        refine lv_astore_n (lv' := [(3, .ref _), (0, .ref _), (1, .int _), (2, .ref _)]) hx hb dL_winner_12 rfl hl (by decide) rfl (fun ls hl => ?_)
        refine lv_iconst (v := 1) hx hb dL_winner_13 (by decide) ?_
        exact l_end hc hP hS hr dL_winner_14 (Nat.le_of_ble_eq_true rfl) (Nat.le_of_ble_eq_true rfl) (Or.inl ⟨2, hE9, rfl, rfl⟩)
    · refine l_catch (k := 1) (sp := 0) (ep := 9) (hp := 15) (pre := [(0, 9, 12, 28)]) (suf := [(0, 9, 18, 88)]) hc (by decide) rfl ?_ ⟨by decide, by decide⟩ hcell hv hcl ?_
      · intro z hz
        simp only [List.mem_cons, List.not_mem_nil, or_false] at hz
        subst hz
        exact ⟨2, by decide, by decide, rfl⟩
      · skip
        refine lv_astore_n (lv' := [(3, .ref _), (0, .ref _), (1, .int _), (2, .ref _)]) hx hb dL_winner_15 rfl hl (by decide) rfl (fun ls hl => ?_)
        refine lv_iconst (v := 2) hx hb dL_winner_16 (by decide) ?_
        exact l_end hc hP hS hr dL_winner_17 (Nat.le_of_ble_eq_true rfl) (Nat.le_of_ble_eq_true rfl) (Or.inl ⟨1, hE9, rfl, rfl⟩)
    · refine l_catch (k := 4) (sp := 0) (ep := 9) (hp := 18) (pre := [(0, 9, 12, 28), (0, 9, 15, 15)]) (suf := []) hc (by decide) rfl ?_ ⟨by decide, by decide⟩ hcell hv hcl ?_
      · intro z hz
        simp only [List.mem_cons, List.not_mem_nil, or_false] at hz
        rcases hz with rfl | rfl
        · exact ⟨2, by decide, by decide, rfl⟩
        · exact ⟨1, by decide, by decide, rfl⟩
      · skip
        refine lv_astore_n (lv' := [(3, .ref _), (0, .ref _), (1, .int _), (2, .ref _)]) hx hb dL_winner_18 rfl hl (by decide) rfl (fun ls hl => ?_)
        refine lv_iconst (v := 3) hx hb dL_winner_19 (by decide) ?_
        exact l_end hc hP hS hr dL_winner_20 (Nat.le_of_ble_eq_true rfl) (Nat.le_of_ble_eq_true rfl) (Or.inl ⟨4, hE9, rfl, rfl⟩)
  · intro r X2 H locs hp hP hS
    refine lv_i2l (v := _) hx hb dL_winner_7 rfl ?_
    refine l_lst hc hP hS dL_winner_8 (fun H locs hP hS => ?_)
    refine lv_goto (tgt := 21) hx hb dL_winner_9 (by decide) ?_
    refine lv_iconst (v := 0) hx hb dL_winner_21 (by decide) ?_
    exact l_end hc hP hS hr dL_winner_22 (Nat.le_of_ble_eq_true rfl) (Nat.le_of_ble_eq_true rfl) (Or.inr ⟨r, X2, hp, rfl, rfl, rfl⟩)
set_option maxHeartbeats 4000000 in
theorem lw_deposit (hfl : l.stackTraces = false) (hI : ninj ad on) (hs : lsep ad on aL aD) (hon0 : on 0) (hon1 : on 1) (hon2 : on 2) (hok : oOk (X 0)) (hd : vp_in (X 2 21 0 4) 513) {pp : Int32} : lM l D dA ad on cL cD aL aD yL_deposit cL_deposit 4 [(0, 9, 12, 28)] [.ref (ad 2 20 0), .int pp, .ref aL] (wdo X 0 (X 0), vL, vD) (lPi (fun k => if k = 2 then 1 else 0) (nG (inB pp (onp (X 0))) 2 (.inr (oDep (X 0) pp, wdo X 0 (X 0))) : Nat ⊕ (Int32 × NWd)) (fun v => v.toInt64) (wdo X 0 (X 0))) := by
  refine lM_of hI hs rfl (by decide +kernel) (Nat.le_of_ble_eq_true rfl) ?_
  intro p e s m args below meth cd ls hc hr hP hl hS
  have hx := hc.1
  have hb := hc.2.1
  have hl : lv_has ls 4 [(0, .ref (ad 2 20 0)), (1, .int pp), (2, .ref aL)] := hl
  refine lv_aload_n hx hb dL_deposit_0 rfl (lv_at hl 2 rfl) ?_
  refine lv_iconst (v := 0) hx hb dL_deposit_1 (by decide) ?_
  refine lv_aload_n hx hb dL_deposit_2 rfl (lv_at hl 0 rfl) ?_
  refine lv_iload_n hx hb dL_deposit_3 rfl (lv_at hl 1 rfl) ?_
  refine l_Xi (X := wdo X 0 (X 0)) (As := [.int pp]) (rest := [.int 0, .ref aL]) (c_X9_deposit (S := X 0) (pp := pp) hfl hI hon0 hon1 hon2 hok hd) hc hP hS hl.1 (ngoodV q1082 q1083 q1084 q1 q1085) (l_recv hc hP.1 hon2) nok_X9_deposit rfl ⟨(Nat.le_of_ble_eq_true rfl), (Nat.le_of_ble_eq_true rfl)⟩ ⟨(Nat.le_of_ble_eq_true rfl), (Nat.le_of_ble_eq_true rfl)⟩ dL_deposit_4 rfl (Nat.le_of_ble_eq_true rfl) ?_ ?_
  · intro k ce q9 H locs hE hP hS hcell hv hcl
    have hE9 : (nG (inB pp (onp (X 0))) 2 (.inr (oDep (X 0) pp, wdo X 0 (X 0))) : Nat ⊕ (Int32 × NWd)) = .inl k := hE
    have hks : k = 2 := by
      rcases nG_inl hE9 with h9 | h9
      · exact h9
      · cases h9
    subst hks
    refine l_catch (k := 2) (sp := 0) (ep := 9) (hp := 12) (pre := []) (suf := []) hc (by decide) rfl ?_ ⟨by decide, by decide⟩ hcell hv hcl ?_
    · intro z hz; cases hz
    · skip
      refine lv_astore_n (lv' := [(3, .ref _), (0, .ref _), (1, .int _), (2, .ref _)]) hx hb dL_deposit_12 rfl hl (by decide) rfl (fun ls hl => ?_)
      refine lv_iconst (v := 1) hx hb dL_deposit_13 (by decide) ?_
      exact l_end hc hP hS hr dL_deposit_14 (Nat.le_of_ble_eq_true rfl) (Nat.le_of_ble_eq_true rfl) (Or.inl ⟨2, hE9, rfl, rfl⟩)
  · intro r X2 H locs hp hP hS
    refine lv_i2l (v := _) hx hb dL_deposit_7 rfl ?_
    refine l_lst hc hP hS dL_deposit_8 (fun H locs hP hS => ?_)
    refine lv_goto (tgt := 15) hx hb dL_deposit_9 (by decide) ?_
    refine lv_iconst (v := 0) hx hb dL_deposit_15 (by decide) ?_
    exact l_end hc hP hS hr dL_deposit_16 (Nat.le_of_ble_eq_true rfl) (Nat.le_of_ble_eq_true rfl) (Or.inr ⟨r, X2, hp, rfl, rfl, rfl⟩)
set_option maxHeartbeats 4000000 in
theorem lw_paid (hfl : l.stackTraces = false) (hI : ninj ad on) (hs : lsep ad on aL aD) (hon0 : on 0) (hon1 : on 1) (hon2 : on 2) (hok : oOk (X 0)) (hd : vp_in (X 2 21 0 4) 513) {pp : Int32} : lM l D dA ad on cL cD aL aD yL_paid cL_paid 4 [(0, 9, 12, 28)] [.ref (ad 2 20 0), .int pp, .ref aL] (wdo X 0 (X 0), vL, vD) (lPi (fun k => if k = 2 then 1 else 0) (nG (inB pp (onp (X 0))) 2 (.inr ((X 0) 11 (nix pp) 3, wdo X 0 (X 0))) : Nat ⊕ (Int32 × NWd)) (fun v => v.toInt64) (wdo X 0 (X 0))) := by
  refine lM_of hI hs rfl (by decide +kernel) (Nat.le_of_ble_eq_true rfl) ?_
  intro p e s m args below meth cd ls hc hr hP hl hS
  have hx := hc.1
  have hb := hc.2.1
  have hl : lv_has ls 4 [(0, .ref (ad 2 20 0)), (1, .int pp), (2, .ref aL)] := hl
  refine lv_aload_n hx hb dL_paid_0 rfl (lv_at hl 2 rfl) ?_
  refine lv_iconst (v := 0) hx hb dL_paid_1 (by decide) ?_
  refine lv_aload_n hx hb dL_paid_2 rfl (lv_at hl 0 rfl) ?_
  refine lv_iload_n hx hb dL_paid_3 rfl (lv_at hl 1 rfl) ?_
  refine l_Xi (X := wdo X 0 (X 0)) (As := [.int pp]) (rest := [.int 0, .ref aL]) (c_X9_paid (S := X 0) (pp := pp) hfl hI hon0 hon1 hon2 hok hd) hc hP hS hl.1 (ngoodV q1090 q1091 q1092 q1 q1093) (l_recv hc hP.1 hon2) nok_X9_paid rfl ⟨(Nat.le_of_ble_eq_true rfl), (Nat.le_of_ble_eq_true rfl)⟩ ⟨(Nat.le_of_ble_eq_true rfl), (Nat.le_of_ble_eq_true rfl)⟩ dL_paid_4 rfl (Nat.le_of_ble_eq_true rfl) ?_ ?_
  · intro k ce q9 H locs hE hP hS hcell hv hcl
    have hE9 : (nG (inB pp (onp (X 0))) 2 (.inr ((X 0) 11 (nix pp) 3, wdo X 0 (X 0))) : Nat ⊕ (Int32 × NWd)) = .inl k := hE
    have hks : k = 2 := by
      rcases nG_inl hE9 with h9 | h9
      · exact h9
      · cases h9
    subst hks
    refine l_catch (k := 2) (sp := 0) (ep := 9) (hp := 12) (pre := []) (suf := []) hc (by decide) rfl ?_ ⟨by decide, by decide⟩ hcell hv hcl ?_
    · intro z hz; cases hz
    · skip
      refine lv_astore_n (lv' := [(3, .ref _), (0, .ref _), (1, .int _), (2, .ref _)]) hx hb dL_paid_12 rfl hl (by decide) rfl (fun ls hl => ?_)
      refine lv_iconst (v := 1) hx hb dL_paid_13 (by decide) ?_
      exact l_end hc hP hS hr dL_paid_14 (Nat.le_of_ble_eq_true rfl) (Nat.le_of_ble_eq_true rfl) (Or.inl ⟨2, hE9, rfl, rfl⟩)
  · intro r X2 H locs hp hP hS
    refine lv_i2l (v := _) hx hb dL_paid_7 rfl ?_
    refine l_lst hc hP hS dL_paid_8 (fun H locs hP hS => ?_)
    refine lv_goto (tgt := 15) hx hb dL_paid_9 (by decide) ?_
    refine lv_iconst (v := 0) hx hb dL_paid_15 (by decide) ?_
    exact l_end hc hP hS hr dL_paid_16 (Nat.le_of_ble_eq_true rfl) (Nat.le_of_ble_eq_true rfl) (Or.inr ⟨r, X2, hp, rfl, rfl, rfl⟩)
set_option maxHeartbeats 4000000 in
theorem lw_lostShare (hfl : l.stackTraces = false) (hI : ninj ad on) (hs : lsep ad on aL aD) (hon0 : on 0) (hon1 : on 1) (hon2 : on 2) (hok : oOk (X 0)) (hd : vp_in (X 2 21 0 4) 513) : lM l D dA ad on cL cD aL aD yL_lostShare cL_lostShare 3 [(0, 8, 11, 131)] [.ref (ad 2 20 0), .ref aD] (wdo X 0 (X 0), vL, vD) (lPf (fun k => if k = 5 then 1 else 0) (nG (!decide (oSumPaid (X 0) = 0)) 5 (.inr (FP.fdiv (FP.i2f (oSum (X 0) 2)) (FP.i2f (oSumPaid (X 0))), wdo X 0 (X 0))) : Nat ⊕ (UInt32 × NWd)) (fun v => FP.f2d v) (wdo X 0 (X 0))) := by
  refine lM_of hI hs rfl (by decide +kernel) (Nat.le_of_ble_eq_true rfl) ?_
  intro p e s m args below meth cd ls hc hr hP hl hS
  have hx := hc.1
  have hb := hc.2.1
  have hl : lv_has ls 3 [(0, .ref (ad 2 20 0)), (1, .ref aD)] := hl
  refine lv_aload_n hx hb dL_lostShare_0 rfl (lv_at hl 1 rfl) ?_
  refine lv_iconst (v := 0) hx hb dL_lostShare_1 (by decide) ?_
  refine lv_aload_n hx hb dL_lostShare_2 rfl (lv_at hl 0 rfl) ?_
  refine l_Xf (X := wdo X 0 (X 0)) (As := []) (rest := [.int 0, .ref aD]) (c_X9_lostShare (S := X 0) hfl hI hon0 hon1 hon2 hok hd fp_f) hc hP hS hl.1 (ngoodV q1097 q1098 q1099 q1 q1100) (l_recv hc hP.1 hon2) nok_X9_lostShare rfl ⟨(Nat.le_of_ble_eq_true rfl), (Nat.le_of_ble_eq_true rfl)⟩ ⟨(Nat.le_of_ble_eq_true rfl), (Nat.le_of_ble_eq_true rfl)⟩ dL_lostShare_3 rfl (Nat.le_of_ble_eq_true rfl) ?_ ?_
  · intro k ce q9 H locs hE hP hS hcell hv hcl
    have hE9 : (nG (!decide (oSumPaid (X 0) = 0)) 5 (.inr (FP.fdiv (FP.i2f (oSum (X 0) 2)) (FP.i2f (oSumPaid (X 0))), wdo X 0 (X 0))) : Nat ⊕ (UInt32 × NWd)) = .inl k := hE
    have hks : k = 5 := by
      rcases nG_inl hE9 with h9 | h9
      · exact h9
      · cases h9
    subst hks
    refine l_catch (k := 5) (sp := 0) (ep := 8) (hp := 11) (pre := []) (suf := []) hc (by decide) rfl ?_ ⟨by decide, by decide⟩ hcell hv hcl ?_
    · intro z hz; cases hz
    · skip
      refine lv_astore_n (lv' := [(2, .ref _), (0, .ref _), (1, .ref _)]) hx hb dL_lostShare_11 rfl hl (by decide) rfl (fun ls hl => ?_)
      refine lv_iconst (v := 1) hx hb dL_lostShare_12 (by decide) ?_
      exact l_end hc hP hS hr dL_lostShare_13 (Nat.le_of_ble_eq_true rfl) (Nat.le_of_ble_eq_true rfl) (Or.inl ⟨5, hE9, rfl, rfl⟩)
  · intro r X2 H locs hp hP hS
    have hn : vf_n64 (FP.f2d r) := by
      have hp : nG _ _ _ = _ := hp
      unfold nG at hp
      split at hp
      · rename_i hg
        cases hp
        exact Jvm.Free.Fl.f2d_out (fp_f _ _ (by simpa using hg))
      · cases hp
    refine lv_f2d hx hb dL_lostShare_6 hn ?_
    refine l_dst hc hP hS dL_lostShare_7 (fun H locs hP hS => ?_)
    refine lv_goto (tgt := 14) hx hb dL_lostShare_8 (by decide) ?_
    refine lv_iconst (v := 0) hx hb dL_lostShare_14 (by decide) ?_
    exact l_end hc hP hS hr dL_lostShare_15 (Nat.le_of_ble_eq_true rfl) (Nat.le_of_ble_eq_true rfl) (Or.inr ⟨r, X2, hp, rfl, rfl, rfl⟩)
end LM
