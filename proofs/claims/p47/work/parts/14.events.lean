/-! the office: judging, the letters, the events: contracts -/
theorem nI_dec (r : Nat) : nI (r + 1) + Int32.ofInt (-1) = nI r := by rw [show Int32.ofInt (-1) = -1 from by decide]; exact pk_m1 r
section N14
variable {l : Launch} {D : va_G} {dA : Nat → ClassId} {ad : Nat → Nat → Nat → Nat} {on : Nat → Prop} {X : NWd} {o i : Nat} {S : NSt}
set_option maxHeartbeats 4000000 in
set_option maxRecDepth 100000 in
theorem c_X4_judgeSignatures (hI : ninj ad on) (hon : on o) (ho : o < 2) (hok : oOk S) : nMv l D dA ad on yX4_judgeSignatures cX4_judgeSignatures 3 (nrm 3) [.ref (ad o 0 0)] (wdo X o S) (fun X' => X' = wdo X o (jsg S (ons S))) := by
  refine nM_of hI (by decide +kernel) (Nat.le_of_ble_eq_true rfl) ?_
  intro p e s m args below meth cd ls hc hr _ hP hl hS
  have hx := hc.1
  have hb := hc.2.1
  have hl : lv_has ls 3 [(0, .ref (ad o 0 0))] := hl
  have lp28 : ∀ (r j : Nat) , j + r = ons S → ∀ (H : Heap) (locs : List Loc) (ls : Array Slot), npic D dA ad on (wdo X o (jsg S j)) H → va_S (nA ad on) s.heap H locs → lv_has ls 3 [(1, .int (nI j)), (0, .ref (ad o 0 0))] → W p l e (nrm 3) s m args below meth cd H locs 0 0 (MQ below (va_Qv (fun X' => X' = wdo X o (jsg S (ons S))) (fun X' t => npic D dA ad on X' t.heap) (nA ad on)) args s 0 0 (nA ad on)) (F0 m 28 ls []) := by
    intro r
    induction r with
    | zero =>
      intro j  hj  H locs ls hP hS hl
      have hjn : j = ons S := by omega
      refine lv_iload_n hx hb dX4_judgeSignatures_28 rfl (lv_at hl 0 rfl) ?_
      refine lv_aload_n hx hb dX4_judgeSignatures_29 rfl (lv_at hl 1 rfl) ?_
      refine g4_60 hc hP (nv_o hon ho (by decide) Nat.zero_lt_one) dX4_judgeSignatures_30 ?_
      refine lv_icmp_ge (tgt := 83) hx hb dX4_judgeSignatures_33 (by decide) (fun c_33 => ?_) (fun c_33 => absurd (lp_le (by rw [jsg_same S _ 0 0 7 (by decide) (by decide)]; exact hok.ns) hjn) c_33)
      exact ne_v hc hP hS hr dX4_judgeSignatures_83 (by show _ = _; rw [hjn])
    | succ r ih =>
      intro j  hj  H locs ls hP hS hl
      have hjn : j < ons S := by omega
      have hj150 : j < 150 := Nat.lt_of_lt_of_le hjn hok.ns150
      have ej : nix (nI j) = j := nI_clamp (by omega)
      have hjv : vp_in (nI j) 150 := vp_in_nI hj150 (by decide)
      have hjok : oOk (jsg S j) := (jsg_same S j).ok hok
      have hjs : nix (nI j) < ons (jsg S j) := by rw [(jsg_same S j).eons, ej]; exact hjn
      refine lv_iload_n hx hb dX4_judgeSignatures_28 rfl (lv_at hl 0 rfl) ?_
      refine lv_aload_n hx hb dX4_judgeSignatures_29 rfl (lv_at hl 1 rfl) ?_
      refine g4_60 hc hP (nv_o hon ho (by decide) Nat.zero_lt_one) dX4_judgeSignatures_30 ?_
      refine lv_icmp_ge (tgt := 83) hx hb dX4_judgeSignatures_33 (by decide) (fun c_33 => absurd c_33 (lp_gt (by rw [jsg_same S _ 0 0 7 (by decide) (by decide)]; exact hok.ns) hjn hok.nsL)) (fun c_33 => ?_)
      refine lv_aload_n hx hb dX4_judgeSignatures_36 rfl (lv_at hl 1 rfl) ?_
      refine g4_40 hc hP (nv_o hon ho (by decide) Nat.zero_lt_one) dX4_judgeSignatures_37 ?_
      refine lv_iload_n hx hb dX4_judgeSignatures_40 rfl (lv_at hl 0 rfl) ?_
      refine ga_12 hc hP (nv_o hon ho (by decide) Nat.zero_lt_one) hjv dX4_judgeSignatures_41 ?_
      refine lv_astore_n (lv' := [(2, .ref _), (1, .int _), (0, .ref _)]) hx hb dX4_judgeSignatures_42 rfl hl (by decide) rfl (fun ls hl => ?_)
      refine lv_aload_n hx hb dX4_judgeSignatures_43 rfl (lv_at hl 0 rfl) ?_
      refine lv_aload_n hx hb dX4_judgeSignatures_44 rfl (lv_at hl 2 rfl) ?_
      refine lv_aload_n hx hb dX4_judgeSignatures_45 rfl (lv_at hl 0 rfl) ?_
      refine nc_Vi (c_X4_resultOf hI hon ho (vp_lt hjv) (hjok.sv hjs)) hc hP hS hl.1 gd4_161 (nrecv (q := (RX4, TX4, 9)) hc (npic_eta hP) (nv_o hon ho (by decide) Nat.zero_lt_one) rfl rfl) ⟨rfl, rfl⟩ nok_X4_resultOf rfl ⟨Nat.le_of_ble_eq_true rfl, Nat.le_of_ble_eq_true rfl⟩ ⟨Nat.le_of_ble_eq_true rfl, Nat.le_of_ble_eq_true rfl⟩ dX4_judgeSignatures_46 rfl (Nat.le_of_ble_eq_true rfl) (fun r X1 H locs hp hP hS => ?_)
      obtain ⟨hr9, hX9⟩ := hp
      rw [hX9] at hP
      subst hr9
      refine p4_165 hc hP hS (nv_o hon ho (by decide) (vp_lt hjv)) dX4_judgeSignatures_49 (fun H locs hP hS => ?_)
      refine lv_aload_n hx hb dX4_judgeSignatures_52 rfl (lv_at hl 0 rfl) ?_
      refine g4_165 hc hP (nv_o hon ho (by decide) (vp_lt hjv)) dX4_judgeSignatures_53 ?_
      refine lv_if_ne (tgt := 77) hx hb dX4_judgeSignatures_56 (by decide) (fun c_56 => ?_) (fun c_56 => ?_)
      · refine lv_iinc (v := nI (j + 1)) (lv' := [(1, .int _), (2, .ref _), (0, .ref _)]) hx hb dX4_judgeSignatures_77 hl (k := 1) rfl (nI_inc j) (by decide) rfl (fun ls hl => ?_)
        refine lv_goto (tgt := 28) hx hb dX4_judgeSignatures_80 (by decide) ?_
        rw [ej] at hP c_56
        have c9 : ¬ oRes (jsg S j) j = 0 := by simpa [nput] using c_56
        have eG : jsg S (j + 1) = jst j (jsg S j) := rfl
        unfold jst at eG
        rw [if_neg c9] at eG
        exact ih (j + 1) (by omega) _ _ _ (by rw [eG]; exact hP) hS (lv_sub hl [0, 2] rfl)
      · refine lv_aload_n hx hb dX4_judgeSignatures_59 rfl (lv_at hl 2 rfl) ?_
        refine g4_34 hc hP (nv_o hon ho (by decide) Nat.zero_lt_one) dX4_judgeSignatures_60 ?_
        refine lv_aload_n hx hb dX4_judgeSignatures_63 rfl (lv_at hl 0 rfl) ?_
        refine g4_168 hc hP (nv_o hon ho (by decide) (vp_lt hjv)) dX4_judgeSignatures_64 ?_
        refine ga_10 hc hP (nv_o hon ho (by decide) Nat.zero_lt_one) (hjok.sp hjs) dX4_judgeSignatures_67 ?_
        refine lv_dup hx hb dX4_judgeSignatures_68 rfl ?_
        refine g4_158 hc hP (nv_o hon ho (by decide) (vp_lt (hjok.sp hjs))) dX4_judgeSignatures_69 ?_
        refine lv_iconst (v := 1) hx hb dX4_judgeSignatures_72 (by decide) ?_
        refine lv_iadd hx hb dX4_judgeSignatures_73 ?_
        refine p4_158 hc hP hS (nv_o hon ho (by decide) (vp_lt (hjok.sp hjs))) dX4_judgeSignatures_74 (fun H locs hP hS => ?_)
        refine lv_iinc (v := nI (j + 1)) (lv' := [(1, .int _), (2, .ref _), (0, .ref _)]) hx hb dX4_judgeSignatures_77 hl (k := 1) rfl (nI_inc j) (by decide) rfl (fun ls hl => ?_)
        refine lv_goto (tgt := 28) hx hb dX4_judgeSignatures_80 (by decide) ?_
        rw [ej] at hP c_56
        have c9 :  oRes (jsg S j) j = 0 := by simpa [nput] using c_56
        have eG : jsg S (j + 1) = jst j (jsg S j) := rfl
        unfold jst at eG
        rw [if_pos c9] at eG
        exact ih (j + 1) (by omega) _ _ _ (by rw [eG]; exact hP) hS (lv_sub hl [0, 2] rfl)
  have lp2 : ∀ (r j : Nat) , j + r = onp S → ∀ (H : Heap) (locs : List Loc) (ls : Array Slot), npic D dA ad on (wdo X o (jc0 S j)) H → va_S (nA ad on) s.heap H locs → lv_has ls 3 [(1, .int (nI j)), (0, .ref (ad o 0 0))] → W p l e (nrm 3) s m args below meth cd H locs 0 0 (MQ below (va_Qv (fun X' => X' = wdo X o (jsg S (ons S))) (fun X' t => npic D dA ad on X' t.heap) (nA ad on)) args s 0 0 (nA ad on)) (F0 m 2 ls []) := by
    intro r
    induction r with
    | zero =>
      intro j  hj  H locs ls hP hS hl
      have hjn : j = onp S := by omega
      rw [hjn] at hP
      refine lv_iload_n hx hb dX4_judgeSignatures_2 rfl (lv_at hl 0 rfl) ?_
      refine lv_aload_n hx hb dX4_judgeSignatures_3 rfl (lv_at hl 1 rfl) ?_
      refine g4_56 hc hP (nv_o hon ho (by decide) Nat.zero_lt_one) dX4_judgeSignatures_4 ?_
      refine lv_icmp_ge (tgt := 26) hx hb dX4_judgeSignatures_7 (by decide) (fun c_7 => ?_) (fun c_7 => absurd (lp_le (by rw [jc0_same S _ 0 0 6 (by decide) (by decide)]; exact hok.np) hjn) c_7)
      refine lv_iconst (v := nI 0) hx hb dX4_judgeSignatures_26 (by decide) ?_
      refine lv_istore_n (lv' := [(1, .int _), (0, .ref _)]) hx hb dX4_judgeSignatures_27 rfl hl (by decide) rfl (fun ls hl => ?_)
      exact lp28 _ 0 (Nat.zero_add _) _ _ _ hP hS (lv_sub hl [0, 1] rfl)
    | succ r ih =>
      intro j  hj  H locs ls hP hS hl
      have hjn : j < onp S := by omega
      have hj12 : j < 12 := Nat.lt_of_lt_of_le hjn hok.np12
      have ej : nix (nI j) = j := nI_clamp (by omega)
      have hjv : vp_in (nI j) 12 := vp_in_nI hj12 (by decide)
      have hjp : vp_in (nI j) (onp S) := vp_in_nI hjn hok.npL
      refine lv_iload_n hx hb dX4_judgeSignatures_2 rfl (lv_at hl 0 rfl) ?_
      refine lv_aload_n hx hb dX4_judgeSignatures_3 rfl (lv_at hl 1 rfl) ?_
      refine g4_56 hc hP (nv_o hon ho (by decide) Nat.zero_lt_one) dX4_judgeSignatures_4 ?_
      refine lv_icmp_ge (tgt := 26) hx hb dX4_judgeSignatures_7 (by decide) (fun c_7 => absurd c_7 (lp_gt (by rw [jc0_same S _ 0 0 6 (by decide) (by decide)]; exact hok.np) hjn hok.npL)) (fun c_7 => ?_)
      refine lv_aload_n hx hb dX4_judgeSignatures_10 rfl (lv_at hl 1 rfl) ?_
      refine g4_34 hc hP (nv_o hon ho (by decide) Nat.zero_lt_one) dX4_judgeSignatures_11 ?_
      refine lv_iload_n hx hb dX4_judgeSignatures_14 rfl (lv_at hl 0 rfl) ?_
      refine ga_10 hc hP (nv_o hon ho (by decide) Nat.zero_lt_one) hjv dX4_judgeSignatures_15 ?_
      refine lv_iconst (v := 0) hx hb dX4_judgeSignatures_16 (by decide) ?_
      refine p4_158 hc hP hS (nv_o hon ho (by decide) (vp_lt hjv)) dX4_judgeSignatures_17 (fun H locs hP hS => ?_)
      refine lv_iinc (v := nI (j + 1)) (lv' := [(1, .int _), (0, .ref _)]) hx hb dX4_judgeSignatures_20 hl (k := 0) rfl (nI_inc j) (by decide) rfl (fun ls hl => ?_)
      refine lv_goto (tgt := 2) hx hb dX4_judgeSignatures_23 (by decide) ?_
      exact ih (j + 1) (by omega) _ _ _ (by rw [ej] at hP; exact hP) hS (lv_sub hl [0, 1] rfl)
  refine lv_iconst (v := nI 0) hx hb dX4_judgeSignatures_0 (by decide) ?_
  refine lv_istore_n (lv' := [(1, .int _), (0, .ref _)]) hx hb dX4_judgeSignatures_1 rfl hl (by decide) rfl (fun ls hl => ?_)
  exact lp2 _ 0 (Nat.zero_add _) _ _ _ hP hS (lv_sub hl [0, 1] rfl)
set_option maxHeartbeats 4000000 in
set_option maxRecDepth 100000 in
theorem c_X4_judge (hI : ninj ad on) (hon : on o) (ho : o < 2) (hok : oOk S) : nMv l D dA ad on yX4_judge cX4_judge 2 (nrm 4) [.ref (ad o 0 0)] (wdo X o S) (fun X' => X' = wdo X o (oJudge S)) := by
  refine nM_of hI (by decide +kernel) (Nat.le_of_ble_eq_true rfl) ?_
  intro p e s m args below meth cd ls hc hr _ hP hl hS
  have hx := hc.1
  have hb := hc.2.1
  have hl : lv_has ls 2 [(0, .ref (ad o 0 0))] := hl
  have lp : ∀ (r j : Nat) , j + r = onp S → oOpen S = true → ∀ (H : Heap) (locs : List Loc) (ls : Array Slot), npic D dA ad on (wdo X o (jvd S j)) H → va_S (nA ad on) s.heap H locs → lv_has ls 2 [(1, .int (nI j)), (0, .ref (ad o 0 0))] → W p l e (nrm 4) s m args below meth cd H locs 0 0 (MQ below (va_Qv (fun X' => X' = wdo X o (oJudge S)) (fun X' t => npic D dA ad on X' t.heap) (nA ad on)) args s 0 0 (nA ad on)) (F0 m 16 ls []) := by
    intro r
    induction r with
    | zero =>
      intro j  hj hq H locs ls hP hS hl
      have hjn : j = onp S := by omega
      refine lv_iload_n hx hb dX4_judge_16 rfl (lv_at hl 0 rfl) ?_
      refine lv_aload_n hx hb dX4_judge_17 rfl (lv_at hl 1 rfl) ?_
      refine g4_56 hc hP (nv_o hon ho (by decide) Nat.zero_lt_one) dX4_judge_18 ?_
      refine lv_icmp_ge (tgt := 44) hx hb dX4_judge_21 (by decide) (fun c_21 => ?_) (fun c_21 => absurd (lp_le (by rw [jvd_same S _ 0 0 6 (by decide) (by decide)]; exact hok.np) hjn) c_21)
      exact ne_v hc hP hS hr dX4_judge_44 (by show _ = _; rw [oJudge, if_pos hq, hjn])
    | succ r ih =>
      intro j  hj hq H locs ls hP hS hl
      have hjn : j < onp S := by omega
      have hj12 : j < 12 := Nat.lt_of_lt_of_le hjn hok.np12
      have ej : nix (nI j) = j := nI_clamp (by omega)
      have hjv : vp_in (nI j) 12 := vp_in_nI hj12 (by decide)
      have hjok : oOk (jvd S j) := (jvd_same S j).ok hok
      have hjp : vp_in (nI j) (onp (jvd S j)) := by rw [(jvd_same S j).eonp]; exact vp_in_nI hjn hok.npL
      refine lv_iload_n hx hb dX4_judge_16 rfl (lv_at hl 0 rfl) ?_
      refine lv_aload_n hx hb dX4_judge_17 rfl (lv_at hl 1 rfl) ?_
      refine g4_56 hc hP (nv_o hon ho (by decide) Nat.zero_lt_one) dX4_judge_18 ?_
      refine lv_icmp_ge (tgt := 44) hx hb dX4_judge_21 (by decide) (fun c_21 => absurd c_21 (lp_gt (by rw [jvd_same S _ 0 0 6 (by decide) (by decide)]; exact hok.np) hjn hok.npL)) (fun c_21 => ?_)
      refine lv_aload_n hx hb dX4_judge_24 rfl (lv_at hl 1 rfl) ?_
      refine g4_34 hc hP (nv_o hon ho (by decide) Nat.zero_lt_one) dX4_judge_25 ?_
      refine lv_iload_n hx hb dX4_judge_28 rfl (lv_at hl 0 rfl) ?_
      refine ga_10 hc hP (nv_o hon ho (by decide) Nat.zero_lt_one) hjv dX4_judge_29 ?_
      refine lv_aload_n hx hb dX4_judge_30 rfl (lv_at hl 1 rfl) ?_
      refine lv_iload_n hx hb dX4_judge_31 rfl (lv_at hl 0 rfl) ?_
      refine nc_Vi (c_X4_verdictOn hI hon ho hjok hjp) hc hP hS hl.1 gd4_151 (nrecv (q := (RX4, TX4, 9)) hc (npic_eta hP) (nv_o hon ho (by decide) Nat.zero_lt_one) rfl rfl) ⟨rfl, rfl⟩ nok_X4_verdictOn rfl ⟨Nat.le_of_ble_eq_true rfl, Nat.le_of_ble_eq_true rfl⟩ ⟨Nat.le_of_ble_eq_true rfl, Nat.le_of_ble_eq_true rfl⟩ dX4_judge_32 rfl (Nat.le_of_ble_eq_true rfl) (fun r X1 H locs hp hP hS => ?_)
      obtain ⟨hr9, hX9⟩ := hp
      rw [hX9] at hP
      subst hr9
      refine p4_155 hc hP hS (nv_o hon ho (by decide) (vp_lt hjv)) dX4_judge_35 (fun H locs hP hS => ?_)
      refine lv_iinc (v := nI (j + 1)) (lv' := [(1, .int _), (0, .ref _)]) hx hb dX4_judge_38 hl (k := 0) rfl (nI_inc j) (by decide) rfl (fun ls hl => ?_)
      refine lv_goto (tgt := 16) hx hb dX4_judge_41 (by decide) ?_
      exact ih (j + 1) (by omega) hq _ _ _ (by rw [ej] at hP; exact hP) hS (lv_sub hl [0, 1] rfl)
  refine lv_aload_n hx hb dX4_judge_0 rfl (lv_at hl 0 rfl) ?_
  refine g4_12 hc hP (nv_o hon ho (by decide) Nat.zero_lt_one) dX4_judge_1 ?_
  refine nc_Vi (c_X1_isBeforeClose hI hon ho ) hc hP hS hl.1 gd4_122 (nrecv (q := (RX1, TX1, 4)) hc (npic_eta hP) (nv_o hon ho (by decide) Nat.zero_lt_one) rfl rfl) ⟨rfl, rfl⟩ nok_X1_isBeforeClose rfl ⟨Nat.le_of_ble_eq_true rfl, Nat.le_of_ble_eq_true rfl⟩ ⟨Nat.le_of_ble_eq_true rfl, Nat.le_of_ble_eq_true rfl⟩ dX4_judge_4 rfl (Nat.le_of_ble_eq_true rfl) (fun r X1 H locs hp hP hS => ?_)
  obtain ⟨hr9, hX9⟩ := hp
  rw [hX9] at hP
  subst hr9
  refine lv_if_eq (tgt := 44) hx hb dX4_judge_7 (by decide) (fun c_7 => ?_) (fun c_7 => ?_)
  · exact ne_v hc hP hS hr dX4_judge_44 (by show _ = _; rw [oJudge, if_neg (by rw [nb_z] at c_7; rw [c_7]; decide)])
  · refine lv_aload_n hx hb dX4_judge_10 rfl (lv_at hl 0 rfl) ?_
    refine nc_Vv (c_X4_judgeSignatures hI hon ho hok) hc hP hS hl.1 gd4_148 (nrecv (q := (RX4, TX4, 9)) hc (npic_eta hP) (nv_o hon ho (by decide) Nat.zero_lt_one) rfl rfl) ⟨rfl, rfl⟩ nok_X4_judgeSignatures rfl ⟨Nat.le_of_ble_eq_true rfl, Nat.le_of_ble_eq_true rfl⟩ ⟨Nat.le_of_ble_eq_true rfl, Nat.le_of_ble_eq_true rfl⟩ dX4_judge_11 rfl (Nat.le_of_ble_eq_true rfl) (fun X1 H locs hp hP hS => ?_)
    rw [hp] at hP
    refine lv_iconst (v := nI 0) hx hb dX4_judge_14 (by decide) ?_
    refine lv_istore_n (lv' := [(1, .int _), (0, .ref _)]) hx hb dX4_judge_15 rfl hl (by decide) rfl (fun ls hl => ?_)
    exact lp _ 0 (Nat.zero_add _) (nb_nz.mp c_7) _ _ _ hP hS (lv_sub hl [0, 1] rfl)
set_option maxHeartbeats 4000000 in
set_option maxRecDepth 100000 in
theorem c_X4_restart (hI : ninj ad on) (hon : on o) (ho : o < 2) : nMv l D dA ad on yX4_restart cX4_restart 1 (nrm 3) [.ref (ad o 0 0)] (wdo X o S) (fun X' => X' = wdo X o (oRestart S)) := by
  refine nM_of hI (by decide +kernel) (Nat.le_of_ble_eq_true rfl) ?_
  intro p e s m args below meth cd ls hc hr _ hP hl hS
  have hx := hc.1
  have hb := hc.2.1
  have hl : lv_has ls 1 [(0, .ref (ad o 0 0))] := hl
  refine lv_aload_n hx hb dX4_restart_0 rfl (lv_at hl 0 rfl) ?_
  refine g4_12 hc hP (nv_o hon ho (by decide) Nat.zero_lt_one) dX4_restart_1 ?_
  refine nc_Vv (c_X1_restart hI hon ho ) hc hP hS hl.1 gd4_53 (nrecv (q := (RX1, TX1, 4)) hc (npic_eta hP) (nv_o hon ho (by decide) Nat.zero_lt_one) rfl rfl) ⟨rfl, rfl⟩ nok_X1_restart rfl ⟨Nat.le_of_ble_eq_true rfl, Nat.le_of_ble_eq_true rfl⟩ ⟨Nat.le_of_ble_eq_true rfl, Nat.le_of_ble_eq_true rfl⟩ dX4_restart_4 rfl (Nat.le_of_ble_eq_true rfl) (fun X1 H locs hp hP hS => ?_)
  rw [hp] at hP
  refine lv_aload_n hx hb dX4_restart_7 rfl (lv_at hl 0 rfl) ?_
  refine g4_21 hc hP (nv_o hon ho (by decide) Nat.zero_lt_one) dX4_restart_8 ?_
  refine nc_Vv (c_X6_restart hI hon ho ) hc hP hS hl.1 gd4_54 (nrecv (q := (RX6, TX6, 4)) hc (npic_eta hP) (nv_o hon ho (by decide) Nat.zero_lt_one) rfl rfl) ⟨rfl, rfl⟩ nok_X6_restart rfl ⟨Nat.le_of_ble_eq_true rfl, Nat.le_of_ble_eq_true rfl⟩ ⟨Nat.le_of_ble_eq_true rfl, Nat.le_of_ble_eq_true rfl⟩ dX4_restart_11 rfl (Nat.le_of_ble_eq_true rfl) (fun X1 H locs hp hP hS => ?_)
  rw [hp] at hP
  refine lv_aload_n hx hb dX4_restart_14 rfl (lv_at hl 0 rfl) ?_
  refine g4_28 hc hP (nv_o hon ho (by decide) Nat.zero_lt_one) dX4_restart_15 ?_
  refine nc_Vv (c_X3_restart hI hon ho ) hc hP hS hl.1 gd4_55 (nrecv (q := (RX3, TX3, 3)) hc (npic_eta hP) (nv_o hon ho (by decide) Nat.zero_lt_one) rfl rfl) ⟨rfl, rfl⟩ nok_X3_restart rfl ⟨Nat.le_of_ble_eq_true rfl, Nat.le_of_ble_eq_true rfl⟩ ⟨Nat.le_of_ble_eq_true rfl, Nat.le_of_ble_eq_true rfl⟩ dX4_restart_18 rfl (Nat.le_of_ble_eq_true rfl) (fun X1 H locs hp hP hS => ?_)
  rw [hp] at hP
  refine lv_aload_n hx hb dX4_restart_21 rfl (lv_at hl 0 rfl) ?_
  refine lv_iconst (v := 0) hx hb dX4_restart_22 (by decide) ?_
  refine p4_56 hc hP hS (nv_o hon ho (by decide) Nat.zero_lt_one) dX4_restart_23 (fun H locs hP hS => ?_)
  refine lv_aload_n hx hb dX4_restart_26 rfl (lv_at hl 0 rfl) ?_
  refine lv_iconst (v := 0) hx hb dX4_restart_27 (by decide) ?_
  refine p4_60 hc hP hS (nv_o hon ho (by decide) Nat.zero_lt_one) dX4_restart_28 (fun H locs hP hS => ?_)
  refine lv_aload_n hx hb dX4_restart_31 rfl (lv_at hl 0 rfl) ?_
  refine lv_iconst (v := 0) hx hb dX4_restart_32 (by decide) ?_
  refine p4_63 hc hP hS (nv_o hon ho (by decide) Nat.zero_lt_one) dX4_restart_33 (fun H locs hP hS => ?_)
  exact ne_v hc hP hS hr dX4_restart_36 rfl
set_option maxHeartbeats 4000000 in
set_option maxRecDepth 100000 in
theorem c_X4_beginPaper (hI : ninj ad on) (hon : on o) (ho : o < 2) {a b c : Int32} (hk : vp_in (S 0 0 6) 12) : nMv l D dA ad on yX4_beginPaper cX4_beginPaper 4 (nrm 2) [.ref (ad o 0 0), .int a, .int b, .int c] (wdo X o S) (fun X' => X' = wdo X o (oBegin S a b c)) := by
  refine nM_of hI (by decide +kernel) (Nat.le_of_ble_eq_true rfl) ?_
  intro p e s m args below meth cd ls hc hr _ hP hl hS
  have hx := hc.1
  have hb := hc.2.1
  have hl : lv_has ls 4 [(0, .ref (ad o 0 0)), (1, .int a), (2, .int b), (3, .int c)] := hl
  refine lv_aload_n hx hb dX4_beginPaper_0 rfl (lv_at hl 0 rfl) ?_
  refine g4_34 hc hP (nv_o hon ho (by decide) Nat.zero_lt_one) dX4_beginPaper_1 ?_
  refine lv_aload_n hx hb dX4_beginPaper_4 rfl (lv_at hl 0 rfl) ?_
  refine g4_56 hc hP (nv_o hon ho (by decide) Nat.zero_lt_one) dX4_beginPaper_5 ?_
  refine ga_10 hc hP (nv_o hon ho (by decide) Nat.zero_lt_one) hk dX4_beginPaper_8 ?_
  refine lv_iload_n hx hb dX4_beginPaper_9 rfl (lv_at hl 1 rfl) ?_
  refine lv_iload_n hx hb dX4_beginPaper_10 rfl (lv_at hl 2 rfl) ?_
  refine lv_iload_n hx hb dX4_beginPaper_11 rfl (lv_at hl 3 rfl) ?_
  refine nc_Vv (c_X5_begin hI hon ho (vp_lt hk)) hc hP hS hl.1 gd4_138 (nrecv (q := (RX5, TX5, 10)) hc (npic_eta hP) (nv_o hon ho (by decide) (vp_lt hk)) rfl rfl) ⟨rfl, rfl⟩ nok_X5_begin rfl ⟨Nat.le_of_ble_eq_true rfl, Nat.le_of_ble_eq_true rfl⟩ ⟨Nat.le_of_ble_eq_true rfl, Nat.le_of_ble_eq_true rfl⟩ dX4_beginPaper_12 rfl (Nat.le_of_ble_eq_true rfl) (fun X1 H locs hp hP hS => ?_)
  rw [hp] at hP
  refine lv_aload_n hx hb dX4_beginPaper_15 rfl (lv_at hl 0 rfl) ?_
  refine lv_dup hx hb dX4_beginPaper_16 rfl ?_
  refine g4_56 hc hP (nv_o hon ho (by decide) Nat.zero_lt_one) dX4_beginPaper_17 ?_
  refine lv_iconst (v := 1) hx hb dX4_beginPaper_20 (by decide) ?_
  refine lv_iadd hx hb dX4_beginPaper_21 ?_
  refine p4_56 hc hP hS (nv_o hon ho (by decide) Nat.zero_lt_one) dX4_beginPaper_22 (fun H locs hP hS => ?_)
  exact ne_v hc hP hS hr dX4_beginPaper_25 rfl
set_option maxHeartbeats 4000000 in
set_option maxRecDepth 100000 in
theorem c_X4_beginSignature (hI : ninj ad on) (hon : on o) (ho : o < 2) {x v : Int32} (hk : vp_in (S 0 0 7) 150) (hx0 : vp_in x 12) (hv0 : vp_in v 40) : nMv l D dA ad on yX4_beginSignature cX4_beginSignature 5 (nrm 2) [.ref (ad o 0 0), .int x, .int v] (wdo X o S) (fun X' => X' = wdo X o (oSign S x v)) := by
  refine nM_of hI (by decide +kernel) (Nat.le_of_ble_eq_true rfl) ?_
  intro p e s m args below meth cd ls hc hr _ hP hl hS
  have hx := hc.1
  have hb := hc.2.1
  have hl : lv_has ls 5 [(0, .ref (ad o 0 0)), (1, .int x), (2, .int v)] := hl
  refine lv_aload_n hx hb dX4_beginSignature_0 rfl (lv_at hl 0 rfl) ?_
  refine g4_21 hc hP (nv_o hon ho (by decide) Nat.zero_lt_one) dX4_beginSignature_1 ?_
  refine g4_84 hc hP (nv_o hon ho (by decide) Nat.zero_lt_one) dX4_beginSignature_4 ?_
  refine lv_iload_n hx hb dX4_beginSignature_7 rfl (lv_at hl 2 rfl) ?_
  refine ga_5 hc hP (nv_o hon ho (by decide) Nat.zero_lt_one) hv0 dX4_beginSignature_8 ?_
  refine lv_astore_n (lv' := [(3, .ref _), (0, .ref _), (1, .int _), (2, .int _)]) hx hb dX4_beginSignature_9 rfl hl (by decide) rfl (fun ls hl => ?_)
  refine lv_aload_n hx hb dX4_beginSignature_10 rfl (lv_at hl 0 rfl) ?_
  refine g4_93 hc hP (nv_o hon ho (by decide) (vp_lt hv0)) dX4_beginSignature_11 ?_
  refine lv_if_eq (tgt := 37) hx hb dX4_beginSignature_14 (by decide) (fun c_14 => ?_) (fun c_14 => ?_)
  · refine lv_iconst (v := 0) hx hb dX4_beginSignature_37 (by decide) ?_
    refine lv_istore (lv' := [(4, .int _), (3, .ref _), (0, .ref _), (1, .int _), (2, .int _)]) hx hb dX4_beginSignature_38 hl (by decide) rfl (fun ls hl => ?_)
    refine lv_aload_n hx hb dX4_beginSignature_40 rfl (lv_at hl 2 rfl) ?_
    refine g4_40 hc hP (nv_o hon ho (by decide) Nat.zero_lt_one) dX4_beginSignature_41 ?_
    refine lv_aload_n hx hb dX4_beginSignature_44 rfl (lv_at hl 2 rfl) ?_
    refine g4_60 hc hP (nv_o hon ho (by decide) Nat.zero_lt_one) dX4_beginSignature_45 ?_
    refine ga_12 hc hP (nv_o hon ho (by decide) Nat.zero_lt_one) hk dX4_beginSignature_48 ?_
    refine lv_iload_n hx hb dX4_beginSignature_49 rfl (lv_at hl 3 rfl) ?_
    refine lv_iload_n hx hb dX4_beginSignature_50 rfl (lv_at hl 4 rfl) ?_
    refine lv_iload hx hb dX4_beginSignature_51 (lv_at hl 0 rfl) ?_
    refine lv_aload_n hx hb dX4_beginSignature_53 rfl (lv_at hl 1 rfl) ?_
    refine g4_142 hc hP (nv_o hon ho (by decide) (vp_lt hv0)) dX4_beginSignature_54 ?_
    refine nc_Vv (c_X7_begin hI hon ho (vp_lt hk) (by first | exact nb_01 _ | exact Or.inl rfl | exact Or.inr rfl)) hc hP hS hl.1 gd4_145 (nrecv (q := (RX7, TX7, 5)) hc (npic_eta hP) (nv_o hon ho (by decide) (vp_lt hk)) rfl rfl) ⟨rfl, rfl⟩ nok_X7_begin rfl ⟨Nat.le_of_ble_eq_true rfl, Nat.le_of_ble_eq_true rfl⟩ ⟨Nat.le_of_ble_eq_true rfl, Nat.le_of_ble_eq_true rfl⟩ dX4_beginSignature_57 rfl (Nat.le_of_ble_eq_true rfl) (fun X1 H locs hp hP hS => ?_)
    rw [hp] at hP
    refine lv_aload_n hx hb dX4_beginSignature_60 rfl (lv_at hl 2 rfl) ?_
    refine lv_dup hx hb dX4_beginSignature_61 rfl ?_
    refine g4_60 hc hP (nv_o hon ho (by decide) Nat.zero_lt_one) dX4_beginSignature_62 ?_
    refine lv_iconst (v := 1) hx hb dX4_beginSignature_65 (by decide) ?_
    refine lv_iadd hx hb dX4_beginSignature_66 ?_
    refine p4_60 hc hP hS (nv_o hon ho (by decide) Nat.zero_lt_one) dX4_beginSignature_67 (fun H locs hP hS => ?_)
    refine lv_iload hx hb dX4_beginSignature_70 (lv_at hl 0 rfl) ?_
    refine lv_if_eq (tgt := 87) hx hb dX4_beginSignature_72 (by decide) (fun _ => ?_) (fun c => absurd (by decide) c)
    exact ne_v hc hP hS hr dX4_beginSignature_87 (by have h9 : oLocal S x v = false := (by clear hP hS hl hc hx hb hr; simp_all [oLocal]); show _ = _; rw [oSign, if_neg (by rw [h9]; decide)]; unfold oSig1; rw [h9]; rfl)
  · refine lv_aload_n hx hb dX4_beginSignature_17 rfl (lv_at hl 0 rfl) ?_
    refine g4_88 hc hP (nv_o hon ho (by decide) (vp_lt hv0)) dX4_beginSignature_18 ?_
    refine lv_aload_n hx hb dX4_beginSignature_21 rfl (lv_at hl 1 rfl) ?_
    refine g4_34 hc hP (nv_o hon ho (by decide) Nat.zero_lt_one) dX4_beginSignature_22 ?_
    refine lv_iload_n hx hb dX4_beginSignature_25 rfl (lv_at hl 2 rfl) ?_
    refine ga_10 hc hP (nv_o hon ho (by decide) Nat.zero_lt_one) hx0 dX4_beginSignature_26 ?_
    refine g4_141 hc hP (nv_o hon ho (by decide) (vp_lt hx0)) dX4_beginSignature_27 ?_
    refine lv_icmp_ne (tgt := 37) hx hb dX4_beginSignature_30 (by decide) (fun c_30 => ?_) (fun c_30 => ?_)
    · refine lv_iconst (v := 0) hx hb dX4_beginSignature_37 (by decide) ?_
      refine lv_istore (lv' := [(4, .int _), (3, .ref _), (0, .ref _), (1, .int _), (2, .int _)]) hx hb dX4_beginSignature_38 hl (by decide) rfl (fun ls hl => ?_)
      refine lv_aload_n hx hb dX4_beginSignature_40 rfl (lv_at hl 2 rfl) ?_
      refine g4_40 hc hP (nv_o hon ho (by decide) Nat.zero_lt_one) dX4_beginSignature_41 ?_
      refine lv_aload_n hx hb dX4_beginSignature_44 rfl (lv_at hl 2 rfl) ?_
      refine g4_60 hc hP (nv_o hon ho (by decide) Nat.zero_lt_one) dX4_beginSignature_45 ?_
      refine ga_12 hc hP (nv_o hon ho (by decide) Nat.zero_lt_one) hk dX4_beginSignature_48 ?_
      refine lv_iload_n hx hb dX4_beginSignature_49 rfl (lv_at hl 3 rfl) ?_
      refine lv_iload_n hx hb dX4_beginSignature_50 rfl (lv_at hl 4 rfl) ?_
      refine lv_iload hx hb dX4_beginSignature_51 (lv_at hl 0 rfl) ?_
      refine lv_aload_n hx hb dX4_beginSignature_53 rfl (lv_at hl 1 rfl) ?_
      refine g4_142 hc hP (nv_o hon ho (by decide) (vp_lt hv0)) dX4_beginSignature_54 ?_
      refine nc_Vv (c_X7_begin hI hon ho (vp_lt hk) (by first | exact nb_01 _ | exact Or.inl rfl | exact Or.inr rfl)) hc hP hS hl.1 gd4_145 (nrecv (q := (RX7, TX7, 5)) hc (npic_eta hP) (nv_o hon ho (by decide) (vp_lt hk)) rfl rfl) ⟨rfl, rfl⟩ nok_X7_begin rfl ⟨Nat.le_of_ble_eq_true rfl, Nat.le_of_ble_eq_true rfl⟩ ⟨Nat.le_of_ble_eq_true rfl, Nat.le_of_ble_eq_true rfl⟩ dX4_beginSignature_57 rfl (Nat.le_of_ble_eq_true rfl) (fun X1 H locs hp hP hS => ?_)
      rw [hp] at hP
      refine lv_aload_n hx hb dX4_beginSignature_60 rfl (lv_at hl 2 rfl) ?_
      refine lv_dup hx hb dX4_beginSignature_61 rfl ?_
      refine g4_60 hc hP (nv_o hon ho (by decide) Nat.zero_lt_one) dX4_beginSignature_62 ?_
      refine lv_iconst (v := 1) hx hb dX4_beginSignature_65 (by decide) ?_
      refine lv_iadd hx hb dX4_beginSignature_66 ?_
      refine p4_60 hc hP hS (nv_o hon ho (by decide) Nat.zero_lt_one) dX4_beginSignature_67 (fun H locs hP hS => ?_)
      refine lv_iload hx hb dX4_beginSignature_70 (lv_at hl 0 rfl) ?_
      refine lv_if_eq (tgt := 87) hx hb dX4_beginSignature_72 (by decide) (fun _ => ?_) (fun c => absurd (by decide) c)
      exact ne_v hc hP hS hr dX4_beginSignature_87 (by have h9 : oLocal S x v = false := (by clear hP hS hl hc hx hb hr; simp_all [oLocal]); show _ = _; rw [oSign, if_neg (by rw [h9]; decide)]; unfold oSig1; rw [h9]; rfl)
    · refine lv_iconst (v := 1) hx hb dX4_beginSignature_33 (by decide) ?_
      refine lv_goto (tgt := 38) hx hb dX4_beginSignature_34 (by decide) ?_
      refine lv_istore (lv' := [(4, .int _), (3, .ref _), (0, .ref _), (1, .int _), (2, .int _)]) hx hb dX4_beginSignature_38 hl (by decide) rfl (fun ls hl => ?_)
      refine lv_aload_n hx hb dX4_beginSignature_40 rfl (lv_at hl 2 rfl) ?_
      refine g4_40 hc hP (nv_o hon ho (by decide) Nat.zero_lt_one) dX4_beginSignature_41 ?_
      refine lv_aload_n hx hb dX4_beginSignature_44 rfl (lv_at hl 2 rfl) ?_
      refine g4_60 hc hP (nv_o hon ho (by decide) Nat.zero_lt_one) dX4_beginSignature_45 ?_
      refine ga_12 hc hP (nv_o hon ho (by decide) Nat.zero_lt_one) hk dX4_beginSignature_48 ?_
      refine lv_iload_n hx hb dX4_beginSignature_49 rfl (lv_at hl 3 rfl) ?_
      refine lv_iload_n hx hb dX4_beginSignature_50 rfl (lv_at hl 4 rfl) ?_
      refine lv_iload hx hb dX4_beginSignature_51 (lv_at hl 0 rfl) ?_
      refine lv_aload_n hx hb dX4_beginSignature_53 rfl (lv_at hl 1 rfl) ?_
      refine g4_142 hc hP (nv_o hon ho (by decide) (vp_lt hv0)) dX4_beginSignature_54 ?_
      refine nc_Vv (c_X7_begin hI hon ho (vp_lt hk) (by first | exact nb_01 _ | exact Or.inl rfl | exact Or.inr rfl)) hc hP hS hl.1 gd4_145 (nrecv (q := (RX7, TX7, 5)) hc (npic_eta hP) (nv_o hon ho (by decide) (vp_lt hk)) rfl rfl) ⟨rfl, rfl⟩ nok_X7_begin rfl ⟨Nat.le_of_ble_eq_true rfl, Nat.le_of_ble_eq_true rfl⟩ ⟨Nat.le_of_ble_eq_true rfl, Nat.le_of_ble_eq_true rfl⟩ dX4_beginSignature_57 rfl (Nat.le_of_ble_eq_true rfl) (fun X1 H locs hp hP hS => ?_)
      rw [hp] at hP
      refine lv_aload_n hx hb dX4_beginSignature_60 rfl (lv_at hl 2 rfl) ?_
      refine lv_dup hx hb dX4_beginSignature_61 rfl ?_
      refine g4_60 hc hP (nv_o hon ho (by decide) Nat.zero_lt_one) dX4_beginSignature_62 ?_
      refine lv_iconst (v := 1) hx hb dX4_beginSignature_65 (by decide) ?_
      refine lv_iadd hx hb dX4_beginSignature_66 ?_
      refine p4_60 hc hP hS (nv_o hon ho (by decide) Nat.zero_lt_one) dX4_beginSignature_67 (fun H locs hP hS => ?_)
      refine lv_iload hx hb dX4_beginSignature_70 (lv_at hl 0 rfl) ?_
      refine lv_if_eq (tgt := 87) hx hb dX4_beginSignature_72 (by decide) (fun c => absurd c (by decide)) (fun _ => ?_)
      refine lv_aload_n hx hb dX4_beginSignature_75 rfl (lv_at hl 1 rfl) ?_
      refine lv_dup hx hb dX4_beginSignature_76 rfl ?_
      refine g4_142 hc hP (nv_o hon ho (by decide) (vp_lt hv0)) dX4_beginSignature_77 ?_
      refine lv_iconst (v := 1) hx hb dX4_beginSignature_80 (by decide) ?_
      refine lv_iload_n hx hb dX4_beginSignature_81 rfl (lv_at hl 3 rfl) ?_
      refine lv_ishl hx hb dX4_beginSignature_82 ?_
      refine lv_ior hx hb dX4_beginSignature_83 ?_
      refine p4_142 hc hP hS (nv_o hon ho (by decide) (vp_lt hv0)) dX4_beginSignature_84 (fun H locs hP hS => ?_)
      exact ne_v hc hP hS hr dX4_beginSignature_87 (by have h9 : oLocal S x v = true := (by clear hP hS hl hc hx hb hr; simp_all [oLocal]); show _ = _; rw [oSign, if_pos (by rw [h9])]; unfold oSig1; rw [h9]; rfl)
set_option maxHeartbeats 4000000 in
set_option maxRecDepth 100000 in
theorem c_X3_shuffle (hI : ninj ad on) (hon : on o) (ho : o < 2) {f : Int32} : nMv l D dA ad on yX3_shuffle cX3_shuffle 4 (nrm 2) [.ref (ad o 7 0), .int f] (wdo X o S) (fun X' => X' = wdo X o (oShuf S f)) := by
  refine nM_of hI (by decide +kernel) (Nat.le_of_ble_eq_true rfl) ?_
  intro p e s m args below meth cd ls hc hr _ hP hl hS
  have hx := hc.1
  have hb := hc.2.1
  have hl : lv_has ls 4 [(0, .ref (ad o 7 0)), (1, .int f)] := hl
  have hgood : lGood (shf2 25 f (shf1 S 26)) 26 := shf2_good 25 f _ (Nat.le_refl 25) (shf1_good S 26 (Nat.le_refl 26))
  have lp65 : ∀ (r j : Nat) , j + r = 26 → ∀ (H : Heap) (locs : List Loc) (ls : Array Slot), npic D dA ad on (wdo X o (shf3 (shf2 25 f (shf1 S 26)) j)) H → va_S (nA ad on) s.heap H locs → lv_has ls 4 [(3, .int (nI j)), (0, .ref (ad o 7 0))] → W p l e (nrm 2) s m args below meth cd H locs 0 0 (MQ below (va_Qv (fun X' => X' = wdo X o (oShuf S f)) (fun X' t => npic D dA ad on X' t.heap) (nA ad on)) args s 0 0 (nA ad on)) (F0 m 65 ls []) := by
    intro r
    induction r with
    | zero =>
      intro j  hj  H locs ls hP hS hl
      have hjn : j = 26 := by omega
      rw [hjn] at hP
      refine lv_iload_n hx hb dX3_shuffle_65 rfl (lv_at hl 0 rfl) ?_
      refine lv_bipush (v := 26) hx hb dX3_shuffle_66 (by decide) ?_
      refine lv_icmp_ge (tgt := 92) hx hb dX3_shuffle_68 (by decide) (fun c_68 => ?_) (fun c_68 => absurd (lp_le (show (26 : Int32) = nI 26 from rfl) hjn) c_68)
      refine lv_aload_n hx hb dX3_shuffle_92 rfl (lv_at hl 1 rfl) ?_
      refine lv_iconst (v := 1) hx hb dX3_shuffle_93 (by decide) ?_
      refine p3_19 hc hP hS (nv_o hon ho (by decide) Nat.zero_lt_one) (Or.inr rfl) dX3_shuffle_94 (fun H locs hP hS => ?_)
      exact ne_v hc hP hS hr dX3_shuffle_97 rfl
    | succ r ih =>
      intro j  hj  H locs ls hP hS hl
      have hjn : j < 26 := by omega
      have ej : nix (nI j) = j := nI_clamp (by omega)
      have hjv : vp_in (nI j) 26 := vp_in_nI hjn (by decide)
      have hlt : vp_in ((shf3 (shf2 25 f (shf1 S 26)) j) 8 0 (nix (nI j)) - 97) 26 := by rw [shf3_ne _ _ _ _ _ (by decide), ej]; exact cSmall_in (hgood j hjn)
      refine lv_iload_n hx hb dX3_shuffle_65 rfl (lv_at hl 0 rfl) ?_
      refine lv_bipush (v := 26) hx hb dX3_shuffle_66 (by decide) ?_
      refine lv_icmp_ge (tgt := 92) hx hb dX3_shuffle_68 (by decide) (fun c_68 => absurd c_68 (lp_gt (show (26 : Int32) = nI 26 from rfl) hjn (by decide))) (fun c_68 => ?_)
      refine lv_aload_n hx hb dX3_shuffle_71 rfl (lv_at hl 1 rfl) ?_
      refine g3_15 hc hP (nv_o hon ho (by decide) Nat.zero_lt_one) dX3_shuffle_72 ?_
      refine lv_aload_n hx hb dX3_shuffle_75 rfl (lv_at hl 1 rfl) ?_
      refine g3_9 hc hP (nv_o hon ho (by decide) Nat.zero_lt_one) dX3_shuffle_76 ?_
      refine lv_iload_n hx hb dX3_shuffle_79 rfl (lv_at hl 0 rfl) ?_
      refine la_8 hc hP (nv_o hon ho (by decide) Nat.zero_lt_one) hjv dX3_shuffle_80 ?_
      refine lv_bipush (v := 97) hx hb dX3_shuffle_81 (by decide) ?_
      refine lv_isub hx hb dX3_shuffle_83 ?_
      refine lv_iload_n hx hb dX3_shuffle_84 rfl (lv_at hl 0 rfl) ?_
      refine sa_9 hc hP hS (nv_o hon ho (by decide) Nat.zero_lt_one) hlt dX3_shuffle_85 (fun H locs hP hS => ?_)
      refine lv_iinc (v := nI (j + 1)) (lv' := [(3, .int _), (0, .ref _)]) hx hb dX3_shuffle_86 hl (k := 0) rfl (nI_inc j) (by decide) rfl (fun ls hl => ?_)
      refine lv_goto (tgt := 65) hx hb dX3_shuffle_89 (by decide) ?_
      exact ih (j + 1) (by omega) _ _ _ (by rw [ej] at hP; exact hP) hS (lv_sub hl [0, 1] rfl)
  have lp30 : ∀ (r : Nat) (st : Int32) (U : NSt), r ≤ 25 → shf2 r st U = (shf2 25 f (shf1 S 26)) → ∀ (H : Heap) (locs : List Loc) (ls : Array Slot), npic D dA ad on (wdo X o U) H → va_S (nA ad on) s.heap H locs → lv_has ls 4 [(3, .int (nI r)), (2, .int st), (0, .ref (ad o 7 0))] → W p l e (nrm 2) s m args below meth cd H locs 0 0 (MQ below (va_Qv (fun X' => X' = wdo X o (oShuf S f)) (fun X' t => npic D dA ad on X' t.heap) (nA ad on)) args s 0 0 (nA ad on)) (F0 m 30 ls []) := by
    intro r
    induction r with
    | zero =>
      intro st U h25 hU H locs ls hP hS hl
      have hU : U = (shf2 25 f (shf1 S 26)) := hU
      rw [hU] at hP
      refine lv_iload_n hx hb dX3_shuffle_30 rfl (lv_at hl 0 rfl) ?_
      refine lv_iconst (v := 1) hx hb dX3_shuffle_31 (by decide) ?_
      refine lv_icmp_lt (tgt := 63) hx hb dX3_shuffle_32 (by decide) (fun c_32 => ?_) (fun c_32 => absurd (by decide) c_32)
      refine lv_iconst (v := nI 0) hx hb dX3_shuffle_63 (by decide) ?_
      refine lv_istore_n (lv' := [(3, .int _), (2, .int _), (0, .ref _)]) hx hb dX3_shuffle_64 rfl hl (by decide) rfl (fun ls hl => ?_)
      exact lp65 _ 0 (Nat.zero_add _) _ _ _ hP hS (lv_sub hl [0, 2] rfl)
    | succ r ih =>
      intro st U h25 hU H locs ls hP hS hl
      have hd0 : ¬ nI (r + 1) + 1 = 0 := by rw [nI_1]; exact nI_ne0 (by omega) (by omega)
      have ha : vp_in (irm (us (st * 1103515245 + 12345) 8) (nI (r + 1) + 1)) 26 := vp_mono (irm_in _ (by omega)) (by omega)
      have hb2 : vp_in (nI (r + 1)) 26 := vp_in_nI (by omega) (by decide)
      refine lv_iload_n hx hb dX3_shuffle_30 rfl (lv_at hl 0 rfl) ?_
      refine lv_iconst (v := 1) hx hb dX3_shuffle_31 (by decide) ?_
      refine lv_icmp_lt (tgt := 63) hx hb dX3_shuffle_32 (by decide) (fun c_32 => absurd c_32 (show ¬ nI (r + 1) < (1 : Int32) from nI_nlt (a := r + 1) (b := 1) (by omega) (by omega))) (fun c_32 => ?_)
      refine lv_iload_n hx hb dX3_shuffle_35 rfl (lv_at hl 1 rfl) ?_
      refine lv_ldc hx hb hc.2.2.2.1 (hc.2.2.2.2.1 _ q531) dX3_shuffle_36 ?_
      refine lv_imul hx hb dX3_shuffle_38 ?_
      refine lv_sipush (v := 12345) hx hb dX3_shuffle_39 (by decide) ?_
      refine lv_iadd hx hb dX3_shuffle_42 ?_
      refine lv_istore_n (lv' := [(2, .int _), (3, .int _), (0, .ref _)]) hx hb dX3_shuffle_43 rfl hl (by decide) rfl (fun ls hl => ?_)
      refine lv_aload_n hx hb dX3_shuffle_44 rfl (lv_at hl 2 rfl) ?_
      refine lv_iload_n hx hb dX3_shuffle_45 rfl (lv_at hl 0 rfl) ?_
      refine lv_bipush (v := 8) hx hb dX3_shuffle_46 (by decide) ?_
      refine lv_iushr (v := _) hx hb dX3_shuffle_48 rfl ?_
      refine lv_iload_n hx hb dX3_shuffle_49 rfl (lv_at hl 1 rfl) ?_
      refine lv_iconst (v := 1) hx hb dX3_shuffle_50 (by decide) ?_
      refine lv_iadd hx hb dX3_shuffle_51 ?_
      refine lv_irem hx hb dX3_shuffle_52 hd0 ?_
      refine lv_iload_n hx hb dX3_shuffle_53 rfl (lv_at hl 1 rfl) ?_
      refine nc_Vv (c_X3_exchange hI hon ho ha hb2) hc hP hS hl.1 gd3_24 (nrecv (q := (RX3, TX3, 3)) hc (npic_eta hP) (nv_o hon ho (by decide) Nat.zero_lt_one) rfl rfl) ⟨rfl, rfl⟩ nok_X3_exchange rfl ⟨Nat.le_of_ble_eq_true rfl, Nat.le_of_ble_eq_true rfl⟩ ⟨Nat.le_of_ble_eq_true rfl, Nat.le_of_ble_eq_true rfl⟩ dX3_shuffle_54 rfl (Nat.le_of_ble_eq_true rfl) (fun X1 H locs hp hP hS => ?_)
      rw [hp] at hP
      refine lv_iinc (v := nI r) (lv' := [(3, .int _), (2, .int _), (0, .ref _)]) hx hb dX3_shuffle_57 hl (k := 1) rfl (nI_dec r) (by decide) rfl (fun ls hl => ?_)
      refine lv_goto (tgt := 30) hx hb dX3_shuffle_60 (by decide) ?_
      exact ih _ _ (by omega) hU _ _ _ hP hS (lv_sub hl [0, 1, 2] rfl)
  have lp2 : ∀ (r j : Nat) , j + r = 26 → ∀ (H : Heap) (locs : List Loc) (ls : Array Slot), npic D dA ad on (wdo X o (shf1 S j)) H → va_S (nA ad on) s.heap H locs → lv_has ls 4 [(2, .int (nI j)), (1, .int f), (0, .ref (ad o 7 0))] → W p l e (nrm 2) s m args below meth cd H locs 0 0 (MQ below (va_Qv (fun X' => X' = wdo X o (oShuf S f)) (fun X' t => npic D dA ad on X' t.heap) (nA ad on)) args s 0 0 (nA ad on)) (F0 m 2 ls []) := by
    intro r
    induction r with
    | zero =>
      intro j  hj  H locs ls hP hS hl
      have hjn : j = 26 := by omega
      rw [hjn] at hP
      refine lv_iload_n hx hb dX3_shuffle_2 rfl (lv_at hl 0 rfl) ?_
      refine lv_bipush (v := 26) hx hb dX3_shuffle_3 (by decide) ?_
      refine lv_icmp_ge (tgt := 25) hx hb dX3_shuffle_5 (by decide) (fun c_5 => ?_) (fun c_5 => absurd (lp_le (show (26 : Int32) = nI 26 from rfl) hjn) c_5)
      refine lv_iload_n hx hb dX3_shuffle_25 rfl (lv_at hl 1 rfl) ?_
      refine lv_istore_n (lv' := [(2, .int _), (1, .int _), (0, .ref _)]) hx hb dX3_shuffle_26 rfl hl (by decide) rfl (fun ls hl => ?_)
      refine lv_bipush (v := nI 25) hx hb dX3_shuffle_27 (by decide) ?_
      refine lv_istore_n (lv' := [(3, .int _), (2, .int _), (1, .int _), (0, .ref _)]) hx hb dX3_shuffle_29 rfl hl (by decide) rfl (fun ls hl => ?_)
      exact lp30 25 f _ (Nat.le_refl 25) rfl _ _ _ hP hS (lv_sub hl [0, 1, 3] rfl)
    | succ r ih =>
      intro j  hj  H locs ls hP hS hl
      have hjn : j < 26 := by omega
      have ej : nix (nI j) = j := nI_clamp (by omega)
      have hjv : vp_in (nI j) 26 := vp_in_nI hjn (by decide)
      refine lv_iload_n hx hb dX3_shuffle_2 rfl (lv_at hl 0 rfl) ?_
      refine lv_bipush (v := 26) hx hb dX3_shuffle_3 (by decide) ?_
      refine lv_icmp_ge (tgt := 25) hx hb dX3_shuffle_5 (by decide) (fun c_5 => absurd c_5 (lp_gt (show (26 : Int32) = nI 26 from rfl) hjn (by decide))) (fun c_5 => ?_)
      refine lv_aload_n hx hb dX3_shuffle_8 rfl (lv_at hl 2 rfl) ?_
      refine g3_9 hc hP (nv_o hon ho (by decide) Nat.zero_lt_one) dX3_shuffle_9 ?_
      refine lv_iload_n hx hb dX3_shuffle_12 rfl (lv_at hl 0 rfl) ?_
      refine lv_bipush (v := 97) hx hb dX3_shuffle_13 (by decide) ?_
      refine lv_iload_n hx hb dX3_shuffle_15 rfl (lv_at hl 0 rfl) ?_
      refine lv_iadd hx hb dX3_shuffle_16 ?_
      refine lv_i2c (v := _) hx hb dX3_shuffle_17 rfl ?_
      refine sa_8 hc hP hS (nv_o hon ho (by decide) Nat.zero_lt_one) hjv dX3_shuffle_18 (fun H locs hP hS => ?_)
      refine lv_iinc (v := nI (j + 1)) (lv' := [(2, .int _), (1, .int _), (0, .ref _)]) hx hb dX3_shuffle_19 hl (k := 0) rfl (nI_inc j) (by decide) rfl (fun ls hl => ?_)
      refine lv_goto (tgt := 2) hx hb dX3_shuffle_22 (by decide) ?_
      exact ih (j + 1) (by omega) _ _ _ (by rw [ej] at hP; exact hP) hS (lv_sub hl [0, 1, 2] rfl)
  refine lv_iconst (v := nI 0) hx hb dX3_shuffle_0 (by decide) ?_
  refine lv_istore_n (lv' := [(2, .int _), (0, .ref _), (1, .int _)]) hx hb dX3_shuffle_1 rfl hl (by decide) rfl (fun ls hl => ?_)
  exact lp2 _ 0 (Nat.zero_add _) _ _ _ hP hS (lv_sub hl [0, 2, 1] rfl)
set_option maxHeartbeats 4000000 in
set_option maxRecDepth 100000 in
theorem c_X4_happenToPaper (hI : ninj ad on) (hon : on o) (ho : o < 2) {x f z t : Int32} (hnd : oNeed S x f z) (hpk : x = 7 ∨ x = 8 ∨ x = 9 ∨ x = 10 ∨ x = 11 ∨ x = 12 ∨ x = 14) : nMv l D dA ad on yX4_happenToPaper cX4_happenToPaper 5 (nrm 4) [.ref (ad o 0 0), .int x, .int f, .int z, .int t] (wdo X o S) (fun X' => X' = wdo X o (oHap S x f z t)) := by
  refine nM_of hI (by decide +kernel) (Nat.le_of_ble_eq_true rfl) ?_
  intro p e s m args below meth cd ls hc hr _ hP hl hS
  have hx := hc.1
  have hb := hc.2.1
  have hl : lv_has ls 5 [(0, .ref (ad o 0 0)), (1, .int x), (2, .int f), (3, .int z), (4, .int t)] := hl
  obtain ⟨h16, n1, n2, n3, n4, n7, n8, n9, n15⟩ := hnd
  rcases hpk with rfl | rfl | rfl | rfl | rfl | rfl | rfl
  · refine lv_iload_n hx hb dX4_happenToPaper_0 rfl (lv_at hl 1 rfl) ?_
    refine lv_tableIn (off := 47) (tgt := 48) hx hb dX4_happenToPaper_1 (by decide) (by decide) (by decide) (by decide) ?_
    refine lv_aload_n hx hb dX4_happenToPaper_48 rfl (lv_at hl 0 rfl) ?_
    refine lv_iload_n hx hb dX4_happenToPaper_49 rfl (lv_at hl 2 rfl) ?_
    refine lv_iload_n hx hb dX4_happenToPaper_50 rfl (lv_at hl 3 rfl) ?_
    refine lv_iload hx hb dX4_happenToPaper_51 (lv_at hl 4 rfl) ?_
    refine nc_Vv (c_X4_beginPaper hI hon ho (n7 (by decide))) hc hP hS hl.1 gd4_113 (nrecv (q := (RX4, TX4, 9)) hc (npic_eta hP) (nv_o hon ho (by decide) Nat.zero_lt_one) rfl rfl) ⟨rfl, rfl⟩ nok_X4_beginPaper rfl ⟨Nat.le_of_ble_eq_true rfl, Nat.le_of_ble_eq_true rfl⟩ ⟨Nat.le_of_ble_eq_true rfl, Nat.le_of_ble_eq_true rfl⟩ dX4_happenToPaper_53 rfl (Nat.le_of_ble_eq_true rfl) (fun X1 H locs hp hP hS => ?_)
    rw [hp] at hP
    refine lv_goto (tgt := 169) hx hb dX4_happenToPaper_56 (by decide) ?_
    exact ne_v hc hP hS hr dX4_happenToPaper_169 rfl
  · refine lv_iload_n hx hb dX4_happenToPaper_0 rfl (lv_at hl 1 rfl) ?_
    refine lv_tableIn (off := 58) (tgt := 59) hx hb dX4_happenToPaper_1 (by decide) (by decide) (by decide) (by decide) ?_
    refine lv_aload_n hx hb dX4_happenToPaper_59 rfl (lv_at hl 0 rfl) ?_
    refine lv_iload_n hx hb dX4_happenToPaper_60 rfl (lv_at hl 2 rfl) ?_
    refine lv_iload_n hx hb dX4_happenToPaper_61 rfl (lv_at hl 3 rfl) ?_
    refine nc_Vv (c_X4_beginSignature hI hon ho (n8 (by decide)).1 (n8 (by decide)).2.1 (n8 (by decide)).2.2) hc hP hS hl.1 gd4_116 (nrecv (q := (RX4, TX4, 9)) hc (npic_eta hP) (nv_o hon ho (by decide) Nat.zero_lt_one) rfl rfl) ⟨rfl, rfl⟩ nok_X4_beginSignature rfl ⟨Nat.le_of_ble_eq_true rfl, Nat.le_of_ble_eq_true rfl⟩ ⟨Nat.le_of_ble_eq_true rfl, Nat.le_of_ble_eq_true rfl⟩ dX4_happenToPaper_62 rfl (Nat.le_of_ble_eq_true rfl) (fun X1 H locs hp hP hS => ?_)
    rw [hp] at hP
    refine lv_goto (tgt := 169) hx hb dX4_happenToPaper_65 (by decide) ?_
    exact ne_v hc hP hS hr dX4_happenToPaper_169 rfl
  · refine lv_iload_n hx hb dX4_happenToPaper_0 rfl (lv_at hl 1 rfl) ?_
    refine lv_tableIn (off := 67) (tgt := 68) hx hb dX4_happenToPaper_1 (by decide) (by decide) (by decide) (by decide) ?_
    refine lv_aload_n hx hb dX4_happenToPaper_68 rfl (lv_at hl 0 rfl) ?_
    refine g4_34 hc hP (nv_o hon ho (by decide) Nat.zero_lt_one) dX4_happenToPaper_69 ?_
    refine lv_iload_n hx hb dX4_happenToPaper_72 rfl (lv_at hl 2 rfl) ?_
    refine ga_10 hc hP (nv_o hon ho (by decide) Nat.zero_lt_one) (n9 (by decide)) dX4_happenToPaper_73 ?_
    refine lv_dup hx hb dX4_happenToPaper_74 rfl ?_
    refine g4_119 hc hP (nv_o hon ho (by decide) (vp_lt (n9 (by decide)))) dX4_happenToPaper_75 ?_
    refine lv_iload_n hx hb dX4_happenToPaper_78 rfl (lv_at hl 3 rfl) ?_
    refine lv_iadd hx hb dX4_happenToPaper_79 ?_
    refine p4_119 hc hP hS (nv_o hon ho (by decide) (vp_lt (n9 (by decide)))) dX4_happenToPaper_80 (fun H locs hP hS => ?_)
    refine lv_goto (tgt := 169) hx hb dX4_happenToPaper_83 (by decide) ?_
    exact ne_v hc hP hS hr dX4_happenToPaper_169 rfl
  · refine lv_iload_n hx hb dX4_happenToPaper_0 rfl (lv_at hl 1 rfl) ?_
    refine lv_tableIn (off := 85) (tgt := 86) hx hb dX4_happenToPaper_1 (by decide) (by decide) (by decide) (by decide) ?_
    refine lv_aload_n hx hb dX4_happenToPaper_86 rfl (lv_at hl 0 rfl) ?_
    refine lv_dup hx hb dX4_happenToPaper_87 rfl ?_
    refine g4_63 hc hP (nv_o hon ho (by decide) Nat.zero_lt_one) dX4_happenToPaper_88 ?_
    refine lv_iconst (v := 1) hx hb dX4_happenToPaper_91 (by decide) ?_
    refine lv_iload_n hx hb dX4_happenToPaper_92 rfl (lv_at hl 2 rfl) ?_
    refine lv_ishl hx hb dX4_happenToPaper_93 ?_
    refine lv_ior hx hb dX4_happenToPaper_94 ?_
    refine p4_63 hc hP hS (nv_o hon ho (by decide) Nat.zero_lt_one) dX4_happenToPaper_95 (fun H locs hP hS => ?_)
    refine lv_aload_n hx hb dX4_happenToPaper_98 rfl (lv_at hl 0 rfl) ?_
    refine g4_34 hc hP (nv_o hon ho (by decide) Nat.zero_lt_one) dX4_happenToPaper_99 ?_
    refine lv_iload_n hx hb dX4_happenToPaper_102 rfl (lv_at hl 2 rfl) ?_
    refine ga_10 hc hP (nv_o hon ho (by decide) Nat.zero_lt_one) (n9 (by decide)) dX4_happenToPaper_103 ?_
    refine lv_aload_n hx hb dX4_happenToPaper_104 rfl (lv_at hl 0 rfl) ?_
    refine g4_12 hc hP (nv_o hon ho (by decide) Nat.zero_lt_one) dX4_happenToPaper_105 ?_
    refine nc_Vi (c_X1_isBeforeClose hI hon ho ) hc hP hS hl.1 gd4_122 (nrecv (q := (RX1, TX1, 4)) hc (npic_eta hP) (nv_o hon ho (by decide) Nat.zero_lt_one) rfl rfl) ⟨rfl, rfl⟩ nok_X1_isBeforeClose rfl ⟨Nat.le_of_ble_eq_true rfl, Nat.le_of_ble_eq_true rfl⟩ ⟨Nat.le_of_ble_eq_true rfl, Nat.le_of_ble_eq_true rfl⟩ dX4_happenToPaper_108 rfl (Nat.le_of_ble_eq_true rfl) (fun r X1 H locs hp hP hS => ?_)
    obtain ⟨hr9, hX9⟩ := hp
    rw [hX9] at hP
    subst hr9
    refine lv_if_ne (tgt := 118) hx hb dX4_happenToPaper_111 (by decide) (fun c_111 => ?_) (fun c_111 => ?_)
    · refine lv_iconst (v := 0) hx hb dX4_happenToPaper_118 (by decide) ?_
      refine p4_126 hc hP hS (nv_o hon ho (by decide) (vp_lt (n9 (by decide)))) (Or.inl rfl) dX4_happenToPaper_119 (fun H locs hP hS => ?_)
      refine lv_goto (tgt := 169) hx hb dX4_happenToPaper_122 (by decide) ?_
      exact ne_v hc hP hS hr dX4_happenToPaper_169 (by show _ = _; show wdo X o _ = wdo X o (oWd S f); unfold oWd; rw [nb_nz] at c_111; rw [show oOpen S = true from c_111]; rfl)
    · refine lv_iconst (v := 1) hx hb dX4_happenToPaper_114 (by decide) ?_
      refine lv_goto (tgt := 119) hx hb dX4_happenToPaper_115 (by decide) ?_
      refine p4_126 hc hP hS (nv_o hon ho (by decide) (vp_lt (n9 (by decide)))) (Or.inr rfl) dX4_happenToPaper_119 (fun H locs hP hS => ?_)
      refine lv_goto (tgt := 169) hx hb dX4_happenToPaper_122 (by decide) ?_
      exact ne_v hc hP hS hr dX4_happenToPaper_169 (by show _ = _; show wdo X o _ = wdo X o (oWd S f); unfold oWd; rw [nb_z] at c_111; rw [show oOpen S = false from c_111]; rfl)
  · refine lv_iload_n hx hb dX4_happenToPaper_0 rfl (lv_at hl 1 rfl) ?_
    refine lv_tableIn (off := 124) (tgt := 125) hx hb dX4_happenToPaper_1 (by decide) (by decide) (by decide) (by decide) ?_
    refine lv_aload_n hx hb dX4_happenToPaper_125 rfl (lv_at hl 0 rfl) ?_
    refine g4_34 hc hP (nv_o hon ho (by decide) Nat.zero_lt_one) dX4_happenToPaper_126 ?_
    refine lv_iload_n hx hb dX4_happenToPaper_129 rfl (lv_at hl 2 rfl) ?_
    refine ga_10 hc hP (nv_o hon ho (by decide) Nat.zero_lt_one) (n9 (by decide)) dX4_happenToPaper_130 ?_
    refine lv_iconst (v := 1) hx hb dX4_happenToPaper_131 (by decide) ?_
    refine p4_129 hc hP hS (nv_o hon ho (by decide) (vp_lt (n9 (by decide)))) (Or.inr rfl) dX4_happenToPaper_132 (fun H locs hP hS => ?_)
    refine lv_goto (tgt := 169) hx hb dX4_happenToPaper_135 (by decide) ?_
    exact ne_v hc hP hS hr dX4_happenToPaper_169 rfl
  · refine lv_iload_n hx hb dX4_happenToPaper_0 rfl (lv_at hl 1 rfl) ?_
    refine lv_tableIn (off := 137) (tgt := 138) hx hb dX4_happenToPaper_1 (by decide) (by decide) (by decide) (by decide) ?_
    refine lv_aload_n hx hb dX4_happenToPaper_138 rfl (lv_at hl 0 rfl) ?_
    refine g4_34 hc hP (nv_o hon ho (by decide) Nat.zero_lt_one) dX4_happenToPaper_139 ?_
    refine lv_iload_n hx hb dX4_happenToPaper_142 rfl (lv_at hl 2 rfl) ?_
    refine ga_10 hc hP (nv_o hon ho (by decide) Nat.zero_lt_one) (n9 (by decide)) dX4_happenToPaper_143 ?_
    refine lv_iload_n hx hb dX4_happenToPaper_144 rfl (lv_at hl 3 rfl) ?_
    refine nc_Vv (c_X5_renew hI hon ho (vp_lt (n9 (by decide)))) hc hP hS hl.1 gd4_132 (nrecv (q := (RX5, TX5, 10)) hc (npic_eta hP) (nv_o hon ho (by decide) (vp_lt (n9 (by decide)))) rfl rfl) ⟨rfl, rfl⟩ nok_X5_renew rfl ⟨Nat.le_of_ble_eq_true rfl, Nat.le_of_ble_eq_true rfl⟩ ⟨Nat.le_of_ble_eq_true rfl, Nat.le_of_ble_eq_true rfl⟩ dX4_happenToPaper_145 rfl (Nat.le_of_ble_eq_true rfl) (fun X1 H locs hp hP hS => ?_)
    rw [hp] at hP
    refine lv_goto (tgt := 169) hx hb dX4_happenToPaper_148 (by decide) ?_
    exact ne_v hc hP hS hr dX4_happenToPaper_169 rfl
  · refine lv_iload_n hx hb dX4_happenToPaper_0 rfl (lv_at hl 1 rfl) ?_
    refine lv_tableIn (off := 150) (tgt := 151) hx hb dX4_happenToPaper_1 (by decide) (by decide) (by decide) (by decide) ?_
    refine lv_aload_n hx hb dX4_happenToPaper_151 rfl (lv_at hl 0 rfl) ?_
    refine g4_34 hc hP (nv_o hon ho (by decide) Nat.zero_lt_one) dX4_happenToPaper_152 ?_
    refine lv_iload_n hx hb dX4_happenToPaper_155 rfl (lv_at hl 2 rfl) ?_
    refine ga_10 hc hP (nv_o hon ho (by decide) Nat.zero_lt_one) (n9 (by decide)) dX4_happenToPaper_156 ?_
    refine lv_dup hx hb dX4_happenToPaper_157 rfl ?_
    refine g4_135 hc hP (nv_o hon ho (by decide) (vp_lt (n9 (by decide)))) dX4_happenToPaper_158 ?_
    refine lv_iload_n hx hb dX4_happenToPaper_161 rfl (lv_at hl 3 rfl) ?_
    refine lv_iadd hx hb dX4_happenToPaper_162 ?_
    refine p4_135 hc hP hS (nv_o hon ho (by decide) (vp_lt (n9 (by decide)))) dX4_happenToPaper_163 (fun H locs hP hS => ?_)
    refine lv_goto (tgt := 169) hx hb dX4_happenToPaper_166 (by decide) ?_
    exact ne_v hc hP hS hr dX4_happenToPaper_169 rfl
set_option maxHeartbeats 4000000 in
set_option maxRecDepth 100000 in
theorem c_X4_happen (hI : ninj ad on) (hon : on o) (ho : o < 2) {x f z t : Int32} (hnd : oNeed S x f z) : nMv l D dA ad on yX4_happen cX4_happen 5 (nrm 5) [.ref (ad o 0 0), .int x, .int f, .int z, .int t] (wdo X o S) (fun X' => X' = wdo X o (oHap S x f z t)) := by
  refine nM_of hI (by decide +kernel) (Nat.le_of_ble_eq_true rfl) ?_
  intro p e s m args below meth cd ls hc hr _ hP hl hS
  have hx := hc.1
  have hb := hc.2.1
  have hl : lv_has ls 5 [(0, .ref (ad o 0 0)), (1, .int x), (2, .int f), (3, .int z), (4, .int t)] := hl
  have hnd9 := hnd
  obtain ⟨h16, n1, n2, n3, n4, n7, n8, n9, n15⟩ := hnd
  obtain ⟨n, hn16, rfl⟩ := vp_in_of h16 (by decide)
  rcases (show n = 0 ∨ n = 1 ∨ n = 2 ∨ n = 3 ∨ n = 4 ∨ n = 5 ∨ n = 6 ∨ n = 7 ∨ n = 8 ∨ n = 9 ∨ n = 10 ∨ n = 11 ∨ n = 12 ∨ n = 13 ∨ n = 14 ∨ n = 15 by omega) with rfl | rfl | rfl | rfl | rfl | rfl | rfl | rfl | rfl | rfl | rfl | rfl | rfl | rfl | rfl | rfl
  · refine lv_iload_n hx hb dX4_happen_0 rfl (lv_at hl 1 rfl) ?_
    refine lv_tableIn (off := 79) (tgt := 80) hx hb dX4_happen_1 (by decide) (by decide) (by decide) (by decide) ?_
    refine lv_aload_n hx hb dX4_happen_80 rfl (lv_at hl 0 rfl) ?_
    refine g4_12 hc hP (nv_o hon ho (by decide) Nat.zero_lt_one) dX4_happen_81 ?_
    refine lv_iload_n hx hb dX4_happen_84 rfl (lv_at hl 2 rfl) ?_
    refine lv_iload_n hx hb dX4_happen_85 rfl (lv_at hl 3 rfl) ?_
    refine lv_iload hx hb dX4_happen_86 (lv_at hl 4 rfl) ?_
    refine nc_Vv (c_X1_fix hI hon ho ) hc hP hS hl.1 gd4_66 (nrecv (q := (RX1, TX1, 4)) hc (npic_eta hP) (nv_o hon ho (by decide) Nat.zero_lt_one) rfl rfl) ⟨rfl, rfl⟩ nok_X1_fix rfl ⟨Nat.le_of_ble_eq_true rfl, Nat.le_of_ble_eq_true rfl⟩ ⟨Nat.le_of_ble_eq_true rfl, Nat.le_of_ble_eq_true rfl⟩ dX4_happen_88 rfl (Nat.le_of_ble_eq_true rfl) (fun X1 H locs hp hP hS => ?_)
    rw [hp] at hP
    refine lv_goto (tgt := 221) hx hb dX4_happen_91 (by decide) ?_
    exact ne_v hc hP hS hr dX4_happen_221 rfl
  · refine lv_iload_n hx hb dX4_happen_0 rfl (lv_at hl 1 rfl) ?_
    refine lv_tableIn (off := 93) (tgt := 94) hx hb dX4_happen_1 (by decide) (by decide) (by decide) (by decide) ?_
    refine lv_aload_n hx hb dX4_happen_94 rfl (lv_at hl 0 rfl) ?_
    refine nc_Vv (c_X4_judge hI hon ho (n1 (by decide))) hc hP hS hl.1 gd4_70 (nrecv (q := (RX4, TX4, 9)) hc (npic_eta hP) (nv_o hon ho (by decide) Nat.zero_lt_one) rfl rfl) ⟨rfl, rfl⟩ nok_X4_judge rfl ⟨Nat.le_of_ble_eq_true rfl, Nat.le_of_ble_eq_true rfl⟩ ⟨Nat.le_of_ble_eq_true rfl, Nat.le_of_ble_eq_true rfl⟩ dX4_happen_95 rfl (Nat.le_of_ble_eq_true rfl) (fun X1 H locs hp hP hS => ?_)
    rw [hp] at hP
    refine lv_aload_n hx hb dX4_happen_98 rfl (lv_at hl 0 rfl) ?_
    refine g4_12 hc hP (nv_o hon ho (by decide) Nat.zero_lt_one) dX4_happen_99 ?_
    refine lv_dup hx hb dX4_happen_102 rfl ?_
    refine g4_73 hc hP (nv_o hon ho (by decide) Nat.zero_lt_one) dX4_happen_103 ?_
    refine lv_iload_n hx hb dX4_happen_106 rfl (lv_at hl 2 rfl) ?_
    refine lv_iadd hx hb dX4_happen_107 ?_
    refine p4_73 hc hP hS (nv_o hon ho (by decide) Nat.zero_lt_one) dX4_happen_108 (fun H locs hP hS => ?_)
    refine lv_goto (tgt := 221) hx hb dX4_happen_111 (by decide) ?_
    exact ne_v hc hP hS hr dX4_happen_221 rfl
  · refine lv_iload_n hx hb dX4_happen_0 rfl (lv_at hl 1 rfl) ?_
    refine lv_tableIn (off := 113) (tgt := 114) hx hb dX4_happen_1 (by decide) (by decide) (by decide) (by decide) ?_
    refine lv_aload_n hx hb dX4_happen_114 rfl (lv_at hl 0 rfl) ?_
    refine g4_21 hc hP (nv_o hon ho (by decide) Nat.zero_lt_one) dX4_happen_115 ?_
    refine lv_iload_n hx hb dX4_happen_118 rfl (lv_at hl 2 rfl) ?_
    refine lv_iload_n hx hb dX4_happen_119 rfl (lv_at hl 3 rfl) ?_
    refine nc_Vv (c_X6_beginArea hI hon ho (n2 (by decide))) hc hP hS hl.1 gd4_76 (nrecv (q := (RX6, TX6, 4)) hc (npic_eta hP) (nv_o hon ho (by decide) Nat.zero_lt_one) rfl rfl) ⟨rfl, rfl⟩ nok_X6_beginArea rfl ⟨Nat.le_of_ble_eq_true rfl, Nat.le_of_ble_eq_true rfl⟩ ⟨Nat.le_of_ble_eq_true rfl, Nat.le_of_ble_eq_true rfl⟩ dX4_happen_120 rfl (Nat.le_of_ble_eq_true rfl) (fun X1 H locs hp hP hS => ?_)
    rw [hp] at hP
    refine lv_goto (tgt := 221) hx hb dX4_happen_123 (by decide) ?_
    exact ne_v hc hP hS hr dX4_happen_221 rfl
  · refine lv_iload_n hx hb dX4_happen_0 rfl (lv_at hl 1 rfl) ?_
    refine lv_tableIn (off := 125) (tgt := 126) hx hb dX4_happen_1 (by decide) (by decide) (by decide) (by decide) ?_
    refine lv_aload_n hx hb dX4_happen_126 rfl (lv_at hl 0 rfl) ?_
    refine g4_21 hc hP (nv_o hon ho (by decide) Nat.zero_lt_one) dX4_happen_127 ?_
    refine lv_iload_n hx hb dX4_happen_130 rfl (lv_at hl 2 rfl) ?_
    refine nc_Vv (c_X6_beginVoter hI hon ho (n3 (by decide))) hc hP hS hl.1 gd4_80 (nrecv (q := (RX6, TX6, 4)) hc (npic_eta hP) (nv_o hon ho (by decide) Nat.zero_lt_one) rfl rfl) ⟨rfl, rfl⟩ nok_X6_beginVoter rfl ⟨Nat.le_of_ble_eq_true rfl, Nat.le_of_ble_eq_true rfl⟩ ⟨Nat.le_of_ble_eq_true rfl, Nat.le_of_ble_eq_true rfl⟩ dX4_happen_131 rfl (Nat.le_of_ble_eq_true rfl) (fun X1 H locs hp hP hS => ?_)
    rw [hp] at hP
    refine lv_goto (tgt := 221) hx hb dX4_happen_134 (by decide) ?_
    exact ne_v hc hP hS hr dX4_happen_221 rfl
  · refine lv_iload_n hx hb dX4_happen_0 rfl (lv_at hl 1 rfl) ?_
    refine lv_tableIn (off := 136) (tgt := 137) hx hb dX4_happen_1 (by decide) (by decide) (by decide) (by decide) ?_
    refine lv_aload_n hx hb dX4_happen_137 rfl (lv_at hl 0 rfl) ?_
    refine g4_21 hc hP (nv_o hon ho (by decide) Nat.zero_lt_one) dX4_happen_138 ?_
    refine g4_84 hc hP (nv_o hon ho (by decide) Nat.zero_lt_one) dX4_happen_141 ?_
    refine lv_iload_n hx hb dX4_happen_144 rfl (lv_at hl 2 rfl) ?_
    refine ga_5 hc hP (nv_o hon ho (by decide) Nat.zero_lt_one) (n4 (by decide)) dX4_happen_145 ?_
    refine lv_iload_n hx hb dX4_happen_146 rfl (lv_at hl 3 rfl) ?_
    refine p4_88 hc hP hS (nv_o hon ho (by decide) (vp_lt (n4 (by decide)))) dX4_happen_147 (fun H locs hP hS => ?_)
    refine lv_goto (tgt := 221) hx hb dX4_happen_150 (by decide) ?_
    exact ne_v hc hP hS hr dX4_happen_221 rfl
  · refine lv_iload_n hx hb dX4_happen_0 rfl (lv_at hl 1 rfl) ?_
    refine lv_tableIn (off := 152) (tgt := 153) hx hb dX4_happen_1 (by decide) (by decide) (by decide) (by decide) ?_
    refine lv_aload_n hx hb dX4_happen_153 rfl (lv_at hl 0 rfl) ?_
    refine g4_21 hc hP (nv_o hon ho (by decide) Nat.zero_lt_one) dX4_happen_154 ?_
    refine g4_84 hc hP (nv_o hon ho (by decide) Nat.zero_lt_one) dX4_happen_157 ?_
    refine lv_iload_n hx hb dX4_happen_160 rfl (lv_at hl 2 rfl) ?_
    refine ga_5 hc hP (nv_o hon ho (by decide) Nat.zero_lt_one) (n4 (by decide)) dX4_happen_161 ?_
    refine lv_iconst (v := 0) hx hb dX4_happen_162 (by decide) ?_
    refine p4_93 hc hP hS (nv_o hon ho (by decide) (vp_lt (n4 (by decide)))) (Or.inl rfl) dX4_happen_163 (fun H locs hP hS => ?_)
    refine lv_goto (tgt := 221) hx hb dX4_happen_166 (by decide) ?_
    exact ne_v hc hP hS hr dX4_happen_221 rfl
  · refine lv_iload_n hx hb dX4_happen_0 rfl (lv_at hl 1 rfl) ?_
    refine lv_tableIn (off := 168) (tgt := 169) hx hb dX4_happen_1 (by decide) (by decide) (by decide) (by decide) ?_
    refine lv_aload_n hx hb dX4_happen_169 rfl (lv_at hl 0 rfl) ?_
    refine g4_21 hc hP (nv_o hon ho (by decide) Nat.zero_lt_one) dX4_happen_170 ?_
    refine g4_84 hc hP (nv_o hon ho (by decide) Nat.zero_lt_one) dX4_happen_173 ?_
    refine lv_iload_n hx hb dX4_happen_176 rfl (lv_at hl 2 rfl) ?_
    refine ga_5 hc hP (nv_o hon ho (by decide) Nat.zero_lt_one) (n4 (by decide)) dX4_happen_177 ?_
    refine lv_iconst (v := 1) hx hb dX4_happen_178 (by decide) ?_
    refine p4_93 hc hP hS (nv_o hon ho (by decide) (vp_lt (n4 (by decide)))) (Or.inr rfl) dX4_happen_179 (fun H locs hP hS => ?_)
    refine lv_goto (tgt := 221) hx hb dX4_happen_182 (by decide) ?_
    exact ne_v hc hP hS hr dX4_happen_221 rfl
  · refine lv_iload_n hx hb dX4_happen_0 rfl (lv_at hl 1 rfl) ?_
    refine lv_tableIn (off := 211) (tgt := 212) hx hb dX4_happen_1 (by decide) (by decide) (by decide) (by decide) ?_
    refine lv_aload_n hx hb dX4_happen_212 rfl (lv_at hl 0 rfl) ?_
    refine lv_iload_n hx hb dX4_happen_213 rfl (lv_at hl 1 rfl) ?_
    refine lv_iload_n hx hb dX4_happen_214 rfl (lv_at hl 2 rfl) ?_
    refine lv_iload_n hx hb dX4_happen_215 rfl (lv_at hl 3 rfl) ?_
    refine lv_iload hx hb dX4_happen_216 (lv_at hl 4 rfl) ?_
    refine nc_Vv (c_X4_happenToPaper hI hon ho (x := nI 7) hnd9 (by decide)) hc hP hS hl.1 gd4_109 (nrecv (q := (RX4, TX4, 9)) hc (npic_eta hP) (nv_o hon ho (by decide) Nat.zero_lt_one) rfl rfl) ⟨rfl, rfl⟩ nok_X4_happenToPaper rfl ⟨Nat.le_of_ble_eq_true rfl, Nat.le_of_ble_eq_true rfl⟩ ⟨Nat.le_of_ble_eq_true rfl, Nat.le_of_ble_eq_true rfl⟩ dX4_happen_218 rfl (Nat.le_of_ble_eq_true rfl) (fun X1 H locs hp hP hS => ?_)
    rw [hp] at hP
    exact ne_v hc hP hS hr dX4_happen_221 rfl
  · refine lv_iload_n hx hb dX4_happen_0 rfl (lv_at hl 1 rfl) ?_
    refine lv_tableIn (off := 211) (tgt := 212) hx hb dX4_happen_1 (by decide) (by decide) (by decide) (by decide) ?_
    refine lv_aload_n hx hb dX4_happen_212 rfl (lv_at hl 0 rfl) ?_
    refine lv_iload_n hx hb dX4_happen_213 rfl (lv_at hl 1 rfl) ?_
    refine lv_iload_n hx hb dX4_happen_214 rfl (lv_at hl 2 rfl) ?_
    refine lv_iload_n hx hb dX4_happen_215 rfl (lv_at hl 3 rfl) ?_
    refine lv_iload hx hb dX4_happen_216 (lv_at hl 4 rfl) ?_
    refine nc_Vv (c_X4_happenToPaper hI hon ho (x := nI 8) hnd9 (by decide)) hc hP hS hl.1 gd4_109 (nrecv (q := (RX4, TX4, 9)) hc (npic_eta hP) (nv_o hon ho (by decide) Nat.zero_lt_one) rfl rfl) ⟨rfl, rfl⟩ nok_X4_happenToPaper rfl ⟨Nat.le_of_ble_eq_true rfl, Nat.le_of_ble_eq_true rfl⟩ ⟨Nat.le_of_ble_eq_true rfl, Nat.le_of_ble_eq_true rfl⟩ dX4_happen_218 rfl (Nat.le_of_ble_eq_true rfl) (fun X1 H locs hp hP hS => ?_)
    rw [hp] at hP
    exact ne_v hc hP hS hr dX4_happen_221 rfl
  · refine lv_iload_n hx hb dX4_happen_0 rfl (lv_at hl 1 rfl) ?_
    refine lv_tableIn (off := 211) (tgt := 212) hx hb dX4_happen_1 (by decide) (by decide) (by decide) (by decide) ?_
    refine lv_aload_n hx hb dX4_happen_212 rfl (lv_at hl 0 rfl) ?_
    refine lv_iload_n hx hb dX4_happen_213 rfl (lv_at hl 1 rfl) ?_
    refine lv_iload_n hx hb dX4_happen_214 rfl (lv_at hl 2 rfl) ?_
    refine lv_iload_n hx hb dX4_happen_215 rfl (lv_at hl 3 rfl) ?_
    refine lv_iload hx hb dX4_happen_216 (lv_at hl 4 rfl) ?_
    refine nc_Vv (c_X4_happenToPaper hI hon ho (x := nI 9) hnd9 (by decide)) hc hP hS hl.1 gd4_109 (nrecv (q := (RX4, TX4, 9)) hc (npic_eta hP) (nv_o hon ho (by decide) Nat.zero_lt_one) rfl rfl) ⟨rfl, rfl⟩ nok_X4_happenToPaper rfl ⟨Nat.le_of_ble_eq_true rfl, Nat.le_of_ble_eq_true rfl⟩ ⟨Nat.le_of_ble_eq_true rfl, Nat.le_of_ble_eq_true rfl⟩ dX4_happen_218 rfl (Nat.le_of_ble_eq_true rfl) (fun X1 H locs hp hP hS => ?_)
    rw [hp] at hP
    exact ne_v hc hP hS hr dX4_happen_221 rfl
  · refine lv_iload_n hx hb dX4_happen_0 rfl (lv_at hl 1 rfl) ?_
    refine lv_tableIn (off := 211) (tgt := 212) hx hb dX4_happen_1 (by decide) (by decide) (by decide) (by decide) ?_
    refine lv_aload_n hx hb dX4_happen_212 rfl (lv_at hl 0 rfl) ?_
    refine lv_iload_n hx hb dX4_happen_213 rfl (lv_at hl 1 rfl) ?_
    refine lv_iload_n hx hb dX4_happen_214 rfl (lv_at hl 2 rfl) ?_
    refine lv_iload_n hx hb dX4_happen_215 rfl (lv_at hl 3 rfl) ?_
    refine lv_iload hx hb dX4_happen_216 (lv_at hl 4 rfl) ?_
    refine nc_Vv (c_X4_happenToPaper hI hon ho (x := nI 10) hnd9 (by decide)) hc hP hS hl.1 gd4_109 (nrecv (q := (RX4, TX4, 9)) hc (npic_eta hP) (nv_o hon ho (by decide) Nat.zero_lt_one) rfl rfl) ⟨rfl, rfl⟩ nok_X4_happenToPaper rfl ⟨Nat.le_of_ble_eq_true rfl, Nat.le_of_ble_eq_true rfl⟩ ⟨Nat.le_of_ble_eq_true rfl, Nat.le_of_ble_eq_true rfl⟩ dX4_happen_218 rfl (Nat.le_of_ble_eq_true rfl) (fun X1 H locs hp hP hS => ?_)
    rw [hp] at hP
    exact ne_v hc hP hS hr dX4_happen_221 rfl
  · refine lv_iload_n hx hb dX4_happen_0 rfl (lv_at hl 1 rfl) ?_
    refine lv_tableIn (off := 211) (tgt := 212) hx hb dX4_happen_1 (by decide) (by decide) (by decide) (by decide) ?_
    refine lv_aload_n hx hb dX4_happen_212 rfl (lv_at hl 0 rfl) ?_
    refine lv_iload_n hx hb dX4_happen_213 rfl (lv_at hl 1 rfl) ?_
    refine lv_iload_n hx hb dX4_happen_214 rfl (lv_at hl 2 rfl) ?_
    refine lv_iload_n hx hb dX4_happen_215 rfl (lv_at hl 3 rfl) ?_
    refine lv_iload hx hb dX4_happen_216 (lv_at hl 4 rfl) ?_
    refine nc_Vv (c_X4_happenToPaper hI hon ho (x := nI 11) hnd9 (by decide)) hc hP hS hl.1 gd4_109 (nrecv (q := (RX4, TX4, 9)) hc (npic_eta hP) (nv_o hon ho (by decide) Nat.zero_lt_one) rfl rfl) ⟨rfl, rfl⟩ nok_X4_happenToPaper rfl ⟨Nat.le_of_ble_eq_true rfl, Nat.le_of_ble_eq_true rfl⟩ ⟨Nat.le_of_ble_eq_true rfl, Nat.le_of_ble_eq_true rfl⟩ dX4_happen_218 rfl (Nat.le_of_ble_eq_true rfl) (fun X1 H locs hp hP hS => ?_)
    rw [hp] at hP
    exact ne_v hc hP hS hr dX4_happen_221 rfl
  · refine lv_iload_n hx hb dX4_happen_0 rfl (lv_at hl 1 rfl) ?_
    refine lv_tableIn (off := 211) (tgt := 212) hx hb dX4_happen_1 (by decide) (by decide) (by decide) (by decide) ?_
    refine lv_aload_n hx hb dX4_happen_212 rfl (lv_at hl 0 rfl) ?_
    refine lv_iload_n hx hb dX4_happen_213 rfl (lv_at hl 1 rfl) ?_
    refine lv_iload_n hx hb dX4_happen_214 rfl (lv_at hl 2 rfl) ?_
    refine lv_iload_n hx hb dX4_happen_215 rfl (lv_at hl 3 rfl) ?_
    refine lv_iload hx hb dX4_happen_216 (lv_at hl 4 rfl) ?_
    refine nc_Vv (c_X4_happenToPaper hI hon ho (x := nI 12) hnd9 (by decide)) hc hP hS hl.1 gd4_109 (nrecv (q := (RX4, TX4, 9)) hc (npic_eta hP) (nv_o hon ho (by decide) Nat.zero_lt_one) rfl rfl) ⟨rfl, rfl⟩ nok_X4_happenToPaper rfl ⟨Nat.le_of_ble_eq_true rfl, Nat.le_of_ble_eq_true rfl⟩ ⟨Nat.le_of_ble_eq_true rfl, Nat.le_of_ble_eq_true rfl⟩ dX4_happen_218 rfl (Nat.le_of_ble_eq_true rfl) (fun X1 H locs hp hP hS => ?_)
    rw [hp] at hP
    exact ne_v hc hP hS hr dX4_happen_221 rfl
  · refine lv_iload_n hx hb dX4_happen_0 rfl (lv_at hl 1 rfl) ?_
    refine lv_tableIn (off := 184) (tgt := 185) hx hb dX4_happen_1 (by decide) (by decide) (by decide) (by decide) ?_
    refine lv_aload_n hx hb dX4_happen_185 rfl (lv_at hl 0 rfl) ?_
    refine g4_28 hc hP (nv_o hon ho (by decide) Nat.zero_lt_one) dX4_happen_186 ?_
    refine lv_iload_n hx hb dX4_happen_189 rfl (lv_at hl 2 rfl) ?_
    refine nc_Vv (c_X3_shuffle hI hon ho ) hc hP hS hl.1 gd4_97 (nrecv (q := (RX3, TX3, 3)) hc (npic_eta hP) (nv_o hon ho (by decide) Nat.zero_lt_one) rfl rfl) ⟨rfl, rfl⟩ nok_X3_shuffle rfl ⟨Nat.le_of_ble_eq_true rfl, Nat.le_of_ble_eq_true rfl⟩ ⟨Nat.le_of_ble_eq_true rfl, Nat.le_of_ble_eq_true rfl⟩ dX4_happen_190 rfl (Nat.le_of_ble_eq_true rfl) (fun X1 H locs hp hP hS => ?_)
    rw [hp] at hP
    refine lv_goto (tgt := 221) hx hb dX4_happen_193 (by decide) ?_
    exact ne_v hc hP hS hr dX4_happen_221 rfl
  · refine lv_iload_n hx hb dX4_happen_0 rfl (lv_at hl 1 rfl) ?_
    refine lv_tableIn (off := 211) (tgt := 212) hx hb dX4_happen_1 (by decide) (by decide) (by decide) (by decide) ?_
    refine lv_aload_n hx hb dX4_happen_212 rfl (lv_at hl 0 rfl) ?_
    refine lv_iload_n hx hb dX4_happen_213 rfl (lv_at hl 1 rfl) ?_
    refine lv_iload_n hx hb dX4_happen_214 rfl (lv_at hl 2 rfl) ?_
    refine lv_iload_n hx hb dX4_happen_215 rfl (lv_at hl 3 rfl) ?_
    refine lv_iload hx hb dX4_happen_216 (lv_at hl 4 rfl) ?_
    refine nc_Vv (c_X4_happenToPaper hI hon ho (x := nI 14) hnd9 (by decide)) hc hP hS hl.1 gd4_109 (nrecv (q := (RX4, TX4, 9)) hc (npic_eta hP) (nv_o hon ho (by decide) Nat.zero_lt_one) rfl rfl) ⟨rfl, rfl⟩ nok_X4_happenToPaper rfl ⟨Nat.le_of_ble_eq_true rfl, Nat.le_of_ble_eq_true rfl⟩ ⟨Nat.le_of_ble_eq_true rfl, Nat.le_of_ble_eq_true rfl⟩ dX4_happen_218 rfl (Nat.le_of_ble_eq_true rfl) (fun X1 H locs hp hP hS => ?_)
    rw [hp] at hP
    exact ne_v hc hP hS hr dX4_happen_221 rfl
  · refine lv_iload_n hx hb dX4_happen_0 rfl (lv_at hl 1 rfl) ?_
    refine lv_tableIn (off := 195) (tgt := 196) hx hb dX4_happen_1 (by decide) (by decide) (by decide) (by decide) ?_
    refine lv_aload_n hx hb dX4_happen_196 rfl (lv_at hl 0 rfl) ?_
    refine g4_21 hc hP (nv_o hon ho (by decide) Nat.zero_lt_one) dX4_happen_197 ?_
    refine g4_100 hc hP (nv_o hon ho (by decide) Nat.zero_lt_one) dX4_happen_200 ?_
    refine lv_iload_n hx hb dX4_happen_203 rfl (lv_at hl 2 rfl) ?_
    refine ga_3 hc hP (nv_o hon ho (by decide) Nat.zero_lt_one) (n15 (by decide)) dX4_happen_204 ?_
    refine lv_iconst (v := 1) hx hb dX4_happen_205 (by decide) ?_
    refine p4_104 hc hP hS (nv_o hon ho (by decide) (vp_lt (n15 (by decide)))) (Or.inr rfl) dX4_happen_206 (fun H locs hP hS => ?_)
    refine lv_goto (tgt := 221) hx hb dX4_happen_209 (by decide) ?_
    exact ne_v hc hP hS hr dX4_happen_221 rfl
end N14
