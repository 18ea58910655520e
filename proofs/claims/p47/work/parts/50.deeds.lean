/-! The events, as the law calls them. -/
def gch (g : Bool) (z : Int32 × NWd) (G : Nat ⊕ (Int32 × NWd)) : Prop := (g = true → G = .inr z) ∧ (g = false → ∃ k, G = .inl k)
theorem gch_r {z : Int32 × NWd} : gch true z (.inr z) := ⟨fun _ => rfl, fun h => by cases h⟩
theorem gch_g {b g : Bool} {k : Nat} {z : Int32 × NWd} {G : Nat ⊕ (Int32 × NWd)} (h : gch g z G) : gch (b && g) z (nG b k G) := by
  cases b with
  | true => exact h
  | false => exact ⟨fun q => (by cases q), fun _ => ⟨k, rfl⟩⟩
theorem lcode_neg (k : Nat) : lcode k < 0 := by unfold lcode; split <;> decide
theorem lres_ev {g : Bool} {z : Int32 × NWd} {W X' : NWd} {r : Int32} {G : Nat ⊕ (Int32 × NWd)} (hg : gch g z G) (h : (r, X') = lres W G) : (g = true ∧ G = .inr z ∧ r = z.1 ∧ X' = z.2) ∨ (r < 0 ∧ X' = W) := by
  cases hc : g with
  | true =>
    have e := hg.1 hc
    rw [e] at h
    refine Or.inl ⟨rfl, e, ?_⟩
    have h9 : (r, X') = z := h
    rw [← h9]; exact ⟨rfl, rfl⟩
  | false =>
    obtain ⟨k, e⟩ := hg.2 hc
    rw [e] at h
    have h9 : (r, X') = (lcode k, W) := h
    cases h9
    exact Or.inr ⟨lcode_neg k, rfl⟩
theorem isum01 {f : Nat → Int32} {n : Nat} (h : ∀ k, f k = 0 ∨ f k = 1) (hn : n ≤ 1000) : ¬ isum f n < 0 := by
  have h1 : isum f n = nI (nsum (fun k => nix (f k)) n) := isum_nat n (fun k _ => by rcases h k with e | e <;> rw [e] <;> rfl)
  have h2 := nsum_le (g := fun k => nix (f k)) (c := 1) (fun k => by rcases h k with e | e <;> show nix (f k) ≤ 1 <;> rw [e] <;> decide) n
  rw [h1]
  exact nI_pos (by omega)
theorem i32_1le {a M : Int32} {n : Nat} (hM : M.toInt = n) (h1 : 1 ≤ a) (h2 : a ≤ M) : ∃ q, q ≤ n ∧ a = nI q := nI_of2 hM (Int32.not_lt.mpr (Int32.le_trans (by decide) h1)) h2
section EV
variable {S T : NSt} {x f z t : Int32} {X X' : NWd} {na nv e : Nat}
/-- the kinds that leave the counts of areas, voters and signatures alone -/
def hL (x : Int32) : Prop := x = 1 ∨ x = 4 ∨ x = 5 ∨ x = 6 ∨ x = 7 ∨ x = 9 ∨ x = 10 ∨ x = 11 ∨ x = 12 ∨ x = 14 ∨ x = 15
theorem hap_c (hx : hL x) : oHap S x f z t 2 0 2 = S 2 0 2 ∧ oHap S x f z t 2 0 3 = S 2 0 3 ∧ oHap S x f z t 1 0 1 = S 1 0 1 ∧ oHap S x f z t 0 0 7 = S 0 0 7 ∧ ∀ k, oHap S x f z t 13 k 0 = S 13 k 0 ∧ oHap S x f z t 13 k 1 = S 13 k 1 := by
  rcases hx with rfl | rfl | rfl | rfl | rfl | rfl | rfl | rfl | rfl | rfl | rfl
  · rw [hp1]
    have hs := oJudge_same S
    refine ⟨?_, ?_, ?_, ?_, fun k => ⟨?_, ?_⟩⟩
    · rw [nput_nk (by decide)]; exact hs 2 0 2 (by decide) (by decide)
    · rw [nput_nk (by decide)]; exact hs 2 0 3 (by decide) (by decide)
    · rw [nput_nj (by decide)]; exact hs 1 0 1 (by decide) (by decide)
    · rw [nput_nk (by decide)]; exact hs 0 0 7 (by decide) (by decide)
    · rw [nput_nk (by decide)]; exact hs 13 k 0 (by decide) (by decide)
    · rw [nput_nk (by decide)]; exact hs 13 k 1 (by decide) (by decide)
  · rw [hp4]; exact ⟨rfl, rfl, rfl, rfl, fun k => ⟨rfl, rfl⟩⟩
  · rw [hp5]; exact ⟨rfl, rfl, rfl, rfl, fun k => ⟨rfl, rfl⟩⟩
  · rw [hp6]; exact ⟨rfl, rfl, rfl, rfl, fun k => ⟨rfl, rfl⟩⟩
  · rw [hp7]; exact ⟨rfl, rfl, rfl, rfl, fun k => ⟨rfl, rfl⟩⟩
  · rw [hp9]; exact ⟨rfl, rfl, rfl, rfl, fun k => ⟨rfl, rfl⟩⟩
  · rw [hp10]; exact ⟨rfl, rfl, rfl, rfl, fun k => ⟨rfl, rfl⟩⟩
  · rw [hp11]; exact ⟨rfl, rfl, rfl, rfl, fun k => ⟨rfl, rfl⟩⟩
  · rw [hp12]; exact ⟨rfl, rfl, rfl, rfl, fun k => ⟨rfl, rfl⟩⟩
  · rw [hp14]; exact ⟨rfl, rfl, rfl, rfl, fun k => ⟨rfl, rfl⟩⟩
  · rw [hp15]; exact ⟨rfl, rfl, rfl, rfl, fun k => ⟨rfl, rfl⟩⟩
theorem nEv0 : nEv X S x f z t 0 = nJ S x f z t := by unfold nEv; rw [wdo_at]; rfl
/-- the rows of signatures stay -/
def sK (S T : NSt) : Prop := ons T = ons S ∧ ∀ k, T 13 k 0 = S 13 k 0 ∧ T 13 k 1 = S 13 k 1
/-- one more is handed in -/
def sS (S T : NSt) (pp v : Int32) : Prop := ons T = ons S + 1 ∧ ons S < 150 ∧ T 13 (ons S) 0 = pp ∧ T 13 (ons S) 1 = v ∧ ∀ k, k < ons S → T 13 k 0 = S 13 k 0 ∧ T 13 k 1 = S 13 k 1
theorem sK_step (hx : hL x) : sK S (nEv X S x f z t 0) := by
  rw [nEv0]
  have hs := oJudge_same (oHap S x f z t)
  obtain ⟨-, -, -, h7, h13⟩ := hap_c (S := S) (f := f) (z := z) (t := t) hx
  refine ⟨?_, fun k => ⟨?_, ?_⟩⟩
  · show ons (oJudge _) = _
    rw [hs.eons]; unfold ons; rw [h7]
  · show oJudge _ 13 k 0 = _
    rw [hs 13 k 0 (by decide) (by decide)]; exact (h13 k).1
  · show oJudge _ 13 k 1 = _
    rw [hs 13 k 1 (by decide) (by decide)]; exact (h13 k).2
theorem lInv.step {M' : NSt} {n' na' nv' : Nat} (h : lInv X na nv e) (hI' : nInv (nEv X (X 0) x f z t) M' n') (hn' : n' ≤ e + 1)
    (hu : x = 1 ∨ (x = 4 ∨ x = 5 ∨ x = 6 ∨ x = 9 ∨ x = 10 ∨ x = 11 ∨ x = 12 ∨ x = 14 ∨ x = 15) ∨ oOpen (oHap (X 0) x f z t) = true)
    (hx : x = 1 ∨ x = 2 ∨ x = 3 ∨ x = 4 ∨ x = 5 ∨ x = 6 ∨ x = 7 ∨ x = 8 ∨ (x = 9 ∧ ∃ a, a ≤ 1000 ∧ z = nI a) ∨ x = 10 ∨ x = 11 ∨ x = 12 ∨ (x = 14 ∧ ∃ a, a ≤ 10000 ∧ z = nI a) ∨ x = 15)
    (hv : x = 1 ∨ x = 2 ∨ (x = 3 ∧ ¬ f < 0) ∨ (x = 4 ∧ ¬ z < 0) ∨ x = 5 ∨ x = 6 ∨ x = 7 ∨ x = 8 ∨ x = 9 ∨ x = 10 ∨ x = 11 ∨ x = 12 ∨ x = 14 ∨ x = 15)
    (ha : ona (oHap (X 0) x f z t) = na') (hb : onv (oHap (X 0) x f z t) = nv') (hc : oHap (X 0) x f z t 1 0 1 = 20) : lInv (nEv X (X 0) x f z t) na' nv' (e + 1) := by
  obtain ⟨M, n, hI, hn⟩ := h.i
  have hs := oJudge_same (oHap (X 0) x f z t)
  refine ⟨⟨M', n', hI', hn'⟩, ?_, ?_, ?_, ?_, ?_, ?_⟩
  · have h9 := hI'.q
    rw [nEv0] at h9 ⊢
    exact uq_step hI.q h.u h9 hu
  · rw [nEv0]; exact (ex_step h.x hx).jd
  · rw [nEv0]; exact (va_step h.va hv).jd
  · rw [nEv0]; show ona (oJudge _) = _; rw [hs.eona]; exact ha
  · rw [nEv0]; show onv (oJudge _) = _; rw [hs.eonv]; exact hb
  · rw [nEv0]; show oJudge _ 1 0 1 = _; rw [hs 1 0 1 (by decide) (by decide)]; exact hc
theorem hL_na (h : lInv X na nv e) (hx : hL x) : ona (oHap (X 0) x f z t) = na ∧ onv (oHap (X 0) x f z t) = nv ∧ oHap (X 0) x f z t 1 0 1 = 20 := by
  obtain ⟨h1, h2, h3, -, -⟩ := hap_c (S := X 0) (f := f) (z := z) (t := t) hx
  refine ⟨?_, ?_, by rw [h3]; exact h.cl⟩
  · rw [← h.ena]; unfold ona; rw [h1]
  · rw [← h.env]; unfold onv; rw [h2]
theorem lInv.stepL {M' : NSt} {n' : Nat} (h : lInv X na nv e) (hL9 : hL x) (hI' : nInv (nEv X (X 0) x f z t) M' n') (hn' : n' ≤ e + 1)
    (hu : x = 1 ∨ (x = 4 ∨ x = 5 ∨ x = 6 ∨ x = 9 ∨ x = 10 ∨ x = 11 ∨ x = 12 ∨ x = 14 ∨ x = 15) ∨ oOpen (oHap (X 0) x f z t) = true)
    (hx : x = 1 ∨ x = 2 ∨ x = 3 ∨ x = 4 ∨ x = 5 ∨ x = 6 ∨ x = 7 ∨ x = 8 ∨ (x = 9 ∧ ∃ a, a ≤ 1000 ∧ z = nI a) ∨ x = 10 ∨ x = 11 ∨ x = 12 ∨ (x = 14 ∧ ∃ a, a ≤ 10000 ∧ z = nI a) ∨ x = 15)
    (hv : x = 1 ∨ x = 2 ∨ (x = 3 ∧ ¬ f < 0) ∨ (x = 4 ∧ ¬ z < 0) ∨ x = 5 ∨ x = 6 ∨ x = 7 ∨ x = 8 ∨ x = 9 ∨ x = 10 ∨ x = 11 ∨ x = 12 ∨ x = 14 ∨ x = 15) : lInv (nEv X (X 0) x f z t) na nv (e + 1) ∧ sK (X 0) (nEv X (X 0) x f z t 0) :=
  ⟨h.step hI' hn' hu hx hv (hL_na h hL9).1 (hL_na h hL9).2.1 (hL_na h hL9).2.2, sK_step hL9⟩
theorem pass_U (T : NSt) (a : Int32) : ∃ U, mPass T a U := by
  by_cases c : (mOpen T && decide (T 30 0 1 < T 30 0 4 + a)) = true
  · refine ⟨fun k i j => if k = 56 then mOres T j 0 else if k = 51 then mwh T (j + 1) 60 0 j else T k i j, ?_⟩
    unfold mPass
    rw [if_pos c]
    refine ⟨fun k h1 h2 _ _ => ?_, fun k _ => rfl, fun k _ => rfl⟩
    funext i j
    show (if k = 56 then _ else if k = 51 then _ else T k i j) = _
    rw [if_neg h2, if_neg h1]
  · exact ⟨T, by unfold mPass; rw [if_neg c]⟩
theorem le_pass (h : lInv X na nv e) (he : e < 500) {a9 b9 r : Int32} (hr : (r, X') = lres (wdo X 0 (X 0)) (nG (decide (1 ≤ a9) && decide (a9 ≤ 30)) 0 (nG (decide ((X 0) 1 0 0 + a9 ≤ 99)) 1 (.inr (nJ (X 0) 1 a9 0 0 1 0 0, nEv X (X 0) 1 a9 0 0))))) : (r < 0 ∧ X' = X) ∨ (¬ r < 0 ∧ lInv X' na nv (e + 1) ∧ sK (X 0) (X' 0)) := by
  obtain ⟨M, n, hI, hn⟩ := h.i
  rcases lres_ev (gch_g (gch_g gch_r)) hr with ⟨hg, hG, hv, hX⟩ | ⟨hl, hX⟩
  · right
    have hX : X' = nEv X (X 0) 1 a9 0 0 := hX
    obtain ⟨-, -, n', hn', hI'⟩ := (sim_pass (hc := fun k => if k = 0 then 1 else 2) (a := a9) (U := (pass_U (nput M 30 0 0 0) a9).choose) hI rfl (by omega) rfl rfl (Or.inl (pass_U (nput M 30 0 0 0) a9).choose_spec)).2 _ _ hG
    subst hX
    simp only [Bool.and_eq_true, decide_eq_true_eq, and_assoc] at hg
    obtain ⟨-, -, -, -⟩ := hg
    obtain ⟨k1, k2⟩ := h.stepL (Or.inl (rfl)) hI' (by omega) (Or.inl (rfl)) (Or.inl (rfl)) (Or.inl (rfl))
    refine ⟨?_, k1, k2⟩
    rw [hv]
    show ¬ nJ (X 0) 1 a9 0 0 1 0 0 < 0
    have h9 := hI'.q.b.c0
    rw [nEv0] at h9
    obtain ⟨d, hd, ed⟩ := hI'.z.d
    rw [h9, ed]
    exact nI_pos (by omega)
  · left; exact ⟨hl, by rw [hX, wdo_eta]⟩
theorem le_move (h : lInv X na nv e) (he : e < 500) {a9 b9 r : Int32} (hr : (r, X') = lres (wdo X 0 (X 0)) (nG (inB a9 (onv (X 0))) 2 (nG (inB b9 (ona (X 0))) 2 (nG (!decide ((X 0) 6 (nix a9) 0 = b9)) 3 (.inr ((X 0) 6 (nix a9) 0, nEv X (X 0) 4 a9 b9 0)))))) : (r < 0 ∧ X' = X) ∨ (¬ r < 0 ∧ lInv X' na nv (e + 1) ∧ sK (X 0) (X' 0)) := by
  obtain ⟨M, n, hI, hn⟩ := h.i
  rcases lres_ev (gch_g (gch_g (gch_g gch_r))) hr with ⟨hg, hG, hv, hX⟩ | ⟨hl, hX⟩
  · right
    have hX : X' = nEv X (X 0) 4 a9 b9 0 := hX
    obtain ⟨-, -, n', hn', hI'⟩ := (sim_move (hc := fun k => if k = 2 then 1 else 2) (v := a9) (a := b9) hI rfl (by omega) rfl rfl).2 _ _ hG
    subst hX
    simp only [Bool.and_eq_true, decide_eq_true_eq, and_assoc] at hg
    obtain ⟨-, g2, -, -⟩ := hg
    obtain ⟨k1, k2⟩ := h.stepL (Or.inr (Or.inl (rfl))) hI' (by omega) (Or.inr (Or.inl (Or.inl (rfl)))) (Or.inr (Or.inr (Or.inr (Or.inl (rfl))))) (Or.inr (Or.inr (Or.inr (Or.inl (⟨rfl, fun z => (inB_t.mp g2) (Or.inl z)⟩)))))
    refine ⟨?_, k1, k2⟩
    rw [hv]
    exact h.va _
  · left; exact ⟨hl, by rw [hX, wdo_eta]⟩
theorem le_strike (h : lInv X na nv e) (he : e < 500) {a9 b9 r : Int32} (hr : (r, X') = lres (wdo X 0 (X 0)) (nG (inB a9 (onv (X 0))) 2 (nG (!decide ((X 0) 6 (nix a9) 1 = 0)) 1 (.inr (oRoll (nJ (X 0) 5 a9 0 0), nEv X (X 0) 5 a9 0 0))))) : (r < 0 ∧ X' = X) ∨ (¬ r < 0 ∧ lInv X' na nv (e + 1) ∧ sK (X 0) (X' 0)) := by
  obtain ⟨M, n, hI, hn⟩ := h.i
  rcases lres_ev (gch_g (gch_g gch_r)) hr with ⟨hg, hG, hv, hX⟩ | ⟨hl, hX⟩
  · right
    have hX : X' = nEv X (X 0) 5 a9 0 0 := hX
    obtain ⟨-, -, n', hn', hI'⟩ := (sim_strike (hc := fun k => if k = 2 then 1 else 2) (v := a9) hI rfl (by omega) rfl rfl).2 _ _ hG
    subst hX
    simp only [Bool.and_eq_true, decide_eq_true_eq, and_assoc] at hg
    obtain ⟨-, -, -⟩ := hg
    obtain ⟨k1, k2⟩ := h.stepL (Or.inr (Or.inr (Or.inl (rfl)))) hI' (by omega) (Or.inr (Or.inl (Or.inr (Or.inl (rfl))))) (Or.inr (Or.inr (Or.inr (Or.inr (Or.inl (rfl)))))) (Or.inr (Or.inr (Or.inr (Or.inr (Or.inl (rfl))))))
    refine ⟨?_, k1, k2⟩
    rw [hv]
    have h40 := hI'.oOk.nv40
    rw [nEv0] at h40
    refine isum01 (fun k => ?_) (by omega)
    show (if nJ (X 0) 5 a9 0 0 6 k 1 = 0 then (0 : Int32) else 1) = 0 ∨ _
    split
    · exact Or.inl rfl
    · exact Or.inr rfl
  · left; exact ⟨hl, by rw [hX, wdo_eta]⟩
theorem le_restore (h : lInv X na nv e) (he : e < 500) {a9 b9 r : Int32} (hr : (r, X') = lres (wdo X 0 (X 0)) (nG (inB a9 (onv (X 0))) 2 (nG (decide ((X 0) 6 (nix a9) 1 = 0)) 1 (.inr (oRoll (nJ (X 0) 6 a9 0 0), nEv X (X 0) 6 a9 0 0))))) : (r < 0 ∧ X' = X) ∨ (¬ r < 0 ∧ lInv X' na nv (e + 1) ∧ sK (X 0) (X' 0)) := by
  obtain ⟨M, n, hI, hn⟩ := h.i
  rcases lres_ev (gch_g (gch_g gch_r)) hr with ⟨hg, hG, hv, hX⟩ | ⟨hl, hX⟩
  · right
    have hX : X' = nEv X (X 0) 6 a9 0 0 := hX
    obtain ⟨-, -, n', hn', hI'⟩ := (sim_restore (hc := fun k => if k = 2 then 1 else 2) (v := a9) hI rfl (by omega) rfl rfl).2 _ _ hG
    subst hX
    simp only [Bool.and_eq_true, decide_eq_true_eq, and_assoc] at hg
    obtain ⟨-, -, -⟩ := hg
    obtain ⟨k1, k2⟩ := h.stepL (Or.inr (Or.inr (Or.inr (Or.inl (rfl))))) hI' (by omega) (Or.inr (Or.inl (Or.inr (Or.inr (Or.inl (rfl)))))) (Or.inr (Or.inr (Or.inr (Or.inr (Or.inr (Or.inl (rfl))))))) (Or.inr (Or.inr (Or.inr (Or.inr (Or.inr (Or.inl (rfl)))))))
    refine ⟨?_, k1, k2⟩
    rw [hv]
    have h40 := hI'.oOk.nv40
    rw [nEv0] at h40
    refine isum01 (fun k => ?_) (by omega)
    show (if nJ (X 0) 6 a9 0 0 6 k 1 = 0 then (0 : Int32) else 1) = 0 ∨ _
    split
    · exact Or.inl rfl
    · exact Or.inr rfl
  · left; exact ⟨hl, by rw [hX, wdo_eta]⟩
theorem le_pay (h : lInv X na nv e) (he : e < 500) {a9 b9 r : Int32} (hr : (r, X') = lres (wdo X 0 (X 0)) (nG (inB a9 (onp (X 0))) 2 (nG (decide (1 ≤ b9) && decide (b9 ≤ 1000)) 0 (nG (oOpen (X 0)) 1 (nG (!oGone (X 0) a9) 1 (.inr (nJ (X 0) 9 a9 b9 0 11 (nix a9) 3, nEv X (X 0) 9 a9 b9 0))))))) : (r < 0 ∧ X' = X) ∨ (¬ r < 0 ∧ lInv X' na nv (e + 1) ∧ sK (X 0) (X' 0)) := by
  obtain ⟨M, n, hI, hn⟩ := h.i
  rcases lres_ev (gch_g (gch_g (gch_g (gch_g gch_r)))) hr with ⟨hg, hG, hv, hX⟩ | ⟨hl, hX⟩
  · right
    have hX : X' = nEv X (X 0) 9 a9 b9 0 := hX
    obtain ⟨-, -, n', hn', hI'⟩ := (sim_pay (hc := fun k => if k = 2 then 1 else if k = 0 then 2 else if k = 1 then 3 else 4) (x := a9) (a := b9) hI rfl (by omega) rfl rfl rfl).2 _ _ hG
    subst hX
    simp only [Bool.and_eq_true, decide_eq_true_eq, and_assoc] at hg
    obtain ⟨-, g2, g3, -, -, -⟩ := hg
    obtain ⟨k1, k2⟩ := h.stepL (Or.inr (Or.inr (Or.inr (Or.inr (Or.inr (Or.inl (rfl))))))) hI' (by omega) (Or.inr (Or.inl (Or.inr (Or.inr (Or.inr (Or.inl (rfl))))))) (Or.inr (Or.inr (Or.inr (Or.inr (Or.inr (Or.inr (Or.inr (Or.inr (Or.inl (⟨rfl, i32_1le (by decide) g2 g3⟩)))))))))) (Or.inr (Or.inr (Or.inr (Or.inr (Or.inr (Or.inr (Or.inr (Or.inr (Or.inl (rfl))))))))))
    refine ⟨?_, k1, k2⟩
    rw [hv]
    obtain ⟨q, hq, eq⟩ := (k1.x (nix a9)).1
    rw [nEv0] at eq
    show ¬ nJ (X 0) 9 a9 b9 0 11 (nix a9) 3 < 0
    rw [eq]
    exact nI_pos (by omega)
  · left; exact ⟨hl, by rw [hX, wdo_eta]⟩
theorem le_withdraw (h : lInv X na nv e) (he : e < 500) {a9 b9 r : Int32} (hr : (r, X') = lres (wdo X 0 (X 0)) (nG (inB a9 (onp (X 0))) 2 (nG (!oGone (X 0) a9) 1 (nG (!oRej (X 0) a9) 1 (nG (oChg (X 0)) 1 (.inr (oOthers (nJ (X 0) 10 a9 0 0) a9 - oOthers (X 0) a9, nEv X (X 0) 10 a9 0 0))))))) : (r < 0 ∧ X' = X) ∨ (¬ r < 0 ∧ lInv X' na nv (e + 1) ∧ sK (X 0) (X' 0)) := by
  obtain ⟨M, n, hI, hn⟩ := h.i
  rcases lres_ev (gch_g (gch_g (gch_g (gch_g gch_r)))) hr with ⟨hg, hG, hv, hX⟩ | ⟨hl, hX⟩
  · right
    have hX : X' = nEv X (X 0) 10 a9 0 0 := hX
    obtain ⟨-, -, n', hn', hI'⟩ := (sim_withdraw (hc := fun k => if k = 2 then 1 else 2) (x := a9) hI rfl (by omega) rfl rfl).2 _ _ hG
    subst hX
    simp only [Bool.and_eq_true, decide_eq_true_eq, and_assoc] at hg
    obtain ⟨g1, -, -, -, -⟩ := hg
    obtain ⟨k1, k2⟩ := h.stepL (Or.inr (Or.inr (Or.inr (Or.inr (Or.inr (Or.inr (Or.inl (rfl)))))))) hI' (by omega) (Or.inr (Or.inl (Or.inr (Or.inr (Or.inr (Or.inr (Or.inl (rfl)))))))) (Or.inr (Or.inr (Or.inr (Or.inr (Or.inr (Or.inr (Or.inr (Or.inr (Or.inr (Or.inl (rfl))))))))))) (Or.inr (Or.inr (Or.inr (Or.inr (Or.inr (Or.inr (Or.inr (Or.inr (Or.inr (Or.inl (rfl)))))))))))
    refine ⟨?_, k1, k2⟩
    rw [hv]
    have hB := hI.q.b
    have hw := hI.q.withdraw (x := a9) (by rw [← hB.eonp]; exact inB_t.mp g1)
    show ¬ oOthers (nJ (X 0) 10 a9 0 0) a9 - oOthers (X 0) a9 < 0
    have e9 : nJ (X 0) 10 a9 0 0 = oJudge (oWd (X 0) a9) := rfl
    rw [e9, hw]
    have h150 := hB.ns150
    split
    · refine isum01 (fun k => ?_) (by omega)
      split
      · exact Or.inr rfl
      · exact Or.inl rfl
    · decide
  · left; exact ⟨hl, by rw [hX, wdo_eta]⟩
theorem le_die (h : lInv X na nv e) (he : e < 500) {a9 b9 r : Int32} (hr : (r, X') = lres (wdo X 0 (X 0)) (nG (inB a9 (onp (X 0))) 2 (nG (!oGone (X 0) a9) 1 (nG (!oRej (X 0) a9) 1 (nG (decide ((X 0) 11 (nix a9) 6 = 0)) 1 (nG (!oPoll (X 0)) 1 (.inr (nb (oRepl (nJ (X 0) 11 a9 0 0) a9), nEv X (X 0) 11 a9 0 0)))))))) : (r < 0 ∧ X' = X) ∨ (¬ r < 0 ∧ lInv X' na nv (e + 1) ∧ sK (X 0) (X' 0)) := by
  obtain ⟨M, n, hI, hn⟩ := h.i
  rcases lres_ev (gch_g (gch_g (gch_g (gch_g (gch_g gch_r))))) hr with ⟨hg, hG, hv, hX⟩ | ⟨hl, hX⟩
  · right
    have hX : X' = nEv X (X 0) 11 a9 0 0 := hX
    obtain ⟨-, -, n', hn', hI'⟩ := (sim_die (hc := fun k => if k = 2 then 1 else 2) (x := a9) hI rfl (by omega) rfl rfl).2 _ _ hG
    subst hX
    simp only [Bool.and_eq_true, decide_eq_true_eq, and_assoc] at hg
    obtain ⟨-, -, -, -, -, -⟩ := hg
    obtain ⟨k1, k2⟩ := h.stepL (Or.inr (Or.inr (Or.inr (Or.inr (Or.inr (Or.inr (Or.inr (Or.inl (rfl))))))))) hI' (by omega) (Or.inr (Or.inl (Or.inr (Or.inr (Or.inr (Or.inr (Or.inr (Or.inl (rfl))))))))) (Or.inr (Or.inr (Or.inr (Or.inr (Or.inr (Or.inr (Or.inr (Or.inr (Or.inr (Or.inr (Or.inl (rfl)))))))))))) (Or.inr (Or.inr (Or.inr (Or.inr (Or.inr (Or.inr (Or.inr (Or.inr (Or.inr (Or.inr (Or.inl (rfl))))))))))))
    refine ⟨?_, k1, k2⟩
    rw [hv]
    show ¬ nb _ < 0
    rcases nb_01 (oRepl (nJ (X 0) 11 a9 0 0) a9) with q | q <;> rw [q] <;> decide
  · left; exact ⟨hl, by rw [hX, wdo_eta]⟩
theorem le_replace (h : lInv X na nv e) (he : e < 500) {q9 n1 n2 n3 n4 r : Int32} (hr : (r, X') = lres (wdo X 0 (X 0)) (nG (inB q9 (onp (X 0))) 2 (nG (nmOk n1 n2 n3 n4) 0 (nG (oRepl (X 0) q9) 1 (.inr (nJ (X 0) 12 q9 (cName n1 n2 n3 n4) 0 11 (nix q9) 5, nEv X (X 0) 12 q9 (cName n1 n2 n3 n4) 0)))))) : (r < 0 ∧ X' = X) ∨ (¬ r < 0 ∧ lInv X' na nv (e + 1) ∧ sK (X 0) (X' 0)) := by
  obtain ⟨M, n, hI, hn⟩ := h.i
  rcases lres_ev (gch_g (gch_g (gch_g gch_r))) hr with ⟨hg, hG, hv, hX⟩ | ⟨hl, hX⟩
  · right
    have hX : X' = nEv X (X 0) 12 q9 (cName n1 n2 n3 n4) 0 := hX
    obtain ⟨-, -, n', hn', hI'⟩ := (sim_replace (hc := fun k => if k = 2 then 1 else if k = 0 then 2 else if k = 1 then 3 else 4) (x := q9) (n1 := n1) (n2 := n2) (n3 := n3) (n4 := n4) hI rfl (by omega) rfl rfl rfl).2 _ _ hG
    subst hX
    simp only [Bool.and_eq_true, decide_eq_true_eq, and_assoc] at hg
    obtain ⟨-, -, -, -⟩ := hg
    obtain ⟨k1, k2⟩ := h.stepL (Or.inr (Or.inr (Or.inr (Or.inr (Or.inr (Or.inr (Or.inr (Or.inr (Or.inl (rfl)))))))))) hI' (by omega) (Or.inr (Or.inl (Or.inr (Or.inr (Or.inr (Or.inr (Or.inr (Or.inr (Or.inl (rfl)))))))))) (Or.inr (Or.inr (Or.inr (Or.inr (Or.inr (Or.inr (Or.inr (Or.inr (Or.inr (Or.inr (Or.inr (Or.inl (rfl))))))))))))) (Or.inr (Or.inr (Or.inr (Or.inr (Or.inr (Or.inr (Or.inr (Or.inr (Or.inr (Or.inr (Or.inr (Or.inl (rfl)))))))))))))
    refine ⟨?_, k1, k2⟩
    rw [hv]
    obtain ⟨q, hq, eq⟩ := (k1.x (nix q9)).2.2
    rw [nEv0] at eq
    show ¬ nJ (X 0) 12 q9 (cName n1 n2 n3 n4) 0 11 (nix q9) 5 < 0
    rw [eq]
    exact nI_pos (by omega)
  · left; exact ⟨hl, by rw [hX, wdo_eta]⟩
theorem le_file (h : lInv X na nv e) (he : e < 500) {a9 q9 n1 n2 n3 n4 r : Int32} (hr : (r, X') = lres (wdo X 0 (X 0)) (nG (inB a9 (ona (X 0))) 2 (nG (decide (-1 ≤ q9) && decide (q9 ≤ 7)) 0 (nG (nmOk n1 n2 n3 n4) 0 (nG (oOpen (X 0)) 1 (nG (decide ((X 0) 0 0 6 < 12)) 1 (.inr (nJ (X 0) 7 a9 q9 (cName n1 n2 n3 n4) 0 0 6 - 1, nEv X (X 0) 7 a9 q9 (cName n1 n2 n3 n4))))))))) : (r < 0 ∧ X' = X) ∨ (¬ r < 0 ∧ lInv X' na nv (e + 1) ∧ sK (X 0) (X' 0)) := by
  obtain ⟨M, n, hI, hn⟩ := h.i
  rcases lres_ev (gch_g (gch_g (gch_g (gch_g (gch_g gch_r))))) hr with ⟨hg, hG, hv, hX⟩ | ⟨hl, hX⟩
  · right
    have hX : X' = nEv X (X 0) 7 a9 q9 (cName n1 n2 n3 n4) := hX
    obtain ⟨-, -, n', hn', hI'⟩ := (sim_file (hc := fun k => if k = 2 then 1 else if k = 0 then 2 else if k = 1 then 3 else 4) (a := a9) (q := q9) (n1 := n1) (n2 := n2) (n3 := n3) (n4 := n4) hI rfl (by omega) rfl rfl rfl).2 _ _ hG
    subst hX
    simp only [Bool.and_eq_true, decide_eq_true_eq, and_assoc] at hg
    obtain ⟨-, -, -, -, g4, -, -⟩ := hg
    obtain ⟨k1, k2⟩ := h.stepL (Or.inr (Or.inr (Or.inr (Or.inr (Or.inl (rfl)))))) hI' (by omega) (Or.inr (Or.inr (show oOpen (oBegin (X 0) a9 q9 (cName n1 n2 n3 n4)) = true from g4))) (Or.inr (Or.inr (Or.inr (Or.inr (Or.inr (Or.inr (Or.inl (rfl)))))))) (Or.inr (Or.inr (Or.inr (Or.inr (Or.inr (Or.inr (Or.inl (rfl))))))))
    refine ⟨?_, k1, k2⟩
    rw [hv]
    have h12 := hI.oOk.np12
    show ¬ nJ (X 0) 7 a9 q9 (cName n1 n2 n3 n4) 0 0 6 - 1 < 0
    have e9 : nJ (X 0) 7 a9 q9 (cName n1 n2 n3 n4) 0 0 6 = X 0 0 0 6 + 1 := by
      show oJudge (oBegin (X 0) a9 q9 (cName n1 n2 n3 n4)) 0 0 6 = _
      rw [oJudge_same _ 0 0 6 (by decide) (by decide)]
      unfold oBegin
      rw [nput_se]
    rw [e9, hI.oOk.np, ← nI_succ, nI_pred]
    exact nI_pos (by omega)
  · left; exact ⟨hl, by rw [hX, wdo_eta]⟩
theorem le_addVotes (h : lInv X na nv e) (he : e < 500) {a9 b9 r : Int32} (hr : (r, X') = lres (wdo X 0 (X 0)) (nG (inB a9 (onp (X 0))) 2 (nG (decide (1 ≤ b9) && decide (b9 ≤ 10000)) 0 (nG (decide (oWhy (X 0) a9 = 0)) 1 (nG (oPoll (X 0) && decide ((X 0) 4 (nix ((X 0) 11 (nix a9) 0)) 2 = 0)) 1 (.inr (nJ (X 0) 14 a9 b9 0 11 (nix a9) 4, nEv X (X 0) 14 a9 b9 0))))))) : (r < 0 ∧ X' = X) ∨ (¬ r < 0 ∧ lInv X' na nv (e + 1) ∧ sK (X 0) (X' 0)) := by
  obtain ⟨M, n, hI, hn⟩ := h.i
  rcases lres_ev (gch_g (gch_g (gch_g (gch_g gch_r)))) hr with ⟨hg, hG, hv, hX⟩ | ⟨hl, hX⟩
  · right
    have hX : X' = nEv X (X 0) 14 a9 b9 0 := hX
    obtain ⟨-, -, n', hn', hI'⟩ := (sim_addVotes (hc := fun k => if k = 2 then 1 else if k = 0 then 2 else if k = 1 then 3 else 4) (x := a9) (a := b9) (U := nput M 30 0 0 0) hI rfl (by omega) rfl rfl rfl mOff.rf).2 _ _ hG
    subst hX
    simp only [Bool.and_eq_true, decide_eq_true_eq, and_assoc] at hg
    obtain ⟨-, g2, g3, -, -, -, -⟩ := hg
    obtain ⟨k1, k2⟩ := h.stepL (Or.inr (Or.inr (Or.inr (Or.inr (Or.inr (Or.inr (Or.inr (Or.inr (Or.inr (Or.inl (rfl))))))))))) hI' (by omega) (Or.inr (Or.inl (Or.inr (Or.inr (Or.inr (Or.inr (Or.inr (Or.inr (Or.inr (Or.inl (rfl))))))))))) (Or.inr (Or.inr (Or.inr (Or.inr (Or.inr (Or.inr (Or.inr (Or.inr (Or.inr (Or.inr (Or.inr (Or.inr (Or.inl (⟨rfl, i32_1le (by decide) g2 g3⟩)))))))))))))) (Or.inr (Or.inr (Or.inr (Or.inr (Or.inr (Or.inr (Or.inr (Or.inr (Or.inr (Or.inr (Or.inr (Or.inr (Or.inl (rfl))))))))))))))
    refine ⟨?_, k1, k2⟩
    rw [hv]
    obtain ⟨q, hq, eq⟩ := (k1.x (nix a9)).2.1
    rw [nEv0] at eq
    show ¬ nJ (X 0) 14 a9 b9 0 11 (nix a9) 4 < 0
    rw [eq]
    exact nI_pos (by omega)
  · left; exact ⟨hl, by rw [hX, wdo_eta]⟩
theorem le_finish (h : lInv X na nv e) (he : e < 500) {a9 b9 r : Int32} (hr : (r, X') = lres (wdo X 0 (X 0)) (nG (inB a9 (ona (X 0))) 2 (nG (oPoll (X 0) && decide ((X 0) 4 (nix a9) 2 = 0)) 1 (.inr (oLostIn (nJ (X 0) 15 a9 0 0) a9, nEv X (X 0) 15 a9 0 0))))) : (r < 0 ∧ X' = X) ∨ (¬ r < 0 ∧ lInv X' na nv (e + 1) ∧ sK (X 0) (X' 0)) := by
  obtain ⟨M, n, hI, hn⟩ := h.i
  rcases lres_ev (gch_g (gch_g gch_r)) hr with ⟨hg, hG, hv, hX⟩ | ⟨hl, hX⟩
  · right
    have hX : X' = nEv X (X 0) 15 a9 0 0 := hX
    obtain ⟨-, -, n', hn', hI'⟩ := (sim_finish (hc := fun k => if k = 2 then 1 else 2) (a := a9) (U := nput (nput M 30 0 0 0) 38 0 (nix a9) 1) hI rfl (by omega) rfl rfl mOff.rf).2 _ _ hG
    subst hX
    simp only [Bool.and_eq_true, decide_eq_true_eq, and_assoc] at hg
    obtain ⟨-, -, -, -⟩ := hg
    obtain ⟨k1, k2⟩ := h.stepL (Or.inr (Or.inr (Or.inr (Or.inr (Or.inr (Or.inr (Or.inr (Or.inr (Or.inr (Or.inr (rfl))))))))))) hI' (by omega) (Or.inr (Or.inl (Or.inr (Or.inr (Or.inr (Or.inr (Or.inr (Or.inr (Or.inr (Or.inr (rfl))))))))))) (Or.inr (Or.inr (Or.inr (Or.inr (Or.inr (Or.inr (Or.inr (Or.inr (Or.inr (Or.inr (Or.inr (Or.inr (Or.inr (rfl)))))))))))))) (Or.inr (Or.inr (Or.inr (Or.inr (Or.inr (Or.inr (Or.inr (Or.inr (Or.inr (Or.inr (Or.inr (Or.inr (Or.inr (rfl))))))))))))))
    refine ⟨?_, k1, k2⟩
    rw [hv]
    have h12 := hI'.oOk.np12
    rw [nEv0] at h12
    refine isum01 (fun k => ?_) (by omega)
    split
    · exact Or.inr rfl
    · exact Or.inl rfl
  · left; exact ⟨hl, by rw [hX, wdo_eta]⟩
theorem le_sign (h : lInv X na nv e) (he : e < 500) {a9 b9 r : Int32} (hr : (r, X') = lres (wdo X 0 (X 0)) (nG (inB a9 (onp (X 0))) 2 (nG (inB b9 (onv (X 0))) 2 (nG (oOpen (X 0)) 1 (nG (!oGone (X 0) a9) 1 (nG (decide ((X 0) 0 0 7 < 150)) 1 (.inr (nJ (X 0) 8 a9 b9 0 0 0 7 - 1, nEv X (X 0) 8 a9 b9 0)))))))) : (r < 0 ∧ X' = X) ∨ (¬ r < 0 ∧ lInv X' na nv (e + 1) ∧ sS (X 0) (X' 0) a9 b9) := by
  obtain ⟨M, n, hI, hn⟩ := h.i
  rcases lres_ev (gch_g (gch_g (gch_g (gch_g (gch_g gch_r))))) hr with ⟨hg, hG, hv, hX⟩ | ⟨hl, hX⟩
  · right
    have hX : X' = nEv X (X 0) 8 a9 b9 0 := hX
    obtain ⟨-, -, n', hn', hI'⟩ := (sim_sign (hc := fun k => if k = 2 then 1 else 2) (x := a9) (v := b9) hI rfl (by omega) rfl rfl).2 _ _ hG
    subst hX
    simp only [Bool.and_eq_true, decide_eq_true_eq, and_assoc] at hg
    obtain ⟨-, -, g3, -, g5, -⟩ := hg
    have h150 := hI.oOk.ns150
    have e7 : oSign (X 0) a9 b9 0 0 7 = X 0 0 0 7 + 1 := by
      unfold oSign
      split
      · rw [nput_nk (by decide)]; unfold oSig1; rw [nput_se]
      · unfold oSig1; rw [nput_se]
    have e13 : ∀ k j, oSign (X 0) a9 b9 13 k j = sigBegin (X 0) (ons (X 0)) a9 b9 (nb (oLocal (X 0) a9 b9)) (X 0 6 (nix b9) 2) 13 k j := by
      intro k j
      unfold oSign
      split
      · rw [nput_nk (by decide)]; unfold oSig1; rw [nput_nk (by decide)]
      · unfold oSig1; rw [nput_nk (by decide)]
    have e2 : oSign (X 0) a9 b9 2 = X 0 2 := by
      funext i j
      unfold oSign
      split
      · rw [nput_nk (by decide)]; rfl
      · rfl
    have e1 : oSign (X 0) a9 b9 1 = X 0 1 := by
      funext i j
      unfold oSign
      split
      · rw [nput_nk (by decide)]; rfl
      · rfl
    have hop : oOpen (oSign (X 0) a9 b9) = true := by
      have : oOpen (oSign (X 0) a9 b9) = oOpen (X 0) := by unfold oOpen; rw [e1]
      rw [this]; exact g3
    have hlt : ons (X 0) < 150 := by
      rw [hI.oOk.ns] at g5
      exact (nI_ltI (b := 150) (by omega) (by decide)).mp g5
    have e0 : nEv X (X 0) 8 a9 b9 0 0 = oJudge (oSign (X 0) a9 b9) := nEv0
    have hs := oJudge_same (oSign (X 0) a9 b9)
    refine ⟨?_, h.step hI' (by omega) (Or.inr (Or.inr hop)) (Or.inr (Or.inr (Or.inr (Or.inr (Or.inr (Or.inr (Or.inr (Or.inl (rfl))))))))) (Or.inr (Or.inr (Or.inr (Or.inr (Or.inr (Or.inr (Or.inr (Or.inl (rfl))))))))) ?_ ?_ ?_, ?_⟩
    · rw [hv]
      show ¬ oJudge (oSign (X 0) a9 b9) 0 0 7 - 1 < 0
      rw [hs 0 0 7 (by decide) (by decide), e7, hI.oOk.ns, ← nI_succ, nI_pred]
      exact nI_pos (by omega)
    · rw [← h.ena]; show nix (oSign (X 0) a9 b9 2 0 2) = _; rw [e2]; rfl
    · rw [← h.env]; show nix (oSign (X 0) a9 b9 2 0 3) = _; rw [e2]; rfl
    · show oSign (X 0) a9 b9 1 0 1 = _; rw [e1]; exact h.cl
    · rw [e0]
      refine ⟨?_, hlt, ?_, ?_, fun k hk => ⟨?_, ?_⟩⟩
      · rw [hs.eons]
        show nix (oSign (X 0) a9 b9 0 0 7) = _
        rw [e7, hI.oOk.ns, ← nI_succ, nix_nI (by omega)]
      · rw [hs 13 _ 0 (by decide) (by decide), e13]
        unfold sigBegin
        rw [nput_nj (by decide), nput_nj (by decide), nput_nj (by decide), nput_nj (by decide), nput_se]
      · rw [hs 13 _ 1 (by decide) (by decide), e13]
        unfold sigBegin
        rw [nput_nj (by decide), nput_nj (by decide), nput_nj (by decide), nput_se]
      · rw [hs 13 _ 0 (by decide) (by decide), e13]
        have hne : ¬ k = ons (X 0) := by omega
        unfold sigBegin
        rw [nput_ni hne, nput_ni hne, nput_ni hne, nput_ni hne, nput_ni hne]
      · rw [hs 13 _ 1 (by decide) (by decide), e13]
        have hne : ¬ k = ons (X 0) := by omega
        unfold sigBegin
        rw [nput_ni hne, nput_ni hne, nput_ni hne, nput_ni hne, nput_ni hne]
  · left; exact ⟨hl, by rw [hX, wdo_eta]⟩
end EV
