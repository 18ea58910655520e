/-! What an event does to the run's invariant. -/
/-- neither the rows nor the counts of the signatures change, nor the verdicts, nor the calendar -/
def hKp (S T : NSt) : Prop := T 13 = S 13 ∧ T 0 0 7 = S 0 0 7 ∧ T 0 0 6 = S 0 0 6 ∧ T 1 = S 1 ∧ ∀ i, T 11 i 9 = S 11 i 9
section ST
variable {S T M : NSt} {x f z t : Int32}
theorem hp1 : oHap S 1 f z t = nput (oJudge S) 1 0 0 (oJudge S 1 0 0 + f) := rfl
theorem hp2 : oHap S 2 f z t = rollArea S f z := rfl
theorem hp3 : oHap S 3 f z t = rollVoter S f := rfl
theorem hp4 : oHap S 4 f z t = nput S 6 (nix f) 0 z := rfl
theorem hp5 : oHap S 5 f z t = nput S 6 (nix f) 1 0 := rfl
theorem hp6 : oHap S 6 f z t = nput S 6 (nix f) 1 1 := rfl
theorem hp7 : oHap S 7 f z t = oBegin S f z t := rfl
theorem hp8 : oHap S 8 f z t = oSign S f z := rfl
theorem hp9 : oHap S 9 f z t = nput S 11 (nix f) 3 (S 11 (nix f) 3 + z) := rfl
theorem hp10 : oHap S 10 f z t = oWd S f := rfl
theorem hp11 : oHap S 11 f z t = nput S 11 (nix f) 6 1 := rfl
theorem hp12 : oHap S 12 f z t = paperRenew S (nix f) z := rfl
theorem hp14 : oHap S 14 f z t = nput S 11 (nix f) 4 (S 11 (nix f) 4 + z) := rfl
theorem hp15 : oHap S 15 f z t = nput S 4 (nix f) 2 1 := rfl
theorem nput_k (S : NSt) {k i j k' : Nat} {v : Int32} (h : k' ≠ k) : nput S k i j v k' = S k' := by
  funext i' j'
  exact nput_nk h
theorem hap_kp (hx : x = 4 ∨ x = 5 ∨ x = 6 ∨ x = 9 ∨ x = 10 ∨ x = 11 ∨ x = 12 ∨ x = 14 ∨ x = 15) : hKp S (oHap S x f z t) := by
  rcases hx with rfl | rfl | rfl | rfl | rfl | rfl | rfl | rfl | rfl
  · rw [hp4]; exact ⟨nput_k S (by decide), rfl, rfl, nput_k S (by decide), fun i => nput_nk (by decide)⟩
  · rw [hp5]; exact ⟨nput_k S (by decide), rfl, rfl, nput_k S (by decide), fun i => nput_nk (by decide)⟩
  · rw [hp6]; exact ⟨nput_k S (by decide), rfl, rfl, nput_k S (by decide), fun i => nput_nk (by decide)⟩
  · rw [hp9]; exact ⟨nput_k S (by decide), rfl, rfl, nput_k S (by decide), fun i => nput_nj (by decide)⟩
  · rw [hp10]
    refine ⟨?_, rfl, rfl, ?_, fun i => ?_⟩
    · show oWd S f 13 = S 13
      unfold oWd
      rw [nput_k _ (by decide), nput_k _ (by decide)]
    · show oWd S f 1 = S 1
      unfold oWd
      rw [nput_k _ (by decide), nput_k _ (by decide)]
    · show oWd S f 11 i 9 = S 11 i 9
      unfold oWd
      rw [nput_nj (by decide), nput_nk (by decide)]
  · rw [hp11]; exact ⟨nput_k S (by decide), rfl, rfl, nput_k S (by decide), fun i => nput_nj (by decide)⟩
  · rw [hp12]
    refine ⟨?_, rfl, rfl, ?_, fun i => ?_⟩
    · show paperRenew S (nix f) z 13 = S 13
      unfold paperRenew
      rw [nput_k _ (by decide), nput_k _ (by decide), nput_k _ (by decide)]
    · show paperRenew S (nix f) z 1 = S 1
      unfold paperRenew
      rw [nput_k _ (by decide), nput_k _ (by decide), nput_k _ (by decide)]
    · show paperRenew S (nix f) z 11 i 9 = S 11 i 9
      unfold paperRenew
      rw [nput_nj (by decide), nput_nj (by decide), nput_nj (by decide)]
  · rw [hp14]; exact ⟨nput_k S (by decide), rfl, rfl, nput_k S (by decide), fun i => nput_nj (by decide)⟩
  · rw [hp15]; exact ⟨nput_k S (by decide), rfl, rfl, nput_k S (by decide), fun i => nput_nk (by decide)⟩
theorem oJudge_cl (h : oOpen S = false) : oJudge S = S := by unfold oJudge; rw [h]; rfl
theorem oSame.opn {S T : NSt} (h : oSame S T) : oOpen T = oOpen S := by unfold oOpen; rw [h 1 0 0 (by decide) (by decide), h 1 0 1 (by decide) (by decide)]
theorem hKp.uq (h : hKp S T) (hu : nUq S) : nUq T := by
  obtain ⟨h1, h2, -⟩ := h
  intro a b hab hb
  have e : ons T = ons S := by unfold ons; rw [h2]
  rw [h1]; rw [e] at hb
  exact hu a b hab hb
theorem hKp.opn (h : hKp S T) : oOpen T = oOpen S := by unfold oOpen; rw [h.2.2.2.1]
theorem uq_jd (h : nQ S M) (hu : nUq S) : nUq (oJudge S) := by
  cases ho : oOpen S with
  | true => exact uq_open (h.P.J h.f) (by rw [(oJudge_same S).opn]; exact ho)
  | false => rw [oJudge_cl ho]; exact hu
/-- no voter counts twice after an event either -/
theorem uq_step {M' : NSt} (h : nQ S M) (hu : nUq S) (h' : nQ (nJ S x f z t) M') (hx : x = 1 ∨ (x = 4 ∨ x = 5 ∨ x = 6 ∨ x = 9 ∨ x = 10 ∨ x = 11 ∨ x = 12 ∨ x = 14 ∨ x = 15) ∨ oOpen (oHap S x f z t) = true) : nUq (nJ S x f z t) := by
  cases ho : oOpen (oHap S x f z t) with
  | true => exact uq_open h' (by show oOpen (oJudge _) = _; rw [(oJudge_same _).opn]; exact ho)
  | false =>
    have e : nJ S x f z t = oHap S x f z t := oJudge_cl ho
    rw [e]
    rcases hx with rfl | hx | hx
    · intro a b hab hb
      exact uq_jd h hu a b hab hb
    · exact (hap_kp hx).uq hu
    · rw [ho] at hx; cases hx
/-- the small numbers after an event -/
theorem nEx.jd {e : Nat} (h : nEx S e) : nEx (oJudge S) e := by
  intro i
  have hs := oJudge_same S
  rw [hs 11 i 3 (by decide) (by decide), hs 11 i 4 (by decide) (by decide), hs 11 i 5 (by decide) (by decide)]
  exact h i
theorem nEx.same {e : Nat} (h : nEx S e) (g : T 11 = S 11) : nEx T e := by
  intro i
  rw [g]; exact h i
theorem nEx_put {e j : Nat} {i : Nat} {v : Int32} (h : nEx S e) (h3 : j = 3 → ∃ q, q ≤ 1000 * (e + 1) ∧ v = nI q) (h4 : j = 4 → ∃ q, q ≤ 10000 * (e + 1) ∧ v = nI q) (h5 : j = 5 → ∃ q, q ≤ e + 1 ∧ v = nI q) : nEx (nput S 11 i j v) (e + 1) := by
  intro i'
  obtain ⟨g3, g4, g5⟩ := (h.mono (Nat.le_succ e)) i'
  refine ⟨?_, ?_, ?_⟩
  · by_cases c : 3 = j ∧ i' = i
    · obtain ⟨rfl, rfl⟩ := c
      rw [nput_se]; exact h3 rfl
    · have : nput S 11 i j v 11 i' 3 = S 11 i' 3 := by unfold nput; rw [if_neg (fun q => c q.2)]
      rw [this]; exact g3
  · by_cases c : 4 = j ∧ i' = i
    · obtain ⟨rfl, rfl⟩ := c
      rw [nput_se]; exact h4 rfl
    · have : nput S 11 i j v 11 i' 4 = S 11 i' 4 := by unfold nput; rw [if_neg (fun q => c q.2)]
      rw [this]; exact g4
  · by_cases c : 5 = j ∧ i' = i
    · obtain ⟨rfl, rfl⟩ := c
      rw [nput_se]; exact h5 rfl
    · have : nput S 11 i j v 11 i' 5 = S 11 i' 5 := by unfold nput; rw [if_neg (fun q => c q.2)]
      rw [this]; exact g5
theorem nEx_puto {e j : Nat} {i : Nat} {v : Int32} (h : nEx S e) (hj : j ≠ 3 ∧ j ≠ 4 ∧ j ≠ 5) : nEx (nput S 11 i j v) e := by
  intro i'
  rw [nput_nj hj.1.symm, nput_nj hj.2.1.symm, nput_nj hj.2.2.symm]
  exact h i'
theorem nEx_put0 {e j : Nat} {i : Nat} (h : nEx S e) : nEx (nput S 11 i j 0) e := by
  intro i'
  obtain ⟨g3, g4, g5⟩ := h i'
  refine ⟨?_, ?_, ?_⟩
  · unfold nput; split
    · exact ⟨0, Nat.zero_le _, rfl⟩
    · exact g3
  · unfold nput; split
    · exact ⟨0, Nat.zero_le _, rfl⟩
    · exact g4
  · unfold nput; split
    · exact ⟨0, Nat.zero_le _, rfl⟩
    · exact g5
theorem nEx_off {e k i j : Nat} {v : Int32} (h : nEx S e) (hk : k ≠ 11) : nEx (nput S k i j v) e := h.same (nput_k S (fun z => hk z.symm))
theorem ex_step {e : Nat} (h : nEx S e) (hx : x = 1 ∨ x = 2 ∨ x = 3 ∨ x = 4 ∨ x = 5 ∨ x = 6 ∨ x = 7 ∨ x = 8 ∨ (x = 9 ∧ ∃ a, a ≤ 1000 ∧ z = nI a) ∨ x = 10 ∨ x = 11 ∨ x = 12 ∨ (x = 14 ∧ ∃ a, a ≤ 10000 ∧ z = nI a) ∨ x = 15) : nEx (oHap S x f z t) (e + 1) := by
  have h1 := h.mono (Nat.le_succ e)
  rcases hx with rfl | rfl | rfl | rfl | rfl | rfl | rfl | rfl | ⟨rfl, a, ha, rfl⟩ | rfl | rfl | rfl | ⟨rfl, a, ha, rfl⟩ | rfl
  · exact nEx_off (S := oJudge S) h1.jd (by decide)
  · exact nEx_off (nEx_off (nEx_off (nEx_off h1 (by decide)) (by decide)) (by decide)) (by decide)
  · exact nEx_off (nEx_off (nEx_off (nEx_off h1 (by decide)) (by decide)) (by decide)) (by decide)
  · exact nEx_off h1 (by decide)
  · exact nEx_off h1 (by decide)
  · exact nEx_off h1 (by decide)
  · exact nEx_off (nEx_put0 (nEx_put0 (nEx_put0 (nEx_put0 (nEx_put0 (nEx_put0 (nEx_put0 (nEx_puto (nEx_puto (nEx_puto h1 (by decide)) (by decide)) (by decide))))))))) (by decide)
  · have h8 : nEx (oSig1 S f z) (e + 1) := nEx_off (nEx_off (nEx_off (nEx_off (nEx_off (nEx_off h1 (by decide)) (by decide)) (by decide)) (by decide)) (by decide)) (by decide)
    show nEx (oSign S f z) (e + 1)
    unfold oSign
    split
    · exact nEx_off h8 (by decide)
    · exact h8
  · obtain ⟨q, hq, eq⟩ := (h (nix f)).1
    exact nEx_put h (fun _ => ⟨q + a, by omega, by rw [eq, nI_add]⟩) (fun q => absurd q (by decide)) (fun q => absurd q (by decide))
  · exact nEx_puto (nEx_off h1 (by decide)) (by decide)
  · exact nEx_puto h1 (by decide)
  · obtain ⟨q, hq, eq⟩ := (h (nix f)).2.2
    have h5 : nEx (nput (nput S 11 (nix f) 2 z) 11 (nix f) 5 (S 11 (nix f) 5 + 1)) (e + 1) := nEx_put (nEx_puto h (by decide)) (fun q => absurd q (by decide)) (fun q => absurd q (by decide)) (fun _ => ⟨q + 1, by omega, by rw [eq, nI_1]⟩)
    exact nEx_puto h5 (by decide)
  · obtain ⟨q, hq, eq⟩ := (h (nix f)).2.1
    exact nEx_put h (fun q => absurd q (by decide)) (fun _ => ⟨q + a, by omega, by rw [eq, nI_add]⟩) (fun q => absurd q (by decide))
  · exact nEx_off h1 (by decide)
theorem nVa.jd (h : nVa S) : nVa (oJudge S) := by
  intro i
  rw [oJudge_same S 6 i 0 (by decide) (by decide)]; exact h i
theorem nVa_off {k i j : Nat} {v : Int32} (h : nVa S) (hk : k ≠ 6 ∨ j ≠ 0) : nVa (nput S k i j v) := by
  intro i'
  rcases hk with hk | hk
  · rw [nput_nk (fun z => hk z.symm)]; exact h i'
  · rw [nput_nj (fun z => hk z.symm)]; exact h i'
theorem nVa_put {i : Nat} {v : Int32} (h : nVa S) (hv : ¬ v < 0) : nVa (nput S 6 i 0 v) := by
  intro i'
  by_cases c : i' = i
  · subst c; rw [nput_se]; exact hv
  · rw [nput_ni c]; exact h i'
theorem va_step (h : nVa S) (hx : x = 1 ∨ x = 2 ∨ (x = 3 ∧ ¬ f < 0) ∨ (x = 4 ∧ ¬ z < 0) ∨ x = 5 ∨ x = 6 ∨ x = 7 ∨ x = 8 ∨ x = 9 ∨ x = 10 ∨ x = 11 ∨ x = 12 ∨ x = 14 ∨ x = 15) : nVa (oHap S x f z t) := by
  have d1 : ∀ {k : Nat}, k ≠ 6 → ∀ {j : Nat}, k ≠ 6 ∨ j ≠ 0 := fun h _ => Or.inl h
  rcases hx with rfl | rfl | ⟨rfl, hf⟩ | ⟨rfl, hz⟩ | rfl | rfl | rfl | rfl | rfl | rfl | rfl | rfl | rfl | rfl
  · exact nVa_off (S := oJudge S) h.jd (by decide)
  · exact nVa_off (nVa_off (nVa_off (nVa_off h (by decide)) (by decide)) (by decide)) (by decide)
  · exact nVa_off (nVa_off (nVa_off (nVa_put h hf) (by decide)) (by decide)) (by decide)
  · exact nVa_put h hz
  · exact nVa_off h (by decide)
  · exact nVa_off h (by decide)
  · exact nVa_off (nVa_off (nVa_off (nVa_off (nVa_off (nVa_off (nVa_off (nVa_off (nVa_off (nVa_off (nVa_off h (by decide)) (by decide)) (by decide)) (by decide)) (by decide)) (by decide)) (by decide)) (by decide)) (by decide)) (by decide)) (by decide)
  · have h8 : nVa (oSig1 S f z) := nVa_off (nVa_off (nVa_off (nVa_off (nVa_off (nVa_off h (by decide)) (by decide)) (by decide)) (by decide)) (by decide)) (by decide)
    show nVa (oSign S f z)
    unfold oSign
    split
    · exact nVa_off h8 (by decide)
    · exact h8
  · exact nVa_off h (by decide)
  · exact nVa_off (nVa_off h (by decide)) (by decide)
  · exact nVa_off h (by decide)
  · exact nVa_off (nVa_off (nVa_off h (by decide)) (by decide)) (by decide)
  · exact nVa_off h (by decide)
  · exact nVa_off h (by decide)
end ST
