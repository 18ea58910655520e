/-! The invariant of a run: the office and the model, the diary and its replay. -/
def nInv (X : NWd) (M : NSt) (n : Nat) : Prop := (nQ (X 0) M) ∧ (nZ M) ∧ (X 2 21 0 4 = nI n) ∧ (n ≤ 512) ∧ (∀ R : NSt, nP (rpl (X 2) R n) M ∧ ∀ j, j < n → oOk (rpl (X 2) R j) ∧ oEv (rpl (X 2) R j) (X 2 22 0 j) (X 2 23 0 j) (X 2 24 0 j))
theorem nInv.q {X : NWd} {M : NSt} {n : Nat} (h : nInv X M n) : nQ (X 0) M := h.1
theorem nInv.z {X : NWd} {M : NSt} {n : Nat} (h : nInv X M n) : nZ M := h.2.1
theorem nInv.d {X : NWd} {M : NSt} {n : Nat} (h : nInv X M n) : X 2 21 0 4 = nI n := h.2.2.1
theorem nInv.hn {X : NWd} {M : NSt} {n : Nat} (h : nInv X M n) : n ≤ 512 := h.2.2.2.1
theorem nInv.r {X : NWd} {M : NSt} {n : Nat} (h : nInv X M n) : ∀ R : NSt, nP (rpl (X 2) R n) M ∧ ∀ j, j < n → oOk (rpl (X 2) R j) ∧ oEv (rpl (X 2) R j) (X 2 22 0 j) (X 2 23 0 j) (X 2 24 0 j) := h.2.2.2.2
theorem nP.E {S M T : NSt} (h : nP S M) (g : mE M T) : nP S T := ⟨h.b.E g.to, fun ho => (h.c (by rw [← g.opn]; exact ho)).E h.b.np12 g⟩
theorem nInv.E {X : NWd} {M T : NSt} {n : Nat} (h : nInv X M n) (g : mE M T) : nInv X T n := ⟨h.q.E g, h.z.E g.to, h.d, h.hn, fun R => ⟨(h.r R).1.E g, (h.r R).2⟩⟩
theorem dWr_at {D : NSt} {n : Nat} (h : D 21 0 4 = nI n) (hn : n < 512) (x a b c : Int32) : dWr D x a b c 21 0 4 = nI (n + 1) ∧ (∀ k j, k = 22 ∨ k = 23 ∨ k = 24 ∨ k = 25 → j < n → dWr D x a b c k 0 j = D k 0 j) ∧ dWr D x a b c 22 0 n = x ∧ dWr D x a b c 23 0 n = a ∧ dWr D x a b c 24 0 n = b ∧ dWr D x a b c 25 0 n = c := by
  unfold dWr
  have hlt : D 21 0 4 < 512 := by rw [h, show (512 : Int32) = nI 512 from rfl]; exact (nI_ltI (by omega) (by omega)).mpr hn
  rw [if_pos hlt, h, nix_nI (by omega)]
  refine ⟨?_, fun k j hk hj => ?_, ?_, ?_, ?_, ?_⟩
  · rw [nput_se, nI_1]
  · rcases hk with rfl | rfl | rfl | rfl
    · rw [nput_nk (by decide), nput_nk (by decide), nput_nk (by decide), nput_nk (by decide), nput_nj (by omega)]
    · rw [nput_nk (by decide), nput_nk (by decide), nput_nk (by decide), nput_nj (by omega), nput_nk (by decide)]
    · rw [nput_nk (by decide), nput_nk (by decide), nput_nj (by omega), nput_nk (by decide), nput_nk (by decide)]
    · rw [nput_nk (by decide), nput_nj (by omega), nput_nk (by decide), nput_nk (by decide), nput_nk (by decide)]
  · rw [nput_nk (by decide), nput_nk (by decide), nput_nk (by decide), nput_nk (by decide), nput_se]
  · rw [nput_nk (by decide), nput_nk (by decide), nput_nk (by decide), nput_se]
  · rw [nput_nk (by decide), nput_nk (by decide), nput_se]
  · rw [nput_nk (by decide), nput_se]
theorem rpl_cong {D D' : NSt} (R : NSt) : ∀ n, (∀ k j, k = 22 ∨ k = 23 ∨ k = 24 ∨ k = 25 → j < n → D' k 0 j = D k 0 j) → rpl D' R n = rpl D R n
  | 0, _ => rfl
  | n + 1, h => by
    show oHap (rpl D' R n) (D' 22 0 n) (D' 23 0 n) (D' 24 0 n) (D' 25 0 n) = oHap (rpl D R n) (D 22 0 n) (D 23 0 n) (D 24 0 n) (D 25 0 n)
    rw [rpl_cong R n (fun k j hk hj => h k j hk (Nat.lt_succ_of_lt hj)), h 22 n (by decide) (Nat.lt_succ_self n), h 23 n (by decide) (Nat.lt_succ_self n), h 24 n (by decide) (Nat.lt_succ_self n), h 25 n (by decide) (Nat.lt_succ_self n)]
/-- an event: of every office that agrees with the model -/
theorem nInv.ev {X : NWd} {M M' : NSt} {n : Nat} {x f z t : Int32} (h : nInv X M n) (hn : n < 512) (he : ∀ S, nP S M → oEv S x f z ∧ nP (oHap S x f z t) M') (hf : nF M') (hz : nZ M') : nInv (nEv X (X 0) x f z t) M' (n + 1) := by
  obtain ⟨d1, d2, d3, d4, d5, d6⟩ := dWr_at h.d hn x f z t
  have e2 : nEv X (X 0) x f z t 2 = dWr (X 2) x f z t := by
    unfold nEv
    rw [wdo_ne (by decide), wdo_at]
  have e0 : nEv X (X 0) x f z t 0 = oJudge (oHap (X 0) x f z t) := by
    unfold nEv
    rw [wdo_at]
  refine ⟨?_, hz, by rw [e2]; exact d1, hn, fun R => ?_⟩
  · rw [e0]; exact (he (X 0) h.q.P).2.J hf
  · rw [e2]
    have r1 : ∀ j, j ≤ n → rpl (dWr (X 2) x f z t) R j = rpl (X 2) R j := fun j hj => rpl_cong R j (fun k i hk hi => d2 k i hk (by omega))
    obtain ⟨p1, p2⟩ := h.r R
    obtain ⟨q1, q2⟩ := he _ p1
    refine ⟨?_, fun j hj => ?_⟩
    · show nP (oHap (rpl (dWr (X 2) x f z t) R n) (dWr (X 2) x f z t 22 0 n) (dWr (X 2) x f z t 23 0 n) (dWr (X 2) x f z t 24 0 n) (dWr (X 2) x f z t 25 0 n)) M'
      rw [d3, d4, d5, d6, r1 n (Nat.le_refl _)]
      exact q2
    · rw [r1 j (by omega)]
      by_cases e : j = n
      · subst e
        rw [d3, d4, d5]
        exact ⟨p1.b.oOk, q1⟩
      · rw [d2 22 j (by decide) (by omega), d2 23 j (by decide) (by omega), d2 24 j (by decide) (by omega)]
        exact p2 j (by omega)
/-- what a call answers on both sides -/
def nSim {α : Type} (hc : Nat → Int32) (X : NWd) (M : NSt) (n : Nat) (G : Nat ⊕ (α × NWd)) (Z : α × NSt) : Prop :=
  (∀ k, G = .inl k → Z.2 30 0 0 = hc k ∧ ¬ hc k = 0 ∧ mE M Z.2) ∧ ∀ r X', G = .inr (r, X') → Z.2 30 0 0 = 0 ∧ Z.1 = r ∧ ∃ n', n' ≤ n + 1 ∧ nInv X' Z.2 n'
theorem sim_g {α : Type} {hc : Nat → Int32} {X : NWd} {M T : NSt} {n k : Nat} {b b' : Bool} {c : Int32} {G : Nat ⊕ (α × NWd)} {z : α} {Z : α × NSt} (hb : b = b') (hk : hc k = c) (hc0 : ¬ c = 0) (hT : mE M T) (h : b' = true → nSim hc X M n G Z) : nSim hc X M n (nG b k G) (mG b' c T z Z) := by
  subst hb
  unfold nG mG
  cases b with
  | true => exact h rfl
  | false =>
    refine ⟨fun k' e => ?_, fun r X' e => ?_⟩
    · cases e
      exact ⟨by show nput T 30 0 0 c 30 0 0 = _; rw [nput_se, hk], by rw [hk]; exact hc0, hT.tr mE.code⟩
    · cases e
theorem mG_and {α : Type} {b1 b2 : Bool} {c : Int32} {T : NSt} {z : α} {Z : α × NSt} : mG (b1 && b2) c T z Z = mG b1 c T z (mG b2 c T z Z) := by
  unfold mG; cases b1 <;> cases b2 <;> rfl
theorem sim_r {α : Type} {hc : Nat → Int32} {X X' : NWd} {M T : NSt} {n n' : Nat} {r r' : α} (h0 : T 30 0 0 = 0) (hr : r' = r) (hn : n' ≤ n + 1) (h : nInv X' T n') : nSim hc X M n (.inr (r, X')) (r', T) := by
  refine ⟨fun k e => (by cases e), fun r9 X9 e => ?_⟩
  cases e
  exact ⟨h0, hr, n', hn, h⟩
theorem nInv.eta {X : NWd} {M : NSt} {n : Nat} (h : nInv X M n) : nInv (wdo X 0 (X 0)) M n := by rw [wdo_eta]; exact h
/-- a question: nothing changes but the model's notes -/
theorem sim_q {α : Type} {hc : Nat → Int32} {X : NWd} {M T : NSt} {n : Nat} {r r' : α} (h : nInv X M n) (hT : mE M T) (h0 : T 30 0 0 = 0) (hr : r' = r) : nSim hc X M n (.inr (r, wdo X 0 (X 0))) (r', T) := sim_r h0 hr (Nat.le_succ n) (h.E hT).eta
theorem nInv.rep {X : NWd} {M R : NSt} {n : Nat} (h : nInv X M n) : nInv (wdo X 1 R) M n := by
  refine ⟨?_, h.z, ?_, h.hn, ?_⟩
  · rw [wdo_ne (by decide)]; exact h.q
  · rw [wdo_ne (by decide)]; exact h.d
  · rw [wdo_ne (by decide)]; exact h.r
