/-! A number out of all that the questions answer: where nothing was changed, it is the same. -/
def lq (b : Bool) (v : Int32) : Int32 := if b then v else -101
theorem lq_t {b : Bool} {v : Int32} (h : b = true) : lq b v = v := by rw [h]; rfl
theorem lq_f {b : Bool} {v : Int32} (h : b = false) : lq b v = -101 := by rw [h]; rfl
theorem lres_q {W X' : NWd} {b : Bool} {r v : Int32} (h : (r, X') = lres W (nG b 2 (.inr (v, W)))) : r = lq b v ∧ X' = W := by
  cases b with
  | true => cases h; exact ⟨rfl, rfl⟩
  | false => cases h; exact ⟨rfl, rfl⟩
theorem nG2 {α : Type} {b1 b2 : Bool} {k : Nat} {G : Nat ⊕ α} : nG b1 k (nG b2 k G) = nG (b1 && b2) k G := by cases b1 <;> cases b2 <;> rfl
section LQ
variable {p : Program} {l : Launch} {e : Env} {R : Room} {s : State} {m : MethodId} {args : Array Value} {below : List Frame} {meth : Method} {c : Code} {H : Heap} {locs : List Loc} {cells slots : Nat} {Q : State → Prop}
variable {cc : ByteArray} {nL pc : Nat} {ls : Array Slot} {rest : List Value} {D : va_G} {dA : Nat → ClassId} {ad : Nat → Nat → Nat → Nat} {on : Nat → Prop} {X : NWd} {A : Nat → Prop}
variable {y : MethodName} {bytes : ByteArray} {maxL idx n b : Nat} {ret : Option FieldType} {As st : List Value}
/-- a question asked through the law's call -/
theorem bq {g : Bool} {v : Int32} (hM : lM l D dA ad on yL_call cL_call 5 lhh As (wdo X 0 (X 0)) 6 (fun r X' => (r, X') = lres (wdo X 0 (X 0)) (nG g 2 (.inr (v, wdo X 0 (X 0)))))) (hc : nC p s m args meth c cc nL "NominatorLaw" D dA ad on) (hA : lA s ad on A) (hP : npic D dA ad on X H) (hS : va_S A s.heap H locs) (hsz : ls.size = nL) (hn : As.length = 4) (hR : 11 ≤ R.frames ∧ 424 ≤ R.locals) (hf : cells + 6 ≤ R.cells ∧ slots + 36 ≤ R.slots) (hdg : decode cc pc = .ok (.invokestatic 149, 3)) (hst : st = As.reverse ++ rest) (hW : (rest.map fun v => v.category).sum ≤ 8)
    (kk : ∀ (H1 : Heap) (locs1 : List Loc), npic D dA ad on X H1 → (∀ q : Nat, q < H.size → ¬ nA ad on q → H1[q]? = H[q]?) → va_S A s.heap H1 locs1 → W p l e R s m args below meth c H1 locs1 (cells + 6) (slots + 36) Q (F0 m (pc + 3) ls (.int (lq g v) :: rest))) : W p l e R s m args below meth c H locs cells slots Q (F0 m pc ls st) := by
  refine b_L hM hc hA (npic_eta hP) hS hsz gL_call nok_L_call hn hR hf hdg hst hW ?_
  intro r X2 H locs hp hP hk hS
  obtain ⟨rfl, e9⟩ := lres_q hp
  rw [e9, wdo_eta] at hP
  exact kk H locs hP hk hS
/-- a question that never throws, asked of the office itself -/
theorem bx {v : Int32} (hM : nXi l D dA ad on y bytes maxL ret (nrx 9 6) (.ref b :: As) (wdo X 0 (X 0)) 6 (fun r X' => (.inr (v, wdo X 0 (X 0)) : Nat ⊕ (Int32 × NWd)) = .inr (r, X')) (fun k => (.inr (v, wdo X 0 (X 0)) : Nat ⊕ (Int32 × NWd)) = .inl k)) (hc : nC p s m args meth c cc nL "NominatorLaw" D dA ad on) (hA : lA s ad on A) (hP : npic D dA ad on X H) (hS : va_S A s.heap H locs) (hsz : ls.size = nL) (hg : GoodIn gw (wsV "NominatorLaw" idx y.cls y (nws y bytes maxL ret))) (hrv : ∃ cell : Cell, H[b]? = some cell ∧ cell.vm.isStatics = false ∧ s.vm.findClass y.cls = some cell.cls) (hok : nOk y n) (hn : As.length = n) (hR : 10 ≤ R.frames ∧ 8 + (maxL + 11) + 360 ≤ R.locals) (hf : cells + 6 ≤ R.cells ∧ slots + 36 ≤ R.slots) (hdg : decode cc pc = .ok (.invokevirtual idx, 3)) (hst : st = As.reverse ++ .ref b :: rest) (hW : (rest.map fun v => v.category).sum ≤ 8)
    (kk : ∀ (H1 : Heap) (locs1 : List Loc), npic D dA ad on X H1 → (∀ q : Nat, q < H.size → ¬ nA ad on q → H1[q]? = H[q]?) → va_S A s.heap H1 locs1 → W p l e R s m args below meth c H1 locs1 (cells + 6) (slots + 36) Q (F0 m (pc + 3) ls (.int v :: rest))) : W p l e R s m args below meth c H locs cells slots Q (F0 m pc ls st) := by
  refine b_Xi hM (fun k h => by cases h) hc hA (npic_eta hP) hS hsz hg hrv hok hn hR hf hdg hst hW ?_
  intro r X2 H locs hp hP hk hS
  have h9 : (.inr (v, wdo X 0 (X 0)) : Nat ⊕ (Int32 × NWd)) = .inr (r, X2) := hp
  cases h9
  exact kk H locs (by rw [wdo_eta] at hP; exact hP) hk hS
/-- the entry of a law's method that makes cells -/
theorem sM_of {y : MethodName} {cc : ByteArray} {maxL mc ms : Nat} {ret : Option FieldType} {rm : Room} {av : List Value} {B : State → Prop} {Qc : Array Value → State → Outcome → State → Prop} {free : Nat → Prop} (hI : ninj ad on) (hcl : y.cls = "NominatorLaw") (hy : plainName y.cls = true) (hlen : (lg_sl av).length ≤ maxL) (hB : ∀ U, B U → npre D dA ad on X U)
    (body : ∀ (p : Program) (e : Env) (s : State) (m : MethodId) (args : Array Value) (below : List Frame) (meth : Method) (c : Code) (ls : Array Slot), nC p s m args meth c cc maxL "NominatorLaw" D dA ad on → meth.sig.returnType = ret → npic D dA ad on X s.heap → B s → lv_has ls maxL (lv_args 0 av) →
      W p l e rm s m args below meth c s.heap [] 0 0 (MQ below Qc args s mc ms free) (F0 m 0 ls [])) : Met l y (nws y cc maxL ret) rm (va_Pc av B) Qc mc ms free := by
  refine Met.ofW (cc := cc) (maxL := maxL) (ret := ret) hy rfl ?_
  intro p e s m args below meth c s₁ B9 hml hv
  obtain ⟨rfl, hBs⟩ := hv
  obtain ⟨hT, hP, hZ⟩ := hB s hBs
  have hts := atoms_spec (ws := nws y cc maxL ret) B9.pre
  have hown : s.vm.findClass "NominatorLaw" = some m.cls := by rw [← hcl]; exact findClass_of_methodNamed B9.named
  have hl := lv_entry av (n := maxL) hlen
  rw [lg_entry_eq]
  generalize (lg_sl av ++ List.replicate (maxL - (lg_sl av).length) Slot.unset).toArray = ls at hl ⊢
  exact body p e s m av.toArray below meth c ls ⟨B9.exec, B9.bytes, hml, hown, fun w h => hts w (List.mem_cons_of_mem _ h), hT, hZ, hI, B9.notSynchronized⟩ B9.returns hP hBs hl
end LQ
def lOk (X : NWd) : Prop := oOk (X 0) ∧ vp_in (X 2 21 0 4) 513 ∧ ∀ v, vp_in v (onv (X 0)) → X 0 6 (nix v) 1 = 0 ∨ X 0 6 (nix v) 1 = 1
def h31 (h : Int64) (x : Int32) : Int64 := 31 * h + x.toInt64
def sP0 (S : NSt) (q : Nat) (h : Int64) : Int64 := h31 (h31 (h31 (h31 (h31 (h31 h (lq (inB (nI q) (onp S)) (oWhy S (nI q)))) (lq (inB (nI q) (onp S)) (S 11 (nix (nI q)) 3))) (lq (inB (nI q) (onp S)) (oDep S (nI q)))) (lq (inB (nI q) (onp S)) (S 11 (nix (nI q)) 8))) (lq (inB (nI q) (onp S)) (S 11 (nix (nI q)) 4))) (lq (inB (nI q) (onp S)) (nb (oRepl S (nI q))))
def sPap (S : NSt) (q : Nat) (h : Int64) : Int64 := itr (fun k h => h31 h (lq (inB (nI q) (onp S) && (decide (0 ≤ nI k) && decide (nI k < 4))) (cChar (S 11 (nix (nI q)) 2) (nI k)))) 4 (sP0 S q h)
def sVot (S : NSt) (q : Nat) (h : Int64) : Int64 := h31 (h31 h (lq (inB (nI q) (onv S)) (S 6 (nix (nI q)) 0))) (lq (inB (nI q) (onv S)) (S 6 (nix (nI q)) 1))
def sSig (S : NSt) (q : Nat) (h : Int64) : Int64 := h31 h (lq (decide (0 ≤ nI q) && decide (nI q < S 0 0 7)) (S 13 (nix (nI q)) 4))
def hst (S : NSt) (nv : Nat) : Int64 := h31 (h31 (h31 (itr (sSig S) (ons S) (itr (sVot S) nv (itr (sPap S) (onp S) 17))) (S 1 0 0)) (oSum S 0)) (oSum S 2)
abbrev srm : Room := { frames := 11, cells := 3102, slots := 18612, locals := 460 }
def lG (p : Program) (l : Launch) (s : State) (m : MethodId) (args : Array Value) (meth : Method) (c : Code) (cc : ByteArray) (nL : Nat) (D : va_G) (dA : Nat → ClassId) (ad : Nat → Nat → Nat → Nat) (on : Nat → Prop) (X : NWd) : Prop := nC p s m args meth c cc nL "NominatorLaw" D dA ad on ∧ l.stackTraces = false ∧ ninj ad on ∧ on 0 ∧ on 1 ∧ on 2 ∧ lOk X
theorem itr_0 {α : Type} (f : Nat → α → α) (x : α) : itr f 0 x = x := rfl
section LS
variable {p : Program} {e : Env} {s : State} {m : MethodId} {args : Array Value} {below : List Frame} {meth : Method} {cd : Code} {nv : Nat}
variable {l : Launch} {D : va_G} {dA : Nat → ClassId} {ad : Nat → Nat → Nat → Nat} {on : Nat → Prop} {X : NWd}
set_option maxHeartbeats 4000000 in
set_option maxRecDepth 100000 in
theorem s_fin (hG : lG p l s m args meth cd cL_state 6 D dA ad on X) (hr : meth.sig.returnType = some .long) : ∀ (H : Heap) (locs : List Loc) (ls : Array Slot), npic D dA ad on X H → va_S (nA ad on) s.heap H locs → lv_has ls 6 [(4, .int (nI (ons (X 0)))), (2, .long (itr (sSig (X 0)) (ons (X 0)) (itr (sVot (X 0)) nv (itr (sPap (X 0)) (onp (X 0)) 17)))), (0, .ref (ad 2 20 0)), (1, .int (nI nv))] → W p l e srm s m args below meth cd H locs (3084) (6 * (3084)) (MQ below (va_Ql (fun r X' => r = hst (X 0) nv ∧ X' = X) (fun X' t => npic D dA ad on X' t.heap) (nA ad on)) args s 3102 18612 (nA ad on)) (F0 m 231 ls []) := by
    obtain ⟨hc, hfl, hI, hon0, hon1, hon2, hok, hd, h01⟩ := hG
    have hx := hc.1
    have hb := hc.2.1
    have h12 := hok.np12
    have h150 := hok.ns150
    have enp := hok.np
    have ens := hok.ns
    intro H locs ls hP hS hl
    refine lv_ldc2 hx hb hc.2.2.2.1 (hc.2.2.2.2.1 _ q_L31) dL_state_231 ?_
    refine lv_ldc2 hx hb hc.2.2.2.1 (hc.2.2.2.2.1 _ q_L31) dL_state_234 ?_
    refine lv_ldc2 hx hb hc.2.2.2.1 (hc.2.2.2.2.1 _ q_L31) dL_state_237 ?_
    refine lv_lload_n hx hb dL_state_240 rfl (lv_at hl 1 rfl) ?_
    refine lv_lmul hx hb dL_state_241 ?_
    refine lv_aload_n hx hb dL_state_242 rfl (lv_at hl 2 rfl) ?_
    refine bx (As := []) (c_X9_day (X := X) (S := X 0) hfl hI hon0 hon1 hon2 hok hd) hc lA_self hP hS hl.1 (ngoodV q323 q324 q325 q1 q326) (b_rec hc hP hon2) nok_X9_day rfl ⟨(Nat.le_of_ble_eq_true rfl), (Nat.le_of_ble_eq_true rfl)⟩ ⟨by show _ ≤ 3102; omega, by show _ ≤ 18612; omega⟩ dL_state_243 rfl (Nat.le_of_ble_eq_true rfl) ?_
    intro H locs hP _ hS
    refine lv_i2l (v := _) hx hb dL_state_246 rfl ?_
    refine lv_ladd hx hb dL_state_247 ?_
    refine lv_lmul hx hb dL_state_248 ?_
    refine lv_aload_n hx hb dL_state_249 rfl (lv_at hl 2 rfl) ?_
    refine bx (As := []) (c_X9_sumHeld (X := X) (S := X 0) hfl hI hon0 hon1 hon2 hok hd) hc lA_self hP hS hl.1 (ngoodV q954 q955 q956 q1 q957) (b_rec hc hP hon2) nok_X9_sumHeld rfl ⟨(Nat.le_of_ble_eq_true rfl), (Nat.le_of_ble_eq_true rfl)⟩ ⟨by show _ ≤ 3102; omega, by show _ ≤ 18612; omega⟩ dL_state_250 rfl (Nat.le_of_ble_eq_true rfl) ?_
    intro H locs hP _ hS
    refine lv_i2l (v := _) hx hb dL_state_253 rfl ?_
    refine lv_ladd hx hb dL_state_254 ?_
    refine lv_lmul hx hb dL_state_255 ?_
    refine lv_aload_n hx hb dL_state_256 rfl (lv_at hl 2 rfl) ?_
    refine bx (As := []) (c_X9_sumLost (X := X) (S := X 0) hfl hI hon0 hon1 hon2 hok hd) hc lA_self hP hS hl.1 (ngoodV q962 q963 q964 q1 q965) (b_rec hc hP hon2) nok_X9_sumLost rfl ⟨(Nat.le_of_ble_eq_true rfl), (Nat.le_of_ble_eq_true rfl)⟩ ⟨by show _ ≤ 3102; omega, by show _ ≤ 18612; omega⟩ dL_state_257 rfl (Nat.le_of_ble_eq_true rfl) ?_
    intro H locs hP _ hS
    refine lv_i2l (v := _) hx hb dL_state_260 rfl ?_
    refine lv_ladd hx hb dL_state_261 ?_
    exact W.widen (by omega) (by omega) (W.lret hx hb hr (fun t ht hW => ⟨⟨_, X, rfl, ⟨rfl, rfl⟩, (show npic D dA ad on X t.heap by rw [ht]; exact hP)⟩, hS.F ht⟩) hS.2.2 dL_state_262 hc.2.2.2.2.2.2.2.2)
set_option maxHeartbeats 4000000 in
set_option maxRecDepth 100000 in
theorem s_sigs (hG : lG p l s m args meth cd cL_state 6 D dA ad on X) (hr : meth.sig.returnType = some .long) : ∀ (n j : Nat), n + j = ons (X 0) → ∀ (H : Heap) (locs : List Loc) (ls : Array Slot), npic D dA ad on X H → va_S (nA ad on) s.heap H locs → lv_has ls 6 [(4, .int (nI j)), (2, .long (itr (sSig (X 0)) j (itr (sVot (X 0)) nv (itr (sPap (X 0)) (onp (X 0)) 17)))), (0, .ref (ad 2 20 0)), (1, .int (nI nv))] → W p l e srm s m args below meth cd H locs (1278 + 12 * j) (6 * (1278 + 12 * j)) (MQ below (va_Ql (fun r X' => r = hst (X 0) nv ∧ X' = X) (fun X' t => npic D dA ad on X' t.heap) (nA ad on)) args s 3102 18612 (nA ad on)) (F0 m 199 ls []) := by
    obtain ⟨hc, hfl, hI, hon0, hon1, hon2, hok, hd, h01⟩ := hG
    have hx := hc.1
    have hb := hc.2.1
    have h12 := hok.np12
    have h150 := hok.ns150
    have enp := hok.np
    have ens := hok.ns
    intro n
    induction n with
    | zero =>
      intro j hj H locs ls hP hS hl
      refine lv_iload hx hb dL_state_199 (lv_at hl 0 rfl) ?_
      refine lv_aload_n hx hb dL_state_201 rfl (lv_at hl 2 rfl) ?_
      refine bx (As := []) (c_X9_signatures (X := X) (S := X 0) hfl hI hon0 hon1 hon2 hok hd) hc lA_self hP hS hl.1 (ngoodV q339 q340 q341 q1 q342) (b_rec hc hP hon2) nok_X9_signatures rfl ⟨(Nat.le_of_ble_eq_true rfl), (Nat.le_of_ble_eq_true rfl)⟩ ⟨by show _ ≤ 3102; omega, by show _ ≤ 18612; omega⟩ dL_state_202 rfl (Nat.le_of_ble_eq_true rfl) ?_
      intro H locs hP _ hS
      rw [ens]
      obtain rfl : j = ons (X 0) := by omega
      refine lv_icmp_ge (tgt := 231) hx hb dL_state_205 (by decide) (fun _ => ?_) (fun z => absurd ((nI_leI (by omega) (by omega)).mpr (Nat.le_refl _)) z)
      exact W.widen (by omega) (by omega) (s_fin ⟨hc, hfl, hI, hon0, hon1, hon2, hok, hd, h01⟩ hr H locs ls hP hS hl)
    | succ n ih =>
      intro j hj H locs ls hP hS hl
      refine lv_iload hx hb dL_state_199 (lv_at hl 0 rfl) ?_
      refine lv_aload_n hx hb dL_state_201 rfl (lv_at hl 2 rfl) ?_
      refine bx (As := []) (c_X9_signatures (X := X) (S := X 0) hfl hI hon0 hon1 hon2 hok hd) hc lA_self hP hS hl.1 (ngoodV q339 q340 q341 q1 q342) (b_rec hc hP hon2) nok_X9_signatures rfl ⟨(Nat.le_of_ble_eq_true rfl), (Nat.le_of_ble_eq_true rfl)⟩ ⟨by show _ ≤ 3102; omega, by show _ ≤ 18612; omega⟩ dL_state_202 rfl (Nat.le_of_ble_eq_true rfl) ?_
      intro H locs hP _ hS
      rw [ens]
      refine lv_icmp_ge (tgt := 231) hx hb dL_state_205 (by decide) (fun z => absurd ((nI_leI (by omega) (by omega)).mp z) (by omega)) (fun _ => ?_)
      refine lv_ldc2 hx hb hc.2.2.2.1 (hc.2.2.2.2.1 _ q_L31) dL_state_208 ?_
      refine lv_lload_n hx hb dL_state_211 rfl (lv_at hl 1 rfl) ?_
      refine lv_lmul hx hb dL_state_212 ?_
      refine lv_aload_n hx hb dL_state_213 rfl (lv_at hl 2 rfl) ?_
      refine lv_bipush (v := 12) hx hb dL_state_214 (by decide) ?_
      refine lv_iload hx hb dL_state_216 (lv_at hl 0 rfl) ?_
      refine lv_iconst (v := 0) hx hb dL_state_218 (by decide) ?_
      refine bq (lk_signatureResult (X := X) hfl hI hon0 hon1 hon2 hok hd) hc lA_self hP hS hl.1 rfl ⟨(Nat.le_of_ble_eq_true rfl), (Nat.le_of_ble_eq_true rfl)⟩ ⟨by show _ ≤ 3102; omega, by show _ ≤ 18612; omega⟩ dL_state_219 rfl (Nat.le_of_ble_eq_true rfl) ?_
      intro H locs hP _ hS
      refine lv_i2l (v := _) hx hb dL_state_222 rfl ?_
      refine lv_ladd hx hb dL_state_223 ?_
      refine lv_lstore_n (lv' := [(2, .long _), (4, .int _), (0, .ref _), (1, .int _)]) hx hb dL_state_224 rfl hl (by decide) rfl (fun ls hl => ?_)
      refine lv_iinc (lv' := [(4, .int (nI (j + 1))), (2, .long _), (0, .ref _), (1, .int _)]) (v := (nI (j + 1))) hx hb dL_state_225 hl (k := 1) rfl (by rw [show Int32.ofInt 1 = 1 from by decide, nI_1]) (by decide) rfl (fun ls hl => ?_)
      refine lv_goto (tgt := 199) hx hb dL_state_228 (by decide) ?_
      exact W.widen (by omega) (by omega) (ih (j + 1) (by omega) H locs ls hP hS (lv_sub hl [0, 1, 2, 3] rfl))
set_option maxHeartbeats 4000000 in
set_option maxRecDepth 100000 in
theorem s_vots (hG : lG p l s m args meth cd cL_state 6 D dA ad on X) (hr : meth.sig.returnType = some .long) (hnv : nv ≤ 40) : ∀ (n j : Nat), n + j = nv → ∀ (H : Heap) (locs : List Loc) (ls : Array Slot), npic D dA ad on X H → va_S (nA ad on) s.heap H locs → lv_has ls 6 [(4, .int (nI j)), (2, .long (itr (sVot (X 0)) j (itr (sPap (X 0)) (onp (X 0)) 17))), (0, .ref (ad 2 20 0)), (1, .int (nI nv))] → W p l e srm s m args below meth cd H locs (798 + 12 * j) (6 * (798 + 12 * j)) (MQ below (va_Ql (fun r X' => r = hst (X 0) nv ∧ X' = X) (fun X' t => npic D dA ad on X' t.heap) (nA ad on)) args s 3102 18612 (nA ad on)) (F0 m 152 ls []) := by
    obtain ⟨hc, hfl, hI, hon0, hon1, hon2, hok, hd, h01⟩ := hG
    have hx := hc.1
    have hb := hc.2.1
    have h12 := hok.np12
    have h150 := hok.ns150
    have enp := hok.np
    have ens := hok.ns
    intro n
    induction n with
    | zero =>
      intro j hj H locs ls hP hS hl
      refine lv_iload hx hb dL_state_152 (lv_at hl 0 rfl) ?_
      refine lv_iload_n hx hb dL_state_154 rfl (lv_at hl 3 rfl) ?_
      obtain rfl : j = nv := by omega
      refine lv_icmp_ge (tgt := 196) hx hb dL_state_155 (by decide) (fun _ => ?_) (fun z => absurd ((nI_leI (by omega) (by omega)).mpr (Nat.le_refl _)) z)
      refine lv_iconst (v := 0) hx hb dL_state_196 (by decide) ?_
      refine lv_istore (lv' := [(4, .int (nI 0)), (2, .long _), (0, .ref _), (1, .int _)]) hx hb dL_state_197 hl (by decide) rfl (fun ls hl => ?_)
      have h9 := s_sigs (below := below) (e := e) (nv := j) ⟨hc, hfl, hI, hon0, hon1, hon2, hok, hd, h01⟩ hr (ons (X 0)) 0 rfl H locs ls hP hS
      rw [itr_0] at h9
      exact W.widen (by omega) (by omega) (h9 hl)
    | succ n ih =>
      intro j hj H locs ls hP hS hl
      refine lv_iload hx hb dL_state_152 (lv_at hl 0 rfl) ?_
      refine lv_iload_n hx hb dL_state_154 rfl (lv_at hl 3 rfl) ?_
      refine lv_icmp_ge (tgt := 196) hx hb dL_state_155 (by decide) (fun z => absurd ((nI_leI (by omega) (by omega)).mp z) (by omega)) (fun _ => ?_)
      refine lv_ldc2 hx hb hc.2.2.2.1 (hc.2.2.2.2.1 _ q_L31) dL_state_158 ?_
      refine lv_ldc2 hx hb hc.2.2.2.1 (hc.2.2.2.2.1 _ q_L31) dL_state_161 ?_
      refine lv_lload_n hx hb dL_state_164 rfl (lv_at hl 1 rfl) ?_
      refine lv_lmul hx hb dL_state_165 ?_
      refine lv_aload_n hx hb dL_state_166 rfl (lv_at hl 2 rfl) ?_
      refine lv_bipush (v := 29) hx hb dL_state_167 (by decide) ?_
      refine lv_iload hx hb dL_state_169 (lv_at hl 0 rfl) ?_
      refine lv_iconst (v := 0) hx hb dL_state_171 (by decide) ?_
      refine bq (lk_areaOf (X := X) hfl hI hon0 hon1 hon2 hok hd) hc lA_self hP hS hl.1 rfl ⟨(Nat.le_of_ble_eq_true rfl), (Nat.le_of_ble_eq_true rfl)⟩ ⟨by show _ ≤ 3102; omega, by show _ ≤ 18612; omega⟩ dL_state_172 rfl (Nat.le_of_ble_eq_true rfl) ?_
      intro H locs hP _ hS
      refine lv_i2l (v := _) hx hb dL_state_175 rfl ?_
      refine lv_ladd hx hb dL_state_176 ?_
      refine lv_lmul hx hb dL_state_177 ?_
      refine lv_aload_n hx hb dL_state_178 rfl (lv_at hl 2 rfl) ?_
      refine lv_bipush (v := 30) hx hb dL_state_179 (by decide) ?_
      refine lv_iload hx hb dL_state_181 (lv_at hl 0 rfl) ?_
      refine lv_iconst (v := 0) hx hb dL_state_183 (by decide) ?_
      refine bq (lk_isOnRoll (X := X) hfl hI hon0 hon1 hon2 hok hd (fun h => h01 _ h)) hc lA_self hP hS hl.1 rfl ⟨(Nat.le_of_ble_eq_true rfl), (Nat.le_of_ble_eq_true rfl)⟩ ⟨by show _ ≤ 3102; omega, by show _ ≤ 18612; omega⟩ dL_state_184 rfl (Nat.le_of_ble_eq_true rfl) ?_
      intro H locs hP _ hS
      refine lv_i2l (v := _) hx hb dL_state_187 rfl ?_
      refine lv_ladd hx hb dL_state_188 ?_
      refine lv_lstore_n (lv' := [(2, .long _), (4, .int _), (0, .ref _), (1, .int _)]) hx hb dL_state_189 rfl hl (by decide) rfl (fun ls hl => ?_)
      refine lv_iinc (lv' := [(4, .int (nI (j + 1))), (2, .long _), (0, .ref _), (1, .int _)]) (v := (nI (j + 1))) hx hb dL_state_190 hl (k := 1) rfl (by rw [show Int32.ofInt 1 = 1 from by decide, nI_1]) (by decide) rfl (fun ls hl => ?_)
      refine lv_goto (tgt := 152) hx hb dL_state_193 (by decide) ?_
      exact W.widen (by omega) (by omega) (ih (j + 1) (by omega) H locs ls hP hS (lv_sub hl [0, 1, 2, 3] rfl))
set_option maxHeartbeats 4000000 in
set_option maxRecDepth 100000 in
theorem s_paps (hG : lG p l s m args meth cd cL_state 6 D dA ad on X) (hr : meth.sig.returnType = some .long) (hnv : nv ≤ 40) : ∀ (n j : Nat), n + j = onp (X 0) → ∀ (H : Heap) (locs : List Loc) (ls : Array Slot), npic D dA ad on X H → va_S (nA ad on) s.heap H locs → lv_has ls 6 [(4, .int (nI j)), (2, .long (itr (sPap (X 0)) j 17)), (0, .ref (ad 2 20 0)), (1, .int (nI nv))] → W p l e srm s m args below meth cd H locs (66 * j) (6 * (66 * j)) (MQ below (va_Ql (fun r X' => r = hst (X 0) nv ∧ X' = X) (fun X' t => npic D dA ad on X' t.heap) (nA ad on)) args s 3102 18612 (nA ad on)) (F0 m 7 ls []) := by
    obtain ⟨hc, hfl, hI, hon0, hon1, hon2, hok, hd, h01⟩ := hG
    have hx := hc.1
    have hb := hc.2.1
    have h12 := hok.np12
    have h150 := hok.ns150
    have enp := hok.np
    have ens := hok.ns
    intro n
    induction n with
    | zero =>
      intro j hj H locs ls hP hS hl
      refine lv_iload hx hb dL_state_7 (lv_at hl 0 rfl) ?_
      refine lv_aload_n hx hb dL_state_9 rfl (lv_at hl 2 rfl) ?_
      refine bx (As := []) (c_X9_papers (X := X) (S := X 0) hfl hI hon0 hon1 hon2 hok hd) hc lA_self hP hS hl.1 (ngoodV q335 q336 q337 q1 q338) (b_rec hc hP hon2) nok_X9_papers rfl ⟨(Nat.le_of_ble_eq_true rfl), (Nat.le_of_ble_eq_true rfl)⟩ ⟨by show _ ≤ 3102; omega, by show _ ≤ 18612; omega⟩ dL_state_10 rfl (Nat.le_of_ble_eq_true rfl) ?_
      intro H locs hP _ hS
      rw [enp]
      obtain rfl : j = onp (X 0) := by omega
      refine lv_icmp_ge (tgt := 149) hx hb dL_state_13 (by decide) (fun _ => ?_) (fun z => absurd ((nI_leI (by omega) (by omega)).mpr (Nat.le_refl _)) z)
      refine lv_iconst (v := 0) hx hb dL_state_149 (by decide) ?_
      refine lv_istore (lv' := [(4, .int (nI 0)), (2, .long _), (0, .ref _), (1, .int _)]) hx hb dL_state_150 hl (by decide) rfl (fun ls hl => ?_)
      have h9 := s_vots (below := below) (e := e) ⟨hc, hfl, hI, hon0, hon1, hon2, hok, hd, h01⟩ hr hnv nv 0 rfl H locs ls hP hS
      rw [itr_0] at h9
      exact W.widen (by omega) (by omega) (h9 hl)
    | succ n ih =>
      intro j hj H locs ls hP hS hl
      refine lv_iload hx hb dL_state_7 (lv_at hl 0 rfl) ?_
      refine lv_aload_n hx hb dL_state_9 rfl (lv_at hl 2 rfl) ?_
      refine bx (As := []) (c_X9_papers (X := X) (S := X 0) hfl hI hon0 hon1 hon2 hok hd) hc lA_self hP hS hl.1 (ngoodV q335 q336 q337 q1 q338) (b_rec hc hP hon2) nok_X9_papers rfl ⟨(Nat.le_of_ble_eq_true rfl), (Nat.le_of_ble_eq_true rfl)⟩ ⟨by show _ ≤ 3102; omega, by show _ ≤ 18612; omega⟩ dL_state_10 rfl (Nat.le_of_ble_eq_true rfl) ?_
      intro H locs hP _ hS
      rw [enp]
      refine lv_icmp_ge (tgt := 149) hx hb dL_state_13 (by decide) (fun z => absurd ((nI_leI (by omega) (by omega)).mp z) (by omega)) (fun _ => ?_)
      refine lv_ldc2 hx hb hc.2.2.2.1 (hc.2.2.2.2.1 _ q_L31) dL_state_16 ?_
      refine lv_ldc2 hx hb hc.2.2.2.1 (hc.2.2.2.2.1 _ q_L31) dL_state_19 ?_
      refine lv_ldc2 hx hb hc.2.2.2.1 (hc.2.2.2.2.1 _ q_L31) dL_state_22 ?_
      refine lv_lload_n hx hb dL_state_25 rfl (lv_at hl 1 rfl) ?_
      refine lv_lmul hx hb dL_state_26 ?_
      refine lv_aload_n hx hb dL_state_27 rfl (lv_at hl 2 rfl) ?_
      refine lv_bipush (v := 17) hx hb dL_state_28 (by decide) ?_
      refine lv_iload hx hb dL_state_30 (lv_at hl 0 rfl) ?_
      refine lv_iconst (v := 0) hx hb dL_state_32 (by decide) ?_
      refine bq (lk_reason (X := X) hfl hI hon0 hon1 hon2 hok hd) hc lA_self hP hS hl.1 rfl ⟨(Nat.le_of_ble_eq_true rfl), (Nat.le_of_ble_eq_true rfl)⟩ ⟨by show _ ≤ 3102; omega, by show _ ≤ 18612; omega⟩ dL_state_33 rfl (Nat.le_of_ble_eq_true rfl) ?_
      intro H locs hP _ hS
      refine lv_i2l (v := _) hx hb dL_state_36 rfl ?_
      refine lv_ladd hx hb dL_state_37 ?_
      refine lv_lmul hx hb dL_state_38 ?_
      refine lv_aload_n hx hb dL_state_39 rfl (lv_at hl 2 rfl) ?_
      refine lv_bipush (v := 28) hx hb dL_state_40 (by decide) ?_
      refine lv_iload hx hb dL_state_42 (lv_at hl 0 rfl) ?_
      refine lv_iconst (v := 0) hx hb dL_state_44 (by decide) ?_
      refine bq (lk_paid (X := X) hfl hI hon0 hon1 hon2 hok hd) hc lA_self hP hS hl.1 rfl ⟨(Nat.le_of_ble_eq_true rfl), (Nat.le_of_ble_eq_true rfl)⟩ ⟨by show _ ≤ 3102; omega, by show _ ≤ 18612; omega⟩ dL_state_45 rfl (Nat.le_of_ble_eq_true rfl) ?_
      intro H locs hP _ hS
      refine lv_i2l (v := _) hx hb dL_state_48 rfl ?_
      refine lv_ladd hx hb dL_state_49 ?_
      refine lv_lmul hx hb dL_state_50 ?_
      refine lv_aload_n hx hb dL_state_51 rfl (lv_at hl 2 rfl) ?_
      refine lv_bipush (v := 27) hx hb dL_state_52 (by decide) ?_
      refine lv_iload hx hb dL_state_54 (lv_at hl 0 rfl) ?_
      refine lv_iconst (v := 0) hx hb dL_state_56 (by decide) ?_
      refine bq (lk_deposit (X := X) hfl hI hon0 hon1 hon2 hok hd) hc lA_self hP hS hl.1 rfl ⟨(Nat.le_of_ble_eq_true rfl), (Nat.le_of_ble_eq_true rfl)⟩ ⟨by show _ ≤ 3102; omega, by show _ ≤ 18612; omega⟩ dL_state_57 rfl (Nat.le_of_ble_eq_true rfl) ?_
      intro H locs hP _ hS
      refine lv_i2l (v := _) hx hb dL_state_60 rfl ?_
      refine lv_ladd hx hb dL_state_61 ?_
      refine lv_lstore_n (lv' := [(2, .long _), (4, .int _), (0, .ref _), (1, .int _)]) hx hb dL_state_62 rfl hl (by decide) rfl (fun ls hl => ?_)
      refine lv_ldc2 hx hb hc.2.2.2.1 (hc.2.2.2.2.1 _ q_L31) dL_state_63 ?_
      refine lv_ldc2 hx hb hc.2.2.2.1 (hc.2.2.2.2.1 _ q_L31) dL_state_66 ?_
      refine lv_ldc2 hx hb hc.2.2.2.1 (hc.2.2.2.2.1 _ q_L31) dL_state_69 ?_
      refine lv_lload_n hx hb dL_state_72 rfl (lv_at hl 0 rfl) ?_
      refine lv_lmul hx hb dL_state_73 ?_
      refine lv_aload_n hx hb dL_state_74 rfl (lv_at hl 2 rfl) ?_
      refine lv_bipush (v := 11) hx hb dL_state_75 (by decide) ?_
      refine lv_iload hx hb dL_state_77 (lv_at hl 1 rfl) ?_
      refine lv_iconst (v := 0) hx hb dL_state_79 (by decide) ?_
      refine bq (lk_counted (X := X) hfl hI hon0 hon1 hon2 hok hd) hc lA_self hP hS hl.1 rfl ⟨(Nat.le_of_ble_eq_true rfl), (Nat.le_of_ble_eq_true rfl)⟩ ⟨by show _ ≤ 3102; omega, by show _ ≤ 18612; omega⟩ dL_state_80 rfl (Nat.le_of_ble_eq_true rfl) ?_
      intro H locs hP _ hS
      refine lv_i2l (v := _) hx hb dL_state_83 rfl ?_
      refine lv_ladd hx hb dL_state_84 ?_
      refine lv_lmul hx hb dL_state_85 ?_
      refine lv_aload_n hx hb dL_state_86 rfl (lv_at hl 2 rfl) ?_
      refine lv_bipush (v := 25) hx hb dL_state_87 (by decide) ?_
      refine lv_iload hx hb dL_state_89 (lv_at hl 1 rfl) ?_
      refine lv_iconst (v := 0) hx hb dL_state_91 (by decide) ?_
      refine bq (lk_votes (X := X) hfl hI hon0 hon1 hon2 hok hd) hc lA_self hP hS hl.1 rfl ⟨(Nat.le_of_ble_eq_true rfl), (Nat.le_of_ble_eq_true rfl)⟩ ⟨by show _ ≤ 3102; omega, by show _ ≤ 18612; omega⟩ dL_state_92 rfl (Nat.le_of_ble_eq_true rfl) ?_
      intro H locs hP _ hS
      refine lv_i2l (v := _) hx hb dL_state_95 rfl ?_
      refine lv_ladd hx hb dL_state_96 ?_
      refine lv_lmul hx hb dL_state_97 ?_
      refine lv_aload_n hx hb dL_state_98 rfl (lv_at hl 2 rfl) ?_
      refine lv_bipush (v := 10) hx hb dL_state_99 (by decide) ?_
      refine lv_iload hx hb dL_state_101 (lv_at hl 1 rfl) ?_
      refine lv_iconst (v := 0) hx hb dL_state_103 (by decide) ?_
      refine bq (lk_isReplaceable (X := X) hfl hI hon0 hon1 hon2 hok hd) hc lA_self hP hS hl.1 rfl ⟨(Nat.le_of_ble_eq_true rfl), (Nat.le_of_ble_eq_true rfl)⟩ ⟨by show _ ≤ 3102; omega, by show _ ≤ 18612; omega⟩ dL_state_104 rfl (Nat.le_of_ble_eq_true rfl) ?_
      intro H locs hP _ hS
      refine lv_i2l (v := _) hx hb dL_state_107 rfl ?_
      refine lv_ladd hx hb dL_state_108 ?_
      refine lv_lstore_n (lv' := [(2, .long (sP0 (X 0) j (itr (sPap (X 0)) j 17))), (4, .int _), (0, .ref _), (1, .int _)]) hx hb dL_state_109 rfl hl (by decide) rfl (fun ls hl => ?_)
      refine lv_iconst (v := 0) hx hb dL_state_110 (by decide) ?_
      refine lv_istore (lv' := [(5, .int (nI 0)), (2, .long (sP0 (X 0) j (itr (sPap (X 0)) j 17))), (4, .int _), (0, .ref _), (1, .int _)]) hx hb dL_state_111 hl (by decide) rfl (fun ls hl => ?_)
      generalize hg : sP0 (X 0) j (itr (sPap (X 0)) j 17) = h9 at hl
      have inner : ∀ (n k : Nat), n + k = 4 → ∀ (H : Heap) (locs : List Loc) (ls : Array Slot), npic D dA ad on X H → va_S (nA ad on) s.heap H locs → lv_has ls 6 [(5, .int (nI k)), (2, .long (itr (fun k h => h31 h (lq (inB (nI j) (onp (X 0)) && (decide (0 ≤ nI k) && decide (nI k < 4))) (cChar (X 0 11 (nix (nI j)) 2) (nI k)))) k h9)), (4, .int (nI j)), (0, .ref (ad 2 20 0)), (1, .int (nI nv))] → W p l e srm s m args below meth cd H locs (66 * j + 42 + 6 * k) (6 * (66 * j + 42 + 6 * k)) (MQ below (va_Ql (fun r X' => r = hst (X 0) nv ∧ X' = X) (fun X' t => npic D dA ad on X' t.heap) (nA ad on)) args s 3102 18612 (nA ad on)) (F0 m 113 ls []) := by
        intro n3
        induction n3 with
        | zero =>
          intro k hk H locs ls hP hS hl
          refine lv_iload hx hb dL_state_113 (lv_at hl 0 rfl) ?_
          refine lv_iconst (v := 4) hx hb dL_state_115 (by decide) ?_
          obtain rfl : k = 4 := by omega
          refine lv_icmp_ge (tgt := 143) hx hb dL_state_116 (by decide) (fun _ => ?_) (fun z => absurd (by decide) z)
          refine lv_iinc (lv' := [(4, .int (nI (j + 1))), (5, .int _), (2, .long _), (0, .ref _), (1, .int _)]) (v := (nI (j + 1))) hx hb dL_state_143 hl (k := 2) rfl (by rw [show Int32.ofInt 1 = 1 from by decide, nI_1]) (by decide) rfl (fun ls hl => ?_)
          refine lv_goto (tgt := 7) hx hb dL_state_146 (by decide) ?_
          subst hg
          exact W.widen (by omega) (by omega) (ih (j + 1) (by omega) H locs ls hP hS (lv_sub hl [0, 2, 3, 4] rfl))
        | succ n3 ih3 =>
          intro k hk H locs ls hP hS hl
          refine lv_iload hx hb dL_state_113 (lv_at hl 0 rfl) ?_
          refine lv_iconst (v := 4) hx hb dL_state_115 (by decide) ?_
          refine lv_icmp_ge (tgt := 143) hx hb dL_state_116 (by decide) (fun z => absurd z (nI_nle4 (by omega))) (fun _ => ?_)
          refine lv_ldc2 hx hb hc.2.2.2.1 (hc.2.2.2.2.1 _ q_L31) dL_state_119 ?_
          refine lv_lload_n hx hb dL_state_122 rfl (lv_at hl 1 rfl) ?_
          refine lv_lmul hx hb dL_state_123 ?_
          refine lv_aload_n hx hb dL_state_124 rfl (lv_at hl 3 rfl) ?_
          refine lv_bipush (v := 31) hx hb dL_state_125 (by decide) ?_
          refine lv_iload hx hb dL_state_127 (lv_at hl 2 rfl) ?_
          refine lv_iload hx hb dL_state_129 (lv_at hl 0 rfl) ?_
          refine bq (by have h9 := lk_surname (l := l) (D := D) (dA := dA) (ad := ad) (on := on) (X := X) (a9 := nI j) (b9 := nI k) hfl hI hon0 hon1 hon2 hok hd; rw [nG2] at h9; exact h9) hc lA_self hP hS hl.1 rfl ⟨(Nat.le_of_ble_eq_true rfl), (Nat.le_of_ble_eq_true rfl)⟩ ⟨by show _ ≤ 3102; omega, by show _ ≤ 18612; omega⟩ dL_state_131 rfl (Nat.le_of_ble_eq_true rfl) ?_
          intro H locs hP _ hS
          refine lv_i2l (v := _) hx hb dL_state_134 rfl ?_
          refine lv_ladd hx hb dL_state_135 ?_
          refine lv_lstore_n (lv' := [(2, .long _), (5, .int _), (4, .int _), (0, .ref _), (1, .int _)]) hx hb dL_state_136 rfl hl (by decide) rfl (fun ls hl => ?_)
          refine lv_iinc (lv' := [(5, .int (nI (k + 1))), (2, .long _), (4, .int _), (0, .ref _), (1, .int _)]) (v := (nI (k + 1))) hx hb dL_state_137 hl (k := 1) rfl (by rw [show Int32.ofInt 1 = 1 from by decide, nI_1]) (by decide) rfl (fun ls hl => ?_)
          refine lv_goto (tgt := 113) hx hb dL_state_140 (by decide) ?_
          exact W.widen (by omega) (by omega) (ih3 (k + 1) (by omega) H locs ls hP hS (lv_sub hl [0, 1, 2, 3, 4] rfl))
      exact W.widen (by omega) (by omega) (inner 4 0 rfl H locs ls hP hS (lv_sub hl [0, 1, 2, 3, 4] rfl))
set_option maxHeartbeats 8000000 in
theorem c_state (hfl : l.stackTraces = false) (hI : ninj ad on) (hon0 : on 0) (hon1 : on 1) (hon2 : on 2) (hX : lOk X) {nv : Nat} (hnv : nv ≤ 40) : Met l yL_state (nws yL_state cL_state 6 (some .long)) srm (va_Pc [.ref (ad 2 20 0), .int (nI nv)] (npre D dA ad on X)) (va_Ql (fun r X' => r = hst (X 0) nv ∧ X' = X) (fun X' t => npic D dA ad on X' t.heap) (nA ad on)) 3102 18612 (nA ad on) := by
  have hX9 := hX
  refine sM_of hI rfl (by decide +kernel) (Nat.le_of_ble_eq_true rfl) (fun U h => h) ?_
  intro p e s m args below meth cd ls hc hr hP _ hl
  have hx := hc.1
  have hb := hc.2.1
  have hS : va_S (nA ad on) s.heap s.heap [] := va_S.rf
  have hl : lv_has ls 6 [(0, .ref (ad 2 20 0)), (1, .int (nI nv))] := hl
  refine lv_ldc2 hx hb hc.2.2.2.1 (hc.2.2.2.2.1 _ q_L17) dL_state_0 ?_
  refine lv_lstore_n (lv' := [(2, .long 17), (0, .ref _), (1, .int _)]) hx hb dL_state_3 rfl hl (by decide) rfl (fun ls hl => ?_)
  refine lv_iconst (v := 0) hx hb dL_state_4 (by decide) ?_
  refine lv_istore (lv' := [(4, .int (nI 0)), (2, .long 17), (0, .ref _), (1, .int _)]) hx hb dL_state_5 hl (by decide) rfl (fun ls hl => ?_)
  exact W.widen (Nat.zero_le _) (Nat.zero_le _) (s_paps ⟨hc, hfl, hI, hon0, hon1, hon2, hX9⟩ hr hnv (onp (X 0)) 0 rfl s.heap [] ls hP hS hl)
end LS
