/-! The state of the two classes as numbers, its picture in the heap, and the rules of the walk over that picture. -/
abbrev NSt : Type := Nat → Nat → Nat → Int32
abbrev NWd : Type := Nat → NSt
def nput (S : NSt) (k i j : Nat) (v : Int32) : NSt := fun k' i' j' => if k' = k ∧ j' = j ∧ i' = i then v else S k' i' j'
def wdo (X : NWd) (o : Nat) (S : NSt) : NWd := fun o' => if o' = o then S else X o'
theorem wdo_at {X : NWd} {o : Nat} {S : NSt} : wdo X o S o = S := by simp [wdo]
theorem wdo_ne {X : NWd} {o o' : Nat} {S : NSt} (h : o' ≠ o) : wdo X o S o' = X o' := by simp [wdo, h]
theorem wdo_wdo {X : NWd} {o : Nat} {S S' : NSt} : wdo (wdo X o S) o S' = wdo X o S' := by
  funext o'
  by_cases h : o' = o <;> simp [wdo, h]
theorem wdo_eta {X : NWd} {o : Nat} : wdo X o (X o) = X := by
  funext o'
  by_cases h : o' = o
  · subst h; simp [wdo]
  · simp [wdo, h]
abbrev nix (x : Int32) : Nat := x.toNatClampNeg
abbrev ncl : List vw_C := [(RX0, TX0, 3), (RX1, TX1, 4), (RX2, TX2, 5), (RX3, TX3, 3), (RX4, TX4, 9), (RX5, TX5, 10), (RX6, TX6, 4), (RX7, TX7, 5), (RX8, TX8, 3), (RX9, TX9, 3)]
abbrev ntys (dA : Nat → ClassId) : List (ClassId × FieldType) := [(dA 0, .int), (dA 1, .int), (dA 2, .char), (dA 3, .object RX0), (dA 4, .object RX8), (dA 5, .object RX5), (dA 6, .object RX7)]
/-- the cell of kind k of the owner o, whose numbers are f -/
def ncell (dA : Nat → ClassId) (ad : Nat → Nat → Nat → Nat) (f : Nat → Int32) (o k : Nat) : va_E := match k with
  | 0 => .inr (4, [.ref (ad o 1 0), .ref (ad o 2 0), .ref (ad o 7 0), .ref (ad o 10 0), .ref (ad o 12 0), .ref (ad o 14 0), .int (f 6), .int (f 7), .int (f 8)])
  | 1 => .inr (1, [.int (f 0), .int (f 1), .int (f 2), .int (f 3)])
  | 2 => .inr (6, [.ref (ad o 3 0), .ref (ad o 5 0), .int (f 2), .int (f 3)])
  | 3 => .inl (dA 3, 5, .inr (.inr (.inr (.inr (fun j => some (ad o 4 j))))))
  | 4 => .inr (0, [.int (f 0), .int (f 1), .int (f 2)])
  | 5 => .inl (dA 4, 40, .inr (.inr (.inr (.inr (fun j => some (ad o 6 j))))))
  | 6 => .inr (8, [.int (f 0), .int (f 1), .int (f 2)])
  | 7 => .inr (3, [.ref (ad o 8 0), .ref (ad o 9 0), .int (f 2)])
  | 8 => .inl (dA 2, 26, .inl f)
  | 9 => .inl (dA 0, 26, .inl f)
  | 10 => .inl (dA 5, 12, .inr (.inr (.inr (.inr (fun j => some (ad o 11 j))))))
  | 11 => .inr (5, [.int (f 0), .int (f 1), .int (f 2), .int (f 3), .int (f 4), .int (f 5), .int (f 6), .int (f 7), .int (f 8), .int (f 9)])
  | 12 => .inl (dA 6, 150, .inr (.inr (.inr (.inr (fun j => some (ad o 13 j))))))
  | 13 => .inr (7, [.int (f 0), .int (f 1), .int (f 2), .int (f 3), .int (f 4)])
  | 14 => .inl (dA 0, 150, .inl f)
  | 20 => .inr (9, [.ref (ad 0 0 0), .ref (ad 1 0 0), .ref (ad o 21 0)])
  | 21 => .inr (2, [.ref (ad o 22 0), .ref (ad o 23 0), .ref (ad o 24 0), .ref (ad o 25 0), .int (f 4)])
  | 22 => .inl (dA 0, 512, .inl f)
  | 23 => .inl (dA 0, 512, .inl f)
  | 24 => .inl (dA 0, 512, .inl f)
  | 25 => .inl (dA 0, 512, .inl f)
  | _ => .inl (dA 0, 12, .inl f)
/-- how many cells there are of a kind -/
def nsz (k : Nat) : Nat := match k with
  | 4 => 5
  | 6 => 40
  | 11 => 12
  | 13 => 150
  | 31 => 0
  | 32 => 0
  | 33 => 0
  | 34 => 0
  | 35 => 0
  | 39 => 0
  | 42 => 0
  | 52 => 0
  | 57 => 0
  | _ => 1
/-- the places of the picture: the owners in 'on', each with its kinds -/
def nV (on : Nat → Prop) (o k i : Nat) : Prop := on o ∧ i < nsz k ∧ ((o < 2 ∧ k < 15) ∨ (o = 2 ∧ 20 ≤ k ∧ k < 26) ∨ (o = 3 ∧ 30 ≤ k ∧ k < 61))
theorem nv_o {on : Nat → Prop} {o k i : Nat} (h : on o) (ho : o < 2) (hk : k < 15) (hi : i < nsz k) : nV on o k i := ⟨h, hi, Or.inl ⟨ho, hk⟩⟩
theorem nv_n {on : Nat → Prop} {k i : Nat} (h : on 2) (hk : 20 ≤ k ∧ k < 26) (hi : i < nsz k) : nV on 2 k i := ⟨h, hi, Or.inr (Or.inl ⟨rfl, hk⟩)⟩
theorem nv_m {on : Nat → Prop} {k i : Nat} (h : on 3) (hk : 30 ≤ k ∧ k < 61) (hi : i < nsz k) : nV on 3 k i := ⟨h, hi, Or.inr (Or.inr ⟨rfl, hk⟩)⟩
def npic (D : va_G) (dA : Nat → ClassId) (ad : Nat → Nat → Nat → Nat) (on : Nat → Prop) (X : NWd) (H : Heap) : Prop := ∀ o k i : Nat, nV on o k i → va_at D ncl (ad o k i, ncell dA ad (X o k i) o k) H
def nA (ad : Nat → Nat → Nat → Nat) (on : Nat → Prop) : Nat → Prop := fun q => ∃ o k i : Nat, nV on o k i ∧ ad o k i = q
def ninj (ad : Nat → Nat → Nat → Nat) (on : Nat → Prop) : Prop := ∀ o k i o' k' i' : Nat, nV on o k i → nV on o' k' i' → ad o k i = ad o' k' i' → o = o' ∧ k = k' ∧ i = i'
theorem npic_kept {D : va_G} {dA : Nat → ClassId} {ad : Nat → Nat → Nat → Nat} {on : Nat → Prop} {X : NWd} {H H1 : Heap} (h : npic D dA ad on X H) (hq : ∀ q, q < H.size → nA ad on q → H1[q]? = H[q]?) : npic D dA ad on X H1 :=
  fun o k i hv => (h o k i hv).kept (hq _ ((h o k i hv).lt) ⟨o, k, i, hv, rfl⟩)
theorem npic_new {D : va_G} {dA : Nat → ClassId} {ad : Nat → Nat → Nat → Nat} {on : Nat → Prop} {X : NWd} {H H1 : Heap} (h : npic D dA ad on X H) (hq : ∀ q : Nat, q < H.size → H1[q]? = H[q]?) : npic D dA ad on X H1 := npic_kept h (fun q h1 _ => hq q h1)
/-- one number is written -/
theorem npic_set {D : va_G} {dA : Nat → ClassId} {ad : Nat → Nat → Nat → Nat} {on : Nat → Prop} {X : NWd} {H H1 : Heap} {o k i j : Nat} {S : NSt} {v : Int32} {e : va_E} (hI : ninj ad on) (h : npic D dA ad on (wdo X o S) H) (hv : nV on o k i) (he : va_at D ncl (ad o k i, e) H1) (hc : ncell dA ad (fun j' => if j' = j then v else S k i j') o k = e) (oq : ∀ q : Nat, q ≠ ad o k i → H1[q]? = H[q]?) : npic D dA ad on (wdo X o (nput S k i j v)) H1 := by
  intro o' k' i' hv'
  by_cases hp : o' = o ∧ k' = k ∧ i' = i
  · obtain ⟨rfl, rfl, rfl⟩ := hp
    have e1 : (wdo X o' (nput S k' i' j v)) o' k' i' = fun j' => if j' = j then v else S k' i' j' := by
      funext j'
      simp [wdo, nput]
    rw [e1, hc]
    exact he
  · have e1 : (wdo X o (nput S k i j v)) o' k' i' = (wdo X o S) o' k' i' := by
      funext j'
      by_cases ho : o' = o
      · subst ho
        simp only [wdo_at, nput]
        rw [if_neg (fun z => hp ⟨rfl, z.1, z.2.2⟩)]
      · rw [wdo_ne ho, wdo_ne ho]
    rw [e1]
    exact (h o' k' i' hv').kept (oq _ (fun z => hp (hI _ _ _ _ _ _ hv' hv z)))
/-- the tables' words that are no good ones, and the constants' texts -/
def nbad : Cond → Bool
  | .methodLinkNest .. => true
  | .castable .. => true
  | .declares _ => true
  | _ => false
def nbw : List Cond := tables_1.filter nbad
abbrev nstr : List (Nat × String) := [(58, "the number of days is out of range"), (60, "the last day would be passed"), (66, "the number of signatures or the deposit is out of range"), (77, "there are 5 areas"), (347, "no such area"), (86, "there are 40 voters"), (349, "no such voter"), (102, "the voter is in this area"), (109, "the voter is struck off"), (115, "the voter is on the roll"), (117, "the party is out of range"), (361, "the characters are not a surname"), (365, "the office is closed"), (126, "there are 12 papers"), (351, "no such paper"), (370, "the paper is withdrawn"), (141, "there are 150 signatures"), (143, "the amount is out of range"), (375, "the paper is rejected"), (160, "the last day for changes is over"), (169, "the candidate is dead"), (174, "the polling day has come"), (180, "the candidate is not replaceable"), (187, "no such place"), (200, "no such signature"), (220, "no signature of the voter counts"), (223, "both are the same paper"), (232, "there is no such set"), (263, "the office is open"), (274, "the letters have been drawn"), (379, "the letters have not been drawn"), (363, "the precinct is out of range"), (377, "the paper does not stand"), (301, "the number of votes is out of range"), (381, "the polling day has not come"), (383, "the counting is finished"), (329, "the counting is not finished"), (334, "no paper stands in the area")]
abbrev nex (k : Nat) : String := match k with
  | 0 => "java/lang/IllegalArgumentException"
  | 1 => "java/lang/IllegalStateException"
  | 2 => "java/lang/IndexOutOfBoundsException"
  | 3 => "java/lang/UnsupportedOperationException"
  | 4 => "java/util/NoSuchElementException"
  | _ => "java/lang/ArithmeticException"
abbrev nnc : List (String × String) := [("java/lang/IllegalArgumentException", "java/lang/IllegalStateException"), ("java/lang/IllegalArgumentException", "java/lang/IndexOutOfBoundsException"), ("java/lang/IllegalArgumentException", "java/lang/UnsupportedOperationException"), ("java/lang/IllegalArgumentException", "java/util/NoSuchElementException"), ("java/lang/IllegalStateException", "java/lang/IllegalArgumentException"), ("java/lang/IllegalStateException", "java/lang/IndexOutOfBoundsException"), ("java/lang/IllegalStateException", "java/lang/UnsupportedOperationException"), ("java/lang/IllegalStateException", "java/util/NoSuchElementException"), ("java/lang/IndexOutOfBoundsException", "java/lang/IllegalArgumentException"), ("java/lang/IndexOutOfBoundsException", "java/lang/IllegalStateException"), ("java/lang/IndexOutOfBoundsException", "java/lang/UnsupportedOperationException"), ("java/lang/IndexOutOfBoundsException", "java/util/NoSuchElementException"), ("java/lang/UnsupportedOperationException", "java/lang/IllegalArgumentException"), ("java/lang/UnsupportedOperationException", "java/lang/IllegalStateException"), ("java/lang/UnsupportedOperationException", "java/lang/IndexOutOfBoundsException"), ("java/lang/UnsupportedOperationException", "java/util/NoSuchElementException"), ("java/util/NoSuchElementException", "java/lang/IllegalArgumentException"), ("java/util/NoSuchElementException", "java/lang/IllegalStateException"), ("java/util/NoSuchElementException", "java/lang/IndexOutOfBoundsException"), ("java/util/NoSuchElementException", "java/lang/UnsupportedOperationException")]
def ntab (D : va_G) (dA : Nat → ClassId) (U : State) : Prop := va_K D ncl (ntys dA) U ∧ (∀ w ∈ nbw, w.before #[] U = true) ∧ (∀ q ∈ nstr, ∃ a, vk_R "Nominator" q.1 q.2 a U) ∧ ∀ q ∈ nnc, va_Nc q.1 q.2 U
theorem ntab_warm {D : va_G} {dA : Nat → ClassId} {s U : State} (hW : s.WarmedH U.vm) (h : ntab D dA s) : ntab D dA U := by
  obtain ⟨h1, h2, h3, h4⟩ := h
  refine ⟨va_K.moved hW.alike h1, fun w hw => ?_, fun q hq => ?_, fun q hq => va_Nc.moved hW.alike (h4 q hq)⟩
  · have h5 := h2 w hw
    have h6 := (List.mem_filter.mp hw).2
    cases w <;> first | exact va_Nw.warmM hW h5 | exact va_Nw.warmC hW h5 | exact va_Nw.warmD hW h5 | (simp [nbad] at h6; done)
  · obtain ⟨a, ha⟩ := h3 q hq
    exact ⟨a, vk_R.warm hW ha⟩
theorem ntab_calling {D : va_G} {dA : Nat → ClassId} {U : State} {g : JFrame} {mk : MethodId} {a : Array Value} (h : ntab D dA U) : ntab D dA (U.calling g mk a) := by
  obtain ⟨h1, h2, h3, h4⟩ := h
  refine ⟨va_K.moved (u := U) (U := U.calling g mk a) (Vm.Alike.refl U.vm) h1, fun w hw => ?_, fun q hq => ?_, fun q hq => va_Nc.moved (u := U) (U := U.calling g mk a) (Vm.Alike.refl U.vm) (h4 q hq)⟩
  · have h5 := h2 w hw
    have h6 := (List.mem_filter.mp hw).2
    have h7 : w.onTables = true := by cases w <;> first | rfl | (simp [nbad] at h6; done)
    exact va_tabs (u := U) (U := U.calling g mk a) h7 rfl h5
  · obtain ⟨a9, ha⟩ := h3 q hq
    exact ⟨a9, vk_R.same rfl ha⟩
abbrev nst (A : Nat → Prop) (U : State) (H : Heap) : Prop := vx_Zq Bundle.tN "UNASSIGNED_STACK" Bundle.steD A U H ∧ vx_Zq Bundle.tN "SUPPRESSED_SENTINEL" Bundle.listD A U H
def npre (D : va_G) (dA : Nat → ClassId) (ad : Nat → Nat → Nat → Nat) (on : Nat → Prop) (X : NWd) (U : State) : Prop := ntab D dA U ∧ npic D dA ad on X U.heap ∧ nst (nA ad on) U U.heap
theorem npre_calling {D : va_G} {dA : Nat → ClassId} {ad : Nat → Nat → Nat → Nat} {on : Nat → Prop} {X : NWd} {U : State} {g : JFrame} {mk : MethodId} {a : Array Value} (h : npre D dA ad on X U) : npre D dA ad on X (U.calling g mk a) :=
  ⟨ntab_calling h.1, h.2.1, vx_Zq.moved (u := U) (U := U.calling g mk a) (Vm.Alike.refl U.vm) h.2.2.1, vx_Zq.moved (u := U) (U := U.calling g mk a) (Vm.Alike.refl U.vm) h.2.2.2⟩
/-- what holds all along a method's walk -/
def nC (p : Program) (s : State) (m : MethodId) (args : Array Value) (meth : Method) (c : Code) (cc : ByteArray) (nL : Nat) (own : String) (D : va_G) (dA : Nat → ClassId) (ad : Nat → Nat → Nat → Nat) (on : Nat → Prop) : Prop :=
  p.tables.exec = Jvm.exec ∧ c.code = cc ∧ c.maxLocals = nL ∧ s.vm.findClass own = some m.cls ∧ (∀ w ∈ gw, w.before args s = true) ∧ ntab D dA s ∧ nst (nA ad on) s s.heap ∧ ninj ad on ∧ meth.locks = false
abbrev nws (y : MethodName) (cc : ByteArray) (maxL : Nat) (ret : Option FieldType) : List Cond := Cond.code y cc maxL ret :: gw
abbrev nrm (f : Nat) : Room := { frames := f, cells := 0, slots := 0, locals := 40 * f }
abbrev nrx (f k : Nat) : Room := { frames := f, cells := k, slots := 6 * k, locals := 40 * f }
section NB
variable {l : Launch} {D : va_G} {dA : Nat → ClassId} {ad : Nat → Nat → Nat → Nat} {on : Nat → Prop}
/-- contracts: of methods that return -/
def nMi (l : Launch) (D : va_G) (dA : Nat → ClassId) (ad : Nat → Nat → Nat → Nat) (on : Nat → Prop) (y : MethodName) (cc : ByteArray) (maxL : Nat) (ret : Option FieldType) (rm : Room) (av : List Value) (X : NWd) (P : Int32 → NWd → Prop) : Prop :=
  Met l y (nws y cc maxL ret) rm (va_Pc av (npre D dA ad on X)) (va_Qi P (fun X' t => npic D dA ad on X' t.heap) (nA ad on)) 0 0 (nA ad on)
def nMv (l : Launch) (D : va_G) (dA : Nat → ClassId) (ad : Nat → Nat → Nat → Nat) (on : Nat → Prop) (y : MethodName) (cc : ByteArray) (maxL : Nat) (rm : Room) (av : List Value) (X : NWd) (P : NWd → Prop) : Prop :=
  Met l y (nws y cc maxL none) rm (va_Pc av (npre D dA ad on X)) (va_Qv P (fun X' t => npic D dA ad on X' t.heap) (nA ad on)) 0 0 (nA ad on)
/-- and of those that may throw -/
abbrev nXX (D : va_G) (dA : Nat → ClassId) (ad : Nat → Nat → Nat → Nat) (on : Nat → Prop) (X : NWd) (E : Nat → Prop) : String → State → State → Prop := vx_X E (fun nm k t => nm = nex k ∧ npic D dA ad on X t.heap) (nA ad on)
def nXi (l : Launch) (D : va_G) (dA : Nat → ClassId) (ad : Nat → Nat → Nat → Nat) (on : Nat → Prop) (y : MethodName) (cc : ByteArray) (maxL : Nat) (ret : Option FieldType) (rm : Room) (av : List Value) (X : NWd) (mc : Nat) (P : Int32 → NWd → Prop) (E : Nat → Prop) : Prop :=
  vx_Met l y (nws y cc maxL ret) rm (va_Pc av (npre D dA ad on X)) (va_Qi P (fun X' t => npic D dA ad on X' t.heap) (nA ad on)) (nXX D dA ad on X E) mc (6 * mc) (nA ad on)
def nXv (l : Launch) (D : va_G) (dA : Nat → ClassId) (ad : Nat → Nat → Nat → Nat) (on : Nat → Prop) (y : MethodName) (cc : ByteArray) (maxL : Nat) (rm : Room) (av : List Value) (X : NWd) (mc : Nat) (P : NWd → Prop) (E : Nat → Prop) : Prop :=
  vx_Met l y (nws y cc maxL none) rm (va_Pc av (npre D dA ad on X)) (va_Qv P (fun X' t => npic D dA ad on X' t.heap) (nA ad on)) (nXX D dA ad on X E) mc (6 * mc) (nA ad on)
def nXd (l : Launch) (D : va_G) (dA : Nat → ClassId) (ad : Nat → Nat → Nat → Nat) (on : Nat → Prop) (y : MethodName) (cc : ByteArray) (maxL : Nat) (rm : Room) (av : List Value) (X : NWd) (mc : Nat) (P : UInt64 → NWd → Prop) (E : Nat → Prop) : Prop :=
  vx_Met l y (nws y cc maxL (some .double)) rm (va_Pc av (npre D dA ad on X)) (va_Qd P (fun X' t => npic D dA ad on X' t.heap) (nA ad on)) (nXX D dA ad on X E) mc (6 * mc) (nA ad on)
def nXf (l : Launch) (D : va_G) (dA : Nat → ClassId) (ad : Nat → Nat → Nat → Nat) (on : Nat → Prop) (y : MethodName) (cc : ByteArray) (maxL : Nat) (rm : Room) (av : List Value) (X : NWd) (mc : Nat) (P : UInt32 → NWd → Prop) (E : Nat → Prop) : Prop :=
  vx_Met l y (nws y cc maxL (some .float)) rm (va_Pc av (npre D dA ad on X)) (va_Qf P (fun X' t => npic D dA ad on X' t.heap) (nA ad on)) (nXX D dA ad on X E) mc (6 * mc) (nA ad on)
end NB
