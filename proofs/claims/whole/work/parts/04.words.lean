def gw : List Cond := lw_tbl.filter goodWord
theorem gw_in {w : Cond} (h : w ∈ tables_1) (g : goodWord w = true) : w ∈ gw := List.mem_filter.mpr ⟨List.mem_append_right _ h, g⟩
theorem gw_ins {w : Cond} (h : w ∈ k2_sels lw_privs) (g : goodWord w = true) : w ∈ gw := List.mem_filter.mpr ⟨List.mem_append_left _ h, g⟩
theorem gw_tbl {w : Cond} (h : w ∈ gw) : w ∈ lw_tbl := (List.mem_filter.mp h).1
theorem gw_good {ws : List Cond} (h : ∀ w ∈ ws, w ∈ gw) : GoodIn gw ws := fun w hw => ⟨h w hw, good_of_word (List.mem_filter.mp (h w hw)).2⟩
set_option maxRecDepth 20000 in
theorem q0 : (Jvm.Cond.initialized "NominatorLaw") ∈ gw := gw_in (List.mem_of_getElem? (i := 0) (by rfl)) (by rfl)
set_option maxRecDepth 20000 in
theorem q1 : (Jvm.Cond.initialized "Nominator") ∈ gw := gw_in (List.mem_of_getElem? (i := 1) (by rfl)) (by rfl)
set_option maxRecDepth 20000 in
theorem q2 : (Jvm.Cond.initialized "Nominator$Office") ∈ gw := gw_in (List.mem_of_getElem? (i := 2) (by rfl)) (by rfl)
set_option maxRecDepth 20000 in
theorem q3 : (Jvm.Cond.initialized "Nominator$Calendar") ∈ gw := gw_in (List.mem_of_getElem? (i := 3) (by rfl)) (by rfl)
set_option maxRecDepth 20000 in
theorem q4 : (Jvm.Cond.initialized "Nominator$Roll") ∈ gw := gw_in (List.mem_of_getElem? (i := 4) (by rfl)) (by rfl)
set_option maxRecDepth 20000 in
theorem q5 : (Jvm.Cond.initialized "Nominator$Area") ∈ gw := gw_in (List.mem_of_getElem? (i := 5) (by rfl)) (by rfl)
set_option maxRecDepth 20000 in
theorem q6 : (Jvm.Cond.initialized "Nominator$Voter") ∈ gw := gw_in (List.mem_of_getElem? (i := 6) (by rfl)) (by rfl)
set_option maxRecDepth 20000 in
theorem q7 : (Jvm.Cond.initialized "Nominator$Letters") ∈ gw := gw_in (List.mem_of_getElem? (i := 7) (by rfl)) (by rfl)
set_option maxRecDepth 20000 in
theorem q8 : (Jvm.Cond.initialized "Nominator$Paper") ∈ gw := gw_in (List.mem_of_getElem? (i := 8) (by rfl)) (by rfl)
set_option maxRecDepth 20000 in
theorem q9 : (Jvm.Cond.initialized "Nominator$Signature") ∈ gw := gw_in (List.mem_of_getElem? (i := 9) (by rfl)) (by rfl)
set_option maxRecDepth 20000 in
theorem q10 : (Jvm.Cond.initialized "Nominator$Diary") ∈ gw := gw_in (List.mem_of_getElem? (i := 10) (by rfl)) (by rfl)
set_option maxRecDepth 20000 in
theorem q11 : (Jvm.Cond.initialized "NominatorModel") ∈ gw := gw_in (List.mem_of_getElem? (i := 11) (by rfl)) (by rfl)
set_option maxRecDepth 20000 in
theorem q12 : (Jvm.Cond.initialized "java/lang/Throwable") ∈ gw := gw_in (List.mem_of_getElem? (i := 12) (by rfl)) (by rfl)
set_option maxRecDepth 20000 in
theorem q13 : (Jvm.Cond.initialized "java/lang/Exception") ∈ gw := gw_in (List.mem_of_getElem? (i := 13) (by rfl)) (by rfl)
set_option maxRecDepth 20000 in
theorem q14 : (Jvm.Cond.initialized "java/lang/RuntimeException") ∈ gw := gw_in (List.mem_of_getElem? (i := 14) (by rfl)) (by rfl)
set_option maxRecDepth 20000 in
theorem q15 : (Jvm.Cond.initialized "java/lang/IllegalArgumentException") ∈ gw := gw_in (List.mem_of_getElem? (i := 15) (by rfl)) (by rfl)
set_option maxRecDepth 20000 in
theorem q16 : (Jvm.Cond.initialized "java/lang/IllegalStateException") ∈ gw := gw_in (List.mem_of_getElem? (i := 16) (by rfl)) (by rfl)
set_option maxRecDepth 20000 in
theorem q17 : (Jvm.Cond.initialized "java/lang/IndexOutOfBoundsException") ∈ gw := gw_in (List.mem_of_getElem? (i := 17) (by rfl)) (by rfl)
set_option maxRecDepth 20000 in
theorem q18 : (Jvm.Cond.initialized "java/lang/ArrayIndexOutOfBoundsException") ∈ gw := gw_in (List.mem_of_getElem? (i := 18) (by rfl)) (by rfl)
set_option maxRecDepth 20000 in
theorem q19 : (Jvm.Cond.initialized "java/lang/String") ∈ gw := gw_in (List.mem_of_getElem? (i := 19) (by rfl)) (by rfl)
set_option maxRecDepth 20000 in
theorem q20 : (Jvm.Cond.initialized "java/lang/UnsupportedOperationException") ∈ gw := gw_in (List.mem_of_getElem? (i := 20) (by rfl)) (by rfl)
set_option maxRecDepth 20000 in
theorem q21 : (Jvm.Cond.initialized "java/util/NoSuchElementException") ∈ gw := gw_in (List.mem_of_getElem? (i := 21) (by rfl)) (by rfl)
set_option maxRecDepth 20000 in
theorem q22 : (Jvm.Cond.initialized "java/lang/Integer") ∈ gw := gw_in (List.mem_of_getElem? (i := 22) (by rfl)) (by rfl)
set_option maxRecDepth 20000 in
theorem q23 : (Jvm.Cond.initialized "java/lang/Math") ∈ gw := gw_in (List.mem_of_getElem? (i := 23) (by rfl)) (by rfl)
set_option maxRecDepth 20000 in
theorem q24 : (Jvm.Cond.initialized "java/lang/ArithmeticException") ∈ gw := gw_in (List.mem_of_getElem? (i := 24) (by rfl)) (by rfl)
set_option maxRecDepth 20000 in
theorem q25 : (Jvm.Cond.classLink "NominatorLaw" (8 : Nat) "Nominator") ∈ gw := gw_in (List.mem_of_getElem? (i := 25) (by rfl)) (by rfl)
set_option maxRecDepth 20000 in
theorem q26 : (Jvm.Cond.instantiable "Nominator" (3 : Nat)) ∈ gw := gw_in (List.mem_of_getElem? (i := 26) (by rfl)) (by rfl)
set_option maxRecDepth 20000 in
theorem q27 : (Jvm.Cond.methodLink "NominatorLaw" (146 : Nat) ({ cls := "Nominator", name := "<init>", desc := "()V" } : Jvm.MethodName)) ∈ gw := gw_in (List.mem_of_getElem? (i := 27) (by rfl)) (by rfl)
set_option maxRecDepth 20000 in
theorem q28 : (Jvm.Cond.instanceMethod ({ cls := "Nominator", name := "<init>", desc := "()V" } : Jvm.MethodName)) ∈ gw := gw_in (List.mem_of_getElem? (i := 28) (by rfl)) (by rfl)
set_option maxRecDepth 20000 in
theorem q29 : (Jvm.Cond.code ({ cls := "Nominator", name := "<init>", desc := "()V" } : Jvm.MethodName) prog_1_method_1_code (1 : Nat) (Option.none : Option Jvm.ClassFile.FieldType)) ∈ gw := gw_in (List.mem_of_getElem? (i := 29) (by rfl)) (by rfl)
set_option maxRecDepth 20000 in
theorem q30 : (Jvm.Cond.methodLink "Nominator" (1 : Nat) ({ cls := "java/lang/Object", name := "<init>", desc := "()V" } : Jvm.MethodName)) ∈ gw := gw_in (List.mem_of_getElem? (i := 30) (by rfl)) (by rfl)
set_option maxRecDepth 20000 in
theorem q31 : (Jvm.Cond.instanceMethod ({ cls := "java/lang/Object", name := "<init>", desc := "()V" } : Jvm.MethodName)) ∈ gw := gw_in (List.mem_of_getElem? (i := 31) (by rfl)) (by rfl)
set_option maxRecDepth 20000 in
theorem q32 : (Jvm.Cond.code ({ cls := "java/lang/Object", name := "<init>", desc := "()V" } : Jvm.MethodName) object_method_1_code (1 : Nat) (Option.none : Option Jvm.ClassFile.FieldType)) ∈ gw := gw_in (List.mem_of_getElem? (i := 32) (by rfl)) (by rfl)
set_option maxRecDepth 20000 in
theorem q33 : (Jvm.Cond.classLink "Nominator" (7 : Nat) "Nominator$Office") ∈ gw := gw_in (List.mem_of_getElem? (i := 33) (by rfl)) (by rfl)
set_option maxRecDepth 20000 in
theorem q34 : (Jvm.Cond.instantiable "Nominator$Office" (9 : Nat)) ∈ gw := gw_in (List.mem_of_getElem? (i := 34) (by rfl)) (by rfl)
set_option maxRecDepth 20000 in
theorem q35 : (Jvm.Cond.methodLink "Nominator" (9 : Nat) ({ cls := "Nominator$Office", name := "<init>", desc := "()V" } : Jvm.MethodName)) ∈ gw := gw_in (List.mem_of_getElem? (i := 35) (by rfl)) (by rfl)
set_option maxRecDepth 20000 in
theorem q36 : (Jvm.Cond.instanceMethod ({ cls := "Nominator$Office", name := "<init>", desc := "()V" } : Jvm.MethodName)) ∈ gw := gw_in (List.mem_of_getElem? (i := 36) (by rfl)) (by rfl)
set_option maxRecDepth 20000 in
theorem q37 : (Jvm.Cond.code ({ cls := "Nominator$Office", name := "<init>", desc := "()V" } : Jvm.MethodName) prog_6_method_1_code (2 : Nat) (Option.none : Option Jvm.ClassFile.FieldType)) ∈ gw := gw_in (List.mem_of_getElem? (i := 37) (by rfl)) (by rfl)
set_option maxRecDepth 20000 in
theorem q38 : (Jvm.Cond.methodLink "Nominator$Office" (3 : Nat) ({ cls := "java/lang/Object", name := "<init>", desc := "()V" } : Jvm.MethodName)) ∈ gw := gw_in (List.mem_of_getElem? (i := 38) (by rfl)) (by rfl)
set_option maxRecDepth 20000 in
theorem q39 : (Jvm.Cond.classLink "Nominator$Office" (9 : Nat) "Nominator$Calendar") ∈ gw := gw_in (List.mem_of_getElem? (i := 39) (by rfl)) (by rfl)
set_option maxRecDepth 20000 in
theorem q40 : (Jvm.Cond.instantiable "Nominator$Calendar" (4 : Nat)) ∈ gw := gw_in (List.mem_of_getElem? (i := 40) (by rfl)) (by rfl)
set_option maxRecDepth 20000 in
theorem q42 : (Jvm.Cond.instanceMethod ({ cls := "Nominator$Calendar", name := "<init>", desc := "()V" } : Jvm.MethodName)) ∈ gw := gw_in (List.mem_of_getElem? (i := 42) (by rfl)) (by rfl)
set_option maxRecDepth 20000 in
theorem q43 : (Jvm.Cond.code ({ cls := "Nominator$Calendar", name := "<init>", desc := "()V" } : Jvm.MethodName) prog_3_method_1_code (1 : Nat) (Option.none : Option Jvm.ClassFile.FieldType)) ∈ gw := gw_in (List.mem_of_getElem? (i := 43) (by rfl)) (by rfl)
set_option maxRecDepth 20000 in
theorem q44 : (Jvm.Cond.methodLink "Nominator$Calendar" (3 : Nat) ({ cls := "java/lang/Object", name := "<init>", desc := "()V" } : Jvm.MethodName)) ∈ gw := gw_in (List.mem_of_getElem? (i := 44) (by rfl)) (by rfl)
set_option maxRecDepth 20000 in
theorem q45 : (Jvm.Cond.fieldLink "Nominator$Calendar" (9 : Nat) "Nominator$Calendar" "day" "I") ∈ gw := gw_in (List.mem_of_getElem? (i := 45) (by rfl)) (by rfl)
set_option maxRecDepth 20000 in
theorem q46 : (Jvm.Cond.fieldLink "Nominator" (37 : Nat) "Nominator$Calendar" "day" "I") ∈ gw := gw_in (List.mem_of_getElem? (i := 46) (by rfl)) (by rfl)
set_option maxRecDepth 20000 in
theorem q47 : (Jvm.Cond.fieldLink "Nominator$Office" (73 : Nat) "Nominator$Calendar" "day" "I") ∈ gw := gw_in (List.mem_of_getElem? (i := 47) (by rfl)) (by rfl)
set_option maxRecDepth 20000 in
theorem q48 : (Jvm.Cond.fieldLink "Nominator$Calendar" (19 : Nat) "Nominator$Calendar" "closing" "I") ∈ gw := gw_in (List.mem_of_getElem? (i := 48) (by rfl)) (by rfl)
set_option maxRecDepth 20000 in
theorem q49 : (Jvm.Cond.fieldLink "Nominator$Calendar" (22 : Nat) "Nominator$Calendar" "changes" "I") ∈ gw := gw_in (List.mem_of_getElem? (i := 49) (by rfl)) (by rfl)
set_option maxRecDepth 20000 in
theorem q50 : (Jvm.Cond.fieldLink "Nominator" (51 : Nat) "Nominator$Calendar" "polling" "I") ∈ gw := gw_in (List.mem_of_getElem? (i := 50) (by rfl)) (by rfl)
set_option maxRecDepth 20000 in
theorem q51 : (Jvm.Cond.fieldLink "Nominator$Calendar" (25 : Nat) "Nominator$Calendar" "polling" "I") ∈ gw := gw_in (List.mem_of_getElem? (i := 51) (by rfl)) (by rfl)
set_option maxRecDepth 20000 in
theorem q52 : (Jvm.Cond.lays "Nominator$Calendar" "Nominator$Calendar" "day" "I") ∈ gw := gw_in (List.mem_of_getElem? (i := 52) (by rfl)) (by rfl)
set_option maxRecDepth 20000 in
theorem q54 : (Jvm.Cond.lays "Nominator$Calendar" "Nominator$Calendar" "closing" "I") ∈ gw := gw_in (List.mem_of_getElem? (i := 54) (by rfl)) (by rfl)
set_option maxRecDepth 20000 in
theorem q56 : (Jvm.Cond.lays "Nominator$Calendar" "Nominator$Calendar" "changes" "I") ∈ gw := gw_in (List.mem_of_getElem? (i := 56) (by rfl)) (by rfl)
set_option maxRecDepth 20000 in
theorem q58 : (Jvm.Cond.lays "Nominator$Calendar" "Nominator$Calendar" "polling" "I") ∈ gw := gw_in (List.mem_of_getElem? (i := 58) (by rfl)) (by rfl)
set_option maxRecDepth 20000 in
theorem q61 : (Jvm.Cond.classLink "Nominator$Office" (18 : Nat) "Nominator$Roll") ∈ gw := gw_in (List.mem_of_getElem? (i := 61) (by rfl)) (by rfl)
set_option maxRecDepth 20000 in
theorem q62 : (Jvm.Cond.instantiable "Nominator$Roll" (4 : Nat)) ∈ gw := gw_in (List.mem_of_getElem? (i := 62) (by rfl)) (by rfl)
set_option maxRecDepth 20000 in
theorem q63 : (Jvm.Cond.methodLink "Nominator$Office" (20 : Nat) ({ cls := "Nominator$Roll", name := "<init>", desc := "()V" } : Jvm.MethodName)) ∈ gw := gw_in (List.mem_of_getElem? (i := 63) (by rfl)) (by rfl)
set_option maxRecDepth 20000 in
theorem q64 : (Jvm.Cond.instanceMethod ({ cls := "Nominator$Roll", name := "<init>", desc := "()V" } : Jvm.MethodName)) ∈ gw := gw_in (List.mem_of_getElem? (i := 64) (by rfl)) (by rfl)
set_option maxRecDepth 20000 in
theorem q65 : (Jvm.Cond.code ({ cls := "Nominator$Roll", name := "<init>", desc := "()V" } : Jvm.MethodName) prog_8_method_1_code (2 : Nat) (Option.none : Option Jvm.ClassFile.FieldType)) ∈ gw := gw_in (List.mem_of_getElem? (i := 65) (by rfl)) (by rfl)
set_option maxRecDepth 20000 in
theorem q66 : (Jvm.Cond.methodLink "Nominator$Roll" (3 : Nat) ({ cls := "java/lang/Object", name := "<init>", desc := "()V" } : Jvm.MethodName)) ∈ gw := gw_in (List.mem_of_getElem? (i := 66) (by rfl)) (by rfl)
set_option maxRecDepth 20000 in
theorem q67 : (Jvm.Cond.classLink "Nominator$Roll" (9 : Nat) "Nominator$Area") ∈ gw := gw_in (List.mem_of_getElem? (i := 67) (by rfl)) (by rfl)
set_option maxRecDepth 20000 in
theorem q69 : (Jvm.Cond.classLink "Nominator$Roll" (17 : Nat) "Nominator$Voter") ∈ gw := gw_in (List.mem_of_getElem? (i := 69) (by rfl)) (by rfl)
set_option maxRecDepth 20000 in
theorem q71 : (Jvm.Cond.instantiable "Nominator$Area" (3 : Nat)) ∈ gw := gw_in (List.mem_of_getElem? (i := 71) (by rfl)) (by rfl)
set_option maxRecDepth 20000 in
theorem q73 : (Jvm.Cond.instanceMethod ({ cls := "Nominator$Area", name := "<init>", desc := "()V" } : Jvm.MethodName)) ∈ gw := gw_in (List.mem_of_getElem? (i := 73) (by rfl)) (by rfl)
set_option maxRecDepth 20000 in
theorem q74 : (Jvm.Cond.code ({ cls := "Nominator$Area", name := "<init>", desc := "()V" } : Jvm.MethodName) prog_2_method_1_code (1 : Nat) (Option.none : Option Jvm.ClassFile.FieldType)) ∈ gw := gw_in (List.mem_of_getElem? (i := 74) (by rfl)) (by rfl)
set_option maxRecDepth 20000 in
theorem q75 : (Jvm.Cond.methodLink "Nominator$Area" (1 : Nat) ({ cls := "java/lang/Object", name := "<init>", desc := "()V" } : Jvm.MethodName)) ∈ gw := gw_in (List.mem_of_getElem? (i := 75) (by rfl)) (by rfl)
set_option maxRecDepth 20000 in
theorem q76 : (Jvm.Cond.fieldLink "Nominator$Area" (7 : Nat) "Nominator$Area" "needed" "I") ∈ gw := gw_in (List.mem_of_getElem? (i := 76) (by rfl)) (by rfl)
set_option maxRecDepth 20000 in
theorem q77 : (Jvm.Cond.fieldLink "Nominator$Office" (187 : Nat) "Nominator$Area" "needed" "I") ∈ gw := gw_in (List.mem_of_getElem? (i := 77) (by rfl)) (by rfl)
set_option maxRecDepth 20000 in
theorem q78 : (Jvm.Cond.fieldLink "Nominator$Area" (13 : Nat) "Nominator$Area" "deposit" "I") ∈ gw := gw_in (List.mem_of_getElem? (i := 78) (by rfl)) (by rfl)
set_option maxRecDepth 20000 in
theorem q79 : (Jvm.Cond.fieldLink "Nominator$Office" (184 : Nat) "Nominator$Area" "deposit" "I") ∈ gw := gw_in (List.mem_of_getElem? (i := 79) (by rfl)) (by rfl)
set_option maxRecDepth 20000 in
theorem q80 : (Jvm.Cond.fieldLink "Nominator$Area" (16 : Nat) "Nominator$Area" "finished" "Z") ∈ gw := gw_in (List.mem_of_getElem? (i := 80) (by rfl)) (by rfl)
set_option maxRecDepth 20000 in
theorem q81 : (Jvm.Cond.fieldLink "Nominator$Office" (104 : Nat) "Nominator$Area" "finished" "Z") ∈ gw := gw_in (List.mem_of_getElem? (i := 81) (by rfl)) (by rfl)
set_option maxRecDepth 20000 in
theorem q82 : (Jvm.Cond.fieldLink "Nominator" (324 : Nat) "Nominator$Area" "finished" "Z") ∈ gw := gw_in (List.mem_of_getElem? (i := 82) (by rfl)) (by rfl)
set_option maxRecDepth 20000 in
theorem q83 : (Jvm.Cond.lays "Nominator$Area" "Nominator$Area" "needed" "I") ∈ gw := gw_in (List.mem_of_getElem? (i := 83) (by rfl)) (by rfl)
set_option maxRecDepth 20000 in
theorem q85 : (Jvm.Cond.lays "Nominator$Area" "Nominator$Area" "deposit" "I") ∈ gw := gw_in (List.mem_of_getElem? (i := 85) (by rfl)) (by rfl)
set_option maxRecDepth 20000 in
theorem q87 : (Jvm.Cond.lays "Nominator$Area" "Nominator$Area" "finished" "Z") ∈ gw := gw_in (List.mem_of_getElem? (i := 87) (by rfl)) (by rfl)
set_option maxRecDepth 20000 in
theorem q90 : (Jvm.Cond.instantiable "Nominator$Voter" (3 : Nat)) ∈ gw := gw_in (List.mem_of_getElem? (i := 90) (by rfl)) (by rfl)
set_option maxRecDepth 20000 in
theorem q92 : (Jvm.Cond.instanceMethod ({ cls := "Nominator$Voter", name := "<init>", desc := "()V" } : Jvm.MethodName)) ∈ gw := gw_in (List.mem_of_getElem? (i := 92) (by rfl)) (by rfl)
set_option maxRecDepth 20000 in
theorem q93 : (Jvm.Cond.code ({ cls := "Nominator$Voter", name := "<init>", desc := "()V" } : Jvm.MethodName) prog_10_method_1_code (1 : Nat) (Option.none : Option Jvm.ClassFile.FieldType)) ∈ gw := gw_in (List.mem_of_getElem? (i := 93) (by rfl)) (by rfl)
set_option maxRecDepth 20000 in
theorem q94 : (Jvm.Cond.methodLink "Nominator$Voter" (1 : Nat) ({ cls := "java/lang/Object", name := "<init>", desc := "()V" } : Jvm.MethodName)) ∈ gw := gw_in (List.mem_of_getElem? (i := 94) (by rfl)) (by rfl)
set_option maxRecDepth 20000 in
theorem q95 : (Jvm.Cond.fieldLink "Nominator$Voter" (7 : Nat) "Nominator$Voter" "area" "I") ∈ gw := gw_in (List.mem_of_getElem? (i := 95) (by rfl)) (by rfl)
set_option maxRecDepth 20000 in
theorem q96 : (Jvm.Cond.fieldLink "Nominator$Office" (88 : Nat) "Nominator$Voter" "area" "I") ∈ gw := gw_in (List.mem_of_getElem? (i := 96) (by rfl)) (by rfl)
set_option maxRecDepth 20000 in
theorem q97 : (Jvm.Cond.fieldLink "Nominator" (95 : Nat) "Nominator$Voter" "area" "I") ∈ gw := gw_in (List.mem_of_getElem? (i := 97) (by rfl)) (by rfl)
set_option maxRecDepth 20000 in
theorem q98 : (Jvm.Cond.fieldLink "Nominator$Voter" (13 : Nat) "Nominator$Voter" "onRoll" "Z") ∈ gw := gw_in (List.mem_of_getElem? (i := 98) (by rfl)) (by rfl)
set_option maxRecDepth 20000 in
theorem q99 : (Jvm.Cond.fieldLink "Nominator$Office" (93 : Nat) "Nominator$Voter" "onRoll" "Z") ∈ gw := gw_in (List.mem_of_getElem? (i := 99) (by rfl)) (by rfl)
set_option maxRecDepth 20000 in
theorem q100 : (Jvm.Cond.fieldLink "Nominator$Roll" (39 : Nat) "Nominator$Voter" "onRoll" "Z") ∈ gw := gw_in (List.mem_of_getElem? (i := 100) (by rfl)) (by rfl)
set_option maxRecDepth 20000 in
theorem q101 : (Jvm.Cond.fieldLink "Nominator" (105 : Nat) "Nominator$Voter" "onRoll" "Z") ∈ gw := gw_in (List.mem_of_getElem? (i := 101) (by rfl)) (by rfl)
set_option maxRecDepth 20000 in
theorem q102 : (Jvm.Cond.fieldLink "Nominator$Voter" (17 : Nat) "Nominator$Voter" "signed" "I") ∈ gw := gw_in (List.mem_of_getElem? (i := 102) (by rfl)) (by rfl)
set_option maxRecDepth 20000 in
theorem q103 : (Jvm.Cond.fieldLink "Nominator$Office" (142 : Nat) "Nominator$Voter" "signed" "I") ∈ gw := gw_in (List.mem_of_getElem? (i := 103) (by rfl)) (by rfl)
set_option maxRecDepth 20000 in
theorem q104 : (Jvm.Cond.lays "Nominator$Voter" "Nominator$Voter" "area" "I") ∈ gw := gw_in (List.mem_of_getElem? (i := 104) (by rfl)) (by rfl)
set_option maxRecDepth 20000 in
theorem q106 : (Jvm.Cond.lays "Nominator$Voter" "Nominator$Voter" "onRoll" "Z") ∈ gw := gw_in (List.mem_of_getElem? (i := 106) (by rfl)) (by rfl)
set_option maxRecDepth 20000 in
theorem q108 : (Jvm.Cond.lays "Nominator$Voter" "Nominator$Voter" "signed" "I") ∈ gw := gw_in (List.mem_of_getElem? (i := 108) (by rfl)) (by rfl)
set_option maxRecDepth 20000 in
theorem q111 : (Jvm.Cond.fieldLink "Nominator$Roll" (11 : Nat) "Nominator$Roll" "areas" "[LNominator$Area;") ∈ gw := gw_in (List.mem_of_getElem? (i := 111) (by rfl)) (by rfl)
set_option maxRecDepth 20000 in
theorem q112 : (Jvm.Cond.fieldLink "Nominator$Office" (100 : Nat) "Nominator$Roll" "areas" "[LNominator$Area;") ∈ gw := gw_in (List.mem_of_getElem? (i := 112) (by rfl)) (by rfl)
set_option maxRecDepth 20000 in
theorem q113 : (Jvm.Cond.fieldLink "Nominator" (320 : Nat) "Nominator$Roll" "areas" "[LNominator$Area;") ∈ gw := gw_in (List.mem_of_getElem? (i := 113) (by rfl)) (by rfl)
set_option maxRecDepth 20000 in
theorem q114 : (Jvm.Cond.fieldLink "Nominator$Roll" (19 : Nat) "Nominator$Roll" "voters" "[LNominator$Voter;") ∈ gw := gw_in (List.mem_of_getElem? (i := 114) (by rfl)) (by rfl)
set_option maxRecDepth 20000 in
theorem q115 : (Jvm.Cond.fieldLink "Nominator$Office" (84 : Nat) "Nominator$Roll" "voters" "[LNominator$Voter;") ∈ gw := gw_in (List.mem_of_getElem? (i := 115) (by rfl)) (by rfl)
set_option maxRecDepth 20000 in
theorem q116 : (Jvm.Cond.fieldLink "Nominator" (91 : Nat) "Nominator$Roll" "voters" "[LNominator$Voter;") ∈ gw := gw_in (List.mem_of_getElem? (i := 116) (by rfl)) (by rfl)
set_option maxRecDepth 20000 in
theorem q117 : (Jvm.Cond.fieldLink "Nominator$Roll" (25 : Nat) "Nominator$Roll" "areaCount" "I") ∈ gw := gw_in (List.mem_of_getElem? (i := 117) (by rfl)) (by rfl)
set_option maxRecDepth 20000 in
theorem q118 : (Jvm.Cond.fieldLink "Nominator" (72 : Nat) "Nominator$Roll" "areaCount" "I") ∈ gw := gw_in (List.mem_of_getElem? (i := 118) (by rfl)) (by rfl)
set_option maxRecDepth 20000 in
theorem q119 : (Jvm.Cond.fieldLink "Nominator$Roll" (29 : Nat) "Nominator$Roll" "voterCount" "I") ∈ gw := gw_in (List.mem_of_getElem? (i := 119) (by rfl)) (by rfl)
set_option maxRecDepth 20000 in
theorem q120 : (Jvm.Cond.fieldLink "Nominator" (83 : Nat) "Nominator$Roll" "voterCount" "I") ∈ gw := gw_in (List.mem_of_getElem? (i := 120) (by rfl)) (by rfl)
set_option maxRecDepth 20000 in
theorem q121 : (Jvm.Cond.laysFinal "Nominator$Roll" "Nominator$Roll" "areas" "[LNominator$Area;") ∈ gw := gw_in (List.mem_of_getElem? (i := 121) (by rfl)) (by rfl)
set_option maxRecDepth 20000 in
theorem q123 : (Jvm.Cond.laysFinal "Nominator$Roll" "Nominator$Roll" "voters" "[LNominator$Voter;") ∈ gw := gw_in (List.mem_of_getElem? (i := 123) (by rfl)) (by rfl)
set_option maxRecDepth 20000 in
theorem q125 : (Jvm.Cond.lays "Nominator$Roll" "Nominator$Roll" "areaCount" "I") ∈ gw := gw_in (List.mem_of_getElem? (i := 125) (by rfl)) (by rfl)
set_option maxRecDepth 20000 in
theorem q127 : (Jvm.Cond.lays "Nominator$Roll" "Nominator$Roll" "voterCount" "I") ∈ gw := gw_in (List.mem_of_getElem? (i := 127) (by rfl)) (by rfl)
set_option maxRecDepth 20000 in
theorem q130 : (Jvm.Cond.classLink "Nominator$Office" (25 : Nat) "Nominator$Letters") ∈ gw := gw_in (List.mem_of_getElem? (i := 130) (by rfl)) (by rfl)
set_option maxRecDepth 20000 in
theorem q131 : (Jvm.Cond.instantiable "Nominator$Letters" (3 : Nat)) ∈ gw := gw_in (List.mem_of_getElem? (i := 131) (by rfl)) (by rfl)
set_option maxRecDepth 20000 in
theorem q133 : (Jvm.Cond.instanceMethod ({ cls := "Nominator$Letters", name := "<init>", desc := "()V" } : Jvm.MethodName)) ∈ gw := gw_in (List.mem_of_getElem? (i := 133) (by rfl)) (by rfl)
set_option maxRecDepth 20000 in
theorem q134 : (Jvm.Cond.code ({ cls := "Nominator$Letters", name := "<init>", desc := "()V" } : Jvm.MethodName) prog_5_method_1_code (1 : Nat) (Option.none : Option Jvm.ClassFile.FieldType)) ∈ gw := gw_in (List.mem_of_getElem? (i := 134) (by rfl)) (by rfl)
set_option maxRecDepth 20000 in
theorem q135 : (Jvm.Cond.methodLink "Nominator$Letters" (3 : Nat) ({ cls := "java/lang/Object", name := "<init>", desc := "()V" } : Jvm.MethodName)) ∈ gw := gw_in (List.mem_of_getElem? (i := 135) (by rfl)) (by rfl)
set_option maxRecDepth 20000 in
theorem q136 : (Jvm.Cond.fieldLink "Nominator$Letters" (9 : Nat) "Nominator$Letters" "order" "[C") ∈ gw := gw_in (List.mem_of_getElem? (i := 136) (by rfl)) (by rfl)
set_option maxRecDepth 20000 in
theorem q137 : (Jvm.Cond.fieldLink "Nominator" (276 : Nat) "Nominator$Letters" "order" "[C") ∈ gw := gw_in (List.mem_of_getElem? (i := 137) (by rfl)) (by rfl)
set_option maxRecDepth 20000 in
theorem q138 : (Jvm.Cond.fieldLink "Nominator$Letters" (15 : Nat) "Nominator$Letters" "places" "[I") ∈ gw := gw_in (List.mem_of_getElem? (i := 138) (by rfl)) (by rfl)
set_option maxRecDepth 20000 in
theorem q139 : (Jvm.Cond.fieldLink "Nominator$Letters" (19 : Nat) "Nominator$Letters" "drawn" "Z") ∈ gw := gw_in (List.mem_of_getElem? (i := 139) (by rfl)) (by rfl)
set_option maxRecDepth 20000 in
theorem q140 : (Jvm.Cond.fieldLink "Nominator" (269 : Nat) "Nominator$Letters" "drawn" "Z") ∈ gw := gw_in (List.mem_of_getElem? (i := 140) (by rfl)) (by rfl)
set_option maxRecDepth 20000 in
theorem q141 : (Jvm.Cond.laysFinal "Nominator$Letters" "Nominator$Letters" "order" "[C") ∈ gw := gw_in (List.mem_of_getElem? (i := 141) (by rfl)) (by rfl)
set_option maxRecDepth 20000 in
theorem q143 : (Jvm.Cond.laysFinal "Nominator$Letters" "Nominator$Letters" "places" "[I") ∈ gw := gw_in (List.mem_of_getElem? (i := 143) (by rfl)) (by rfl)
set_option maxRecDepth 20000 in
theorem q145 : (Jvm.Cond.lays "Nominator$Letters" "Nominator$Letters" "drawn" "Z") ∈ gw := gw_in (List.mem_of_getElem? (i := 145) (by rfl)) (by rfl)
set_option maxRecDepth 20000 in
theorem q148 : (Jvm.Cond.arrayClass Jvm.ClassFile.FieldType.char) ∈ gw := gw_in (List.mem_of_getElem? (i := 148) (by rfl)) (by rfl)
set_option maxRecDepth 20000 in
theorem q149 : (Jvm.Cond.arrayClass Jvm.ClassFile.FieldType.int) ∈ gw := gw_in (List.mem_of_getElem? (i := 149) (by rfl)) (by rfl)
set_option maxRecDepth 20000 in
theorem q150 : (Jvm.Cond.classLink "Nominator$Office" (32 : Nat) "Nominator$Paper") ∈ gw := gw_in (List.mem_of_getElem? (i := 150) (by rfl)) (by rfl)
set_option maxRecDepth 20000 in
theorem q152 : (Jvm.Cond.classLink "Nominator$Office" (38 : Nat) "Nominator$Signature") ∈ gw := gw_in (List.mem_of_getElem? (i := 152) (by rfl)) (by rfl)
set_option maxRecDepth 20000 in
theorem q154 : (Jvm.Cond.instantiable "Nominator$Paper" (10 : Nat)) ∈ gw := gw_in (List.mem_of_getElem? (i := 154) (by rfl)) (by rfl)
set_option maxRecDepth 20000 in
theorem q156 : (Jvm.Cond.instanceMethod ({ cls := "Nominator$Paper", name := "<init>", desc := "()V" } : Jvm.MethodName)) ∈ gw := gw_in (List.mem_of_getElem? (i := 156) (by rfl)) (by rfl)
set_option maxRecDepth 20000 in
theorem q157 : (Jvm.Cond.code ({ cls := "Nominator$Paper", name := "<init>", desc := "()V" } : Jvm.MethodName) prog_7_method_1_code (1 : Nat) (Option.none : Option Jvm.ClassFile.FieldType)) ∈ gw := gw_in (List.mem_of_getElem? (i := 157) (by rfl)) (by rfl)
set_option maxRecDepth 20000 in
theorem q158 : (Jvm.Cond.methodLink "Nominator$Paper" (3 : Nat) ({ cls := "java/lang/Object", name := "<init>", desc := "()V" } : Jvm.MethodName)) ∈ gw := gw_in (List.mem_of_getElem? (i := 158) (by rfl)) (by rfl)
set_option maxRecDepth 20000 in
theorem q159 : (Jvm.Cond.fieldLink "Nominator$Paper" (9 : Nat) "Nominator$Paper" "area" "I") ∈ gw := gw_in (List.mem_of_getElem? (i := 159) (by rfl)) (by rfl)
set_option maxRecDepth 20000 in
theorem q160 : (Jvm.Cond.fieldLink "Nominator$Office" (141 : Nat) "Nominator$Paper" "area" "I") ∈ gw := gw_in (List.mem_of_getElem? (i := 160) (by rfl)) (by rfl)
set_option maxRecDepth 20000 in
theorem q161 : (Jvm.Cond.fieldLink "Nominator" (300 : Nat) "Nominator$Paper" "area" "I") ∈ gw := gw_in (List.mem_of_getElem? (i := 161) (by rfl)) (by rfl)
set_option maxRecDepth 20000 in
theorem q162 : (Jvm.Cond.fieldLink "Nominator$Paper" (15 : Nat) "Nominator$Paper" "party" "I") ∈ gw := gw_in (List.mem_of_getElem? (i := 162) (by rfl)) (by rfl)
set_option maxRecDepth 20000 in
theorem q163 : (Jvm.Cond.fieldLink "Nominator$Office" (193 : Nat) "Nominator$Paper" "party" "I") ∈ gw := gw_in (List.mem_of_getElem? (i := 163) (by rfl)) (by rfl)
set_option maxRecDepth 20000 in
theorem q164 : (Jvm.Cond.fieldLink "Nominator$Paper" (18 : Nat) "Nominator$Paper" "name" "I") ∈ gw := gw_in (List.mem_of_getElem? (i := 164) (by rfl)) (by rfl)
set_option maxRecDepth 20000 in
theorem q165 : (Jvm.Cond.fieldLink "Nominator" (190 : Nat) "Nominator$Paper" "name" "I") ∈ gw := gw_in (List.mem_of_getElem? (i := 165) (by rfl)) (by rfl)
set_option maxRecDepth 20000 in
theorem q166 : (Jvm.Cond.fieldLink "Nominator$Office" (233 : Nat) "Nominator$Paper" "name" "I") ∈ gw := gw_in (List.mem_of_getElem? (i := 166) (by rfl)) (by rfl)
set_option maxRecDepth 20000 in
theorem q167 : (Jvm.Cond.fieldLink "Nominator$Paper" (21 : Nat) "Nominator$Paper" "paid" "I") ∈ gw := gw_in (List.mem_of_getElem? (i := 167) (by rfl)) (by rfl)
set_option maxRecDepth 20000 in
theorem q168 : (Jvm.Cond.fieldLink "Nominator$Office" (119 : Nat) "Nominator$Paper" "paid" "I") ∈ gw := gw_in (List.mem_of_getElem? (i := 168) (by rfl)) (by rfl)
set_option maxRecDepth 20000 in
theorem q169 : (Jvm.Cond.fieldLink "Nominator" (149 : Nat) "Nominator$Paper" "paid" "I") ∈ gw := gw_in (List.mem_of_getElem? (i := 169) (by rfl)) (by rfl)
set_option maxRecDepth 20000 in
theorem q170 : (Jvm.Cond.fieldLink "Nominator$Paper" (24 : Nat) "Nominator$Paper" "votes" "I") ∈ gw := gw_in (List.mem_of_getElem? (i := 170) (by rfl)) (by rfl)
set_option maxRecDepth 20000 in
theorem q171 : (Jvm.Cond.fieldLink "Nominator$Office" (135 : Nat) "Nominator$Paper" "votes" "I") ∈ gw := gw_in (List.mem_of_getElem? (i := 171) (by rfl)) (by rfl)
set_option maxRecDepth 20000 in
theorem q172 : (Jvm.Cond.fieldLink "Nominator" (306 : Nat) "Nominator$Paper" "votes" "I") ∈ gw := gw_in (List.mem_of_getElem? (i := 172) (by rfl)) (by rfl)
set_option maxRecDepth 20000 in
theorem q173 : (Jvm.Cond.fieldLink "Nominator$Paper" (27 : Nat) "Nominator$Paper" "replacements" "I") ∈ gw := gw_in (List.mem_of_getElem? (i := 173) (by rfl)) (by rfl)
set_option maxRecDepth 20000 in
theorem q174 : (Jvm.Cond.fieldLink "Nominator$Office" (199 : Nat) "Nominator$Paper" "replacements" "I") ∈ gw := gw_in (List.mem_of_getElem? (i := 174) (by rfl)) (by rfl)
set_option maxRecDepth 20000 in
theorem q175 : (Jvm.Cond.fieldLink "Nominator" (182 : Nat) "Nominator$Paper" "replacements" "I") ∈ gw := gw_in (List.mem_of_getElem? (i := 175) (by rfl)) (by rfl)
set_option maxRecDepth 20000 in
theorem q176 : (Jvm.Cond.fieldLink "Nominator$Paper" (30 : Nat) "Nominator$Paper" "dead" "Z") ∈ gw := gw_in (List.mem_of_getElem? (i := 176) (by rfl)) (by rfl)
set_option maxRecDepth 20000 in
theorem q177 : (Jvm.Cond.fieldLink "Nominator$Office" (129 : Nat) "Nominator$Paper" "dead" "Z") ∈ gw := gw_in (List.mem_of_getElem? (i := 177) (by rfl)) (by rfl)
set_option maxRecDepth 20000 in
theorem q178 : (Jvm.Cond.fieldLink "Nominator" (166 : Nat) "Nominator$Paper" "dead" "Z") ∈ gw := gw_in (List.mem_of_getElem? (i := 178) (by rfl)) (by rfl)
set_option maxRecDepth 20000 in
theorem q179 : (Jvm.Cond.fieldLink "Nominator$Paper" (34 : Nat) "Nominator$Paper" "withdrawnLate" "Z") ∈ gw := gw_in (List.mem_of_getElem? (i := 179) (by rfl)) (by rfl)
set_option maxRecDepth 20000 in
theorem q180 : (Jvm.Cond.fieldLink "Nominator$Office" (126 : Nat) "Nominator$Paper" "withdrawnLate" "Z") ∈ gw := gw_in (List.mem_of_getElem? (i := 180) (by rfl)) (by rfl)
set_option maxRecDepth 20000 in
theorem q181 : (Jvm.Cond.fieldLink "Nominator$Paper" (37 : Nat) "Nominator$Paper" "counting" "I") ∈ gw := gw_in (List.mem_of_getElem? (i := 181) (by rfl)) (by rfl)
set_option maxRecDepth 20000 in
theorem q182 : (Jvm.Cond.fieldLink "Nominator$Office" (158 : Nat) "Nominator$Paper" "counting" "I") ∈ gw := gw_in (List.mem_of_getElem? (i := 182) (by rfl)) (by rfl)
set_option maxRecDepth 20000 in
theorem q183 : (Jvm.Cond.fieldLink "Nominator" (197 : Nat) "Nominator$Paper" "counting" "I") ∈ gw := gw_in (List.mem_of_getElem? (i := 183) (by rfl)) (by rfl)
set_option maxRecDepth 20000 in
theorem q184 : (Jvm.Cond.fieldLink "Nominator$Paper" (40 : Nat) "Nominator$Paper" "verdict" "I") ∈ gw := gw_in (List.mem_of_getElem? (i := 184) (by rfl)) (by rfl)
set_option maxRecDepth 20000 in
theorem q185 : (Jvm.Cond.fieldLink "Nominator$Office" (155 : Nat) "Nominator$Paper" "verdict" "I") ∈ gw := gw_in (List.mem_of_getElem? (i := 185) (by rfl)) (by rfl)
set_option maxRecDepth 20000 in
theorem q186 : (Jvm.Cond.lays "Nominator$Paper" "Nominator$Paper" "area" "I") ∈ gw := gw_in (List.mem_of_getElem? (i := 186) (by rfl)) (by rfl)
set_option maxRecDepth 20000 in
theorem q188 : (Jvm.Cond.lays "Nominator$Paper" "Nominator$Paper" "party" "I") ∈ gw := gw_in (List.mem_of_getElem? (i := 188) (by rfl)) (by rfl)
set_option maxRecDepth 20000 in
theorem q190 : (Jvm.Cond.lays "Nominator$Paper" "Nominator$Paper" "name" "I") ∈ gw := gw_in (List.mem_of_getElem? (i := 190) (by rfl)) (by rfl)
set_option maxRecDepth 20000 in
theorem q192 : (Jvm.Cond.lays "Nominator$Paper" "Nominator$Paper" "paid" "I") ∈ gw := gw_in (List.mem_of_getElem? (i := 192) (by rfl)) (by rfl)
set_option maxRecDepth 20000 in
theorem q194 : (Jvm.Cond.lays "Nominator$Paper" "Nominator$Paper" "votes" "I") ∈ gw := gw_in (List.mem_of_getElem? (i := 194) (by rfl)) (by rfl)
set_option maxRecDepth 20000 in
theorem q196 : (Jvm.Cond.lays "Nominator$Paper" "Nominator$Paper" "replacements" "I") ∈ gw := gw_in (List.mem_of_getElem? (i := 196) (by rfl)) (by rfl)
set_option maxRecDepth 20000 in
theorem q198 : (Jvm.Cond.lays "Nominator$Paper" "Nominator$Paper" "dead" "Z") ∈ gw := gw_in (List.mem_of_getElem? (i := 198) (by rfl)) (by rfl)
set_option maxRecDepth 20000 in
theorem q200 : (Jvm.Cond.lays "Nominator$Paper" "Nominator$Paper" "withdrawnLate" "Z") ∈ gw := gw_in (List.mem_of_getElem? (i := 200) (by rfl)) (by rfl)
set_option maxRecDepth 20000 in
theorem q202 : (Jvm.Cond.lays "Nominator$Paper" "Nominator$Paper" "counting" "I") ∈ gw := gw_in (List.mem_of_getElem? (i := 202) (by rfl)) (by rfl)
set_option maxRecDepth 20000 in
theorem q204 : (Jvm.Cond.lays "Nominator$Paper" "Nominator$Paper" "verdict" "I") ∈ gw := gw_in (List.mem_of_getElem? (i := 204) (by rfl)) (by rfl)
set_option maxRecDepth 20000 in
theorem q207 : (Jvm.Cond.instantiable "Nominator$Signature" (5 : Nat)) ∈ gw := gw_in (List.mem_of_getElem? (i := 207) (by rfl)) (by rfl)
set_option maxRecDepth 20000 in
theorem q209 : (Jvm.Cond.instanceMethod ({ cls := "Nominator$Signature", name := "<init>", desc := "()V" } : Jvm.MethodName)) ∈ gw := gw_in (List.mem_of_getElem? (i := 209) (by rfl)) (by rfl)
set_option maxRecDepth 20000 in
theorem q210 : (Jvm.Cond.code ({ cls := "Nominator$Signature", name := "<init>", desc := "()V" } : Jvm.MethodName) prog_9_method_1_code (1 : Nat) (Option.none : Option Jvm.ClassFile.FieldType)) ∈ gw := gw_in (List.mem_of_getElem? (i := 210) (by rfl)) (by rfl)
set_option maxRecDepth 20000 in
theorem q211 : (Jvm.Cond.methodLink "Nominator$Signature" (3 : Nat) ({ cls := "java/lang/Object", name := "<init>", desc := "()V" } : Jvm.MethodName)) ∈ gw := gw_in (List.mem_of_getElem? (i := 211) (by rfl)) (by rfl)
set_option maxRecDepth 20000 in
theorem q212 : (Jvm.Cond.fieldLink "Nominator$Signature" (9 : Nat) "Nominator$Signature" "paper" "I") ∈ gw := gw_in (List.mem_of_getElem? (i := 212) (by rfl)) (by rfl)
set_option maxRecDepth 20000 in
theorem q213 : (Jvm.Cond.fieldLink "Nominator$Office" (168 : Nat) "Nominator$Signature" "paper" "I") ∈ gw := gw_in (List.mem_of_getElem? (i := 213) (by rfl)) (by rfl)
set_option maxRecDepth 20000 in
theorem q214 : (Jvm.Cond.fieldLink "Nominator$Signature" (15 : Nat) "Nominator$Signature" "voter" "I") ∈ gw := gw_in (List.mem_of_getElem? (i := 214) (by rfl)) (by rfl)
set_option maxRecDepth 20000 in
theorem q215 : (Jvm.Cond.fieldLink "Nominator$Office" (174 : Nat) "Nominator$Signature" "voter" "I") ∈ gw := gw_in (List.mem_of_getElem? (i := 215) (by rfl)) (by rfl)
set_option maxRecDepth 20000 in
theorem q216 : (Jvm.Cond.fieldLink "Nominator$Signature" (18 : Nat) "Nominator$Signature" "local" "Z") ∈ gw := gw_in (List.mem_of_getElem? (i := 216) (by rfl)) (by rfl)
set_option maxRecDepth 20000 in
theorem q217 : (Jvm.Cond.fieldLink "Nominator$Office" (171 : Nat) "Nominator$Signature" "local" "Z") ∈ gw := gw_in (List.mem_of_getElem? (i := 217) (by rfl)) (by rfl)
set_option maxRecDepth 20000 in
theorem q218 : (Jvm.Cond.fieldLink "Nominator$Signature" (22 : Nat) "Nominator$Signature" "earlier" "I") ∈ gw := gw_in (List.mem_of_getElem? (i := 218) (by rfl)) (by rfl)
set_option maxRecDepth 20000 in
theorem q219 : (Jvm.Cond.fieldLink "Nominator$Office" (181 : Nat) "Nominator$Signature" "earlier" "I") ∈ gw := gw_in (List.mem_of_getElem? (i := 219) (by rfl)) (by rfl)
set_option maxRecDepth 20000 in
theorem q220 : (Jvm.Cond.fieldLink "Nominator$Signature" (25 : Nat) "Nominator$Signature" "result" "I") ∈ gw := gw_in (List.mem_of_getElem? (i := 220) (by rfl)) (by rfl)
set_option maxRecDepth 20000 in
theorem q221 : (Jvm.Cond.fieldLink "Nominator$Office" (165 : Nat) "Nominator$Signature" "result" "I") ∈ gw := gw_in (List.mem_of_getElem? (i := 221) (by rfl)) (by rfl)
set_option maxRecDepth 20000 in
theorem q222 : (Jvm.Cond.fieldLink "Nominator" (206 : Nat) "Nominator$Signature" "result" "I") ∈ gw := gw_in (List.mem_of_getElem? (i := 222) (by rfl)) (by rfl)
set_option maxRecDepth 20000 in
theorem q223 : (Jvm.Cond.lays "Nominator$Signature" "Nominator$Signature" "paper" "I") ∈ gw := gw_in (List.mem_of_getElem? (i := 223) (by rfl)) (by rfl)
set_option maxRecDepth 20000 in
theorem q225 : (Jvm.Cond.lays "Nominator$Signature" "Nominator$Signature" "voter" "I") ∈ gw := gw_in (List.mem_of_getElem? (i := 225) (by rfl)) (by rfl)
set_option maxRecDepth 20000 in
theorem q227 : (Jvm.Cond.lays "Nominator$Signature" "Nominator$Signature" "local" "Z") ∈ gw := gw_in (List.mem_of_getElem? (i := 227) (by rfl)) (by rfl)
set_option maxRecDepth 20000 in
theorem q229 : (Jvm.Cond.lays "Nominator$Signature" "Nominator$Signature" "earlier" "I") ∈ gw := gw_in (List.mem_of_getElem? (i := 229) (by rfl)) (by rfl)
set_option maxRecDepth 20000 in
theorem q231 : (Jvm.Cond.lays "Nominator$Signature" "Nominator$Signature" "result" "I") ∈ gw := gw_in (List.mem_of_getElem? (i := 231) (by rfl)) (by rfl)
set_option maxRecDepth 20000 in
theorem q234 : (Jvm.Cond.methodLink "Nominator$Office" (50 : Nat) ({ cls := "Nominator$Office", name := "restart", desc := "()V" } : Jvm.MethodName)) ∈ gw := gw_in (List.mem_of_getElem? (i := 234) (by rfl)) (by rfl)
set_option maxRecDepth 20000 in
theorem q235 : (Jvm.Cond.instanceMethod ({ cls := "Nominator$Office", name := "restart", desc := "()V" } : Jvm.MethodName)) ∈ gw := gw_in (List.mem_of_getElem? (i := 235) (by rfl)) (by rfl)
set_option maxRecDepth 20000 in
theorem q236 : (Jvm.Cond.selects "Nominator$Office" ({ cls := "Nominator$Office", name := "restart", desc := "()V" } : Jvm.MethodName) ({ cls := "Nominator$Office", name := "restart", desc := "()V" } : Jvm.MethodName)) ∈ gw := gw_in (List.mem_of_getElem? (i := 236) (by rfl)) (by rfl)
set_option maxRecDepth 20000 in
theorem q237 : (Jvm.Cond.code ({ cls := "Nominator$Office", name := "restart", desc := "()V" } : Jvm.MethodName) prog_6_method_2_code (1 : Nat) (Option.none : Option Jvm.ClassFile.FieldType)) ∈ gw := gw_in (List.mem_of_getElem? (i := 237) (by rfl)) (by rfl)
set_option maxRecDepth 20000 in
theorem q238 : (Jvm.Cond.methodLink "Nominator$Office" (53 : Nat) ({ cls := "Nominator$Calendar", name := "restart", desc := "()V" } : Jvm.MethodName)) ∈ gw := gw_in (List.mem_of_getElem? (i := 238) (by rfl)) (by rfl)
set_option maxRecDepth 20000 in
theorem q239 : (Jvm.Cond.instanceMethod ({ cls := "Nominator$Calendar", name := "restart", desc := "()V" } : Jvm.MethodName)) ∈ gw := gw_in (List.mem_of_getElem? (i := 239) (by rfl)) (by rfl)
set_option maxRecDepth 20000 in
theorem q240 : (Jvm.Cond.selects "Nominator$Calendar" ({ cls := "Nominator$Calendar", name := "restart", desc := "()V" } : Jvm.MethodName) ({ cls := "Nominator$Calendar", name := "restart", desc := "()V" } : Jvm.MethodName)) ∈ gw := gw_in (List.mem_of_getElem? (i := 240) (by rfl)) (by rfl)
set_option maxRecDepth 20000 in
theorem q241 : (Jvm.Cond.code ({ cls := "Nominator$Calendar", name := "restart", desc := "()V" } : Jvm.MethodName) prog_3_method_2_code (1 : Nat) (Option.none : Option Jvm.ClassFile.FieldType)) ∈ gw := gw_in (List.mem_of_getElem? (i := 241) (by rfl)) (by rfl)
set_option maxRecDepth 20000 in
theorem q242 : (Jvm.Cond.methodLink "Nominator$Calendar" (15 : Nat) ({ cls := "Nominator$Calendar", name := "fix", desc := "(III)V" } : Jvm.MethodName)) ∈ gw := gw_in (List.mem_of_getElem? (i := 242) (by rfl)) (by rfl)
set_option maxRecDepth 20000 in
theorem q243 : (Jvm.Cond.instanceMethod ({ cls := "Nominator$Calendar", name := "fix", desc := "(III)V" } : Jvm.MethodName)) ∈ gw := gw_in (List.mem_of_getElem? (i := 243) (by rfl)) (by rfl)
set_option maxRecDepth 20000 in
theorem q244 : (Jvm.Cond.selects "Nominator$Calendar" ({ cls := "Nominator$Calendar", name := "fix", desc := "(III)V" } : Jvm.MethodName) ({ cls := "Nominator$Calendar", name := "fix", desc := "(III)V" } : Jvm.MethodName)) ∈ gw := gw_in (List.mem_of_getElem? (i := 244) (by rfl)) (by rfl)
set_option maxRecDepth 20000 in
theorem q245 : (Jvm.Cond.code ({ cls := "Nominator$Calendar", name := "fix", desc := "(III)V" } : Jvm.MethodName) prog_3_method_3_code (4 : Nat) (Option.none : Option Jvm.ClassFile.FieldType)) ∈ gw := gw_in (List.mem_of_getElem? (i := 245) (by rfl)) (by rfl)
set_option maxRecDepth 20000 in
theorem q246 : (Jvm.Cond.methodLink "Nominator$Office" (54 : Nat) ({ cls := "Nominator$Roll", name := "restart", desc := "()V" } : Jvm.MethodName)) ∈ gw := gw_in (List.mem_of_getElem? (i := 246) (by rfl)) (by rfl)
set_option maxRecDepth 20000 in
theorem q247 : (Jvm.Cond.instanceMethod ({ cls := "Nominator$Roll", name := "restart", desc := "()V" } : Jvm.MethodName)) ∈ gw := gw_in (List.mem_of_getElem? (i := 247) (by rfl)) (by rfl)
set_option maxRecDepth 20000 in
theorem q248 : (Jvm.Cond.selects "Nominator$Roll" ({ cls := "Nominator$Roll", name := "restart", desc := "()V" } : Jvm.MethodName) ({ cls := "Nominator$Roll", name := "restart", desc := "()V" } : Jvm.MethodName)) ∈ gw := gw_in (List.mem_of_getElem? (i := 248) (by rfl)) (by rfl)
set_option maxRecDepth 20000 in
theorem q249 : (Jvm.Cond.code ({ cls := "Nominator$Roll", name := "restart", desc := "()V" } : Jvm.MethodName) prog_8_method_2_code (1 : Nat) (Option.none : Option Jvm.ClassFile.FieldType)) ∈ gw := gw_in (List.mem_of_getElem? (i := 249) (by rfl)) (by rfl)
set_option maxRecDepth 20000 in
theorem q250 : (Jvm.Cond.methodLink "Nominator$Office" (55 : Nat) ({ cls := "Nominator$Letters", name := "restart", desc := "()V" } : Jvm.MethodName)) ∈ gw := gw_in (List.mem_of_getElem? (i := 250) (by rfl)) (by rfl)
set_option maxRecDepth 20000 in
theorem q251 : (Jvm.Cond.instanceMethod ({ cls := "Nominator$Letters", name := "restart", desc := "()V" } : Jvm.MethodName)) ∈ gw := gw_in (List.mem_of_getElem? (i := 251) (by rfl)) (by rfl)
set_option maxRecDepth 20000 in
theorem q252 : (Jvm.Cond.selects "Nominator$Letters" ({ cls := "Nominator$Letters", name := "restart", desc := "()V" } : Jvm.MethodName) ({ cls := "Nominator$Letters", name := "restart", desc := "()V" } : Jvm.MethodName)) ∈ gw := gw_in (List.mem_of_getElem? (i := 252) (by rfl)) (by rfl)
set_option maxRecDepth 20000 in
theorem q253 : (Jvm.Cond.code ({ cls := "Nominator$Letters", name := "restart", desc := "()V" } : Jvm.MethodName) prog_5_method_2_code (1 : Nat) (Option.none : Option Jvm.ClassFile.FieldType)) ∈ gw := gw_in (List.mem_of_getElem? (i := 253) (by rfl)) (by rfl)
set_option maxRecDepth 20000 in
theorem q254 : (Jvm.Cond.fieldLink "Nominator$Office" (12 : Nat) "Nominator$Office" "calendar" "LNominator$Calendar;") ∈ gw := gw_in (List.mem_of_getElem? (i := 254) (by rfl)) (by rfl)
set_option maxRecDepth 20000 in
theorem q255 : (Jvm.Cond.fieldLink "Nominator" (33 : Nat) "Nominator$Office" "calendar" "LNominator$Calendar;") ∈ gw := gw_in (List.mem_of_getElem? (i := 255) (by rfl)) (by rfl)
set_option maxRecDepth 20000 in
theorem q256 : (Jvm.Cond.fieldLink "Nominator$Office" (21 : Nat) "Nominator$Office" "roll" "LNominator$Roll;") ∈ gw := gw_in (List.mem_of_getElem? (i := 256) (by rfl)) (by rfl)
set_option maxRecDepth 20000 in
theorem q257 : (Jvm.Cond.fieldLink "Nominator" (68 : Nat) "Nominator$Office" "roll" "LNominator$Roll;") ∈ gw := gw_in (List.mem_of_getElem? (i := 257) (by rfl)) (by rfl)
set_option maxRecDepth 20000 in
theorem q258 : (Jvm.Cond.fieldLink "Nominator$Office" (28 : Nat) "Nominator$Office" "letters" "LNominator$Letters;") ∈ gw := gw_in (List.mem_of_getElem? (i := 258) (by rfl)) (by rfl)
set_option maxRecDepth 20000 in
theorem q259 : (Jvm.Cond.fieldLink "Nominator" (265 : Nat) "Nominator$Office" "letters" "LNominator$Letters;") ∈ gw := gw_in (List.mem_of_getElem? (i := 259) (by rfl)) (by rfl)
set_option maxRecDepth 20000 in
theorem q260 : (Jvm.Cond.fieldLink "Nominator$Office" (34 : Nat) "Nominator$Office" "papers" "[LNominator$Paper;") ∈ gw := gw_in (List.mem_of_getElem? (i := 260) (by rfl)) (by rfl)
set_option maxRecDepth 20000 in
theorem q261 : (Jvm.Cond.fieldLink "Nominator" (145 : Nat) "Nominator$Office" "papers" "[LNominator$Paper;") ∈ gw := gw_in (List.mem_of_getElem? (i := 261) (by rfl)) (by rfl)
set_option maxRecDepth 20000 in
theorem q262 : (Jvm.Cond.fieldLink "Nominator$Office" (40 : Nat) "Nominator$Office" "signatures" "[LNominator$Signature;") ∈ gw := gw_in (List.mem_of_getElem? (i := 262) (by rfl)) (by rfl)
set_option maxRecDepth 20000 in
theorem q263 : (Jvm.Cond.fieldLink "Nominator" (202 : Nat) "Nominator$Office" "signatures" "[LNominator$Signature;") ∈ gw := gw_in (List.mem_of_getElem? (i := 263) (by rfl)) (by rfl)
set_option maxRecDepth 20000 in
theorem q264 : (Jvm.Cond.fieldLink "Nominator$Office" (44 : Nat) "Nominator$Office" "blockers" "[I") ∈ gw := gw_in (List.mem_of_getElem? (i := 264) (by rfl)) (by rfl)
set_option maxRecDepth 20000 in
theorem q265 : (Jvm.Cond.fieldLink "Nominator$Office" (56 : Nat) "Nominator$Office" "paperCount" "I") ∈ gw := gw_in (List.mem_of_getElem? (i := 265) (by rfl)) (by rfl)
set_option maxRecDepth 20000 in
theorem q266 : (Jvm.Cond.fieldLink "Nominator" (43 : Nat) "Nominator$Office" "paperCount" "I") ∈ gw := gw_in (List.mem_of_getElem? (i := 266) (by rfl)) (by rfl)
set_option maxRecDepth 20000 in
theorem q267 : (Jvm.Cond.fieldLink "Nominator$Office" (60 : Nat) "Nominator$Office" "signatureCount" "I") ∈ gw := gw_in (List.mem_of_getElem? (i := 267) (by rfl)) (by rfl)
set_option maxRecDepth 20000 in
theorem q268 : (Jvm.Cond.fieldLink "Nominator" (138 : Nat) "Nominator$Office" "signatureCount" "I") ∈ gw := gw_in (List.mem_of_getElem? (i := 268) (by rfl)) (by rfl)
set_option maxRecDepth 20000 in
theorem q269 : (Jvm.Cond.fieldLink "Nominator$Office" (63 : Nat) "Nominator$Office" "withdrawn" "I") ∈ gw := gw_in (List.mem_of_getElem? (i := 269) (by rfl)) (by rfl)
set_option maxRecDepth 20000 in
theorem q270 : (Jvm.Cond.laysFinal "Nominator$Office" "Nominator$Office" "calendar" "LNominator$Calendar;") ∈ gw := gw_in (List.mem_of_getElem? (i := 270) (by rfl)) (by rfl)
set_option maxRecDepth 20000 in
theorem q272 : (Jvm.Cond.laysFinal "Nominator$Office" "Nominator$Office" "roll" "LNominator$Roll;") ∈ gw := gw_in (List.mem_of_getElem? (i := 272) (by rfl)) (by rfl)
set_option maxRecDepth 20000 in
theorem q274 : (Jvm.Cond.laysFinal "Nominator$Office" "Nominator$Office" "letters" "LNominator$Letters;") ∈ gw := gw_in (List.mem_of_getElem? (i := 274) (by rfl)) (by rfl)
set_option maxRecDepth 20000 in
theorem q276 : (Jvm.Cond.laysFinal "Nominator$Office" "Nominator$Office" "papers" "[LNominator$Paper;") ∈ gw := gw_in (List.mem_of_getElem? (i := 276) (by rfl)) (by rfl)
set_option maxRecDepth 20000 in
theorem q278 : (Jvm.Cond.laysFinal "Nominator$Office" "Nominator$Office" "signatures" "[LNominator$Signature;") ∈ gw := gw_in (List.mem_of_getElem? (i := 278) (by rfl)) (by rfl)
set_option maxRecDepth 20000 in
theorem q280 : (Jvm.Cond.laysFinal "Nominator$Office" "Nominator$Office" "blockers" "[I") ∈ gw := gw_in (List.mem_of_getElem? (i := 280) (by rfl)) (by rfl)
set_option maxRecDepth 20000 in
theorem q282 : (Jvm.Cond.lays "Nominator$Office" "Nominator$Office" "paperCount" "I") ∈ gw := gw_in (List.mem_of_getElem? (i := 282) (by rfl)) (by rfl)
set_option maxRecDepth 20000 in
theorem q284 : (Jvm.Cond.lays "Nominator$Office" "Nominator$Office" "signatureCount" "I") ∈ gw := gw_in (List.mem_of_getElem? (i := 284) (by rfl)) (by rfl)
set_option maxRecDepth 20000 in
theorem q286 : (Jvm.Cond.lays "Nominator$Office" "Nominator$Office" "withdrawn" "I") ∈ gw := gw_in (List.mem_of_getElem? (i := 286) (by rfl)) (by rfl)
set_option maxRecDepth 20000 in
theorem q289 : (Jvm.Cond.classLink "Nominator" (19 : Nat) "Nominator$Diary") ∈ gw := gw_in (List.mem_of_getElem? (i := 289) (by rfl)) (by rfl)
set_option maxRecDepth 20000 in
theorem q290 : (Jvm.Cond.instantiable "Nominator$Diary" (5 : Nat)) ∈ gw := gw_in (List.mem_of_getElem? (i := 290) (by rfl)) (by rfl)
set_option maxRecDepth 20000 in
theorem q292 : (Jvm.Cond.instanceMethod ({ cls := "Nominator$Diary", name := "<init>", desc := "()V" } : Jvm.MethodName)) ∈ gw := gw_in (List.mem_of_getElem? (i := 292) (by rfl)) (by rfl)
set_option maxRecDepth 20000 in
theorem q293 : (Jvm.Cond.code ({ cls := "Nominator$Diary", name := "<init>", desc := "()V" } : Jvm.MethodName) prog_4_method_1_code (1 : Nat) (Option.none : Option Jvm.ClassFile.FieldType)) ∈ gw := gw_in (List.mem_of_getElem? (i := 293) (by rfl)) (by rfl)
set_option maxRecDepth 20000 in
theorem q294 : (Jvm.Cond.methodLink "Nominator$Diary" (3 : Nat) ({ cls := "java/lang/Object", name := "<init>", desc := "()V" } : Jvm.MethodName)) ∈ gw := gw_in (List.mem_of_getElem? (i := 294) (by rfl)) (by rfl)
set_option maxRecDepth 20000 in
theorem q295 : (Jvm.Cond.fieldLink "Nominator$Diary" (9 : Nat) "Nominator$Diary" "kinds" "[I") ∈ gw := gw_in (List.mem_of_getElem? (i := 295) (by rfl)) (by rfl)
set_option maxRecDepth 20000 in
theorem q296 : (Jvm.Cond.fieldLink "Nominator" (243 : Nat) "Nominator$Diary" "kinds" "[I") ∈ gw := gw_in (List.mem_of_getElem? (i := 296) (by rfl)) (by rfl)
set_option maxRecDepth 20000 in
theorem q297 : (Jvm.Cond.fieldLink "Nominator$Diary" (15 : Nat) "Nominator$Diary" "firsts" "[I") ∈ gw := gw_in (List.mem_of_getElem? (i := 297) (by rfl)) (by rfl)
set_option maxRecDepth 20000 in
theorem q298 : (Jvm.Cond.fieldLink "Nominator" (247 : Nat) "Nominator$Diary" "firsts" "[I") ∈ gw := gw_in (List.mem_of_getElem? (i := 298) (by rfl)) (by rfl)
set_option maxRecDepth 20000 in
theorem q299 : (Jvm.Cond.fieldLink "Nominator$Diary" (18 : Nat) "Nominator$Diary" "seconds" "[I") ∈ gw := gw_in (List.mem_of_getElem? (i := 299) (by rfl)) (by rfl)
set_option maxRecDepth 20000 in
theorem q300 : (Jvm.Cond.fieldLink "Nominator" (250 : Nat) "Nominator$Diary" "seconds" "[I") ∈ gw := gw_in (List.mem_of_getElem? (i := 300) (by rfl)) (by rfl)
set_option maxRecDepth 20000 in
theorem q301 : (Jvm.Cond.fieldLink "Nominator$Diary" (21 : Nat) "Nominator$Diary" "thirds" "[I") ∈ gw := gw_in (List.mem_of_getElem? (i := 301) (by rfl)) (by rfl)
set_option maxRecDepth 20000 in
theorem q302 : (Jvm.Cond.fieldLink "Nominator" (253 : Nat) "Nominator$Diary" "thirds" "[I") ∈ gw := gw_in (List.mem_of_getElem? (i := 302) (by rfl)) (by rfl)
set_option maxRecDepth 20000 in
theorem q303 : (Jvm.Cond.fieldLink "Nominator$Diary" (24 : Nat) "Nominator$Diary" "size" "I") ∈ gw := gw_in (List.mem_of_getElem? (i := 303) (by rfl)) (by rfl)
set_option maxRecDepth 20000 in
theorem q304 : (Jvm.Cond.fieldLink "Nominator" (240 : Nat) "Nominator$Diary" "size" "I") ∈ gw := gw_in (List.mem_of_getElem? (i := 304) (by rfl)) (by rfl)
set_option maxRecDepth 20000 in
theorem q305 : (Jvm.Cond.laysFinal "Nominator$Diary" "Nominator$Diary" "kinds" "[I") ∈ gw := gw_in (List.mem_of_getElem? (i := 305) (by rfl)) (by rfl)
set_option maxRecDepth 20000 in
theorem q307 : (Jvm.Cond.laysFinal "Nominator$Diary" "Nominator$Diary" "firsts" "[I") ∈ gw := gw_in (List.mem_of_getElem? (i := 307) (by rfl)) (by rfl)
set_option maxRecDepth 20000 in
theorem q309 : (Jvm.Cond.laysFinal "Nominator$Diary" "Nominator$Diary" "seconds" "[I") ∈ gw := gw_in (List.mem_of_getElem? (i := 309) (by rfl)) (by rfl)
set_option maxRecDepth 20000 in
theorem q311 : (Jvm.Cond.laysFinal "Nominator$Diary" "Nominator$Diary" "thirds" "[I") ∈ gw := gw_in (List.mem_of_getElem? (i := 311) (by rfl)) (by rfl)
set_option maxRecDepth 20000 in
theorem q313 : (Jvm.Cond.lays "Nominator$Diary" "Nominator$Diary" "size" "I") ∈ gw := gw_in (List.mem_of_getElem? (i := 313) (by rfl)) (by rfl)
set_option maxRecDepth 20000 in
theorem q316 : (Jvm.Cond.fieldLink "Nominator" (10 : Nat) "Nominator" "office" "LNominator$Office;") ∈ gw := gw_in (List.mem_of_getElem? (i := 316) (by rfl)) (by rfl)
set_option maxRecDepth 20000 in
theorem q317 : (Jvm.Cond.fieldLink "Nominator" (16 : Nat) "Nominator" "replayed" "LNominator$Office;") ∈ gw := gw_in (List.mem_of_getElem? (i := 317) (by rfl)) (by rfl)
set_option maxRecDepth 20000 in
theorem q318 : (Jvm.Cond.fieldLink "Nominator" (22 : Nat) "Nominator" "diary" "LNominator$Diary;") ∈ gw := gw_in (List.mem_of_getElem? (i := 318) (by rfl)) (by rfl)
set_option maxRecDepth 20000 in
theorem q319 : (Jvm.Cond.laysFinal "Nominator" "Nominator" "office" "LNominator$Office;") ∈ gw := gw_in (List.mem_of_getElem? (i := 319) (by rfl)) (by rfl)
set_option maxRecDepth 20000 in
theorem q321 : (Jvm.Cond.laysFinal "Nominator" "Nominator" "replayed" "LNominator$Office;") ∈ gw := gw_in (List.mem_of_getElem? (i := 321) (by rfl)) (by rfl)
set_option maxRecDepth 20000 in
theorem q323 : (Jvm.Cond.laysFinal "Nominator" "Nominator" "diary" "LNominator$Diary;") ∈ gw := gw_in (List.mem_of_getElem? (i := 323) (by rfl)) (by rfl)
set_option maxRecDepth 20000 in
theorem q326 : (Jvm.Cond.methodLink "NominatorLaw" (164 : Nat) ({ cls := "Nominator", name := "day", desc := "()I" } : Jvm.MethodName)) ∈ gw := gw_in (List.mem_of_getElem? (i := 326) (by rfl)) (by rfl)
set_option maxRecDepth 20000 in
theorem q327 : (Jvm.Cond.instanceMethod ({ cls := "Nominator", name := "day", desc := "()I" } : Jvm.MethodName)) ∈ gw := gw_in (List.mem_of_getElem? (i := 327) (by rfl)) (by rfl)
set_option maxRecDepth 20000 in
theorem q328 : (Jvm.Cond.selects "Nominator" ({ cls := "Nominator", name := "day", desc := "()I" } : Jvm.MethodName) ({ cls := "Nominator", name := "day", desc := "()I" } : Jvm.MethodName)) ∈ gw := gw_in (List.mem_of_getElem? (i := 328) (by rfl)) (by rfl)
set_option maxRecDepth 20000 in
theorem q329 : (Jvm.Cond.code ({ cls := "Nominator", name := "day", desc := "()I" } : Jvm.MethodName) prog_1_method_4_code (1 : Nat) (Option.some Jvm.ClassFile.FieldType.int)) ∈ gw := gw_in (List.mem_of_getElem? (i := 329) (by rfl)) (by rfl)
set_option maxRecDepth 20000 in
theorem q330 : (Jvm.Cond.methodLink "NominatorLaw" (168 : Nat) ({ cls := "Nominator", name := "isOpen", desc := "()Z" } : Jvm.MethodName)) ∈ gw := gw_in (List.mem_of_getElem? (i := 330) (by rfl)) (by rfl)
set_option maxRecDepth 20000 in
theorem q331 : (Jvm.Cond.instanceMethod ({ cls := "Nominator", name := "isOpen", desc := "()Z" } : Jvm.MethodName)) ∈ gw := gw_in (List.mem_of_getElem? (i := 331) (by rfl)) (by rfl)
set_option maxRecDepth 20000 in
theorem q332 : (Jvm.Cond.selects "Nominator" ({ cls := "Nominator", name := "isOpen", desc := "()Z" } : Jvm.MethodName) ({ cls := "Nominator", name := "isOpen", desc := "()Z" } : Jvm.MethodName)) ∈ gw := gw_in (List.mem_of_getElem? (i := 332) (by rfl)) (by rfl)
set_option maxRecDepth 20000 in
theorem q333 : (Jvm.Cond.code ({ cls := "Nominator", name := "isOpen", desc := "()Z" } : Jvm.MethodName) prog_1_method_5_code (1 : Nat) (Option.some Jvm.ClassFile.FieldType.boolean)) ∈ gw := gw_in (List.mem_of_getElem? (i := 333) (by rfl)) (by rfl)
set_option maxRecDepth 20000 in
theorem q334 : (Jvm.Cond.methodLink "Nominator" (62 : Nat) ({ cls := "Nominator$Calendar", name := "isBeforeClose", desc := "()Z" } : Jvm.MethodName)) ∈ gw := gw_in (List.mem_of_getElem? (i := 334) (by rfl)) (by rfl)
set_option maxRecDepth 20000 in
theorem q335 : (Jvm.Cond.instanceMethod ({ cls := "Nominator$Calendar", name := "isBeforeClose", desc := "()Z" } : Jvm.MethodName)) ∈ gw := gw_in (List.mem_of_getElem? (i := 335) (by rfl)) (by rfl)
set_option maxRecDepth 20000 in
theorem q336 : (Jvm.Cond.selects "Nominator$Calendar" ({ cls := "Nominator$Calendar", name := "isBeforeClose", desc := "()Z" } : Jvm.MethodName) ({ cls := "Nominator$Calendar", name := "isBeforeClose", desc := "()Z" } : Jvm.MethodName)) ∈ gw := gw_in (List.mem_of_getElem? (i := 336) (by rfl)) (by rfl)
set_option maxRecDepth 20000 in
theorem q337 : (Jvm.Cond.code ({ cls := "Nominator$Calendar", name := "isBeforeClose", desc := "()Z" } : Jvm.MethodName) prog_3_method_4_code (1 : Nat) (Option.some Jvm.ClassFile.FieldType.boolean)) ∈ gw := gw_in (List.mem_of_getElem? (i := 337) (by rfl)) (by rfl)
set_option maxRecDepth 20000 in
theorem q338 : (Jvm.Cond.methodLink "NominatorLaw" (221 : Nat) ({ cls := "Nominator", name := "papers", desc := "()I" } : Jvm.MethodName)) ∈ gw := gw_in (List.mem_of_getElem? (i := 338) (by rfl)) (by rfl)
set_option maxRecDepth 20000 in
theorem q339 : (Jvm.Cond.instanceMethod ({ cls := "Nominator", name := "papers", desc := "()I" } : Jvm.MethodName)) ∈ gw := gw_in (List.mem_of_getElem? (i := 339) (by rfl)) (by rfl)
set_option maxRecDepth 20000 in
theorem q340 : (Jvm.Cond.selects "Nominator" ({ cls := "Nominator", name := "papers", desc := "()I" } : Jvm.MethodName) ({ cls := "Nominator", name := "papers", desc := "()I" } : Jvm.MethodName)) ∈ gw := gw_in (List.mem_of_getElem? (i := 340) (by rfl)) (by rfl)
set_option maxRecDepth 20000 in
theorem q341 : (Jvm.Cond.code ({ cls := "Nominator", name := "papers", desc := "()I" } : Jvm.MethodName) prog_1_method_21_code (1 : Nat) (Option.some Jvm.ClassFile.FieldType.int)) ∈ gw := gw_in (List.mem_of_getElem? (i := 341) (by rfl)) (by rfl)
set_option maxRecDepth 20000 in
theorem q342 : (Jvm.Cond.methodLink "NominatorLaw" (243 : Nat) ({ cls := "Nominator", name := "signatures", desc := "()I" } : Jvm.MethodName)) ∈ gw := gw_in (List.mem_of_getElem? (i := 342) (by rfl)) (by rfl)
set_option maxRecDepth 20000 in
theorem q343 : (Jvm.Cond.instanceMethod ({ cls := "Nominator", name := "signatures", desc := "()I" } : Jvm.MethodName)) ∈ gw := gw_in (List.mem_of_getElem? (i := 343) (by rfl)) (by rfl)
set_option maxRecDepth 20000 in
theorem q344 : (Jvm.Cond.selects "Nominator" ({ cls := "Nominator", name := "signatures", desc := "()I" } : Jvm.MethodName) ({ cls := "Nominator", name := "signatures", desc := "()I" } : Jvm.MethodName)) ∈ gw := gw_in (List.mem_of_getElem? (i := 344) (by rfl)) (by rfl)
set_option maxRecDepth 20000 in
theorem q345 : (Jvm.Cond.code ({ cls := "Nominator", name := "signatures", desc := "()I" } : Jvm.MethodName) prog_1_method_28_code (1 : Nat) (Option.some Jvm.ClassFile.FieldType.int)) ∈ gw := gw_in (List.mem_of_getElem? (i := 345) (by rfl)) (by rfl)
set_option maxRecDepth 20000 in
theorem q346 : (Jvm.Cond.methodLink "NominatorLaw" (290 : Nat) ({ cls := "Nominator", name := "sumHeld", desc := "()I" } : Jvm.MethodName)) ∈ gw := gw_in (List.mem_of_getElem? (i := 346) (by rfl)) (by rfl)
set_option maxRecDepth 20000 in
theorem q347 : (Jvm.Cond.instanceMethod ({ cls := "Nominator", name := "sumHeld", desc := "()I" } : Jvm.MethodName)) ∈ gw := gw_in (List.mem_of_getElem? (i := 347) (by rfl)) (by rfl)
set_option maxRecDepth 20000 in
theorem q348 : (Jvm.Cond.selects "Nominator" ({ cls := "Nominator", name := "sumHeld", desc := "()I" } : Jvm.MethodName) ({ cls := "Nominator", name := "sumHeld", desc := "()I" } : Jvm.MethodName)) ∈ gw := gw_in (List.mem_of_getElem? (i := 348) (by rfl)) (by rfl)
set_option maxRecDepth 20000 in
theorem q349 : (Jvm.Cond.code ({ cls := "Nominator", name := "sumHeld", desc := "()I" } : Jvm.MethodName) prog_1_method_43_code (1 : Nat) (Option.some Jvm.ClassFile.FieldType.int)) ∈ gw := gw_in (List.mem_of_getElem? (i := 349) (by rfl)) (by rfl)
set_option maxRecDepth 20000 in
theorem q350 : (Jvm.Cond.methodLink "Nominator" (339 : Nat) ({ cls := "Nominator$Office", name := "sumOfDeposits", desc := "(I)I" } : Jvm.MethodName)) ∈ gw := gw_in (List.mem_of_getElem? (i := 350) (by rfl)) (by rfl)
set_option maxRecDepth 20000 in
theorem q351 : (Jvm.Cond.instanceMethod ({ cls := "Nominator$Office", name := "sumOfDeposits", desc := "(I)I" } : Jvm.MethodName)) ∈ gw := gw_in (List.mem_of_getElem? (i := 351) (by rfl)) (by rfl)
set_option maxRecDepth 20000 in
theorem q352 : (Jvm.Cond.selects "Nominator$Office" ({ cls := "Nominator$Office", name := "sumOfDeposits", desc := "(I)I" } : Jvm.MethodName) ({ cls := "Nominator$Office", name := "sumOfDeposits", desc := "(I)I" } : Jvm.MethodName)) ∈ gw := gw_in (List.mem_of_getElem? (i := 352) (by rfl)) (by rfl)
set_option maxRecDepth 20000 in
theorem q353 : (Jvm.Cond.code ({ cls := "Nominator$Office", name := "sumOfDeposits", desc := "(I)I" } : Jvm.MethodName) prog_6_method_33_code (4 : Nat) (Option.some Jvm.ClassFile.FieldType.int)) ∈ gw := gw_in (List.mem_of_getElem? (i := 353) (by rfl)) (by rfl)
set_option maxRecDepth 20000 in
theorem q354 : (Jvm.Cond.methodLink "Nominator$Office" (239 : Nat) ({ cls := "Nominator$Office", name := "stateOfDeposit", desc := "(I)I" } : Jvm.MethodName)) ∈ gw := gw_in (List.mem_of_getElem? (i := 354) (by rfl)) (by rfl)
set_option maxRecDepth 20000 in
theorem q355 : (Jvm.Cond.instanceMethod ({ cls := "Nominator$Office", name := "stateOfDeposit", desc := "(I)I" } : Jvm.MethodName)) ∈ gw := gw_in (List.mem_of_getElem? (i := 355) (by rfl)) (by rfl)
set_option maxRecDepth 20000 in
theorem q356 : (Jvm.Cond.selects "Nominator$Office" ({ cls := "Nominator$Office", name := "stateOfDeposit", desc := "(I)I" } : Jvm.MethodName) ({ cls := "Nominator$Office", name := "stateOfDeposit", desc := "(I)I" } : Jvm.MethodName)) ∈ gw := gw_in (List.mem_of_getElem? (i := 356) (by rfl)) (by rfl)
set_option maxRecDepth 20000 in
theorem q357 : (Jvm.Cond.code ({ cls := "Nominator$Office", name := "stateOfDeposit", desc := "(I)I" } : Jvm.MethodName) prog_6_method_32_code (3 : Nat) (Option.some Jvm.ClassFile.FieldType.int)) ∈ gw := gw_in (List.mem_of_getElem? (i := 357) (by rfl)) (by rfl)
set_option maxRecDepth 20000 in
theorem q358 : (Jvm.Cond.methodLink "Nominator$Office" (177 : Nat) ({ cls := "Nominator$Office", name := "isWithdrawn", desc := "(I)Z" } : Jvm.MethodName)) ∈ gw := gw_in (List.mem_of_getElem? (i := 358) (by rfl)) (by rfl)
set_option maxRecDepth 20000 in
theorem q359 : (Jvm.Cond.instanceMethod ({ cls := "Nominator$Office", name := "isWithdrawn", desc := "(I)Z" } : Jvm.MethodName)) ∈ gw := gw_in (List.mem_of_getElem? (i := 359) (by rfl)) (by rfl)
set_option maxRecDepth 20000 in
theorem q360 : (Jvm.Cond.selects "Nominator$Office" ({ cls := "Nominator$Office", name := "isWithdrawn", desc := "(I)Z" } : Jvm.MethodName) ({ cls := "Nominator$Office", name := "isWithdrawn", desc := "(I)Z" } : Jvm.MethodName)) ∈ gw := gw_in (List.mem_of_getElem? (i := 360) (by rfl)) (by rfl)
set_option maxRecDepth 20000 in
theorem q361 : (Jvm.Cond.code ({ cls := "Nominator$Office", name := "isWithdrawn", desc := "(I)Z" } : Jvm.MethodName) prog_6_method_12_code (2 : Nat) (Option.some Jvm.ClassFile.FieldType.boolean)) ∈ gw := gw_in (List.mem_of_getElem? (i := 361) (by rfl)) (by rfl)
set_option maxRecDepth 20000 in
theorem q362 : (Jvm.Cond.methodLink "Nominator$Office" (122 : Nat) ({ cls := "Nominator$Calendar", name := "isBeforeClose", desc := "()Z" } : Jvm.MethodName)) ∈ gw := gw_in (List.mem_of_getElem? (i := 362) (by rfl)) (by rfl)
set_option maxRecDepth 20000 in
theorem q363 : (Jvm.Cond.methodLink "Nominator$Office" (196 : Nat) ({ cls := "Nominator$Office", name := "isRejected", desc := "(I)Z" } : Jvm.MethodName)) ∈ gw := gw_in (List.mem_of_getElem? (i := 363) (by rfl)) (by rfl)
set_option maxRecDepth 20000 in
theorem q364 : (Jvm.Cond.instanceMethod ({ cls := "Nominator$Office", name := "isRejected", desc := "(I)Z" } : Jvm.MethodName)) ∈ gw := gw_in (List.mem_of_getElem? (i := 364) (by rfl)) (by rfl)
set_option maxRecDepth 20000 in
theorem q365 : (Jvm.Cond.selects "Nominator$Office" ({ cls := "Nominator$Office", name := "isRejected", desc := "(I)Z" } : Jvm.MethodName) ({ cls := "Nominator$Office", name := "isRejected", desc := "(I)Z" } : Jvm.MethodName)) ∈ gw := gw_in (List.mem_of_getElem? (i := 365) (by rfl)) (by rfl)
set_option maxRecDepth 20000 in
theorem q366 : (Jvm.Cond.code ({ cls := "Nominator$Office", name := "isRejected", desc := "(I)Z" } : Jvm.MethodName) prog_6_method_13_code (3 : Nat) (Option.some Jvm.ClassFile.FieldType.boolean)) ∈ gw := gw_in (List.mem_of_getElem? (i := 366) (by rfl)) (by rfl)
set_option maxRecDepth 20000 in
theorem q367 : (Jvm.Cond.methodLink "Nominator$Office" (242 : Nat) ({ cls := "Nominator$Office", name := "canReplace", desc := "(I)Z" } : Jvm.MethodName)) ∈ gw := gw_in (List.mem_of_getElem? (i := 367) (by rfl)) (by rfl)
set_option maxRecDepth 20000 in
theorem q368 : (Jvm.Cond.instanceMethod ({ cls := "Nominator$Office", name := "canReplace", desc := "(I)Z" } : Jvm.MethodName)) ∈ gw := gw_in (List.mem_of_getElem? (i := 368) (by rfl)) (by rfl)
set_option maxRecDepth 20000 in
theorem q369 : (Jvm.Cond.selects "Nominator$Office" ({ cls := "Nominator$Office", name := "canReplace", desc := "(I)Z" } : Jvm.MethodName) ({ cls := "Nominator$Office", name := "canReplace", desc := "(I)Z" } : Jvm.MethodName)) ∈ gw := gw_in (List.mem_of_getElem? (i := 369) (by rfl)) (by rfl)
set_option maxRecDepth 20000 in
theorem q370 : (Jvm.Cond.code ({ cls := "Nominator$Office", name := "canReplace", desc := "(I)Z" } : Jvm.MethodName) prog_6_method_14_code (3 : Nat) (Option.some Jvm.ClassFile.FieldType.boolean)) ∈ gw := gw_in (List.mem_of_getElem? (i := 370) (by rfl)) (by rfl)
set_option maxRecDepth 20000 in
theorem q371 : (Jvm.Cond.methodLink "Nominator$Office" (202 : Nat) ({ cls := "Nominator$Calendar", name := "allowsChanges", desc := "()Z" } : Jvm.MethodName)) ∈ gw := gw_in (List.mem_of_getElem? (i := 371) (by rfl)) (by rfl)
set_option maxRecDepth 20000 in
theorem q372 : (Jvm.Cond.instanceMethod ({ cls := "Nominator$Calendar", name := "allowsChanges", desc := "()Z" } : Jvm.MethodName)) ∈ gw := gw_in (List.mem_of_getElem? (i := 372) (by rfl)) (by rfl)
set_option maxRecDepth 20000 in
theorem q373 : (Jvm.Cond.selects "Nominator$Calendar" ({ cls := "Nominator$Calendar", name := "allowsChanges", desc := "()Z" } : Jvm.MethodName) ({ cls := "Nominator$Calendar", name := "allowsChanges", desc := "()Z" } : Jvm.MethodName)) ∈ gw := gw_in (List.mem_of_getElem? (i := 373) (by rfl)) (by rfl)
set_option maxRecDepth 20000 in
theorem q374 : (Jvm.Cond.code ({ cls := "Nominator$Calendar", name := "allowsChanges", desc := "()Z" } : Jvm.MethodName) prog_3_method_5_code (1 : Nat) (Option.some Jvm.ClassFile.FieldType.boolean)) ∈ gw := gw_in (List.mem_of_getElem? (i := 374) (by rfl)) (by rfl)
set_option maxRecDepth 20000 in
theorem q375 : (Jvm.Cond.methodLink "Nominator$Office" (245 : Nat) ({ cls := "Nominator$Office", name := "votesIn", desc := "(I)I" } : Jvm.MethodName)) ∈ gw := gw_in (List.mem_of_getElem? (i := 375) (by rfl)) (by rfl)
set_option maxRecDepth 20000 in
theorem q376 : (Jvm.Cond.instanceMethod ({ cls := "Nominator$Office", name := "votesIn", desc := "(I)I" } : Jvm.MethodName)) ∈ gw := gw_in (List.mem_of_getElem? (i := 376) (by rfl)) (by rfl)
set_option maxRecDepth 20000 in
theorem q377 : (Jvm.Cond.selects "Nominator$Office" ({ cls := "Nominator$Office", name := "votesIn", desc := "(I)I" } : Jvm.MethodName) ({ cls := "Nominator$Office", name := "votesIn", desc := "(I)I" } : Jvm.MethodName)) ∈ gw := gw_in (List.mem_of_getElem? (i := 377) (by rfl)) (by rfl)
set_option maxRecDepth 20000 in
theorem q378 : (Jvm.Cond.code ({ cls := "Nominator$Office", name := "votesIn", desc := "(I)I" } : Jvm.MethodName) prog_6_method_29_code (4 : Nat) (Option.some Jvm.ClassFile.FieldType.int)) ∈ gw := gw_in (List.mem_of_getElem? (i := 378) (by rfl)) (by rfl)
set_option maxRecDepth 20000 in
theorem q379 : (Jvm.Cond.methodLink "NominatorLaw" (294 : Nat) ({ cls := "Nominator", name := "sumLost", desc := "()I" } : Jvm.MethodName)) ∈ gw := gw_in (List.mem_of_getElem? (i := 379) (by rfl)) (by rfl)
set_option maxRecDepth 20000 in
theorem q380 : (Jvm.Cond.instanceMethod ({ cls := "Nominator", name := "sumLost", desc := "()I" } : Jvm.MethodName)) ∈ gw := gw_in (List.mem_of_getElem? (i := 380) (by rfl)) (by rfl)
set_option maxRecDepth 20000 in
theorem q381 : (Jvm.Cond.selects "Nominator" ({ cls := "Nominator", name := "sumLost", desc := "()I" } : Jvm.MethodName) ({ cls := "Nominator", name := "sumLost", desc := "()I" } : Jvm.MethodName)) ∈ gw := gw_in (List.mem_of_getElem? (i := 381) (by rfl)) (by rfl)
set_option maxRecDepth 20000 in
theorem q382 : (Jvm.Cond.code ({ cls := "Nominator", name := "sumLost", desc := "()I" } : Jvm.MethodName) prog_1_method_44_code (1 : Nat) (Option.some Jvm.ClassFile.FieldType.int)) ∈ gw := gw_in (List.mem_of_getElem? (i := 382) (by rfl)) (by rfl)
set_option maxRecDepth 20000 in
theorem q383 : (Jvm.Cond.methodLink "NominatorLaw" (150 : Nat) ({ cls := "NominatorLaw", name := "setCalendar", desc := "(LNominator;III[J)I" } : Jvm.MethodName)) ∈ gw := gw_in (List.mem_of_getElem? (i := 383) (by rfl)) (by rfl)
set_option maxRecDepth 20000 in
theorem q384 : (Jvm.Cond.static ({ cls := "NominatorLaw", name := "setCalendar", desc := "(LNominator;III[J)I" } : Jvm.MethodName)) ∈ gw := gw_in (List.mem_of_getElem? (i := 384) (by rfl)) (by rfl)
set_option maxRecDepth 20000 in
theorem q385 : (Jvm.Cond.codeWith ({ cls := "NominatorLaw", name := "setCalendar", desc := "(LNominator;III[J)I" } : Jvm.MethodName) method_3_code (6 : Nat) (Option.some Jvm.ClassFile.FieldType.int) [((0 : Nat), (12 : Nat), (15 : Nat), (13 : Nat)), ((0 : Nat), (12 : Nat), (19 : Nat), (15 : Nat))]) ∈ gw := gw_in (List.mem_of_getElem? (i := 385) (by rfl)) (by rfl)
set_option maxRecDepth 20000 in
theorem q386 : (Jvm.Cond.classLink "NominatorLaw" (13 : Nat) "java/lang/IllegalArgumentException") ∈ gw := gw_in (List.mem_of_getElem? (i := 386) (by rfl)) (by rfl)
set_option maxRecDepth 20000 in
theorem q387 : (Jvm.Cond.classLink "NominatorLaw" (15 : Nat) "java/lang/IllegalStateException") ∈ gw := gw_in (List.mem_of_getElem? (i := 387) (by rfl)) (by rfl)
set_option maxRecDepth 20000 in
theorem q388 : (Jvm.Cond.methodLink "NominatorLaw" (7 : Nat) ({ cls := "Nominator", name := "setCalendar", desc := "(III)I" } : Jvm.MethodName)) ∈ gw := gw_in (List.mem_of_getElem? (i := 388) (by rfl)) (by rfl)
set_option maxRecDepth 20000 in
theorem q389 : (Jvm.Cond.instanceMethod ({ cls := "Nominator", name := "setCalendar", desc := "(III)I" } : Jvm.MethodName)) ∈ gw := gw_in (List.mem_of_getElem? (i := 389) (by rfl)) (by rfl)
set_option maxRecDepth 20000 in
theorem q390 : (Jvm.Cond.selects "Nominator" ({ cls := "Nominator", name := "setCalendar", desc := "(III)I" } : Jvm.MethodName) ({ cls := "Nominator", name := "setCalendar", desc := "(III)I" } : Jvm.MethodName)) ∈ gw := gw_in (List.mem_of_getElem? (i := 390) (by rfl)) (by rfl)
set_option maxRecDepth 20000 in
theorem q391 : (Jvm.Cond.code ({ cls := "Nominator", name := "setCalendar", desc := "(III)I" } : Jvm.MethodName) prog_1_method_2_code (5 : Nat) (Option.some Jvm.ClassFile.FieldType.int)) ∈ gw := gw_in (List.mem_of_getElem? (i := 391) (by rfl)) (by rfl)
set_option maxRecDepth 20000 in
theorem q392 : (Jvm.Cond.classLink "Nominator" (26 : Nat) "java/lang/IllegalArgumentException") ∈ gw := gw_in (List.mem_of_getElem? (i := 392) (by rfl)) (by rfl)
set_option maxRecDepth 20000 in
theorem q393 : (Jvm.Cond.instantiable "java/lang/IllegalArgumentException" (6 : Nat)) ∈ gw := gw_in (List.mem_of_getElem? (i := 393) (by rfl)) (by rfl)
set_option maxRecDepth 20000 in
theorem q401 : (Jvm.Cond.selects "java/lang/IllegalArgumentException" ({ cls := "java/lang/Throwable", name := "fillInStackTrace", desc := "(I)Ljava/lang/Throwable;" } : Jvm.MethodName) ({ cls := "java/lang/Throwable", name := "fillInStackTrace", desc := "(I)Ljava/lang/Throwable;" } : Jvm.MethodName)) ∈ gw := gw_in (List.mem_of_getElem? (i := 401) (by rfl)) (by rfl)
set_option maxRecDepth 20000 in
theorem q402 : (Jvm.Cond.selects "java/lang/IllegalArgumentException" ({ cls := "java/lang/Throwable", name := "fillInStackTrace", desc := "()Ljava/lang/Throwable;" } : Jvm.MethodName) ({ cls := "java/lang/Throwable", name := "fillInStackTrace", desc := "()Ljava/lang/Throwable;" } : Jvm.MethodName)) ∈ gw := gw_in (List.mem_of_getElem? (i := 402) (by rfl)) (by rfl)
set_option maxRecDepth 20000 in
theorem q403 : (Jvm.Cond.lays "java/lang/IllegalArgumentException" "java/lang/Throwable" "cause" "Ljava/lang/Throwable;") ∈ gw := gw_in (List.mem_of_getElem? (i := 403) (by rfl)) (by rfl)
set_option maxRecDepth 20000 in
theorem q404 : (Jvm.Cond.lays "java/lang/Throwable" "java/lang/Throwable" "cause" "Ljava/lang/Throwable;") ∈ gw := gw_in (List.mem_of_getElem? (i := 404) (by rfl)) (by rfl)
set_option maxRecDepth 20000 in
theorem q405 : (Jvm.Cond.lays "java/lang/IllegalArgumentException" "java/lang/Throwable" "stackTrace" "[Ljava/lang/StackTraceElement;") ∈ gw := gw_in (List.mem_of_getElem? (i := 405) (by rfl)) (by rfl)
set_option maxRecDepth 20000 in
theorem q406 : (Jvm.Cond.lays "java/lang/Throwable" "java/lang/Throwable" "stackTrace" "[Ljava/lang/StackTraceElement;") ∈ gw := gw_in (List.mem_of_getElem? (i := 406) (by rfl)) (by rfl)
set_option maxRecDepth 20000 in
theorem q407 : (Jvm.Cond.lays "java/lang/IllegalArgumentException" "java/lang/Throwable" "suppressedExceptions" "Ljava/util/List;") ∈ gw := gw_in (List.mem_of_getElem? (i := 407) (by rfl)) (by rfl)
set_option maxRecDepth 20000 in
theorem q408 : (Jvm.Cond.lays "java/lang/Throwable" "java/lang/Throwable" "suppressedExceptions" "Ljava/util/List;") ∈ gw := gw_in (List.mem_of_getElem? (i := 408) (by rfl)) (by rfl)
set_option maxRecDepth 20000 in
theorem q409 : (Jvm.Cond.lays "java/lang/IllegalArgumentException" "java/lang/Throwable" "detailMessage" "Ljava/lang/String;") ∈ gw := gw_in (List.mem_of_getElem? (i := 409) (by rfl)) (by rfl)
set_option maxRecDepth 20000 in
theorem q410 : (Jvm.Cond.lays "java/lang/Throwable" "java/lang/Throwable" "detailMessage" "Ljava/lang/String;") ∈ gw := gw_in (List.mem_of_getElem? (i := 410) (by rfl)) (by rfl)
set_option maxRecDepth 20000 in
theorem q411 : (Jvm.Cond.lays "java/lang/IllegalArgumentException" "java/lang/Throwable" "backtrace" "Ljava/lang/Object;") ∈ gw := gw_in (List.mem_of_getElem? (i := 411) (by rfl)) (by rfl)
set_option maxRecDepth 20000 in
theorem q412 : (Jvm.Cond.lays "java/lang/Throwable" "java/lang/Throwable" "backtrace" "Ljava/lang/Object;") ∈ gw := gw_in (List.mem_of_getElem? (i := 412) (by rfl)) (by rfl)
set_option maxRecDepth 20000 in
theorem q413 : (Jvm.Cond.fieldLink "java/lang/Throwable" (198 : Nat) "java/lang/Throwable" "backtrace" "Ljava/lang/Object;") ∈ gw := gw_in (List.mem_of_getElem? (i := 413) (by rfl)) (by rfl)
set_option maxRecDepth 20000 in
theorem q415 : (Jvm.Cond.instanceMethod ({ cls := "java/lang/Throwable", name := "<init>", desc := "()V" } : Jvm.MethodName)) ∈ gw := gw_in (List.mem_of_getElem? (i := 415) (by rfl)) (by rfl)
set_option maxRecDepth 20000 in
theorem q416 : (Jvm.Cond.code ({ cls := "java/lang/Throwable", name := "<init>", desc := "()V" } : Jvm.MethodName) prog_24_method_1_code (1 : Nat) (Option.none : Option Jvm.ClassFile.FieldType)) ∈ gw := gw_in (List.mem_of_getElem? (i := 416) (by rfl)) (by rfl)
set_option maxRecDepth 20000 in
theorem q417 : (Jvm.Cond.methodLink "java/lang/Throwable" (1 : Nat) ({ cls := "java/lang/Object", name := "<init>", desc := "()V" } : Jvm.MethodName)) ∈ gw := gw_in (List.mem_of_getElem? (i := 417) (by rfl)) (by rfl)
set_option maxRecDepth 20000 in
theorem q418 : (Jvm.Cond.fieldLink "java/lang/Throwable" (13 : Nat) "java/lang/Throwable" "UNASSIGNED_STACK" "[Ljava/lang/StackTraceElement;") ∈ gw := gw_in (List.mem_of_getElem? (i := 418) (by rfl)) (by rfl)
set_option maxRecDepth 20000 in
theorem q420 : (Jvm.Cond.fieldLink "java/lang/Throwable" (20 : Nat) "java/lang/Throwable" "SUPPRESSED_SENTINEL" "Ljava/util/List;") ∈ gw := gw_in (List.mem_of_getElem? (i := 420) (by rfl)) (by rfl)
set_option maxRecDepth 20000 in
theorem q422 : (Jvm.Cond.methodLink "java/lang/Throwable" (27 : Nat) ({ cls := "java/lang/Throwable", name := "fillInStackTrace", desc := "()Ljava/lang/Throwable;" } : Jvm.MethodName)) ∈ gw := gw_in (List.mem_of_getElem? (i := 422) (by rfl)) (by rfl)
set_option maxRecDepth 20000 in
theorem q423 : (Jvm.Cond.instanceMethod ({ cls := "java/lang/Throwable", name := "fillInStackTrace", desc := "()Ljava/lang/Throwable;" } : Jvm.MethodName)) ∈ gw := gw_in (List.mem_of_getElem? (i := 423) (by rfl)) (by rfl)
set_option maxRecDepth 20000 in
theorem q424 : (Jvm.Cond.sameMethod "java/lang/Throwable" "java/lang/Throwable" "fillInStackTrace" "()Ljava/lang/Throwable;") ∈ gw := gw_in (List.mem_of_getElem? (i := 424) (by rfl)) (by rfl)
set_option maxRecDepth 20000 in
theorem q425 : (Jvm.Cond.selects "java/lang/ArithmeticException" ({ cls := "java/lang/Throwable", name := "fillInStackTrace", desc := "()Ljava/lang/Throwable;" } : Jvm.MethodName) ({ cls := "java/lang/Throwable", name := "fillInStackTrace", desc := "()Ljava/lang/Throwable;" } : Jvm.MethodName)) ∈ gw := gw_in (List.mem_of_getElem? (i := 425) (by rfl)) (by rfl)
set_option maxRecDepth 20000 in
theorem q426 : (Jvm.Cond.selects "java/lang/ArrayIndexOutOfBoundsException" ({ cls := "java/lang/Throwable", name := "fillInStackTrace", desc := "()Ljava/lang/Throwable;" } : Jvm.MethodName) ({ cls := "java/lang/Throwable", name := "fillInStackTrace", desc := "()Ljava/lang/Throwable;" } : Jvm.MethodName)) ∈ gw := gw_in (List.mem_of_getElem? (i := 426) (by rfl)) (by rfl)
set_option maxRecDepth 20000 in
theorem q427 : (Jvm.Cond.selects "java/lang/IllegalStateException" ({ cls := "java/lang/Throwable", name := "fillInStackTrace", desc := "()Ljava/lang/Throwable;" } : Jvm.MethodName) ({ cls := "java/lang/Throwable", name := "fillInStackTrace", desc := "()Ljava/lang/Throwable;" } : Jvm.MethodName)) ∈ gw := gw_in (List.mem_of_getElem? (i := 427) (by rfl)) (by rfl)
set_option maxRecDepth 20000 in
theorem q428 : (Jvm.Cond.selects "java/lang/IndexOutOfBoundsException" ({ cls := "java/lang/Throwable", name := "fillInStackTrace", desc := "()Ljava/lang/Throwable;" } : Jvm.MethodName) ({ cls := "java/lang/Throwable", name := "fillInStackTrace", desc := "()Ljava/lang/Throwable;" } : Jvm.MethodName)) ∈ gw := gw_in (List.mem_of_getElem? (i := 428) (by rfl)) (by rfl)
set_option maxRecDepth 20000 in
theorem q429 : (Jvm.Cond.selects "java/lang/UnsupportedOperationException" ({ cls := "java/lang/Throwable", name := "fillInStackTrace", desc := "()Ljava/lang/Throwable;" } : Jvm.MethodName) ({ cls := "java/lang/Throwable", name := "fillInStackTrace", desc := "()Ljava/lang/Throwable;" } : Jvm.MethodName)) ∈ gw := gw_in (List.mem_of_getElem? (i := 429) (by rfl)) (by rfl)
set_option maxRecDepth 20000 in
theorem q430 : (Jvm.Cond.selects "java/util/NoSuchElementException" ({ cls := "java/lang/Throwable", name := "fillInStackTrace", desc := "()Ljava/lang/Throwable;" } : Jvm.MethodName) ({ cls := "java/lang/Throwable", name := "fillInStackTrace", desc := "()Ljava/lang/Throwable;" } : Jvm.MethodName)) ∈ gw := gw_in (List.mem_of_getElem? (i := 430) (by rfl)) (by rfl)
set_option maxRecDepth 20000 in
theorem q431 : (Jvm.Cond.codeSync ({ cls := "java/lang/Throwable", name := "fillInStackTrace", desc := "()Ljava/lang/Throwable;" } : Jvm.MethodName) prog_24_method_18_code (1 : Nat) (Option.some (Jvm.ClassFile.FieldType.object "java/lang/Throwable"))) ∈ gw := gw_in (List.mem_of_getElem? (i := 431) (by rfl)) (by rfl)
set_option maxRecDepth 20000 in
theorem q432 : (Jvm.Cond.methodLink "java/lang/Throwable" (202 : Nat) ({ cls := "java/lang/Throwable", name := "fillInStackTrace", desc := "(I)Ljava/lang/Throwable;" } : Jvm.MethodName)) ∈ gw := gw_in (List.mem_of_getElem? (i := 432) (by rfl)) (by rfl)
set_option maxRecDepth 20000 in
theorem q434 : (Jvm.Cond.instanceMethod ({ cls := "java/lang/Throwable", name := "fillInStackTrace", desc := "(I)Ljava/lang/Throwable;" } : Jvm.MethodName)) ∈ gw := gw_in (List.mem_of_getElem? (i := 434) (by rfl)) (by rfl)
set_option maxRecDepth 20000 in
theorem q435 : (Jvm.Cond.instantiable "java/lang/Throwable" (6 : Nat)) ∈ gw := gw_in (List.mem_of_getElem? (i := 435) (by rfl)) (by rfl)
set_option maxRecDepth 20000 in
theorem q436 : (Jvm.Cond.native ({ cls := "java/lang/Throwable", name := "fillInStackTrace", desc := "(I)Ljava/lang/Throwable;" } : Jvm.MethodName)) ∈ gw := gw_in (List.mem_of_getElem? (i := 436) (by rfl)) (by rfl)
set_option maxRecDepth 20000 in
theorem q438 : (Jvm.Cond.methodLink "Nominator" (30 : Nat) ({ cls := "java/lang/IllegalArgumentException", name := "<init>", desc := "(Ljava/lang/String;)V" } : Jvm.MethodName)) ∈ gw := gw_in (List.mem_of_getElem? (i := 438) (by rfl)) (by rfl)
set_option maxRecDepth 20000 in
theorem q439 : (Jvm.Cond.instanceMethod ({ cls := "java/lang/IllegalArgumentException", name := "<init>", desc := "(Ljava/lang/String;)V" } : Jvm.MethodName)) ∈ gw := gw_in (List.mem_of_getElem? (i := 439) (by rfl)) (by rfl)
set_option maxRecDepth 20000 in
theorem q440 : (Jvm.Cond.code ({ cls := "java/lang/IllegalArgumentException", name := "<init>", desc := "(Ljava/lang/String;)V" } : Jvm.MethodName) prog_17_method_2_code (2 : Nat) (Option.none : Option Jvm.ClassFile.FieldType)) ∈ gw := gw_in (List.mem_of_getElem? (i := 440) (by rfl)) (by rfl)
set_option maxRecDepth 20000 in
theorem q441 : (Jvm.Cond.methodLink "java/lang/IllegalArgumentException" (7 : Nat) ({ cls := "java/lang/RuntimeException", name := "<init>", desc := "(Ljava/lang/String;)V" } : Jvm.MethodName)) ∈ gw := gw_in (List.mem_of_getElem? (i := 441) (by rfl)) (by rfl)
set_option maxRecDepth 20000 in
theorem q442 : (Jvm.Cond.instanceMethod ({ cls := "java/lang/RuntimeException", name := "<init>", desc := "(Ljava/lang/String;)V" } : Jvm.MethodName)) ∈ gw := gw_in (List.mem_of_getElem? (i := 442) (by rfl)) (by rfl)
set_option maxRecDepth 20000 in
theorem q443 : (Jvm.Cond.code ({ cls := "java/lang/RuntimeException", name := "<init>", desc := "(Ljava/lang/String;)V" } : Jvm.MethodName) prog_22_method_2_code (2 : Nat) (Option.none : Option Jvm.ClassFile.FieldType)) ∈ gw := gw_in (List.mem_of_getElem? (i := 443) (by rfl)) (by rfl)
set_option maxRecDepth 20000 in
theorem q444 : (Jvm.Cond.methodLink "java/lang/RuntimeException" (7 : Nat) ({ cls := "java/lang/Exception", name := "<init>", desc := "(Ljava/lang/String;)V" } : Jvm.MethodName)) ∈ gw := gw_in (List.mem_of_getElem? (i := 444) (by rfl)) (by rfl)
set_option maxRecDepth 20000 in
theorem q445 : (Jvm.Cond.instanceMethod ({ cls := "java/lang/Exception", name := "<init>", desc := "(Ljava/lang/String;)V" } : Jvm.MethodName)) ∈ gw := gw_in (List.mem_of_getElem? (i := 445) (by rfl)) (by rfl)
set_option maxRecDepth 20000 in
theorem q446 : (Jvm.Cond.code ({ cls := "java/lang/Exception", name := "<init>", desc := "(Ljava/lang/String;)V" } : Jvm.MethodName) prog_16_method_2_code (2 : Nat) (Option.none : Option Jvm.ClassFile.FieldType)) ∈ gw := gw_in (List.mem_of_getElem? (i := 446) (by rfl)) (by rfl)
set_option maxRecDepth 20000 in
theorem q447 : (Jvm.Cond.methodLink "java/lang/Exception" (7 : Nat) ({ cls := "java/lang/Throwable", name := "<init>", desc := "(Ljava/lang/String;)V" } : Jvm.MethodName)) ∈ gw := gw_in (List.mem_of_getElem? (i := 447) (by rfl)) (by rfl)
set_option maxRecDepth 20000 in
theorem q448 : (Jvm.Cond.instanceMethod ({ cls := "java/lang/Throwable", name := "<init>", desc := "(Ljava/lang/String;)V" } : Jvm.MethodName)) ∈ gw := gw_in (List.mem_of_getElem? (i := 448) (by rfl)) (by rfl)
set_option maxRecDepth 20000 in
theorem q449 : (Jvm.Cond.code ({ cls := "java/lang/Throwable", name := "<init>", desc := "(Ljava/lang/String;)V" } : Jvm.MethodName) prog_24_method_2_code (2 : Nat) (Option.none : Option Jvm.ClassFile.FieldType)) ∈ gw := gw_in (List.mem_of_getElem? (i := 449) (by rfl)) (by rfl)
set_option maxRecDepth 20000 in
theorem q450 : (Jvm.Cond.fieldLink "java/lang/Throwable" (198 : Nat) "java/lang/Throwable" "backtrace" "Ljava/lang/Object;") ∈ gw := gw_in (List.mem_of_getElem? (i := 450) (by rfl)) (by rfl)
set_option maxRecDepth 20000 in
theorem q451 : (Jvm.Cond.fieldLink "java/lang/Throwable" (31 : Nat) "java/lang/Throwable" "detailMessage" "Ljava/lang/String;") ∈ gw := gw_in (List.mem_of_getElem? (i := 451) (by rfl)) (by rfl)
set_option maxRecDepth 20000 in
theorem q452 : (Jvm.Cond.fieldLink "java/lang/Throwable" (7 : Nat) "java/lang/Throwable" "cause" "Ljava/lang/Throwable;") ∈ gw := gw_in (List.mem_of_getElem? (i := 452) (by rfl)) (by rfl)
set_option maxRecDepth 20000 in
theorem q453 : (Jvm.Cond.fieldLink "java/lang/Throwable" (17 : Nat) "java/lang/Throwable" "stackTrace" "[Ljava/lang/StackTraceElement;") ∈ gw := gw_in (List.mem_of_getElem? (i := 453) (by rfl)) (by rfl)
set_option maxRecDepth 20000 in
theorem q454 : (Jvm.Cond.fieldLink "java/lang/Throwable" (24 : Nat) "java/lang/Throwable" "suppressedExceptions" "Ljava/util/List;") ∈ gw := gw_in (List.mem_of_getElem? (i := 454) (by rfl)) (by rfl)
set_option maxRecDepth 20000 in
theorem q459 : (Jvm.Cond.lays "java/lang/IllegalArgumentException" "java/lang/Throwable" "depth" "I") ∈ gw := gw_in (List.mem_of_getElem? (i := 459) (by rfl)) (by rfl)
set_option maxRecDepth 20000 in
theorem q463 : (Jvm.Cond.arrayClass Jvm.ClassFile.FieldType.byte) ∈ gw := gw_in (List.mem_of_getElem? (i := 463) (by rfl)) (by rfl)
set_option maxRecDepth 20000 in
theorem q464 : (Jvm.Cond.classLink "Nominator" (46 : Nat) "java/lang/IllegalStateException") ∈ gw := gw_in (List.mem_of_getElem? (i := 464) (by rfl)) (by rfl)
set_option maxRecDepth 20000 in
theorem q465 : (Jvm.Cond.instantiable "java/lang/IllegalStateException" (6 : Nat)) ∈ gw := gw_in (List.mem_of_getElem? (i := 465) (by rfl)) (by rfl)
set_option maxRecDepth 20000 in
theorem q467 : (Jvm.Cond.selects "java/lang/IllegalStateException" ({ cls := "java/lang/Throwable", name := "fillInStackTrace", desc := "(I)Ljava/lang/Throwable;" } : Jvm.MethodName) ({ cls := "java/lang/Throwable", name := "fillInStackTrace", desc := "(I)Ljava/lang/Throwable;" } : Jvm.MethodName)) ∈ gw := gw_in (List.mem_of_getElem? (i := 467) (by rfl)) (by rfl)
set_option maxRecDepth 20000 in
theorem q468 : (Jvm.Cond.lays "java/lang/IllegalStateException" "java/lang/Throwable" "cause" "Ljava/lang/Throwable;") ∈ gw := gw_in (List.mem_of_getElem? (i := 468) (by rfl)) (by rfl)
set_option maxRecDepth 20000 in
theorem q469 : (Jvm.Cond.lays "java/lang/IllegalStateException" "java/lang/Throwable" "stackTrace" "[Ljava/lang/StackTraceElement;") ∈ gw := gw_in (List.mem_of_getElem? (i := 469) (by rfl)) (by rfl)
set_option maxRecDepth 20000 in
theorem q470 : (Jvm.Cond.lays "java/lang/IllegalStateException" "java/lang/Throwable" "suppressedExceptions" "Ljava/util/List;") ∈ gw := gw_in (List.mem_of_getElem? (i := 470) (by rfl)) (by rfl)
set_option maxRecDepth 20000 in
theorem q471 : (Jvm.Cond.lays "java/lang/IllegalStateException" "java/lang/Throwable" "detailMessage" "Ljava/lang/String;") ∈ gw := gw_in (List.mem_of_getElem? (i := 471) (by rfl)) (by rfl)
set_option maxRecDepth 20000 in
theorem q472 : (Jvm.Cond.lays "java/lang/IllegalStateException" "java/lang/Throwable" "backtrace" "Ljava/lang/Object;") ∈ gw := gw_in (List.mem_of_getElem? (i := 472) (by rfl)) (by rfl)
set_option maxRecDepth 20000 in
theorem q474 : (Jvm.Cond.methodLink "Nominator" (50 : Nat) ({ cls := "java/lang/IllegalStateException", name := "<init>", desc := "(Ljava/lang/String;)V" } : Jvm.MethodName)) ∈ gw := gw_in (List.mem_of_getElem? (i := 474) (by rfl)) (by rfl)
set_option maxRecDepth 20000 in
theorem q475 : (Jvm.Cond.instanceMethod ({ cls := "java/lang/IllegalStateException", name := "<init>", desc := "(Ljava/lang/String;)V" } : Jvm.MethodName)) ∈ gw := gw_in (List.mem_of_getElem? (i := 475) (by rfl)) (by rfl)
set_option maxRecDepth 20000 in
theorem q476 : (Jvm.Cond.code ({ cls := "java/lang/IllegalStateException", name := "<init>", desc := "(Ljava/lang/String;)V" } : Jvm.MethodName) prog_18_method_2_code (2 : Nat) (Option.none : Option Jvm.ClassFile.FieldType)) ∈ gw := gw_in (List.mem_of_getElem? (i := 476) (by rfl)) (by rfl)
set_option maxRecDepth 20000 in
theorem q477 : (Jvm.Cond.methodLink "java/lang/IllegalStateException" (7 : Nat) ({ cls := "java/lang/RuntimeException", name := "<init>", desc := "(Ljava/lang/String;)V" } : Jvm.MethodName)) ∈ gw := gw_in (List.mem_of_getElem? (i := 477) (by rfl)) (by rfl)
set_option maxRecDepth 20000 in
theorem q478 : (Jvm.Cond.lays "java/lang/IllegalStateException" "java/lang/Throwable" "depth" "I") ∈ gw := gw_in (List.mem_of_getElem? (i := 478) (by rfl)) (by rfl)
set_option maxRecDepth 20000 in
theorem q480 : (Jvm.Cond.methodLink "Nominator" (54 : Nat) ({ cls := "Nominator", name := "happen", desc := "(IIII)V" } : Jvm.MethodName)) ∈ gw := gw_in (List.mem_of_getElem? (i := 480) (by rfl)) (by rfl)
set_option maxRecDepth 20000 in
theorem q482 : (Jvm.Cond.instanceMethod ({ cls := "Nominator", name := "happen", desc := "(IIII)V" } : Jvm.MethodName)) ∈ gw := gw_in (List.mem_of_getElem? (i := 482) (by rfl)) (by rfl)
set_option maxRecDepth 20000 in
theorem q483 : (Jvm.Cond.code ({ cls := "Nominator", name := "happen", desc := "(IIII)V" } : Jvm.MethodName) prog_1_method_57_code (5 : Nat) (Option.none : Option Jvm.ClassFile.FieldType)) ∈ gw := gw_in (List.mem_of_getElem? (i := 483) (by rfl)) (by rfl)
set_option maxRecDepth 20000 in
theorem q484 : (Jvm.Cond.methodLink "Nominator" (385 : Nat) ({ cls := "Nominator$Diary", name := "write", desc := "(IIII)V" } : Jvm.MethodName)) ∈ gw := gw_in (List.mem_of_getElem? (i := 484) (by rfl)) (by rfl)
set_option maxRecDepth 20000 in
theorem q485 : (Jvm.Cond.instanceMethod ({ cls := "Nominator$Diary", name := "write", desc := "(IIII)V" } : Jvm.MethodName)) ∈ gw := gw_in (List.mem_of_getElem? (i := 485) (by rfl)) (by rfl)
set_option maxRecDepth 20000 in
theorem q486 : (Jvm.Cond.selects "Nominator$Diary" ({ cls := "Nominator$Diary", name := "write", desc := "(IIII)V" } : Jvm.MethodName) ({ cls := "Nominator$Diary", name := "write", desc := "(IIII)V" } : Jvm.MethodName)) ∈ gw := gw_in (List.mem_of_getElem? (i := 486) (by rfl)) (by rfl)
set_option maxRecDepth 20000 in
theorem q487 : (Jvm.Cond.code ({ cls := "Nominator$Diary", name := "write", desc := "(IIII)V" } : Jvm.MethodName) prog_4_method_2_code (5 : Nat) (Option.none : Option Jvm.ClassFile.FieldType)) ∈ gw := gw_in (List.mem_of_getElem? (i := 487) (by rfl)) (by rfl)
set_option maxRecDepth 20000 in
theorem q488 : (Jvm.Cond.methodLink "Nominator" (256 : Nat) ({ cls := "Nominator$Office", name := "happen", desc := "(IIII)V" } : Jvm.MethodName)) ∈ gw := gw_in (List.mem_of_getElem? (i := 488) (by rfl)) (by rfl)
set_option maxRecDepth 20000 in
theorem q489 : (Jvm.Cond.instanceMethod ({ cls := "Nominator$Office", name := "happen", desc := "(IIII)V" } : Jvm.MethodName)) ∈ gw := gw_in (List.mem_of_getElem? (i := 489) (by rfl)) (by rfl)
set_option maxRecDepth 20000 in
theorem q490 : (Jvm.Cond.selects "Nominator$Office" ({ cls := "Nominator$Office", name := "happen", desc := "(IIII)V" } : Jvm.MethodName) ({ cls := "Nominator$Office", name := "happen", desc := "(IIII)V" } : Jvm.MethodName)) ∈ gw := gw_in (List.mem_of_getElem? (i := 490) (by rfl)) (by rfl)
set_option maxRecDepth 20000 in
theorem q491 : (Jvm.Cond.code ({ cls := "Nominator$Office", name := "happen", desc := "(IIII)V" } : Jvm.MethodName) prog_6_method_3_code (5 : Nat) (Option.none : Option Jvm.ClassFile.FieldType)) ∈ gw := gw_in (List.mem_of_getElem? (i := 491) (by rfl)) (by rfl)
set_option maxRecDepth 20000 in
theorem q492 : (Jvm.Cond.methodLink "Nominator$Office" (66 : Nat) ({ cls := "Nominator$Calendar", name := "fix", desc := "(III)V" } : Jvm.MethodName)) ∈ gw := gw_in (List.mem_of_getElem? (i := 492) (by rfl)) (by rfl)
set_option maxRecDepth 20000 in
theorem q493 : (Jvm.Cond.methodLink "Nominator$Office" (70 : Nat) ({ cls := "Nominator$Office", name := "judge", desc := "()V" } : Jvm.MethodName)) ∈ gw := gw_in (List.mem_of_getElem? (i := 493) (by rfl)) (by rfl)
set_option maxRecDepth 20000 in
theorem q494 : (Jvm.Cond.instanceMethod ({ cls := "Nominator$Office", name := "judge", desc := "()V" } : Jvm.MethodName)) ∈ gw := gw_in (List.mem_of_getElem? (i := 494) (by rfl)) (by rfl)
set_option maxRecDepth 20000 in
theorem q495 : (Jvm.Cond.selects "Nominator$Office" ({ cls := "Nominator$Office", name := "judge", desc := "()V" } : Jvm.MethodName) ({ cls := "Nominator$Office", name := "judge", desc := "()V" } : Jvm.MethodName)) ∈ gw := gw_in (List.mem_of_getElem? (i := 495) (by rfl)) (by rfl)
set_option maxRecDepth 20000 in
theorem q496 : (Jvm.Cond.code ({ cls := "Nominator$Office", name := "judge", desc := "()V" } : Jvm.MethodName) prog_6_method_7_code (2 : Nat) (Option.none : Option Jvm.ClassFile.FieldType)) ∈ gw := gw_in (List.mem_of_getElem? (i := 496) (by rfl)) (by rfl)
set_option maxRecDepth 20000 in
theorem q497 : (Jvm.Cond.methodLink "Nominator$Office" (148 : Nat) ({ cls := "Nominator$Office", name := "judgeSignatures", desc := "()V" } : Jvm.MethodName)) ∈ gw := gw_in (List.mem_of_getElem? (i := 497) (by rfl)) (by rfl)
set_option maxRecDepth 20000 in
theorem q499 : (Jvm.Cond.instanceMethod ({ cls := "Nominator$Office", name := "judgeSignatures", desc := "()V" } : Jvm.MethodName)) ∈ gw := gw_in (List.mem_of_getElem? (i := 499) (by rfl)) (by rfl)
set_option maxRecDepth 20000 in
theorem q500 : (Jvm.Cond.code ({ cls := "Nominator$Office", name := "judgeSignatures", desc := "()V" } : Jvm.MethodName) prog_6_method_8_code (3 : Nat) (Option.none : Option Jvm.ClassFile.FieldType)) ∈ gw := gw_in (List.mem_of_getElem? (i := 500) (by rfl)) (by rfl)
set_option maxRecDepth 20000 in
theorem q501 : (Jvm.Cond.methodLink "Nominator$Office" (161 : Nat) ({ cls := "Nominator$Office", name := "resultOf", desc := "(LNominator$Signature;)I" } : Jvm.MethodName)) ∈ gw := gw_in (List.mem_of_getElem? (i := 501) (by rfl)) (by rfl)
set_option maxRecDepth 20000 in
theorem q503 : (Jvm.Cond.instanceMethod ({ cls := "Nominator$Office", name := "resultOf", desc := "(LNominator$Signature;)I" } : Jvm.MethodName)) ∈ gw := gw_in (List.mem_of_getElem? (i := 503) (by rfl)) (by rfl)
set_option maxRecDepth 20000 in
theorem q504 : (Jvm.Cond.code ({ cls := "Nominator$Office", name := "resultOf", desc := "(LNominator$Signature;)I" } : Jvm.MethodName) prog_6_method_9_code (2 : Nat) (Option.some Jvm.ClassFile.FieldType.int)) ∈ gw := gw_in (List.mem_of_getElem? (i := 504) (by rfl)) (by rfl)
set_option maxRecDepth 20000 in
theorem q505 : (Jvm.Cond.methodLink "Nominator$Office" (151 : Nat) ({ cls := "Nominator$Office", name := "verdictOn", desc := "(I)I" } : Jvm.MethodName)) ∈ gw := gw_in (List.mem_of_getElem? (i := 505) (by rfl)) (by rfl)
set_option maxRecDepth 20000 in
theorem q507 : (Jvm.Cond.instanceMethod ({ cls := "Nominator$Office", name := "verdictOn", desc := "(I)I" } : Jvm.MethodName)) ∈ gw := gw_in (List.mem_of_getElem? (i := 507) (by rfl)) (by rfl)
set_option maxRecDepth 20000 in
theorem q508 : (Jvm.Cond.code ({ cls := "Nominator$Office", name := "verdictOn", desc := "(I)I" } : Jvm.MethodName) prog_6_method_10_code (4 : Nat) (Option.some Jvm.ClassFile.FieldType.int)) ∈ gw := gw_in (List.mem_of_getElem? (i := 508) (by rfl)) (by rfl)
set_option maxRecDepth 20000 in
theorem q509 : (Jvm.Cond.methodLink "Nominator$Office" (190 : Nat) ({ cls := "Nominator$Office", name := "isDouble", desc := "(I)Z" } : Jvm.MethodName)) ∈ gw := gw_in (List.mem_of_getElem? (i := 509) (by rfl)) (by rfl)
set_option maxRecDepth 20000 in
theorem q511 : (Jvm.Cond.instanceMethod ({ cls := "Nominator$Office", name := "isDouble", desc := "(I)Z" } : Jvm.MethodName)) ∈ gw := gw_in (List.mem_of_getElem? (i := 511) (by rfl)) (by rfl)
set_option maxRecDepth 20000 in
theorem q512 : (Jvm.Cond.code ({ cls := "Nominator$Office", name := "isDouble", desc := "(I)Z" } : Jvm.MethodName) prog_6_method_11_code (5 : Nat) (Option.some Jvm.ClassFile.FieldType.boolean)) ∈ gw := gw_in (List.mem_of_getElem? (i := 512) (by rfl)) (by rfl)
set_option maxRecDepth 20000 in
theorem q513 : (Jvm.Cond.methodLink "Nominator$Office" (76 : Nat) ({ cls := "Nominator$Roll", name := "beginArea", desc := "(II)V" } : Jvm.MethodName)) ∈ gw := gw_in (List.mem_of_getElem? (i := 513) (by rfl)) (by rfl)
set_option maxRecDepth 20000 in
theorem q514 : (Jvm.Cond.instanceMethod ({ cls := "Nominator$Roll", name := "beginArea", desc := "(II)V" } : Jvm.MethodName)) ∈ gw := gw_in (List.mem_of_getElem? (i := 514) (by rfl)) (by rfl)
set_option maxRecDepth 20000 in
theorem q515 : (Jvm.Cond.selects "Nominator$Roll" ({ cls := "Nominator$Roll", name := "beginArea", desc := "(II)V" } : Jvm.MethodName) ({ cls := "Nominator$Roll", name := "beginArea", desc := "(II)V" } : Jvm.MethodName)) ∈ gw := gw_in (List.mem_of_getElem? (i := 515) (by rfl)) (by rfl)
set_option maxRecDepth 20000 in
theorem q516 : (Jvm.Cond.code ({ cls := "Nominator$Roll", name := "beginArea", desc := "(II)V" } : Jvm.MethodName) prog_8_method_3_code (3 : Nat) (Option.none : Option Jvm.ClassFile.FieldType)) ∈ gw := gw_in (List.mem_of_getElem? (i := 516) (by rfl)) (by rfl)
set_option maxRecDepth 20000 in
theorem q517 : (Jvm.Cond.methodLink "Nominator$Roll" (32 : Nat) ({ cls := "Nominator$Area", name := "begin", desc := "(II)V" } : Jvm.MethodName)) ∈ gw := gw_in (List.mem_of_getElem? (i := 517) (by rfl)) (by rfl)
set_option maxRecDepth 20000 in
theorem q518 : (Jvm.Cond.instanceMethod ({ cls := "Nominator$Area", name := "begin", desc := "(II)V" } : Jvm.MethodName)) ∈ gw := gw_in (List.mem_of_getElem? (i := 518) (by rfl)) (by rfl)
set_option maxRecDepth 20000 in
theorem q519 : (Jvm.Cond.selects "Nominator$Area" ({ cls := "Nominator$Area", name := "begin", desc := "(II)V" } : Jvm.MethodName) ({ cls := "Nominator$Area", name := "begin", desc := "(II)V" } : Jvm.MethodName)) ∈ gw := gw_in (List.mem_of_getElem? (i := 519) (by rfl)) (by rfl)
set_option maxRecDepth 20000 in
theorem q520 : (Jvm.Cond.code ({ cls := "Nominator$Area", name := "begin", desc := "(II)V" } : Jvm.MethodName) prog_2_method_2_code (3 : Nat) (Option.none : Option Jvm.ClassFile.FieldType)) ∈ gw := gw_in (List.mem_of_getElem? (i := 520) (by rfl)) (by rfl)
set_option maxRecDepth 20000 in
theorem q521 : (Jvm.Cond.methodLink "Nominator$Office" (80 : Nat) ({ cls := "Nominator$Roll", name := "beginVoter", desc := "(I)V" } : Jvm.MethodName)) ∈ gw := gw_in (List.mem_of_getElem? (i := 521) (by rfl)) (by rfl)
set_option maxRecDepth 20000 in
theorem q522 : (Jvm.Cond.instanceMethod ({ cls := "Nominator$Roll", name := "beginVoter", desc := "(I)V" } : Jvm.MethodName)) ∈ gw := gw_in (List.mem_of_getElem? (i := 522) (by rfl)) (by rfl)
set_option maxRecDepth 20000 in
theorem q523 : (Jvm.Cond.selects "Nominator$Roll" ({ cls := "Nominator$Roll", name := "beginVoter", desc := "(I)V" } : Jvm.MethodName) ({ cls := "Nominator$Roll", name := "beginVoter", desc := "(I)V" } : Jvm.MethodName)) ∈ gw := gw_in (List.mem_of_getElem? (i := 523) (by rfl)) (by rfl)
set_option maxRecDepth 20000 in
theorem q524 : (Jvm.Cond.code ({ cls := "Nominator$Roll", name := "beginVoter", desc := "(I)V" } : Jvm.MethodName) prog_8_method_4_code (2 : Nat) (Option.none : Option Jvm.ClassFile.FieldType)) ∈ gw := gw_in (List.mem_of_getElem? (i := 524) (by rfl)) (by rfl)
set_option maxRecDepth 20000 in
theorem q525 : (Jvm.Cond.methodLink "Nominator$Roll" (36 : Nat) ({ cls := "Nominator$Voter", name := "begin", desc := "(I)V" } : Jvm.MethodName)) ∈ gw := gw_in (List.mem_of_getElem? (i := 525) (by rfl)) (by rfl)
set_option maxRecDepth 20000 in
theorem q526 : (Jvm.Cond.instanceMethod ({ cls := "Nominator$Voter", name := "begin", desc := "(I)V" } : Jvm.MethodName)) ∈ gw := gw_in (List.mem_of_getElem? (i := 526) (by rfl)) (by rfl)
set_option maxRecDepth 20000 in
theorem q527 : (Jvm.Cond.selects "Nominator$Voter" ({ cls := "Nominator$Voter", name := "begin", desc := "(I)V" } : Jvm.MethodName) ({ cls := "Nominator$Voter", name := "begin", desc := "(I)V" } : Jvm.MethodName)) ∈ gw := gw_in (List.mem_of_getElem? (i := 527) (by rfl)) (by rfl)
set_option maxRecDepth 20000 in
theorem q528 : (Jvm.Cond.code ({ cls := "Nominator$Voter", name := "begin", desc := "(I)V" } : Jvm.MethodName) prog_10_method_2_code (2 : Nat) (Option.none : Option Jvm.ClassFile.FieldType)) ∈ gw := gw_in (List.mem_of_getElem? (i := 528) (by rfl)) (by rfl)
set_option maxRecDepth 20000 in
theorem q529 : (Jvm.Cond.methodLink "Nominator$Office" (97 : Nat) ({ cls := "Nominator$Letters", name := "shuffle", desc := "(I)V" } : Jvm.MethodName)) ∈ gw := gw_in (List.mem_of_getElem? (i := 529) (by rfl)) (by rfl)
set_option maxRecDepth 20000 in
theorem q530 : (Jvm.Cond.instanceMethod ({ cls := "Nominator$Letters", name := "shuffle", desc := "(I)V" } : Jvm.MethodName)) ∈ gw := gw_in (List.mem_of_getElem? (i := 530) (by rfl)) (by rfl)
set_option maxRecDepth 20000 in
theorem q531 : (Jvm.Cond.selects "Nominator$Letters" ({ cls := "Nominator$Letters", name := "shuffle", desc := "(I)V" } : Jvm.MethodName) ({ cls := "Nominator$Letters", name := "shuffle", desc := "(I)V" } : Jvm.MethodName)) ∈ gw := gw_in (List.mem_of_getElem? (i := 531) (by rfl)) (by rfl)
set_option maxRecDepth 20000 in
theorem q532 : (Jvm.Cond.code ({ cls := "Nominator$Letters", name := "shuffle", desc := "(I)V" } : Jvm.MethodName) prog_5_method_3_code (4 : Nat) (Option.none : Option Jvm.ClassFile.FieldType)) ∈ gw := gw_in (List.mem_of_getElem? (i := 532) (by rfl)) (by rfl)
set_option maxRecDepth 20000 in
theorem q533 : (Jvm.Cond.constant "Nominator$Letters" (23 : Nat) (1103515245 : Int32)) ∈ gw := gw_in (List.mem_of_getElem? (i := 533) (by rfl)) (by rfl)
set_option maxRecDepth 20000 in
theorem q534 : (Jvm.Cond.methodLink "Nominator$Letters" (24 : Nat) ({ cls := "Nominator$Letters", name := "exchange", desc := "(II)V" } : Jvm.MethodName)) ∈ gw := gw_in (List.mem_of_getElem? (i := 534) (by rfl)) (by rfl)
set_option maxRecDepth 20000 in
theorem q536 : (Jvm.Cond.instanceMethod ({ cls := "Nominator$Letters", name := "exchange", desc := "(II)V" } : Jvm.MethodName)) ∈ gw := gw_in (List.mem_of_getElem? (i := 536) (by rfl)) (by rfl)
set_option maxRecDepth 20000 in
theorem q537 : (Jvm.Cond.code ({ cls := "Nominator$Letters", name := "exchange", desc := "(II)V" } : Jvm.MethodName) prog_5_method_4_code (4 : Nat) (Option.none : Option Jvm.ClassFile.FieldType)) ∈ gw := gw_in (List.mem_of_getElem? (i := 537) (by rfl)) (by rfl)
set_option maxRecDepth 20000 in
theorem q538 : (Jvm.Cond.methodLink "Nominator$Office" (109 : Nat) ({ cls := "Nominator$Office", name := "happenToPaper", desc := "(IIII)V" } : Jvm.MethodName)) ∈ gw := gw_in (List.mem_of_getElem? (i := 538) (by rfl)) (by rfl)
set_option maxRecDepth 20000 in
theorem q540 : (Jvm.Cond.instanceMethod ({ cls := "Nominator$Office", name := "happenToPaper", desc := "(IIII)V" } : Jvm.MethodName)) ∈ gw := gw_in (List.mem_of_getElem? (i := 540) (by rfl)) (by rfl)
set_option maxRecDepth 20000 in
theorem q541 : (Jvm.Cond.code ({ cls := "Nominator$Office", name := "happenToPaper", desc := "(IIII)V" } : Jvm.MethodName) prog_6_method_4_code (5 : Nat) (Option.none : Option Jvm.ClassFile.FieldType)) ∈ gw := gw_in (List.mem_of_getElem? (i := 541) (by rfl)) (by rfl)
set_option maxRecDepth 20000 in
theorem q542 : (Jvm.Cond.methodLink "Nominator$Office" (113 : Nat) ({ cls := "Nominator$Office", name := "beginPaper", desc := "(III)V" } : Jvm.MethodName)) ∈ gw := gw_in (List.mem_of_getElem? (i := 542) (by rfl)) (by rfl)
set_option maxRecDepth 20000 in
theorem q544 : (Jvm.Cond.instanceMethod ({ cls := "Nominator$Office", name := "beginPaper", desc := "(III)V" } : Jvm.MethodName)) ∈ gw := gw_in (List.mem_of_getElem? (i := 544) (by rfl)) (by rfl)
set_option maxRecDepth 20000 in
theorem q545 : (Jvm.Cond.code ({ cls := "Nominator$Office", name := "beginPaper", desc := "(III)V" } : Jvm.MethodName) prog_6_method_5_code (4 : Nat) (Option.none : Option Jvm.ClassFile.FieldType)) ∈ gw := gw_in (List.mem_of_getElem? (i := 545) (by rfl)) (by rfl)
set_option maxRecDepth 20000 in
theorem q546 : (Jvm.Cond.methodLink "Nominator$Office" (138 : Nat) ({ cls := "Nominator$Paper", name := "begin", desc := "(III)V" } : Jvm.MethodName)) ∈ gw := gw_in (List.mem_of_getElem? (i := 546) (by rfl)) (by rfl)
set_option maxRecDepth 20000 in
theorem q547 : (Jvm.Cond.instanceMethod ({ cls := "Nominator$Paper", name := "begin", desc := "(III)V" } : Jvm.MethodName)) ∈ gw := gw_in (List.mem_of_getElem? (i := 547) (by rfl)) (by rfl)
set_option maxRecDepth 20000 in
theorem q548 : (Jvm.Cond.selects "Nominator$Paper" ({ cls := "Nominator$Paper", name := "begin", desc := "(III)V" } : Jvm.MethodName) ({ cls := "Nominator$Paper", name := "begin", desc := "(III)V" } : Jvm.MethodName)) ∈ gw := gw_in (List.mem_of_getElem? (i := 548) (by rfl)) (by rfl)
set_option maxRecDepth 20000 in
theorem q549 : (Jvm.Cond.code ({ cls := "Nominator$Paper", name := "begin", desc := "(III)V" } : Jvm.MethodName) prog_7_method_2_code (4 : Nat) (Option.none : Option Jvm.ClassFile.FieldType)) ∈ gw := gw_in (List.mem_of_getElem? (i := 549) (by rfl)) (by rfl)
set_option maxRecDepth 20000 in
theorem q550 : (Jvm.Cond.methodLink "Nominator$Office" (116 : Nat) ({ cls := "Nominator$Office", name := "beginSignature", desc := "(II)V" } : Jvm.MethodName)) ∈ gw := gw_in (List.mem_of_getElem? (i := 550) (by rfl)) (by rfl)
set_option maxRecDepth 20000 in
theorem q552 : (Jvm.Cond.instanceMethod ({ cls := "Nominator$Office", name := "beginSignature", desc := "(II)V" } : Jvm.MethodName)) ∈ gw := gw_in (List.mem_of_getElem? (i := 552) (by rfl)) (by rfl)
set_option maxRecDepth 20000 in
theorem q553 : (Jvm.Cond.code ({ cls := "Nominator$Office", name := "beginSignature", desc := "(II)V" } : Jvm.MethodName) prog_6_method_6_code (5 : Nat) (Option.none : Option Jvm.ClassFile.FieldType)) ∈ gw := gw_in (List.mem_of_getElem? (i := 553) (by rfl)) (by rfl)
set_option maxRecDepth 20000 in
theorem q554 : (Jvm.Cond.methodLink "Nominator$Office" (145 : Nat) ({ cls := "Nominator$Signature", name := "begin", desc := "(IIZI)V" } : Jvm.MethodName)) ∈ gw := gw_in (List.mem_of_getElem? (i := 554) (by rfl)) (by rfl)
set_option maxRecDepth 20000 in
theorem q555 : (Jvm.Cond.instanceMethod ({ cls := "Nominator$Signature", name := "begin", desc := "(IIZI)V" } : Jvm.MethodName)) ∈ gw := gw_in (List.mem_of_getElem? (i := 555) (by rfl)) (by rfl)
set_option maxRecDepth 20000 in
theorem q556 : (Jvm.Cond.selects "Nominator$Signature" ({ cls := "Nominator$Signature", name := "begin", desc := "(IIZI)V" } : Jvm.MethodName) ({ cls := "Nominator$Signature", name := "begin", desc := "(IIZI)V" } : Jvm.MethodName)) ∈ gw := gw_in (List.mem_of_getElem? (i := 556) (by rfl)) (by rfl)
set_option maxRecDepth 20000 in
theorem q557 : (Jvm.Cond.code ({ cls := "Nominator$Signature", name := "begin", desc := "(IIZI)V" } : Jvm.MethodName) prog_9_method_2_code (5 : Nat) (Option.none : Option Jvm.ClassFile.FieldType)) ∈ gw := gw_in (List.mem_of_getElem? (i := 557) (by rfl)) (by rfl)
set_option maxRecDepth 20000 in
theorem q558 : (Jvm.Cond.methodLink "Nominator$Office" (132 : Nat) ({ cls := "Nominator$Paper", name := "renew", desc := "(I)V" } : Jvm.MethodName)) ∈ gw := gw_in (List.mem_of_getElem? (i := 558) (by rfl)) (by rfl)
set_option maxRecDepth 20000 in
theorem q559 : (Jvm.Cond.instanceMethod ({ cls := "Nominator$Paper", name := "renew", desc := "(I)V" } : Jvm.MethodName)) ∈ gw := gw_in (List.mem_of_getElem? (i := 559) (by rfl)) (by rfl)
set_option maxRecDepth 20000 in
theorem q560 : (Jvm.Cond.selects "Nominator$Paper" ({ cls := "Nominator$Paper", name := "renew", desc := "(I)V" } : Jvm.MethodName) ({ cls := "Nominator$Paper", name := "renew", desc := "(I)V" } : Jvm.MethodName)) ∈ gw := gw_in (List.mem_of_getElem? (i := 560) (by rfl)) (by rfl)
set_option maxRecDepth 20000 in
theorem q561 : (Jvm.Cond.code ({ cls := "Nominator$Paper", name := "renew", desc := "(I)V" } : Jvm.MethodName) prog_7_method_3_code (2 : Nat) (Option.none : Option Jvm.ClassFile.FieldType)) ∈ gw := gw_in (List.mem_of_getElem? (i := 561) (by rfl)) (by rfl)
set_option maxRecDepth 20000 in
theorem q562 : (Jvm.Cond.methodLink "Nominator" (257 : Nat) ({ cls := "Nominator$Office", name := "judge", desc := "()V" } : Jvm.MethodName)) ∈ gw := gw_in (List.mem_of_getElem? (i := 562) (by rfl)) (by rfl)
set_option maxRecDepth 20000 in
theorem q563 : (Jvm.Cond.methodLink "NominatorLaw" (160 : Nat) ({ cls := "NominatorLaw", name := "pass", desc := "(LNominator;I[J)I" } : Jvm.MethodName)) ∈ gw := gw_in (List.mem_of_getElem? (i := 563) (by rfl)) (by rfl)
set_option maxRecDepth 20000 in
theorem q564 : (Jvm.Cond.static ({ cls := "NominatorLaw", name := "pass", desc := "(LNominator;I[J)I" } : Jvm.MethodName)) ∈ gw := gw_in (List.mem_of_getElem? (i := 564) (by rfl)) (by rfl)
set_option maxRecDepth 20000 in
theorem q565 : (Jvm.Cond.codeWith ({ cls := "NominatorLaw", name := "pass", desc := "(LNominator;I[J)I" } : Jvm.MethodName) method_4_code (4 : Nat) (Option.some Jvm.ClassFile.FieldType.int) [((0 : Nat), (9 : Nat), (12 : Nat), (13 : Nat)), ((0 : Nat), (9 : Nat), (15 : Nat), (15 : Nat))]) ∈ gw := gw_in (List.mem_of_getElem? (i := 565) (by rfl)) (by rfl)
set_option maxRecDepth 20000 in
theorem q566 : (Jvm.Cond.methodLink "NominatorLaw" (17 : Nat) ({ cls := "Nominator", name := "pass", desc := "(I)I" } : Jvm.MethodName)) ∈ gw := gw_in (List.mem_of_getElem? (i := 566) (by rfl)) (by rfl)
set_option maxRecDepth 20000 in
theorem q567 : (Jvm.Cond.instanceMethod ({ cls := "Nominator", name := "pass", desc := "(I)I" } : Jvm.MethodName)) ∈ gw := gw_in (List.mem_of_getElem? (i := 567) (by rfl)) (by rfl)
set_option maxRecDepth 20000 in
theorem q568 : (Jvm.Cond.selects "Nominator" ({ cls := "Nominator", name := "pass", desc := "(I)I" } : Jvm.MethodName) ({ cls := "Nominator", name := "pass", desc := "(I)I" } : Jvm.MethodName)) ∈ gw := gw_in (List.mem_of_getElem? (i := 568) (by rfl)) (by rfl)
set_option maxRecDepth 20000 in
theorem q569 : (Jvm.Cond.code ({ cls := "Nominator", name := "pass", desc := "(I)I" } : Jvm.MethodName) prog_1_method_3_code (2 : Nat) (Option.some Jvm.ClassFile.FieldType.int)) ∈ gw := gw_in (List.mem_of_getElem? (i := 569) (by rfl)) (by rfl)
set_option maxRecDepth 20000 in
theorem q572 : (Jvm.Cond.methodLink "NominatorLaw" (173 : Nat) ({ cls := "NominatorLaw", name := "addArea", desc := "(LNominator;II[J)I" } : Jvm.MethodName)) ∈ gw := gw_in (List.mem_of_getElem? (i := 572) (by rfl)) (by rfl)
set_option maxRecDepth 20000 in
theorem q573 : (Jvm.Cond.static ({ cls := "NominatorLaw", name := "addArea", desc := "(LNominator;II[J)I" } : Jvm.MethodName)) ∈ gw := gw_in (List.mem_of_getElem? (i := 573) (by rfl)) (by rfl)
set_option maxRecDepth 20000 in
theorem q574 : (Jvm.Cond.codeWith ({ cls := "NominatorLaw", name := "addArea", desc := "(LNominator;II[J)I" } : Jvm.MethodName) method_5_code (5 : Nat) (Option.some Jvm.ClassFile.FieldType.int) [((0 : Nat), (10 : Nat), (13 : Nat), (13 : Nat)), ((0 : Nat), (10 : Nat), (17 : Nat), (15 : Nat))]) ∈ gw := gw_in (List.mem_of_getElem? (i := 574) (by rfl)) (by rfl)
set_option maxRecDepth 20000 in
theorem q575 : (Jvm.Cond.methodLink "NominatorLaw" (21 : Nat) ({ cls := "Nominator", name := "addArea", desc := "(II)I" } : Jvm.MethodName)) ∈ gw := gw_in (List.mem_of_getElem? (i := 575) (by rfl)) (by rfl)
set_option maxRecDepth 20000 in
theorem q576 : (Jvm.Cond.instanceMethod ({ cls := "Nominator", name := "addArea", desc := "(II)I" } : Jvm.MethodName)) ∈ gw := gw_in (List.mem_of_getElem? (i := 576) (by rfl)) (by rfl)
set_option maxRecDepth 20000 in
theorem q577 : (Jvm.Cond.selects "Nominator" ({ cls := "Nominator", name := "addArea", desc := "(II)I" } : Jvm.MethodName) ({ cls := "Nominator", name := "addArea", desc := "(II)I" } : Jvm.MethodName)) ∈ gw := gw_in (List.mem_of_getElem? (i := 577) (by rfl)) (by rfl)
set_option maxRecDepth 20000 in
theorem q578 : (Jvm.Cond.code ({ cls := "Nominator", name := "addArea", desc := "(II)I" } : Jvm.MethodName) prog_1_method_6_code (3 : Nat) (Option.some Jvm.ClassFile.FieldType.int)) ∈ gw := gw_in (List.mem_of_getElem? (i := 578) (by rfl)) (by rfl)
set_option maxRecDepth 20000 in
theorem q581 : (Jvm.Cond.methodLink "NominatorLaw" (177 : Nat) ({ cls := "NominatorLaw", name := "addVoter", desc := "(LNominator;I[J)I" } : Jvm.MethodName)) ∈ gw := gw_in (List.mem_of_getElem? (i := 581) (by rfl)) (by rfl)
set_option maxRecDepth 20000 in
theorem q582 : (Jvm.Cond.static ({ cls := "NominatorLaw", name := "addVoter", desc := "(LNominator;I[J)I" } : Jvm.MethodName)) ∈ gw := gw_in (List.mem_of_getElem? (i := 582) (by rfl)) (by rfl)
set_option maxRecDepth 20000 in
theorem q583 : (Jvm.Cond.codeWith ({ cls := "NominatorLaw", name := "addVoter", desc := "(LNominator;I[J)I" } : Jvm.MethodName) method_6_code (4 : Nat) (Option.some Jvm.ClassFile.FieldType.int) [((0 : Nat), (9 : Nat), (12 : Nat), (28 : Nat)), ((0 : Nat), (9 : Nat), (15 : Nat), (15 : Nat))]) ∈ gw := gw_in (List.mem_of_getElem? (i := 583) (by rfl)) (by rfl)
set_option maxRecDepth 20000 in
theorem q584 : (Jvm.Cond.classLink "NominatorLaw" (28 : Nat) "java/lang/IndexOutOfBoundsException") ∈ gw := gw_in (List.mem_of_getElem? (i := 584) (by rfl)) (by rfl)
set_option maxRecDepth 20000 in
theorem q585 : (Jvm.Cond.instantiable "java/lang/ArrayIndexOutOfBoundsException" (6 : Nat)) ∈ gw := gw_in (List.mem_of_getElem? (i := 585) (by rfl)) (by rfl)
set_option maxRecDepth 20000 in
theorem q586 : (Jvm.Cond.instanceMethod ({ cls := "java/lang/ArrayIndexOutOfBoundsException", name := "<init>", desc := "(Ljava/lang/String;)V" } : Jvm.MethodName)) ∈ gw := gw_in (List.mem_of_getElem? (i := 586) (by rfl)) (by rfl)
set_option maxRecDepth 20000 in
theorem q587 : (Jvm.Cond.code ({ cls := "java/lang/ArrayIndexOutOfBoundsException", name := "<init>", desc := "(Ljava/lang/String;)V" } : Jvm.MethodName) prog_15_method_2_code (2 : Nat) (Option.none : Option Jvm.ClassFile.FieldType)) ∈ gw := gw_in (List.mem_of_getElem? (i := 587) (by rfl)) (by rfl)
set_option maxRecDepth 20000 in
theorem q588 : (Jvm.Cond.methodLink "java/lang/ArrayIndexOutOfBoundsException" (7 : Nat) ({ cls := "java/lang/IndexOutOfBoundsException", name := "<init>", desc := "(Ljava/lang/String;)V" } : Jvm.MethodName)) ∈ gw := gw_in (List.mem_of_getElem? (i := 588) (by rfl)) (by rfl)
set_option maxRecDepth 20000 in
theorem q589 : (Jvm.Cond.instanceMethod ({ cls := "java/lang/IndexOutOfBoundsException", name := "<init>", desc := "(Ljava/lang/String;)V" } : Jvm.MethodName)) ∈ gw := gw_in (List.mem_of_getElem? (i := 589) (by rfl)) (by rfl)
set_option maxRecDepth 20000 in
theorem q590 : (Jvm.Cond.code ({ cls := "java/lang/IndexOutOfBoundsException", name := "<init>", desc := "(Ljava/lang/String;)V" } : Jvm.MethodName) prog_19_method_2_code (2 : Nat) (Option.none : Option Jvm.ClassFile.FieldType)) ∈ gw := gw_in (List.mem_of_getElem? (i := 590) (by rfl)) (by rfl)
set_option maxRecDepth 20000 in
theorem q591 : (Jvm.Cond.methodLink "java/lang/IndexOutOfBoundsException" (7 : Nat) ({ cls := "java/lang/RuntimeException", name := "<init>", desc := "(Ljava/lang/String;)V" } : Jvm.MethodName)) ∈ gw := gw_in (List.mem_of_getElem? (i := 591) (by rfl)) (by rfl)
set_option maxRecDepth 20000 in
theorem q592 : (Jvm.Cond.lays "java/lang/ArrayIndexOutOfBoundsException" "java/lang/Throwable" "backtrace" "Ljava/lang/Object;") ∈ gw := gw_in (List.mem_of_getElem? (i := 592) (by rfl)) (by rfl)
set_option maxRecDepth 20000 in
theorem q593 : (Jvm.Cond.lays "java/lang/ArrayIndexOutOfBoundsException" "java/lang/Throwable" "detailMessage" "Ljava/lang/String;") ∈ gw := gw_in (List.mem_of_getElem? (i := 593) (by rfl)) (by rfl)
set_option maxRecDepth 20000 in
theorem q594 : (Jvm.Cond.lays "java/lang/ArrayIndexOutOfBoundsException" "java/lang/Throwable" "cause" "Ljava/lang/Throwable;") ∈ gw := gw_in (List.mem_of_getElem? (i := 594) (by rfl)) (by rfl)
set_option maxRecDepth 20000 in
theorem q595 : (Jvm.Cond.lays "java/lang/ArrayIndexOutOfBoundsException" "java/lang/Throwable" "stackTrace" "[Ljava/lang/StackTraceElement;") ∈ gw := gw_in (List.mem_of_getElem? (i := 595) (by rfl)) (by rfl)
set_option maxRecDepth 20000 in
theorem q596 : (Jvm.Cond.lays "java/lang/ArrayIndexOutOfBoundsException" "java/lang/Throwable" "depth" "I") ∈ gw := gw_in (List.mem_of_getElem? (i := 596) (by rfl)) (by rfl)
set_option maxRecDepth 20000 in
theorem q597 : (Jvm.Cond.lays "java/lang/ArrayIndexOutOfBoundsException" "java/lang/Throwable" "suppressedExceptions" "Ljava/util/List;") ∈ gw := gw_in (List.mem_of_getElem? (i := 597) (by rfl)) (by rfl)
set_option maxRecDepth 20000 in
theorem q602 : (Jvm.Cond.selects "java/lang/ArrayIndexOutOfBoundsException" ({ cls := "java/lang/Throwable", name := "fillInStackTrace", desc := "(I)Ljava/lang/Throwable;" } : Jvm.MethodName) ({ cls := "java/lang/Throwable", name := "fillInStackTrace", desc := "(I)Ljava/lang/Throwable;" } : Jvm.MethodName)) ∈ gw := gw_in (List.mem_of_getElem? (i := 602) (by rfl)) (by rfl)
set_option maxRecDepth 20000 in
theorem q603 : (Jvm.Cond.instantiable "java/lang/String" (4 : Nat)) ∈ gw := gw_in (List.mem_of_getElem? (i := 603) (by rfl)) (by rfl)
set_option maxRecDepth 20000 in
theorem q604 : (Jvm.Cond.laysFinal "java/lang/String" "java/lang/String" "value" "[B") ∈ gw := gw_in (List.mem_of_getElem? (i := 604) (by rfl)) (by rfl)
set_option maxRecDepth 20000 in
theorem q606 : (Jvm.Cond.laysFinal "java/lang/String" "java/lang/String" "coder" "B") ∈ gw := gw_in (List.mem_of_getElem? (i := 606) (by rfl)) (by rfl)
set_option maxRecDepth 20000 in
theorem q608 : (Jvm.Cond.methodLink "NominatorLaw" (25 : Nat) ({ cls := "Nominator", name := "addVoter", desc := "(I)I" } : Jvm.MethodName)) ∈ gw := gw_in (List.mem_of_getElem? (i := 608) (by rfl)) (by rfl)
set_option maxRecDepth 20000 in
theorem q609 : (Jvm.Cond.instanceMethod ({ cls := "Nominator", name := "addVoter", desc := "(I)I" } : Jvm.MethodName)) ∈ gw := gw_in (List.mem_of_getElem? (i := 609) (by rfl)) (by rfl)
set_option maxRecDepth 20000 in
theorem q610 : (Jvm.Cond.selects "Nominator" ({ cls := "Nominator", name := "addVoter", desc := "(I)I" } : Jvm.MethodName) ({ cls := "Nominator", name := "addVoter", desc := "(I)I" } : Jvm.MethodName)) ∈ gw := gw_in (List.mem_of_getElem? (i := 610) (by rfl)) (by rfl)
set_option maxRecDepth 20000 in
theorem q611 : (Jvm.Cond.code ({ cls := "Nominator", name := "addVoter", desc := "(I)I" } : Jvm.MethodName) prog_1_method_7_code (2 : Nat) (Option.some Jvm.ClassFile.FieldType.int)) ∈ gw := gw_in (List.mem_of_getElem? (i := 611) (by rfl)) (by rfl)
set_option maxRecDepth 20000 in
theorem q612 : (Jvm.Cond.methodLink "Nominator" (79 : Nat) ({ cls := "Nominator", name := "needArea", desc := "(I)V" } : Jvm.MethodName)) ∈ gw := gw_in (List.mem_of_getElem? (i := 612) (by rfl)) (by rfl)
set_option maxRecDepth 20000 in
theorem q614 : (Jvm.Cond.instanceMethod ({ cls := "Nominator", name := "needArea", desc := "(I)V" } : Jvm.MethodName)) ∈ gw := gw_in (List.mem_of_getElem? (i := 614) (by rfl)) (by rfl)
set_option maxRecDepth 20000 in
theorem q615 : (Jvm.Cond.code ({ cls := "Nominator", name := "needArea", desc := "(I)V" } : Jvm.MethodName) prog_1_method_46_code (2 : Nat) (Option.none : Option Jvm.ClassFile.FieldType)) ∈ gw := gw_in (List.mem_of_getElem? (i := 615) (by rfl)) (by rfl)
set_option maxRecDepth 20000 in
theorem q616 : (Jvm.Cond.classLink "Nominator" (185 : Nat) "java/lang/IndexOutOfBoundsException") ∈ gw := gw_in (List.mem_of_getElem? (i := 616) (by rfl)) (by rfl)
set_option maxRecDepth 20000 in
theorem q617 : (Jvm.Cond.instantiable "java/lang/IndexOutOfBoundsException" (6 : Nat)) ∈ gw := gw_in (List.mem_of_getElem? (i := 617) (by rfl)) (by rfl)
set_option maxRecDepth 20000 in
theorem q619 : (Jvm.Cond.selects "java/lang/IndexOutOfBoundsException" ({ cls := "java/lang/Throwable", name := "fillInStackTrace", desc := "(I)Ljava/lang/Throwable;" } : Jvm.MethodName) ({ cls := "java/lang/Throwable", name := "fillInStackTrace", desc := "(I)Ljava/lang/Throwable;" } : Jvm.MethodName)) ∈ gw := gw_in (List.mem_of_getElem? (i := 619) (by rfl)) (by rfl)
set_option maxRecDepth 20000 in
theorem q620 : (Jvm.Cond.lays "java/lang/IndexOutOfBoundsException" "java/lang/Throwable" "cause" "Ljava/lang/Throwable;") ∈ gw := gw_in (List.mem_of_getElem? (i := 620) (by rfl)) (by rfl)
set_option maxRecDepth 20000 in
theorem q621 : (Jvm.Cond.lays "java/lang/IndexOutOfBoundsException" "java/lang/Throwable" "stackTrace" "[Ljava/lang/StackTraceElement;") ∈ gw := gw_in (List.mem_of_getElem? (i := 621) (by rfl)) (by rfl)
set_option maxRecDepth 20000 in
theorem q622 : (Jvm.Cond.lays "java/lang/IndexOutOfBoundsException" "java/lang/Throwable" "suppressedExceptions" "Ljava/util/List;") ∈ gw := gw_in (List.mem_of_getElem? (i := 622) (by rfl)) (by rfl)
set_option maxRecDepth 20000 in
theorem q623 : (Jvm.Cond.lays "java/lang/IndexOutOfBoundsException" "java/lang/Throwable" "detailMessage" "Ljava/lang/String;") ∈ gw := gw_in (List.mem_of_getElem? (i := 623) (by rfl)) (by rfl)
set_option maxRecDepth 20000 in
theorem q624 : (Jvm.Cond.lays "java/lang/IndexOutOfBoundsException" "java/lang/Throwable" "backtrace" "Ljava/lang/Object;") ∈ gw := gw_in (List.mem_of_getElem? (i := 624) (by rfl)) (by rfl)
set_option maxRecDepth 20000 in
theorem q626 : (Jvm.Cond.methodLink "Nominator" (189 : Nat) ({ cls := "java/lang/IndexOutOfBoundsException", name := "<init>", desc := "(Ljava/lang/String;)V" } : Jvm.MethodName)) ∈ gw := gw_in (List.mem_of_getElem? (i := 626) (by rfl)) (by rfl)
set_option maxRecDepth 20000 in
theorem q627 : (Jvm.Cond.lays "java/lang/IndexOutOfBoundsException" "java/lang/Throwable" "depth" "I") ∈ gw := gw_in (List.mem_of_getElem? (i := 627) (by rfl)) (by rfl)
set_option maxRecDepth 20000 in
theorem q630 : (Jvm.Cond.methodLink "NominatorLaw" (180 : Nat) ({ cls := "NominatorLaw", name := "move", desc := "(LNominator;II[J)I" } : Jvm.MethodName)) ∈ gw := gw_in (List.mem_of_getElem? (i := 630) (by rfl)) (by rfl)
set_option maxRecDepth 20000 in
theorem q631 : (Jvm.Cond.static ({ cls := "NominatorLaw", name := "move", desc := "(LNominator;II[J)I" } : Jvm.MethodName)) ∈ gw := gw_in (List.mem_of_getElem? (i := 631) (by rfl)) (by rfl)
set_option maxRecDepth 20000 in
theorem q632 : (Jvm.Cond.codeWith ({ cls := "NominatorLaw", name := "move", desc := "(LNominator;II[J)I" } : Jvm.MethodName) method_7_code (5 : Nat) (Option.some Jvm.ClassFile.FieldType.int) [((0 : Nat), (10 : Nat), (13 : Nat), (28 : Nat)), ((0 : Nat), (10 : Nat), (17 : Nat), (33 : Nat))]) ∈ gw := gw_in (List.mem_of_getElem? (i := 632) (by rfl)) (by rfl)
set_option maxRecDepth 20000 in
theorem q633 : (Jvm.Cond.classLink "NominatorLaw" (33 : Nat) "java/lang/UnsupportedOperationException") ∈ gw := gw_in (List.mem_of_getElem? (i := 633) (by rfl)) (by rfl)
set_option maxRecDepth 20000 in
theorem q634 : (Jvm.Cond.methodLink "NominatorLaw" (30 : Nat) ({ cls := "Nominator", name := "move", desc := "(II)I" } : Jvm.MethodName)) ∈ gw := gw_in (List.mem_of_getElem? (i := 634) (by rfl)) (by rfl)
set_option maxRecDepth 20000 in
theorem q635 : (Jvm.Cond.instanceMethod ({ cls := "Nominator", name := "move", desc := "(II)I" } : Jvm.MethodName)) ∈ gw := gw_in (List.mem_of_getElem? (i := 635) (by rfl)) (by rfl)
set_option maxRecDepth 20000 in
theorem q636 : (Jvm.Cond.selects "Nominator" ({ cls := "Nominator", name := "move", desc := "(II)I" } : Jvm.MethodName) ({ cls := "Nominator", name := "move", desc := "(II)I" } : Jvm.MethodName)) ∈ gw := gw_in (List.mem_of_getElem? (i := 636) (by rfl)) (by rfl)
set_option maxRecDepth 20000 in
theorem q637 : (Jvm.Cond.code ({ cls := "Nominator", name := "move", desc := "(II)I" } : Jvm.MethodName) prog_1_method_8_code (4 : Nat) (Option.some Jvm.ClassFile.FieldType.int)) ∈ gw := gw_in (List.mem_of_getElem? (i := 637) (by rfl)) (by rfl)
set_option maxRecDepth 20000 in
theorem q638 : (Jvm.Cond.methodLink "Nominator" (88 : Nat) ({ cls := "Nominator", name := "needVoter", desc := "(I)V" } : Jvm.MethodName)) ∈ gw := gw_in (List.mem_of_getElem? (i := 638) (by rfl)) (by rfl)
set_option maxRecDepth 20000 in
theorem q640 : (Jvm.Cond.instanceMethod ({ cls := "Nominator", name := "needVoter", desc := "(I)V" } : Jvm.MethodName)) ∈ gw := gw_in (List.mem_of_getElem? (i := 640) (by rfl)) (by rfl)
set_option maxRecDepth 20000 in
theorem q641 : (Jvm.Cond.code ({ cls := "Nominator", name := "needVoter", desc := "(I)V" } : Jvm.MethodName) prog_1_method_47_code (2 : Nat) (Option.none : Option Jvm.ClassFile.FieldType)) ∈ gw := gw_in (List.mem_of_getElem? (i := 641) (by rfl)) (by rfl)
set_option maxRecDepth 20000 in
theorem q643 : (Jvm.Cond.classLink "Nominator" (100 : Nat) "java/lang/UnsupportedOperationException") ∈ gw := gw_in (List.mem_of_getElem? (i := 643) (by rfl)) (by rfl)
set_option maxRecDepth 20000 in
theorem q644 : (Jvm.Cond.instantiable "java/lang/UnsupportedOperationException" (6 : Nat)) ∈ gw := gw_in (List.mem_of_getElem? (i := 644) (by rfl)) (by rfl)
set_option maxRecDepth 20000 in
theorem q646 : (Jvm.Cond.selects "java/lang/UnsupportedOperationException" ({ cls := "java/lang/Throwable", name := "fillInStackTrace", desc := "(I)Ljava/lang/Throwable;" } : Jvm.MethodName) ({ cls := "java/lang/Throwable", name := "fillInStackTrace", desc := "(I)Ljava/lang/Throwable;" } : Jvm.MethodName)) ∈ gw := gw_in (List.mem_of_getElem? (i := 646) (by rfl)) (by rfl)
set_option maxRecDepth 20000 in
theorem q647 : (Jvm.Cond.lays "java/lang/UnsupportedOperationException" "java/lang/Throwable" "cause" "Ljava/lang/Throwable;") ∈ gw := gw_in (List.mem_of_getElem? (i := 647) (by rfl)) (by rfl)
set_option maxRecDepth 20000 in
theorem q648 : (Jvm.Cond.lays "java/lang/UnsupportedOperationException" "java/lang/Throwable" "stackTrace" "[Ljava/lang/StackTraceElement;") ∈ gw := gw_in (List.mem_of_getElem? (i := 648) (by rfl)) (by rfl)
set_option maxRecDepth 20000 in
theorem q649 : (Jvm.Cond.lays "java/lang/UnsupportedOperationException" "java/lang/Throwable" "suppressedExceptions" "Ljava/util/List;") ∈ gw := gw_in (List.mem_of_getElem? (i := 649) (by rfl)) (by rfl)
set_option maxRecDepth 20000 in
theorem q650 : (Jvm.Cond.lays "java/lang/UnsupportedOperationException" "java/lang/Throwable" "detailMessage" "Ljava/lang/String;") ∈ gw := gw_in (List.mem_of_getElem? (i := 650) (by rfl)) (by rfl)
set_option maxRecDepth 20000 in
theorem q651 : (Jvm.Cond.lays "java/lang/UnsupportedOperationException" "java/lang/Throwable" "backtrace" "Ljava/lang/Object;") ∈ gw := gw_in (List.mem_of_getElem? (i := 651) (by rfl)) (by rfl)
set_option maxRecDepth 20000 in
theorem q653 : (Jvm.Cond.methodLink "Nominator" (104 : Nat) ({ cls := "java/lang/UnsupportedOperationException", name := "<init>", desc := "(Ljava/lang/String;)V" } : Jvm.MethodName)) ∈ gw := gw_in (List.mem_of_getElem? (i := 653) (by rfl)) (by rfl)
set_option maxRecDepth 20000 in
theorem q654 : (Jvm.Cond.instanceMethod ({ cls := "java/lang/UnsupportedOperationException", name := "<init>", desc := "(Ljava/lang/String;)V" } : Jvm.MethodName)) ∈ gw := gw_in (List.mem_of_getElem? (i := 654) (by rfl)) (by rfl)
set_option maxRecDepth 20000 in
theorem q655 : (Jvm.Cond.code ({ cls := "java/lang/UnsupportedOperationException", name := "<init>", desc := "(Ljava/lang/String;)V" } : Jvm.MethodName) prog_25_method_2_code (2 : Nat) (Option.none : Option Jvm.ClassFile.FieldType)) ∈ gw := gw_in (List.mem_of_getElem? (i := 655) (by rfl)) (by rfl)
set_option maxRecDepth 20000 in
theorem q656 : (Jvm.Cond.methodLink "java/lang/UnsupportedOperationException" (7 : Nat) ({ cls := "java/lang/RuntimeException", name := "<init>", desc := "(Ljava/lang/String;)V" } : Jvm.MethodName)) ∈ gw := gw_in (List.mem_of_getElem? (i := 656) (by rfl)) (by rfl)
set_option maxRecDepth 20000 in
theorem q657 : (Jvm.Cond.lays "java/lang/UnsupportedOperationException" "java/lang/Throwable" "depth" "I") ∈ gw := gw_in (List.mem_of_getElem? (i := 657) (by rfl)) (by rfl)
set_option maxRecDepth 20000 in
theorem q659 : (Jvm.Cond.methodLink "NominatorLaw" (183 : Nat) ({ cls := "NominatorLaw", name := "strike", desc := "(LNominator;I[J)I" } : Jvm.MethodName)) ∈ gw := gw_in (List.mem_of_getElem? (i := 659) (by rfl)) (by rfl)
set_option maxRecDepth 20000 in
theorem q660 : (Jvm.Cond.static ({ cls := "NominatorLaw", name := "strike", desc := "(LNominator;I[J)I" } : Jvm.MethodName)) ∈ gw := gw_in (List.mem_of_getElem? (i := 660) (by rfl)) (by rfl)
set_option maxRecDepth 20000 in
theorem q661 : (Jvm.Cond.codeWith ({ cls := "NominatorLaw", name := "strike", desc := "(LNominator;I[J)I" } : Jvm.MethodName) method_8_code (4 : Nat) (Option.some Jvm.ClassFile.FieldType.int) [((0 : Nat), (9 : Nat), (12 : Nat), (28 : Nat)), ((0 : Nat), (9 : Nat), (15 : Nat), (15 : Nat))]) ∈ gw := gw_in (List.mem_of_getElem? (i := 661) (by rfl)) (by rfl)
set_option maxRecDepth 20000 in
theorem q662 : (Jvm.Cond.methodLink "NominatorLaw" (35 : Nat) ({ cls := "Nominator", name := "strike", desc := "(I)I" } : Jvm.MethodName)) ∈ gw := gw_in (List.mem_of_getElem? (i := 662) (by rfl)) (by rfl)
set_option maxRecDepth 20000 in
theorem q663 : (Jvm.Cond.instanceMethod ({ cls := "Nominator", name := "strike", desc := "(I)I" } : Jvm.MethodName)) ∈ gw := gw_in (List.mem_of_getElem? (i := 663) (by rfl)) (by rfl)
set_option maxRecDepth 20000 in
theorem q664 : (Jvm.Cond.selects "Nominator" ({ cls := "Nominator", name := "strike", desc := "(I)I" } : Jvm.MethodName) ({ cls := "Nominator", name := "strike", desc := "(I)I" } : Jvm.MethodName)) ∈ gw := gw_in (List.mem_of_getElem? (i := 664) (by rfl)) (by rfl)
set_option maxRecDepth 20000 in
theorem q665 : (Jvm.Cond.code ({ cls := "Nominator", name := "strike", desc := "(I)I" } : Jvm.MethodName) prog_1_method_9_code (2 : Nat) (Option.some Jvm.ClassFile.FieldType.int)) ∈ gw := gw_in (List.mem_of_getElem? (i := 665) (by rfl)) (by rfl)
set_option maxRecDepth 20000 in
theorem q667 : (Jvm.Cond.methodLink "Nominator" (111 : Nat) ({ cls := "Nominator$Roll", name := "countOnRoll", desc := "()I" } : Jvm.MethodName)) ∈ gw := gw_in (List.mem_of_getElem? (i := 667) (by rfl)) (by rfl)
set_option maxRecDepth 20000 in
theorem q668 : (Jvm.Cond.instanceMethod ({ cls := "Nominator$Roll", name := "countOnRoll", desc := "()I" } : Jvm.MethodName)) ∈ gw := gw_in (List.mem_of_getElem? (i := 668) (by rfl)) (by rfl)
set_option maxRecDepth 20000 in
theorem q669 : (Jvm.Cond.selects "Nominator$Roll" ({ cls := "Nominator$Roll", name := "countOnRoll", desc := "()I" } : Jvm.MethodName) ({ cls := "Nominator$Roll", name := "countOnRoll", desc := "()I" } : Jvm.MethodName)) ∈ gw := gw_in (List.mem_of_getElem? (i := 669) (by rfl)) (by rfl)
set_option maxRecDepth 20000 in
theorem q670 : (Jvm.Cond.code ({ cls := "Nominator$Roll", name := "countOnRoll", desc := "()I" } : Jvm.MethodName) prog_8_method_5_code (3 : Nat) (Option.some Jvm.ClassFile.FieldType.int)) ∈ gw := gw_in (List.mem_of_getElem? (i := 670) (by rfl)) (by rfl)
set_option maxRecDepth 20000 in
theorem q671 : (Jvm.Cond.methodLink "NominatorLaw" (186 : Nat) ({ cls := "NominatorLaw", name := "restore", desc := "(LNominator;I[J)I" } : Jvm.MethodName)) ∈ gw := gw_in (List.mem_of_getElem? (i := 671) (by rfl)) (by rfl)
set_option maxRecDepth 20000 in
theorem q672 : (Jvm.Cond.static ({ cls := "NominatorLaw", name := "restore", desc := "(LNominator;I[J)I" } : Jvm.MethodName)) ∈ gw := gw_in (List.mem_of_getElem? (i := 672) (by rfl)) (by rfl)
set_option maxRecDepth 20000 in
theorem q673 : (Jvm.Cond.codeWith ({ cls := "NominatorLaw", name := "restore", desc := "(LNominator;I[J)I" } : Jvm.MethodName) method_9_code (4 : Nat) (Option.some Jvm.ClassFile.FieldType.int) [((0 : Nat), (9 : Nat), (12 : Nat), (28 : Nat)), ((0 : Nat), (9 : Nat), (15 : Nat), (15 : Nat))]) ∈ gw := gw_in (List.mem_of_getElem? (i := 673) (by rfl)) (by rfl)
set_option maxRecDepth 20000 in
theorem q674 : (Jvm.Cond.methodLink "NominatorLaw" (38 : Nat) ({ cls := "Nominator", name := "restore", desc := "(I)I" } : Jvm.MethodName)) ∈ gw := gw_in (List.mem_of_getElem? (i := 674) (by rfl)) (by rfl)
set_option maxRecDepth 20000 in
theorem q675 : (Jvm.Cond.instanceMethod ({ cls := "Nominator", name := "restore", desc := "(I)I" } : Jvm.MethodName)) ∈ gw := gw_in (List.mem_of_getElem? (i := 675) (by rfl)) (by rfl)
set_option maxRecDepth 20000 in
theorem q676 : (Jvm.Cond.selects "Nominator" ({ cls := "Nominator", name := "restore", desc := "(I)I" } : Jvm.MethodName) ({ cls := "Nominator", name := "restore", desc := "(I)I" } : Jvm.MethodName)) ∈ gw := gw_in (List.mem_of_getElem? (i := 676) (by rfl)) (by rfl)
set_option maxRecDepth 20000 in
theorem q677 : (Jvm.Cond.code ({ cls := "Nominator", name := "restore", desc := "(I)I" } : Jvm.MethodName) prog_1_method_10_code (2 : Nat) (Option.some Jvm.ClassFile.FieldType.int)) ∈ gw := gw_in (List.mem_of_getElem? (i := 677) (by rfl)) (by rfl)
set_option maxRecDepth 20000 in
theorem q679 : (Jvm.Cond.methodLink "NominatorLaw" (189 : Nat) ({ cls := "NominatorLaw", name := "areaOf", desc := "(LNominator;I[J)I" } : Jvm.MethodName)) ∈ gw := gw_in (List.mem_of_getElem? (i := 679) (by rfl)) (by rfl)
set_option maxRecDepth 20000 in
theorem q680 : (Jvm.Cond.static ({ cls := "NominatorLaw", name := "areaOf", desc := "(LNominator;I[J)I" } : Jvm.MethodName)) ∈ gw := gw_in (List.mem_of_getElem? (i := 680) (by rfl)) (by rfl)
set_option maxRecDepth 20000 in
theorem q681 : (Jvm.Cond.codeWith ({ cls := "NominatorLaw", name := "areaOf", desc := "(LNominator;I[J)I" } : Jvm.MethodName) method_10_code (4 : Nat) (Option.some Jvm.ClassFile.FieldType.int) [((0 : Nat), (9 : Nat), (12 : Nat), (28 : Nat))]) ∈ gw := gw_in (List.mem_of_getElem? (i := 681) (by rfl)) (by rfl)
set_option maxRecDepth 20000 in
theorem q682 : (Jvm.Cond.methodLink "NominatorLaw" (41 : Nat) ({ cls := "Nominator", name := "areaOf", desc := "(I)I" } : Jvm.MethodName)) ∈ gw := gw_in (List.mem_of_getElem? (i := 682) (by rfl)) (by rfl)
set_option maxRecDepth 20000 in
theorem q683 : (Jvm.Cond.instanceMethod ({ cls := "Nominator", name := "areaOf", desc := "(I)I" } : Jvm.MethodName)) ∈ gw := gw_in (List.mem_of_getElem? (i := 683) (by rfl)) (by rfl)
set_option maxRecDepth 20000 in
theorem q684 : (Jvm.Cond.selects "Nominator" ({ cls := "Nominator", name := "areaOf", desc := "(I)I" } : Jvm.MethodName) ({ cls := "Nominator", name := "areaOf", desc := "(I)I" } : Jvm.MethodName)) ∈ gw := gw_in (List.mem_of_getElem? (i := 684) (by rfl)) (by rfl)
set_option maxRecDepth 20000 in
theorem q685 : (Jvm.Cond.code ({ cls := "Nominator", name := "areaOf", desc := "(I)I" } : Jvm.MethodName) prog_1_method_11_code (2 : Nat) (Option.some Jvm.ClassFile.FieldType.int)) ∈ gw := gw_in (List.mem_of_getElem? (i := 685) (by rfl)) (by rfl)
set_option maxRecDepth 20000 in
theorem q686 : (Jvm.Cond.methodLink "NominatorLaw" (192 : Nat) ({ cls := "NominatorLaw", name := "isOnRoll", desc := "(LNominator;I[J)I" } : Jvm.MethodName)) ∈ gw := gw_in (List.mem_of_getElem? (i := 686) (by rfl)) (by rfl)
set_option maxRecDepth 20000 in
theorem q687 : (Jvm.Cond.static ({ cls := "NominatorLaw", name := "isOnRoll", desc := "(LNominator;I[J)I" } : Jvm.MethodName)) ∈ gw := gw_in (List.mem_of_getElem? (i := 687) (by rfl)) (by rfl)
set_option maxRecDepth 20000 in
theorem q688 : (Jvm.Cond.codeWith ({ cls := "NominatorLaw", name := "isOnRoll", desc := "(LNominator;I[J)I" } : Jvm.MethodName) method_11_code (4 : Nat) (Option.some Jvm.ClassFile.FieldType.int) [((0 : Nat), (16 : Nat), (19 : Nat), (28 : Nat))]) ∈ gw := gw_in (List.mem_of_getElem? (i := 688) (by rfl)) (by rfl)
set_option maxRecDepth 20000 in
theorem q689 : (Jvm.Cond.methodLink "NominatorLaw" (44 : Nat) ({ cls := "Nominator", name := "isOnRoll", desc := "(I)Z" } : Jvm.MethodName)) ∈ gw := gw_in (List.mem_of_getElem? (i := 689) (by rfl)) (by rfl)
set_option maxRecDepth 20000 in
theorem q690 : (Jvm.Cond.instanceMethod ({ cls := "Nominator", name := "isOnRoll", desc := "(I)Z" } : Jvm.MethodName)) ∈ gw := gw_in (List.mem_of_getElem? (i := 690) (by rfl)) (by rfl)
set_option maxRecDepth 20000 in
theorem q691 : (Jvm.Cond.selects "Nominator" ({ cls := "Nominator", name := "isOnRoll", desc := "(I)Z" } : Jvm.MethodName) ({ cls := "Nominator", name := "isOnRoll", desc := "(I)Z" } : Jvm.MethodName)) ∈ gw := gw_in (List.mem_of_getElem? (i := 691) (by rfl)) (by rfl)
set_option maxRecDepth 20000 in
theorem q692 : (Jvm.Cond.code ({ cls := "Nominator", name := "isOnRoll", desc := "(I)Z" } : Jvm.MethodName) prog_1_method_12_code (2 : Nat) (Option.some Jvm.ClassFile.FieldType.boolean)) ∈ gw := gw_in (List.mem_of_getElem? (i := 692) (by rfl)) (by rfl)
set_option maxRecDepth 20000 in
theorem q693 : (Jvm.Cond.methodLink "NominatorLaw" (195 : Nat) ({ cls := "NominatorLaw", name := "file", desc := "(LNominator;IICCCC[J)I" } : Jvm.MethodName)) ∈ gw := gw_in (List.mem_of_getElem? (i := 693) (by rfl)) (by rfl)
set_option maxRecDepth 20000 in
theorem q694 : (Jvm.Cond.static ({ cls := "NominatorLaw", name := "file", desc := "(LNominator;IICCCC[J)I" } : Jvm.MethodName)) ∈ gw := gw_in (List.mem_of_getElem? (i := 694) (by rfl)) (by rfl)
set_option maxRecDepth 20000 in
theorem q695 : (Jvm.Cond.codeWith ({ cls := "NominatorLaw", name := "file", desc := "(LNominator;IICCCC[J)I" } : Jvm.MethodName) method_12_code (9 : Nat) (Option.some Jvm.ClassFile.FieldType.int) [((0 : Nat), (18 : Nat), (21 : Nat), (28 : Nat)), ((0 : Nat), (18 : Nat), (25 : Nat), (13 : Nat)), ((0 : Nat), (18 : Nat), (29 : Nat), (15 : Nat))]) ∈ gw := gw_in (List.mem_of_getElem? (i := 695) (by rfl)) (by rfl)
set_option maxRecDepth 20000 in
theorem q696 : (Jvm.Cond.methodLink "NominatorLaw" (48 : Nat) ({ cls := "Nominator", name := "file", desc := "(IICCCC)I" } : Jvm.MethodName)) ∈ gw := gw_in (List.mem_of_getElem? (i := 696) (by rfl)) (by rfl)
set_option maxRecDepth 20000 in
theorem q697 : (Jvm.Cond.instanceMethod ({ cls := "Nominator", name := "file", desc := "(IICCCC)I" } : Jvm.MethodName)) ∈ gw := gw_in (List.mem_of_getElem? (i := 697) (by rfl)) (by rfl)
set_option maxRecDepth 20000 in
theorem q698 : (Jvm.Cond.selects "Nominator" ({ cls := "Nominator", name := "file", desc := "(IICCCC)I" } : Jvm.MethodName) ({ cls := "Nominator", name := "file", desc := "(IICCCC)I" } : Jvm.MethodName)) ∈ gw := gw_in (List.mem_of_getElem? (i := 698) (by rfl)) (by rfl)
set_option maxRecDepth 20000 in
theorem q699 : (Jvm.Cond.code ({ cls := "Nominator", name := "file", desc := "(IICCCC)I" } : Jvm.MethodName) prog_1_method_13_code (7 : Nat) (Option.some Jvm.ClassFile.FieldType.int)) ∈ gw := gw_in (List.mem_of_getElem? (i := 699) (by rfl)) (by rfl)
set_option maxRecDepth 20000 in
theorem q701 : (Jvm.Cond.methodLink "Nominator" (119 : Nat) ({ cls := "Nominator", name := "needName", desc := "(CCCC)V" } : Jvm.MethodName)) ∈ gw := gw_in (List.mem_of_getElem? (i := 701) (by rfl)) (by rfl)
set_option maxRecDepth 20000 in
theorem q703 : (Jvm.Cond.instanceMethod ({ cls := "Nominator", name := "needName", desc := "(CCCC)V" } : Jvm.MethodName)) ∈ gw := gw_in (List.mem_of_getElem? (i := 703) (by rfl)) (by rfl)
set_option maxRecDepth 20000 in
theorem q704 : (Jvm.Cond.code ({ cls := "Nominator", name := "needName", desc := "(CCCC)V" } : Jvm.MethodName) prog_1_method_49_code (5 : Nat) (Option.none : Option Jvm.ClassFile.FieldType)) ∈ gw := gw_in (List.mem_of_getElem? (i := 704) (by rfl)) (by rfl)
set_option maxRecDepth 20000 in
theorem q705 : (Jvm.Cond.methodLink "Nominator" (353 : Nat) ({ cls := "Nominator", name := "isSmallLetter", desc := "(C)Z" } : Jvm.MethodName)) ∈ gw := gw_in (List.mem_of_getElem? (i := 705) (by rfl)) (by rfl)
set_option maxRecDepth 20000 in
theorem q706 : (Jvm.Cond.static ({ cls := "Nominator", name := "isSmallLetter", desc := "(C)Z" } : Jvm.MethodName)) ∈ gw := gw_in (List.mem_of_getElem? (i := 706) (by rfl)) (by rfl)
set_option maxRecDepth 20000 in
theorem q707 : (Jvm.Cond.code ({ cls := "Nominator", name := "isSmallLetter", desc := "(C)Z" } : Jvm.MethodName) prog_1_method_58_code (1 : Nat) (Option.some Jvm.ClassFile.FieldType.boolean)) ∈ gw := gw_in (List.mem_of_getElem? (i := 707) (by rfl)) (by rfl)
set_option maxRecDepth 20000 in
theorem q708 : (Jvm.Cond.methodLink "Nominator" (357 : Nat) ({ cls := "Nominator", name := "mayFollow", desc := "(CC)Z" } : Jvm.MethodName)) ∈ gw := gw_in (List.mem_of_getElem? (i := 708) (by rfl)) (by rfl)
set_option maxRecDepth 20000 in
theorem q709 : (Jvm.Cond.static ({ cls := "Nominator", name := "mayFollow", desc := "(CC)Z" } : Jvm.MethodName)) ∈ gw := gw_in (List.mem_of_getElem? (i := 709) (by rfl)) (by rfl)
set_option maxRecDepth 20000 in
theorem q710 : (Jvm.Cond.code ({ cls := "Nominator", name := "mayFollow", desc := "(CC)Z" } : Jvm.MethodName) prog_1_method_59_code (2 : Nat) (Option.some Jvm.ClassFile.FieldType.boolean)) ∈ gw := gw_in (List.mem_of_getElem? (i := 710) (by rfl)) (by rfl)
set_option maxRecDepth 20000 in
theorem q712 : (Jvm.Cond.methodLink "Nominator" (123 : Nat) ({ cls := "Nominator", name := "needOpen", desc := "()V" } : Jvm.MethodName)) ∈ gw := gw_in (List.mem_of_getElem? (i := 712) (by rfl)) (by rfl)
set_option maxRecDepth 20000 in
theorem q714 : (Jvm.Cond.instanceMethod ({ cls := "Nominator", name := "needOpen", desc := "()V" } : Jvm.MethodName)) ∈ gw := gw_in (List.mem_of_getElem? (i := 714) (by rfl)) (by rfl)
set_option maxRecDepth 20000 in
theorem q715 : (Jvm.Cond.code ({ cls := "Nominator", name := "needOpen", desc := "()V" } : Jvm.MethodName) prog_1_method_51_code (1 : Nat) (Option.none : Option Jvm.ClassFile.FieldType)) ∈ gw := gw_in (List.mem_of_getElem? (i := 715) (by rfl)) (by rfl)
set_option maxRecDepth 20000 in
theorem q718 : (Jvm.Cond.methodLink "Nominator" (128 : Nat) ({ cls := "Nominator", name := "nameOf", desc := "(CCCC)I" } : Jvm.MethodName)) ∈ gw := gw_in (List.mem_of_getElem? (i := 718) (by rfl)) (by rfl)
set_option maxRecDepth 20000 in
theorem q719 : (Jvm.Cond.static ({ cls := "Nominator", name := "nameOf", desc := "(CCCC)I" } : Jvm.MethodName)) ∈ gw := gw_in (List.mem_of_getElem? (i := 719) (by rfl)) (by rfl)
set_option maxRecDepth 20000 in
theorem q720 : (Jvm.Cond.code ({ cls := "Nominator", name := "nameOf", desc := "(CCCC)I" } : Jvm.MethodName) prog_1_method_60_code (4 : Nat) (Option.some Jvm.ClassFile.FieldType.int)) ∈ gw := gw_in (List.mem_of_getElem? (i := 720) (by rfl)) (by rfl)
set_option maxRecDepth 20000 in
theorem q721 : (Jvm.Cond.methodLink "NominatorLaw" (199 : Nat) ({ cls := "NominatorLaw", name := "sign", desc := "(LNominator;II[J)I" } : Jvm.MethodName)) ∈ gw := gw_in (List.mem_of_getElem? (i := 721) (by rfl)) (by rfl)
set_option maxRecDepth 20000 in
theorem q722 : (Jvm.Cond.static ({ cls := "NominatorLaw", name := "sign", desc := "(LNominator;II[J)I" } : Jvm.MethodName)) ∈ gw := gw_in (List.mem_of_getElem? (i := 722) (by rfl)) (by rfl)
set_option maxRecDepth 20000 in
theorem q723 : (Jvm.Cond.codeWith ({ cls := "NominatorLaw", name := "sign", desc := "(LNominator;II[J)I" } : Jvm.MethodName) method_13_code (5 : Nat) (Option.some Jvm.ClassFile.FieldType.int) [((0 : Nat), (10 : Nat), (13 : Nat), (28 : Nat)), ((0 : Nat), (10 : Nat), (17 : Nat), (15 : Nat))]) ∈ gw := gw_in (List.mem_of_getElem? (i := 723) (by rfl)) (by rfl)
set_option maxRecDepth 20000 in
theorem q724 : (Jvm.Cond.methodLink "NominatorLaw" (52 : Nat) ({ cls := "Nominator", name := "sign", desc := "(II)I" } : Jvm.MethodName)) ∈ gw := gw_in (List.mem_of_getElem? (i := 724) (by rfl)) (by rfl)
set_option maxRecDepth 20000 in
theorem q725 : (Jvm.Cond.instanceMethod ({ cls := "Nominator", name := "sign", desc := "(II)I" } : Jvm.MethodName)) ∈ gw := gw_in (List.mem_of_getElem? (i := 725) (by rfl)) (by rfl)
set_option maxRecDepth 20000 in
theorem q726 : (Jvm.Cond.selects "Nominator" ({ cls := "Nominator", name := "sign", desc := "(II)I" } : Jvm.MethodName) ({ cls := "Nominator", name := "sign", desc := "(II)I" } : Jvm.MethodName)) ∈ gw := gw_in (List.mem_of_getElem? (i := 726) (by rfl)) (by rfl)
set_option maxRecDepth 20000 in
theorem q727 : (Jvm.Cond.code ({ cls := "Nominator", name := "sign", desc := "(II)I" } : Jvm.MethodName) prog_1_method_14_code (3 : Nat) (Option.some Jvm.ClassFile.FieldType.int)) ∈ gw := gw_in (List.mem_of_getElem? (i := 727) (by rfl)) (by rfl)
set_option maxRecDepth 20000 in
theorem q728 : (Jvm.Cond.methodLink "Nominator" (132 : Nat) ({ cls := "Nominator", name := "needPaper", desc := "(I)V" } : Jvm.MethodName)) ∈ gw := gw_in (List.mem_of_getElem? (i := 728) (by rfl)) (by rfl)
set_option maxRecDepth 20000 in
theorem q730 : (Jvm.Cond.instanceMethod ({ cls := "Nominator", name := "needPaper", desc := "(I)V" } : Jvm.MethodName)) ∈ gw := gw_in (List.mem_of_getElem? (i := 730) (by rfl)) (by rfl)
set_option maxRecDepth 20000 in
theorem q731 : (Jvm.Cond.code ({ cls := "Nominator", name := "needPaper", desc := "(I)V" } : Jvm.MethodName) prog_1_method_48_code (2 : Nat) (Option.none : Option Jvm.ClassFile.FieldType)) ∈ gw := gw_in (List.mem_of_getElem? (i := 731) (by rfl)) (by rfl)
set_option maxRecDepth 20000 in
theorem q733 : (Jvm.Cond.methodLink "Nominator" (135 : Nat) ({ cls := "Nominator", name := "needNotWithdrawn", desc := "(I)V" } : Jvm.MethodName)) ∈ gw := gw_in (List.mem_of_getElem? (i := 733) (by rfl)) (by rfl)
set_option maxRecDepth 20000 in
theorem q735 : (Jvm.Cond.instanceMethod ({ cls := "Nominator", name := "needNotWithdrawn", desc := "(I)V" } : Jvm.MethodName)) ∈ gw := gw_in (List.mem_of_getElem? (i := 735) (by rfl)) (by rfl)
set_option maxRecDepth 20000 in
theorem q736 : (Jvm.Cond.code ({ cls := "Nominator", name := "needNotWithdrawn", desc := "(I)V" } : Jvm.MethodName) prog_1_method_52_code (2 : Nat) (Option.none : Option Jvm.ClassFile.FieldType)) ∈ gw := gw_in (List.mem_of_getElem? (i := 736) (by rfl)) (by rfl)
set_option maxRecDepth 20000 in
theorem q737 : (Jvm.Cond.methodLink "Nominator" (367 : Nat) ({ cls := "Nominator$Office", name := "isWithdrawn", desc := "(I)Z" } : Jvm.MethodName)) ∈ gw := gw_in (List.mem_of_getElem? (i := 737) (by rfl)) (by rfl)
set_option maxRecDepth 20000 in
theorem q740 : (Jvm.Cond.methodLink "NominatorLaw" (202 : Nat) ({ cls := "NominatorLaw", name := "pay", desc := "(LNominator;II[J)I" } : Jvm.MethodName)) ∈ gw := gw_in (List.mem_of_getElem? (i := 740) (by rfl)) (by rfl)
set_option maxRecDepth 20000 in
theorem q741 : (Jvm.Cond.static ({ cls := "NominatorLaw", name := "pay", desc := "(LNominator;II[J)I" } : Jvm.MethodName)) ∈ gw := gw_in (List.mem_of_getElem? (i := 741) (by rfl)) (by rfl)
set_option maxRecDepth 20000 in
theorem q742 : (Jvm.Cond.codeWith ({ cls := "NominatorLaw", name := "pay", desc := "(LNominator;II[J)I" } : Jvm.MethodName) method_14_code (5 : Nat) (Option.some Jvm.ClassFile.FieldType.int) [((0 : Nat), (10 : Nat), (13 : Nat), (28 : Nat)), ((0 : Nat), (10 : Nat), (17 : Nat), (13 : Nat)), ((0 : Nat), (10 : Nat), (21 : Nat), (15 : Nat))]) ∈ gw := gw_in (List.mem_of_getElem? (i := 742) (by rfl)) (by rfl)
set_option maxRecDepth 20000 in
theorem q743 : (Jvm.Cond.methodLink "NominatorLaw" (55 : Nat) ({ cls := "Nominator", name := "pay", desc := "(II)I" } : Jvm.MethodName)) ∈ gw := gw_in (List.mem_of_getElem? (i := 743) (by rfl)) (by rfl)
set_option maxRecDepth 20000 in
theorem q744 : (Jvm.Cond.instanceMethod ({ cls := "Nominator", name := "pay", desc := "(II)I" } : Jvm.MethodName)) ∈ gw := gw_in (List.mem_of_getElem? (i := 744) (by rfl)) (by rfl)
set_option maxRecDepth 20000 in
theorem q745 : (Jvm.Cond.selects "Nominator" ({ cls := "Nominator", name := "pay", desc := "(II)I" } : Jvm.MethodName) ({ cls := "Nominator", name := "pay", desc := "(II)I" } : Jvm.MethodName)) ∈ gw := gw_in (List.mem_of_getElem? (i := 745) (by rfl)) (by rfl)
set_option maxRecDepth 20000 in
theorem q746 : (Jvm.Cond.code ({ cls := "Nominator", name := "pay", desc := "(II)I" } : Jvm.MethodName) prog_1_method_15_code (3 : Nat) (Option.some Jvm.ClassFile.FieldType.int)) ∈ gw := gw_in (List.mem_of_getElem? (i := 746) (by rfl)) (by rfl)
set_option maxRecDepth 20000 in
theorem q748 : (Jvm.Cond.methodLink "NominatorLaw" (205 : Nat) ({ cls := "NominatorLaw", name := "withdraw", desc := "(LNominator;I[J)I" } : Jvm.MethodName)) ∈ gw := gw_in (List.mem_of_getElem? (i := 748) (by rfl)) (by rfl)
set_option maxRecDepth 20000 in
theorem q749 : (Jvm.Cond.static ({ cls := "NominatorLaw", name := "withdraw", desc := "(LNominator;I[J)I" } : Jvm.MethodName)) ∈ gw := gw_in (List.mem_of_getElem? (i := 749) (by rfl)) (by rfl)
set_option maxRecDepth 20000 in
theorem q750 : (Jvm.Cond.codeWith ({ cls := "NominatorLaw", name := "withdraw", desc := "(LNominator;I[J)I" } : Jvm.MethodName) method_15_code (4 : Nat) (Option.some Jvm.ClassFile.FieldType.int) [((0 : Nat), (9 : Nat), (12 : Nat), (28 : Nat)), ((0 : Nat), (9 : Nat), (15 : Nat), (15 : Nat))]) ∈ gw := gw_in (List.mem_of_getElem? (i := 750) (by rfl)) (by rfl)
set_option maxRecDepth 20000 in
theorem q751 : (Jvm.Cond.methodLink "NominatorLaw" (58 : Nat) ({ cls := "Nominator", name := "withdraw", desc := "(I)I" } : Jvm.MethodName)) ∈ gw := gw_in (List.mem_of_getElem? (i := 751) (by rfl)) (by rfl)
set_option maxRecDepth 20000 in
theorem q752 : (Jvm.Cond.instanceMethod ({ cls := "Nominator", name := "withdraw", desc := "(I)I" } : Jvm.MethodName)) ∈ gw := gw_in (List.mem_of_getElem? (i := 752) (by rfl)) (by rfl)
set_option maxRecDepth 20000 in
theorem q753 : (Jvm.Cond.selects "Nominator" ({ cls := "Nominator", name := "withdraw", desc := "(I)I" } : Jvm.MethodName) ({ cls := "Nominator", name := "withdraw", desc := "(I)I" } : Jvm.MethodName)) ∈ gw := gw_in (List.mem_of_getElem? (i := 753) (by rfl)) (by rfl)
set_option maxRecDepth 20000 in
theorem q754 : (Jvm.Cond.code ({ cls := "Nominator", name := "withdraw", desc := "(I)I" } : Jvm.MethodName) prog_1_method_16_code (3 : Nat) (Option.some Jvm.ClassFile.FieldType.int)) ∈ gw := gw_in (List.mem_of_getElem? (i := 754) (by rfl)) (by rfl)
set_option maxRecDepth 20000 in
theorem q755 : (Jvm.Cond.methodLink "Nominator" (154 : Nat) ({ cls := "Nominator", name := "needNotRejected", desc := "(I)V" } : Jvm.MethodName)) ∈ gw := gw_in (List.mem_of_getElem? (i := 755) (by rfl)) (by rfl)
set_option maxRecDepth 20000 in
theorem q757 : (Jvm.Cond.instanceMethod ({ cls := "Nominator", name := "needNotRejected", desc := "(I)V" } : Jvm.MethodName)) ∈ gw := gw_in (List.mem_of_getElem? (i := 757) (by rfl)) (by rfl)
set_option maxRecDepth 20000 in
theorem q758 : (Jvm.Cond.code ({ cls := "Nominator", name := "needNotRejected", desc := "(I)V" } : Jvm.MethodName) prog_1_method_53_code (2 : Nat) (Option.none : Option Jvm.ClassFile.FieldType)) ∈ gw := gw_in (List.mem_of_getElem? (i := 758) (by rfl)) (by rfl)
set_option maxRecDepth 20000 in
theorem q759 : (Jvm.Cond.methodLink "Nominator" (372 : Nat) ({ cls := "Nominator$Office", name := "isRejected", desc := "(I)Z" } : Jvm.MethodName)) ∈ gw := gw_in (List.mem_of_getElem? (i := 759) (by rfl)) (by rfl)
set_option maxRecDepth 20000 in
theorem q761 : (Jvm.Cond.methodLink "Nominator" (157 : Nat) ({ cls := "Nominator$Calendar", name := "allowsChanges", desc := "()Z" } : Jvm.MethodName)) ∈ gw := gw_in (List.mem_of_getElem? (i := 761) (by rfl)) (by rfl)
set_option maxRecDepth 20000 in
theorem q763 : (Jvm.Cond.methodLink "Nominator" (162 : Nat) ({ cls := "Nominator$Office", name := "countOfOthers", desc := "(I)I" } : Jvm.MethodName)) ∈ gw := gw_in (List.mem_of_getElem? (i := 763) (by rfl)) (by rfl)
set_option maxRecDepth 20000 in
theorem q764 : (Jvm.Cond.instanceMethod ({ cls := "Nominator$Office", name := "countOfOthers", desc := "(I)I" } : Jvm.MethodName)) ∈ gw := gw_in (List.mem_of_getElem? (i := 764) (by rfl)) (by rfl)
set_option maxRecDepth 20000 in
theorem q765 : (Jvm.Cond.selects "Nominator$Office" ({ cls := "Nominator$Office", name := "countOfOthers", desc := "(I)I" } : Jvm.MethodName) ({ cls := "Nominator$Office", name := "countOfOthers", desc := "(I)I" } : Jvm.MethodName)) ∈ gw := gw_in (List.mem_of_getElem? (i := 765) (by rfl)) (by rfl)
set_option maxRecDepth 20000 in
theorem q766 : (Jvm.Cond.code ({ cls := "Nominator$Office", name := "countOfOthers", desc := "(I)I" } : Jvm.MethodName) prog_6_method_16_code (4 : Nat) (Option.some Jvm.ClassFile.FieldType.int)) ∈ gw := gw_in (List.mem_of_getElem? (i := 766) (by rfl)) (by rfl)
set_option maxRecDepth 20000 in
theorem q767 : (Jvm.Cond.methodLink "NominatorLaw" (208 : Nat) ({ cls := "NominatorLaw", name := "die", desc := "(LNominator;I[J)I" } : Jvm.MethodName)) ∈ gw := gw_in (List.mem_of_getElem? (i := 767) (by rfl)) (by rfl)
set_option maxRecDepth 20000 in
theorem q768 : (Jvm.Cond.static ({ cls := "NominatorLaw", name := "die", desc := "(LNominator;I[J)I" } : Jvm.MethodName)) ∈ gw := gw_in (List.mem_of_getElem? (i := 768) (by rfl)) (by rfl)
set_option maxRecDepth 20000 in
theorem q769 : (Jvm.Cond.codeWith ({ cls := "NominatorLaw", name := "die", desc := "(LNominator;I[J)I" } : Jvm.MethodName) method_16_code (4 : Nat) (Option.some Jvm.ClassFile.FieldType.int) [((0 : Nat), (16 : Nat), (19 : Nat), (28 : Nat)), ((0 : Nat), (16 : Nat), (22 : Nat), (15 : Nat))]) ∈ gw := gw_in (List.mem_of_getElem? (i := 769) (by rfl)) (by rfl)
set_option maxRecDepth 20000 in
theorem q770 : (Jvm.Cond.methodLink "NominatorLaw" (61 : Nat) ({ cls := "Nominator", name := "die", desc := "(I)Z" } : Jvm.MethodName)) ∈ gw := gw_in (List.mem_of_getElem? (i := 770) (by rfl)) (by rfl)
set_option maxRecDepth 20000 in
theorem q771 : (Jvm.Cond.instanceMethod ({ cls := "Nominator", name := "die", desc := "(I)Z" } : Jvm.MethodName)) ∈ gw := gw_in (List.mem_of_getElem? (i := 771) (by rfl)) (by rfl)
set_option maxRecDepth 20000 in
theorem q772 : (Jvm.Cond.selects "Nominator" ({ cls := "Nominator", name := "die", desc := "(I)Z" } : Jvm.MethodName) ({ cls := "Nominator", name := "die", desc := "(I)Z" } : Jvm.MethodName)) ∈ gw := gw_in (List.mem_of_getElem? (i := 772) (by rfl)) (by rfl)
set_option maxRecDepth 20000 in
theorem q773 : (Jvm.Cond.code ({ cls := "Nominator", name := "die", desc := "(I)Z" } : Jvm.MethodName) prog_1_method_17_code (2 : Nat) (Option.some Jvm.ClassFile.FieldType.boolean)) ∈ gw := gw_in (List.mem_of_getElem? (i := 773) (by rfl)) (by rfl)
set_option maxRecDepth 20000 in
theorem q775 : (Jvm.Cond.methodLink "Nominator" (171 : Nat) ({ cls := "Nominator$Calendar", name := "isPollingOpen", desc := "()Z" } : Jvm.MethodName)) ∈ gw := gw_in (List.mem_of_getElem? (i := 775) (by rfl)) (by rfl)
set_option maxRecDepth 20000 in
theorem q776 : (Jvm.Cond.instanceMethod ({ cls := "Nominator$Calendar", name := "isPollingOpen", desc := "()Z" } : Jvm.MethodName)) ∈ gw := gw_in (List.mem_of_getElem? (i := 776) (by rfl)) (by rfl)
set_option maxRecDepth 20000 in
theorem q777 : (Jvm.Cond.selects "Nominator$Calendar" ({ cls := "Nominator$Calendar", name := "isPollingOpen", desc := "()Z" } : Jvm.MethodName) ({ cls := "Nominator$Calendar", name := "isPollingOpen", desc := "()Z" } : Jvm.MethodName)) ∈ gw := gw_in (List.mem_of_getElem? (i := 777) (by rfl)) (by rfl)
set_option maxRecDepth 20000 in
theorem q778 : (Jvm.Cond.code ({ cls := "Nominator$Calendar", name := "isPollingOpen", desc := "()Z" } : Jvm.MethodName) prog_3_method_6_code (1 : Nat) (Option.some Jvm.ClassFile.FieldType.boolean)) ∈ gw := gw_in (List.mem_of_getElem? (i := 778) (by rfl)) (by rfl)
set_option maxRecDepth 20000 in
theorem q780 : (Jvm.Cond.methodLink "Nominator" (176 : Nat) ({ cls := "Nominator$Office", name := "canReplace", desc := "(I)Z" } : Jvm.MethodName)) ∈ gw := gw_in (List.mem_of_getElem? (i := 780) (by rfl)) (by rfl)
set_option maxRecDepth 20000 in
theorem q781 : (Jvm.Cond.methodLink "NominatorLaw" (211 : Nat) ({ cls := "NominatorLaw", name := "replace", desc := "(LNominator;ICCCC[J)I" } : Jvm.MethodName)) ∈ gw := gw_in (List.mem_of_getElem? (i := 781) (by rfl)) (by rfl)
set_option maxRecDepth 20000 in
theorem q782 : (Jvm.Cond.static ({ cls := "NominatorLaw", name := "replace", desc := "(LNominator;ICCCC[J)I" } : Jvm.MethodName)) ∈ gw := gw_in (List.mem_of_getElem? (i := 782) (by rfl)) (by rfl)
set_option maxRecDepth 20000 in
theorem q783 : (Jvm.Cond.codeWith ({ cls := "NominatorLaw", name := "replace", desc := "(LNominator;ICCCC[J)I" } : Jvm.MethodName) method_17_code (8 : Nat) (Option.some Jvm.ClassFile.FieldType.int) [((0 : Nat), (16 : Nat), (19 : Nat), (28 : Nat)), ((0 : Nat), (16 : Nat), (23 : Nat), (13 : Nat)), ((0 : Nat), (16 : Nat), (27 : Nat), (15 : Nat))]) ∈ gw := gw_in (List.mem_of_getElem? (i := 783) (by rfl)) (by rfl)
set_option maxRecDepth 20000 in
theorem q784 : (Jvm.Cond.methodLink "NominatorLaw" (64 : Nat) ({ cls := "Nominator", name := "replace", desc := "(ICCCC)I" } : Jvm.MethodName)) ∈ gw := gw_in (List.mem_of_getElem? (i := 784) (by rfl)) (by rfl)
set_option maxRecDepth 20000 in
theorem q785 : (Jvm.Cond.instanceMethod ({ cls := "Nominator", name := "replace", desc := "(ICCCC)I" } : Jvm.MethodName)) ∈ gw := gw_in (List.mem_of_getElem? (i := 785) (by rfl)) (by rfl)
set_option maxRecDepth 20000 in
theorem q786 : (Jvm.Cond.selects "Nominator" ({ cls := "Nominator", name := "replace", desc := "(ICCCC)I" } : Jvm.MethodName) ({ cls := "Nominator", name := "replace", desc := "(ICCCC)I" } : Jvm.MethodName)) ∈ gw := gw_in (List.mem_of_getElem? (i := 786) (by rfl)) (by rfl)
set_option maxRecDepth 20000 in
theorem q787 : (Jvm.Cond.code ({ cls := "Nominator", name := "replace", desc := "(ICCCC)I" } : Jvm.MethodName) prog_1_method_18_code (6 : Nat) (Option.some Jvm.ClassFile.FieldType.int)) ∈ gw := gw_in (List.mem_of_getElem? (i := 787) (by rfl)) (by rfl)
set_option maxRecDepth 20000 in
theorem q789 : (Jvm.Cond.methodLink "NominatorLaw" (215 : Nat) ({ cls := "NominatorLaw", name := "isReplaceable", desc := "(LNominator;I[J)I" } : Jvm.MethodName)) ∈ gw := gw_in (List.mem_of_getElem? (i := 789) (by rfl)) (by rfl)
set_option maxRecDepth 20000 in
theorem q790 : (Jvm.Cond.static ({ cls := "NominatorLaw", name := "isReplaceable", desc := "(LNominator;I[J)I" } : Jvm.MethodName)) ∈ gw := gw_in (List.mem_of_getElem? (i := 790) (by rfl)) (by rfl)
set_option maxRecDepth 20000 in
theorem q791 : (Jvm.Cond.codeWith ({ cls := "NominatorLaw", name := "isReplaceable", desc := "(LNominator;I[J)I" } : Jvm.MethodName) method_18_code (4 : Nat) (Option.some Jvm.ClassFile.FieldType.int) [((0 : Nat), (16 : Nat), (19 : Nat), (28 : Nat))]) ∈ gw := gw_in (List.mem_of_getElem? (i := 791) (by rfl)) (by rfl)
set_option maxRecDepth 20000 in
theorem q792 : (Jvm.Cond.methodLink "NominatorLaw" (68 : Nat) ({ cls := "Nominator", name := "isReplaceable", desc := "(I)Z" } : Jvm.MethodName)) ∈ gw := gw_in (List.mem_of_getElem? (i := 792) (by rfl)) (by rfl)
set_option maxRecDepth 20000 in
theorem q793 : (Jvm.Cond.instanceMethod ({ cls := "Nominator", name := "isReplaceable", desc := "(I)Z" } : Jvm.MethodName)) ∈ gw := gw_in (List.mem_of_getElem? (i := 793) (by rfl)) (by rfl)
set_option maxRecDepth 20000 in
theorem q794 : (Jvm.Cond.selects "Nominator" ({ cls := "Nominator", name := "isReplaceable", desc := "(I)Z" } : Jvm.MethodName) ({ cls := "Nominator", name := "isReplaceable", desc := "(I)Z" } : Jvm.MethodName)) ∈ gw := gw_in (List.mem_of_getElem? (i := 794) (by rfl)) (by rfl)
set_option maxRecDepth 20000 in
theorem q795 : (Jvm.Cond.code ({ cls := "Nominator", name := "isReplaceable", desc := "(I)Z" } : Jvm.MethodName) prog_1_method_19_code (2 : Nat) (Option.some Jvm.ClassFile.FieldType.boolean)) ∈ gw := gw_in (List.mem_of_getElem? (i := 795) (by rfl)) (by rfl)
set_option maxRecDepth 20000 in
theorem q796 : (Jvm.Cond.methodLink "NominatorLaw" (218 : Nat) ({ cls := "NominatorLaw", name := "surname", desc := "(LNominator;II[J)I" } : Jvm.MethodName)) ∈ gw := gw_in (List.mem_of_getElem? (i := 796) (by rfl)) (by rfl)
set_option maxRecDepth 20000 in
theorem q797 : (Jvm.Cond.static ({ cls := "NominatorLaw", name := "surname", desc := "(LNominator;II[J)I" } : Jvm.MethodName)) ∈ gw := gw_in (List.mem_of_getElem? (i := 797) (by rfl)) (by rfl)
set_option maxRecDepth 20000 in
theorem q798 : (Jvm.Cond.codeWith ({ cls := "NominatorLaw", name := "surname", desc := "(LNominator;II[J)I" } : Jvm.MethodName) method_19_code (5 : Nat) (Option.some Jvm.ClassFile.FieldType.int) [((0 : Nat), (10 : Nat), (13 : Nat), (28 : Nat))]) ∈ gw := gw_in (List.mem_of_getElem? (i := 798) (by rfl)) (by rfl)
set_option maxRecDepth 20000 in
theorem q799 : (Jvm.Cond.methodLink "NominatorLaw" (71 : Nat) ({ cls := "Nominator", name := "surname", desc := "(II)C" } : Jvm.MethodName)) ∈ gw := gw_in (List.mem_of_getElem? (i := 799) (by rfl)) (by rfl)
set_option maxRecDepth 20000 in
theorem q800 : (Jvm.Cond.instanceMethod ({ cls := "Nominator", name := "surname", desc := "(II)C" } : Jvm.MethodName)) ∈ gw := gw_in (List.mem_of_getElem? (i := 800) (by rfl)) (by rfl)
set_option maxRecDepth 20000 in
theorem q801 : (Jvm.Cond.selects "Nominator" ({ cls := "Nominator", name := "surname", desc := "(II)C" } : Jvm.MethodName) ({ cls := "Nominator", name := "surname", desc := "(II)C" } : Jvm.MethodName)) ∈ gw := gw_in (List.mem_of_getElem? (i := 801) (by rfl)) (by rfl)
set_option maxRecDepth 20000 in
theorem q802 : (Jvm.Cond.code ({ cls := "Nominator", name := "surname", desc := "(II)C" } : Jvm.MethodName) prog_1_method_20_code (3 : Nat) (Option.some Jvm.ClassFile.FieldType.char)) ∈ gw := gw_in (List.mem_of_getElem? (i := 802) (by rfl)) (by rfl)
set_option maxRecDepth 20000 in
theorem q804 : (Jvm.Cond.methodLink "Nominator" (193 : Nat) ({ cls := "Nominator", name := "characterOf", desc := "(II)C" } : Jvm.MethodName)) ∈ gw := gw_in (List.mem_of_getElem? (i := 804) (by rfl)) (by rfl)
set_option maxRecDepth 20000 in
theorem q805 : (Jvm.Cond.static ({ cls := "Nominator", name := "characterOf", desc := "(II)C" } : Jvm.MethodName)) ∈ gw := gw_in (List.mem_of_getElem? (i := 805) (by rfl)) (by rfl)
set_option maxRecDepth 20000 in
theorem q806 : (Jvm.Cond.code ({ cls := "Nominator", name := "characterOf", desc := "(II)C" } : Jvm.MethodName) prog_1_method_61_code (2 : Nat) (Option.some Jvm.ClassFile.FieldType.char)) ∈ gw := gw_in (List.mem_of_getElem? (i := 806) (by rfl)) (by rfl)
set_option maxRecDepth 20000 in
theorem q807 : (Jvm.Cond.methodLink "NominatorLaw" (225 : Nat) ({ cls := "NominatorLaw", name := "counted", desc := "(LNominator;I[J)I" } : Jvm.MethodName)) ∈ gw := gw_in (List.mem_of_getElem? (i := 807) (by rfl)) (by rfl)
set_option maxRecDepth 20000 in
theorem q808 : (Jvm.Cond.static ({ cls := "NominatorLaw", name := "counted", desc := "(LNominator;I[J)I" } : Jvm.MethodName)) ∈ gw := gw_in (List.mem_of_getElem? (i := 808) (by rfl)) (by rfl)
set_option maxRecDepth 20000 in
theorem q809 : (Jvm.Cond.codeWith ({ cls := "NominatorLaw", name := "counted", desc := "(LNominator;I[J)I" } : Jvm.MethodName) method_20_code (4 : Nat) (Option.some Jvm.ClassFile.FieldType.int) [((0 : Nat), (9 : Nat), (12 : Nat), (28 : Nat))]) ∈ gw := gw_in (List.mem_of_getElem? (i := 809) (by rfl)) (by rfl)
set_option maxRecDepth 20000 in
theorem q810 : (Jvm.Cond.methodLink "NominatorLaw" (75 : Nat) ({ cls := "Nominator", name := "counted", desc := "(I)I" } : Jvm.MethodName)) ∈ gw := gw_in (List.mem_of_getElem? (i := 810) (by rfl)) (by rfl)
set_option maxRecDepth 20000 in
theorem q811 : (Jvm.Cond.instanceMethod ({ cls := "Nominator", name := "counted", desc := "(I)I" } : Jvm.MethodName)) ∈ gw := gw_in (List.mem_of_getElem? (i := 811) (by rfl)) (by rfl)
set_option maxRecDepth 20000 in
theorem q812 : (Jvm.Cond.selects "Nominator" ({ cls := "Nominator", name := "counted", desc := "(I)I" } : Jvm.MethodName) ({ cls := "Nominator", name := "counted", desc := "(I)I" } : Jvm.MethodName)) ∈ gw := gw_in (List.mem_of_getElem? (i := 812) (by rfl)) (by rfl)
set_option maxRecDepth 20000 in
theorem q813 : (Jvm.Cond.code ({ cls := "Nominator", name := "counted", desc := "(I)I" } : Jvm.MethodName) prog_1_method_22_code (2 : Nat) (Option.some Jvm.ClassFile.FieldType.int)) ∈ gw := gw_in (List.mem_of_getElem? (i := 813) (by rfl)) (by rfl)
set_option maxRecDepth 20000 in
theorem q814 : (Jvm.Cond.methodLink "NominatorLaw" (228 : Nat) ({ cls := "NominatorLaw", name := "signatureResult", desc := "(LNominator;I[J)I" } : Jvm.MethodName)) ∈ gw := gw_in (List.mem_of_getElem? (i := 814) (by rfl)) (by rfl)
set_option maxRecDepth 20000 in
theorem q815 : (Jvm.Cond.static ({ cls := "NominatorLaw", name := "signatureResult", desc := "(LNominator;I[J)I" } : Jvm.MethodName)) ∈ gw := gw_in (List.mem_of_getElem? (i := 815) (by rfl)) (by rfl)
set_option maxRecDepth 20000 in
theorem q816 : (Jvm.Cond.codeWith ({ cls := "NominatorLaw", name := "signatureResult", desc := "(LNominator;I[J)I" } : Jvm.MethodName) method_21_code (4 : Nat) (Option.some Jvm.ClassFile.FieldType.int) [((0 : Nat), (9 : Nat), (12 : Nat), (28 : Nat))]) ∈ gw := gw_in (List.mem_of_getElem? (i := 816) (by rfl)) (by rfl)
set_option maxRecDepth 20000 in
theorem q817 : (Jvm.Cond.methodLink "NominatorLaw" (78 : Nat) ({ cls := "Nominator", name := "signatureResult", desc := "(I)I" } : Jvm.MethodName)) ∈ gw := gw_in (List.mem_of_getElem? (i := 817) (by rfl)) (by rfl)
set_option maxRecDepth 20000 in
theorem q818 : (Jvm.Cond.instanceMethod ({ cls := "Nominator", name := "signatureResult", desc := "(I)I" } : Jvm.MethodName)) ∈ gw := gw_in (List.mem_of_getElem? (i := 818) (by rfl)) (by rfl)
set_option maxRecDepth 20000 in
theorem q819 : (Jvm.Cond.selects "Nominator" ({ cls := "Nominator", name := "signatureResult", desc := "(I)I" } : Jvm.MethodName) ({ cls := "Nominator", name := "signatureResult", desc := "(I)I" } : Jvm.MethodName)) ∈ gw := gw_in (List.mem_of_getElem? (i := 819) (by rfl)) (by rfl)
set_option maxRecDepth 20000 in
theorem q820 : (Jvm.Cond.code ({ cls := "Nominator", name := "signatureResult", desc := "(I)I" } : Jvm.MethodName) prog_1_method_23_code (2 : Nat) (Option.some Jvm.ClassFile.FieldType.int)) ∈ gw := gw_in (List.mem_of_getElem? (i := 820) (by rfl)) (by rfl)
set_option maxRecDepth 20000 in
theorem q822 : (Jvm.Cond.methodLink "NominatorLaw" (231 : Nat) ({ cls := "NominatorLaw", name := "wouldCount", desc := "(LNominator;II[J)I" } : Jvm.MethodName)) ∈ gw := gw_in (List.mem_of_getElem? (i := 822) (by rfl)) (by rfl)
set_option maxRecDepth 20000 in
theorem q823 : (Jvm.Cond.static ({ cls := "NominatorLaw", name := "wouldCount", desc := "(LNominator;II[J)I" } : Jvm.MethodName)) ∈ gw := gw_in (List.mem_of_getElem? (i := 823) (by rfl)) (by rfl)
set_option maxRecDepth 20000 in
theorem q824 : (Jvm.Cond.codeWith ({ cls := "NominatorLaw", name := "wouldCount", desc := "(LNominator;II[J)I" } : Jvm.MethodName) method_22_code (5 : Nat) (Option.some Jvm.ClassFile.FieldType.int) [((0 : Nat), (17 : Nat), (20 : Nat), (28 : Nat)), ((0 : Nat), (17 : Nat), (24 : Nat), (15 : Nat))]) ∈ gw := gw_in (List.mem_of_getElem? (i := 824) (by rfl)) (by rfl)
set_option maxRecDepth 20000 in
theorem q825 : (Jvm.Cond.methodLink "NominatorLaw" (81 : Nat) ({ cls := "Nominator", name := "wouldCount", desc := "(II)Z" } : Jvm.MethodName)) ∈ gw := gw_in (List.mem_of_getElem? (i := 825) (by rfl)) (by rfl)
set_option maxRecDepth 20000 in
theorem q826 : (Jvm.Cond.instanceMethod ({ cls := "Nominator", name := "wouldCount", desc := "(II)Z" } : Jvm.MethodName)) ∈ gw := gw_in (List.mem_of_getElem? (i := 826) (by rfl)) (by rfl)
set_option maxRecDepth 20000 in
theorem q827 : (Jvm.Cond.selects "Nominator" ({ cls := "Nominator", name := "wouldCount", desc := "(II)Z" } : Jvm.MethodName) ({ cls := "Nominator", name := "wouldCount", desc := "(II)Z" } : Jvm.MethodName)) ∈ gw := gw_in (List.mem_of_getElem? (i := 827) (by rfl)) (by rfl)
set_option maxRecDepth 20000 in
theorem q828 : (Jvm.Cond.code ({ cls := "Nominator", name := "wouldCount", desc := "(II)Z" } : Jvm.MethodName) prog_1_method_24_code (3 : Nat) (Option.some Jvm.ClassFile.FieldType.boolean)) ∈ gw := gw_in (List.mem_of_getElem? (i := 828) (by rfl)) (by rfl)
set_option maxRecDepth 20000 in
theorem q829 : (Jvm.Cond.methodLink "Nominator" (211 : Nat) ({ cls := "Nominator$Office", name := "wouldSupport", desc := "(II)Z" } : Jvm.MethodName)) ∈ gw := gw_in (List.mem_of_getElem? (i := 829) (by rfl)) (by rfl)
set_option maxRecDepth 20000 in
theorem q830 : (Jvm.Cond.instanceMethod ({ cls := "Nominator$Office", name := "wouldSupport", desc := "(II)Z" } : Jvm.MethodName)) ∈ gw := gw_in (List.mem_of_getElem? (i := 830) (by rfl)) (by rfl)
set_option maxRecDepth 20000 in
theorem q831 : (Jvm.Cond.selects "Nominator$Office" ({ cls := "Nominator$Office", name := "wouldSupport", desc := "(II)Z" } : Jvm.MethodName) ({ cls := "Nominator$Office", name := "wouldSupport", desc := "(II)Z" } : Jvm.MethodName)) ∈ gw := gw_in (List.mem_of_getElem? (i := 831) (by rfl)) (by rfl)
set_option maxRecDepth 20000 in
theorem q832 : (Jvm.Cond.code ({ cls := "Nominator$Office", name := "wouldSupport", desc := "(II)Z" } : Jvm.MethodName) prog_6_method_17_code (4 : Nat) (Option.some Jvm.ClassFile.FieldType.boolean)) ∈ gw := gw_in (List.mem_of_getElem? (i := 832) (by rfl)) (by rfl)
set_option maxRecDepth 20000 in
theorem q833 : (Jvm.Cond.methodLink "NominatorLaw" (234 : Nat) ({ cls := "NominatorLaw", name := "paperOf", desc := "(LNominator;I[J)I" } : Jvm.MethodName)) ∈ gw := gw_in (List.mem_of_getElem? (i := 833) (by rfl)) (by rfl)
set_option maxRecDepth 20000 in
theorem q834 : (Jvm.Cond.static ({ cls := "NominatorLaw", name := "paperOf", desc := "(LNominator;I[J)I" } : Jvm.MethodName)) ∈ gw := gw_in (List.mem_of_getElem? (i := 834) (by rfl)) (by rfl)
set_option maxRecDepth 20000 in
theorem q835 : (Jvm.Cond.codeWith ({ cls := "NominatorLaw", name := "paperOf", desc := "(LNominator;I[J)I" } : Jvm.MethodName) method_23_code (4 : Nat) (Option.some Jvm.ClassFile.FieldType.int) [((0 : Nat), (9 : Nat), (12 : Nat), (28 : Nat)), ((0 : Nat), (9 : Nat), (15 : Nat), (88 : Nat))]) ∈ gw := gw_in (List.mem_of_getElem? (i := 835) (by rfl)) (by rfl)
set_option maxRecDepth 20000 in
theorem q836 : (Jvm.Cond.classLink "NominatorLaw" (88 : Nat) "java/util/NoSuchElementException") ∈ gw := gw_in (List.mem_of_getElem? (i := 836) (by rfl)) (by rfl)
set_option maxRecDepth 20000 in
theorem q837 : (Jvm.Cond.methodLink "NominatorLaw" (85 : Nat) ({ cls := "Nominator", name := "paperOf", desc := "(I)I" } : Jvm.MethodName)) ∈ gw := gw_in (List.mem_of_getElem? (i := 837) (by rfl)) (by rfl)
set_option maxRecDepth 20000 in
theorem q838 : (Jvm.Cond.instanceMethod ({ cls := "Nominator", name := "paperOf", desc := "(I)I" } : Jvm.MethodName)) ∈ gw := gw_in (List.mem_of_getElem? (i := 838) (by rfl)) (by rfl)
set_option maxRecDepth 20000 in
theorem q839 : (Jvm.Cond.selects "Nominator" ({ cls := "Nominator", name := "paperOf", desc := "(I)I" } : Jvm.MethodName) ({ cls := "Nominator", name := "paperOf", desc := "(I)I" } : Jvm.MethodName)) ∈ gw := gw_in (List.mem_of_getElem? (i := 839) (by rfl)) (by rfl)
set_option maxRecDepth 20000 in
theorem q840 : (Jvm.Cond.code ({ cls := "Nominator", name := "paperOf", desc := "(I)I" } : Jvm.MethodName) prog_1_method_25_code (3 : Nat) (Option.some Jvm.ClassFile.FieldType.int)) ∈ gw := gw_in (List.mem_of_getElem? (i := 840) (by rfl)) (by rfl)
set_option maxRecDepth 20000 in
theorem q841 : (Jvm.Cond.methodLink "Nominator" (215 : Nat) ({ cls := "Nominator$Office", name := "supportedBy", desc := "(I)I" } : Jvm.MethodName)) ∈ gw := gw_in (List.mem_of_getElem? (i := 841) (by rfl)) (by rfl)
set_option maxRecDepth 20000 in
theorem q842 : (Jvm.Cond.instanceMethod ({ cls := "Nominator$Office", name := "supportedBy", desc := "(I)I" } : Jvm.MethodName)) ∈ gw := gw_in (List.mem_of_getElem? (i := 842) (by rfl)) (by rfl)
set_option maxRecDepth 20000 in
theorem q843 : (Jvm.Cond.selects "Nominator$Office" ({ cls := "Nominator$Office", name := "supportedBy", desc := "(I)I" } : Jvm.MethodName) ({ cls := "Nominator$Office", name := "supportedBy", desc := "(I)I" } : Jvm.MethodName)) ∈ gw := gw_in (List.mem_of_getElem? (i := 843) (by rfl)) (by rfl)
set_option maxRecDepth 20000 in
theorem q844 : (Jvm.Cond.code ({ cls := "Nominator$Office", name := "supportedBy", desc := "(I)I" } : Jvm.MethodName) prog_6_method_18_code (3 : Nat) (Option.some Jvm.ClassFile.FieldType.int)) ∈ gw := gw_in (List.mem_of_getElem? (i := 844) (by rfl)) (by rfl)
set_option maxRecDepth 20000 in
theorem q845 : (Jvm.Cond.classLink "Nominator" (218 : Nat) "java/util/NoSuchElementException") ∈ gw := gw_in (List.mem_of_getElem? (i := 845) (by rfl)) (by rfl)
set_option maxRecDepth 20000 in
theorem q846 : (Jvm.Cond.instantiable "java/util/NoSuchElementException" (6 : Nat)) ∈ gw := gw_in (List.mem_of_getElem? (i := 846) (by rfl)) (by rfl)
set_option maxRecDepth 20000 in
theorem q848 : (Jvm.Cond.selects "java/util/NoSuchElementException" ({ cls := "java/lang/Throwable", name := "fillInStackTrace", desc := "(I)Ljava/lang/Throwable;" } : Jvm.MethodName) ({ cls := "java/lang/Throwable", name := "fillInStackTrace", desc := "(I)Ljava/lang/Throwable;" } : Jvm.MethodName)) ∈ gw := gw_in (List.mem_of_getElem? (i := 848) (by rfl)) (by rfl)
set_option maxRecDepth 20000 in
theorem q849 : (Jvm.Cond.lays "java/util/NoSuchElementException" "java/lang/Throwable" "cause" "Ljava/lang/Throwable;") ∈ gw := gw_in (List.mem_of_getElem? (i := 849) (by rfl)) (by rfl)
set_option maxRecDepth 20000 in
theorem q850 : (Jvm.Cond.lays "java/util/NoSuchElementException" "java/lang/Throwable" "stackTrace" "[Ljava/lang/StackTraceElement;") ∈ gw := gw_in (List.mem_of_getElem? (i := 850) (by rfl)) (by rfl)
set_option maxRecDepth 20000 in
theorem q851 : (Jvm.Cond.lays "java/util/NoSuchElementException" "java/lang/Throwable" "suppressedExceptions" "Ljava/util/List;") ∈ gw := gw_in (List.mem_of_getElem? (i := 851) (by rfl)) (by rfl)
set_option maxRecDepth 20000 in
theorem q852 : (Jvm.Cond.lays "java/util/NoSuchElementException" "java/lang/Throwable" "detailMessage" "Ljava/lang/String;") ∈ gw := gw_in (List.mem_of_getElem? (i := 852) (by rfl)) (by rfl)
set_option maxRecDepth 20000 in
theorem q853 : (Jvm.Cond.lays "java/util/NoSuchElementException" "java/lang/Throwable" "backtrace" "Ljava/lang/Object;") ∈ gw := gw_in (List.mem_of_getElem? (i := 853) (by rfl)) (by rfl)
set_option maxRecDepth 20000 in
theorem q855 : (Jvm.Cond.methodLink "Nominator" (222 : Nat) ({ cls := "java/util/NoSuchElementException", name := "<init>", desc := "(Ljava/lang/String;)V" } : Jvm.MethodName)) ∈ gw := gw_in (List.mem_of_getElem? (i := 855) (by rfl)) (by rfl)
set_option maxRecDepth 20000 in
theorem q856 : (Jvm.Cond.instanceMethod ({ cls := "java/util/NoSuchElementException", name := "<init>", desc := "(Ljava/lang/String;)V" } : Jvm.MethodName)) ∈ gw := gw_in (List.mem_of_getElem? (i := 856) (by rfl)) (by rfl)
set_option maxRecDepth 20000 in
theorem q857 : (Jvm.Cond.code ({ cls := "java/util/NoSuchElementException", name := "<init>", desc := "(Ljava/lang/String;)V" } : Jvm.MethodName) prog_26_method_4_code (2 : Nat) (Option.none : Option Jvm.ClassFile.FieldType)) ∈ gw := gw_in (List.mem_of_getElem? (i := 857) (by rfl)) (by rfl)
set_option maxRecDepth 20000 in
theorem q858 : (Jvm.Cond.methodLink "java/util/NoSuchElementException" (13 : Nat) ({ cls := "java/lang/RuntimeException", name := "<init>", desc := "(Ljava/lang/String;)V" } : Jvm.MethodName)) ∈ gw := gw_in (List.mem_of_getElem? (i := 858) (by rfl)) (by rfl)
set_option maxRecDepth 20000 in
theorem q859 : (Jvm.Cond.lays "java/util/NoSuchElementException" "java/lang/Throwable" "depth" "I") ∈ gw := gw_in (List.mem_of_getElem? (i := 859) (by rfl)) (by rfl)
set_option maxRecDepth 20000 in
theorem q861 : (Jvm.Cond.methodLink "NominatorLaw" (237 : Nat) ({ cls := "NominatorLaw", name := "gain", desc := "(LNominator;II[J)I" } : Jvm.MethodName)) ∈ gw := gw_in (List.mem_of_getElem? (i := 861) (by rfl)) (by rfl)
set_option maxRecDepth 20000 in
theorem q862 : (Jvm.Cond.static ({ cls := "NominatorLaw", name := "gain", desc := "(LNominator;II[J)I" } : Jvm.MethodName)) ∈ gw := gw_in (List.mem_of_getElem? (i := 862) (by rfl)) (by rfl)
set_option maxRecDepth 20000 in
theorem q863 : (Jvm.Cond.codeWith ({ cls := "NominatorLaw", name := "gain", desc := "(LNominator;II[J)I" } : Jvm.MethodName) method_24_code (5 : Nat) (Option.some Jvm.ClassFile.FieldType.int) [((0 : Nat), (10 : Nat), (13 : Nat), (28 : Nat)), ((0 : Nat), (10 : Nat), (17 : Nat), (13 : Nat)), ((0 : Nat), (10 : Nat), (21 : Nat), (15 : Nat))]) ∈ gw := gw_in (List.mem_of_getElem? (i := 863) (by rfl)) (by rfl)
set_option maxRecDepth 20000 in
theorem q864 : (Jvm.Cond.methodLink "NominatorLaw" (90 : Nat) ({ cls := "Nominator", name := "gain", desc := "(II)I" } : Jvm.MethodName)) ∈ gw := gw_in (List.mem_of_getElem? (i := 864) (by rfl)) (by rfl)
set_option maxRecDepth 20000 in
theorem q865 : (Jvm.Cond.instanceMethod ({ cls := "Nominator", name := "gain", desc := "(II)I" } : Jvm.MethodName)) ∈ gw := gw_in (List.mem_of_getElem? (i := 865) (by rfl)) (by rfl)
set_option maxRecDepth 20000 in
theorem q866 : (Jvm.Cond.selects "Nominator" ({ cls := "Nominator", name := "gain", desc := "(II)I" } : Jvm.MethodName) ({ cls := "Nominator", name := "gain", desc := "(II)I" } : Jvm.MethodName)) ∈ gw := gw_in (List.mem_of_getElem? (i := 866) (by rfl)) (by rfl)
set_option maxRecDepth 20000 in
theorem q867 : (Jvm.Cond.code ({ cls := "Nominator", name := "gain", desc := "(II)I" } : Jvm.MethodName) prog_1_method_26_code (3 : Nat) (Option.some Jvm.ClassFile.FieldType.int)) ∈ gw := gw_in (List.mem_of_getElem? (i := 867) (by rfl)) (by rfl)
set_option maxRecDepth 20000 in
theorem q869 : (Jvm.Cond.methodLink "Nominator" (225 : Nat) ({ cls := "Nominator$Office", name := "freedBy", desc := "(II)I" } : Jvm.MethodName)) ∈ gw := gw_in (List.mem_of_getElem? (i := 869) (by rfl)) (by rfl)
set_option maxRecDepth 20000 in
theorem q870 : (Jvm.Cond.instanceMethod ({ cls := "Nominator$Office", name := "freedBy", desc := "(II)I" } : Jvm.MethodName)) ∈ gw := gw_in (List.mem_of_getElem? (i := 870) (by rfl)) (by rfl)
set_option maxRecDepth 20000 in
theorem q871 : (Jvm.Cond.selects "Nominator$Office" ({ cls := "Nominator$Office", name := "freedBy", desc := "(II)I" } : Jvm.MethodName) ({ cls := "Nominator$Office", name := "freedBy", desc := "(II)I" } : Jvm.MethodName)) ∈ gw := gw_in (List.mem_of_getElem? (i := 871) (by rfl)) (by rfl)
set_option maxRecDepth 20000 in
theorem q872 : (Jvm.Cond.code ({ cls := "Nominator$Office", name := "freedBy", desc := "(II)I" } : Jvm.MethodName) prog_6_method_19_code (4 : Nat) (Option.some Jvm.ClassFile.FieldType.int)) ∈ gw := gw_in (List.mem_of_getElem? (i := 872) (by rfl)) (by rfl)
set_option maxRecDepth 20000 in
theorem q873 : (Jvm.Cond.methodLink "Nominator$Office" (205 : Nat) ({ cls := "Nominator$Office", name := "gatherBlockers", desc := "(I)I" } : Jvm.MethodName)) ∈ gw := gw_in (List.mem_of_getElem? (i := 873) (by rfl)) (by rfl)
set_option maxRecDepth 20000 in
theorem q875 : (Jvm.Cond.instanceMethod ({ cls := "Nominator$Office", name := "gatherBlockers", desc := "(I)I" } : Jvm.MethodName)) ∈ gw := gw_in (List.mem_of_getElem? (i := 875) (by rfl)) (by rfl)
set_option maxRecDepth 20000 in
theorem q876 : (Jvm.Cond.code ({ cls := "Nominator$Office", name := "gatherBlockers", desc := "(I)I" } : Jvm.MethodName) prog_6_method_21_code (5 : Nat) (Option.some Jvm.ClassFile.FieldType.int)) ∈ gw := gw_in (List.mem_of_getElem? (i := 876) (by rfl)) (by rfl)
set_option maxRecDepth 20000 in
theorem q877 : (Jvm.Cond.methodLink "Nominator$Office" (208 : Nat) ({ cls := "Nominator$Office", name := "countWithout", desc := "(II)I" } : Jvm.MethodName)) ∈ gw := gw_in (List.mem_of_getElem? (i := 877) (by rfl)) (by rfl)
set_option maxRecDepth 20000 in
theorem q879 : (Jvm.Cond.instanceMethod ({ cls := "Nominator$Office", name := "countWithout", desc := "(II)I" } : Jvm.MethodName)) ∈ gw := gw_in (List.mem_of_getElem? (i := 879) (by rfl)) (by rfl)
set_option maxRecDepth 20000 in
theorem q880 : (Jvm.Cond.code ({ cls := "Nominator$Office", name := "countWithout", desc := "(II)I" } : Jvm.MethodName) prog_6_method_23_code (5 : Nat) (Option.some Jvm.ClassFile.FieldType.int)) ∈ gw := gw_in (List.mem_of_getElem? (i := 880) (by rfl)) (by rfl)
set_option maxRecDepth 20000 in
theorem q881 : (Jvm.Cond.methodLink "NominatorLaw" (240 : Nat) ({ cls := "NominatorLaw", name := "fewestWithdrawals", desc := "(LNominator;I[J)I" } : Jvm.MethodName)) ∈ gw := gw_in (List.mem_of_getElem? (i := 881) (by rfl)) (by rfl)
set_option maxRecDepth 20000 in
theorem q882 : (Jvm.Cond.static ({ cls := "NominatorLaw", name := "fewestWithdrawals", desc := "(LNominator;I[J)I" } : Jvm.MethodName)) ∈ gw := gw_in (List.mem_of_getElem? (i := 882) (by rfl)) (by rfl)
set_option maxRecDepth 20000 in
theorem q883 : (Jvm.Cond.codeWith ({ cls := "NominatorLaw", name := "fewestWithdrawals", desc := "(LNominator;I[J)I" } : Jvm.MethodName) method_25_code (4 : Nat) (Option.some Jvm.ClassFile.FieldType.int) [((0 : Nat), (9 : Nat), (12 : Nat), (28 : Nat)), ((0 : Nat), (9 : Nat), (15 : Nat), (15 : Nat)), ((0 : Nat), (9 : Nat), (18 : Nat), (88 : Nat))]) ∈ gw := gw_in (List.mem_of_getElem? (i := 883) (by rfl)) (by rfl)
set_option maxRecDepth 20000 in
theorem q884 : (Jvm.Cond.methodLink "NominatorLaw" (93 : Nat) ({ cls := "Nominator", name := "fewestWithdrawals", desc := "(I)I" } : Jvm.MethodName)) ∈ gw := gw_in (List.mem_of_getElem? (i := 884) (by rfl)) (by rfl)
set_option maxRecDepth 20000 in
theorem q885 : (Jvm.Cond.instanceMethod ({ cls := "Nominator", name := "fewestWithdrawals", desc := "(I)I" } : Jvm.MethodName)) ∈ gw := gw_in (List.mem_of_getElem? (i := 885) (by rfl)) (by rfl)
set_option maxRecDepth 20000 in
theorem q886 : (Jvm.Cond.selects "Nominator" ({ cls := "Nominator", name := "fewestWithdrawals", desc := "(I)I" } : Jvm.MethodName) ({ cls := "Nominator", name := "fewestWithdrawals", desc := "(I)I" } : Jvm.MethodName)) ∈ gw := gw_in (List.mem_of_getElem? (i := 886) (by rfl)) (by rfl)
set_option maxRecDepth 20000 in
theorem q887 : (Jvm.Cond.code ({ cls := "Nominator", name := "fewestWithdrawals", desc := "(I)I" } : Jvm.MethodName) prog_1_method_27_code (3 : Nat) (Option.some Jvm.ClassFile.FieldType.int)) ∈ gw := gw_in (List.mem_of_getElem? (i := 887) (by rfl)) (by rfl)
set_option maxRecDepth 20000 in
theorem q888 : (Jvm.Cond.methodLink "Nominator" (229 : Nat) ({ cls := "Nominator$Office", name := "smallestSetFor", desc := "(I)I" } : Jvm.MethodName)) ∈ gw := gw_in (List.mem_of_getElem? (i := 888) (by rfl)) (by rfl)
set_option maxRecDepth 20000 in
theorem q889 : (Jvm.Cond.instanceMethod ({ cls := "Nominator$Office", name := "smallestSetFor", desc := "(I)I" } : Jvm.MethodName)) ∈ gw := gw_in (List.mem_of_getElem? (i := 889) (by rfl)) (by rfl)
set_option maxRecDepth 20000 in
theorem q890 : (Jvm.Cond.selects "Nominator$Office" ({ cls := "Nominator$Office", name := "smallestSetFor", desc := "(I)I" } : Jvm.MethodName) ({ cls := "Nominator$Office", name := "smallestSetFor", desc := "(I)I" } : Jvm.MethodName)) ∈ gw := gw_in (List.mem_of_getElem? (i := 890) (by rfl)) (by rfl)
set_option maxRecDepth 20000 in
theorem q891 : (Jvm.Cond.code ({ cls := "Nominator$Office", name := "smallestSetFor", desc := "(I)I" } : Jvm.MethodName) prog_6_method_20_code (8 : Nat) (Option.some Jvm.ClassFile.FieldType.int)) ∈ gw := gw_in (List.mem_of_getElem? (i := 891) (by rfl)) (by rfl)
set_option maxRecDepth 20000 in
theorem q892 : (Jvm.Cond.methodLink "Nominator$Office" (212 : Nat) ({ cls := "Nominator$Office", name := "allBlockers", desc := "(I)I" } : Jvm.MethodName)) ∈ gw := gw_in (List.mem_of_getElem? (i := 892) (by rfl)) (by rfl)
set_option maxRecDepth 20000 in
theorem q894 : (Jvm.Cond.instanceMethod ({ cls := "Nominator$Office", name := "allBlockers", desc := "(I)I" } : Jvm.MethodName)) ∈ gw := gw_in (List.mem_of_getElem? (i := 894) (by rfl)) (by rfl)
set_option maxRecDepth 20000 in
theorem q895 : (Jvm.Cond.code ({ cls := "Nominator$Office", name := "allBlockers", desc := "(I)I" } : Jvm.MethodName) prog_6_method_22_code (4 : Nat) (Option.some Jvm.ClassFile.FieldType.int)) ∈ gw := gw_in (List.mem_of_getElem? (i := 895) (by rfl)) (by rfl)
set_option maxRecDepth 20000 in
theorem q896 : (Jvm.Cond.methodLink "Nominator$Office" (215 : Nat) ({ cls := "java/lang/Integer", name := "bitCount", desc := "(I)I" } : Jvm.MethodName)) ∈ gw := gw_in (List.mem_of_getElem? (i := 896) (by rfl)) (by rfl)
set_option maxRecDepth 20000 in
theorem q897 : (Jvm.Cond.static ({ cls := "java/lang/Integer", name := "bitCount", desc := "(I)I" } : Jvm.MethodName)) ∈ gw := gw_in (List.mem_of_getElem? (i := 897) (by rfl)) (by rfl)
set_option maxRecDepth 20000 in
theorem q898 : (Jvm.Cond.code ({ cls := "java/lang/Integer", name := "bitCount", desc := "(I)I" } : Jvm.MethodName) prog_20_method_49_code (1 : Nat) (Option.some Jvm.ClassFile.FieldType.int)) ∈ gw := gw_in (List.mem_of_getElem? (i := 898) (by rfl)) (by rfl)
set_option maxRecDepth 20000 in
theorem q899 : (Jvm.Cond.constant "java/lang/Integer" (265 : Nat) (1431655765 : Int32)) ∈ gw := gw_in (List.mem_of_getElem? (i := 899) (by rfl)) (by rfl)
set_option maxRecDepth 20000 in
theorem q900 : (Jvm.Cond.constant "java/lang/Integer" (266 : Nat) (858993459 : Int32)) ∈ gw := gw_in (List.mem_of_getElem? (i := 900) (by rfl)) (by rfl)
set_option maxRecDepth 20000 in
theorem q901 : (Jvm.Cond.constant "java/lang/Integer" (267 : Nat) (252645135 : Int32)) ∈ gw := gw_in (List.mem_of_getElem? (i := 901) (by rfl)) (by rfl)
set_option maxRecDepth 20000 in
theorem q903 : (Jvm.Cond.methodLink "NominatorLaw" (247 : Nat) ({ cls := "NominatorLaw", name := "reason", desc := "(LNominator;I[J)I" } : Jvm.MethodName)) ∈ gw := gw_in (List.mem_of_getElem? (i := 903) (by rfl)) (by rfl)
set_option maxRecDepth 20000 in
theorem q904 : (Jvm.Cond.static ({ cls := "NominatorLaw", name := "reason", desc := "(LNominator;I[J)I" } : Jvm.MethodName)) ∈ gw := gw_in (List.mem_of_getElem? (i := 904) (by rfl)) (by rfl)
set_option maxRecDepth 20000 in
theorem q905 : (Jvm.Cond.codeWith ({ cls := "NominatorLaw", name := "reason", desc := "(LNominator;I[J)I" } : Jvm.MethodName) method_26_code (4 : Nat) (Option.some Jvm.ClassFile.FieldType.int) [((0 : Nat), (9 : Nat), (12 : Nat), (28 : Nat))]) ∈ gw := gw_in (List.mem_of_getElem? (i := 905) (by rfl)) (by rfl)
set_option maxRecDepth 20000 in
theorem q906 : (Jvm.Cond.methodLink "NominatorLaw" (96 : Nat) ({ cls := "Nominator", name := "reason", desc := "(I)I" } : Jvm.MethodName)) ∈ gw := gw_in (List.mem_of_getElem? (i := 906) (by rfl)) (by rfl)
set_option maxRecDepth 20000 in
theorem q907 : (Jvm.Cond.instanceMethod ({ cls := "Nominator", name := "reason", desc := "(I)I" } : Jvm.MethodName)) ∈ gw := gw_in (List.mem_of_getElem? (i := 907) (by rfl)) (by rfl)
set_option maxRecDepth 20000 in
theorem q908 : (Jvm.Cond.selects "Nominator" ({ cls := "Nominator", name := "reason", desc := "(I)I" } : Jvm.MethodName) ({ cls := "Nominator", name := "reason", desc := "(I)I" } : Jvm.MethodName)) ∈ gw := gw_in (List.mem_of_getElem? (i := 908) (by rfl)) (by rfl)
set_option maxRecDepth 20000 in
theorem q909 : (Jvm.Cond.code ({ cls := "Nominator", name := "reason", desc := "(I)I" } : Jvm.MethodName) prog_1_method_29_code (2 : Nat) (Option.some Jvm.ClassFile.FieldType.int)) ∈ gw := gw_in (List.mem_of_getElem? (i := 909) (by rfl)) (by rfl)
set_option maxRecDepth 20000 in
theorem q910 : (Jvm.Cond.methodLink "Nominator" (234 : Nat) ({ cls := "Nominator$Office", name := "whyNotStanding", desc := "(I)I" } : Jvm.MethodName)) ∈ gw := gw_in (List.mem_of_getElem? (i := 910) (by rfl)) (by rfl)
set_option maxRecDepth 20000 in
theorem q911 : (Jvm.Cond.instanceMethod ({ cls := "Nominator$Office", name := "whyNotStanding", desc := "(I)I" } : Jvm.MethodName)) ∈ gw := gw_in (List.mem_of_getElem? (i := 911) (by rfl)) (by rfl)
set_option maxRecDepth 20000 in
theorem q912 : (Jvm.Cond.selects "Nominator$Office" ({ cls := "Nominator$Office", name := "whyNotStanding", desc := "(I)I" } : Jvm.MethodName) ({ cls := "Nominator$Office", name := "whyNotStanding", desc := "(I)I" } : Jvm.MethodName)) ∈ gw := gw_in (List.mem_of_getElem? (i := 912) (by rfl)) (by rfl)
set_option maxRecDepth 20000 in
theorem q913 : (Jvm.Cond.code ({ cls := "Nominator$Office", name := "whyNotStanding", desc := "(I)I" } : Jvm.MethodName) prog_6_method_15_code (3 : Nat) (Option.some Jvm.ClassFile.FieldType.int)) ∈ gw := gw_in (List.mem_of_getElem? (i := 913) (by rfl)) (by rfl)
set_option maxRecDepth 20000 in
theorem q914 : (Jvm.Cond.methodLink "NominatorLaw" (250 : Nat) ({ cls := "NominatorLaw", name := "reasonByReplay", desc := "(LNominator;I[J)I" } : Jvm.MethodName)) ∈ gw := gw_in (List.mem_of_getElem? (i := 914) (by rfl)) (by rfl)
set_option maxRecDepth 20000 in
theorem q915 : (Jvm.Cond.static ({ cls := "NominatorLaw", name := "reasonByReplay", desc := "(LNominator;I[J)I" } : Jvm.MethodName)) ∈ gw := gw_in (List.mem_of_getElem? (i := 915) (by rfl)) (by rfl)
set_option maxRecDepth 20000 in
theorem q916 : (Jvm.Cond.codeWith ({ cls := "NominatorLaw", name := "reasonByReplay", desc := "(LNominator;I[J)I" } : Jvm.MethodName) method_27_code (4 : Nat) (Option.some Jvm.ClassFile.FieldType.int) [((0 : Nat), (9 : Nat), (12 : Nat), (28 : Nat))]) ∈ gw := gw_in (List.mem_of_getElem? (i := 916) (by rfl)) (by rfl)
set_option maxRecDepth 20000 in
theorem q917 : (Jvm.Cond.methodLink "NominatorLaw" (99 : Nat) ({ cls := "Nominator", name := "reasonByReplay", desc := "(I)I" } : Jvm.MethodName)) ∈ gw := gw_in (List.mem_of_getElem? (i := 917) (by rfl)) (by rfl)
set_option maxRecDepth 20000 in
theorem q918 : (Jvm.Cond.instanceMethod ({ cls := "Nominator", name := "reasonByReplay", desc := "(I)I" } : Jvm.MethodName)) ∈ gw := gw_in (List.mem_of_getElem? (i := 918) (by rfl)) (by rfl)
set_option maxRecDepth 20000 in
theorem q919 : (Jvm.Cond.selects "Nominator" ({ cls := "Nominator", name := "reasonByReplay", desc := "(I)I" } : Jvm.MethodName) ({ cls := "Nominator", name := "reasonByReplay", desc := "(I)I" } : Jvm.MethodName)) ∈ gw := gw_in (List.mem_of_getElem? (i := 919) (by rfl)) (by rfl)
set_option maxRecDepth 20000 in
theorem q920 : (Jvm.Cond.code ({ cls := "Nominator", name := "reasonByReplay", desc := "(I)I" } : Jvm.MethodName) prog_1_method_30_code (3 : Nat) (Option.some Jvm.ClassFile.FieldType.int)) ∈ gw := gw_in (List.mem_of_getElem? (i := 920) (by rfl)) (by rfl)
set_option maxRecDepth 20000 in
theorem q921 : (Jvm.Cond.methodLink "Nominator" (237 : Nat) ({ cls := "Nominator$Office", name := "restart", desc := "()V" } : Jvm.MethodName)) ∈ gw := gw_in (List.mem_of_getElem? (i := 921) (by rfl)) (by rfl)
set_option maxRecDepth 20000 in
theorem q922 : (Jvm.Cond.methodLink "NominatorLaw" (253 : Nat) ({ cls := "NominatorLaw", name := "ballotSize", desc := "(LNominator;I[J)I" } : Jvm.MethodName)) ∈ gw := gw_in (List.mem_of_getElem? (i := 922) (by rfl)) (by rfl)
set_option maxRecDepth 20000 in
theorem q923 : (Jvm.Cond.static ({ cls := "NominatorLaw", name := "ballotSize", desc := "(LNominator;I[J)I" } : Jvm.MethodName)) ∈ gw := gw_in (List.mem_of_getElem? (i := 923) (by rfl)) (by rfl)
set_option maxRecDepth 20000 in
theorem q924 : (Jvm.Cond.codeWith ({ cls := "NominatorLaw", name := "ballotSize", desc := "(LNominator;I[J)I" } : Jvm.MethodName) method_28_code (4 : Nat) (Option.some Jvm.ClassFile.FieldType.int) [((0 : Nat), (9 : Nat), (12 : Nat), (28 : Nat))]) ∈ gw := gw_in (List.mem_of_getElem? (i := 924) (by rfl)) (by rfl)
set_option maxRecDepth 20000 in
theorem q925 : (Jvm.Cond.methodLink "NominatorLaw" (102 : Nat) ({ cls := "Nominator", name := "ballotSize", desc := "(I)I" } : Jvm.MethodName)) ∈ gw := gw_in (List.mem_of_getElem? (i := 925) (by rfl)) (by rfl)
set_option maxRecDepth 20000 in
theorem q926 : (Jvm.Cond.instanceMethod ({ cls := "Nominator", name := "ballotSize", desc := "(I)I" } : Jvm.MethodName)) ∈ gw := gw_in (List.mem_of_getElem? (i := 926) (by rfl)) (by rfl)
set_option maxRecDepth 20000 in
theorem q927 : (Jvm.Cond.selects "Nominator" ({ cls := "Nominator", name := "ballotSize", desc := "(I)I" } : Jvm.MethodName) ({ cls := "Nominator", name := "ballotSize", desc := "(I)I" } : Jvm.MethodName)) ∈ gw := gw_in (List.mem_of_getElem? (i := 927) (by rfl)) (by rfl)
set_option maxRecDepth 20000 in
theorem q928 : (Jvm.Cond.code ({ cls := "Nominator", name := "ballotSize", desc := "(I)I" } : Jvm.MethodName) prog_1_method_31_code (2 : Nat) (Option.some Jvm.ClassFile.FieldType.int)) ∈ gw := gw_in (List.mem_of_getElem? (i := 928) (by rfl)) (by rfl)
set_option maxRecDepth 20000 in
theorem q929 : (Jvm.Cond.methodLink "Nominator" (260 : Nat) ({ cls := "Nominator$Office", name := "countStanding", desc := "(I)I" } : Jvm.MethodName)) ∈ gw := gw_in (List.mem_of_getElem? (i := 929) (by rfl)) (by rfl)
set_option maxRecDepth 20000 in
theorem q930 : (Jvm.Cond.instanceMethod ({ cls := "Nominator$Office", name := "countStanding", desc := "(I)I" } : Jvm.MethodName)) ∈ gw := gw_in (List.mem_of_getElem? (i := 930) (by rfl)) (by rfl)
set_option maxRecDepth 20000 in
theorem q931 : (Jvm.Cond.selects "Nominator$Office" ({ cls := "Nominator$Office", name := "countStanding", desc := "(I)I" } : Jvm.MethodName) ({ cls := "Nominator$Office", name := "countStanding", desc := "(I)I" } : Jvm.MethodName)) ∈ gw := gw_in (List.mem_of_getElem? (i := 931) (by rfl)) (by rfl)
set_option maxRecDepth 20000 in
theorem q932 : (Jvm.Cond.code ({ cls := "Nominator$Office", name := "countStanding", desc := "(I)I" } : Jvm.MethodName) prog_6_method_25_code (4 : Nat) (Option.some Jvm.ClassFile.FieldType.int)) ∈ gw := gw_in (List.mem_of_getElem? (i := 932) (by rfl)) (by rfl)
set_option maxRecDepth 20000 in
theorem q933 : (Jvm.Cond.methodLink "Nominator$Office" (223 : Nat) ({ cls := "Nominator$Office", name := "standsIn", desc := "(II)Z" } : Jvm.MethodName)) ∈ gw := gw_in (List.mem_of_getElem? (i := 933) (by rfl)) (by rfl)
set_option maxRecDepth 20000 in
theorem q935 : (Jvm.Cond.instanceMethod ({ cls := "Nominator$Office", name := "standsIn", desc := "(II)Z" } : Jvm.MethodName)) ∈ gw := gw_in (List.mem_of_getElem? (i := 935) (by rfl)) (by rfl)
set_option maxRecDepth 20000 in
theorem q936 : (Jvm.Cond.code ({ cls := "Nominator$Office", name := "standsIn", desc := "(II)Z" } : Jvm.MethodName) prog_6_method_24_code (3 : Nat) (Option.some Jvm.ClassFile.FieldType.boolean)) ∈ gw := gw_in (List.mem_of_getElem? (i := 936) (by rfl)) (by rfl)
set_option maxRecDepth 20000 in
theorem q937 : (Jvm.Cond.methodLink "Nominator$Office" (220 : Nat) ({ cls := "Nominator$Office", name := "whyNotStanding", desc := "(I)I" } : Jvm.MethodName)) ∈ gw := gw_in (List.mem_of_getElem? (i := 937) (by rfl)) (by rfl)
set_option maxRecDepth 20000 in
theorem q938 : (Jvm.Cond.methodLink "NominatorLaw" (256 : Nat) ({ cls := "NominatorLaw", name := "draw", desc := "(LNominator;I[J)I" } : Jvm.MethodName)) ∈ gw := gw_in (List.mem_of_getElem? (i := 938) (by rfl)) (by rfl)
set_option maxRecDepth 20000 in
theorem q939 : (Jvm.Cond.static ({ cls := "NominatorLaw", name := "draw", desc := "(LNominator;I[J)I" } : Jvm.MethodName)) ∈ gw := gw_in (List.mem_of_getElem? (i := 939) (by rfl)) (by rfl)
set_option maxRecDepth 20000 in
theorem q940 : (Jvm.Cond.codeWith ({ cls := "NominatorLaw", name := "draw", desc := "(LNominator;I[J)I" } : Jvm.MethodName) method_29_code (4 : Nat) (Option.some Jvm.ClassFile.FieldType.int) [((0 : Nat), (9 : Nat), (12 : Nat), (15 : Nat))]) ∈ gw := gw_in (List.mem_of_getElem? (i := 940) (by rfl)) (by rfl)
set_option maxRecDepth 20000 in
theorem q941 : (Jvm.Cond.methodLink "NominatorLaw" (105 : Nat) ({ cls := "Nominator", name := "draw", desc := "(I)C" } : Jvm.MethodName)) ∈ gw := gw_in (List.mem_of_getElem? (i := 941) (by rfl)) (by rfl)
set_option maxRecDepth 20000 in
theorem q942 : (Jvm.Cond.instanceMethod ({ cls := "Nominator", name := "draw", desc := "(I)C" } : Jvm.MethodName)) ∈ gw := gw_in (List.mem_of_getElem? (i := 942) (by rfl)) (by rfl)
set_option maxRecDepth 20000 in
theorem q943 : (Jvm.Cond.selects "Nominator" ({ cls := "Nominator", name := "draw", desc := "(I)C" } : Jvm.MethodName) ({ cls := "Nominator", name := "draw", desc := "(I)C" } : Jvm.MethodName)) ∈ gw := gw_in (List.mem_of_getElem? (i := 943) (by rfl)) (by rfl)
set_option maxRecDepth 20000 in
theorem q944 : (Jvm.Cond.code ({ cls := "Nominator", name := "draw", desc := "(I)C" } : Jvm.MethodName) prog_1_method_32_code (2 : Nat) (Option.some Jvm.ClassFile.FieldType.char)) ∈ gw := gw_in (List.mem_of_getElem? (i := 944) (by rfl)) (by rfl)
set_option maxRecDepth 20000 in
theorem q947 : (Jvm.Cond.methodLink "NominatorLaw" (259 : Nat) ({ cls := "NominatorLaw", name := "letter", desc := "(LNominator;I[J)I" } : Jvm.MethodName)) ∈ gw := gw_in (List.mem_of_getElem? (i := 947) (by rfl)) (by rfl)
set_option maxRecDepth 20000 in
theorem q948 : (Jvm.Cond.static ({ cls := "NominatorLaw", name := "letter", desc := "(LNominator;I[J)I" } : Jvm.MethodName)) ∈ gw := gw_in (List.mem_of_getElem? (i := 948) (by rfl)) (by rfl)
set_option maxRecDepth 20000 in
theorem q949 : (Jvm.Cond.codeWith ({ cls := "NominatorLaw", name := "letter", desc := "(LNominator;I[J)I" } : Jvm.MethodName) method_30_code (4 : Nat) (Option.some Jvm.ClassFile.FieldType.int) [((0 : Nat), (9 : Nat), (12 : Nat), (28 : Nat)), ((0 : Nat), (9 : Nat), (15 : Nat), (15 : Nat))]) ∈ gw := gw_in (List.mem_of_getElem? (i := 949) (by rfl)) (by rfl)
set_option maxRecDepth 20000 in
theorem q950 : (Jvm.Cond.methodLink "NominatorLaw" (109 : Nat) ({ cls := "Nominator", name := "letter", desc := "(I)C" } : Jvm.MethodName)) ∈ gw := gw_in (List.mem_of_getElem? (i := 950) (by rfl)) (by rfl)
set_option maxRecDepth 20000 in
theorem q951 : (Jvm.Cond.instanceMethod ({ cls := "Nominator", name := "letter", desc := "(I)C" } : Jvm.MethodName)) ∈ gw := gw_in (List.mem_of_getElem? (i := 951) (by rfl)) (by rfl)
set_option maxRecDepth 20000 in
theorem q952 : (Jvm.Cond.selects "Nominator" ({ cls := "Nominator", name := "letter", desc := "(I)C" } : Jvm.MethodName) ({ cls := "Nominator", name := "letter", desc := "(I)C" } : Jvm.MethodName)) ∈ gw := gw_in (List.mem_of_getElem? (i := 952) (by rfl)) (by rfl)
set_option maxRecDepth 20000 in
theorem q953 : (Jvm.Cond.code ({ cls := "Nominator", name := "letter", desc := "(I)C" } : Jvm.MethodName) prog_1_method_33_code (2 : Nat) (Option.some Jvm.ClassFile.FieldType.char)) ∈ gw := gw_in (List.mem_of_getElem? (i := 953) (by rfl)) (by rfl)
set_option maxRecDepth 20000 in
theorem q954 : (Jvm.Cond.methodLink "Nominator" (280 : Nat) ({ cls := "Nominator", name := "needLetters", desc := "()V" } : Jvm.MethodName)) ∈ gw := gw_in (List.mem_of_getElem? (i := 954) (by rfl)) (by rfl)
set_option maxRecDepth 20000 in
theorem q956 : (Jvm.Cond.instanceMethod ({ cls := "Nominator", name := "needLetters", desc := "()V" } : Jvm.MethodName)) ∈ gw := gw_in (List.mem_of_getElem? (i := 956) (by rfl)) (by rfl)
set_option maxRecDepth 20000 in
theorem q957 : (Jvm.Cond.code ({ cls := "Nominator", name := "needLetters", desc := "()V" } : Jvm.MethodName) prog_1_method_55_code (1 : Nat) (Option.none : Option Jvm.ClassFile.FieldType)) ∈ gw := gw_in (List.mem_of_getElem? (i := 957) (by rfl)) (by rfl)
set_option maxRecDepth 20000 in
theorem q959 : (Jvm.Cond.methodLink "NominatorLaw" (262 : Nat) ({ cls := "NominatorLaw", name := "ballot", desc := "(LNominator;III[J)I" } : Jvm.MethodName)) ∈ gw := gw_in (List.mem_of_getElem? (i := 959) (by rfl)) (by rfl)
set_option maxRecDepth 20000 in
theorem q960 : (Jvm.Cond.static ({ cls := "NominatorLaw", name := "ballot", desc := "(LNominator;III[J)I" } : Jvm.MethodName)) ∈ gw := gw_in (List.mem_of_getElem? (i := 960) (by rfl)) (by rfl)
set_option maxRecDepth 20000 in
theorem q961 : (Jvm.Cond.codeWith ({ cls := "NominatorLaw", name := "ballot", desc := "(LNominator;III[J)I" } : Jvm.MethodName) method_31_code (6 : Nat) (Option.some Jvm.ClassFile.FieldType.int) [((0 : Nat), (12 : Nat), (15 : Nat), (28 : Nat)), ((0 : Nat), (12 : Nat), (19 : Nat), (13 : Nat)), ((0 : Nat), (12 : Nat), (23 : Nat), (15 : Nat)), ((0 : Nat), (12 : Nat), (27 : Nat), (88 : Nat))]) ∈ gw := gw_in (List.mem_of_getElem? (i := 961) (by rfl)) (by rfl)
set_option maxRecDepth 20000 in
theorem q962 : (Jvm.Cond.methodLink "NominatorLaw" (112 : Nat) ({ cls := "Nominator", name := "ballot", desc := "(III)I" } : Jvm.MethodName)) ∈ gw := gw_in (List.mem_of_getElem? (i := 962) (by rfl)) (by rfl)
set_option maxRecDepth 20000 in
theorem q963 : (Jvm.Cond.instanceMethod ({ cls := "Nominator", name := "ballot", desc := "(III)I" } : Jvm.MethodName)) ∈ gw := gw_in (List.mem_of_getElem? (i := 963) (by rfl)) (by rfl)
set_option maxRecDepth 20000 in
theorem q964 : (Jvm.Cond.selects "Nominator" ({ cls := "Nominator", name := "ballot", desc := "(III)I" } : Jvm.MethodName) ({ cls := "Nominator", name := "ballot", desc := "(III)I" } : Jvm.MethodName)) ∈ gw := gw_in (List.mem_of_getElem? (i := 964) (by rfl)) (by rfl)
set_option maxRecDepth 20000 in
theorem q965 : (Jvm.Cond.code ({ cls := "Nominator", name := "ballot", desc := "(III)I" } : Jvm.MethodName) prog_1_method_34_code (5 : Nat) (Option.some Jvm.ClassFile.FieldType.int)) ∈ gw := gw_in (List.mem_of_getElem? (i := 965) (by rfl)) (by rfl)
set_option maxRecDepth 20000 in
theorem q966 : (Jvm.Cond.methodLink "Nominator" (283 : Nat) ({ cls := "Nominator", name := "needPrecinct", desc := "(I)V" } : Jvm.MethodName)) ∈ gw := gw_in (List.mem_of_getElem? (i := 966) (by rfl)) (by rfl)
set_option maxRecDepth 20000 in
theorem q968 : (Jvm.Cond.instanceMethod ({ cls := "Nominator", name := "needPrecinct", desc := "(I)V" } : Jvm.MethodName)) ∈ gw := gw_in (List.mem_of_getElem? (i := 968) (by rfl)) (by rfl)
set_option maxRecDepth 20000 in
theorem q969 : (Jvm.Cond.code ({ cls := "Nominator", name := "needPrecinct", desc := "(I)V" } : Jvm.MethodName) prog_1_method_50_code (2 : Nat) (Option.none : Option Jvm.ClassFile.FieldType)) ∈ gw := gw_in (List.mem_of_getElem? (i := 969) (by rfl)) (by rfl)
set_option maxRecDepth 20000 in
theorem q972 : (Jvm.Cond.methodLink "Nominator" (288 : Nat) ({ cls := "Nominator", name := "around", desc := "(II)I" } : Jvm.MethodName)) ∈ gw := gw_in (List.mem_of_getElem? (i := 972) (by rfl)) (by rfl)
set_option maxRecDepth 20000 in
theorem q973 : (Jvm.Cond.static ({ cls := "Nominator", name := "around", desc := "(II)I" } : Jvm.MethodName)) ∈ gw := gw_in (List.mem_of_getElem? (i := 973) (by rfl)) (by rfl)
set_option maxRecDepth 20000 in
theorem q974 : (Jvm.Cond.code ({ cls := "Nominator", name := "around", desc := "(II)I" } : Jvm.MethodName) prog_1_method_62_code (2 : Nat) (Option.some Jvm.ClassFile.FieldType.int)) ∈ gw := gw_in (List.mem_of_getElem? (i := 974) (by rfl)) (by rfl)
set_option maxRecDepth 20000 in
theorem q975 : (Jvm.Cond.methodLink "Nominator" (388 : Nat) ({ cls := "java/lang/Math", name := "floorMod", desc := "(II)I" } : Jvm.MethodName)) ∈ gw := gw_in (List.mem_of_getElem? (i := 975) (by rfl)) (by rfl)
set_option maxRecDepth 20000 in
theorem q976 : (Jvm.Cond.static ({ cls := "java/lang/Math", name := "floorMod", desc := "(II)I" } : Jvm.MethodName)) ∈ gw := gw_in (List.mem_of_getElem? (i := 976) (by rfl)) (by rfl)
set_option maxRecDepth 20000 in
theorem q977 : (Jvm.Cond.code ({ cls := "java/lang/Math", name := "floorMod", desc := "(II)I" } : Jvm.MethodName) prog_21_method_50_code (3 : Nat) (Option.some Jvm.ClassFile.FieldType.int)) ∈ gw := gw_in (List.mem_of_getElem? (i := 977) (by rfl)) (by rfl)
set_option maxRecDepth 20000 in
theorem q978 : (Jvm.Cond.methodLink "Nominator" (291 : Nat) ({ cls := "Nominator$Office", name := "paperAt", desc := "(II)I" } : Jvm.MethodName)) ∈ gw := gw_in (List.mem_of_getElem? (i := 978) (by rfl)) (by rfl)
set_option maxRecDepth 20000 in
theorem q979 : (Jvm.Cond.instanceMethod ({ cls := "Nominator$Office", name := "paperAt", desc := "(II)I" } : Jvm.MethodName)) ∈ gw := gw_in (List.mem_of_getElem? (i := 979) (by rfl)) (by rfl)
set_option maxRecDepth 20000 in
theorem q980 : (Jvm.Cond.selects "Nominator$Office" ({ cls := "Nominator$Office", name := "paperAt", desc := "(II)I" } : Jvm.MethodName) ({ cls := "Nominator$Office", name := "paperAt", desc := "(II)I" } : Jvm.MethodName)) ∈ gw := gw_in (List.mem_of_getElem? (i := 980) (by rfl)) (by rfl)
set_option maxRecDepth 20000 in
theorem q981 : (Jvm.Cond.code ({ cls := "Nominator$Office", name := "paperAt", desc := "(II)I" } : Jvm.MethodName) prog_6_method_26_code (4 : Nat) (Option.some Jvm.ClassFile.FieldType.int)) ∈ gw := gw_in (List.mem_of_getElem? (i := 981) (by rfl)) (by rfl)
set_option maxRecDepth 20000 in
theorem q982 : (Jvm.Cond.methodLink "Nominator$Office" (227 : Nat) ({ cls := "Nominator$Office", name := "placeOnList", desc := "(I)I" } : Jvm.MethodName)) ∈ gw := gw_in (List.mem_of_getElem? (i := 982) (by rfl)) (by rfl)
set_option maxRecDepth 20000 in
theorem q983 : (Jvm.Cond.instanceMethod ({ cls := "Nominator$Office", name := "placeOnList", desc := "(I)I" } : Jvm.MethodName)) ∈ gw := gw_in (List.mem_of_getElem? (i := 983) (by rfl)) (by rfl)
set_option maxRecDepth 20000 in
theorem q984 : (Jvm.Cond.selects "Nominator$Office" ({ cls := "Nominator$Office", name := "placeOnList", desc := "(I)I" } : Jvm.MethodName) ({ cls := "Nominator$Office", name := "placeOnList", desc := "(I)I" } : Jvm.MethodName)) ∈ gw := gw_in (List.mem_of_getElem? (i := 984) (by rfl)) (by rfl)
set_option maxRecDepth 20000 in
theorem q985 : (Jvm.Cond.code ({ cls := "Nominator$Office", name := "placeOnList", desc := "(I)I" } : Jvm.MethodName) prog_6_method_27_code (4 : Nat) (Option.some Jvm.ClassFile.FieldType.int)) ∈ gw := gw_in (List.mem_of_getElem? (i := 985) (by rfl)) (by rfl)
set_option maxRecDepth 20000 in
theorem q986 : (Jvm.Cond.methodLink "Nominator$Office" (230 : Nat) ({ cls := "Nominator$Office", name := "comesBefore", desc := "(II)Z" } : Jvm.MethodName)) ∈ gw := gw_in (List.mem_of_getElem? (i := 986) (by rfl)) (by rfl)
set_option maxRecDepth 20000 in
theorem q988 : (Jvm.Cond.instanceMethod ({ cls := "Nominator$Office", name := "comesBefore", desc := "(II)Z" } : Jvm.MethodName)) ∈ gw := gw_in (List.mem_of_getElem? (i := 988) (by rfl)) (by rfl)
set_option maxRecDepth 20000 in
theorem q989 : (Jvm.Cond.code ({ cls := "Nominator$Office", name := "comesBefore", desc := "(II)Z" } : Jvm.MethodName) prog_6_method_28_code (5 : Nat) (Option.some Jvm.ClassFile.FieldType.boolean)) ∈ gw := gw_in (List.mem_of_getElem? (i := 989) (by rfl)) (by rfl)
set_option maxRecDepth 20000 in
theorem q990 : (Jvm.Cond.methodLink "Nominator$Office" (236 : Nat) ({ cls := "Nominator$Letters", name := "rankOf", desc := "(I)I" } : Jvm.MethodName)) ∈ gw := gw_in (List.mem_of_getElem? (i := 990) (by rfl)) (by rfl)
set_option maxRecDepth 20000 in
theorem q991 : (Jvm.Cond.instanceMethod ({ cls := "Nominator$Letters", name := "rankOf", desc := "(I)I" } : Jvm.MethodName)) ∈ gw := gw_in (List.mem_of_getElem? (i := 991) (by rfl)) (by rfl)
set_option maxRecDepth 20000 in
theorem q992 : (Jvm.Cond.selects "Nominator$Letters" ({ cls := "Nominator$Letters", name := "rankOf", desc := "(I)I" } : Jvm.MethodName) ({ cls := "Nominator$Letters", name := "rankOf", desc := "(I)I" } : Jvm.MethodName)) ∈ gw := gw_in (List.mem_of_getElem? (i := 992) (by rfl)) (by rfl)
set_option maxRecDepth 20000 in
theorem q993 : (Jvm.Cond.code ({ cls := "Nominator$Letters", name := "rankOf", desc := "(I)I" } : Jvm.MethodName) prog_5_method_5_code (5 : Nat) (Option.some Jvm.ClassFile.FieldType.int)) ∈ gw := gw_in (List.mem_of_getElem? (i := 993) (by rfl)) (by rfl)
set_option maxRecDepth 20000 in
theorem q996 : (Jvm.Cond.methodLink "NominatorLaw" (265 : Nat) ({ cls := "NominatorLaw", name := "placeOnBallot", desc := "(LNominator;II[J)I" } : Jvm.MethodName)) ∈ gw := gw_in (List.mem_of_getElem? (i := 996) (by rfl)) (by rfl)
set_option maxRecDepth 20000 in
theorem q997 : (Jvm.Cond.static ({ cls := "NominatorLaw", name := "placeOnBallot", desc := "(LNominator;II[J)I" } : Jvm.MethodName)) ∈ gw := gw_in (List.mem_of_getElem? (i := 997) (by rfl)) (by rfl)
set_option maxRecDepth 20000 in
theorem q998 : (Jvm.Cond.codeWith ({ cls := "NominatorLaw", name := "placeOnBallot", desc := "(LNominator;II[J)I" } : Jvm.MethodName) method_32_code (5 : Nat) (Option.some Jvm.ClassFile.FieldType.int) [((0 : Nat), (10 : Nat), (13 : Nat), (28 : Nat)), ((0 : Nat), (10 : Nat), (17 : Nat), (13 : Nat)), ((0 : Nat), (10 : Nat), (21 : Nat), (15 : Nat))]) ∈ gw := gw_in (List.mem_of_getElem? (i := 998) (by rfl)) (by rfl)
set_option maxRecDepth 20000 in
theorem q999 : (Jvm.Cond.methodLink "NominatorLaw" (115 : Nat) ({ cls := "Nominator", name := "placeOnBallot", desc := "(II)I" } : Jvm.MethodName)) ∈ gw := gw_in (List.mem_of_getElem? (i := 999) (by rfl)) (by rfl)
set_option maxRecDepth 20000 in
theorem q1000 : (Jvm.Cond.instanceMethod ({ cls := "Nominator", name := "placeOnBallot", desc := "(II)I" } : Jvm.MethodName)) ∈ gw := gw_in (List.mem_of_getElem? (i := 1000) (by rfl)) (by rfl)
set_option maxRecDepth 20000 in
theorem q1001 : (Jvm.Cond.selects "Nominator" ({ cls := "Nominator", name := "placeOnBallot", desc := "(II)I" } : Jvm.MethodName) ({ cls := "Nominator", name := "placeOnBallot", desc := "(II)I" } : Jvm.MethodName)) ∈ gw := gw_in (List.mem_of_getElem? (i := 1001) (by rfl)) (by rfl)
set_option maxRecDepth 20000 in
theorem q1002 : (Jvm.Cond.code ({ cls := "Nominator", name := "placeOnBallot", desc := "(II)I" } : Jvm.MethodName) prog_1_method_35_code (3 : Nat) (Option.some Jvm.ClassFile.FieldType.int)) ∈ gw := gw_in (List.mem_of_getElem? (i := 1002) (by rfl)) (by rfl)
set_option maxRecDepth 20000 in
theorem q1003 : (Jvm.Cond.methodLink "Nominator" (294 : Nat) ({ cls := "Nominator", name := "needStanding", desc := "(I)V" } : Jvm.MethodName)) ∈ gw := gw_in (List.mem_of_getElem? (i := 1003) (by rfl)) (by rfl)
set_option maxRecDepth 20000 in
theorem q1005 : (Jvm.Cond.instanceMethod ({ cls := "Nominator", name := "needStanding", desc := "(I)V" } : Jvm.MethodName)) ∈ gw := gw_in (List.mem_of_getElem? (i := 1005) (by rfl)) (by rfl)
set_option maxRecDepth 20000 in
theorem q1006 : (Jvm.Cond.code ({ cls := "Nominator", name := "needStanding", desc := "(I)V" } : Jvm.MethodName) prog_1_method_54_code (2 : Nat) (Option.none : Option Jvm.ClassFile.FieldType)) ∈ gw := gw_in (List.mem_of_getElem? (i := 1006) (by rfl)) (by rfl)
set_option maxRecDepth 20000 in
theorem q1008 : (Jvm.Cond.methodLink "Nominator" (297 : Nat) ({ cls := "Nominator$Office", name := "placeOnList", desc := "(I)I" } : Jvm.MethodName)) ∈ gw := gw_in (List.mem_of_getElem? (i := 1008) (by rfl)) (by rfl)
set_option maxRecDepth 20000 in
theorem q1009 : (Jvm.Cond.methodLink "NominatorLaw" (268 : Nat) ({ cls := "NominatorLaw", name := "addVotes", desc := "(LNominator;II[J)I" } : Jvm.MethodName)) ∈ gw := gw_in (List.mem_of_getElem? (i := 1009) (by rfl)) (by rfl)
set_option maxRecDepth 20000 in
theorem q1010 : (Jvm.Cond.static ({ cls := "NominatorLaw", name := "addVotes", desc := "(LNominator;II[J)I" } : Jvm.MethodName)) ∈ gw := gw_in (List.mem_of_getElem? (i := 1010) (by rfl)) (by rfl)
set_option maxRecDepth 20000 in
theorem q1011 : (Jvm.Cond.codeWith ({ cls := "NominatorLaw", name := "addVotes", desc := "(LNominator;II[J)I" } : Jvm.MethodName) method_33_code (5 : Nat) (Option.some Jvm.ClassFile.FieldType.int) [((0 : Nat), (10 : Nat), (13 : Nat), (28 : Nat)), ((0 : Nat), (10 : Nat), (17 : Nat), (13 : Nat)), ((0 : Nat), (10 : Nat), (21 : Nat), (15 : Nat))]) ∈ gw := gw_in (List.mem_of_getElem? (i := 1011) (by rfl)) (by rfl)
set_option maxRecDepth 20000 in
theorem q1012 : (Jvm.Cond.methodLink "NominatorLaw" (118 : Nat) ({ cls := "Nominator", name := "addVotes", desc := "(II)I" } : Jvm.MethodName)) ∈ gw := gw_in (List.mem_of_getElem? (i := 1012) (by rfl)) (by rfl)
set_option maxRecDepth 20000 in
theorem q1013 : (Jvm.Cond.instanceMethod ({ cls := "Nominator", name := "addVotes", desc := "(II)I" } : Jvm.MethodName)) ∈ gw := gw_in (List.mem_of_getElem? (i := 1013) (by rfl)) (by rfl)
set_option maxRecDepth 20000 in
theorem q1014 : (Jvm.Cond.selects "Nominator" ({ cls := "Nominator", name := "addVotes", desc := "(II)I" } : Jvm.MethodName) ({ cls := "Nominator", name := "addVotes", desc := "(II)I" } : Jvm.MethodName)) ∈ gw := gw_in (List.mem_of_getElem? (i := 1014) (by rfl)) (by rfl)
set_option maxRecDepth 20000 in
theorem q1015 : (Jvm.Cond.code ({ cls := "Nominator", name := "addVotes", desc := "(II)I" } : Jvm.MethodName) prog_1_method_36_code (3 : Nat) (Option.some Jvm.ClassFile.FieldType.int)) ∈ gw := gw_in (List.mem_of_getElem? (i := 1015) (by rfl)) (by rfl)
set_option maxRecDepth 20000 in
theorem q1017 : (Jvm.Cond.methodLink "Nominator" (303 : Nat) ({ cls := "Nominator", name := "needCounting", desc := "(I)V" } : Jvm.MethodName)) ∈ gw := gw_in (List.mem_of_getElem? (i := 1017) (by rfl)) (by rfl)
set_option maxRecDepth 20000 in
theorem q1019 : (Jvm.Cond.instanceMethod ({ cls := "Nominator", name := "needCounting", desc := "(I)V" } : Jvm.MethodName)) ∈ gw := gw_in (List.mem_of_getElem? (i := 1019) (by rfl)) (by rfl)
set_option maxRecDepth 20000 in
theorem q1020 : (Jvm.Cond.code ({ cls := "Nominator", name := "needCounting", desc := "(I)V" } : Jvm.MethodName) prog_1_method_56_code (2 : Nat) (Option.none : Option Jvm.ClassFile.FieldType)) ∈ gw := gw_in (List.mem_of_getElem? (i := 1020) (by rfl)) (by rfl)
set_option maxRecDepth 20000 in
theorem q1023 : (Jvm.Cond.methodLink "NominatorLaw" (271 : Nat) ({ cls := "NominatorLaw", name := "finish", desc := "(LNominator;I[J)I" } : Jvm.MethodName)) ∈ gw := gw_in (List.mem_of_getElem? (i := 1023) (by rfl)) (by rfl)
set_option maxRecDepth 20000 in
theorem q1024 : (Jvm.Cond.static ({ cls := "NominatorLaw", name := "finish", desc := "(LNominator;I[J)I" } : Jvm.MethodName)) ∈ gw := gw_in (List.mem_of_getElem? (i := 1024) (by rfl)) (by rfl)
set_option maxRecDepth 20000 in
theorem q1025 : (Jvm.Cond.codeWith ({ cls := "NominatorLaw", name := "finish", desc := "(LNominator;I[J)I" } : Jvm.MethodName) method_34_code (4 : Nat) (Option.some Jvm.ClassFile.FieldType.int) [((0 : Nat), (9 : Nat), (12 : Nat), (28 : Nat)), ((0 : Nat), (9 : Nat), (15 : Nat), (15 : Nat))]) ∈ gw := gw_in (List.mem_of_getElem? (i := 1025) (by rfl)) (by rfl)
set_option maxRecDepth 20000 in
theorem q1026 : (Jvm.Cond.methodLink "NominatorLaw" (121 : Nat) ({ cls := "Nominator", name := "finish", desc := "(I)I" } : Jvm.MethodName)) ∈ gw := gw_in (List.mem_of_getElem? (i := 1026) (by rfl)) (by rfl)
set_option maxRecDepth 20000 in
theorem q1027 : (Jvm.Cond.instanceMethod ({ cls := "Nominator", name := "finish", desc := "(I)I" } : Jvm.MethodName)) ∈ gw := gw_in (List.mem_of_getElem? (i := 1027) (by rfl)) (by rfl)
set_option maxRecDepth 20000 in
theorem q1028 : (Jvm.Cond.selects "Nominator" ({ cls := "Nominator", name := "finish", desc := "(I)I" } : Jvm.MethodName) ({ cls := "Nominator", name := "finish", desc := "(I)I" } : Jvm.MethodName)) ∈ gw := gw_in (List.mem_of_getElem? (i := 1028) (by rfl)) (by rfl)
set_option maxRecDepth 20000 in
theorem q1029 : (Jvm.Cond.code ({ cls := "Nominator", name := "finish", desc := "(I)I" } : Jvm.MethodName) prog_1_method_37_code (2 : Nat) (Option.some Jvm.ClassFile.FieldType.int)) ∈ gw := gw_in (List.mem_of_getElem? (i := 1029) (by rfl)) (by rfl)
set_option maxRecDepth 20000 in
theorem q1030 : (Jvm.Cond.methodLink "Nominator" (309 : Nat) ({ cls := "Nominator$Office", name := "countStandingAndLost", desc := "(I)I" } : Jvm.MethodName)) ∈ gw := gw_in (List.mem_of_getElem? (i := 1030) (by rfl)) (by rfl)
set_option maxRecDepth 20000 in
theorem q1031 : (Jvm.Cond.instanceMethod ({ cls := "Nominator$Office", name := "countStandingAndLost", desc := "(I)I" } : Jvm.MethodName)) ∈ gw := gw_in (List.mem_of_getElem? (i := 1031) (by rfl)) (by rfl)
set_option maxRecDepth 20000 in
theorem q1032 : (Jvm.Cond.selects "Nominator$Office" ({ cls := "Nominator$Office", name := "countStandingAndLost", desc := "(I)I" } : Jvm.MethodName) ({ cls := "Nominator$Office", name := "countStandingAndLost", desc := "(I)I" } : Jvm.MethodName)) ∈ gw := gw_in (List.mem_of_getElem? (i := 1032) (by rfl)) (by rfl)
set_option maxRecDepth 20000 in
theorem q1033 : (Jvm.Cond.code ({ cls := "Nominator$Office", name := "countStandingAndLost", desc := "(I)I" } : Jvm.MethodName) prog_6_method_31_code (4 : Nat) (Option.some Jvm.ClassFile.FieldType.int)) ∈ gw := gw_in (List.mem_of_getElem? (i := 1033) (by rfl)) (by rfl)
set_option maxRecDepth 20000 in
theorem q1034 : (Jvm.Cond.methodLink "NominatorLaw" (274 : Nat) ({ cls := "NominatorLaw", name := "votes", desc := "(LNominator;I[J)I" } : Jvm.MethodName)) ∈ gw := gw_in (List.mem_of_getElem? (i := 1034) (by rfl)) (by rfl)
set_option maxRecDepth 20000 in
theorem q1035 : (Jvm.Cond.static ({ cls := "NominatorLaw", name := "votes", desc := "(LNominator;I[J)I" } : Jvm.MethodName)) ∈ gw := gw_in (List.mem_of_getElem? (i := 1035) (by rfl)) (by rfl)
set_option maxRecDepth 20000 in
theorem q1036 : (Jvm.Cond.codeWith ({ cls := "NominatorLaw", name := "votes", desc := "(LNominator;I[J)I" } : Jvm.MethodName) method_35_code (4 : Nat) (Option.some Jvm.ClassFile.FieldType.int) [((0 : Nat), (9 : Nat), (12 : Nat), (28 : Nat))]) ∈ gw := gw_in (List.mem_of_getElem? (i := 1036) (by rfl)) (by rfl)
set_option maxRecDepth 20000 in
theorem q1037 : (Jvm.Cond.methodLink "NominatorLaw" (124 : Nat) ({ cls := "Nominator", name := "votes", desc := "(I)I" } : Jvm.MethodName)) ∈ gw := gw_in (List.mem_of_getElem? (i := 1037) (by rfl)) (by rfl)
set_option maxRecDepth 20000 in
theorem q1038 : (Jvm.Cond.instanceMethod ({ cls := "Nominator", name := "votes", desc := "(I)I" } : Jvm.MethodName)) ∈ gw := gw_in (List.mem_of_getElem? (i := 1038) (by rfl)) (by rfl)
set_option maxRecDepth 20000 in
theorem q1039 : (Jvm.Cond.selects "Nominator" ({ cls := "Nominator", name := "votes", desc := "(I)I" } : Jvm.MethodName) ({ cls := "Nominator", name := "votes", desc := "(I)I" } : Jvm.MethodName)) ∈ gw := gw_in (List.mem_of_getElem? (i := 1039) (by rfl)) (by rfl)
set_option maxRecDepth 20000 in
theorem q1040 : (Jvm.Cond.code ({ cls := "Nominator", name := "votes", desc := "(I)I" } : Jvm.MethodName) prog_1_method_38_code (2 : Nat) (Option.some Jvm.ClassFile.FieldType.int)) ∈ gw := gw_in (List.mem_of_getElem? (i := 1040) (by rfl)) (by rfl)
set_option maxRecDepth 20000 in
theorem q1041 : (Jvm.Cond.methodLink "NominatorLaw" (277 : Nat) ({ cls := "NominatorLaw", name := "share", desc := "(LNominator;I[D)I" } : Jvm.MethodName)) ∈ gw := gw_in (List.mem_of_getElem? (i := 1041) (by rfl)) (by rfl)
set_option maxRecDepth 20000 in
theorem q1042 : (Jvm.Cond.static ({ cls := "NominatorLaw", name := "share", desc := "(LNominator;I[D)I" } : Jvm.MethodName)) ∈ gw := gw_in (List.mem_of_getElem? (i := 1042) (by rfl)) (by rfl)
set_option maxRecDepth 20000 in
theorem q1043 : (Jvm.Cond.codeWith ({ cls := "NominatorLaw", name := "share", desc := "(LNominator;I[D)I" } : Jvm.MethodName) method_36_code (4 : Nat) (Option.some Jvm.ClassFile.FieldType.int) [((0 : Nat), (8 : Nat), (11 : Nat), (28 : Nat)), ((0 : Nat), (8 : Nat), (14 : Nat), (131 : Nat))]) ∈ gw := gw_in (List.mem_of_getElem? (i := 1043) (by rfl)) (by rfl)
set_option maxRecDepth 20000 in
theorem q1044 : (Jvm.Cond.classLink "NominatorLaw" (131 : Nat) "java/lang/ArithmeticException") ∈ gw := gw_in (List.mem_of_getElem? (i := 1044) (by rfl)) (by rfl)
set_option maxRecDepth 20000 in
theorem q1045 : (Jvm.Cond.instantiable "java/lang/ArithmeticException" (6 : Nat)) ∈ gw := gw_in (List.mem_of_getElem? (i := 1045) (by rfl)) (by rfl)
set_option maxRecDepth 20000 in
theorem q1046 : (Jvm.Cond.instanceMethod ({ cls := "java/lang/ArithmeticException", name := "<init>", desc := "(Ljava/lang/String;)V" } : Jvm.MethodName)) ∈ gw := gw_in (List.mem_of_getElem? (i := 1046) (by rfl)) (by rfl)
set_option maxRecDepth 20000 in
theorem q1047 : (Jvm.Cond.code ({ cls := "java/lang/ArithmeticException", name := "<init>", desc := "(Ljava/lang/String;)V" } : Jvm.MethodName) prog_14_method_2_code (2 : Nat) (Option.none : Option Jvm.ClassFile.FieldType)) ∈ gw := gw_in (List.mem_of_getElem? (i := 1047) (by rfl)) (by rfl)
set_option maxRecDepth 20000 in
theorem q1048 : (Jvm.Cond.methodLink "java/lang/ArithmeticException" (7 : Nat) ({ cls := "java/lang/RuntimeException", name := "<init>", desc := "(Ljava/lang/String;)V" } : Jvm.MethodName)) ∈ gw := gw_in (List.mem_of_getElem? (i := 1048) (by rfl)) (by rfl)
set_option maxRecDepth 20000 in
theorem q1049 : (Jvm.Cond.lays "java/lang/ArithmeticException" "java/lang/Throwable" "backtrace" "Ljava/lang/Object;") ∈ gw := gw_in (List.mem_of_getElem? (i := 1049) (by rfl)) (by rfl)
set_option maxRecDepth 20000 in
theorem q1050 : (Jvm.Cond.lays "java/lang/ArithmeticException" "java/lang/Throwable" "detailMessage" "Ljava/lang/String;") ∈ gw := gw_in (List.mem_of_getElem? (i := 1050) (by rfl)) (by rfl)
set_option maxRecDepth 20000 in
theorem q1051 : (Jvm.Cond.lays "java/lang/ArithmeticException" "java/lang/Throwable" "cause" "Ljava/lang/Throwable;") ∈ gw := gw_in (List.mem_of_getElem? (i := 1051) (by rfl)) (by rfl)
set_option maxRecDepth 20000 in
theorem q1052 : (Jvm.Cond.lays "java/lang/ArithmeticException" "java/lang/Throwable" "stackTrace" "[Ljava/lang/StackTraceElement;") ∈ gw := gw_in (List.mem_of_getElem? (i := 1052) (by rfl)) (by rfl)
set_option maxRecDepth 20000 in
theorem q1053 : (Jvm.Cond.lays "java/lang/ArithmeticException" "java/lang/Throwable" "depth" "I") ∈ gw := gw_in (List.mem_of_getElem? (i := 1053) (by rfl)) (by rfl)
set_option maxRecDepth 20000 in
theorem q1054 : (Jvm.Cond.lays "java/lang/ArithmeticException" "java/lang/Throwable" "suppressedExceptions" "Ljava/util/List;") ∈ gw := gw_in (List.mem_of_getElem? (i := 1054) (by rfl)) (by rfl)
set_option maxRecDepth 20000 in
theorem q1057 : (Jvm.Cond.selects "java/lang/ArithmeticException" ({ cls := "java/lang/Throwable", name := "fillInStackTrace", desc := "(I)Ljava/lang/Throwable;" } : Jvm.MethodName) ({ cls := "java/lang/Throwable", name := "fillInStackTrace", desc := "(I)Ljava/lang/Throwable;" } : Jvm.MethodName)) ∈ gw := gw_in (List.mem_of_getElem? (i := 1057) (by rfl)) (by rfl)
set_option maxRecDepth 20000 in
theorem q1058 : (Jvm.Cond.methodLink "NominatorLaw" (127 : Nat) ({ cls := "Nominator", name := "share", desc := "(I)D" } : Jvm.MethodName)) ∈ gw := gw_in (List.mem_of_getElem? (i := 1058) (by rfl)) (by rfl)
set_option maxRecDepth 20000 in
theorem q1059 : (Jvm.Cond.instanceMethod ({ cls := "Nominator", name := "share", desc := "(I)D" } : Jvm.MethodName)) ∈ gw := gw_in (List.mem_of_getElem? (i := 1059) (by rfl)) (by rfl)
set_option maxRecDepth 20000 in
theorem q1060 : (Jvm.Cond.selects "Nominator" ({ cls := "Nominator", name := "share", desc := "(I)D" } : Jvm.MethodName) ({ cls := "Nominator", name := "share", desc := "(I)D" } : Jvm.MethodName)) ∈ gw := gw_in (List.mem_of_getElem? (i := 1060) (by rfl)) (by rfl)
set_option maxRecDepth 20000 in
theorem q1061 : (Jvm.Cond.code ({ cls := "Nominator", name := "share", desc := "(I)D" } : Jvm.MethodName) prog_1_method_39_code (3 : Nat) (Option.some Jvm.ClassFile.FieldType.double)) ∈ gw := gw_in (List.mem_of_getElem? (i := 1061) (by rfl)) (by rfl)
set_option maxRecDepth 20000 in
theorem q1062 : (Jvm.Cond.methodLink "Nominator" (312 : Nat) ({ cls := "Nominator$Office", name := "votesIn", desc := "(I)I" } : Jvm.MethodName)) ∈ gw := gw_in (List.mem_of_getElem? (i := 1062) (by rfl)) (by rfl)
set_option maxRecDepth 20000 in
theorem q1063 : (Jvm.Cond.classLink "Nominator" (315 : Nat) "java/lang/ArithmeticException") ∈ gw := gw_in (List.mem_of_getElem? (i := 1063) (by rfl)) (by rfl)
set_option maxRecDepth 20000 in
theorem q1065 : (Jvm.Cond.methodLink "Nominator" (319 : Nat) ({ cls := "java/lang/ArithmeticException", name := "<init>", desc := "(Ljava/lang/String;)V" } : Jvm.MethodName)) ∈ gw := gw_in (List.mem_of_getElem? (i := 1065) (by rfl)) (by rfl)
set_option maxRecDepth 20000 in
theorem q1066 : (Jvm.Cond.methodLink "NominatorLaw" (281 : Nat) ({ cls := "NominatorLaw", name := "winner", desc := "(LNominator;I[J)I" } : Jvm.MethodName)) ∈ gw := gw_in (List.mem_of_getElem? (i := 1066) (by rfl)) (by rfl)
set_option maxRecDepth 20000 in
theorem q1067 : (Jvm.Cond.static ({ cls := "NominatorLaw", name := "winner", desc := "(LNominator;I[J)I" } : Jvm.MethodName)) ∈ gw := gw_in (List.mem_of_getElem? (i := 1067) (by rfl)) (by rfl)
set_option maxRecDepth 20000 in
theorem q1068 : (Jvm.Cond.codeWith ({ cls := "NominatorLaw", name := "winner", desc := "(LNominator;I[J)I" } : Jvm.MethodName) method_37_code (4 : Nat) (Option.some Jvm.ClassFile.FieldType.int) [((0 : Nat), (9 : Nat), (12 : Nat), (28 : Nat)), ((0 : Nat), (9 : Nat), (15 : Nat), (15 : Nat)), ((0 : Nat), (9 : Nat), (18 : Nat), (88 : Nat))]) ∈ gw := gw_in (List.mem_of_getElem? (i := 1068) (by rfl)) (by rfl)
set_option maxRecDepth 20000 in
theorem q1069 : (Jvm.Cond.methodLink "NominatorLaw" (133 : Nat) ({ cls := "Nominator", name := "winner", desc := "(I)I" } : Jvm.MethodName)) ∈ gw := gw_in (List.mem_of_getElem? (i := 1069) (by rfl)) (by rfl)
set_option maxRecDepth 20000 in
theorem q1070 : (Jvm.Cond.instanceMethod ({ cls := "Nominator", name := "winner", desc := "(I)I" } : Jvm.MethodName)) ∈ gw := gw_in (List.mem_of_getElem? (i := 1070) (by rfl)) (by rfl)
set_option maxRecDepth 20000 in
theorem q1071 : (Jvm.Cond.selects "Nominator" ({ cls := "Nominator", name := "winner", desc := "(I)I" } : Jvm.MethodName) ({ cls := "Nominator", name := "winner", desc := "(I)I" } : Jvm.MethodName)) ∈ gw := gw_in (List.mem_of_getElem? (i := 1071) (by rfl)) (by rfl)
set_option maxRecDepth 20000 in
theorem q1072 : (Jvm.Cond.code ({ cls := "Nominator", name := "winner", desc := "(I)I" } : Jvm.MethodName) prog_1_method_40_code (3 : Nat) (Option.some Jvm.ClassFile.FieldType.int)) ∈ gw := gw_in (List.mem_of_getElem? (i := 1072) (by rfl)) (by rfl)
set_option maxRecDepth 20000 in
theorem q1074 : (Jvm.Cond.methodLink "Nominator" (331 : Nat) ({ cls := "Nominator$Office", name := "mostVotedIn", desc := "(I)I" } : Jvm.MethodName)) ∈ gw := gw_in (List.mem_of_getElem? (i := 1074) (by rfl)) (by rfl)
set_option maxRecDepth 20000 in
theorem q1075 : (Jvm.Cond.instanceMethod ({ cls := "Nominator$Office", name := "mostVotedIn", desc := "(I)I" } : Jvm.MethodName)) ∈ gw := gw_in (List.mem_of_getElem? (i := 1075) (by rfl)) (by rfl)
set_option maxRecDepth 20000 in
theorem q1076 : (Jvm.Cond.selects "Nominator$Office" ({ cls := "Nominator$Office", name := "mostVotedIn", desc := "(I)I" } : Jvm.MethodName) ({ cls := "Nominator$Office", name := "mostVotedIn", desc := "(I)I" } : Jvm.MethodName)) ∈ gw := gw_in (List.mem_of_getElem? (i := 1076) (by rfl)) (by rfl)
set_option maxRecDepth 20000 in
theorem q1077 : (Jvm.Cond.code ({ cls := "Nominator$Office", name := "mostVotedIn", desc := "(I)I" } : Jvm.MethodName) prog_6_method_30_code (4 : Nat) (Option.some Jvm.ClassFile.FieldType.int)) ∈ gw := gw_in (List.mem_of_getElem? (i := 1077) (by rfl)) (by rfl)
set_option maxRecDepth 20000 in
theorem q1079 : (Jvm.Cond.methodLink "NominatorLaw" (284 : Nat) ({ cls := "NominatorLaw", name := "deposit", desc := "(LNominator;I[J)I" } : Jvm.MethodName)) ∈ gw := gw_in (List.mem_of_getElem? (i := 1079) (by rfl)) (by rfl)
set_option maxRecDepth 20000 in
theorem q1080 : (Jvm.Cond.static ({ cls := "NominatorLaw", name := "deposit", desc := "(LNominator;I[J)I" } : Jvm.MethodName)) ∈ gw := gw_in (List.mem_of_getElem? (i := 1080) (by rfl)) (by rfl)
set_option maxRecDepth 20000 in
theorem q1081 : (Jvm.Cond.codeWith ({ cls := "NominatorLaw", name := "deposit", desc := "(LNominator;I[J)I" } : Jvm.MethodName) method_38_code (4 : Nat) (Option.some Jvm.ClassFile.FieldType.int) [((0 : Nat), (9 : Nat), (12 : Nat), (28 : Nat))]) ∈ gw := gw_in (List.mem_of_getElem? (i := 1081) (by rfl)) (by rfl)
set_option maxRecDepth 20000 in
theorem q1082 : (Jvm.Cond.methodLink "NominatorLaw" (136 : Nat) ({ cls := "Nominator", name := "deposit", desc := "(I)I" } : Jvm.MethodName)) ∈ gw := gw_in (List.mem_of_getElem? (i := 1082) (by rfl)) (by rfl)
set_option maxRecDepth 20000 in
theorem q1083 : (Jvm.Cond.instanceMethod ({ cls := "Nominator", name := "deposit", desc := "(I)I" } : Jvm.MethodName)) ∈ gw := gw_in (List.mem_of_getElem? (i := 1083) (by rfl)) (by rfl)
set_option maxRecDepth 20000 in
theorem q1084 : (Jvm.Cond.selects "Nominator" ({ cls := "Nominator", name := "deposit", desc := "(I)I" } : Jvm.MethodName) ({ cls := "Nominator", name := "deposit", desc := "(I)I" } : Jvm.MethodName)) ∈ gw := gw_in (List.mem_of_getElem? (i := 1084) (by rfl)) (by rfl)
set_option maxRecDepth 20000 in
theorem q1085 : (Jvm.Cond.code ({ cls := "Nominator", name := "deposit", desc := "(I)I" } : Jvm.MethodName) prog_1_method_41_code (2 : Nat) (Option.some Jvm.ClassFile.FieldType.int)) ∈ gw := gw_in (List.mem_of_getElem? (i := 1085) (by rfl)) (by rfl)
set_option maxRecDepth 20000 in
theorem q1086 : (Jvm.Cond.methodLink "Nominator" (336 : Nat) ({ cls := "Nominator$Office", name := "stateOfDeposit", desc := "(I)I" } : Jvm.MethodName)) ∈ gw := gw_in (List.mem_of_getElem? (i := 1086) (by rfl)) (by rfl)
set_option maxRecDepth 20000 in
theorem q1087 : (Jvm.Cond.methodLink "NominatorLaw" (287 : Nat) ({ cls := "NominatorLaw", name := "paid", desc := "(LNominator;I[J)I" } : Jvm.MethodName)) ∈ gw := gw_in (List.mem_of_getElem? (i := 1087) (by rfl)) (by rfl)
set_option maxRecDepth 20000 in
theorem q1088 : (Jvm.Cond.static ({ cls := "NominatorLaw", name := "paid", desc := "(LNominator;I[J)I" } : Jvm.MethodName)) ∈ gw := gw_in (List.mem_of_getElem? (i := 1088) (by rfl)) (by rfl)
set_option maxRecDepth 20000 in
theorem q1089 : (Jvm.Cond.codeWith ({ cls := "NominatorLaw", name := "paid", desc := "(LNominator;I[J)I" } : Jvm.MethodName) method_39_code (4 : Nat) (Option.some Jvm.ClassFile.FieldType.int) [((0 : Nat), (9 : Nat), (12 : Nat), (28 : Nat))]) ∈ gw := gw_in (List.mem_of_getElem? (i := 1089) (by rfl)) (by rfl)
set_option maxRecDepth 20000 in
theorem q1090 : (Jvm.Cond.methodLink "NominatorLaw" (139 : Nat) ({ cls := "Nominator", name := "paid", desc := "(I)I" } : Jvm.MethodName)) ∈ gw := gw_in (List.mem_of_getElem? (i := 1090) (by rfl)) (by rfl)
set_option maxRecDepth 20000 in
theorem q1091 : (Jvm.Cond.instanceMethod ({ cls := "Nominator", name := "paid", desc := "(I)I" } : Jvm.MethodName)) ∈ gw := gw_in (List.mem_of_getElem? (i := 1091) (by rfl)) (by rfl)
set_option maxRecDepth 20000 in
theorem q1092 : (Jvm.Cond.selects "Nominator" ({ cls := "Nominator", name := "paid", desc := "(I)I" } : Jvm.MethodName) ({ cls := "Nominator", name := "paid", desc := "(I)I" } : Jvm.MethodName)) ∈ gw := gw_in (List.mem_of_getElem? (i := 1092) (by rfl)) (by rfl)
set_option maxRecDepth 20000 in
theorem q1093 : (Jvm.Cond.code ({ cls := "Nominator", name := "paid", desc := "(I)I" } : Jvm.MethodName) prog_1_method_42_code (2 : Nat) (Option.some Jvm.ClassFile.FieldType.int)) ∈ gw := gw_in (List.mem_of_getElem? (i := 1093) (by rfl)) (by rfl)
set_option maxRecDepth 20000 in
theorem q1094 : (Jvm.Cond.methodLink "NominatorLaw" (298 : Nat) ({ cls := "NominatorLaw", name := "lostShare", desc := "(LNominator;[D)I" } : Jvm.MethodName)) ∈ gw := gw_in (List.mem_of_getElem? (i := 1094) (by rfl)) (by rfl)
set_option maxRecDepth 20000 in
theorem q1095 : (Jvm.Cond.static ({ cls := "NominatorLaw", name := "lostShare", desc := "(LNominator;[D)I" } : Jvm.MethodName)) ∈ gw := gw_in (List.mem_of_getElem? (i := 1095) (by rfl)) (by rfl)
set_option maxRecDepth 20000 in
theorem q1096 : (Jvm.Cond.codeWith ({ cls := "NominatorLaw", name := "lostShare", desc := "(LNominator;[D)I" } : Jvm.MethodName) method_40_code (3 : Nat) (Option.some Jvm.ClassFile.FieldType.int) [((0 : Nat), (8 : Nat), (11 : Nat), (131 : Nat))]) ∈ gw := gw_in (List.mem_of_getElem? (i := 1096) (by rfl)) (by rfl)
set_option maxRecDepth 20000 in
theorem q1097 : (Jvm.Cond.methodLink "NominatorLaw" (142 : Nat) ({ cls := "Nominator", name := "lostShare", desc := "()F" } : Jvm.MethodName)) ∈ gw := gw_in (List.mem_of_getElem? (i := 1097) (by rfl)) (by rfl)
set_option maxRecDepth 20000 in
theorem q1098 : (Jvm.Cond.instanceMethod ({ cls := "Nominator", name := "lostShare", desc := "()F" } : Jvm.MethodName)) ∈ gw := gw_in (List.mem_of_getElem? (i := 1098) (by rfl)) (by rfl)
set_option maxRecDepth 20000 in
theorem q1099 : (Jvm.Cond.selects "Nominator" ({ cls := "Nominator", name := "lostShare", desc := "()F" } : Jvm.MethodName) ({ cls := "Nominator", name := "lostShare", desc := "()F" } : Jvm.MethodName)) ∈ gw := gw_in (List.mem_of_getElem? (i := 1099) (by rfl)) (by rfl)
set_option maxRecDepth 20000 in
theorem q1100 : (Jvm.Cond.code ({ cls := "Nominator", name := "lostShare", desc := "()F" } : Jvm.MethodName) prog_1_method_45_code (2 : Nat) (Option.some Jvm.ClassFile.FieldType.float)) ∈ gw := gw_in (List.mem_of_getElem? (i := 1100) (by rfl)) (by rfl)
set_option maxRecDepth 20000 in
theorem q1101 : (Jvm.Cond.methodLink "Nominator" (342 : Nat) ({ cls := "Nominator$Office", name := "sumPaid", desc := "()I" } : Jvm.MethodName)) ∈ gw := gw_in (List.mem_of_getElem? (i := 1101) (by rfl)) (by rfl)
set_option maxRecDepth 20000 in
theorem q1102 : (Jvm.Cond.instanceMethod ({ cls := "Nominator$Office", name := "sumPaid", desc := "()I" } : Jvm.MethodName)) ∈ gw := gw_in (List.mem_of_getElem? (i := 1102) (by rfl)) (by rfl)
set_option maxRecDepth 20000 in
theorem q1103 : (Jvm.Cond.selects "Nominator$Office" ({ cls := "Nominator$Office", name := "sumPaid", desc := "()I" } : Jvm.MethodName) ({ cls := "Nominator$Office", name := "sumPaid", desc := "()I" } : Jvm.MethodName)) ∈ gw := gw_in (List.mem_of_getElem? (i := 1103) (by rfl)) (by rfl)
set_option maxRecDepth 20000 in
theorem q1104 : (Jvm.Cond.code ({ cls := "Nominator$Office", name := "sumPaid", desc := "()I" } : Jvm.MethodName) prog_6_method_34_code (3 : Nat) (Option.some Jvm.ClassFile.FieldType.int)) ∈ gw := gw_in (List.mem_of_getElem? (i := 1104) (by rfl)) (by rfl)
set_option maxRecDepth 20000 in
theorem q1106 : (Jvm.Cond.classLink "NominatorLaw" (147 : Nat) "NominatorModel") ∈ gw := gw_in (List.mem_of_getElem? (i := 1106) (by rfl)) (by rfl)
set_option maxRecDepth 20000 in
theorem q1107 : (Jvm.Cond.instantiable "NominatorModel" (31 : Nat)) ∈ gw := gw_in (List.mem_of_getElem? (i := 1107) (by rfl)) (by rfl)
set_option maxRecDepth 20000 in
theorem q1108 : (Jvm.Cond.methodLink "NominatorLaw" (149 : Nat) ({ cls := "NominatorModel", name := "<init>", desc := "()V" } : Jvm.MethodName)) ∈ gw := gw_in (List.mem_of_getElem? (i := 1108) (by rfl)) (by rfl)
set_option maxRecDepth 20000 in
theorem q1109 : (Jvm.Cond.instanceMethod ({ cls := "NominatorModel", name := "<init>", desc := "()V" } : Jvm.MethodName)) ∈ gw := gw_in (List.mem_of_getElem? (i := 1109) (by rfl)) (by rfl)
set_option maxRecDepth 20000 in
theorem q1110 : (Jvm.Cond.code ({ cls := "NominatorModel", name := "<init>", desc := "()V" } : Jvm.MethodName) prog_12_method_1_code (1 : Nat) (Option.none : Option Jvm.ClassFile.FieldType)) ∈ gw := gw_in (List.mem_of_getElem? (i := 1110) (by rfl)) (by rfl)
set_option maxRecDepth 20000 in
theorem q1111 : (Jvm.Cond.methodLink "NominatorModel" (1 : Nat) ({ cls := "java/lang/Object", name := "<init>", desc := "()V" } : Jvm.MethodName)) ∈ gw := gw_in (List.mem_of_getElem? (i := 1111) (by rfl)) (by rfl)
set_option maxRecDepth 20000 in
theorem q1112 : (Jvm.Cond.fieldLink "NominatorModel" (85 : Nat) "NominatorModel" "code" "I") ∈ gw := gw_in (List.mem_of_getElem? (i := 1112) (by rfl)) (by rfl)
set_option maxRecDepth 20000 in
theorem q1113 : (Jvm.Cond.fieldLink "NominatorModel" (7 : Nat) "NominatorModel" "closing" "I") ∈ gw := gw_in (List.mem_of_getElem? (i := 1113) (by rfl)) (by rfl)
set_option maxRecDepth 20000 in
theorem q1114 : (Jvm.Cond.fieldLink "NominatorModel" (13 : Nat) "NominatorModel" "changes" "I") ∈ gw := gw_in (List.mem_of_getElem? (i := 1114) (by rfl)) (by rfl)
set_option maxRecDepth 20000 in
theorem q1115 : (Jvm.Cond.fieldLink "NominatorModel" (16 : Nat) "NominatorModel" "polling" "I") ∈ gw := gw_in (List.mem_of_getElem? (i := 1115) (by rfl)) (by rfl)
set_option maxRecDepth 20000 in
theorem q1116 : (Jvm.Cond.fieldLink "NominatorModel" (101 : Nat) "NominatorModel" "today" "I") ∈ gw := gw_in (List.mem_of_getElem? (i := 1116) (by rfl)) (by rfl)
set_option maxRecDepth 20000 in
theorem q1117 : (Jvm.Cond.fieldLink "NominatorModel" (88 : Nat) "NominatorModel" "areas" "I") ∈ gw := gw_in (List.mem_of_getElem? (i := 1117) (by rfl)) (by rfl)
set_option maxRecDepth 20000 in
theorem q1118 : (Jvm.Cond.fieldLink "NominatorModel" (19 : Nat) "NominatorModel" "needed" "[I") ∈ gw := gw_in (List.mem_of_getElem? (i := 1118) (by rfl)) (by rfl)
set_option maxRecDepth 20000 in
theorem q1119 : (Jvm.Cond.fieldLink "NominatorModel" (23 : Nat) "NominatorModel" "price" "[I") ∈ gw := gw_in (List.mem_of_getElem? (i := 1119) (by rfl)) (by rfl)
set_option maxRecDepth 20000 in
theorem q1120 : (Jvm.Cond.fieldLink "NominatorModel" (26 : Nat) "NominatorModel" "finished" "[Z") ∈ gw := gw_in (List.mem_of_getElem? (i := 1120) (by rfl)) (by rfl)
set_option maxRecDepth 20000 in
theorem q1121 : (Jvm.Cond.fieldLink "NominatorModel" (95 : Nat) "NominatorModel" "voters" "I") ∈ gw := gw_in (List.mem_of_getElem? (i := 1121) (by rfl)) (by rfl)
set_option maxRecDepth 20000 in
theorem q1122 : (Jvm.Cond.fieldLink "NominatorModel" (30 : Nat) "NominatorModel" "home" "[I") ∈ gw := gw_in (List.mem_of_getElem? (i := 1122) (by rfl)) (by rfl)
set_option maxRecDepth 20000 in
theorem q1123 : (Jvm.Cond.fieldLink "NominatorModel" (33 : Nat) "NominatorModel" "struck" "[Z") ∈ gw := gw_in (List.mem_of_getElem? (i := 1123) (by rfl)) (by rfl)
set_option maxRecDepth 20000 in
theorem q1124 : (Jvm.Cond.fieldLink "NominatorModel" (98 : Nat) "NominatorModel" "papers" "I") ∈ gw := gw_in (List.mem_of_getElem? (i := 1124) (by rfl)) (by rfl)
set_option maxRecDepth 20000 in
theorem q1125 : (Jvm.Cond.fieldLink "NominatorModel" (36 : Nat) "NominatorModel" "area" "[I") ∈ gw := gw_in (List.mem_of_getElem? (i := 1125) (by rfl)) (by rfl)
set_option maxRecDepth 20000 in
theorem q1126 : (Jvm.Cond.fieldLink "NominatorModel" (39 : Nat) "NominatorModel" "party" "[I") ∈ gw := gw_in (List.mem_of_getElem? (i := 1126) (by rfl)) (by rfl)
set_option maxRecDepth 20000 in
theorem q1127 : (Jvm.Cond.fieldLink "NominatorModel" (42 : Nat) "NominatorModel" "names" "[C") ∈ gw := gw_in (List.mem_of_getElem? (i := 1127) (by rfl)) (by rfl)
set_option maxRecDepth 20000 in
theorem q1128 : (Jvm.Cond.fieldLink "NominatorModel" (46 : Nat) "NominatorModel" "withdrawn" "[I") ∈ gw := gw_in (List.mem_of_getElem? (i := 1128) (by rfl)) (by rfl)
set_option maxRecDepth 20000 in
theorem q1129 : (Jvm.Cond.fieldLink "NominatorModel" (49 : Nat) "NominatorModel" "money" "[I") ∈ gw := gw_in (List.mem_of_getElem? (i := 1129) (by rfl)) (by rfl)
set_option maxRecDepth 20000 in
theorem q1130 : (Jvm.Cond.fieldLink "NominatorModel" (52 : Nat) "NominatorModel" "dead" "[Z") ∈ gw := gw_in (List.mem_of_getElem? (i := 1130) (by rfl)) (by rfl)
set_option maxRecDepth 20000 in
theorem q1131 : (Jvm.Cond.fieldLink "NominatorModel" (55 : Nat) "NominatorModel" "replaced" "[I") ∈ gw := gw_in (List.mem_of_getElem? (i := 1131) (by rfl)) (by rfl)
set_option maxRecDepth 20000 in
theorem q1132 : (Jvm.Cond.fieldLink "NominatorModel" (58 : Nat) "NominatorModel" "count" "[I") ∈ gw := gw_in (List.mem_of_getElem? (i := 1132) (by rfl)) (by rfl)
set_option maxRecDepth 20000 in
theorem q1133 : (Jvm.Cond.fieldLink "NominatorModel" (61 : Nat) "NominatorModel" "verdict" "[I") ∈ gw := gw_in (List.mem_of_getElem? (i := 1133) (by rfl)) (by rfl)
set_option maxRecDepth 20000 in
theorem q1134 : (Jvm.Cond.fieldLink "NominatorModel" (115 : Nat) "NominatorModel" "signatures" "I") ∈ gw := gw_in (List.mem_of_getElem? (i := 1134) (by rfl)) (by rfl)
set_option maxRecDepth 20000 in
theorem q1135 : (Jvm.Cond.fieldLink "NominatorModel" (64 : Nat) "NominatorModel" "signed" "[I") ∈ gw := gw_in (List.mem_of_getElem? (i := 1135) (by rfl)) (by rfl)
set_option maxRecDepth 20000 in
theorem q1136 : (Jvm.Cond.fieldLink "NominatorModel" (67 : Nat) "NominatorModel" "signer" "[I") ∈ gw := gw_in (List.mem_of_getElem? (i := 1136) (by rfl)) (by rfl)
set_option maxRecDepth 20000 in
theorem q1137 : (Jvm.Cond.fieldLink "NominatorModel" (70 : Nat) "NominatorModel" "local" "[Z") ∈ gw := gw_in (List.mem_of_getElem? (i := 1137) (by rfl)) (by rfl)
set_option maxRecDepth 20000 in
theorem q1138 : (Jvm.Cond.fieldLink "NominatorModel" (73 : Nat) "NominatorModel" "fixed" "[I") ∈ gw := gw_in (List.mem_of_getElem? (i := 1138) (by rfl)) (by rfl)
set_option maxRecDepth 20000 in
theorem q1139 : (Jvm.Cond.fieldLink "NominatorModel" (186 : Nat) "NominatorModel" "drawn" "Z") ∈ gw := gw_in (List.mem_of_getElem? (i := 1139) (by rfl)) (by rfl)
set_option maxRecDepth 20000 in
theorem q1140 : (Jvm.Cond.fieldLink "NominatorModel" (76 : Nat) "NominatorModel" "letters" "[C") ∈ gw := gw_in (List.mem_of_getElem? (i := 1140) (by rfl)) (by rfl)
set_option maxRecDepth 20000 in
theorem q1141 : (Jvm.Cond.fieldLink "NominatorModel" (79 : Nat) "NominatorModel" "list" "[I") ∈ gw := gw_in (List.mem_of_getElem? (i := 1141) (by rfl)) (by rfl)
set_option maxRecDepth 20000 in
theorem q1142 : (Jvm.Cond.fieldLink "NominatorModel" (82 : Nat) "NominatorModel" "why" "[I") ∈ gw := gw_in (List.mem_of_getElem? (i := 1142) (by rfl)) (by rfl)
set_option maxRecDepth 20000 in
theorem q1143 : (Jvm.Cond.lays "NominatorModel" "NominatorModel" "code" "I") ∈ gw := gw_in (List.mem_of_getElem? (i := 1143) (by rfl)) (by rfl)
set_option maxRecDepth 20000 in
theorem q1145 : (Jvm.Cond.lays "NominatorModel" "NominatorModel" "closing" "I") ∈ gw := gw_in (List.mem_of_getElem? (i := 1145) (by rfl)) (by rfl)
set_option maxRecDepth 20000 in
theorem q1147 : (Jvm.Cond.lays "NominatorModel" "NominatorModel" "changes" "I") ∈ gw := gw_in (List.mem_of_getElem? (i := 1147) (by rfl)) (by rfl)
set_option maxRecDepth 20000 in
theorem q1149 : (Jvm.Cond.lays "NominatorModel" "NominatorModel" "polling" "I") ∈ gw := gw_in (List.mem_of_getElem? (i := 1149) (by rfl)) (by rfl)
set_option maxRecDepth 20000 in
theorem q1151 : (Jvm.Cond.lays "NominatorModel" "NominatorModel" "today" "I") ∈ gw := gw_in (List.mem_of_getElem? (i := 1151) (by rfl)) (by rfl)
set_option maxRecDepth 20000 in
theorem q1153 : (Jvm.Cond.lays "NominatorModel" "NominatorModel" "areas" "I") ∈ gw := gw_in (List.mem_of_getElem? (i := 1153) (by rfl)) (by rfl)
set_option maxRecDepth 20000 in
theorem q1155 : (Jvm.Cond.laysFinal "NominatorModel" "NominatorModel" "needed" "[I") ∈ gw := gw_in (List.mem_of_getElem? (i := 1155) (by rfl)) (by rfl)
set_option maxRecDepth 20000 in
theorem q1157 : (Jvm.Cond.laysFinal "NominatorModel" "NominatorModel" "price" "[I") ∈ gw := gw_in (List.mem_of_getElem? (i := 1157) (by rfl)) (by rfl)
set_option maxRecDepth 20000 in
theorem q1159 : (Jvm.Cond.laysFinal "NominatorModel" "NominatorModel" "finished" "[Z") ∈ gw := gw_in (List.mem_of_getElem? (i := 1159) (by rfl)) (by rfl)
set_option maxRecDepth 20000 in
theorem q1161 : (Jvm.Cond.lays "NominatorModel" "NominatorModel" "voters" "I") ∈ gw := gw_in (List.mem_of_getElem? (i := 1161) (by rfl)) (by rfl)
set_option maxRecDepth 20000 in
theorem q1163 : (Jvm.Cond.laysFinal "NominatorModel" "NominatorModel" "home" "[I") ∈ gw := gw_in (List.mem_of_getElem? (i := 1163) (by rfl)) (by rfl)
set_option maxRecDepth 20000 in
theorem q1165 : (Jvm.Cond.laysFinal "NominatorModel" "NominatorModel" "struck" "[Z") ∈ gw := gw_in (List.mem_of_getElem? (i := 1165) (by rfl)) (by rfl)
set_option maxRecDepth 20000 in
theorem q1167 : (Jvm.Cond.lays "NominatorModel" "NominatorModel" "papers" "I") ∈ gw := gw_in (List.mem_of_getElem? (i := 1167) (by rfl)) (by rfl)
set_option maxRecDepth 20000 in
theorem q1169 : (Jvm.Cond.laysFinal "NominatorModel" "NominatorModel" "area" "[I") ∈ gw := gw_in (List.mem_of_getElem? (i := 1169) (by rfl)) (by rfl)
set_option maxRecDepth 20000 in
theorem q1171 : (Jvm.Cond.laysFinal "NominatorModel" "NominatorModel" "party" "[I") ∈ gw := gw_in (List.mem_of_getElem? (i := 1171) (by rfl)) (by rfl)
set_option maxRecDepth 20000 in
theorem q1173 : (Jvm.Cond.laysFinal "NominatorModel" "NominatorModel" "names" "[C") ∈ gw := gw_in (List.mem_of_getElem? (i := 1173) (by rfl)) (by rfl)
set_option maxRecDepth 20000 in
theorem q1175 : (Jvm.Cond.laysFinal "NominatorModel" "NominatorModel" "withdrawn" "[I") ∈ gw := gw_in (List.mem_of_getElem? (i := 1175) (by rfl)) (by rfl)
set_option maxRecDepth 20000 in
theorem q1177 : (Jvm.Cond.laysFinal "NominatorModel" "NominatorModel" "money" "[I") ∈ gw := gw_in (List.mem_of_getElem? (i := 1177) (by rfl)) (by rfl)
set_option maxRecDepth 20000 in
theorem q1179 : (Jvm.Cond.laysFinal "NominatorModel" "NominatorModel" "dead" "[Z") ∈ gw := gw_in (List.mem_of_getElem? (i := 1179) (by rfl)) (by rfl)
set_option maxRecDepth 20000 in
theorem q1181 : (Jvm.Cond.laysFinal "NominatorModel" "NominatorModel" "replaced" "[I") ∈ gw := gw_in (List.mem_of_getElem? (i := 1181) (by rfl)) (by rfl)
set_option maxRecDepth 20000 in
theorem q1183 : (Jvm.Cond.laysFinal "NominatorModel" "NominatorModel" "count" "[I") ∈ gw := gw_in (List.mem_of_getElem? (i := 1183) (by rfl)) (by rfl)
set_option maxRecDepth 20000 in
theorem q1185 : (Jvm.Cond.laysFinal "NominatorModel" "NominatorModel" "verdict" "[I") ∈ gw := gw_in (List.mem_of_getElem? (i := 1185) (by rfl)) (by rfl)
set_option maxRecDepth 20000 in
theorem q1187 : (Jvm.Cond.lays "NominatorModel" "NominatorModel" "signatures" "I") ∈ gw := gw_in (List.mem_of_getElem? (i := 1187) (by rfl)) (by rfl)
set_option maxRecDepth 20000 in
theorem q1189 : (Jvm.Cond.laysFinal "NominatorModel" "NominatorModel" "signed" "[I") ∈ gw := gw_in (List.mem_of_getElem? (i := 1189) (by rfl)) (by rfl)
set_option maxRecDepth 20000 in
theorem q1191 : (Jvm.Cond.laysFinal "NominatorModel" "NominatorModel" "signer" "[I") ∈ gw := gw_in (List.mem_of_getElem? (i := 1191) (by rfl)) (by rfl)
set_option maxRecDepth 20000 in
theorem q1193 : (Jvm.Cond.laysFinal "NominatorModel" "NominatorModel" "local" "[Z") ∈ gw := gw_in (List.mem_of_getElem? (i := 1193) (by rfl)) (by rfl)
set_option maxRecDepth 20000 in
theorem q1195 : (Jvm.Cond.laysFinal "NominatorModel" "NominatorModel" "fixed" "[I") ∈ gw := gw_in (List.mem_of_getElem? (i := 1195) (by rfl)) (by rfl)
set_option maxRecDepth 20000 in
theorem q1197 : (Jvm.Cond.lays "NominatorModel" "NominatorModel" "drawn" "Z") ∈ gw := gw_in (List.mem_of_getElem? (i := 1197) (by rfl)) (by rfl)
set_option maxRecDepth 20000 in
theorem q1199 : (Jvm.Cond.laysFinal "NominatorModel" "NominatorModel" "letters" "[C") ∈ gw := gw_in (List.mem_of_getElem? (i := 1199) (by rfl)) (by rfl)
set_option maxRecDepth 20000 in
theorem q1201 : (Jvm.Cond.laysFinal "NominatorModel" "NominatorModel" "list" "[I") ∈ gw := gw_in (List.mem_of_getElem? (i := 1201) (by rfl)) (by rfl)
set_option maxRecDepth 20000 in
theorem q1203 : (Jvm.Cond.laysFinal "NominatorModel" "NominatorModel" "why" "[I") ∈ gw := gw_in (List.mem_of_getElem? (i := 1203) (by rfl)) (by rfl)
set_option maxRecDepth 20000 in
theorem q1206 : (Jvm.Cond.arrayClass Jvm.ClassFile.FieldType.boolean) ∈ gw := gw_in (List.mem_of_getElem? (i := 1206) (by rfl)) (by rfl)
set_option maxRecDepth 20000 in
theorem q1207 : (Jvm.Cond.methodLink "NominatorLaw" (156 : Nat) ({ cls := "NominatorModel", name := "thrown", desc := "()I" } : Jvm.MethodName)) ∈ gw := gw_in (List.mem_of_getElem? (i := 1207) (by rfl)) (by rfl)
set_option maxRecDepth 20000 in
theorem q1208 : (Jvm.Cond.instanceMethod ({ cls := "NominatorModel", name := "thrown", desc := "()I" } : Jvm.MethodName)) ∈ gw := gw_in (List.mem_of_getElem? (i := 1208) (by rfl)) (by rfl)
set_option maxRecDepth 20000 in
theorem q1209 : (Jvm.Cond.selects "NominatorModel" ({ cls := "NominatorModel", name := "thrown", desc := "()I" } : Jvm.MethodName) ({ cls := "NominatorModel", name := "thrown", desc := "()I" } : Jvm.MethodName)) ∈ gw := gw_in (List.mem_of_getElem? (i := 1209) (by rfl)) (by rfl)
set_option maxRecDepth 20000 in
theorem q1210 : (Jvm.Cond.code ({ cls := "NominatorModel", name := "thrown", desc := "()I" } : Jvm.MethodName) prog_12_method_2_code (1 : Nat) (Option.some Jvm.ClassFile.FieldType.int)) ∈ gw := gw_in (List.mem_of_getElem? (i := 1210) (by rfl)) (by rfl)
set_option maxRecDepth 20000 in
theorem q1211 : (Jvm.Cond.methodLink "NominatorLaw" (155 : Nat) ({ cls := "NominatorModel", name := "setCalendar", desc := "(III)I" } : Jvm.MethodName)) ∈ gw := gw_in (List.mem_of_getElem? (i := 1211) (by rfl)) (by rfl)
set_option maxRecDepth 20000 in
theorem q1212 : (Jvm.Cond.instanceMethod ({ cls := "NominatorModel", name := "setCalendar", desc := "(III)I" } : Jvm.MethodName)) ∈ gw := gw_in (List.mem_of_getElem? (i := 1212) (by rfl)) (by rfl)
set_option maxRecDepth 20000 in
theorem q1213 : (Jvm.Cond.selects "NominatorModel" ({ cls := "NominatorModel", name := "setCalendar", desc := "(III)I" } : Jvm.MethodName) ({ cls := "NominatorModel", name := "setCalendar", desc := "(III)I" } : Jvm.MethodName)) ∈ gw := gw_in (List.mem_of_getElem? (i := 1213) (by rfl)) (by rfl)
set_option maxRecDepth 20000 in
theorem q1214 : (Jvm.Cond.code ({ cls := "NominatorModel", name := "setCalendar", desc := "(III)I" } : Jvm.MethodName) prog_12_method_9_code (5 : Nat) (Option.some Jvm.ClassFile.FieldType.int)) ∈ gw := gw_in (List.mem_of_getElem? (i := 1214) (by rfl)) (by rfl)
set_option maxRecDepth 20000 in
theorem q1215 : (Jvm.Cond.methodLink "NominatorModel" (104 : Nat) ({ cls := "NominatorModel", name := "fails", desc := "(I)I" } : Jvm.MethodName)) ∈ gw := gw_in (List.mem_of_getElem? (i := 1215) (by rfl)) (by rfl)
set_option maxRecDepth 20000 in
theorem q1217 : (Jvm.Cond.instanceMethod ({ cls := "NominatorModel", name := "fails", desc := "(I)I" } : Jvm.MethodName)) ∈ gw := gw_in (List.mem_of_getElem? (i := 1217) (by rfl)) (by rfl)
set_option maxRecDepth 20000 in
theorem q1218 : (Jvm.Cond.code ({ cls := "NominatorModel", name := "fails", desc := "(I)I" } : Jvm.MethodName) prog_12_method_8_code (2 : Nat) (Option.some Jvm.ClassFile.FieldType.int)) ∈ gw := gw_in (List.mem_of_getElem? (i := 1218) (by rfl)) (by rfl)
set_option maxRecDepth 20000 in
theorem q1219 : (Jvm.Cond.methodLink "NominatorLaw" (163 : Nat) ({ cls := "NominatorModel", name := "pass", desc := "(I)I" } : Jvm.MethodName)) ∈ gw := gw_in (List.mem_of_getElem? (i := 1219) (by rfl)) (by rfl)
set_option maxRecDepth 20000 in
theorem q1220 : (Jvm.Cond.instanceMethod ({ cls := "NominatorModel", name := "pass", desc := "(I)I" } : Jvm.MethodName)) ∈ gw := gw_in (List.mem_of_getElem? (i := 1220) (by rfl)) (by rfl)
set_option maxRecDepth 20000 in
theorem q1221 : (Jvm.Cond.selects "NominatorModel" ({ cls := "NominatorModel", name := "pass", desc := "(I)I" } : Jvm.MethodName) ({ cls := "NominatorModel", name := "pass", desc := "(I)I" } : Jvm.MethodName)) ∈ gw := gw_in (List.mem_of_getElem? (i := 1221) (by rfl)) (by rfl)
set_option maxRecDepth 20000 in
theorem q1222 : (Jvm.Cond.code ({ cls := "NominatorModel", name := "pass", desc := "(I)I" } : Jvm.MethodName) prog_12_method_10_code (2 : Nat) (Option.some Jvm.ClassFile.FieldType.int)) ∈ gw := gw_in (List.mem_of_getElem? (i := 1222) (by rfl)) (by rfl)
set_option maxRecDepth 20000 in
theorem q1223 : (Jvm.Cond.methodLink "NominatorModel" (91 : Nat) ({ cls := "NominatorModel", name := "isIn", desc := "(III)Z" } : Jvm.MethodName)) ∈ gw := gw_in (List.mem_of_getElem? (i := 1223) (by rfl)) (by rfl)
set_option maxRecDepth 20000 in
theorem q1224 : (Jvm.Cond.static ({ cls := "NominatorModel", name := "isIn", desc := "(III)Z" } : Jvm.MethodName)) ∈ gw := gw_in (List.mem_of_getElem? (i := 1224) (by rfl)) (by rfl)
set_option maxRecDepth 20000 in
theorem q1225 : (Jvm.Cond.code ({ cls := "NominatorModel", name := "isIn", desc := "(III)Z" } : Jvm.MethodName) prog_12_method_3_code (3 : Nat) (Option.some Jvm.ClassFile.FieldType.boolean)) ∈ gw := gw_in (List.mem_of_getElem? (i := 1225) (by rfl)) (by rfl)
set_option maxRecDepth 20000 in
theorem q1226 : (Jvm.Cond.methodLink "NominatorModel" (108 : Nat) ({ cls := "NominatorModel", name := "open", desc := "()Z" } : Jvm.MethodName)) ∈ gw := gw_in (List.mem_of_getElem? (i := 1226) (by rfl)) (by rfl)
set_option maxRecDepth 20000 in
theorem q1228 : (Jvm.Cond.instanceMethod ({ cls := "NominatorModel", name := "open", desc := "()Z" } : Jvm.MethodName)) ∈ gw := gw_in (List.mem_of_getElem? (i := 1228) (by rfl)) (by rfl)
set_option maxRecDepth 20000 in
theorem q1229 : (Jvm.Cond.code ({ cls := "NominatorModel", name := "open", desc := "()Z" } : Jvm.MethodName) prog_12_method_7_code (1 : Nat) (Option.some Jvm.ClassFile.FieldType.boolean)) ∈ gw := gw_in (List.mem_of_getElem? (i := 1229) (by rfl)) (by rfl)
set_option maxRecDepth 20000 in
theorem q1230 : (Jvm.Cond.methodLink "NominatorModel" (112 : Nat) ({ cls := "NominatorModel", name := "close", desc := "()V" } : Jvm.MethodName)) ∈ gw := gw_in (List.mem_of_getElem? (i := 1230) (by rfl)) (by rfl)
set_option maxRecDepth 20000 in
theorem q1232 : (Jvm.Cond.instanceMethod ({ cls := "NominatorModel", name := "close", desc := "()V" } : Jvm.MethodName)) ∈ gw := gw_in (List.mem_of_getElem? (i := 1232) (by rfl)) (by rfl)
set_option maxRecDepth 20000 in
theorem q1233 : (Jvm.Cond.code ({ cls := "NominatorModel", name := "close", desc := "()V" } : Jvm.MethodName) prog_12_method_11_code (2 : Nat) (Option.none : Option Jvm.ClassFile.FieldType)) ∈ gw := gw_in (List.mem_of_getElem? (i := 1233) (by rfl)) (by rfl)
set_option maxRecDepth 20000 in
theorem q1234 : (Jvm.Cond.methodLink "NominatorModel" (118 : Nat) ({ cls := "NominatorModel", name := "openResult", desc := "(II)I" } : Jvm.MethodName)) ∈ gw := gw_in (List.mem_of_getElem? (i := 1234) (by rfl)) (by rfl)
set_option maxRecDepth 20000 in
theorem q1236 : (Jvm.Cond.instanceMethod ({ cls := "NominatorModel", name := "openResult", desc := "(II)I" } : Jvm.MethodName)) ∈ gw := gw_in (List.mem_of_getElem? (i := 1236) (by rfl)) (by rfl)
set_option maxRecDepth 20000 in
theorem q1237 : (Jvm.Cond.code ({ cls := "NominatorModel", name := "openResult", desc := "(II)I" } : Jvm.MethodName) prog_12_method_39_code (3 : Nat) (Option.some Jvm.ClassFile.FieldType.int)) ∈ gw := gw_in (List.mem_of_getElem? (i := 1237) (by rfl)) (by rfl)
set_option maxRecDepth 20000 in
theorem q1238 : (Jvm.Cond.methodLink "NominatorModel" (161 : Nat) ({ cls := "NominatorModel", name := "isGone", desc := "(II)Z" } : Jvm.MethodName)) ∈ gw := gw_in (List.mem_of_getElem? (i := 1238) (by rfl)) (by rfl)
set_option maxRecDepth 20000 in
theorem q1240 : (Jvm.Cond.instanceMethod ({ cls := "NominatorModel", name := "isGone", desc := "(II)Z" } : Jvm.MethodName)) ∈ gw := gw_in (List.mem_of_getElem? (i := 1240) (by rfl)) (by rfl)
set_option maxRecDepth 20000 in
theorem q1241 : (Jvm.Cond.code ({ cls := "NominatorModel", name := "isGone", desc := "(II)Z" } : Jvm.MethodName) prog_12_method_37_code (3 : Nat) (Option.some Jvm.ClassFile.FieldType.boolean)) ∈ gw := gw_in (List.mem_of_getElem? (i := 1241) (by rfl)) (by rfl)
set_option maxRecDepth 20000 in
theorem q1242 : (Jvm.Cond.methodLink "NominatorModel" (165 : Nat) ({ cls := "NominatorModel", name := "isFree", desc := "(III)Z" } : Jvm.MethodName)) ∈ gw := gw_in (List.mem_of_getElem? (i := 1242) (by rfl)) (by rfl)
set_option maxRecDepth 20000 in
theorem q1244 : (Jvm.Cond.instanceMethod ({ cls := "NominatorModel", name := "isFree", desc := "(III)Z" } : Jvm.MethodName)) ∈ gw := gw_in (List.mem_of_getElem? (i := 1244) (by rfl)) (by rfl)
set_option maxRecDepth 20000 in
theorem q1245 : (Jvm.Cond.code ({ cls := "NominatorModel", name := "isFree", desc := "(III)Z" } : Jvm.MethodName) prog_12_method_38_code (5 : Nat) (Option.some Jvm.ClassFile.FieldType.boolean)) ∈ gw := gw_in (List.mem_of_getElem? (i := 1245) (by rfl)) (by rfl)
set_option maxRecDepth 20000 in
theorem q1246 : (Jvm.Cond.methodLink "NominatorModel" (122 : Nat) ({ cls := "NominatorModel", name := "openReason", desc := "(I)I" } : Jvm.MethodName)) ∈ gw := gw_in (List.mem_of_getElem? (i := 1246) (by rfl)) (by rfl)
set_option maxRecDepth 20000 in
theorem q1248 : (Jvm.Cond.instanceMethod ({ cls := "NominatorModel", name := "openReason", desc := "(I)I" } : Jvm.MethodName)) ∈ gw := gw_in (List.mem_of_getElem? (i := 1248) (by rfl)) (by rfl)
set_option maxRecDepth 20000 in
theorem q1249 : (Jvm.Cond.code ({ cls := "NominatorModel", name := "openReason", desc := "(I)I" } : Jvm.MethodName) prog_12_method_51_code (5 : Nat) (Option.some Jvm.ClassFile.FieldType.int)) ∈ gw := gw_in (List.mem_of_getElem? (i := 1249) (by rfl)) (by rfl)
set_option maxRecDepth 20000 in
theorem q1250 : (Jvm.Cond.methodLink "NominatorModel" (171 : Nat) ({ cls := "NominatorModel", name := "counting", desc := "(II)I" } : Jvm.MethodName)) ∈ gw := gw_in (List.mem_of_getElem? (i := 1250) (by rfl)) (by rfl)
set_option maxRecDepth 20000 in
theorem q1252 : (Jvm.Cond.instanceMethod ({ cls := "NominatorModel", name := "counting", desc := "(II)I" } : Jvm.MethodName)) ∈ gw := gw_in (List.mem_of_getElem? (i := 1252) (by rfl)) (by rfl)
set_option maxRecDepth 20000 in
theorem q1253 : (Jvm.Cond.code ({ cls := "NominatorModel", name := "counting", desc := "(II)I" } : Jvm.MethodName) prog_12_method_41_code (7 : Nat) (Option.some Jvm.ClassFile.FieldType.int)) ∈ gw := gw_in (List.mem_of_getElem? (i := 1253) (by rfl)) (by rfl)
set_option maxRecDepth 20000 in
theorem q1254 : (Jvm.Cond.methodLink "NominatorModel" (177 : Nat) ({ cls := "NominatorModel", name := "isDouble", desc := "(I)Z" } : Jvm.MethodName)) ∈ gw := gw_in (List.mem_of_getElem? (i := 1254) (by rfl)) (by rfl)
set_option maxRecDepth 20000 in
theorem q1256 : (Jvm.Cond.instanceMethod ({ cls := "NominatorModel", name := "isDouble", desc := "(I)Z" } : Jvm.MethodName)) ∈ gw := gw_in (List.mem_of_getElem? (i := 1256) (by rfl)) (by rfl)
set_option maxRecDepth 20000 in
theorem q1257 : (Jvm.Cond.code ({ cls := "NominatorModel", name := "isDouble", desc := "(I)Z" } : Jvm.MethodName) prog_12_method_50_code (3 : Nat) (Option.some Jvm.ClassFile.FieldType.boolean)) ∈ gw := gw_in (List.mem_of_getElem? (i := 1257) (by rfl)) (by rfl)
set_option maxRecDepth 20000 in
theorem q1258 : (Jvm.Cond.methodLink "NominatorLaw" (167 : Nat) ({ cls := "NominatorModel", name := "day", desc := "()I" } : Jvm.MethodName)) ∈ gw := gw_in (List.mem_of_getElem? (i := 1258) (by rfl)) (by rfl)
set_option maxRecDepth 20000 in
theorem q1259 : (Jvm.Cond.instanceMethod ({ cls := "NominatorModel", name := "day", desc := "()I" } : Jvm.MethodName)) ∈ gw := gw_in (List.mem_of_getElem? (i := 1259) (by rfl)) (by rfl)
set_option maxRecDepth 20000 in
theorem q1260 : (Jvm.Cond.selects "NominatorModel" ({ cls := "NominatorModel", name := "day", desc := "()I" } : Jvm.MethodName) ({ cls := "NominatorModel", name := "day", desc := "()I" } : Jvm.MethodName)) ∈ gw := gw_in (List.mem_of_getElem? (i := 1260) (by rfl)) (by rfl)
set_option maxRecDepth 20000 in
theorem q1261 : (Jvm.Cond.code ({ cls := "NominatorModel", name := "day", desc := "()I" } : Jvm.MethodName) prog_12_method_12_code (1 : Nat) (Option.some Jvm.ClassFile.FieldType.int)) ∈ gw := gw_in (List.mem_of_getElem? (i := 1261) (by rfl)) (by rfl)
set_option maxRecDepth 20000 in
theorem q1262 : (Jvm.Cond.methodLink "NominatorLaw" (172 : Nat) ({ cls := "NominatorModel", name := "isOpen", desc := "()Z" } : Jvm.MethodName)) ∈ gw := gw_in (List.mem_of_getElem? (i := 1262) (by rfl)) (by rfl)
set_option maxRecDepth 20000 in
theorem q1263 : (Jvm.Cond.instanceMethod ({ cls := "NominatorModel", name := "isOpen", desc := "()Z" } : Jvm.MethodName)) ∈ gw := gw_in (List.mem_of_getElem? (i := 1263) (by rfl)) (by rfl)
set_option maxRecDepth 20000 in
theorem q1264 : (Jvm.Cond.selects "NominatorModel" ({ cls := "NominatorModel", name := "isOpen", desc := "()Z" } : Jvm.MethodName) ({ cls := "NominatorModel", name := "isOpen", desc := "()Z" } : Jvm.MethodName)) ∈ gw := gw_in (List.mem_of_getElem? (i := 1264) (by rfl)) (by rfl)
set_option maxRecDepth 20000 in
theorem q1265 : (Jvm.Cond.code ({ cls := "NominatorModel", name := "isOpen", desc := "()Z" } : Jvm.MethodName) prog_12_method_13_code (1 : Nat) (Option.some Jvm.ClassFile.FieldType.boolean)) ∈ gw := gw_in (List.mem_of_getElem? (i := 1265) (by rfl)) (by rfl)
set_option maxRecDepth 20000 in
theorem q1266 : (Jvm.Cond.methodLink "NominatorLaw" (176 : Nat) ({ cls := "NominatorModel", name := "addArea", desc := "(II)I" } : Jvm.MethodName)) ∈ gw := gw_in (List.mem_of_getElem? (i := 1266) (by rfl)) (by rfl)
set_option maxRecDepth 20000 in
theorem q1267 : (Jvm.Cond.instanceMethod ({ cls := "NominatorModel", name := "addArea", desc := "(II)I" } : Jvm.MethodName)) ∈ gw := gw_in (List.mem_of_getElem? (i := 1267) (by rfl)) (by rfl)
set_option maxRecDepth 20000 in
theorem q1268 : (Jvm.Cond.selects "NominatorModel" ({ cls := "NominatorModel", name := "addArea", desc := "(II)I" } : Jvm.MethodName) ({ cls := "NominatorModel", name := "addArea", desc := "(II)I" } : Jvm.MethodName)) ∈ gw := gw_in (List.mem_of_getElem? (i := 1268) (by rfl)) (by rfl)
set_option maxRecDepth 20000 in
theorem q1269 : (Jvm.Cond.code ({ cls := "NominatorModel", name := "addArea", desc := "(II)I" } : Jvm.MethodName) prog_12_method_14_code (3 : Nat) (Option.some Jvm.ClassFile.FieldType.int)) ∈ gw := gw_in (List.mem_of_getElem? (i := 1269) (by rfl)) (by rfl)
set_option maxRecDepth 20000 in
theorem q1270 : (Jvm.Cond.methodLink "NominatorLaw" (179 : Nat) ({ cls := "NominatorModel", name := "addVoter", desc := "(I)I" } : Jvm.MethodName)) ∈ gw := gw_in (List.mem_of_getElem? (i := 1270) (by rfl)) (by rfl)
set_option maxRecDepth 20000 in
theorem q1271 : (Jvm.Cond.instanceMethod ({ cls := "NominatorModel", name := "addVoter", desc := "(I)I" } : Jvm.MethodName)) ∈ gw := gw_in (List.mem_of_getElem? (i := 1271) (by rfl)) (by rfl)
set_option maxRecDepth 20000 in
theorem q1272 : (Jvm.Cond.selects "NominatorModel" ({ cls := "NominatorModel", name := "addVoter", desc := "(I)I" } : Jvm.MethodName) ({ cls := "NominatorModel", name := "addVoter", desc := "(I)I" } : Jvm.MethodName)) ∈ gw := gw_in (List.mem_of_getElem? (i := 1272) (by rfl)) (by rfl)
set_option maxRecDepth 20000 in
theorem q1273 : (Jvm.Cond.code ({ cls := "NominatorModel", name := "addVoter", desc := "(I)I" } : Jvm.MethodName) prog_12_method_15_code (2 : Nat) (Option.some Jvm.ClassFile.FieldType.int)) ∈ gw := gw_in (List.mem_of_getElem? (i := 1273) (by rfl)) (by rfl)
set_option maxRecDepth 20000 in
theorem q1274 : (Jvm.Cond.methodLink "NominatorModel" (125 : Nat) ({ cls := "NominatorModel", name := "isArea", desc := "(I)Z" } : Jvm.MethodName)) ∈ gw := gw_in (List.mem_of_getElem? (i := 1274) (by rfl)) (by rfl)
set_option maxRecDepth 20000 in
theorem q1276 : (Jvm.Cond.instanceMethod ({ cls := "NominatorModel", name := "isArea", desc := "(I)Z" } : Jvm.MethodName)) ∈ gw := gw_in (List.mem_of_getElem? (i := 1276) (by rfl)) (by rfl)
set_option maxRecDepth 20000 in
theorem q1277 : (Jvm.Cond.code ({ cls := "NominatorModel", name := "isArea", desc := "(I)Z" } : Jvm.MethodName) prog_12_method_4_code (2 : Nat) (Option.some Jvm.ClassFile.FieldType.boolean)) ∈ gw := gw_in (List.mem_of_getElem? (i := 1277) (by rfl)) (by rfl)
set_option maxRecDepth 20000 in
theorem q1278 : (Jvm.Cond.methodLink "NominatorLaw" (182 : Nat) ({ cls := "NominatorModel", name := "move", desc := "(II)I" } : Jvm.MethodName)) ∈ gw := gw_in (List.mem_of_getElem? (i := 1278) (by rfl)) (by rfl)
set_option maxRecDepth 20000 in
theorem q1279 : (Jvm.Cond.instanceMethod ({ cls := "NominatorModel", name := "move", desc := "(II)I" } : Jvm.MethodName)) ∈ gw := gw_in (List.mem_of_getElem? (i := 1279) (by rfl)) (by rfl)
set_option maxRecDepth 20000 in
theorem q1280 : (Jvm.Cond.selects "NominatorModel" ({ cls := "NominatorModel", name := "move", desc := "(II)I" } : Jvm.MethodName) ({ cls := "NominatorModel", name := "move", desc := "(II)I" } : Jvm.MethodName)) ∈ gw := gw_in (List.mem_of_getElem? (i := 1280) (by rfl)) (by rfl)
set_option maxRecDepth 20000 in
theorem q1281 : (Jvm.Cond.code ({ cls := "NominatorModel", name := "move", desc := "(II)I" } : Jvm.MethodName) prog_12_method_16_code (4 : Nat) (Option.some Jvm.ClassFile.FieldType.int)) ∈ gw := gw_in (List.mem_of_getElem? (i := 1281) (by rfl)) (by rfl)
set_option maxRecDepth 20000 in
theorem q1282 : (Jvm.Cond.methodLink "NominatorModel" (129 : Nat) ({ cls := "NominatorModel", name := "isVoter", desc := "(I)Z" } : Jvm.MethodName)) ∈ gw := gw_in (List.mem_of_getElem? (i := 1282) (by rfl)) (by rfl)
set_option maxRecDepth 20000 in
theorem q1284 : (Jvm.Cond.instanceMethod ({ cls := "NominatorModel", name := "isVoter", desc := "(I)Z" } : Jvm.MethodName)) ∈ gw := gw_in (List.mem_of_getElem? (i := 1284) (by rfl)) (by rfl)
set_option maxRecDepth 20000 in
theorem q1285 : (Jvm.Cond.code ({ cls := "NominatorModel", name := "isVoter", desc := "(I)Z" } : Jvm.MethodName) prog_12_method_5_code (2 : Nat) (Option.some Jvm.ClassFile.FieldType.boolean)) ∈ gw := gw_in (List.mem_of_getElem? (i := 1285) (by rfl)) (by rfl)
set_option maxRecDepth 20000 in
theorem q1286 : (Jvm.Cond.methodLink "NominatorLaw" (185 : Nat) ({ cls := "NominatorModel", name := "strike", desc := "(I)I" } : Jvm.MethodName)) ∈ gw := gw_in (List.mem_of_getElem? (i := 1286) (by rfl)) (by rfl)
set_option maxRecDepth 20000 in
theorem q1287 : (Jvm.Cond.instanceMethod ({ cls := "NominatorModel", name := "strike", desc := "(I)I" } : Jvm.MethodName)) ∈ gw := gw_in (List.mem_of_getElem? (i := 1287) (by rfl)) (by rfl)
set_option maxRecDepth 20000 in
theorem q1288 : (Jvm.Cond.selects "NominatorModel" ({ cls := "NominatorModel", name := "strike", desc := "(I)I" } : Jvm.MethodName) ({ cls := "NominatorModel", name := "strike", desc := "(I)I" } : Jvm.MethodName)) ∈ gw := gw_in (List.mem_of_getElem? (i := 1288) (by rfl)) (by rfl)
set_option maxRecDepth 20000 in
theorem q1289 : (Jvm.Cond.code ({ cls := "NominatorModel", name := "strike", desc := "(I)I" } : Jvm.MethodName) prog_12_method_19_code (2 : Nat) (Option.some Jvm.ClassFile.FieldType.int)) ∈ gw := gw_in (List.mem_of_getElem? (i := 1289) (by rfl)) (by rfl)
set_option maxRecDepth 20000 in
theorem q1290 : (Jvm.Cond.methodLink "NominatorModel" (136 : Nat) ({ cls := "NominatorModel", name := "turns", desc := "(IZ)I" } : Jvm.MethodName)) ∈ gw := gw_in (List.mem_of_getElem? (i := 1290) (by rfl)) (by rfl)
set_option maxRecDepth 20000 in
theorem q1292 : (Jvm.Cond.instanceMethod ({ cls := "NominatorModel", name := "turns", desc := "(IZ)I" } : Jvm.MethodName)) ∈ gw := gw_in (List.mem_of_getElem? (i := 1292) (by rfl)) (by rfl)
set_option maxRecDepth 20000 in
theorem q1293 : (Jvm.Cond.code ({ cls := "NominatorModel", name := "turns", desc := "(IZ)I" } : Jvm.MethodName) prog_12_method_18_code (3 : Nat) (Option.some Jvm.ClassFile.FieldType.int)) ∈ gw := gw_in (List.mem_of_getElem? (i := 1293) (by rfl)) (by rfl)
set_option maxRecDepth 20000 in
theorem q1294 : (Jvm.Cond.methodLink "NominatorModel" (132 : Nat) ({ cls := "NominatorModel", name := "onRoll", desc := "()I" } : Jvm.MethodName)) ∈ gw := gw_in (List.mem_of_getElem? (i := 1294) (by rfl)) (by rfl)
set_option maxRecDepth 20000 in
theorem q1296 : (Jvm.Cond.instanceMethod ({ cls := "NominatorModel", name := "onRoll", desc := "()I" } : Jvm.MethodName)) ∈ gw := gw_in (List.mem_of_getElem? (i := 1296) (by rfl)) (by rfl)
set_option maxRecDepth 20000 in
theorem q1297 : (Jvm.Cond.code ({ cls := "NominatorModel", name := "onRoll", desc := "()I" } : Jvm.MethodName) prog_12_method_17_code (3 : Nat) (Option.some Jvm.ClassFile.FieldType.int)) ∈ gw := gw_in (List.mem_of_getElem? (i := 1297) (by rfl)) (by rfl)
set_option maxRecDepth 20000 in
theorem q1298 : (Jvm.Cond.methodLink "NominatorLaw" (188 : Nat) ({ cls := "NominatorModel", name := "restore", desc := "(I)I" } : Jvm.MethodName)) ∈ gw := gw_in (List.mem_of_getElem? (i := 1298) (by rfl)) (by rfl)
set_option maxRecDepth 20000 in
theorem q1299 : (Jvm.Cond.instanceMethod ({ cls := "NominatorModel", name := "restore", desc := "(I)I" } : Jvm.MethodName)) ∈ gw := gw_in (List.mem_of_getElem? (i := 1299) (by rfl)) (by rfl)
set_option maxRecDepth 20000 in
theorem q1300 : (Jvm.Cond.selects "NominatorModel" ({ cls := "NominatorModel", name := "restore", desc := "(I)I" } : Jvm.MethodName) ({ cls := "NominatorModel", name := "restore", desc := "(I)I" } : Jvm.MethodName)) ∈ gw := gw_in (List.mem_of_getElem? (i := 1300) (by rfl)) (by rfl)
set_option maxRecDepth 20000 in
theorem q1301 : (Jvm.Cond.code ({ cls := "NominatorModel", name := "restore", desc := "(I)I" } : Jvm.MethodName) prog_12_method_20_code (2 : Nat) (Option.some Jvm.ClassFile.FieldType.int)) ∈ gw := gw_in (List.mem_of_getElem? (i := 1301) (by rfl)) (by rfl)
set_option maxRecDepth 20000 in
theorem q1302 : (Jvm.Cond.methodLink "NominatorLaw" (191 : Nat) ({ cls := "NominatorModel", name := "areaOf", desc := "(I)I" } : Jvm.MethodName)) ∈ gw := gw_in (List.mem_of_getElem? (i := 1302) (by rfl)) (by rfl)
set_option maxRecDepth 20000 in
theorem q1303 : (Jvm.Cond.instanceMethod ({ cls := "NominatorModel", name := "areaOf", desc := "(I)I" } : Jvm.MethodName)) ∈ gw := gw_in (List.mem_of_getElem? (i := 1303) (by rfl)) (by rfl)
set_option maxRecDepth 20000 in
theorem q1304 : (Jvm.Cond.selects "NominatorModel" ({ cls := "NominatorModel", name := "areaOf", desc := "(I)I" } : Jvm.MethodName) ({ cls := "NominatorModel", name := "areaOf", desc := "(I)I" } : Jvm.MethodName)) ∈ gw := gw_in (List.mem_of_getElem? (i := 1304) (by rfl)) (by rfl)
set_option maxRecDepth 20000 in
theorem q1305 : (Jvm.Cond.code ({ cls := "NominatorModel", name := "areaOf", desc := "(I)I" } : Jvm.MethodName) prog_12_method_21_code (2 : Nat) (Option.some Jvm.ClassFile.FieldType.int)) ∈ gw := gw_in (List.mem_of_getElem? (i := 1305) (by rfl)) (by rfl)
set_option maxRecDepth 20000 in
theorem q1306 : (Jvm.Cond.methodLink "NominatorLaw" (194 : Nat) ({ cls := "NominatorModel", name := "isOnRoll", desc := "(I)Z" } : Jvm.MethodName)) ∈ gw := gw_in (List.mem_of_getElem? (i := 1306) (by rfl)) (by rfl)
set_option maxRecDepth 20000 in
theorem q1307 : (Jvm.Cond.instanceMethod ({ cls := "NominatorModel", name := "isOnRoll", desc := "(I)Z" } : Jvm.MethodName)) ∈ gw := gw_in (List.mem_of_getElem? (i := 1307) (by rfl)) (by rfl)
set_option maxRecDepth 20000 in
theorem q1308 : (Jvm.Cond.selects "NominatorModel" ({ cls := "NominatorModel", name := "isOnRoll", desc := "(I)Z" } : Jvm.MethodName) ({ cls := "NominatorModel", name := "isOnRoll", desc := "(I)Z" } : Jvm.MethodName)) ∈ gw := gw_in (List.mem_of_getElem? (i := 1308) (by rfl)) (by rfl)
set_option maxRecDepth 20000 in
theorem q1309 : (Jvm.Cond.code ({ cls := "NominatorModel", name := "isOnRoll", desc := "(I)Z" } : Jvm.MethodName) prog_12_method_22_code (2 : Nat) (Option.some Jvm.ClassFile.FieldType.boolean)) ∈ gw := gw_in (List.mem_of_getElem? (i := 1309) (by rfl)) (by rfl)
set_option maxRecDepth 20000 in
theorem q1310 : (Jvm.Cond.methodLink "NominatorLaw" (198 : Nat) ({ cls := "NominatorModel", name := "file", desc := "(IICCCC)I" } : Jvm.MethodName)) ∈ gw := gw_in (List.mem_of_getElem? (i := 1310) (by rfl)) (by rfl)
set_option maxRecDepth 20000 in
theorem q1311 : (Jvm.Cond.instanceMethod ({ cls := "NominatorModel", name := "file", desc := "(IICCCC)I" } : Jvm.MethodName)) ∈ gw := gw_in (List.mem_of_getElem? (i := 1311) (by rfl)) (by rfl)
set_option maxRecDepth 20000 in
theorem q1312 : (Jvm.Cond.selects "NominatorModel" ({ cls := "NominatorModel", name := "file", desc := "(IICCCC)I" } : Jvm.MethodName) ({ cls := "NominatorModel", name := "file", desc := "(IICCCC)I" } : Jvm.MethodName)) ∈ gw := gw_in (List.mem_of_getElem? (i := 1312) (by rfl)) (by rfl)
set_option maxRecDepth 20000 in
theorem q1313 : (Jvm.Cond.code ({ cls := "NominatorModel", name := "file", desc := "(IICCCC)I" } : Jvm.MethodName) prog_12_method_26_code (7 : Nat) (Option.some Jvm.ClassFile.FieldType.int)) ∈ gw := gw_in (List.mem_of_getElem? (i := 1313) (by rfl)) (by rfl)
set_option maxRecDepth 20000 in
theorem q1314 : (Jvm.Cond.methodLink "NominatorModel" (144 : Nat) ({ cls := "NominatorModel", name := "isSurname", desc := "(CCCC)Z" } : Jvm.MethodName)) ∈ gw := gw_in (List.mem_of_getElem? (i := 1314) (by rfl)) (by rfl)
set_option maxRecDepth 20000 in
theorem q1315 : (Jvm.Cond.static ({ cls := "NominatorModel", name := "isSurname", desc := "(CCCC)Z" } : Jvm.MethodName)) ∈ gw := gw_in (List.mem_of_getElem? (i := 1315) (by rfl)) (by rfl)
set_option maxRecDepth 20000 in
theorem q1316 : (Jvm.Cond.code ({ cls := "NominatorModel", name := "isSurname", desc := "(CCCC)Z" } : Jvm.MethodName) prog_12_method_24_code (4 : Nat) (Option.some Jvm.ClassFile.FieldType.boolean)) ∈ gw := gw_in (List.mem_of_getElem? (i := 1316) (by rfl)) (by rfl)
set_option maxRecDepth 20000 in
theorem q1317 : (Jvm.Cond.methodLink "NominatorModel" (140 : Nat) ({ cls := "NominatorModel", name := "isLetter", desc := "(C)Z" } : Jvm.MethodName)) ∈ gw := gw_in (List.mem_of_getElem? (i := 1317) (by rfl)) (by rfl)
set_option maxRecDepth 20000 in
theorem q1318 : (Jvm.Cond.static ({ cls := "NominatorModel", name := "isLetter", desc := "(C)Z" } : Jvm.MethodName)) ∈ gw := gw_in (List.mem_of_getElem? (i := 1318) (by rfl)) (by rfl)
set_option maxRecDepth 20000 in
theorem q1319 : (Jvm.Cond.code ({ cls := "NominatorModel", name := "isLetter", desc := "(C)Z" } : Jvm.MethodName) prog_12_method_23_code (1 : Nat) (Option.some Jvm.ClassFile.FieldType.boolean)) ∈ gw := gw_in (List.mem_of_getElem? (i := 1319) (by rfl)) (by rfl)
set_option maxRecDepth 20000 in
theorem q1320 : (Jvm.Cond.methodLink "NominatorModel" (148 : Nat) ({ cls := "NominatorModel", name := "writeName", desc := "(ICCCC)V" } : Jvm.MethodName)) ∈ gw := gw_in (List.mem_of_getElem? (i := 1320) (by rfl)) (by rfl)
set_option maxRecDepth 20000 in
theorem q1322 : (Jvm.Cond.instanceMethod ({ cls := "NominatorModel", name := "writeName", desc := "(ICCCC)V" } : Jvm.MethodName)) ∈ gw := gw_in (List.mem_of_getElem? (i := 1322) (by rfl)) (by rfl)
set_option maxRecDepth 20000 in
theorem q1323 : (Jvm.Cond.code ({ cls := "NominatorModel", name := "writeName", desc := "(ICCCC)V" } : Jvm.MethodName) prog_12_method_25_code (6 : Nat) (Option.none : Option Jvm.ClassFile.FieldType)) ∈ gw := gw_in (List.mem_of_getElem? (i := 1323) (by rfl)) (by rfl)
set_option maxRecDepth 20000 in
theorem q1324 : (Jvm.Cond.methodLink "NominatorLaw" (201 : Nat) ({ cls := "NominatorModel", name := "sign", desc := "(II)I" } : Jvm.MethodName)) ∈ gw := gw_in (List.mem_of_getElem? (i := 1324) (by rfl)) (by rfl)
set_option maxRecDepth 20000 in
theorem q1325 : (Jvm.Cond.instanceMethod ({ cls := "NominatorModel", name := "sign", desc := "(II)I" } : Jvm.MethodName)) ∈ gw := gw_in (List.mem_of_getElem? (i := 1325) (by rfl)) (by rfl)
set_option maxRecDepth 20000 in
theorem q1326 : (Jvm.Cond.selects "NominatorModel" ({ cls := "NominatorModel", name := "sign", desc := "(II)I" } : Jvm.MethodName) ({ cls := "NominatorModel", name := "sign", desc := "(II)I" } : Jvm.MethodName)) ∈ gw := gw_in (List.mem_of_getElem? (i := 1326) (by rfl)) (by rfl)
set_option maxRecDepth 20000 in
theorem q1327 : (Jvm.Cond.code ({ cls := "NominatorModel", name := "sign", desc := "(II)I" } : Jvm.MethodName) prog_12_method_27_code (3 : Nat) (Option.some Jvm.ClassFile.FieldType.int)) ∈ gw := gw_in (List.mem_of_getElem? (i := 1327) (by rfl)) (by rfl)
set_option maxRecDepth 20000 in
theorem q1328 : (Jvm.Cond.methodLink "NominatorModel" (152 : Nat) ({ cls := "NominatorModel", name := "isPaper", desc := "(I)Z" } : Jvm.MethodName)) ∈ gw := gw_in (List.mem_of_getElem? (i := 1328) (by rfl)) (by rfl)
set_option maxRecDepth 20000 in
theorem q1330 : (Jvm.Cond.instanceMethod ({ cls := "NominatorModel", name := "isPaper", desc := "(I)Z" } : Jvm.MethodName)) ∈ gw := gw_in (List.mem_of_getElem? (i := 1330) (by rfl)) (by rfl)
set_option maxRecDepth 20000 in
theorem q1331 : (Jvm.Cond.code ({ cls := "NominatorModel", name := "isPaper", desc := "(I)Z" } : Jvm.MethodName) prog_12_method_6_code (2 : Nat) (Option.some Jvm.ClassFile.FieldType.boolean)) ∈ gw := gw_in (List.mem_of_getElem? (i := 1331) (by rfl)) (by rfl)
set_option maxRecDepth 20000 in
theorem q1332 : (Jvm.Cond.methodLink "NominatorLaw" (204 : Nat) ({ cls := "NominatorModel", name := "pay", desc := "(II)I" } : Jvm.MethodName)) ∈ gw := gw_in (List.mem_of_getElem? (i := 1332) (by rfl)) (by rfl)
set_option maxRecDepth 20000 in
theorem q1333 : (Jvm.Cond.instanceMethod ({ cls := "NominatorModel", name := "pay", desc := "(II)I" } : Jvm.MethodName)) ∈ gw := gw_in (List.mem_of_getElem? (i := 1333) (by rfl)) (by rfl)
set_option maxRecDepth 20000 in
theorem q1334 : (Jvm.Cond.selects "NominatorModel" ({ cls := "NominatorModel", name := "pay", desc := "(II)I" } : Jvm.MethodName) ({ cls := "NominatorModel", name := "pay", desc := "(II)I" } : Jvm.MethodName)) ∈ gw := gw_in (List.mem_of_getElem? (i := 1334) (by rfl)) (by rfl)
set_option maxRecDepth 20000 in
theorem q1335 : (Jvm.Cond.code ({ cls := "NominatorModel", name := "pay", desc := "(II)I" } : Jvm.MethodName) prog_12_method_28_code (3 : Nat) (Option.some Jvm.ClassFile.FieldType.int)) ∈ gw := gw_in (List.mem_of_getElem? (i := 1335) (by rfl)) (by rfl)
set_option maxRecDepth 20000 in
theorem q1336 : (Jvm.Cond.methodLink "NominatorLaw" (207 : Nat) ({ cls := "NominatorModel", name := "withdraw", desc := "(I)I" } : Jvm.MethodName)) ∈ gw := gw_in (List.mem_of_getElem? (i := 1336) (by rfl)) (by rfl)
set_option maxRecDepth 20000 in
theorem q1337 : (Jvm.Cond.instanceMethod ({ cls := "NominatorModel", name := "withdraw", desc := "(I)I" } : Jvm.MethodName)) ∈ gw := gw_in (List.mem_of_getElem? (i := 1337) (by rfl)) (by rfl)
set_option maxRecDepth 20000 in
theorem q1338 : (Jvm.Cond.selects "NominatorModel" ({ cls := "NominatorModel", name := "withdraw", desc := "(I)I" } : Jvm.MethodName) ({ cls := "NominatorModel", name := "withdraw", desc := "(I)I" } : Jvm.MethodName)) ∈ gw := gw_in (List.mem_of_getElem? (i := 1338) (by rfl)) (by rfl)
set_option maxRecDepth 20000 in
theorem q1339 : (Jvm.Cond.code ({ cls := "NominatorModel", name := "withdraw", desc := "(I)I" } : Jvm.MethodName) prog_12_method_30_code (4 : Nat) (Option.some Jvm.ClassFile.FieldType.int)) ∈ gw := gw_in (List.mem_of_getElem? (i := 1339) (by rfl)) (by rfl)
set_option maxRecDepth 20000 in
theorem q1340 : (Jvm.Cond.methodLink "NominatorModel" (155 : Nat) ({ cls := "NominatorModel", name := "isRejected", desc := "(I)Z" } : Jvm.MethodName)) ∈ gw := gw_in (List.mem_of_getElem? (i := 1340) (by rfl)) (by rfl)
set_option maxRecDepth 20000 in
theorem q1342 : (Jvm.Cond.instanceMethod ({ cls := "NominatorModel", name := "isRejected", desc := "(I)Z" } : Jvm.MethodName)) ∈ gw := gw_in (List.mem_of_getElem? (i := 1342) (by rfl)) (by rfl)
set_option maxRecDepth 20000 in
theorem q1343 : (Jvm.Cond.code ({ cls := "NominatorModel", name := "isRejected", desc := "(I)Z" } : Jvm.MethodName) prog_12_method_29_code (2 : Nat) (Option.some Jvm.ClassFile.FieldType.boolean)) ∈ gw := gw_in (List.mem_of_getElem? (i := 1343) (by rfl)) (by rfl)
set_option maxRecDepth 20000 in
theorem q1344 : (Jvm.Cond.methodLink "NominatorLaw" (210 : Nat) ({ cls := "NominatorModel", name := "die", desc := "(I)Z" } : Jvm.MethodName)) ∈ gw := gw_in (List.mem_of_getElem? (i := 1344) (by rfl)) (by rfl)
set_option maxRecDepth 20000 in
theorem q1345 : (Jvm.Cond.instanceMethod ({ cls := "NominatorModel", name := "die", desc := "(I)Z" } : Jvm.MethodName)) ∈ gw := gw_in (List.mem_of_getElem? (i := 1345) (by rfl)) (by rfl)
set_option maxRecDepth 20000 in
theorem q1346 : (Jvm.Cond.selects "NominatorModel" ({ cls := "NominatorModel", name := "die", desc := "(I)Z" } : Jvm.MethodName) ({ cls := "NominatorModel", name := "die", desc := "(I)Z" } : Jvm.MethodName)) ∈ gw := gw_in (List.mem_of_getElem? (i := 1346) (by rfl)) (by rfl)
set_option maxRecDepth 20000 in
theorem q1347 : (Jvm.Cond.code ({ cls := "NominatorModel", name := "die", desc := "(I)Z" } : Jvm.MethodName) prog_12_method_32_code (2 : Nat) (Option.some Jvm.ClassFile.FieldType.boolean)) ∈ gw := gw_in (List.mem_of_getElem? (i := 1347) (by rfl)) (by rfl)
set_option maxRecDepth 20000 in
theorem q1348 : (Jvm.Cond.methodLink "NominatorModel" (158 : Nat) ({ cls := "NominatorModel", name := "canReplace", desc := "(I)Z" } : Jvm.MethodName)) ∈ gw := gw_in (List.mem_of_getElem? (i := 1348) (by rfl)) (by rfl)
set_option maxRecDepth 20000 in
theorem q1350 : (Jvm.Cond.instanceMethod ({ cls := "NominatorModel", name := "canReplace", desc := "(I)Z" } : Jvm.MethodName)) ∈ gw := gw_in (List.mem_of_getElem? (i := 1350) (by rfl)) (by rfl)
set_option maxRecDepth 20000 in
theorem q1351 : (Jvm.Cond.code ({ cls := "NominatorModel", name := "canReplace", desc := "(I)Z" } : Jvm.MethodName) prog_12_method_31_code (2 : Nat) (Option.some Jvm.ClassFile.FieldType.boolean)) ∈ gw := gw_in (List.mem_of_getElem? (i := 1351) (by rfl)) (by rfl)
set_option maxRecDepth 20000 in
theorem q1352 : (Jvm.Cond.methodLink "NominatorLaw" (214 : Nat) ({ cls := "NominatorModel", name := "replace", desc := "(ICCCC)I" } : Jvm.MethodName)) ∈ gw := gw_in (List.mem_of_getElem? (i := 1352) (by rfl)) (by rfl)
set_option maxRecDepth 20000 in
theorem q1353 : (Jvm.Cond.instanceMethod ({ cls := "NominatorModel", name := "replace", desc := "(ICCCC)I" } : Jvm.MethodName)) ∈ gw := gw_in (List.mem_of_getElem? (i := 1353) (by rfl)) (by rfl)
set_option maxRecDepth 20000 in
theorem q1354 : (Jvm.Cond.selects "NominatorModel" ({ cls := "NominatorModel", name := "replace", desc := "(ICCCC)I" } : Jvm.MethodName) ({ cls := "NominatorModel", name := "replace", desc := "(ICCCC)I" } : Jvm.MethodName)) ∈ gw := gw_in (List.mem_of_getElem? (i := 1354) (by rfl)) (by rfl)
set_option maxRecDepth 20000 in
theorem q1355 : (Jvm.Cond.code ({ cls := "NominatorModel", name := "replace", desc := "(ICCCC)I" } : Jvm.MethodName) prog_12_method_33_code (6 : Nat) (Option.some Jvm.ClassFile.FieldType.int)) ∈ gw := gw_in (List.mem_of_getElem? (i := 1355) (by rfl)) (by rfl)
set_option maxRecDepth 20000 in
theorem q1356 : (Jvm.Cond.methodLink "NominatorLaw" (217 : Nat) ({ cls := "NominatorModel", name := "isReplaceable", desc := "(I)Z" } : Jvm.MethodName)) ∈ gw := gw_in (List.mem_of_getElem? (i := 1356) (by rfl)) (by rfl)
set_option maxRecDepth 20000 in
theorem q1357 : (Jvm.Cond.instanceMethod ({ cls := "NominatorModel", name := "isReplaceable", desc := "(I)Z" } : Jvm.MethodName)) ∈ gw := gw_in (List.mem_of_getElem? (i := 1357) (by rfl)) (by rfl)
set_option maxRecDepth 20000 in
theorem q1358 : (Jvm.Cond.selects "NominatorModel" ({ cls := "NominatorModel", name := "isReplaceable", desc := "(I)Z" } : Jvm.MethodName) ({ cls := "NominatorModel", name := "isReplaceable", desc := "(I)Z" } : Jvm.MethodName)) ∈ gw := gw_in (List.mem_of_getElem? (i := 1358) (by rfl)) (by rfl)
set_option maxRecDepth 20000 in
theorem q1359 : (Jvm.Cond.code ({ cls := "NominatorModel", name := "isReplaceable", desc := "(I)Z" } : Jvm.MethodName) prog_12_method_34_code (2 : Nat) (Option.some Jvm.ClassFile.FieldType.boolean)) ∈ gw := gw_in (List.mem_of_getElem? (i := 1359) (by rfl)) (by rfl)
set_option maxRecDepth 20000 in
theorem q1360 : (Jvm.Cond.methodLink "NominatorLaw" (220 : Nat) ({ cls := "NominatorModel", name := "surname", desc := "(II)C" } : Jvm.MethodName)) ∈ gw := gw_in (List.mem_of_getElem? (i := 1360) (by rfl)) (by rfl)
set_option maxRecDepth 20000 in
theorem q1361 : (Jvm.Cond.instanceMethod ({ cls := "NominatorModel", name := "surname", desc := "(II)C" } : Jvm.MethodName)) ∈ gw := gw_in (List.mem_of_getElem? (i := 1361) (by rfl)) (by rfl)
set_option maxRecDepth 20000 in
theorem q1362 : (Jvm.Cond.selects "NominatorModel" ({ cls := "NominatorModel", name := "surname", desc := "(II)C" } : Jvm.MethodName) ({ cls := "NominatorModel", name := "surname", desc := "(II)C" } : Jvm.MethodName)) ∈ gw := gw_in (List.mem_of_getElem? (i := 1362) (by rfl)) (by rfl)
set_option maxRecDepth 20000 in
theorem q1363 : (Jvm.Cond.code ({ cls := "NominatorModel", name := "surname", desc := "(II)C" } : Jvm.MethodName) prog_12_method_35_code (3 : Nat) (Option.some Jvm.ClassFile.FieldType.char)) ∈ gw := gw_in (List.mem_of_getElem? (i := 1363) (by rfl)) (by rfl)
set_option maxRecDepth 20000 in
theorem q1364 : (Jvm.Cond.methodLink "NominatorLaw" (224 : Nat) ({ cls := "NominatorModel", name := "papers", desc := "()I" } : Jvm.MethodName)) ∈ gw := gw_in (List.mem_of_getElem? (i := 1364) (by rfl)) (by rfl)
set_option maxRecDepth 20000 in
theorem q1365 : (Jvm.Cond.instanceMethod ({ cls := "NominatorModel", name := "papers", desc := "()I" } : Jvm.MethodName)) ∈ gw := gw_in (List.mem_of_getElem? (i := 1365) (by rfl)) (by rfl)
set_option maxRecDepth 20000 in
theorem q1366 : (Jvm.Cond.selects "NominatorModel" ({ cls := "NominatorModel", name := "papers", desc := "()I" } : Jvm.MethodName) ({ cls := "NominatorModel", name := "papers", desc := "()I" } : Jvm.MethodName)) ∈ gw := gw_in (List.mem_of_getElem? (i := 1366) (by rfl)) (by rfl)
set_option maxRecDepth 20000 in
theorem q1367 : (Jvm.Cond.code ({ cls := "NominatorModel", name := "papers", desc := "()I" } : Jvm.MethodName) prog_12_method_36_code (1 : Nat) (Option.some Jvm.ClassFile.FieldType.int)) ∈ gw := gw_in (List.mem_of_getElem? (i := 1367) (by rfl)) (by rfl)
set_option maxRecDepth 20000 in
theorem q1368 : (Jvm.Cond.methodLink "NominatorLaw" (227 : Nat) ({ cls := "NominatorModel", name := "counted", desc := "(I)I" } : Jvm.MethodName)) ∈ gw := gw_in (List.mem_of_getElem? (i := 1368) (by rfl)) (by rfl)
set_option maxRecDepth 20000 in
theorem q1369 : (Jvm.Cond.instanceMethod ({ cls := "NominatorModel", name := "counted", desc := "(I)I" } : Jvm.MethodName)) ∈ gw := gw_in (List.mem_of_getElem? (i := 1369) (by rfl)) (by rfl)
set_option maxRecDepth 20000 in
theorem q1370 : (Jvm.Cond.selects "NominatorModel" ({ cls := "NominatorModel", name := "counted", desc := "(I)I" } : Jvm.MethodName) ({ cls := "NominatorModel", name := "counted", desc := "(I)I" } : Jvm.MethodName)) ∈ gw := gw_in (List.mem_of_getElem? (i := 1370) (by rfl)) (by rfl)
set_option maxRecDepth 20000 in
theorem q1371 : (Jvm.Cond.code ({ cls := "NominatorModel", name := "counted", desc := "(I)I" } : Jvm.MethodName) prog_12_method_42_code (4 : Nat) (Option.some Jvm.ClassFile.FieldType.int)) ∈ gw := gw_in (List.mem_of_getElem? (i := 1371) (by rfl)) (by rfl)
set_option maxRecDepth 20000 in
theorem q1372 : (Jvm.Cond.methodLink "NominatorModel" (168 : Nat) ({ cls := "NominatorModel", name := "result", desc := "(I)I" } : Jvm.MethodName)) ∈ gw := gw_in (List.mem_of_getElem? (i := 1372) (by rfl)) (by rfl)
set_option maxRecDepth 20000 in
theorem q1374 : (Jvm.Cond.instanceMethod ({ cls := "NominatorModel", name := "result", desc := "(I)I" } : Jvm.MethodName)) ∈ gw := gw_in (List.mem_of_getElem? (i := 1374) (by rfl)) (by rfl)
set_option maxRecDepth 20000 in
theorem q1375 : (Jvm.Cond.code ({ cls := "NominatorModel", name := "result", desc := "(I)I" } : Jvm.MethodName) prog_12_method_40_code (2 : Nat) (Option.some Jvm.ClassFile.FieldType.int)) ∈ gw := gw_in (List.mem_of_getElem? (i := 1375) (by rfl)) (by rfl)
set_option maxRecDepth 20000 in
theorem q1376 : (Jvm.Cond.methodLink "NominatorLaw" (230 : Nat) ({ cls := "NominatorModel", name := "signatureResult", desc := "(I)I" } : Jvm.MethodName)) ∈ gw := gw_in (List.mem_of_getElem? (i := 1376) (by rfl)) (by rfl)
set_option maxRecDepth 20000 in
theorem q1377 : (Jvm.Cond.instanceMethod ({ cls := "NominatorModel", name := "signatureResult", desc := "(I)I" } : Jvm.MethodName)) ∈ gw := gw_in (List.mem_of_getElem? (i := 1377) (by rfl)) (by rfl)
set_option maxRecDepth 20000 in
theorem q1378 : (Jvm.Cond.selects "NominatorModel" ({ cls := "NominatorModel", name := "signatureResult", desc := "(I)I" } : Jvm.MethodName) ({ cls := "NominatorModel", name := "signatureResult", desc := "(I)I" } : Jvm.MethodName)) ∈ gw := gw_in (List.mem_of_getElem? (i := 1378) (by rfl)) (by rfl)
set_option maxRecDepth 20000 in
theorem q1379 : (Jvm.Cond.code ({ cls := "NominatorModel", name := "signatureResult", desc := "(I)I" } : Jvm.MethodName) prog_12_method_43_code (2 : Nat) (Option.some Jvm.ClassFile.FieldType.int)) ∈ gw := gw_in (List.mem_of_getElem? (i := 1379) (by rfl)) (by rfl)
set_option maxRecDepth 20000 in
theorem q1380 : (Jvm.Cond.methodLink "NominatorLaw" (233 : Nat) ({ cls := "NominatorModel", name := "wouldCount", desc := "(II)Z" } : Jvm.MethodName)) ∈ gw := gw_in (List.mem_of_getElem? (i := 1380) (by rfl)) (by rfl)
set_option maxRecDepth 20000 in
theorem q1381 : (Jvm.Cond.instanceMethod ({ cls := "NominatorModel", name := "wouldCount", desc := "(II)Z" } : Jvm.MethodName)) ∈ gw := gw_in (List.mem_of_getElem? (i := 1381) (by rfl)) (by rfl)
set_option maxRecDepth 20000 in
theorem q1382 : (Jvm.Cond.selects "NominatorModel" ({ cls := "NominatorModel", name := "wouldCount", desc := "(II)Z" } : Jvm.MethodName) ({ cls := "NominatorModel", name := "wouldCount", desc := "(II)Z" } : Jvm.MethodName)) ∈ gw := gw_in (List.mem_of_getElem? (i := 1382) (by rfl)) (by rfl)
set_option maxRecDepth 20000 in
theorem q1383 : (Jvm.Cond.code ({ cls := "NominatorModel", name := "wouldCount", desc := "(II)Z" } : Jvm.MethodName) prog_12_method_44_code (3 : Nat) (Option.some Jvm.ClassFile.FieldType.boolean)) ∈ gw := gw_in (List.mem_of_getElem? (i := 1383) (by rfl)) (by rfl)
set_option maxRecDepth 20000 in
theorem q1384 : (Jvm.Cond.methodLink "NominatorLaw" (236 : Nat) ({ cls := "NominatorModel", name := "paperOf", desc := "(I)I" } : Jvm.MethodName)) ∈ gw := gw_in (List.mem_of_getElem? (i := 1384) (by rfl)) (by rfl)
set_option maxRecDepth 20000 in
theorem q1385 : (Jvm.Cond.instanceMethod ({ cls := "NominatorModel", name := "paperOf", desc := "(I)I" } : Jvm.MethodName)) ∈ gw := gw_in (List.mem_of_getElem? (i := 1385) (by rfl)) (by rfl)
set_option maxRecDepth 20000 in
theorem q1386 : (Jvm.Cond.selects "NominatorModel" ({ cls := "NominatorModel", name := "paperOf", desc := "(I)I" } : Jvm.MethodName) ({ cls := "NominatorModel", name := "paperOf", desc := "(I)I" } : Jvm.MethodName)) ∈ gw := gw_in (List.mem_of_getElem? (i := 1386) (by rfl)) (by rfl)
set_option maxRecDepth 20000 in
theorem q1387 : (Jvm.Cond.code ({ cls := "NominatorModel", name := "paperOf", desc := "(I)I" } : Jvm.MethodName) prog_12_method_45_code (3 : Nat) (Option.some Jvm.ClassFile.FieldType.int)) ∈ gw := gw_in (List.mem_of_getElem? (i := 1387) (by rfl)) (by rfl)
set_option maxRecDepth 20000 in
theorem q1388 : (Jvm.Cond.methodLink "NominatorLaw" (239 : Nat) ({ cls := "NominatorModel", name := "gain", desc := "(II)I" } : Jvm.MethodName)) ∈ gw := gw_in (List.mem_of_getElem? (i := 1388) (by rfl)) (by rfl)
set_option maxRecDepth 20000 in
theorem q1389 : (Jvm.Cond.instanceMethod ({ cls := "NominatorModel", name := "gain", desc := "(II)I" } : Jvm.MethodName)) ∈ gw := gw_in (List.mem_of_getElem? (i := 1389) (by rfl)) (by rfl)
set_option maxRecDepth 20000 in
theorem q1390 : (Jvm.Cond.selects "NominatorModel" ({ cls := "NominatorModel", name := "gain", desc := "(II)I" } : Jvm.MethodName) ({ cls := "NominatorModel", name := "gain", desc := "(II)I" } : Jvm.MethodName)) ∈ gw := gw_in (List.mem_of_getElem? (i := 1390) (by rfl)) (by rfl)
set_option maxRecDepth 20000 in
theorem q1391 : (Jvm.Cond.code ({ cls := "NominatorModel", name := "gain", desc := "(II)I" } : Jvm.MethodName) prog_12_method_46_code (3 : Nat) (Option.some Jvm.ClassFile.FieldType.int)) ∈ gw := gw_in (List.mem_of_getElem? (i := 1391) (by rfl)) (by rfl)
set_option maxRecDepth 20000 in
theorem q1392 : (Jvm.Cond.methodLink "NominatorLaw" (242 : Nat) ({ cls := "NominatorModel", name := "fewestWithdrawals", desc := "(I)I" } : Jvm.MethodName)) ∈ gw := gw_in (List.mem_of_getElem? (i := 1392) (by rfl)) (by rfl)
set_option maxRecDepth 20000 in
theorem q1393 : (Jvm.Cond.instanceMethod ({ cls := "NominatorModel", name := "fewestWithdrawals", desc := "(I)I" } : Jvm.MethodName)) ∈ gw := gw_in (List.mem_of_getElem? (i := 1393) (by rfl)) (by rfl)
set_option maxRecDepth 20000 in
theorem q1394 : (Jvm.Cond.selects "NominatorModel" ({ cls := "NominatorModel", name := "fewestWithdrawals", desc := "(I)I" } : Jvm.MethodName) ({ cls := "NominatorModel", name := "fewestWithdrawals", desc := "(I)I" } : Jvm.MethodName)) ∈ gw := gw_in (List.mem_of_getElem? (i := 1394) (by rfl)) (by rfl)
set_option maxRecDepth 20000 in
theorem q1395 : (Jvm.Cond.code ({ cls := "NominatorModel", name := "fewestWithdrawals", desc := "(I)I" } : Jvm.MethodName) prog_12_method_48_code (5 : Nat) (Option.some Jvm.ClassFile.FieldType.int)) ∈ gw := gw_in (List.mem_of_getElem? (i := 1395) (by rfl)) (by rfl)
set_option maxRecDepth 20000 in
theorem q1396 : (Jvm.Cond.methodLink "NominatorModel" (174 : Nat) ({ cls := "NominatorModel", name := "bits", desc := "(I)I" } : Jvm.MethodName)) ∈ gw := gw_in (List.mem_of_getElem? (i := 1396) (by rfl)) (by rfl)
set_option maxRecDepth 20000 in
theorem q1397 : (Jvm.Cond.static ({ cls := "NominatorModel", name := "bits", desc := "(I)I" } : Jvm.MethodName)) ∈ gw := gw_in (List.mem_of_getElem? (i := 1397) (by rfl)) (by rfl)
set_option maxRecDepth 20000 in
theorem q1398 : (Jvm.Cond.code ({ cls := "NominatorModel", name := "bits", desc := "(I)I" } : Jvm.MethodName) prog_12_method_47_code (3 : Nat) (Option.some Jvm.ClassFile.FieldType.int)) ∈ gw := gw_in (List.mem_of_getElem? (i := 1398) (by rfl)) (by rfl)
set_option maxRecDepth 20000 in
theorem q1399 : (Jvm.Cond.methodLink "NominatorLaw" (246 : Nat) ({ cls := "NominatorModel", name := "signatures", desc := "()I" } : Jvm.MethodName)) ∈ gw := gw_in (List.mem_of_getElem? (i := 1399) (by rfl)) (by rfl)
set_option maxRecDepth 20000 in
theorem q1400 : (Jvm.Cond.instanceMethod ({ cls := "NominatorModel", name := "signatures", desc := "()I" } : Jvm.MethodName)) ∈ gw := gw_in (List.mem_of_getElem? (i := 1400) (by rfl)) (by rfl)
set_option maxRecDepth 20000 in
theorem q1401 : (Jvm.Cond.selects "NominatorModel" ({ cls := "NominatorModel", name := "signatures", desc := "()I" } : Jvm.MethodName) ({ cls := "NominatorModel", name := "signatures", desc := "()I" } : Jvm.MethodName)) ∈ gw := gw_in (List.mem_of_getElem? (i := 1401) (by rfl)) (by rfl)
set_option maxRecDepth 20000 in
theorem q1402 : (Jvm.Cond.code ({ cls := "NominatorModel", name := "signatures", desc := "()I" } : Jvm.MethodName) prog_12_method_49_code (1 : Nat) (Option.some Jvm.ClassFile.FieldType.int)) ∈ gw := gw_in (List.mem_of_getElem? (i := 1402) (by rfl)) (by rfl)
set_option maxRecDepth 20000 in
theorem q1403 : (Jvm.Cond.methodLink "NominatorLaw" (249 : Nat) ({ cls := "NominatorModel", name := "reason", desc := "(I)I" } : Jvm.MethodName)) ∈ gw := gw_in (List.mem_of_getElem? (i := 1403) (by rfl)) (by rfl)
set_option maxRecDepth 20000 in
theorem q1404 : (Jvm.Cond.instanceMethod ({ cls := "NominatorModel", name := "reason", desc := "(I)I" } : Jvm.MethodName)) ∈ gw := gw_in (List.mem_of_getElem? (i := 1404) (by rfl)) (by rfl)
set_option maxRecDepth 20000 in
theorem q1405 : (Jvm.Cond.selects "NominatorModel" ({ cls := "NominatorModel", name := "reason", desc := "(I)I" } : Jvm.MethodName) ({ cls := "NominatorModel", name := "reason", desc := "(I)I" } : Jvm.MethodName)) ∈ gw := gw_in (List.mem_of_getElem? (i := 1405) (by rfl)) (by rfl)
set_option maxRecDepth 20000 in
theorem q1406 : (Jvm.Cond.code ({ cls := "NominatorModel", name := "reason", desc := "(I)I" } : Jvm.MethodName) prog_12_method_53_code (2 : Nat) (Option.some Jvm.ClassFile.FieldType.int)) ∈ gw := gw_in (List.mem_of_getElem? (i := 1406) (by rfl)) (by rfl)
set_option maxRecDepth 20000 in
theorem q1407 : (Jvm.Cond.methodLink "NominatorModel" (180 : Nat) ({ cls := "NominatorModel", name := "reasonOf", desc := "(I)I" } : Jvm.MethodName)) ∈ gw := gw_in (List.mem_of_getElem? (i := 1407) (by rfl)) (by rfl)
set_option maxRecDepth 20000 in
theorem q1409 : (Jvm.Cond.instanceMethod ({ cls := "NominatorModel", name := "reasonOf", desc := "(I)I" } : Jvm.MethodName)) ∈ gw := gw_in (List.mem_of_getElem? (i := 1409) (by rfl)) (by rfl)
set_option maxRecDepth 20000 in
theorem q1410 : (Jvm.Cond.code ({ cls := "NominatorModel", name := "reasonOf", desc := "(I)I" } : Jvm.MethodName) prog_12_method_52_code (3 : Nat) (Option.some Jvm.ClassFile.FieldType.int)) ∈ gw := gw_in (List.mem_of_getElem? (i := 1410) (by rfl)) (by rfl)
set_option maxRecDepth 20000 in
theorem q1411 : (Jvm.Cond.methodLink "NominatorLaw" (252 : Nat) ({ cls := "NominatorModel", name := "reasonByReplay", desc := "(I)I" } : Jvm.MethodName)) ∈ gw := gw_in (List.mem_of_getElem? (i := 1411) (by rfl)) (by rfl)
set_option maxRecDepth 20000 in
theorem q1412 : (Jvm.Cond.instanceMethod ({ cls := "NominatorModel", name := "reasonByReplay", desc := "(I)I" } : Jvm.MethodName)) ∈ gw := gw_in (List.mem_of_getElem? (i := 1412) (by rfl)) (by rfl)
set_option maxRecDepth 20000 in
theorem q1413 : (Jvm.Cond.selects "NominatorModel" ({ cls := "NominatorModel", name := "reasonByReplay", desc := "(I)I" } : Jvm.MethodName) ({ cls := "NominatorModel", name := "reasonByReplay", desc := "(I)I" } : Jvm.MethodName)) ∈ gw := gw_in (List.mem_of_getElem? (i := 1413) (by rfl)) (by rfl)
set_option maxRecDepth 20000 in
theorem q1414 : (Jvm.Cond.code ({ cls := "NominatorModel", name := "reasonByReplay", desc := "(I)I" } : Jvm.MethodName) prog_12_method_54_code (2 : Nat) (Option.some Jvm.ClassFile.FieldType.int)) ∈ gw := gw_in (List.mem_of_getElem? (i := 1414) (by rfl)) (by rfl)
set_option maxRecDepth 20000 in
theorem q1415 : (Jvm.Cond.methodLink "NominatorLaw" (255 : Nat) ({ cls := "NominatorModel", name := "ballotSize", desc := "(I)I" } : Jvm.MethodName)) ∈ gw := gw_in (List.mem_of_getElem? (i := 1415) (by rfl)) (by rfl)
set_option maxRecDepth 20000 in
theorem q1416 : (Jvm.Cond.instanceMethod ({ cls := "NominatorModel", name := "ballotSize", desc := "(I)I" } : Jvm.MethodName)) ∈ gw := gw_in (List.mem_of_getElem? (i := 1416) (by rfl)) (by rfl)
set_option maxRecDepth 20000 in
theorem q1417 : (Jvm.Cond.selects "NominatorModel" ({ cls := "NominatorModel", name := "ballotSize", desc := "(I)I" } : Jvm.MethodName) ({ cls := "NominatorModel", name := "ballotSize", desc := "(I)I" } : Jvm.MethodName)) ∈ gw := gw_in (List.mem_of_getElem? (i := 1417) (by rfl)) (by rfl)
set_option maxRecDepth 20000 in
theorem q1418 : (Jvm.Cond.code ({ cls := "NominatorModel", name := "ballotSize", desc := "(I)I" } : Jvm.MethodName) prog_12_method_56_code (2 : Nat) (Option.some Jvm.ClassFile.FieldType.int)) ∈ gw := gw_in (List.mem_of_getElem? (i := 1418) (by rfl)) (by rfl)
set_option maxRecDepth 20000 in
theorem q1419 : (Jvm.Cond.methodLink "NominatorModel" (183 : Nat) ({ cls := "NominatorModel", name := "standing", desc := "(I)I" } : Jvm.MethodName)) ∈ gw := gw_in (List.mem_of_getElem? (i := 1419) (by rfl)) (by rfl)
set_option maxRecDepth 20000 in
theorem q1421 : (Jvm.Cond.instanceMethod ({ cls := "NominatorModel", name := "standing", desc := "(I)I" } : Jvm.MethodName)) ∈ gw := gw_in (List.mem_of_getElem? (i := 1421) (by rfl)) (by rfl)
set_option maxRecDepth 20000 in
theorem q1422 : (Jvm.Cond.code ({ cls := "NominatorModel", name := "standing", desc := "(I)I" } : Jvm.MethodName) prog_12_method_55_code (4 : Nat) (Option.some Jvm.ClassFile.FieldType.int)) ∈ gw := gw_in (List.mem_of_getElem? (i := 1422) (by rfl)) (by rfl)
set_option maxRecDepth 20000 in
theorem q1423 : (Jvm.Cond.methodLink "NominatorLaw" (258 : Nat) ({ cls := "NominatorModel", name := "draw", desc := "(I)C" } : Jvm.MethodName)) ∈ gw := gw_in (List.mem_of_getElem? (i := 1423) (by rfl)) (by rfl)
set_option maxRecDepth 20000 in
theorem q1424 : (Jvm.Cond.instanceMethod ({ cls := "NominatorModel", name := "draw", desc := "(I)C" } : Jvm.MethodName)) ∈ gw := gw_in (List.mem_of_getElem? (i := 1424) (by rfl)) (by rfl)
set_option maxRecDepth 20000 in
theorem q1425 : (Jvm.Cond.selects "NominatorModel" ({ cls := "NominatorModel", name := "draw", desc := "(I)C" } : Jvm.MethodName) ({ cls := "NominatorModel", name := "draw", desc := "(I)C" } : Jvm.MethodName)) ∈ gw := gw_in (List.mem_of_getElem? (i := 1425) (by rfl)) (by rfl)
set_option maxRecDepth 20000 in
theorem q1426 : (Jvm.Cond.code ({ cls := "NominatorModel", name := "draw", desc := "(I)C" } : Jvm.MethodName) prog_12_method_57_code (6 : Nat) (Option.some Jvm.ClassFile.FieldType.char)) ∈ gw := gw_in (List.mem_of_getElem? (i := 1426) (by rfl)) (by rfl)
set_option maxRecDepth 20000 in
theorem q1427 : (Jvm.Cond.constant "NominatorModel" (190 : Nat) (1103515245 : Int32)) ∈ gw := gw_in (List.mem_of_getElem? (i := 1427) (by rfl)) (by rfl)
set_option maxRecDepth 20000 in
theorem q1428 : (Jvm.Cond.methodLink "NominatorLaw" (261 : Nat) ({ cls := "NominatorModel", name := "letter", desc := "(I)C" } : Jvm.MethodName)) ∈ gw := gw_in (List.mem_of_getElem? (i := 1428) (by rfl)) (by rfl)
set_option maxRecDepth 20000 in
theorem q1429 : (Jvm.Cond.instanceMethod ({ cls := "NominatorModel", name := "letter", desc := "(I)C" } : Jvm.MethodName)) ∈ gw := gw_in (List.mem_of_getElem? (i := 1429) (by rfl)) (by rfl)
set_option maxRecDepth 20000 in
theorem q1430 : (Jvm.Cond.selects "NominatorModel" ({ cls := "NominatorModel", name := "letter", desc := "(I)C" } : Jvm.MethodName) ({ cls := "NominatorModel", name := "letter", desc := "(I)C" } : Jvm.MethodName)) ∈ gw := gw_in (List.mem_of_getElem? (i := 1430) (by rfl)) (by rfl)
set_option maxRecDepth 20000 in
theorem q1431 : (Jvm.Cond.code ({ cls := "NominatorModel", name := "letter", desc := "(I)C" } : Jvm.MethodName) prog_12_method_58_code (2 : Nat) (Option.some Jvm.ClassFile.FieldType.char)) ∈ gw := gw_in (List.mem_of_getElem? (i := 1431) (by rfl)) (by rfl)
set_option maxRecDepth 20000 in
theorem q1432 : (Jvm.Cond.methodLink "NominatorLaw" (264 : Nat) ({ cls := "NominatorModel", name := "ballot", desc := "(III)I" } : Jvm.MethodName)) ∈ gw := gw_in (List.mem_of_getElem? (i := 1432) (by rfl)) (by rfl)
set_option maxRecDepth 20000 in
theorem q1433 : (Jvm.Cond.instanceMethod ({ cls := "NominatorModel", name := "ballot", desc := "(III)I" } : Jvm.MethodName)) ∈ gw := gw_in (List.mem_of_getElem? (i := 1433) (by rfl)) (by rfl)
set_option maxRecDepth 20000 in
theorem q1434 : (Jvm.Cond.selects "NominatorModel" ({ cls := "NominatorModel", name := "ballot", desc := "(III)I" } : Jvm.MethodName) ({ cls := "NominatorModel", name := "ballot", desc := "(III)I" } : Jvm.MethodName)) ∈ gw := gw_in (List.mem_of_getElem? (i := 1434) (by rfl)) (by rfl)
set_option maxRecDepth 20000 in
theorem q1435 : (Jvm.Cond.code ({ cls := "NominatorModel", name := "ballot", desc := "(III)I" } : Jvm.MethodName) prog_12_method_62_code (5 : Nat) (Option.some Jvm.ClassFile.FieldType.int)) ∈ gw := gw_in (List.mem_of_getElem? (i := 1435) (by rfl)) (by rfl)
set_option maxRecDepth 20000 in
theorem q1436 : (Jvm.Cond.methodLink "NominatorModel" (198 : Nat) ({ cls := "NominatorModel", name := "laid", desc := "(I)I" } : Jvm.MethodName)) ∈ gw := gw_in (List.mem_of_getElem? (i := 1436) (by rfl)) (by rfl)
set_option maxRecDepth 20000 in
theorem q1438 : (Jvm.Cond.instanceMethod ({ cls := "NominatorModel", name := "laid", desc := "(I)I" } : Jvm.MethodName)) ∈ gw := gw_in (List.mem_of_getElem? (i := 1438) (by rfl)) (by rfl)
set_option maxRecDepth 20000 in
theorem q1439 : (Jvm.Cond.code ({ cls := "NominatorModel", name := "laid", desc := "(I)I" } : Jvm.MethodName) prog_12_method_61_code (5 : Nat) (Option.some Jvm.ClassFile.FieldType.int)) ∈ gw := gw_in (List.mem_of_getElem? (i := 1439) (by rfl)) (by rfl)
set_option maxRecDepth 20000 in
theorem q1440 : (Jvm.Cond.methodLink "NominatorModel" (195 : Nat) ({ cls := "NominatorModel", name := "isAhead", desc := "(II)Z" } : Jvm.MethodName)) ∈ gw := gw_in (List.mem_of_getElem? (i := 1440) (by rfl)) (by rfl)
set_option maxRecDepth 20000 in
theorem q1442 : (Jvm.Cond.instanceMethod ({ cls := "NominatorModel", name := "isAhead", desc := "(II)Z" } : Jvm.MethodName)) ∈ gw := gw_in (List.mem_of_getElem? (i := 1442) (by rfl)) (by rfl)
set_option maxRecDepth 20000 in
theorem q1443 : (Jvm.Cond.code ({ cls := "NominatorModel", name := "isAhead", desc := "(II)Z" } : Jvm.MethodName) prog_12_method_60_code (6 : Nat) (Option.some Jvm.ClassFile.FieldType.boolean)) ∈ gw := gw_in (List.mem_of_getElem? (i := 1443) (by rfl)) (by rfl)
set_option maxRecDepth 20000 in
theorem q1444 : (Jvm.Cond.methodLink "NominatorModel" (191 : Nat) ({ cls := "NominatorModel", name := "rank", desc := "(C)I" } : Jvm.MethodName)) ∈ gw := gw_in (List.mem_of_getElem? (i := 1444) (by rfl)) (by rfl)
set_option maxRecDepth 20000 in
theorem q1446 : (Jvm.Cond.instanceMethod ({ cls := "NominatorModel", name := "rank", desc := "(C)I" } : Jvm.MethodName)) ∈ gw := gw_in (List.mem_of_getElem? (i := 1446) (by rfl)) (by rfl)
set_option maxRecDepth 20000 in
theorem q1447 : (Jvm.Cond.code ({ cls := "NominatorModel", name := "rank", desc := "(C)I" } : Jvm.MethodName) prog_12_method_59_code (3 : Nat) (Option.some Jvm.ClassFile.FieldType.int)) ∈ gw := gw_in (List.mem_of_getElem? (i := 1447) (by rfl)) (by rfl)
set_option maxRecDepth 20000 in
theorem q1448 : (Jvm.Cond.methodLink "NominatorLaw" (267 : Nat) ({ cls := "NominatorModel", name := "placeOnBallot", desc := "(II)I" } : Jvm.MethodName)) ∈ gw := gw_in (List.mem_of_getElem? (i := 1448) (by rfl)) (by rfl)
set_option maxRecDepth 20000 in
theorem q1449 : (Jvm.Cond.instanceMethod ({ cls := "NominatorModel", name := "placeOnBallot", desc := "(II)I" } : Jvm.MethodName)) ∈ gw := gw_in (List.mem_of_getElem? (i := 1449) (by rfl)) (by rfl)
set_option maxRecDepth 20000 in
theorem q1450 : (Jvm.Cond.selects "NominatorModel" ({ cls := "NominatorModel", name := "placeOnBallot", desc := "(II)I" } : Jvm.MethodName) ({ cls := "NominatorModel", name := "placeOnBallot", desc := "(II)I" } : Jvm.MethodName)) ∈ gw := gw_in (List.mem_of_getElem? (i := 1450) (by rfl)) (by rfl)
set_option maxRecDepth 20000 in
theorem q1451 : (Jvm.Cond.code ({ cls := "NominatorModel", name := "placeOnBallot", desc := "(II)I" } : Jvm.MethodName) prog_12_method_63_code (5 : Nat) (Option.some Jvm.ClassFile.FieldType.int)) ∈ gw := gw_in (List.mem_of_getElem? (i := 1451) (by rfl)) (by rfl)
set_option maxRecDepth 20000 in
theorem q1452 : (Jvm.Cond.methodLink "NominatorLaw" (270 : Nat) ({ cls := "NominatorModel", name := "addVotes", desc := "(II)I" } : Jvm.MethodName)) ∈ gw := gw_in (List.mem_of_getElem? (i := 1452) (by rfl)) (by rfl)
set_option maxRecDepth 20000 in
theorem q1453 : (Jvm.Cond.instanceMethod ({ cls := "NominatorModel", name := "addVotes", desc := "(II)I" } : Jvm.MethodName)) ∈ gw := gw_in (List.mem_of_getElem? (i := 1453) (by rfl)) (by rfl)
set_option maxRecDepth 20000 in
theorem q1454 : (Jvm.Cond.selects "NominatorModel" ({ cls := "NominatorModel", name := "addVotes", desc := "(II)I" } : Jvm.MethodName) ({ cls := "NominatorModel", name := "addVotes", desc := "(II)I" } : Jvm.MethodName)) ∈ gw := gw_in (List.mem_of_getElem? (i := 1454) (by rfl)) (by rfl)
set_option maxRecDepth 20000 in
theorem q1455 : (Jvm.Cond.code ({ cls := "NominatorModel", name := "addVotes", desc := "(II)I" } : Jvm.MethodName) prog_12_method_64_code (3 : Nat) (Option.some Jvm.ClassFile.FieldType.int)) ∈ gw := gw_in (List.mem_of_getElem? (i := 1455) (by rfl)) (by rfl)
set_option maxRecDepth 20000 in
theorem q1456 : (Jvm.Cond.methodLink "NominatorLaw" (273 : Nat) ({ cls := "NominatorModel", name := "finish", desc := "(I)I" } : Jvm.MethodName)) ∈ gw := gw_in (List.mem_of_getElem? (i := 1456) (by rfl)) (by rfl)
set_option maxRecDepth 20000 in
theorem q1457 : (Jvm.Cond.instanceMethod ({ cls := "NominatorModel", name := "finish", desc := "(I)I" } : Jvm.MethodName)) ∈ gw := gw_in (List.mem_of_getElem? (i := 1457) (by rfl)) (by rfl)
set_option maxRecDepth 20000 in
theorem q1458 : (Jvm.Cond.selects "NominatorModel" ({ cls := "NominatorModel", name := "finish", desc := "(I)I" } : Jvm.MethodName) ({ cls := "NominatorModel", name := "finish", desc := "(I)I" } : Jvm.MethodName)) ∈ gw := gw_in (List.mem_of_getElem? (i := 1458) (by rfl)) (by rfl)
set_option maxRecDepth 20000 in
theorem q1459 : (Jvm.Cond.code ({ cls := "NominatorModel", name := "finish", desc := "(I)I" } : Jvm.MethodName) prog_12_method_65_code (4 : Nat) (Option.some Jvm.ClassFile.FieldType.int)) ∈ gw := gw_in (List.mem_of_getElem? (i := 1459) (by rfl)) (by rfl)
set_option maxRecDepth 20000 in
theorem q1460 : (Jvm.Cond.methodLink "NominatorModel" (201 : Nat) ({ cls := "NominatorModel", name := "fate", desc := "(I)I" } : Jvm.MethodName)) ∈ gw := gw_in (List.mem_of_getElem? (i := 1460) (by rfl)) (by rfl)
set_option maxRecDepth 20000 in
theorem q1462 : (Jvm.Cond.instanceMethod ({ cls := "NominatorModel", name := "fate", desc := "(I)I" } : Jvm.MethodName)) ∈ gw := gw_in (List.mem_of_getElem? (i := 1462) (by rfl)) (by rfl)
set_option maxRecDepth 20000 in
theorem q1463 : (Jvm.Cond.code ({ cls := "NominatorModel", name := "fate", desc := "(I)I" } : Jvm.MethodName) prog_12_method_70_code (2 : Nat) (Option.some Jvm.ClassFile.FieldType.int)) ∈ gw := gw_in (List.mem_of_getElem? (i := 1463) (by rfl)) (by rfl)
set_option maxRecDepth 20000 in
theorem q1464 : (Jvm.Cond.methodLink "NominatorModel" (204 : Nat) ({ cls := "NominatorModel", name := "allVotes", desc := "(I)I" } : Jvm.MethodName)) ∈ gw := gw_in (List.mem_of_getElem? (i := 1464) (by rfl)) (by rfl)
set_option maxRecDepth 20000 in
theorem q1466 : (Jvm.Cond.instanceMethod ({ cls := "NominatorModel", name := "allVotes", desc := "(I)I" } : Jvm.MethodName)) ∈ gw := gw_in (List.mem_of_getElem? (i := 1466) (by rfl)) (by rfl)
set_option maxRecDepth 20000 in
theorem q1467 : (Jvm.Cond.code ({ cls := "NominatorModel", name := "allVotes", desc := "(I)I" } : Jvm.MethodName) prog_12_method_67_code (4 : Nat) (Option.some Jvm.ClassFile.FieldType.int)) ∈ gw := gw_in (List.mem_of_getElem? (i := 1467) (by rfl)) (by rfl)
set_option maxRecDepth 20000 in
theorem q1468 : (Jvm.Cond.methodLink "NominatorLaw" (276 : Nat) ({ cls := "NominatorModel", name := "votes", desc := "(I)I" } : Jvm.MethodName)) ∈ gw := gw_in (List.mem_of_getElem? (i := 1468) (by rfl)) (by rfl)
set_option maxRecDepth 20000 in
theorem q1469 : (Jvm.Cond.instanceMethod ({ cls := "NominatorModel", name := "votes", desc := "(I)I" } : Jvm.MethodName)) ∈ gw := gw_in (List.mem_of_getElem? (i := 1469) (by rfl)) (by rfl)
set_option maxRecDepth 20000 in
theorem q1470 : (Jvm.Cond.selects "NominatorModel" ({ cls := "NominatorModel", name := "votes", desc := "(I)I" } : Jvm.MethodName) ({ cls := "NominatorModel", name := "votes", desc := "(I)I" } : Jvm.MethodName)) ∈ gw := gw_in (List.mem_of_getElem? (i := 1470) (by rfl)) (by rfl)
set_option maxRecDepth 20000 in
theorem q1471 : (Jvm.Cond.code ({ cls := "NominatorModel", name := "votes", desc := "(I)I" } : Jvm.MethodName) prog_12_method_66_code (2 : Nat) (Option.some Jvm.ClassFile.FieldType.int)) ∈ gw := gw_in (List.mem_of_getElem? (i := 1471) (by rfl)) (by rfl)
set_option maxRecDepth 20000 in
theorem q1472 : (Jvm.Cond.methodLink "NominatorLaw" (280 : Nat) ({ cls := "NominatorModel", name := "share", desc := "(I)D" } : Jvm.MethodName)) ∈ gw := gw_in (List.mem_of_getElem? (i := 1472) (by rfl)) (by rfl)
set_option maxRecDepth 20000 in
theorem q1473 : (Jvm.Cond.instanceMethod ({ cls := "NominatorModel", name := "share", desc := "(I)D" } : Jvm.MethodName)) ∈ gw := gw_in (List.mem_of_getElem? (i := 1473) (by rfl)) (by rfl)
set_option maxRecDepth 20000 in
theorem q1474 : (Jvm.Cond.selects "NominatorModel" ({ cls := "NominatorModel", name := "share", desc := "(I)D" } : Jvm.MethodName) ({ cls := "NominatorModel", name := "share", desc := "(I)D" } : Jvm.MethodName)) ∈ gw := gw_in (List.mem_of_getElem? (i := 1474) (by rfl)) (by rfl)
set_option maxRecDepth 20000 in
theorem q1475 : (Jvm.Cond.code ({ cls := "NominatorModel", name := "share", desc := "(I)D" } : Jvm.MethodName) prog_12_method_68_code (3 : Nat) (Option.some Jvm.ClassFile.FieldType.double)) ∈ gw := gw_in (List.mem_of_getElem? (i := 1475) (by rfl)) (by rfl)
set_option maxRecDepth 20000 in
theorem q1476 : (Jvm.Cond.methodLink "NominatorLaw" (283 : Nat) ({ cls := "NominatorModel", name := "winner", desc := "(I)I" } : Jvm.MethodName)) ∈ gw := gw_in (List.mem_of_getElem? (i := 1476) (by rfl)) (by rfl)
set_option maxRecDepth 20000 in
theorem q1477 : (Jvm.Cond.instanceMethod ({ cls := "NominatorModel", name := "winner", desc := "(I)I" } : Jvm.MethodName)) ∈ gw := gw_in (List.mem_of_getElem? (i := 1477) (by rfl)) (by rfl)
set_option maxRecDepth 20000 in
theorem q1478 : (Jvm.Cond.selects "NominatorModel" ({ cls := "NominatorModel", name := "winner", desc := "(I)I" } : Jvm.MethodName) ({ cls := "NominatorModel", name := "winner", desc := "(I)I" } : Jvm.MethodName)) ∈ gw := gw_in (List.mem_of_getElem? (i := 1478) (by rfl)) (by rfl)
set_option maxRecDepth 20000 in
theorem q1479 : (Jvm.Cond.code ({ cls := "NominatorModel", name := "winner", desc := "(I)I" } : Jvm.MethodName) prog_12_method_69_code (4 : Nat) (Option.some Jvm.ClassFile.FieldType.int)) ∈ gw := gw_in (List.mem_of_getElem? (i := 1479) (by rfl)) (by rfl)
set_option maxRecDepth 20000 in
theorem q1480 : (Jvm.Cond.methodLink "NominatorLaw" (286 : Nat) ({ cls := "NominatorModel", name := "deposit", desc := "(I)I" } : Jvm.MethodName)) ∈ gw := gw_in (List.mem_of_getElem? (i := 1480) (by rfl)) (by rfl)
set_option maxRecDepth 20000 in
theorem q1481 : (Jvm.Cond.instanceMethod ({ cls := "NominatorModel", name := "deposit", desc := "(I)I" } : Jvm.MethodName)) ∈ gw := gw_in (List.mem_of_getElem? (i := 1481) (by rfl)) (by rfl)
set_option maxRecDepth 20000 in
theorem q1482 : (Jvm.Cond.selects "NominatorModel" ({ cls := "NominatorModel", name := "deposit", desc := "(I)I" } : Jvm.MethodName) ({ cls := "NominatorModel", name := "deposit", desc := "(I)I" } : Jvm.MethodName)) ∈ gw := gw_in (List.mem_of_getElem? (i := 1482) (by rfl)) (by rfl)
set_option maxRecDepth 20000 in
theorem q1483 : (Jvm.Cond.code ({ cls := "NominatorModel", name := "deposit", desc := "(I)I" } : Jvm.MethodName) prog_12_method_71_code (2 : Nat) (Option.some Jvm.ClassFile.FieldType.int)) ∈ gw := gw_in (List.mem_of_getElem? (i := 1483) (by rfl)) (by rfl)
set_option maxRecDepth 20000 in
theorem q1484 : (Jvm.Cond.methodLink "NominatorLaw" (289 : Nat) ({ cls := "NominatorModel", name := "paid", desc := "(I)I" } : Jvm.MethodName)) ∈ gw := gw_in (List.mem_of_getElem? (i := 1484) (by rfl)) (by rfl)
set_option maxRecDepth 20000 in
theorem q1485 : (Jvm.Cond.instanceMethod ({ cls := "NominatorModel", name := "paid", desc := "(I)I" } : Jvm.MethodName)) ∈ gw := gw_in (List.mem_of_getElem? (i := 1485) (by rfl)) (by rfl)
set_option maxRecDepth 20000 in
theorem q1486 : (Jvm.Cond.selects "NominatorModel" ({ cls := "NominatorModel", name := "paid", desc := "(I)I" } : Jvm.MethodName) ({ cls := "NominatorModel", name := "paid", desc := "(I)I" } : Jvm.MethodName)) ∈ gw := gw_in (List.mem_of_getElem? (i := 1486) (by rfl)) (by rfl)
set_option maxRecDepth 20000 in
theorem q1487 : (Jvm.Cond.code ({ cls := "NominatorModel", name := "paid", desc := "(I)I" } : Jvm.MethodName) prog_12_method_72_code (2 : Nat) (Option.some Jvm.ClassFile.FieldType.int)) ∈ gw := gw_in (List.mem_of_getElem? (i := 1487) (by rfl)) (by rfl)
set_option maxRecDepth 20000 in
theorem q1488 : (Jvm.Cond.methodLink "NominatorLaw" (293 : Nat) ({ cls := "NominatorModel", name := "sumHeld", desc := "()I" } : Jvm.MethodName)) ∈ gw := gw_in (List.mem_of_getElem? (i := 1488) (by rfl)) (by rfl)
set_option maxRecDepth 20000 in
theorem q1489 : (Jvm.Cond.instanceMethod ({ cls := "NominatorModel", name := "sumHeld", desc := "()I" } : Jvm.MethodName)) ∈ gw := gw_in (List.mem_of_getElem? (i := 1489) (by rfl)) (by rfl)
set_option maxRecDepth 20000 in
theorem q1490 : (Jvm.Cond.selects "NominatorModel" ({ cls := "NominatorModel", name := "sumHeld", desc := "()I" } : Jvm.MethodName) ({ cls := "NominatorModel", name := "sumHeld", desc := "()I" } : Jvm.MethodName)) ∈ gw := gw_in (List.mem_of_getElem? (i := 1490) (by rfl)) (by rfl)
set_option maxRecDepth 20000 in
theorem q1491 : (Jvm.Cond.code ({ cls := "NominatorModel", name := "sumHeld", desc := "()I" } : Jvm.MethodName) prog_12_method_74_code (1 : Nat) (Option.some Jvm.ClassFile.FieldType.int)) ∈ gw := gw_in (List.mem_of_getElem? (i := 1491) (by rfl)) (by rfl)
set_option maxRecDepth 20000 in
theorem q1492 : (Jvm.Cond.methodLink "NominatorModel" (207 : Nat) ({ cls := "NominatorModel", name := "sum", desc := "(I)I" } : Jvm.MethodName)) ∈ gw := gw_in (List.mem_of_getElem? (i := 1492) (by rfl)) (by rfl)
set_option maxRecDepth 20000 in
theorem q1494 : (Jvm.Cond.instanceMethod ({ cls := "NominatorModel", name := "sum", desc := "(I)I" } : Jvm.MethodName)) ∈ gw := gw_in (List.mem_of_getElem? (i := 1494) (by rfl)) (by rfl)
set_option maxRecDepth 20000 in
theorem q1495 : (Jvm.Cond.code ({ cls := "NominatorModel", name := "sum", desc := "(I)I" } : Jvm.MethodName) prog_12_method_73_code (4 : Nat) (Option.some Jvm.ClassFile.FieldType.int)) ∈ gw := gw_in (List.mem_of_getElem? (i := 1495) (by rfl)) (by rfl)
set_option maxRecDepth 20000 in
theorem q1496 : (Jvm.Cond.methodLink "NominatorLaw" (297 : Nat) ({ cls := "NominatorModel", name := "sumLost", desc := "()I" } : Jvm.MethodName)) ∈ gw := gw_in (List.mem_of_getElem? (i := 1496) (by rfl)) (by rfl)
set_option maxRecDepth 20000 in
theorem q1497 : (Jvm.Cond.instanceMethod ({ cls := "NominatorModel", name := "sumLost", desc := "()I" } : Jvm.MethodName)) ∈ gw := gw_in (List.mem_of_getElem? (i := 1497) (by rfl)) (by rfl)
set_option maxRecDepth 20000 in
theorem q1498 : (Jvm.Cond.selects "NominatorModel" ({ cls := "NominatorModel", name := "sumLost", desc := "()I" } : Jvm.MethodName) ({ cls := "NominatorModel", name := "sumLost", desc := "()I" } : Jvm.MethodName)) ∈ gw := gw_in (List.mem_of_getElem? (i := 1498) (by rfl)) (by rfl)
set_option maxRecDepth 20000 in
theorem q1499 : (Jvm.Cond.code ({ cls := "NominatorModel", name := "sumLost", desc := "()I" } : Jvm.MethodName) prog_12_method_75_code (1 : Nat) (Option.some Jvm.ClassFile.FieldType.int)) ∈ gw := gw_in (List.mem_of_getElem? (i := 1499) (by rfl)) (by rfl)
set_option maxRecDepth 20000 in
theorem q1500 : (Jvm.Cond.methodLink "NominatorLaw" (301 : Nat) ({ cls := "NominatorModel", name := "lostShare", desc := "()F" } : Jvm.MethodName)) ∈ gw := gw_in (List.mem_of_getElem? (i := 1500) (by rfl)) (by rfl)
set_option maxRecDepth 20000 in
theorem q1501 : (Jvm.Cond.instanceMethod ({ cls := "NominatorModel", name := "lostShare", desc := "()F" } : Jvm.MethodName)) ∈ gw := gw_in (List.mem_of_getElem? (i := 1501) (by rfl)) (by rfl)
set_option maxRecDepth 20000 in
theorem q1502 : (Jvm.Cond.selects "NominatorModel" ({ cls := "NominatorModel", name := "lostShare", desc := "()F" } : Jvm.MethodName) ({ cls := "NominatorModel", name := "lostShare", desc := "()F" } : Jvm.MethodName)) ∈ gw := gw_in (List.mem_of_getElem? (i := 1502) (by rfl)) (by rfl)
set_option maxRecDepth 20000 in
theorem q1503 : (Jvm.Cond.code ({ cls := "NominatorModel", name := "lostShare", desc := "()F" } : Jvm.MethodName) prog_12_method_76_code (2 : Nat) (Option.some Jvm.ClassFile.FieldType.float)) ∈ gw := gw_in (List.mem_of_getElem? (i := 1503) (by rfl)) (by rfl)
set_option maxRecDepth 20000 in
theorem q1504 : (Jvm.Cond.arrayClass Jvm.ClassFile.FieldType.long) ∈ gw := gw_in (List.mem_of_getElem? (i := 1504) (by rfl)) (by rfl)
set_option maxRecDepth 20000 in
theorem q1505 : (Jvm.Cond.arrayClass Jvm.ClassFile.FieldType.double) ∈ gw := gw_in (List.mem_of_getElem? (i := 1505) (by rfl)) (by rfl)
set_option maxRecDepth 20000 in
theorem q1506 : (Jvm.Cond.sameMethod "java/lang/Throwable" "java/lang/Throwable" "fillInStackTrace" "(I)Ljava/lang/Throwable;") ∈ gw := gw_in (List.mem_of_getElem? (i := 1506) (by rfl)) (by rfl)
theorem qs0 : Cond.selects "java/lang/Throwable" ⟨"java/lang/Throwable", "fillInStackTrace", "(I)Ljava/lang/Throwable;"⟩ ⟨"java/lang/Throwable", "fillInStackTrace", "(I)Ljava/lang/Throwable;"⟩ ∈ gw := gw_ins (List.mem_of_getElem? (i := 0) (by rfl)) (by rfl)
theorem qs1 : Cond.selects "Nominator" ⟨"Nominator", "happen", "(IIII)V"⟩ ⟨"Nominator", "happen", "(IIII)V"⟩ ∈ gw := gw_ins (List.mem_of_getElem? (i := 1) (by rfl)) (by rfl)
theorem qs2 : Cond.selects "Nominator$Office" ⟨"Nominator$Office", "judgeSignatures", "()V"⟩ ⟨"Nominator$Office", "judgeSignatures", "()V"⟩ ∈ gw := gw_ins (List.mem_of_getElem? (i := 2) (by rfl)) (by rfl)
theorem qs3 : Cond.selects "Nominator$Office" ⟨"Nominator$Office", "resultOf", "(LNominator$Signature;)I"⟩ ⟨"Nominator$Office", "resultOf", "(LNominator$Signature;)I"⟩ ∈ gw := gw_ins (List.mem_of_getElem? (i := 3) (by rfl)) (by rfl)
theorem qs4 : Cond.selects "Nominator$Office" ⟨"Nominator$Office", "verdictOn", "(I)I"⟩ ⟨"Nominator$Office", "verdictOn", "(I)I"⟩ ∈ gw := gw_ins (List.mem_of_getElem? (i := 4) (by rfl)) (by rfl)
theorem qs5 : Cond.selects "Nominator$Office" ⟨"Nominator$Office", "isDouble", "(I)Z"⟩ ⟨"Nominator$Office", "isDouble", "(I)Z"⟩ ∈ gw := gw_ins (List.mem_of_getElem? (i := 5) (by rfl)) (by rfl)
theorem qs6 : Cond.selects "Nominator$Letters" ⟨"Nominator$Letters", "exchange", "(II)V"⟩ ⟨"Nominator$Letters", "exchange", "(II)V"⟩ ∈ gw := gw_ins (List.mem_of_getElem? (i := 6) (by rfl)) (by rfl)
theorem qs7 : Cond.selects "Nominator$Office" ⟨"Nominator$Office", "happenToPaper", "(IIII)V"⟩ ⟨"Nominator$Office", "happenToPaper", "(IIII)V"⟩ ∈ gw := gw_ins (List.mem_of_getElem? (i := 7) (by rfl)) (by rfl)
theorem qs8 : Cond.selects "Nominator$Office" ⟨"Nominator$Office", "beginPaper", "(III)V"⟩ ⟨"Nominator$Office", "beginPaper", "(III)V"⟩ ∈ gw := gw_ins (List.mem_of_getElem? (i := 8) (by rfl)) (by rfl)
theorem qs9 : Cond.selects "Nominator$Office" ⟨"Nominator$Office", "beginSignature", "(II)V"⟩ ⟨"Nominator$Office", "beginSignature", "(II)V"⟩ ∈ gw := gw_ins (List.mem_of_getElem? (i := 9) (by rfl)) (by rfl)
theorem qs10 : Cond.selects "Nominator" ⟨"Nominator", "needArea", "(I)V"⟩ ⟨"Nominator", "needArea", "(I)V"⟩ ∈ gw := gw_ins (List.mem_of_getElem? (i := 10) (by rfl)) (by rfl)
theorem qs11 : Cond.selects "Nominator" ⟨"Nominator", "needVoter", "(I)V"⟩ ⟨"Nominator", "needVoter", "(I)V"⟩ ∈ gw := gw_ins (List.mem_of_getElem? (i := 11) (by rfl)) (by rfl)
theorem qs12 : Cond.selects "Nominator" ⟨"Nominator", "needName", "(CCCC)V"⟩ ⟨"Nominator", "needName", "(CCCC)V"⟩ ∈ gw := gw_ins (List.mem_of_getElem? (i := 12) (by rfl)) (by rfl)
theorem qs13 : Cond.selects "Nominator" ⟨"Nominator", "needOpen", "()V"⟩ ⟨"Nominator", "needOpen", "()V"⟩ ∈ gw := gw_ins (List.mem_of_getElem? (i := 13) (by rfl)) (by rfl)
theorem qs14 : Cond.selects "Nominator" ⟨"Nominator", "needPaper", "(I)V"⟩ ⟨"Nominator", "needPaper", "(I)V"⟩ ∈ gw := gw_ins (List.mem_of_getElem? (i := 14) (by rfl)) (by rfl)
theorem qs15 : Cond.selects "Nominator" ⟨"Nominator", "needNotWithdrawn", "(I)V"⟩ ⟨"Nominator", "needNotWithdrawn", "(I)V"⟩ ∈ gw := gw_ins (List.mem_of_getElem? (i := 15) (by rfl)) (by rfl)
theorem qs16 : Cond.selects "Nominator" ⟨"Nominator", "needNotRejected", "(I)V"⟩ ⟨"Nominator", "needNotRejected", "(I)V"⟩ ∈ gw := gw_ins (List.mem_of_getElem? (i := 16) (by rfl)) (by rfl)
theorem qs17 : Cond.selects "Nominator$Office" ⟨"Nominator$Office", "gatherBlockers", "(I)I"⟩ ⟨"Nominator$Office", "gatherBlockers", "(I)I"⟩ ∈ gw := gw_ins (List.mem_of_getElem? (i := 17) (by rfl)) (by rfl)
theorem qs18 : Cond.selects "Nominator$Office" ⟨"Nominator$Office", "countWithout", "(II)I"⟩ ⟨"Nominator$Office", "countWithout", "(II)I"⟩ ∈ gw := gw_ins (List.mem_of_getElem? (i := 18) (by rfl)) (by rfl)
theorem qs19 : Cond.selects "Nominator$Office" ⟨"Nominator$Office", "allBlockers", "(I)I"⟩ ⟨"Nominator$Office", "allBlockers", "(I)I"⟩ ∈ gw := gw_ins (List.mem_of_getElem? (i := 19) (by rfl)) (by rfl)
theorem qs20 : Cond.selects "Nominator$Office" ⟨"Nominator$Office", "standsIn", "(II)Z"⟩ ⟨"Nominator$Office", "standsIn", "(II)Z"⟩ ∈ gw := gw_ins (List.mem_of_getElem? (i := 20) (by rfl)) (by rfl)
theorem qs21 : Cond.selects "Nominator" ⟨"Nominator", "needLetters", "()V"⟩ ⟨"Nominator", "needLetters", "()V"⟩ ∈ gw := gw_ins (List.mem_of_getElem? (i := 21) (by rfl)) (by rfl)
theorem qs22 : Cond.selects "Nominator" ⟨"Nominator", "needPrecinct", "(I)V"⟩ ⟨"Nominator", "needPrecinct", "(I)V"⟩ ∈ gw := gw_ins (List.mem_of_getElem? (i := 22) (by rfl)) (by rfl)
theorem qs23 : Cond.selects "Nominator$Office" ⟨"Nominator$Office", "comesBefore", "(II)Z"⟩ ⟨"Nominator$Office", "comesBefore", "(II)Z"⟩ ∈ gw := gw_ins (List.mem_of_getElem? (i := 23) (by rfl)) (by rfl)
theorem qs24 : Cond.selects "Nominator" ⟨"Nominator", "needStanding", "(I)V"⟩ ⟨"Nominator", "needStanding", "(I)V"⟩ ∈ gw := gw_ins (List.mem_of_getElem? (i := 24) (by rfl)) (by rfl)
theorem qs25 : Cond.selects "Nominator" ⟨"Nominator", "needCounting", "(I)V"⟩ ⟨"Nominator", "needCounting", "(I)V"⟩ ∈ gw := gw_ins (List.mem_of_getElem? (i := 25) (by rfl)) (by rfl)
theorem qs26 : Cond.selects "NominatorModel" ⟨"NominatorModel", "fails", "(I)I"⟩ ⟨"NominatorModel", "fails", "(I)I"⟩ ∈ gw := gw_ins (List.mem_of_getElem? (i := 26) (by rfl)) (by rfl)
theorem qs27 : Cond.selects "NominatorModel" ⟨"NominatorModel", "open", "()Z"⟩ ⟨"NominatorModel", "open", "()Z"⟩ ∈ gw := gw_ins (List.mem_of_getElem? (i := 27) (by rfl)) (by rfl)
theorem qs28 : Cond.selects "NominatorModel" ⟨"NominatorModel", "close", "()V"⟩ ⟨"NominatorModel", "close", "()V"⟩ ∈ gw := gw_ins (List.mem_of_getElem? (i := 28) (by rfl)) (by rfl)
theorem qs29 : Cond.selects "NominatorModel" ⟨"NominatorModel", "openResult", "(II)I"⟩ ⟨"NominatorModel", "openResult", "(II)I"⟩ ∈ gw := gw_ins (List.mem_of_getElem? (i := 29) (by rfl)) (by rfl)
theorem qs30 : Cond.selects "NominatorModel" ⟨"NominatorModel", "isGone", "(II)Z"⟩ ⟨"NominatorModel", "isGone", "(II)Z"⟩ ∈ gw := gw_ins (List.mem_of_getElem? (i := 30) (by rfl)) (by rfl)
theorem qs31 : Cond.selects "NominatorModel" ⟨"NominatorModel", "isFree", "(III)Z"⟩ ⟨"NominatorModel", "isFree", "(III)Z"⟩ ∈ gw := gw_ins (List.mem_of_getElem? (i := 31) (by rfl)) (by rfl)
theorem qs32 : Cond.selects "NominatorModel" ⟨"NominatorModel", "openReason", "(I)I"⟩ ⟨"NominatorModel", "openReason", "(I)I"⟩ ∈ gw := gw_ins (List.mem_of_getElem? (i := 32) (by rfl)) (by rfl)
theorem qs33 : Cond.selects "NominatorModel" ⟨"NominatorModel", "counting", "(II)I"⟩ ⟨"NominatorModel", "counting", "(II)I"⟩ ∈ gw := gw_ins (List.mem_of_getElem? (i := 33) (by rfl)) (by rfl)
theorem qs34 : Cond.selects "NominatorModel" ⟨"NominatorModel", "isDouble", "(I)Z"⟩ ⟨"NominatorModel", "isDouble", "(I)Z"⟩ ∈ gw := gw_ins (List.mem_of_getElem? (i := 34) (by rfl)) (by rfl)
theorem qs35 : Cond.selects "NominatorModel" ⟨"NominatorModel", "isArea", "(I)Z"⟩ ⟨"NominatorModel", "isArea", "(I)Z"⟩ ∈ gw := gw_ins (List.mem_of_getElem? (i := 35) (by rfl)) (by rfl)
theorem qs36 : Cond.selects "NominatorModel" ⟨"NominatorModel", "isVoter", "(I)Z"⟩ ⟨"NominatorModel", "isVoter", "(I)Z"⟩ ∈ gw := gw_ins (List.mem_of_getElem? (i := 36) (by rfl)) (by rfl)
theorem qs37 : Cond.selects "NominatorModel" ⟨"NominatorModel", "turns", "(IZ)I"⟩ ⟨"NominatorModel", "turns", "(IZ)I"⟩ ∈ gw := gw_ins (List.mem_of_getElem? (i := 37) (by rfl)) (by rfl)
theorem qs38 : Cond.selects "NominatorModel" ⟨"NominatorModel", "onRoll", "()I"⟩ ⟨"NominatorModel", "onRoll", "()I"⟩ ∈ gw := gw_ins (List.mem_of_getElem? (i := 38) (by rfl)) (by rfl)
theorem qs39 : Cond.selects "NominatorModel" ⟨"NominatorModel", "writeName", "(ICCCC)V"⟩ ⟨"NominatorModel", "writeName", "(ICCCC)V"⟩ ∈ gw := gw_ins (List.mem_of_getElem? (i := 39) (by rfl)) (by rfl)
theorem qs40 : Cond.selects "NominatorModel" ⟨"NominatorModel", "isPaper", "(I)Z"⟩ ⟨"NominatorModel", "isPaper", "(I)Z"⟩ ∈ gw := gw_ins (List.mem_of_getElem? (i := 40) (by rfl)) (by rfl)
theorem qs41 : Cond.selects "NominatorModel" ⟨"NominatorModel", "isRejected", "(I)Z"⟩ ⟨"NominatorModel", "isRejected", "(I)Z"⟩ ∈ gw := gw_ins (List.mem_of_getElem? (i := 41) (by rfl)) (by rfl)
theorem qs42 : Cond.selects "NominatorModel" ⟨"NominatorModel", "canReplace", "(I)Z"⟩ ⟨"NominatorModel", "canReplace", "(I)Z"⟩ ∈ gw := gw_ins (List.mem_of_getElem? (i := 42) (by rfl)) (by rfl)
theorem qs43 : Cond.selects "NominatorModel" ⟨"NominatorModel", "result", "(I)I"⟩ ⟨"NominatorModel", "result", "(I)I"⟩ ∈ gw := gw_ins (List.mem_of_getElem? (i := 43) (by rfl)) (by rfl)
theorem qs44 : Cond.selects "NominatorModel" ⟨"NominatorModel", "reasonOf", "(I)I"⟩ ⟨"NominatorModel", "reasonOf", "(I)I"⟩ ∈ gw := gw_ins (List.mem_of_getElem? (i := 44) (by rfl)) (by rfl)
theorem qs45 : Cond.selects "NominatorModel" ⟨"NominatorModel", "standing", "(I)I"⟩ ⟨"NominatorModel", "standing", "(I)I"⟩ ∈ gw := gw_ins (List.mem_of_getElem? (i := 45) (by rfl)) (by rfl)
theorem qs46 : Cond.selects "NominatorModel" ⟨"NominatorModel", "laid", "(I)I"⟩ ⟨"NominatorModel", "laid", "(I)I"⟩ ∈ gw := gw_ins (List.mem_of_getElem? (i := 46) (by rfl)) (by rfl)
theorem qs47 : Cond.selects "NominatorModel" ⟨"NominatorModel", "isAhead", "(II)Z"⟩ ⟨"NominatorModel", "isAhead", "(II)Z"⟩ ∈ gw := gw_ins (List.mem_of_getElem? (i := 47) (by rfl)) (by rfl)
theorem qs48 : Cond.selects "NominatorModel" ⟨"NominatorModel", "rank", "(C)I"⟩ ⟨"NominatorModel", "rank", "(C)I"⟩ ∈ gw := gw_ins (List.mem_of_getElem? (i := 48) (by rfl)) (by rfl)
theorem qs49 : Cond.selects "NominatorModel" ⟨"NominatorModel", "fate", "(I)I"⟩ ⟨"NominatorModel", "fate", "(I)I"⟩ ∈ gw := gw_ins (List.mem_of_getElem? (i := 49) (by rfl)) (by rfl)
theorem qs50 : Cond.selects "NominatorModel" ⟨"NominatorModel", "allVotes", "(I)I"⟩ ⟨"NominatorModel", "allVotes", "(I)I"⟩ ∈ gw := gw_ins (List.mem_of_getElem? (i := 50) (by rfl)) (by rfl)
theorem qs51 : Cond.selects "NominatorModel" ⟨"NominatorModel", "sum", "(I)I"⟩ ⟨"NominatorModel", "sum", "(I)I"⟩ ∈ gw := gw_ins (List.mem_of_getElem? (i := 51) (by rfl)) (by rfl)
