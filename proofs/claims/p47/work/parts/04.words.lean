def gw : List Cond := lw_tbl.filter goodWord
theorem gw_in {w : Cond} (h : w ∈ tables_1) (g : goodWord w = true) : w ∈ gw := List.mem_filter.mpr ⟨List.mem_append_right _ h, g⟩
theorem gw_ins {w : Cond} (h : w ∈ k2_sels lw_privs) (g : goodWord w = true) : w ∈ gw := List.mem_filter.mpr ⟨List.mem_append_left _ h, g⟩
theorem gw_tbl {w : Cond} (h : w ∈ gw) : w ∈ lw_tbl := (List.mem_filter.mp h).1
theorem gw_good {ws : List Cond} (h : ∀ w ∈ ws, w ∈ gw) : GoodIn gw ws := fun w hw => ⟨h w hw, good_of_word (List.mem_filter.mp (h w hw)).2⟩
set_option maxRecDepth 20000 in
theorem q0 : (Jvm.Cond.initialized "NominatorLaw") ∈ gw := gw_in (List.mem_of_getElem? (i := 0) (by rfl)) (by rfl)
set_option maxRecDepth 20000 in
theorem q1 : (Jvm.Cond.initialized "Nominator") ∈ gw := gw_in (List.mem_of_getElem? (i := 1) (by rfl)) (by rfl)
set_option maxRecDepth 20000 in
theorem q2 : (Jvm.Cond.initialized "Nominator$Office") ∈ gw := gw_in (List.mem_of_getElem? (i := 2) (by rfl)) (by rfl)
set_option maxRecDepth 20000 in
theorem q3 : (Jvm.Cond.initialized "Nominator$Calendar") ∈ gw := gw_in (List.mem_of_getElem? (i := 3) (by rfl)) (by rfl)
set_option maxRecDepth 20000 in
theorem q4 : (Jvm.Cond.initialized "Nominator$Roll") ∈ gw := gw_in (List.mem_of_getElem? (i := 4) (by rfl)) (by rfl)
set_option maxRecDepth 20000 in
theorem q5 : (Jvm.Cond.initialized "Nominator$Area") ∈ gw := gw_in (List.mem_of_getElem? (i := 5) (by rfl)) (by rfl)
set_option maxRecDepth 20000 in
theorem q6 : (Jvm.Cond.initialized "Nominator$Voter") ∈ gw := gw_in (List.mem_of_getElem? (i := 6) (by rfl)) (by rfl)
set_option maxRecDepth 20000 in
theorem q7 : (Jvm.Cond.initialized "Nominator$Letters") ∈ gw := gw_in (List.mem_of_getElem? (i := 7) (by rfl)) (by rfl)
set_option maxRecDepth 20000 in
theorem q8 : (Jvm.Cond.initialized "Nominator$Paper") ∈ gw := gw_in (List.mem_of_getElem? (i := 8) (by rfl)) (by rfl)
set_option maxRecDepth 20000 in
theorem q9 : (Jvm.Cond.initialized "Nominator$Signature") ∈ gw := gw_in (List.mem_of_getElem? (i := 9) (by rfl)) (by rfl)
set_option maxRecDepth 20000 in
theorem q10 : (Jvm.Cond.initialized "Nominator$Diary") ∈ gw := gw_in (List.mem_of_getElem? (i := 10) (by rfl)) (by rfl)
set_option maxRecDepth 20000 in
theorem q11 : (Jvm.Cond.initialized "java/lang/Throwable") ∈ gw := gw_in (List.mem_of_getElem? (i := 11) (by rfl)) (by rfl)
set_option maxRecDepth 20000 in
theorem q12 : (Jvm.Cond.initialized "java/lang/Exception") ∈ gw := gw_in (List.mem_of_getElem? (i := 12) (by rfl)) (by rfl)
set_option maxRecDepth 20000 in
theorem q13 : (Jvm.Cond.initialized "java/lang/RuntimeException") ∈ gw := gw_in (List.mem_of_getElem? (i := 13) (by rfl)) (by rfl)
set_option maxRecDepth 20000 in
theorem q14 : (Jvm.Cond.initialized "java/lang/IndexOutOfBoundsException") ∈ gw := gw_in (List.mem_of_getElem? (i := 14) (by rfl)) (by rfl)
set_option maxRecDepth 20000 in
theorem q15 : (Jvm.Cond.initialized "java/lang/ArrayIndexOutOfBoundsException") ∈ gw := gw_in (List.mem_of_getElem? (i := 15) (by rfl)) (by rfl)
set_option maxRecDepth 20000 in
theorem q16 : (Jvm.Cond.initialized "java/lang/String") ∈ gw := gw_in (List.mem_of_getElem? (i := 16) (by rfl)) (by rfl)
set_option maxRecDepth 20000 in
theorem q17 : (Jvm.Cond.initialized "java/lang/IllegalArgumentException") ∈ gw := gw_in (List.mem_of_getElem? (i := 17) (by rfl)) (by rfl)
set_option maxRecDepth 20000 in
theorem q18 : (Jvm.Cond.initialized "java/lang/IllegalStateException") ∈ gw := gw_in (List.mem_of_getElem? (i := 18) (by rfl)) (by rfl)
set_option maxRecDepth 20000 in
theorem q19 : (Jvm.Cond.initialized "java/lang/UnsupportedOperationException") ∈ gw := gw_in (List.mem_of_getElem? (i := 19) (by rfl)) (by rfl)
set_option maxRecDepth 20000 in
theorem q20 : (Jvm.Cond.initialized "java/util/NoSuchElementException") ∈ gw := gw_in (List.mem_of_getElem? (i := 20) (by rfl)) (by rfl)
set_option maxRecDepth 20000 in
theorem q21 : (Jvm.Cond.initialized "java/lang/Integer") ∈ gw := gw_in (List.mem_of_getElem? (i := 21) (by rfl)) (by rfl)
set_option maxRecDepth 20000 in
theorem q22 : (Jvm.Cond.initialized "java/lang/Math") ∈ gw := gw_in (List.mem_of_getElem? (i := 22) (by rfl)) (by rfl)
set_option maxRecDepth 20000 in
theorem q23 : (Jvm.Cond.classLink "NominatorLaw" (10 : Nat) "Nominator") ∈ gw := gw_in (List.mem_of_getElem? (i := 23) (by rfl)) (by rfl)
set_option maxRecDepth 20000 in
theorem q24 : (Jvm.Cond.instantiable "Nominator" (3 : Nat)) ∈ gw := gw_in (List.mem_of_getElem? (i := 24) (by rfl)) (by rfl)
set_option maxRecDepth 20000 in
theorem q25 : (Jvm.Cond.methodLink "NominatorLaw" (169 : Nat) ({ cls := "Nominator", name := "<init>", desc := "()V" } : Jvm.MethodName)) ∈ gw := gw_in (List.mem_of_getElem? (i := 25) (by rfl)) (by rfl)
set_option maxRecDepth 20000 in
theorem q26 : (Jvm.Cond.instanceMethod ({ cls := "Nominator", name := "<init>", desc := "()V" } : Jvm.MethodName)) ∈ gw := gw_in (List.mem_of_getElem? (i := 26) (by rfl)) (by rfl)
set_option maxRecDepth 20000 in
theorem q27 : (Jvm.Cond.code ({ cls := "Nominator", name := "<init>", desc := "()V" } : Jvm.MethodName) prog_1_method_1_code (1 : Nat) (Option.none : Option Jvm.ClassFile.FieldType)) ∈ gw := gw_in (List.mem_of_getElem? (i := 27) (by rfl)) (by rfl)
set_option maxRecDepth 20000 in
theorem q28 : (Jvm.Cond.methodLink "Nominator" (1 : Nat) ({ cls := "java/lang/Object", name := "<init>", desc := "()V" } : Jvm.MethodName)) ∈ gw := gw_in (List.mem_of_getElem? (i := 28) (by rfl)) (by rfl)
set_option maxRecDepth 20000 in
theorem q29 : (Jvm.Cond.instanceMethod ({ cls := "java/lang/Object", name := "<init>", desc := "()V" } : Jvm.MethodName)) ∈ gw := gw_in (List.mem_of_getElem? (i := 29) (by rfl)) (by rfl)
set_option maxRecDepth 20000 in
theorem q30 : (Jvm.Cond.code ({ cls := "java/lang/Object", name := "<init>", desc := "()V" } : Jvm.MethodName) object_method_1_code (1 : Nat) (Option.none : Option Jvm.ClassFile.FieldType)) ∈ gw := gw_in (List.mem_of_getElem? (i := 30) (by rfl)) (by rfl)
set_option maxRecDepth 20000 in
theorem q31 : (Jvm.Cond.classLink "Nominator" (7 : Nat) "Nominator$Office") ∈ gw := gw_in (List.mem_of_getElem? (i := 31) (by rfl)) (by rfl)
set_option maxRecDepth 20000 in
theorem q32 : (Jvm.Cond.instantiable "Nominator$Office" (9 : Nat)) ∈ gw := gw_in (List.mem_of_getElem? (i := 32) (by rfl)) (by rfl)
set_option maxRecDepth 20000 in
theorem q33 : (Jvm.Cond.methodLink "Nominator" (9 : Nat) ({ cls := "Nominator$Office", name := "<init>", desc := "()V" } : Jvm.MethodName)) ∈ gw := gw_in (List.mem_of_getElem? (i := 33) (by rfl)) (by rfl)
set_option maxRecDepth 20000 in
theorem q34 : (Jvm.Cond.instanceMethod ({ cls := "Nominator$Office", name := "<init>", desc := "()V" } : Jvm.MethodName)) ∈ gw := gw_in (List.mem_of_getElem? (i := 34) (by rfl)) (by rfl)
set_option maxRecDepth 20000 in
theorem q35 : (Jvm.Cond.code ({ cls := "Nominator$Office", name := "<init>", desc := "()V" } : Jvm.MethodName) prog_6_method_1_code (2 : Nat) (Option.none : Option Jvm.ClassFile.FieldType)) ∈ gw := gw_in (List.mem_of_getElem? (i := 35) (by rfl)) (by rfl)
set_option maxRecDepth 20000 in
theorem q36 : (Jvm.Cond.methodLink "Nominator$Office" (3 : Nat) ({ cls := "java/lang/Object", name := "<init>", desc := "()V" } : Jvm.MethodName)) ∈ gw := gw_in (List.mem_of_getElem? (i := 36) (by rfl)) (by rfl)
set_option maxRecDepth 20000 in
theorem q37 : (Jvm.Cond.classLink "Nominator$Office" (9 : Nat) "Nominator$Calendar") ∈ gw := gw_in (List.mem_of_getElem? (i := 37) (by rfl)) (by rfl)
set_option maxRecDepth 20000 in
theorem q38 : (Jvm.Cond.instantiable "Nominator$Calendar" (4 : Nat)) ∈ gw := gw_in (List.mem_of_getElem? (i := 38) (by rfl)) (by rfl)
set_option maxRecDepth 20000 in
theorem q40 : (Jvm.Cond.instanceMethod ({ cls := "Nominator$Calendar", name := "<init>", desc := "()V" } : Jvm.MethodName)) ∈ gw := gw_in (List.mem_of_getElem? (i := 40) (by rfl)) (by rfl)
set_option maxRecDepth 20000 in
theorem q41 : (Jvm.Cond.code ({ cls := "Nominator$Calendar", name := "<init>", desc := "()V" } : Jvm.MethodName) prog_3_method_1_code (1 : Nat) (Option.none : Option Jvm.ClassFile.FieldType)) ∈ gw := gw_in (List.mem_of_getElem? (i := 41) (by rfl)) (by rfl)
set_option maxRecDepth 20000 in
theorem q42 : (Jvm.Cond.methodLink "Nominator$Calendar" (3 : Nat) ({ cls := "java/lang/Object", name := "<init>", desc := "()V" } : Jvm.MethodName)) ∈ gw := gw_in (List.mem_of_getElem? (i := 42) (by rfl)) (by rfl)
set_option maxRecDepth 20000 in
theorem q43 : (Jvm.Cond.fieldLink "Nominator$Calendar" (9 : Nat) "Nominator$Calendar" "day" "I") ∈ gw := gw_in (List.mem_of_getElem? (i := 43) (by rfl)) (by rfl)
set_option maxRecDepth 20000 in
theorem q44 : (Jvm.Cond.fieldLink "Nominator" (37 : Nat) "Nominator$Calendar" "day" "I") ∈ gw := gw_in (List.mem_of_getElem? (i := 44) (by rfl)) (by rfl)
set_option maxRecDepth 20000 in
theorem q45 : (Jvm.Cond.fieldLink "Nominator$Office" (73 : Nat) "Nominator$Calendar" "day" "I") ∈ gw := gw_in (List.mem_of_getElem? (i := 45) (by rfl)) (by rfl)
set_option maxRecDepth 20000 in
theorem q46 : (Jvm.Cond.fieldLink "Nominator$Calendar" (19 : Nat) "Nominator$Calendar" "closing" "I") ∈ gw := gw_in (List.mem_of_getElem? (i := 46) (by rfl)) (by rfl)
set_option maxRecDepth 20000 in
theorem q47 : (Jvm.Cond.fieldLink "Nominator$Calendar" (22 : Nat) "Nominator$Calendar" "changes" "I") ∈ gw := gw_in (List.mem_of_getElem? (i := 47) (by rfl)) (by rfl)
set_option maxRecDepth 20000 in
theorem q48 : (Jvm.Cond.fieldLink "Nominator$Calendar" (25 : Nat) "Nominator$Calendar" "polling" "I") ∈ gw := gw_in (List.mem_of_getElem? (i := 48) (by rfl)) (by rfl)
set_option maxRecDepth 20000 in
theorem q49 : (Jvm.Cond.lays "Nominator$Calendar" "Nominator$Calendar" "day" "I") ∈ gw := gw_in (List.mem_of_getElem? (i := 49) (by rfl)) (by rfl)
set_option maxRecDepth 20000 in
theorem q51 : (Jvm.Cond.lays "Nominator$Calendar" "Nominator$Calendar" "closing" "I") ∈ gw := gw_in (List.mem_of_getElem? (i := 51) (by rfl)) (by rfl)
set_option maxRecDepth 20000 in
theorem q53 : (Jvm.Cond.lays "Nominator$Calendar" "Nominator$Calendar" "changes" "I") ∈ gw := gw_in (List.mem_of_getElem? (i := 53) (by rfl)) (by rfl)
set_option maxRecDepth 20000 in
theorem q55 : (Jvm.Cond.lays "Nominator$Calendar" "Nominator$Calendar" "polling" "I") ∈ gw := gw_in (List.mem_of_getElem? (i := 55) (by rfl)) (by rfl)
set_option maxRecDepth 20000 in
theorem q58 : (Jvm.Cond.classLink "Nominator$Office" (18 : Nat) "Nominator$Roll") ∈ gw := gw_in (List.mem_of_getElem? (i := 58) (by rfl)) (by rfl)
set_option maxRecDepth 20000 in
theorem q59 : (Jvm.Cond.instantiable "Nominator$Roll" (4 : Nat)) ∈ gw := gw_in (List.mem_of_getElem? (i := 59) (by rfl)) (by rfl)
set_option maxRecDepth 20000 in
theorem q60 : (Jvm.Cond.methodLink "Nominator$Office" (20 : Nat) ({ cls := "Nominator$Roll", name := "<init>", desc := "()V" } : Jvm.MethodName)) ∈ gw := gw_in (List.mem_of_getElem? (i := 60) (by rfl)) (by rfl)
set_option maxRecDepth 20000 in
theorem q61 : (Jvm.Cond.instanceMethod ({ cls := "Nominator$Roll", name := "<init>", desc := "()V" } : Jvm.MethodName)) ∈ gw := gw_in (List.mem_of_getElem? (i := 61) (by rfl)) (by rfl)
set_option maxRecDepth 20000 in
theorem q62 : (Jvm.Cond.code ({ cls := "Nominator$Roll", name := "<init>", desc := "()V" } : Jvm.MethodName) prog_8_method_1_code (2 : Nat) (Option.none : Option Jvm.ClassFile.FieldType)) ∈ gw := gw_in (List.mem_of_getElem? (i := 62) (by rfl)) (by rfl)
set_option maxRecDepth 20000 in
theorem q63 : (Jvm.Cond.methodLink "Nominator$Roll" (3 : Nat) ({ cls := "java/lang/Object", name := "<init>", desc := "()V" } : Jvm.MethodName)) ∈ gw := gw_in (List.mem_of_getElem? (i := 63) (by rfl)) (by rfl)
set_option maxRecDepth 20000 in
theorem q64 : (Jvm.Cond.classLink "Nominator$Roll" (9 : Nat) "Nominator$Area") ∈ gw := gw_in (List.mem_of_getElem? (i := 64) (by rfl)) (by rfl)
set_option maxRecDepth 20000 in
theorem q66 : (Jvm.Cond.classLink "Nominator$Roll" (17 : Nat) "Nominator$Voter") ∈ gw := gw_in (List.mem_of_getElem? (i := 66) (by rfl)) (by rfl)
set_option maxRecDepth 20000 in
theorem q68 : (Jvm.Cond.instantiable "Nominator$Area" (3 : Nat)) ∈ gw := gw_in (List.mem_of_getElem? (i := 68) (by rfl)) (by rfl)
set_option maxRecDepth 20000 in
theorem q70 : (Jvm.Cond.instanceMethod ({ cls := "Nominator$Area", name := "<init>", desc := "()V" } : Jvm.MethodName)) ∈ gw := gw_in (List.mem_of_getElem? (i := 70) (by rfl)) (by rfl)
set_option maxRecDepth 20000 in
theorem q71 : (Jvm.Cond.code ({ cls := "Nominator$Area", name := "<init>", desc := "()V" } : Jvm.MethodName) prog_2_method_1_code (1 : Nat) (Option.none : Option Jvm.ClassFile.FieldType)) ∈ gw := gw_in (List.mem_of_getElem? (i := 71) (by rfl)) (by rfl)
set_option maxRecDepth 20000 in
theorem q72 : (Jvm.Cond.methodLink "Nominator$Area" (1 : Nat) ({ cls := "java/lang/Object", name := "<init>", desc := "()V" } : Jvm.MethodName)) ∈ gw := gw_in (List.mem_of_getElem? (i := 72) (by rfl)) (by rfl)
set_option maxRecDepth 20000 in
theorem q73 : (Jvm.Cond.fieldLink "Nominator$Area" (7 : Nat) "Nominator$Area" "needed" "I") ∈ gw := gw_in (List.mem_of_getElem? (i := 73) (by rfl)) (by rfl)
set_option maxRecDepth 20000 in
theorem q74 : (Jvm.Cond.fieldLink "Nominator$Office" (187 : Nat) "Nominator$Area" "needed" "I") ∈ gw := gw_in (List.mem_of_getElem? (i := 74) (by rfl)) (by rfl)
set_option maxRecDepth 20000 in
theorem q75 : (Jvm.Cond.fieldLink "Nominator$Area" (13 : Nat) "Nominator$Area" "deposit" "I") ∈ gw := gw_in (List.mem_of_getElem? (i := 75) (by rfl)) (by rfl)
set_option maxRecDepth 20000 in
theorem q76 : (Jvm.Cond.fieldLink "Nominator$Office" (184 : Nat) "Nominator$Area" "deposit" "I") ∈ gw := gw_in (List.mem_of_getElem? (i := 76) (by rfl)) (by rfl)
set_option maxRecDepth 20000 in
theorem q77 : (Jvm.Cond.fieldLink "Nominator$Area" (16 : Nat) "Nominator$Area" "finished" "Z") ∈ gw := gw_in (List.mem_of_getElem? (i := 77) (by rfl)) (by rfl)
set_option maxRecDepth 20000 in
theorem q78 : (Jvm.Cond.fieldLink "Nominator$Office" (104 : Nat) "Nominator$Area" "finished" "Z") ∈ gw := gw_in (List.mem_of_getElem? (i := 78) (by rfl)) (by rfl)
set_option maxRecDepth 20000 in
theorem q79 : (Jvm.Cond.fieldLink "Nominator" (324 : Nat) "Nominator$Area" "finished" "Z") ∈ gw := gw_in (List.mem_of_getElem? (i := 79) (by rfl)) (by rfl)
set_option maxRecDepth 20000 in
theorem q80 : (Jvm.Cond.lays "Nominator$Area" "Nominator$Area" "needed" "I") ∈ gw := gw_in (List.mem_of_getElem? (i := 80) (by rfl)) (by rfl)
set_option maxRecDepth 20000 in
theorem q82 : (Jvm.Cond.lays "Nominator$Area" "Nominator$Area" "deposit" "I") ∈ gw := gw_in (List.mem_of_getElem? (i := 82) (by rfl)) (by rfl)
set_option maxRecDepth 20000 in
theorem q84 : (Jvm.Cond.lays "Nominator$Area" "Nominator$Area" "finished" "Z") ∈ gw := gw_in (List.mem_of_getElem? (i := 84) (by rfl)) (by rfl)
set_option maxRecDepth 20000 in
theorem q87 : (Jvm.Cond.instantiable "Nominator$Voter" (3 : Nat)) ∈ gw := gw_in (List.mem_of_getElem? (i := 87) (by rfl)) (by rfl)
set_option maxRecDepth 20000 in
theorem q89 : (Jvm.Cond.instanceMethod ({ cls := "Nominator$Voter", name := "<init>", desc := "()V" } : Jvm.MethodName)) ∈ gw := gw_in (List.mem_of_getElem? (i := 89) (by rfl)) (by rfl)
set_option maxRecDepth 20000 in
theorem q90 : (Jvm.Cond.code ({ cls := "Nominator$Voter", name := "<init>", desc := "()V" } : Jvm.MethodName) prog_10_method_1_code (1 : Nat) (Option.none : Option Jvm.ClassFile.FieldType)) ∈ gw := gw_in (List.mem_of_getElem? (i := 90) (by rfl)) (by rfl)
set_option maxRecDepth 20000 in
theorem q91 : (Jvm.Cond.methodLink "Nominator$Voter" (1 : Nat) ({ cls := "java/lang/Object", name := "<init>", desc := "()V" } : Jvm.MethodName)) ∈ gw := gw_in (List.mem_of_getElem? (i := 91) (by rfl)) (by rfl)
set_option maxRecDepth 20000 in
theorem q92 : (Jvm.Cond.fieldLink "Nominator$Voter" (7 : Nat) "Nominator$Voter" "area" "I") ∈ gw := gw_in (List.mem_of_getElem? (i := 92) (by rfl)) (by rfl)
set_option maxRecDepth 20000 in
theorem q93 : (Jvm.Cond.fieldLink "Nominator$Office" (88 : Nat) "Nominator$Voter" "area" "I") ∈ gw := gw_in (List.mem_of_getElem? (i := 93) (by rfl)) (by rfl)
set_option maxRecDepth 20000 in
theorem q94 : (Jvm.Cond.fieldLink "Nominator" (95 : Nat) "Nominator$Voter" "area" "I") ∈ gw := gw_in (List.mem_of_getElem? (i := 94) (by rfl)) (by rfl)
set_option maxRecDepth 20000 in
theorem q95 : (Jvm.Cond.fieldLink "Nominator$Voter" (13 : Nat) "Nominator$Voter" "onRoll" "Z") ∈ gw := gw_in (List.mem_of_getElem? (i := 95) (by rfl)) (by rfl)
set_option maxRecDepth 20000 in
theorem q96 : (Jvm.Cond.fieldLink "Nominator$Office" (93 : Nat) "Nominator$Voter" "onRoll" "Z") ∈ gw := gw_in (List.mem_of_getElem? (i := 96) (by rfl)) (by rfl)
set_option maxRecDepth 20000 in
theorem q97 : (Jvm.Cond.fieldLink "Nominator$Roll" (39 : Nat) "Nominator$Voter" "onRoll" "Z") ∈ gw := gw_in (List.mem_of_getElem? (i := 97) (by rfl)) (by rfl)
set_option maxRecDepth 20000 in
theorem q98 : (Jvm.Cond.fieldLink "Nominator" (105 : Nat) "Nominator$Voter" "onRoll" "Z") ∈ gw := gw_in (List.mem_of_getElem? (i := 98) (by rfl)) (by rfl)
set_option maxRecDepth 20000 in
theorem q99 : (Jvm.Cond.fieldLink "Nominator$Voter" (17 : Nat) "Nominator$Voter" "signed" "I") ∈ gw := gw_in (List.mem_of_getElem? (i := 99) (by rfl)) (by rfl)
set_option maxRecDepth 20000 in
theorem q100 : (Jvm.Cond.fieldLink "Nominator$Office" (142 : Nat) "Nominator$Voter" "signed" "I") ∈ gw := gw_in (List.mem_of_getElem? (i := 100) (by rfl)) (by rfl)
set_option maxRecDepth 20000 in
theorem q101 : (Jvm.Cond.lays "Nominator$Voter" "Nominator$Voter" "area" "I") ∈ gw := gw_in (List.mem_of_getElem? (i := 101) (by rfl)) (by rfl)
set_option maxRecDepth 20000 in
theorem q103 : (Jvm.Cond.lays "Nominator$Voter" "Nominator$Voter" "onRoll" "Z") ∈ gw := gw_in (List.mem_of_getElem? (i := 103) (by rfl)) (by rfl)
set_option maxRecDepth 20000 in
theorem q105 : (Jvm.Cond.lays "Nominator$Voter" "Nominator$Voter" "signed" "I") ∈ gw := gw_in (List.mem_of_getElem? (i := 105) (by rfl)) (by rfl)
set_option maxRecDepth 20000 in
theorem q108 : (Jvm.Cond.fieldLink "Nominator$Roll" (11 : Nat) "Nominator$Roll" "areas" "[LNominator$Area;") ∈ gw := gw_in (List.mem_of_getElem? (i := 108) (by rfl)) (by rfl)
set_option maxRecDepth 20000 in
theorem q109 : (Jvm.Cond.fieldLink "Nominator$Office" (100 : Nat) "Nominator$Roll" "areas" "[LNominator$Area;") ∈ gw := gw_in (List.mem_of_getElem? (i := 109) (by rfl)) (by rfl)
set_option maxRecDepth 20000 in
theorem q110 : (Jvm.Cond.fieldLink "Nominator" (320 : Nat) "Nominator$Roll" "areas" "[LNominator$Area;") ∈ gw := gw_in (List.mem_of_getElem? (i := 110) (by rfl)) (by rfl)
set_option maxRecDepth 20000 in
theorem q111 : (Jvm.Cond.fieldLink "Nominator$Roll" (19 : Nat) "Nominator$Roll" "voters" "[LNominator$Voter;") ∈ gw := gw_in (List.mem_of_getElem? (i := 111) (by rfl)) (by rfl)
set_option maxRecDepth 20000 in
theorem q112 : (Jvm.Cond.fieldLink "Nominator$Office" (84 : Nat) "Nominator$Roll" "voters" "[LNominator$Voter;") ∈ gw := gw_in (List.mem_of_getElem? (i := 112) (by rfl)) (by rfl)
set_option maxRecDepth 20000 in
theorem q113 : (Jvm.Cond.fieldLink "Nominator" (91 : Nat) "Nominator$Roll" "voters" "[LNominator$Voter;") ∈ gw := gw_in (List.mem_of_getElem? (i := 113) (by rfl)) (by rfl)
set_option maxRecDepth 20000 in
theorem q114 : (Jvm.Cond.fieldLink "Nominator$Roll" (25 : Nat) "Nominator$Roll" "areaCount" "I") ∈ gw := gw_in (List.mem_of_getElem? (i := 114) (by rfl)) (by rfl)
set_option maxRecDepth 20000 in
theorem q115 : (Jvm.Cond.fieldLink "Nominator" (72 : Nat) "Nominator$Roll" "areaCount" "I") ∈ gw := gw_in (List.mem_of_getElem? (i := 115) (by rfl)) (by rfl)
set_option maxRecDepth 20000 in
theorem q116 : (Jvm.Cond.fieldLink "Nominator$Roll" (29 : Nat) "Nominator$Roll" "voterCount" "I") ∈ gw := gw_in (List.mem_of_getElem? (i := 116) (by rfl)) (by rfl)
set_option maxRecDepth 20000 in
theorem q117 : (Jvm.Cond.fieldLink "Nominator" (83 : Nat) "Nominator$Roll" "voterCount" "I") ∈ gw := gw_in (List.mem_of_getElem? (i := 117) (by rfl)) (by rfl)
set_option maxRecDepth 20000 in
theorem q118 : (Jvm.Cond.laysFinal "Nominator$Roll" "Nominator$Roll" "areas" "[LNominator$Area;") ∈ gw := gw_in (List.mem_of_getElem? (i := 118) (by rfl)) (by rfl)
set_option maxRecDepth 20000 in
theorem q120 : (Jvm.Cond.laysFinal "Nominator$Roll" "Nominator$Roll" "voters" "[LNominator$Voter;") ∈ gw := gw_in (List.mem_of_getElem? (i := 120) (by rfl)) (by rfl)
set_option maxRecDepth 20000 in
theorem q122 : (Jvm.Cond.lays "Nominator$Roll" "Nominator$Roll" "areaCount" "I") ∈ gw := gw_in (List.mem_of_getElem? (i := 122) (by rfl)) (by rfl)
set_option maxRecDepth 20000 in
theorem q124 : (Jvm.Cond.lays "Nominator$Roll" "Nominator$Roll" "voterCount" "I") ∈ gw := gw_in (List.mem_of_getElem? (i := 124) (by rfl)) (by rfl)
set_option maxRecDepth 20000 in
theorem q127 : (Jvm.Cond.classLink "Nominator$Office" (25 : Nat) "Nominator$Letters") ∈ gw := gw_in (List.mem_of_getElem? (i := 127) (by rfl)) (by rfl)
set_option maxRecDepth 20000 in
theorem q128 : (Jvm.Cond.instantiable "Nominator$Letters" (3 : Nat)) ∈ gw := gw_in (List.mem_of_getElem? (i := 128) (by rfl)) (by rfl)
set_option maxRecDepth 20000 in
theorem q130 : (Jvm.Cond.instanceMethod ({ cls := "Nominator$Letters", name := "<init>", desc := "()V" } : Jvm.MethodName)) ∈ gw := gw_in (List.mem_of_getElem? (i := 130) (by rfl)) (by rfl)
set_option maxRecDepth 20000 in
theorem q131 : (Jvm.Cond.code ({ cls := "Nominator$Letters", name := "<init>", desc := "()V" } : Jvm.MethodName) prog_5_method_1_code (1 : Nat) (Option.none : Option Jvm.ClassFile.FieldType)) ∈ gw := gw_in (List.mem_of_getElem? (i := 131) (by rfl)) (by rfl)
set_option maxRecDepth 20000 in
theorem q132 : (Jvm.Cond.methodLink "Nominator$Letters" (3 : Nat) ({ cls := "java/lang/Object", name := "<init>", desc := "()V" } : Jvm.MethodName)) ∈ gw := gw_in (List.mem_of_getElem? (i := 132) (by rfl)) (by rfl)
set_option maxRecDepth 20000 in
theorem q133 : (Jvm.Cond.fieldLink "Nominator$Letters" (9 : Nat) "Nominator$Letters" "order" "[C") ∈ gw := gw_in (List.mem_of_getElem? (i := 133) (by rfl)) (by rfl)
set_option maxRecDepth 20000 in
theorem q134 : (Jvm.Cond.fieldLink "Nominator" (276 : Nat) "Nominator$Letters" "order" "[C") ∈ gw := gw_in (List.mem_of_getElem? (i := 134) (by rfl)) (by rfl)
set_option maxRecDepth 20000 in
theorem q135 : (Jvm.Cond.fieldLink "Nominator$Letters" (15 : Nat) "Nominator$Letters" "places" "[I") ∈ gw := gw_in (List.mem_of_getElem? (i := 135) (by rfl)) (by rfl)
set_option maxRecDepth 20000 in
theorem q136 : (Jvm.Cond.fieldLink "Nominator$Letters" (19 : Nat) "Nominator$Letters" "drawn" "Z") ∈ gw := gw_in (List.mem_of_getElem? (i := 136) (by rfl)) (by rfl)
set_option maxRecDepth 20000 in
theorem q137 : (Jvm.Cond.fieldLink "Nominator" (269 : Nat) "Nominator$Letters" "drawn" "Z") ∈ gw := gw_in (List.mem_of_getElem? (i := 137) (by rfl)) (by rfl)
set_option maxRecDepth 20000 in
theorem q138 : (Jvm.Cond.laysFinal "Nominator$Letters" "Nominator$Letters" "order" "[C") ∈ gw := gw_in (List.mem_of_getElem? (i := 138) (by rfl)) (by rfl)
set_option maxRecDepth 20000 in
theorem q140 : (Jvm.Cond.laysFinal "Nominator$Letters" "Nominator$Letters" "places" "[I") ∈ gw := gw_in (List.mem_of_getElem? (i := 140) (by rfl)) (by rfl)
set_option maxRecDepth 20000 in
theorem q142 : (Jvm.Cond.lays "Nominator$Letters" "Nominator$Letters" "drawn" "Z") ∈ gw := gw_in (List.mem_of_getElem? (i := 142) (by rfl)) (by rfl)
set_option maxRecDepth 20000 in
theorem q145 : (Jvm.Cond.arrayClass Jvm.ClassFile.FieldType.char) ∈ gw := gw_in (List.mem_of_getElem? (i := 145) (by rfl)) (by rfl)
set_option maxRecDepth 20000 in
theorem q146 : (Jvm.Cond.arrayClass Jvm.ClassFile.FieldType.int) ∈ gw := gw_in (List.mem_of_getElem? (i := 146) (by rfl)) (by rfl)
set_option maxRecDepth 20000 in
theorem q147 : (Jvm.Cond.classLink "Nominator$Office" (32 : Nat) "Nominator$Paper") ∈ gw := gw_in (List.mem_of_getElem? (i := 147) (by rfl)) (by rfl)
set_option maxRecDepth 20000 in
theorem q149 : (Jvm.Cond.classLink "Nominator$Office" (38 : Nat) "Nominator$Signature") ∈ gw := gw_in (List.mem_of_getElem? (i := 149) (by rfl)) (by rfl)
set_option maxRecDepth 20000 in
theorem q151 : (Jvm.Cond.instantiable "Nominator$Paper" (10 : Nat)) ∈ gw := gw_in (List.mem_of_getElem? (i := 151) (by rfl)) (by rfl)
set_option maxRecDepth 20000 in
theorem q153 : (Jvm.Cond.instanceMethod ({ cls := "Nominator$Paper", name := "<init>", desc := "()V" } : Jvm.MethodName)) ∈ gw := gw_in (List.mem_of_getElem? (i := 153) (by rfl)) (by rfl)
set_option maxRecDepth 20000 in
theorem q154 : (Jvm.Cond.code ({ cls := "Nominator$Paper", name := "<init>", desc := "()V" } : Jvm.MethodName) prog_7_method_1_code (1 : Nat) (Option.none : Option Jvm.ClassFile.FieldType)) ∈ gw := gw_in (List.mem_of_getElem? (i := 154) (by rfl)) (by rfl)
set_option maxRecDepth 20000 in
theorem q155 : (Jvm.Cond.methodLink "Nominator$Paper" (3 : Nat) ({ cls := "java/lang/Object", name := "<init>", desc := "()V" } : Jvm.MethodName)) ∈ gw := gw_in (List.mem_of_getElem? (i := 155) (by rfl)) (by rfl)
set_option maxRecDepth 20000 in
theorem q156 : (Jvm.Cond.fieldLink "Nominator$Paper" (9 : Nat) "Nominator$Paper" "area" "I") ∈ gw := gw_in (List.mem_of_getElem? (i := 156) (by rfl)) (by rfl)
set_option maxRecDepth 20000 in
theorem q157 : (Jvm.Cond.fieldLink "Nominator$Office" (141 : Nat) "Nominator$Paper" "area" "I") ∈ gw := gw_in (List.mem_of_getElem? (i := 157) (by rfl)) (by rfl)
set_option maxRecDepth 20000 in
theorem q158 : (Jvm.Cond.fieldLink "Nominator" (300 : Nat) "Nominator$Paper" "area" "I") ∈ gw := gw_in (List.mem_of_getElem? (i := 158) (by rfl)) (by rfl)
set_option maxRecDepth 20000 in
theorem q159 : (Jvm.Cond.fieldLink "Nominator$Paper" (15 : Nat) "Nominator$Paper" "party" "I") ∈ gw := gw_in (List.mem_of_getElem? (i := 159) (by rfl)) (by rfl)
set_option maxRecDepth 20000 in
theorem q160 : (Jvm.Cond.fieldLink "Nominator$Office" (193 : Nat) "Nominator$Paper" "party" "I") ∈ gw := gw_in (List.mem_of_getElem? (i := 160) (by rfl)) (by rfl)
set_option maxRecDepth 20000 in
theorem q161 : (Jvm.Cond.fieldLink "Nominator$Paper" (18 : Nat) "Nominator$Paper" "name" "I") ∈ gw := gw_in (List.mem_of_getElem? (i := 161) (by rfl)) (by rfl)
set_option maxRecDepth 20000 in
theorem q162 : (Jvm.Cond.fieldLink "Nominator" (190 : Nat) "Nominator$Paper" "name" "I") ∈ gw := gw_in (List.mem_of_getElem? (i := 162) (by rfl)) (by rfl)
set_option maxRecDepth 20000 in
theorem q163 : (Jvm.Cond.fieldLink "Nominator$Office" (233 : Nat) "Nominator$Paper" "name" "I") ∈ gw := gw_in (List.mem_of_getElem? (i := 163) (by rfl)) (by rfl)
set_option maxRecDepth 20000 in
theorem q164 : (Jvm.Cond.fieldLink "Nominator$Paper" (21 : Nat) "Nominator$Paper" "paid" "I") ∈ gw := gw_in (List.mem_of_getElem? (i := 164) (by rfl)) (by rfl)
set_option maxRecDepth 20000 in
theorem q165 : (Jvm.Cond.fieldLink "Nominator$Office" (119 : Nat) "Nominator$Paper" "paid" "I") ∈ gw := gw_in (List.mem_of_getElem? (i := 165) (by rfl)) (by rfl)
set_option maxRecDepth 20000 in
theorem q166 : (Jvm.Cond.fieldLink "Nominator" (149 : Nat) "Nominator$Paper" "paid" "I") ∈ gw := gw_in (List.mem_of_getElem? (i := 166) (by rfl)) (by rfl)
set_option maxRecDepth 20000 in
theorem q167 : (Jvm.Cond.fieldLink "Nominator$Paper" (24 : Nat) "Nominator$Paper" "votes" "I") ∈ gw := gw_in (List.mem_of_getElem? (i := 167) (by rfl)) (by rfl)
set_option maxRecDepth 20000 in
theorem q168 : (Jvm.Cond.fieldLink "Nominator$Office" (135 : Nat) "Nominator$Paper" "votes" "I") ∈ gw := gw_in (List.mem_of_getElem? (i := 168) (by rfl)) (by rfl)
set_option maxRecDepth 20000 in
theorem q169 : (Jvm.Cond.fieldLink "Nominator" (306 : Nat) "Nominator$Paper" "votes" "I") ∈ gw := gw_in (List.mem_of_getElem? (i := 169) (by rfl)) (by rfl)
set_option maxRecDepth 20000 in
theorem q170 : (Jvm.Cond.fieldLink "Nominator$Paper" (27 : Nat) "Nominator$Paper" "replacements" "I") ∈ gw := gw_in (List.mem_of_getElem? (i := 170) (by rfl)) (by rfl)
set_option maxRecDepth 20000 in
theorem q171 : (Jvm.Cond.fieldLink "Nominator$Office" (199 : Nat) "Nominator$Paper" "replacements" "I") ∈ gw := gw_in (List.mem_of_getElem? (i := 171) (by rfl)) (by rfl)
set_option maxRecDepth 20000 in
theorem q172 : (Jvm.Cond.fieldLink "Nominator" (182 : Nat) "Nominator$Paper" "replacements" "I") ∈ gw := gw_in (List.mem_of_getElem? (i := 172) (by rfl)) (by rfl)
set_option maxRecDepth 20000 in
theorem q173 : (Jvm.Cond.fieldLink "Nominator$Paper" (30 : Nat) "Nominator$Paper" "dead" "Z") ∈ gw := gw_in (List.mem_of_getElem? (i := 173) (by rfl)) (by rfl)
set_option maxRecDepth 20000 in
theorem q174 : (Jvm.Cond.fieldLink "Nominator$Office" (129 : Nat) "Nominator$Paper" "dead" "Z") ∈ gw := gw_in (List.mem_of_getElem? (i := 174) (by rfl)) (by rfl)
set_option maxRecDepth 20000 in
theorem q175 : (Jvm.Cond.fieldLink "Nominator" (166 : Nat) "Nominator$Paper" "dead" "Z") ∈ gw := gw_in (List.mem_of_getElem? (i := 175) (by rfl)) (by rfl)
set_option maxRecDepth 20000 in
theorem q176 : (Jvm.Cond.fieldLink "Nominator$Paper" (34 : Nat) "Nominator$Paper" "withdrawnLate" "Z") ∈ gw := gw_in (List.mem_of_getElem? (i := 176) (by rfl)) (by rfl)
set_option maxRecDepth 20000 in
theorem q177 : (Jvm.Cond.fieldLink "Nominator$Office" (126 : Nat) "Nominator$Paper" "withdrawnLate" "Z") ∈ gw := gw_in (List.mem_of_getElem? (i := 177) (by rfl)) (by rfl)
set_option maxRecDepth 20000 in
theorem q178 : (Jvm.Cond.fieldLink "Nominator$Paper" (37 : Nat) "Nominator$Paper" "counting" "I") ∈ gw := gw_in (List.mem_of_getElem? (i := 178) (by rfl)) (by rfl)
set_option maxRecDepth 20000 in
theorem q179 : (Jvm.Cond.fieldLink "Nominator$Office" (158 : Nat) "Nominator$Paper" "counting" "I") ∈ gw := gw_in (List.mem_of_getElem? (i := 179) (by rfl)) (by rfl)
set_option maxRecDepth 20000 in
theorem q180 : (Jvm.Cond.fieldLink "Nominator" (197 : Nat) "Nominator$Paper" "counting" "I") ∈ gw := gw_in (List.mem_of_getElem? (i := 180) (by rfl)) (by rfl)
set_option maxRecDepth 20000 in
theorem q181 : (Jvm.Cond.fieldLink "Nominator$Paper" (40 : Nat) "Nominator$Paper" "verdict" "I") ∈ gw := gw_in (List.mem_of_getElem? (i := 181) (by rfl)) (by rfl)
set_option maxRecDepth 20000 in
theorem q182 : (Jvm.Cond.fieldLink "Nominator$Office" (155 : Nat) "Nominator$Paper" "verdict" "I") ∈ gw := gw_in (List.mem_of_getElem? (i := 182) (by rfl)) (by rfl)
set_option maxRecDepth 20000 in
theorem q183 : (Jvm.Cond.lays "Nominator$Paper" "Nominator$Paper" "area" "I") ∈ gw := gw_in (List.mem_of_getElem? (i := 183) (by rfl)) (by rfl)
set_option maxRecDepth 20000 in
theorem q185 : (Jvm.Cond.lays "Nominator$Paper" "Nominator$Paper" "party" "I") ∈ gw := gw_in (List.mem_of_getElem? (i := 185) (by rfl)) (by rfl)
set_option maxRecDepth 20000 in
theorem q187 : (Jvm.Cond.lays "Nominator$Paper" "Nominator$Paper" "name" "I") ∈ gw := gw_in (List.mem_of_getElem? (i := 187) (by rfl)) (by rfl)
set_option maxRecDepth 20000 in
theorem q189 : (Jvm.Cond.lays "Nominator$Paper" "Nominator$Paper" "paid" "I") ∈ gw := gw_in (List.mem_of_getElem? (i := 189) (by rfl)) (by rfl)
set_option maxRecDepth 20000 in
theorem q191 : (Jvm.Cond.lays "Nominator$Paper" "Nominator$Paper" "votes" "I") ∈ gw := gw_in (List.mem_of_getElem? (i := 191) (by rfl)) (by rfl)
set_option maxRecDepth 20000 in
theorem q193 : (Jvm.Cond.lays "Nominator$Paper" "Nominator$Paper" "replacements" "I") ∈ gw := gw_in (List.mem_of_getElem? (i := 193) (by rfl)) (by rfl)
set_option maxRecDepth 20000 in
theorem q195 : (Jvm.Cond.lays "Nominator$Paper" "Nominator$Paper" "dead" "Z") ∈ gw := gw_in (List.mem_of_getElem? (i := 195) (by rfl)) (by rfl)
set_option maxRecDepth 20000 in
theorem q197 : (Jvm.Cond.lays "Nominator$Paper" "Nominator$Paper" "withdrawnLate" "Z") ∈ gw := gw_in (List.mem_of_getElem? (i := 197) (by rfl)) (by rfl)
set_option maxRecDepth 20000 in
theorem q199 : (Jvm.Cond.lays "Nominator$Paper" "Nominator$Paper" "counting" "I") ∈ gw := gw_in (List.mem_of_getElem? (i := 199) (by rfl)) (by rfl)
set_option maxRecDepth 20000 in
theorem q201 : (Jvm.Cond.lays "Nominator$Paper" "Nominator$Paper" "verdict" "I") ∈ gw := gw_in (List.mem_of_getElem? (i := 201) (by rfl)) (by rfl)
set_option maxRecDepth 20000 in
theorem q204 : (Jvm.Cond.instantiable "Nominator$Signature" (5 : Nat)) ∈ gw := gw_in (List.mem_of_getElem? (i := 204) (by rfl)) (by rfl)
set_option maxRecDepth 20000 in
theorem q206 : (Jvm.Cond.instanceMethod ({ cls := "Nominator$Signature", name := "<init>", desc := "()V" } : Jvm.MethodName)) ∈ gw := gw_in (List.mem_of_getElem? (i := 206) (by rfl)) (by rfl)
set_option maxRecDepth 20000 in
theorem q207 : (Jvm.Cond.code ({ cls := "Nominator$Signature", name := "<init>", desc := "()V" } : Jvm.MethodName) prog_9_method_1_code (1 : Nat) (Option.none : Option Jvm.ClassFile.FieldType)) ∈ gw := gw_in (List.mem_of_getElem? (i := 207) (by rfl)) (by rfl)
set_option maxRecDepth 20000 in
theorem q208 : (Jvm.Cond.methodLink "Nominator$Signature" (3 : Nat) ({ cls := "java/lang/Object", name := "<init>", desc := "()V" } : Jvm.MethodName)) ∈ gw := gw_in (List.mem_of_getElem? (i := 208) (by rfl)) (by rfl)
set_option maxRecDepth 20000 in
theorem q209 : (Jvm.Cond.fieldLink "Nominator$Signature" (9 : Nat) "Nominator$Signature" "paper" "I") ∈ gw := gw_in (List.mem_of_getElem? (i := 209) (by rfl)) (by rfl)
set_option maxRecDepth 20000 in
theorem q210 : (Jvm.Cond.fieldLink "Nominator$Office" (168 : Nat) "Nominator$Signature" "paper" "I") ∈ gw := gw_in (List.mem_of_getElem? (i := 210) (by rfl)) (by rfl)
set_option maxRecDepth 20000 in
theorem q211 : (Jvm.Cond.fieldLink "Nominator$Signature" (15 : Nat) "Nominator$Signature" "voter" "I") ∈ gw := gw_in (List.mem_of_getElem? (i := 211) (by rfl)) (by rfl)
set_option maxRecDepth 20000 in
theorem q212 : (Jvm.Cond.fieldLink "Nominator$Office" (174 : Nat) "Nominator$Signature" "voter" "I") ∈ gw := gw_in (List.mem_of_getElem? (i := 212) (by rfl)) (by rfl)
set_option maxRecDepth 20000 in
theorem q213 : (Jvm.Cond.fieldLink "Nominator$Signature" (18 : Nat) "Nominator$Signature" "local" "Z") ∈ gw := gw_in (List.mem_of_getElem? (i := 213) (by rfl)) (by rfl)
set_option maxRecDepth 20000 in
theorem q214 : (Jvm.Cond.fieldLink "Nominator$Office" (171 : Nat) "Nominator$Signature" "local" "Z") ∈ gw := gw_in (List.mem_of_getElem? (i := 214) (by rfl)) (by rfl)
set_option maxRecDepth 20000 in
theorem q215 : (Jvm.Cond.fieldLink "Nominator$Signature" (22 : Nat) "Nominator$Signature" "earlier" "I") ∈ gw := gw_in (List.mem_of_getElem? (i := 215) (by rfl)) (by rfl)
set_option maxRecDepth 20000 in
theorem q216 : (Jvm.Cond.fieldLink "Nominator$Office" (181 : Nat) "Nominator$Signature" "earlier" "I") ∈ gw := gw_in (List.mem_of_getElem? (i := 216) (by rfl)) (by rfl)
set_option maxRecDepth 20000 in
theorem q217 : (Jvm.Cond.fieldLink "Nominator$Signature" (25 : Nat) "Nominator$Signature" "result" "I") ∈ gw := gw_in (List.mem_of_getElem? (i := 217) (by rfl)) (by rfl)
set_option maxRecDepth 20000 in
theorem q218 : (Jvm.Cond.fieldLink "Nominator$Office" (165 : Nat) "Nominator$Signature" "result" "I") ∈ gw := gw_in (List.mem_of_getElem? (i := 218) (by rfl)) (by rfl)
set_option maxRecDepth 20000 in
theorem q219 : (Jvm.Cond.fieldLink "Nominator" (206 : Nat) "Nominator$Signature" "result" "I") ∈ gw := gw_in (List.mem_of_getElem? (i := 219) (by rfl)) (by rfl)
set_option maxRecDepth 20000 in
theorem q220 : (Jvm.Cond.lays "Nominator$Signature" "Nominator$Signature" "paper" "I") ∈ gw := gw_in (List.mem_of_getElem? (i := 220) (by rfl)) (by rfl)
set_option maxRecDepth 20000 in
theorem q222 : (Jvm.Cond.lays "Nominator$Signature" "Nominator$Signature" "voter" "I") ∈ gw := gw_in (List.mem_of_getElem? (i := 222) (by rfl)) (by rfl)
set_option maxRecDepth 20000 in
theorem q224 : (Jvm.Cond.lays "Nominator$Signature" "Nominator$Signature" "local" "Z") ∈ gw := gw_in (List.mem_of_getElem? (i := 224) (by rfl)) (by rfl)
set_option maxRecDepth 20000 in
theorem q226 : (Jvm.Cond.lays "Nominator$Signature" "Nominator$Signature" "earlier" "I") ∈ gw := gw_in (List.mem_of_getElem? (i := 226) (by rfl)) (by rfl)
set_option maxRecDepth 20000 in
theorem q228 : (Jvm.Cond.lays "Nominator$Signature" "Nominator$Signature" "result" "I") ∈ gw := gw_in (List.mem_of_getElem? (i := 228) (by rfl)) (by rfl)
set_option maxRecDepth 20000 in
theorem q231 : (Jvm.Cond.methodLink "Nominator$Office" (50 : Nat) ({ cls := "Nominator$Office", name := "restart", desc := "()V" } : Jvm.MethodName)) ∈ gw := gw_in (List.mem_of_getElem? (i := 231) (by rfl)) (by rfl)
set_option maxRecDepth 20000 in
theorem q232 : (Jvm.Cond.instanceMethod ({ cls := "Nominator$Office", name := "restart", desc := "()V" } : Jvm.MethodName)) ∈ gw := gw_in (List.mem_of_getElem? (i := 232) (by rfl)) (by rfl)
set_option maxRecDepth 20000 in
theorem q233 : (Jvm.Cond.selects "Nominator$Office" ({ cls := "Nominator$Office", name := "restart", desc := "()V" } : Jvm.MethodName) ({ cls := "Nominator$Office", name := "restart", desc := "()V" } : Jvm.MethodName)) ∈ gw := gw_in (List.mem_of_getElem? (i := 233) (by rfl)) (by rfl)
set_option maxRecDepth 20000 in
theorem q234 : (Jvm.Cond.code ({ cls := "Nominator$Office", name := "restart", desc := "()V" } : Jvm.MethodName) prog_6_method_2_code (1 : Nat) (Option.none : Option Jvm.ClassFile.FieldType)) ∈ gw := gw_in (List.mem_of_getElem? (i := 234) (by rfl)) (by rfl)
set_option maxRecDepth 20000 in
theorem q235 : (Jvm.Cond.methodLink "Nominator$Office" (53 : Nat) ({ cls := "Nominator$Calendar", name := "restart", desc := "()V" } : Jvm.MethodName)) ∈ gw := gw_in (List.mem_of_getElem? (i := 235) (by rfl)) (by rfl)
set_option maxRecDepth 20000 in
theorem q236 : (Jvm.Cond.instanceMethod ({ cls := "Nominator$Calendar", name := "restart", desc := "()V" } : Jvm.MethodName)) ∈ gw := gw_in (List.mem_of_getElem? (i := 236) (by rfl)) (by rfl)
set_option maxRecDepth 20000 in
theorem q237 : (Jvm.Cond.selects "Nominator$Calendar" ({ cls := "Nominator$Calendar", name := "restart", desc := "()V" } : Jvm.MethodName) ({ cls := "Nominator$Calendar", name := "restart", desc := "()V" } : Jvm.MethodName)) ∈ gw := gw_in (List.mem_of_getElem? (i := 237) (by rfl)) (by rfl)
set_option maxRecDepth 20000 in
theorem q238 : (Jvm.Cond.code ({ cls := "Nominator$Calendar", name := "restart", desc := "()V" } : Jvm.MethodName) prog_3_method_2_code (1 : Nat) (Option.none : Option Jvm.ClassFile.FieldType)) ∈ gw := gw_in (List.mem_of_getElem? (i := 238) (by rfl)) (by rfl)
set_option maxRecDepth 20000 in
theorem q239 : (Jvm.Cond.methodLink "Nominator$Calendar" (15 : Nat) ({ cls := "Nominator$Calendar", name := "fix", desc := "(III)V" } : Jvm.MethodName)) ∈ gw := gw_in (List.mem_of_getElem? (i := 239) (by rfl)) (by rfl)
set_option maxRecDepth 20000 in
theorem q240 : (Jvm.Cond.instanceMethod ({ cls := "Nominator$Calendar", name := "fix", desc := "(III)V" } : Jvm.MethodName)) ∈ gw := gw_in (List.mem_of_getElem? (i := 240) (by rfl)) (by rfl)
set_option maxRecDepth 20000 in
theorem q241 : (Jvm.Cond.selects "Nominator$Calendar" ({ cls := "Nominator$Calendar", name := "fix", desc := "(III)V" } : Jvm.MethodName) ({ cls := "Nominator$Calendar", name := "fix", desc := "(III)V" } : Jvm.MethodName)) ∈ gw := gw_in (List.mem_of_getElem? (i := 241) (by rfl)) (by rfl)
set_option maxRecDepth 20000 in
theorem q242 : (Jvm.Cond.code ({ cls := "Nominator$Calendar", name := "fix", desc := "(III)V" } : Jvm.MethodName) prog_3_method_3_code (4 : Nat) (Option.none : Option Jvm.ClassFile.FieldType)) ∈ gw := gw_in (List.mem_of_getElem? (i := 242) (by rfl)) (by rfl)
set_option maxRecDepth 20000 in
theorem q243 : (Jvm.Cond.methodLink "Nominator$Office" (54 : Nat) ({ cls := "Nominator$Roll", name := "restart", desc := "()V" } : Jvm.MethodName)) ∈ gw := gw_in (List.mem_of_getElem? (i := 243) (by rfl)) (by rfl)
set_option maxRecDepth 20000 in
theorem q244 : (Jvm.Cond.instanceMethod ({ cls := "Nominator$Roll", name := "restart", desc := "()V" } : Jvm.MethodName)) ∈ gw := gw_in (List.mem_of_getElem? (i := 244) (by rfl)) (by rfl)
set_option maxRecDepth 20000 in
theorem q245 : (Jvm.Cond.selects "Nominator$Roll" ({ cls := "Nominator$Roll", name := "restart", desc := "()V" } : Jvm.MethodName) ({ cls := "Nominator$Roll", name := "restart", desc := "()V" } : Jvm.MethodName)) ∈ gw := gw_in (List.mem_of_getElem? (i := 245) (by rfl)) (by rfl)
set_option maxRecDepth 20000 in
theorem q246 : (Jvm.Cond.code ({ cls := "Nominator$Roll", name := "restart", desc := "()V" } : Jvm.MethodName) prog_8_method_2_code (1 : Nat) (Option.none : Option Jvm.ClassFile.FieldType)) ∈ gw := gw_in (List.mem_of_getElem? (i := 246) (by rfl)) (by rfl)
set_option maxRecDepth 20000 in
theorem q247 : (Jvm.Cond.methodLink "Nominator$Office" (55 : Nat) ({ cls := "Nominator$Letters", name := "restart", desc := "()V" } : Jvm.MethodName)) ∈ gw := gw_in (List.mem_of_getElem? (i := 247) (by rfl)) (by rfl)
set_option maxRecDepth 20000 in
theorem q248 : (Jvm.Cond.instanceMethod ({ cls := "Nominator$Letters", name := "restart", desc := "()V" } : Jvm.MethodName)) ∈ gw := gw_in (List.mem_of_getElem? (i := 248) (by rfl)) (by rfl)
set_option maxRecDepth 20000 in
theorem q249 : (Jvm.Cond.selects "Nominator$Letters" ({ cls := "Nominator$Letters", name := "restart", desc := "()V" } : Jvm.MethodName) ({ cls := "Nominator$Letters", name := "restart", desc := "()V" } : Jvm.MethodName)) ∈ gw := gw_in (List.mem_of_getElem? (i := 249) (by rfl)) (by rfl)
set_option maxRecDepth 20000 in
theorem q250 : (Jvm.Cond.code ({ cls := "Nominator$Letters", name := "restart", desc := "()V" } : Jvm.MethodName) prog_5_method_2_code (1 : Nat) (Option.none : Option Jvm.ClassFile.FieldType)) ∈ gw := gw_in (List.mem_of_getElem? (i := 250) (by rfl)) (by rfl)
set_option maxRecDepth 20000 in
theorem q251 : (Jvm.Cond.fieldLink "Nominator$Office" (12 : Nat) "Nominator$Office" "calendar" "LNominator$Calendar;") ∈ gw := gw_in (List.mem_of_getElem? (i := 251) (by rfl)) (by rfl)
set_option maxRecDepth 20000 in
theorem q252 : (Jvm.Cond.fieldLink "Nominator" (33 : Nat) "Nominator$Office" "calendar" "LNominator$Calendar;") ∈ gw := gw_in (List.mem_of_getElem? (i := 252) (by rfl)) (by rfl)
set_option maxRecDepth 20000 in
theorem q253 : (Jvm.Cond.fieldLink "Nominator$Office" (21 : Nat) "Nominator$Office" "roll" "LNominator$Roll;") ∈ gw := gw_in (List.mem_of_getElem? (i := 253) (by rfl)) (by rfl)
set_option maxRecDepth 20000 in
theorem q254 : (Jvm.Cond.fieldLink "Nominator" (68 : Nat) "Nominator$Office" "roll" "LNominator$Roll;") ∈ gw := gw_in (List.mem_of_getElem? (i := 254) (by rfl)) (by rfl)
set_option maxRecDepth 20000 in
theorem q255 : (Jvm.Cond.fieldLink "Nominator$Office" (28 : Nat) "Nominator$Office" "letters" "LNominator$Letters;") ∈ gw := gw_in (List.mem_of_getElem? (i := 255) (by rfl)) (by rfl)
set_option maxRecDepth 20000 in
theorem q256 : (Jvm.Cond.fieldLink "Nominator" (265 : Nat) "Nominator$Office" "letters" "LNominator$Letters;") ∈ gw := gw_in (List.mem_of_getElem? (i := 256) (by rfl)) (by rfl)
set_option maxRecDepth 20000 in
theorem q257 : (Jvm.Cond.fieldLink "Nominator$Office" (34 : Nat) "Nominator$Office" "papers" "[LNominator$Paper;") ∈ gw := gw_in (List.mem_of_getElem? (i := 257) (by rfl)) (by rfl)
set_option maxRecDepth 20000 in
theorem q258 : (Jvm.Cond.fieldLink "Nominator" (145 : Nat) "Nominator$Office" "papers" "[LNominator$Paper;") ∈ gw := gw_in (List.mem_of_getElem? (i := 258) (by rfl)) (by rfl)
set_option maxRecDepth 20000 in
theorem q259 : (Jvm.Cond.fieldLink "Nominator$Office" (40 : Nat) "Nominator$Office" "signatures" "[LNominator$Signature;") ∈ gw := gw_in (List.mem_of_getElem? (i := 259) (by rfl)) (by rfl)
set_option maxRecDepth 20000 in
theorem q260 : (Jvm.Cond.fieldLink "Nominator" (202 : Nat) "Nominator$Office" "signatures" "[LNominator$Signature;") ∈ gw := gw_in (List.mem_of_getElem? (i := 260) (by rfl)) (by rfl)
set_option maxRecDepth 20000 in
theorem q261 : (Jvm.Cond.fieldLink "Nominator$Office" (44 : Nat) "Nominator$Office" "blockers" "[I") ∈ gw := gw_in (List.mem_of_getElem? (i := 261) (by rfl)) (by rfl)
set_option maxRecDepth 20000 in
theorem q262 : (Jvm.Cond.fieldLink "Nominator$Office" (56 : Nat) "Nominator$Office" "paperCount" "I") ∈ gw := gw_in (List.mem_of_getElem? (i := 262) (by rfl)) (by rfl)
set_option maxRecDepth 20000 in
theorem q263 : (Jvm.Cond.fieldLink "Nominator" (43 : Nat) "Nominator$Office" "paperCount" "I") ∈ gw := gw_in (List.mem_of_getElem? (i := 263) (by rfl)) (by rfl)
set_option maxRecDepth 20000 in
theorem q264 : (Jvm.Cond.fieldLink "Nominator$Office" (60 : Nat) "Nominator$Office" "signatureCount" "I") ∈ gw := gw_in (List.mem_of_getElem? (i := 264) (by rfl)) (by rfl)
set_option maxRecDepth 20000 in
theorem q265 : (Jvm.Cond.fieldLink "Nominator" (138 : Nat) "Nominator$Office" "signatureCount" "I") ∈ gw := gw_in (List.mem_of_getElem? (i := 265) (by rfl)) (by rfl)
set_option maxRecDepth 20000 in
theorem q266 : (Jvm.Cond.fieldLink "Nominator$Office" (63 : Nat) "Nominator$Office" "withdrawn" "I") ∈ gw := gw_in (List.mem_of_getElem? (i := 266) (by rfl)) (by rfl)
set_option maxRecDepth 20000 in
theorem q267 : (Jvm.Cond.laysFinal "Nominator$Office" "Nominator$Office" "calendar" "LNominator$Calendar;") ∈ gw := gw_in (List.mem_of_getElem? (i := 267) (by rfl)) (by rfl)
set_option maxRecDepth 20000 in
theorem q269 : (Jvm.Cond.laysFinal "Nominator$Office" "Nominator$Office" "roll" "LNominator$Roll;") ∈ gw := gw_in (List.mem_of_getElem? (i := 269) (by rfl)) (by rfl)
set_option maxRecDepth 20000 in
theorem q271 : (Jvm.Cond.laysFinal "Nominator$Office" "Nominator$Office" "letters" "LNominator$Letters;") ∈ gw := gw_in (List.mem_of_getElem? (i := 271) (by rfl)) (by rfl)
set_option maxRecDepth 20000 in
theorem q273 : (Jvm.Cond.laysFinal "Nominator$Office" "Nominator$Office" "papers" "[LNominator$Paper;") ∈ gw := gw_in (List.mem_of_getElem? (i := 273) (by rfl)) (by rfl)
set_option maxRecDepth 20000 in
theorem q275 : (Jvm.Cond.laysFinal "Nominator$Office" "Nominator$Office" "signatures" "[LNominator$Signature;") ∈ gw := gw_in (List.mem_of_getElem? (i := 275) (by rfl)) (by rfl)
set_option maxRecDepth 20000 in
theorem q277 : (Jvm.Cond.laysFinal "Nominator$Office" "Nominator$Office" "blockers" "[I") ∈ gw := gw_in (List.mem_of_getElem? (i := 277) (by rfl)) (by rfl)
set_option maxRecDepth 20000 in
theorem q279 : (Jvm.Cond.lays "Nominator$Office" "Nominator$Office" "paperCount" "I") ∈ gw := gw_in (List.mem_of_getElem? (i := 279) (by rfl)) (by rfl)
set_option maxRecDepth 20000 in
theorem q281 : (Jvm.Cond.lays "Nominator$Office" "Nominator$Office" "signatureCount" "I") ∈ gw := gw_in (List.mem_of_getElem? (i := 281) (by rfl)) (by rfl)
set_option maxRecDepth 20000 in
theorem q283 : (Jvm.Cond.lays "Nominator$Office" "Nominator$Office" "withdrawn" "I") ∈ gw := gw_in (List.mem_of_getElem? (i := 283) (by rfl)) (by rfl)
set_option maxRecDepth 20000 in
theorem q286 : (Jvm.Cond.classLink "Nominator" (19 : Nat) "Nominator$Diary") ∈ gw := gw_in (List.mem_of_getElem? (i := 286) (by rfl)) (by rfl)
set_option maxRecDepth 20000 in
theorem q287 : (Jvm.Cond.instantiable "Nominator$Diary" (5 : Nat)) ∈ gw := gw_in (List.mem_of_getElem? (i := 287) (by rfl)) (by rfl)
set_option maxRecDepth 20000 in
theorem q289 : (Jvm.Cond.instanceMethod ({ cls := "Nominator$Diary", name := "<init>", desc := "()V" } : Jvm.MethodName)) ∈ gw := gw_in (List.mem_of_getElem? (i := 289) (by rfl)) (by rfl)
set_option maxRecDepth 20000 in
theorem q290 : (Jvm.Cond.code ({ cls := "Nominator$Diary", name := "<init>", desc := "()V" } : Jvm.MethodName) prog_4_method_1_code (1 : Nat) (Option.none : Option Jvm.ClassFile.FieldType)) ∈ gw := gw_in (List.mem_of_getElem? (i := 290) (by rfl)) (by rfl)
set_option maxRecDepth 20000 in
theorem q291 : (Jvm.Cond.methodLink "Nominator$Diary" (3 : Nat) ({ cls := "java/lang/Object", name := "<init>", desc := "()V" } : Jvm.MethodName)) ∈ gw := gw_in (List.mem_of_getElem? (i := 291) (by rfl)) (by rfl)
set_option maxRecDepth 20000 in
theorem q292 : (Jvm.Cond.fieldLink "Nominator$Diary" (9 : Nat) "Nominator$Diary" "kinds" "[I") ∈ gw := gw_in (List.mem_of_getElem? (i := 292) (by rfl)) (by rfl)
set_option maxRecDepth 20000 in
theorem q293 : (Jvm.Cond.fieldLink "Nominator" (243 : Nat) "Nominator$Diary" "kinds" "[I") ∈ gw := gw_in (List.mem_of_getElem? (i := 293) (by rfl)) (by rfl)
set_option maxRecDepth 20000 in
theorem q294 : (Jvm.Cond.fieldLink "Nominator$Diary" (15 : Nat) "Nominator$Diary" "firsts" "[I") ∈ gw := gw_in (List.mem_of_getElem? (i := 294) (by rfl)) (by rfl)
set_option maxRecDepth 20000 in
theorem q295 : (Jvm.Cond.fieldLink "Nominator" (247 : Nat) "Nominator$Diary" "firsts" "[I") ∈ gw := gw_in (List.mem_of_getElem? (i := 295) (by rfl)) (by rfl)
set_option maxRecDepth 20000 in
theorem q296 : (Jvm.Cond.fieldLink "Nominator$Diary" (18 : Nat) "Nominator$Diary" "seconds" "[I") ∈ gw := gw_in (List.mem_of_getElem? (i := 296) (by rfl)) (by rfl)
set_option maxRecDepth 20000 in
theorem q297 : (Jvm.Cond.fieldLink "Nominator" (250 : Nat) "Nominator$Diary" "seconds" "[I") ∈ gw := gw_in (List.mem_of_getElem? (i := 297) (by rfl)) (by rfl)
set_option maxRecDepth 20000 in
theorem q298 : (Jvm.Cond.fieldLink "Nominator$Diary" (21 : Nat) "Nominator$Diary" "thirds" "[I") ∈ gw := gw_in (List.mem_of_getElem? (i := 298) (by rfl)) (by rfl)
set_option maxRecDepth 20000 in
theorem q299 : (Jvm.Cond.fieldLink "Nominator" (253 : Nat) "Nominator$Diary" "thirds" "[I") ∈ gw := gw_in (List.mem_of_getElem? (i := 299) (by rfl)) (by rfl)
set_option maxRecDepth 20000 in
theorem q300 : (Jvm.Cond.fieldLink "Nominator$Diary" (24 : Nat) "Nominator$Diary" "size" "I") ∈ gw := gw_in (List.mem_of_getElem? (i := 300) (by rfl)) (by rfl)
set_option maxRecDepth 20000 in
theorem q301 : (Jvm.Cond.fieldLink "Nominator" (240 : Nat) "Nominator$Diary" "size" "I") ∈ gw := gw_in (List.mem_of_getElem? (i := 301) (by rfl)) (by rfl)
set_option maxRecDepth 20000 in
theorem q302 : (Jvm.Cond.laysFinal "Nominator$Diary" "Nominator$Diary" "kinds" "[I") ∈ gw := gw_in (List.mem_of_getElem? (i := 302) (by rfl)) (by rfl)
set_option maxRecDepth 20000 in
theorem q304 : (Jvm.Cond.laysFinal "Nominator$Diary" "Nominator$Diary" "firsts" "[I") ∈ gw := gw_in (List.mem_of_getElem? (i := 304) (by rfl)) (by rfl)
set_option maxRecDepth 20000 in
theorem q306 : (Jvm.Cond.laysFinal "Nominator$Diary" "Nominator$Diary" "seconds" "[I") ∈ gw := gw_in (List.mem_of_getElem? (i := 306) (by rfl)) (by rfl)
set_option maxRecDepth 20000 in
theorem q308 : (Jvm.Cond.laysFinal "Nominator$Diary" "Nominator$Diary" "thirds" "[I") ∈ gw := gw_in (List.mem_of_getElem? (i := 308) (by rfl)) (by rfl)
set_option maxRecDepth 20000 in
theorem q310 : (Jvm.Cond.lays "Nominator$Diary" "Nominator$Diary" "size" "I") ∈ gw := gw_in (List.mem_of_getElem? (i := 310) (by rfl)) (by rfl)
set_option maxRecDepth 20000 in
theorem q313 : (Jvm.Cond.fieldLink "Nominator" (10 : Nat) "Nominator" "office" "LNominator$Office;") ∈ gw := gw_in (List.mem_of_getElem? (i := 313) (by rfl)) (by rfl)
set_option maxRecDepth 20000 in
theorem q314 : (Jvm.Cond.fieldLink "Nominator" (16 : Nat) "Nominator" "replayed" "LNominator$Office;") ∈ gw := gw_in (List.mem_of_getElem? (i := 314) (by rfl)) (by rfl)
set_option maxRecDepth 20000 in
theorem q315 : (Jvm.Cond.fieldLink "Nominator" (22 : Nat) "Nominator" "diary" "LNominator$Diary;") ∈ gw := gw_in (List.mem_of_getElem? (i := 315) (by rfl)) (by rfl)
set_option maxRecDepth 20000 in
theorem q316 : (Jvm.Cond.laysFinal "Nominator" "Nominator" "office" "LNominator$Office;") ∈ gw := gw_in (List.mem_of_getElem? (i := 316) (by rfl)) (by rfl)
set_option maxRecDepth 20000 in
theorem q318 : (Jvm.Cond.laysFinal "Nominator" "Nominator" "replayed" "LNominator$Office;") ∈ gw := gw_in (List.mem_of_getElem? (i := 318) (by rfl)) (by rfl)
set_option maxRecDepth 20000 in
theorem q320 : (Jvm.Cond.laysFinal "Nominator" "Nominator" "diary" "LNominator$Diary;") ∈ gw := gw_in (List.mem_of_getElem? (i := 320) (by rfl)) (by rfl)
set_option maxRecDepth 20000 in
theorem q323 : (Jvm.Cond.methodLink "NominatorLaw" (156 : Nat) ({ cls := "Nominator", name := "day", desc := "()I" } : Jvm.MethodName)) ∈ gw := gw_in (List.mem_of_getElem? (i := 323) (by rfl)) (by rfl)
set_option maxRecDepth 20000 in
theorem q324 : (Jvm.Cond.instanceMethod ({ cls := "Nominator", name := "day", desc := "()I" } : Jvm.MethodName)) ∈ gw := gw_in (List.mem_of_getElem? (i := 324) (by rfl)) (by rfl)
set_option maxRecDepth 20000 in
theorem q325 : (Jvm.Cond.selects "Nominator" ({ cls := "Nominator", name := "day", desc := "()I" } : Jvm.MethodName) ({ cls := "Nominator", name := "day", desc := "()I" } : Jvm.MethodName)) ∈ gw := gw_in (List.mem_of_getElem? (i := 325) (by rfl)) (by rfl)
set_option maxRecDepth 20000 in
theorem q326 : (Jvm.Cond.code ({ cls := "Nominator", name := "day", desc := "()I" } : Jvm.MethodName) prog_1_method_4_code (1 : Nat) (Option.some Jvm.ClassFile.FieldType.int)) ∈ gw := gw_in (List.mem_of_getElem? (i := 326) (by rfl)) (by rfl)
set_option maxRecDepth 20000 in
theorem q327 : (Jvm.Cond.methodLink "NominatorLaw" (165 : Nat) ({ cls := "Nominator", name := "isOpen", desc := "()Z" } : Jvm.MethodName)) ∈ gw := gw_in (List.mem_of_getElem? (i := 327) (by rfl)) (by rfl)
set_option maxRecDepth 20000 in
theorem q328 : (Jvm.Cond.instanceMethod ({ cls := "Nominator", name := "isOpen", desc := "()Z" } : Jvm.MethodName)) ∈ gw := gw_in (List.mem_of_getElem? (i := 328) (by rfl)) (by rfl)
set_option maxRecDepth 20000 in
theorem q329 : (Jvm.Cond.selects "Nominator" ({ cls := "Nominator", name := "isOpen", desc := "()Z" } : Jvm.MethodName) ({ cls := "Nominator", name := "isOpen", desc := "()Z" } : Jvm.MethodName)) ∈ gw := gw_in (List.mem_of_getElem? (i := 329) (by rfl)) (by rfl)
set_option maxRecDepth 20000 in
theorem q330 : (Jvm.Cond.code ({ cls := "Nominator", name := "isOpen", desc := "()Z" } : Jvm.MethodName) prog_1_method_5_code (1 : Nat) (Option.some Jvm.ClassFile.FieldType.boolean)) ∈ gw := gw_in (List.mem_of_getElem? (i := 330) (by rfl)) (by rfl)
set_option maxRecDepth 20000 in
theorem q331 : (Jvm.Cond.methodLink "Nominator" (62 : Nat) ({ cls := "Nominator$Calendar", name := "isBeforeClose", desc := "()Z" } : Jvm.MethodName)) ∈ gw := gw_in (List.mem_of_getElem? (i := 331) (by rfl)) (by rfl)
set_option maxRecDepth 20000 in
theorem q332 : (Jvm.Cond.instanceMethod ({ cls := "Nominator$Calendar", name := "isBeforeClose", desc := "()Z" } : Jvm.MethodName)) ∈ gw := gw_in (List.mem_of_getElem? (i := 332) (by rfl)) (by rfl)
set_option maxRecDepth 20000 in
theorem q333 : (Jvm.Cond.selects "Nominator$Calendar" ({ cls := "Nominator$Calendar", name := "isBeforeClose", desc := "()Z" } : Jvm.MethodName) ({ cls := "Nominator$Calendar", name := "isBeforeClose", desc := "()Z" } : Jvm.MethodName)) ∈ gw := gw_in (List.mem_of_getElem? (i := 333) (by rfl)) (by rfl)
set_option maxRecDepth 20000 in
theorem q334 : (Jvm.Cond.code ({ cls := "Nominator$Calendar", name := "isBeforeClose", desc := "()Z" } : Jvm.MethodName) prog_3_method_4_code (1 : Nat) (Option.some Jvm.ClassFile.FieldType.boolean)) ∈ gw := gw_in (List.mem_of_getElem? (i := 334) (by rfl)) (by rfl)
set_option maxRecDepth 20000 in
theorem q335 : (Jvm.Cond.methodLink "NominatorLaw" (143 : Nat) ({ cls := "Nominator", name := "papers", desc := "()I" } : Jvm.MethodName)) ∈ gw := gw_in (List.mem_of_getElem? (i := 335) (by rfl)) (by rfl)
set_option maxRecDepth 20000 in
theorem q336 : (Jvm.Cond.instanceMethod ({ cls := "Nominator", name := "papers", desc := "()I" } : Jvm.MethodName)) ∈ gw := gw_in (List.mem_of_getElem? (i := 336) (by rfl)) (by rfl)
set_option maxRecDepth 20000 in
theorem q337 : (Jvm.Cond.selects "Nominator" ({ cls := "Nominator", name := "papers", desc := "()I" } : Jvm.MethodName) ({ cls := "Nominator", name := "papers", desc := "()I" } : Jvm.MethodName)) ∈ gw := gw_in (List.mem_of_getElem? (i := 337) (by rfl)) (by rfl)
set_option maxRecDepth 20000 in
theorem q338 : (Jvm.Cond.code ({ cls := "Nominator", name := "papers", desc := "()I" } : Jvm.MethodName) prog_1_method_21_code (1 : Nat) (Option.some Jvm.ClassFile.FieldType.int)) ∈ gw := gw_in (List.mem_of_getElem? (i := 338) (by rfl)) (by rfl)
set_option maxRecDepth 20000 in
theorem q339 : (Jvm.Cond.methodLink "NominatorLaw" (153 : Nat) ({ cls := "Nominator", name := "signatures", desc := "()I" } : Jvm.MethodName)) ∈ gw := gw_in (List.mem_of_getElem? (i := 339) (by rfl)) (by rfl)
set_option maxRecDepth 20000 in
theorem q340 : (Jvm.Cond.instanceMethod ({ cls := "Nominator", name := "signatures", desc := "()I" } : Jvm.MethodName)) ∈ gw := gw_in (List.mem_of_getElem? (i := 340) (by rfl)) (by rfl)
set_option maxRecDepth 20000 in
theorem q341 : (Jvm.Cond.selects "Nominator" ({ cls := "Nominator", name := "signatures", desc := "()I" } : Jvm.MethodName) ({ cls := "Nominator", name := "signatures", desc := "()I" } : Jvm.MethodName)) ∈ gw := gw_in (List.mem_of_getElem? (i := 341) (by rfl)) (by rfl)
set_option maxRecDepth 20000 in
theorem q342 : (Jvm.Cond.code ({ cls := "Nominator", name := "signatures", desc := "()I" } : Jvm.MethodName) prog_1_method_28_code (1 : Nat) (Option.some Jvm.ClassFile.FieldType.int)) ∈ gw := gw_in (List.mem_of_getElem? (i := 342) (by rfl)) (by rfl)
set_option maxRecDepth 20000 in
theorem q343 : (Jvm.Cond.methodLink "NominatorLaw" (170 : Nat) ({ cls := "NominatorLaw", name := "cell", desc := "([II)I" } : Jvm.MethodName)) ∈ gw := gw_in (List.mem_of_getElem? (i := 343) (by rfl)) (by rfl)
set_option maxRecDepth 20000 in
theorem q344 : (Jvm.Cond.static ({ cls := "NominatorLaw", name := "cell", desc := "([II)I" } : Jvm.MethodName)) ∈ gw := gw_in (List.mem_of_getElem? (i := 344) (by rfl)) (by rfl)
set_option maxRecDepth 20000 in
theorem q345 : (Jvm.Cond.code ({ cls := "NominatorLaw", name := "cell", desc := "([II)I" } : Jvm.MethodName) method_2_code (2 : Nat) (Option.some Jvm.ClassFile.FieldType.int)) ∈ gw := gw_in (List.mem_of_getElem? (i := 345) (by rfl)) (by rfl)
set_option maxRecDepth 20000 in
theorem q346 : (Jvm.Cond.constant "NominatorLaw" (7 : Nat) (970007 : Int32)) ∈ gw := gw_in (List.mem_of_getElem? (i := 346) (by rfl)) (by rfl)
set_option maxRecDepth 20000 in
theorem q347 : (Jvm.Cond.methodLink "NominatorLaw" (138 : Nat) ({ cls := "NominatorLaw", name := "low", desc := "(II)I" } : Jvm.MethodName)) ∈ gw := gw_in (List.mem_of_getElem? (i := 347) (by rfl)) (by rfl)
set_option maxRecDepth 20000 in
theorem q348 : (Jvm.Cond.static ({ cls := "NominatorLaw", name := "low", desc := "(II)I" } : Jvm.MethodName)) ∈ gw := gw_in (List.mem_of_getElem? (i := 348) (by rfl)) (by rfl)
set_option maxRecDepth 20000 in
theorem q349 : (Jvm.Cond.code ({ cls := "NominatorLaw", name := "low", desc := "(II)I" } : Jvm.MethodName) method_3_code (2 : Nat) (Option.some Jvm.ClassFile.FieldType.int)) ∈ gw := gw_in (List.mem_of_getElem? (i := 349) (by rfl)) (by rfl)
set_option maxRecDepth 20000 in
theorem q350 : (Jvm.Cond.constant "NominatorLaw" (8 : Nat) (2147483647 : Int32)) ∈ gw := gw_in (List.mem_of_getElem? (i := 350) (by rfl)) (by rfl)
set_option maxRecDepth 20000 in
theorem q351 : (Jvm.Cond.methodLink "NominatorLaw" (149 : Nat) ({ cls := "NominatorLaw", name := "call", desc := "(LNominator;III)I" } : Jvm.MethodName)) ∈ gw := gw_in (List.mem_of_getElem? (i := 351) (by rfl)) (by rfl)
set_option maxRecDepth 20000 in
theorem q352 : (Jvm.Cond.static ({ cls := "NominatorLaw", name := "call", desc := "(LNominator;III)I" } : Jvm.MethodName)) ∈ gw := gw_in (List.mem_of_getElem? (i := 352) (by rfl)) (by rfl)
set_option maxRecDepth 20000 in
theorem q353 : (Jvm.Cond.codeWith ({ cls := "NominatorLaw", name := "call", desc := "(LNominator;III)I" } : Jvm.MethodName) method_4_code (5 : Nat) (Option.some Jvm.ClassFile.FieldType.int) [((0 : Nat), (145 : Nat), (373 : Nat), (113 : Nat)), ((146 : Nat), (152 : Nat), (373 : Nat), (113 : Nat)), ((153 : Nat), (158 : Nat), (373 : Nat), (113 : Nat)), ((159 : Nat), (165 : Nat), (373 : Nat), (113 : Nat)), ((166 : Nat), (171 : Nat), (373 : Nat), (113 : Nat)), ((172 : Nat), (177 : Nat), (373 : Nat), (113 : Nat)), ((178 : Nat), (184 : Nat), (373 : Nat), (113 : Nat)), ((185 : Nat), (191 : Nat), (373 : Nat), (113 : Nat)), ((192 : Nat), (197 : Nat), (373 : Nat), (113 : Nat)), ((198 : Nat), (211 : Nat), (373 : Nat), (113 : Nat)), ((212 : Nat), (225 : Nat), (373 : Nat), (113 : Nat)), ((226 : Nat), (231 : Nat), (373 : Nat), (113 : Nat)), ((232 : Nat), (237 : Nat), (373 : Nat), (113 : Nat)), ((238 : Nat), (252 : Nat), (373 : Nat), (113 : Nat)), ((253 : Nat), (258 : Nat), (373 : Nat), (113 : Nat)), ((259 : Nat), (265 : Nat), (373 : Nat), (113 : Nat)), ((266 : Nat), (271 : Nat), (373 : Nat), (113 : Nat)), ((272 : Nat), (277 : Nat), (373 : Nat), (113 : Nat)), ((278 : Nat), (283 : Nat), (373 : Nat), (113 : Nat)), ((284 : Nat), (289 : Nat), (373 : Nat), (113 : Nat)), ((290 : Nat), (295 : Nat), (373 : Nat), (113 : Nat)), ((296 : Nat), (301 : Nat), (373 : Nat), (113 : Nat)), ((302 : Nat), (308 : Nat), (373 : Nat), (113 : Nat)), ((309 : Nat), (315 : Nat), (373 : Nat), (113 : Nat)), ((316 : Nat), (321 : Nat), (373 : Nat), (113 : Nat)), ((322 : Nat), (327 : Nat), (373 : Nat), (113 : Nat)), ((328 : Nat), (333 : Nat), (373 : Nat), (113 : Nat)), ((334 : Nat), (339 : Nat), (373 : Nat), (113 : Nat)), ((340 : Nat), (345 : Nat), (373 : Nat), (113 : Nat)), ((346 : Nat), (351 : Nat), (373 : Nat), (113 : Nat)), ((352 : Nat), (365 : Nat), (373 : Nat), (113 : Nat)), ((366 : Nat), (372 : Nat), (373 : Nat), (113 : Nat)), ((0 : Nat), (145 : Nat), (378 : Nat), (115 : Nat)), ((146 : Nat), (152 : Nat), (378 : Nat), (115 : Nat)), ((153 : Nat), (158 : Nat), (378 : Nat), (115 : Nat)), ((159 : Nat), (165 : Nat), (378 : Nat), (115 : Nat)), ((166 : Nat), (171 : Nat), (378 : Nat), (115 : Nat)), ((172 : Nat), (177 : Nat), (378 : Nat), (115 : Nat)), ((178 : Nat), (184 : Nat), (378 : Nat), (115 : Nat)), ((185 : Nat), (191 : Nat), (378 : Nat), (115 : Nat)), ((192 : Nat), (197 : Nat), (378 : Nat), (115 : Nat)), ((198 : Nat), (211 : Nat), (378 : Nat), (115 : Nat)), ((212 : Nat), (225 : Nat), (378 : Nat), (115 : Nat)), ((226 : Nat), (231 : Nat), (378 : Nat), (115 : Nat)), ((232 : Nat), (237 : Nat), (378 : Nat), (115 : Nat)), ((238 : Nat), (252 : Nat), (378 : Nat), (115 : Nat)), ((253 : Nat), (258 : Nat), (378 : Nat), (115 : Nat)), ((259 : Nat), (265 : Nat), (378 : Nat), (115 : Nat)), ((266 : Nat), (271 : Nat), (378 : Nat), (115 : Nat)), ((272 : Nat), (277 : Nat), (378 : Nat), (115 : Nat)), ((278 : Nat), (283 : Nat), (378 : Nat), (115 : Nat)), ((284 : Nat), (289 : Nat), (378 : Nat), (115 : Nat)), ((290 : Nat), (295 : Nat), (378 : Nat), (115 : Nat)), ((296 : Nat), (301 : Nat), (378 : Nat), (115 : Nat)), ((302 : Nat), (308 : Nat), (378 : Nat), (115 : Nat)), ((309 : Nat), (315 : Nat), (378 : Nat), (115 : Nat)), ((316 : Nat), (321 : Nat), (378 : Nat), (115 : Nat)), ((322 : Nat), (327 : Nat), (378 : Nat), (115 : Nat)), ((328 : Nat), (333 : Nat), (378 : Nat), (115 : Nat)), ((334 : Nat), (339 : Nat), (378 : Nat), (115 : Nat)), ((340 : Nat), (345 : Nat), (378 : Nat), (115 : Nat)), ((346 : Nat), (351 : Nat), (378 : Nat), (115 : Nat)), ((352 : Nat), (365 : Nat), (378 : Nat), (115 : Nat)), ((366 : Nat), (372 : Nat), (378 : Nat), (115 : Nat)), ((0 : Nat), (145 : Nat), (383 : Nat), (117 : Nat)), ((146 : Nat), (152 : Nat), (383 : Nat), (117 : Nat)), ((153 : Nat), (158 : Nat), (383 : Nat), (117 : Nat)), ((159 : Nat), (165 : Nat), (383 : Nat), (117 : Nat)), ((166 : Nat), (171 : Nat), (383 : Nat), (117 : Nat)), ((172 : Nat), (177 : Nat), (383 : Nat), (117 : Nat)), ((178 : Nat), (184 : Nat), (383 : Nat), (117 : Nat)), ((185 : Nat), (191 : Nat), (383 : Nat), (117 : Nat)), ((192 : Nat), (197 : Nat), (383 : Nat), (117 : Nat)), ((198 : Nat), (211 : Nat), (383 : Nat), (117 : Nat)), ((212 : Nat), (225 : Nat), (383 : Nat), (117 : Nat)), ((226 : Nat), (231 : Nat), (383 : Nat), (117 : Nat)), ((232 : Nat), (237 : Nat), (383 : Nat), (117 : Nat)), ((238 : Nat), (252 : Nat), (383 : Nat), (117 : Nat)), ((253 : Nat), (258 : Nat), (383 : Nat), (117 : Nat)), ((259 : Nat), (265 : Nat), (383 : Nat), (117 : Nat)), ((266 : Nat), (271 : Nat), (383 : Nat), (117 : Nat)), ((272 : Nat), (277 : Nat), (383 : Nat), (117 : Nat)), ((278 : Nat), (283 : Nat), (383 : Nat), (117 : Nat)), ((284 : Nat), (289 : Nat), (383 : Nat), (117 : Nat)), ((290 : Nat), (295 : Nat), (383 : Nat), (117 : Nat)), ((296 : Nat), (301 : Nat), (383 : Nat), (117 : Nat)), ((302 : Nat), (308 : Nat), (383 : Nat), (117 : Nat)), ((309 : Nat), (315 : Nat), (383 : Nat), (117 : Nat)), ((316 : Nat), (321 : Nat), (383 : Nat), (117 : Nat)), ((322 : Nat), (327 : Nat), (383 : Nat), (117 : Nat)), ((328 : Nat), (333 : Nat), (383 : Nat), (117 : Nat)), ((334 : Nat), (339 : Nat), (383 : Nat), (117 : Nat)), ((340 : Nat), (345 : Nat), (383 : Nat), (117 : Nat)), ((346 : Nat), (351 : Nat), (383 : Nat), (117 : Nat)), ((352 : Nat), (365 : Nat), (383 : Nat), (117 : Nat)), ((366 : Nat), (372 : Nat), (383 : Nat), (117 : Nat)), ((0 : Nat), (145 : Nat), (388 : Nat), (119 : Nat)), ((146 : Nat), (152 : Nat), (388 : Nat), (119 : Nat)), ((153 : Nat), (158 : Nat), (388 : Nat), (119 : Nat)), ((159 : Nat), (165 : Nat), (388 : Nat), (119 : Nat)), ((166 : Nat), (171 : Nat), (388 : Nat), (119 : Nat)), ((172 : Nat), (177 : Nat), (388 : Nat), (119 : Nat)), ((178 : Nat), (184 : Nat), (388 : Nat), (119 : Nat)), ((185 : Nat), (191 : Nat), (388 : Nat), (119 : Nat)), ((192 : Nat), (197 : Nat), (388 : Nat), (119 : Nat)), ((198 : Nat), (211 : Nat), (388 : Nat), (119 : Nat)), ((212 : Nat), (225 : Nat), (388 : Nat), (119 : Nat)), ((226 : Nat), (231 : Nat), (388 : Nat), (119 : Nat)), ((232 : Nat), (237 : Nat), (388 : Nat), (119 : Nat)), ((238 : Nat), (252 : Nat), (388 : Nat), (119 : Nat)), ((253 : Nat), (258 : Nat), (388 : Nat), (119 : Nat)), ((259 : Nat), (265 : Nat), (388 : Nat), (119 : Nat)), ((266 : Nat), (271 : Nat), (388 : Nat), (119 : Nat)), ((272 : Nat), (277 : Nat), (388 : Nat), (119 : Nat)), ((278 : Nat), (283 : Nat), (388 : Nat), (119 : Nat)), ((284 : Nat), (289 : Nat), (388 : Nat), (119 : Nat)), ((290 : Nat), (295 : Nat), (388 : Nat), (119 : Nat)), ((296 : Nat), (301 : Nat), (388 : Nat), (119 : Nat)), ((302 : Nat), (308 : Nat), (388 : Nat), (119 : Nat)), ((309 : Nat), (315 : Nat), (388 : Nat), (119 : Nat)), ((316 : Nat), (321 : Nat), (388 : Nat), (119 : Nat)), ((322 : Nat), (327 : Nat), (388 : Nat), (119 : Nat)), ((328 : Nat), (333 : Nat), (388 : Nat), (119 : Nat)), ((334 : Nat), (339 : Nat), (388 : Nat), (119 : Nat)), ((340 : Nat), (345 : Nat), (388 : Nat), (119 : Nat)), ((346 : Nat), (351 : Nat), (388 : Nat), (119 : Nat)), ((352 : Nat), (365 : Nat), (388 : Nat), (119 : Nat)), ((366 : Nat), (372 : Nat), (388 : Nat), (119 : Nat)), ((0 : Nat), (145 : Nat), (393 : Nat), (121 : Nat)), ((146 : Nat), (152 : Nat), (393 : Nat), (121 : Nat)), ((153 : Nat), (158 : Nat), (393 : Nat), (121 : Nat)), ((159 : Nat), (165 : Nat), (393 : Nat), (121 : Nat)), ((166 : Nat), (171 : Nat), (393 : Nat), (121 : Nat)), ((172 : Nat), (177 : Nat), (393 : Nat), (121 : Nat)), ((178 : Nat), (184 : Nat), (393 : Nat), (121 : Nat)), ((185 : Nat), (191 : Nat), (393 : Nat), (121 : Nat)), ((192 : Nat), (197 : Nat), (393 : Nat), (121 : Nat)), ((198 : Nat), (211 : Nat), (393 : Nat), (121 : Nat)), ((212 : Nat), (225 : Nat), (393 : Nat), (121 : Nat)), ((226 : Nat), (231 : Nat), (393 : Nat), (121 : Nat)), ((232 : Nat), (237 : Nat), (393 : Nat), (121 : Nat)), ((238 : Nat), (252 : Nat), (393 : Nat), (121 : Nat)), ((253 : Nat), (258 : Nat), (393 : Nat), (121 : Nat)), ((259 : Nat), (265 : Nat), (393 : Nat), (121 : Nat)), ((266 : Nat), (271 : Nat), (393 : Nat), (121 : Nat)), ((272 : Nat), (277 : Nat), (393 : Nat), (121 : Nat)), ((278 : Nat), (283 : Nat), (393 : Nat), (121 : Nat)), ((284 : Nat), (289 : Nat), (393 : Nat), (121 : Nat)), ((290 : Nat), (295 : Nat), (393 : Nat), (121 : Nat)), ((296 : Nat), (301 : Nat), (393 : Nat), (121 : Nat)), ((302 : Nat), (308 : Nat), (393 : Nat), (121 : Nat)), ((309 : Nat), (315 : Nat), (393 : Nat), (121 : Nat)), ((316 : Nat), (321 : Nat), (393 : Nat), (121 : Nat)), ((322 : Nat), (327 : Nat), (393 : Nat), (121 : Nat)), ((328 : Nat), (333 : Nat), (393 : Nat), (121 : Nat)), ((334 : Nat), (339 : Nat), (393 : Nat), (121 : Nat)), ((340 : Nat), (345 : Nat), (393 : Nat), (121 : Nat)), ((346 : Nat), (351 : Nat), (393 : Nat), (121 : Nat)), ((352 : Nat), (365 : Nat), (393 : Nat), (121 : Nat)), ((366 : Nat), (372 : Nat), (393 : Nat), (121 : Nat))]) ∈ gw := gw_in (List.mem_of_getElem? (i := 353) (by rfl)) (by rfl)
set_option maxRecDepth 20000 in
theorem q354 : (Jvm.Cond.classLink "NominatorLaw" (113 : Nat) "java/lang/IndexOutOfBoundsException") ∈ gw := gw_in (List.mem_of_getElem? (i := 354) (by rfl)) (by rfl)
set_option maxRecDepth 20000 in
theorem q355 : (Jvm.Cond.instantiable "java/lang/ArrayIndexOutOfBoundsException" (6 : Nat)) ∈ gw := gw_in (List.mem_of_getElem? (i := 355) (by rfl)) (by rfl)
set_option maxRecDepth 20000 in
theorem q356 : (Jvm.Cond.instanceMethod ({ cls := "java/lang/ArrayIndexOutOfBoundsException", name := "<init>", desc := "(Ljava/lang/String;)V" } : Jvm.MethodName)) ∈ gw := gw_in (List.mem_of_getElem? (i := 356) (by rfl)) (by rfl)
set_option maxRecDepth 20000 in
theorem q357 : (Jvm.Cond.code ({ cls := "java/lang/ArrayIndexOutOfBoundsException", name := "<init>", desc := "(Ljava/lang/String;)V" } : Jvm.MethodName) prog_14_method_2_code (2 : Nat) (Option.none : Option Jvm.ClassFile.FieldType)) ∈ gw := gw_in (List.mem_of_getElem? (i := 357) (by rfl)) (by rfl)
set_option maxRecDepth 20000 in
theorem q358 : (Jvm.Cond.methodLink "java/lang/ArrayIndexOutOfBoundsException" (7 : Nat) ({ cls := "java/lang/IndexOutOfBoundsException", name := "<init>", desc := "(Ljava/lang/String;)V" } : Jvm.MethodName)) ∈ gw := gw_in (List.mem_of_getElem? (i := 358) (by rfl)) (by rfl)
set_option maxRecDepth 20000 in
theorem q359 : (Jvm.Cond.instanceMethod ({ cls := "java/lang/IndexOutOfBoundsException", name := "<init>", desc := "(Ljava/lang/String;)V" } : Jvm.MethodName)) ∈ gw := gw_in (List.mem_of_getElem? (i := 359) (by rfl)) (by rfl)
set_option maxRecDepth 20000 in
theorem q360 : (Jvm.Cond.code ({ cls := "java/lang/IndexOutOfBoundsException", name := "<init>", desc := "(Ljava/lang/String;)V" } : Jvm.MethodName) prog_18_method_2_code (2 : Nat) (Option.none : Option Jvm.ClassFile.FieldType)) ∈ gw := gw_in (List.mem_of_getElem? (i := 360) (by rfl)) (by rfl)
set_option maxRecDepth 20000 in
theorem q361 : (Jvm.Cond.methodLink "java/lang/IndexOutOfBoundsException" (7 : Nat) ({ cls := "java/lang/RuntimeException", name := "<init>", desc := "(Ljava/lang/String;)V" } : Jvm.MethodName)) ∈ gw := gw_in (List.mem_of_getElem? (i := 361) (by rfl)) (by rfl)
set_option maxRecDepth 20000 in
theorem q362 : (Jvm.Cond.instanceMethod ({ cls := "java/lang/RuntimeException", name := "<init>", desc := "(Ljava/lang/String;)V" } : Jvm.MethodName)) ∈ gw := gw_in (List.mem_of_getElem? (i := 362) (by rfl)) (by rfl)
set_option maxRecDepth 20000 in
theorem q363 : (Jvm.Cond.code ({ cls := "java/lang/RuntimeException", name := "<init>", desc := "(Ljava/lang/String;)V" } : Jvm.MethodName) prog_21_method_2_code (2 : Nat) (Option.none : Option Jvm.ClassFile.FieldType)) ∈ gw := gw_in (List.mem_of_getElem? (i := 363) (by rfl)) (by rfl)
set_option maxRecDepth 20000 in
theorem q364 : (Jvm.Cond.methodLink "java/lang/RuntimeException" (7 : Nat) ({ cls := "java/lang/Exception", name := "<init>", desc := "(Ljava/lang/String;)V" } : Jvm.MethodName)) ∈ gw := gw_in (List.mem_of_getElem? (i := 364) (by rfl)) (by rfl)
set_option maxRecDepth 20000 in
theorem q365 : (Jvm.Cond.instanceMethod ({ cls := "java/lang/Exception", name := "<init>", desc := "(Ljava/lang/String;)V" } : Jvm.MethodName)) ∈ gw := gw_in (List.mem_of_getElem? (i := 365) (by rfl)) (by rfl)
set_option maxRecDepth 20000 in
theorem q366 : (Jvm.Cond.code ({ cls := "java/lang/Exception", name := "<init>", desc := "(Ljava/lang/String;)V" } : Jvm.MethodName) prog_15_method_2_code (2 : Nat) (Option.none : Option Jvm.ClassFile.FieldType)) ∈ gw := gw_in (List.mem_of_getElem? (i := 366) (by rfl)) (by rfl)
set_option maxRecDepth 20000 in
theorem q367 : (Jvm.Cond.methodLink "java/lang/Exception" (7 : Nat) ({ cls := "java/lang/Throwable", name := "<init>", desc := "(Ljava/lang/String;)V" } : Jvm.MethodName)) ∈ gw := gw_in (List.mem_of_getElem? (i := 367) (by rfl)) (by rfl)
set_option maxRecDepth 20000 in
theorem q368 : (Jvm.Cond.instanceMethod ({ cls := "java/lang/Throwable", name := "<init>", desc := "(Ljava/lang/String;)V" } : Jvm.MethodName)) ∈ gw := gw_in (List.mem_of_getElem? (i := 368) (by rfl)) (by rfl)
set_option maxRecDepth 20000 in
theorem q369 : (Jvm.Cond.code ({ cls := "java/lang/Throwable", name := "<init>", desc := "(Ljava/lang/String;)V" } : Jvm.MethodName) prog_23_method_2_code (2 : Nat) (Option.none : Option Jvm.ClassFile.FieldType)) ∈ gw := gw_in (List.mem_of_getElem? (i := 369) (by rfl)) (by rfl)
set_option maxRecDepth 20000 in
theorem q370 : (Jvm.Cond.methodLink "java/lang/Throwable" (1 : Nat) ({ cls := "java/lang/Object", name := "<init>", desc := "()V" } : Jvm.MethodName)) ∈ gw := gw_in (List.mem_of_getElem? (i := 370) (by rfl)) (by rfl)
set_option maxRecDepth 20000 in
theorem q371 : (Jvm.Cond.fieldLink "java/lang/Throwable" (13 : Nat) "java/lang/Throwable" "UNASSIGNED_STACK" "[Ljava/lang/StackTraceElement;") ∈ gw := gw_in (List.mem_of_getElem? (i := 371) (by rfl)) (by rfl)
set_option maxRecDepth 20000 in
theorem q373 : (Jvm.Cond.fieldLink "java/lang/Throwable" (20 : Nat) "java/lang/Throwable" "SUPPRESSED_SENTINEL" "Ljava/util/List;") ∈ gw := gw_in (List.mem_of_getElem? (i := 373) (by rfl)) (by rfl)
set_option maxRecDepth 20000 in
theorem q375 : (Jvm.Cond.methodLink "java/lang/Throwable" (27 : Nat) ({ cls := "java/lang/Throwable", name := "fillInStackTrace", desc := "()Ljava/lang/Throwable;" } : Jvm.MethodName)) ∈ gw := gw_in (List.mem_of_getElem? (i := 375) (by rfl)) (by rfl)
set_option maxRecDepth 20000 in
theorem q376 : (Jvm.Cond.instanceMethod ({ cls := "java/lang/Throwable", name := "fillInStackTrace", desc := "()Ljava/lang/Throwable;" } : Jvm.MethodName)) ∈ gw := gw_in (List.mem_of_getElem? (i := 376) (by rfl)) (by rfl)
set_option maxRecDepth 20000 in
theorem q377 : (Jvm.Cond.sameMethod "java/lang/Throwable" "java/lang/Throwable" "fillInStackTrace" "()Ljava/lang/Throwable;") ∈ gw := gw_in (List.mem_of_getElem? (i := 377) (by rfl)) (by rfl)
set_option maxRecDepth 20000 in
theorem q378 : (Jvm.Cond.selects "java/lang/ArrayIndexOutOfBoundsException" ({ cls := "java/lang/Throwable", name := "fillInStackTrace", desc := "()Ljava/lang/Throwable;" } : Jvm.MethodName) ({ cls := "java/lang/Throwable", name := "fillInStackTrace", desc := "()Ljava/lang/Throwable;" } : Jvm.MethodName)) ∈ gw := gw_in (List.mem_of_getElem? (i := 378) (by rfl)) (by rfl)
set_option maxRecDepth 20000 in
theorem q379 : (Jvm.Cond.selects "java/lang/IllegalArgumentException" ({ cls := "java/lang/Throwable", name := "fillInStackTrace", desc := "()Ljava/lang/Throwable;" } : Jvm.MethodName) ({ cls := "java/lang/Throwable", name := "fillInStackTrace", desc := "()Ljava/lang/Throwable;" } : Jvm.MethodName)) ∈ gw := gw_in (List.mem_of_getElem? (i := 379) (by rfl)) (by rfl)
set_option maxRecDepth 20000 in
theorem q380 : (Jvm.Cond.selects "java/lang/IllegalStateException" ({ cls := "java/lang/Throwable", name := "fillInStackTrace", desc := "()Ljava/lang/Throwable;" } : Jvm.MethodName) ({ cls := "java/lang/Throwable", name := "fillInStackTrace", desc := "()Ljava/lang/Throwable;" } : Jvm.MethodName)) ∈ gw := gw_in (List.mem_of_getElem? (i := 380) (by rfl)) (by rfl)
set_option maxRecDepth 20000 in
theorem q381 : (Jvm.Cond.selects "java/lang/IndexOutOfBoundsException" ({ cls := "java/lang/Throwable", name := "fillInStackTrace", desc := "()Ljava/lang/Throwable;" } : Jvm.MethodName) ({ cls := "java/lang/Throwable", name := "fillInStackTrace", desc := "()Ljava/lang/Throwable;" } : Jvm.MethodName)) ∈ gw := gw_in (List.mem_of_getElem? (i := 381) (by rfl)) (by rfl)
set_option maxRecDepth 20000 in
theorem q382 : (Jvm.Cond.selects "java/lang/UnsupportedOperationException" ({ cls := "java/lang/Throwable", name := "fillInStackTrace", desc := "()Ljava/lang/Throwable;" } : Jvm.MethodName) ({ cls := "java/lang/Throwable", name := "fillInStackTrace", desc := "()Ljava/lang/Throwable;" } : Jvm.MethodName)) ∈ gw := gw_in (List.mem_of_getElem? (i := 382) (by rfl)) (by rfl)
set_option maxRecDepth 20000 in
theorem q383 : (Jvm.Cond.selects "java/util/NoSuchElementException" ({ cls := "java/lang/Throwable", name := "fillInStackTrace", desc := "()Ljava/lang/Throwable;" } : Jvm.MethodName) ({ cls := "java/lang/Throwable", name := "fillInStackTrace", desc := "()Ljava/lang/Throwable;" } : Jvm.MethodName)) ∈ gw := gw_in (List.mem_of_getElem? (i := 383) (by rfl)) (by rfl)
set_option maxRecDepth 20000 in
theorem q384 : (Jvm.Cond.codeSync ({ cls := "java/lang/Throwable", name := "fillInStackTrace", desc := "()Ljava/lang/Throwable;" } : Jvm.MethodName) prog_23_method_18_code (1 : Nat) (Option.some (Jvm.ClassFile.FieldType.object "java/lang/Throwable"))) ∈ gw := gw_in (List.mem_of_getElem? (i := 384) (by rfl)) (by rfl)
set_option maxRecDepth 20000 in
theorem q385 : (Jvm.Cond.methodLink "java/lang/Throwable" (202 : Nat) ({ cls := "java/lang/Throwable", name := "fillInStackTrace", desc := "(I)Ljava/lang/Throwable;" } : Jvm.MethodName)) ∈ gw := gw_in (List.mem_of_getElem? (i := 385) (by rfl)) (by rfl)
set_option maxRecDepth 20000 in
theorem q387 : (Jvm.Cond.instanceMethod ({ cls := "java/lang/Throwable", name := "fillInStackTrace", desc := "(I)Ljava/lang/Throwable;" } : Jvm.MethodName)) ∈ gw := gw_in (List.mem_of_getElem? (i := 387) (by rfl)) (by rfl)
set_option maxRecDepth 20000 in
theorem q388 : (Jvm.Cond.instantiable "java/lang/Throwable" (6 : Nat)) ∈ gw := gw_in (List.mem_of_getElem? (i := 388) (by rfl)) (by rfl)
set_option maxRecDepth 20000 in
theorem q389 : (Jvm.Cond.native ({ cls := "java/lang/Throwable", name := "fillInStackTrace", desc := "(I)Ljava/lang/Throwable;" } : Jvm.MethodName)) ∈ gw := gw_in (List.mem_of_getElem? (i := 389) (by rfl)) (by rfl)
set_option maxRecDepth 20000 in
theorem q390 : (Jvm.Cond.fieldLink "java/lang/Throwable" (198 : Nat) "java/lang/Throwable" "backtrace" "Ljava/lang/Object;") ∈ gw := gw_in (List.mem_of_getElem? (i := 390) (by rfl)) (by rfl)
set_option maxRecDepth 20000 in
theorem q391 : (Jvm.Cond.fieldLink "java/lang/Throwable" (31 : Nat) "java/lang/Throwable" "detailMessage" "Ljava/lang/String;") ∈ gw := gw_in (List.mem_of_getElem? (i := 391) (by rfl)) (by rfl)
set_option maxRecDepth 20000 in
theorem q392 : (Jvm.Cond.fieldLink "java/lang/Throwable" (7 : Nat) "java/lang/Throwable" "cause" "Ljava/lang/Throwable;") ∈ gw := gw_in (List.mem_of_getElem? (i := 392) (by rfl)) (by rfl)
set_option maxRecDepth 20000 in
theorem q393 : (Jvm.Cond.fieldLink "java/lang/Throwable" (17 : Nat) "java/lang/Throwable" "stackTrace" "[Ljava/lang/StackTraceElement;") ∈ gw := gw_in (List.mem_of_getElem? (i := 393) (by rfl)) (by rfl)
set_option maxRecDepth 20000 in
theorem q394 : (Jvm.Cond.fieldLink "java/lang/Throwable" (24 : Nat) "java/lang/Throwable" "suppressedExceptions" "Ljava/util/List;") ∈ gw := gw_in (List.mem_of_getElem? (i := 394) (by rfl)) (by rfl)
set_option maxRecDepth 20000 in
theorem q395 : (Jvm.Cond.lays "java/lang/ArrayIndexOutOfBoundsException" "java/lang/Throwable" "backtrace" "Ljava/lang/Object;") ∈ gw := gw_in (List.mem_of_getElem? (i := 395) (by rfl)) (by rfl)
set_option maxRecDepth 20000 in
theorem q397 : (Jvm.Cond.lays "java/lang/ArrayIndexOutOfBoundsException" "java/lang/Throwable" "detailMessage" "Ljava/lang/String;") ∈ gw := gw_in (List.mem_of_getElem? (i := 397) (by rfl)) (by rfl)
set_option maxRecDepth 20000 in
theorem q399 : (Jvm.Cond.lays "java/lang/ArrayIndexOutOfBoundsException" "java/lang/Throwable" "cause" "Ljava/lang/Throwable;") ∈ gw := gw_in (List.mem_of_getElem? (i := 399) (by rfl)) (by rfl)
set_option maxRecDepth 20000 in
theorem q401 : (Jvm.Cond.lays "java/lang/ArrayIndexOutOfBoundsException" "java/lang/Throwable" "stackTrace" "[Ljava/lang/StackTraceElement;") ∈ gw := gw_in (List.mem_of_getElem? (i := 401) (by rfl)) (by rfl)
set_option maxRecDepth 20000 in
theorem q403 : (Jvm.Cond.lays "java/lang/ArrayIndexOutOfBoundsException" "java/lang/Throwable" "depth" "I") ∈ gw := gw_in (List.mem_of_getElem? (i := 403) (by rfl)) (by rfl)
set_option maxRecDepth 20000 in
theorem q405 : (Jvm.Cond.lays "java/lang/ArrayIndexOutOfBoundsException" "java/lang/Throwable" "suppressedExceptions" "Ljava/util/List;") ∈ gw := gw_in (List.mem_of_getElem? (i := 405) (by rfl)) (by rfl)
set_option maxRecDepth 20000 in
theorem q417 : (Jvm.Cond.selects "java/lang/ArrayIndexOutOfBoundsException" ({ cls := "java/lang/Throwable", name := "fillInStackTrace", desc := "(I)Ljava/lang/Throwable;" } : Jvm.MethodName) ({ cls := "java/lang/Throwable", name := "fillInStackTrace", desc := "(I)Ljava/lang/Throwable;" } : Jvm.MethodName)) ∈ gw := gw_in (List.mem_of_getElem? (i := 417) (by rfl)) (by rfl)
set_option maxRecDepth 20000 in
theorem q418 : (Jvm.Cond.lays "java/lang/Throwable" "java/lang/Throwable" "cause" "Ljava/lang/Throwable;") ∈ gw := gw_in (List.mem_of_getElem? (i := 418) (by rfl)) (by rfl)
set_option maxRecDepth 20000 in
theorem q419 : (Jvm.Cond.lays "java/lang/Throwable" "java/lang/Throwable" "stackTrace" "[Ljava/lang/StackTraceElement;") ∈ gw := gw_in (List.mem_of_getElem? (i := 419) (by rfl)) (by rfl)
set_option maxRecDepth 20000 in
theorem q420 : (Jvm.Cond.lays "java/lang/Throwable" "java/lang/Throwable" "suppressedExceptions" "Ljava/util/List;") ∈ gw := gw_in (List.mem_of_getElem? (i := 420) (by rfl)) (by rfl)
set_option maxRecDepth 20000 in
theorem q421 : (Jvm.Cond.lays "java/lang/Throwable" "java/lang/Throwable" "detailMessage" "Ljava/lang/String;") ∈ gw := gw_in (List.mem_of_getElem? (i := 421) (by rfl)) (by rfl)
set_option maxRecDepth 20000 in
theorem q422 : (Jvm.Cond.lays "java/lang/Throwable" "java/lang/Throwable" "backtrace" "Ljava/lang/Object;") ∈ gw := gw_in (List.mem_of_getElem? (i := 422) (by rfl)) (by rfl)
set_option maxRecDepth 20000 in
theorem q423 : (Jvm.Cond.fieldLink "java/lang/Throwable" (198 : Nat) "java/lang/Throwable" "backtrace" "Ljava/lang/Object;") ∈ gw := gw_in (List.mem_of_getElem? (i := 423) (by rfl)) (by rfl)
set_option maxRecDepth 20000 in
theorem q425 : (Jvm.Cond.instanceMethod ({ cls := "java/lang/Throwable", name := "<init>", desc := "()V" } : Jvm.MethodName)) ∈ gw := gw_in (List.mem_of_getElem? (i := 425) (by rfl)) (by rfl)
set_option maxRecDepth 20000 in
theorem q426 : (Jvm.Cond.code ({ cls := "java/lang/Throwable", name := "<init>", desc := "()V" } : Jvm.MethodName) prog_23_method_1_code (1 : Nat) (Option.none : Option Jvm.ClassFile.FieldType)) ∈ gw := gw_in (List.mem_of_getElem? (i := 426) (by rfl)) (by rfl)
set_option maxRecDepth 20000 in
theorem q427 : (Jvm.Cond.instantiable "java/lang/String" (4 : Nat)) ∈ gw := gw_in (List.mem_of_getElem? (i := 427) (by rfl)) (by rfl)
set_option maxRecDepth 20000 in
theorem q428 : (Jvm.Cond.arrayClass Jvm.ClassFile.FieldType.byte) ∈ gw := gw_in (List.mem_of_getElem? (i := 428) (by rfl)) (by rfl)
set_option maxRecDepth 20000 in
theorem q429 : (Jvm.Cond.laysFinal "java/lang/String" "java/lang/String" "value" "[B") ∈ gw := gw_in (List.mem_of_getElem? (i := 429) (by rfl)) (by rfl)
set_option maxRecDepth 20000 in
theorem q431 : (Jvm.Cond.laysFinal "java/lang/String" "java/lang/String" "coder" "B") ∈ gw := gw_in (List.mem_of_getElem? (i := 431) (by rfl)) (by rfl)
set_option maxRecDepth 20000 in
theorem q433 : (Jvm.Cond.classLink "NominatorLaw" (115 : Nat) "java/lang/IllegalArgumentException") ∈ gw := gw_in (List.mem_of_getElem? (i := 433) (by rfl)) (by rfl)
set_option maxRecDepth 20000 in
theorem q434 : (Jvm.Cond.classLink "NominatorLaw" (117 : Nat) "java/lang/IllegalStateException") ∈ gw := gw_in (List.mem_of_getElem? (i := 434) (by rfl)) (by rfl)
set_option maxRecDepth 20000 in
theorem q435 : (Jvm.Cond.classLink "NominatorLaw" (119 : Nat) "java/lang/UnsupportedOperationException") ∈ gw := gw_in (List.mem_of_getElem? (i := 435) (by rfl)) (by rfl)
set_option maxRecDepth 20000 in
theorem q436 : (Jvm.Cond.classLink "NominatorLaw" (121 : Nat) "java/util/NoSuchElementException") ∈ gw := gw_in (List.mem_of_getElem? (i := 436) (by rfl)) (by rfl)
set_option maxRecDepth 20000 in
theorem q437 : (Jvm.Cond.methodLink "NominatorLaw" (9 : Nat) ({ cls := "Nominator", name := "pass", desc := "(I)I" } : Jvm.MethodName)) ∈ gw := gw_in (List.mem_of_getElem? (i := 437) (by rfl)) (by rfl)
set_option maxRecDepth 20000 in
theorem q438 : (Jvm.Cond.instanceMethod ({ cls := "Nominator", name := "pass", desc := "(I)I" } : Jvm.MethodName)) ∈ gw := gw_in (List.mem_of_getElem? (i := 438) (by rfl)) (by rfl)
set_option maxRecDepth 20000 in
theorem q439 : (Jvm.Cond.selects "Nominator" ({ cls := "Nominator", name := "pass", desc := "(I)I" } : Jvm.MethodName) ({ cls := "Nominator", name := "pass", desc := "(I)I" } : Jvm.MethodName)) ∈ gw := gw_in (List.mem_of_getElem? (i := 439) (by rfl)) (by rfl)
set_option maxRecDepth 20000 in
theorem q440 : (Jvm.Cond.code ({ cls := "Nominator", name := "pass", desc := "(I)I" } : Jvm.MethodName) prog_1_method_3_code (2 : Nat) (Option.some Jvm.ClassFile.FieldType.int)) ∈ gw := gw_in (List.mem_of_getElem? (i := 440) (by rfl)) (by rfl)
set_option maxRecDepth 20000 in
theorem q441 : (Jvm.Cond.classLink "Nominator" (26 : Nat) "java/lang/IllegalArgumentException") ∈ gw := gw_in (List.mem_of_getElem? (i := 441) (by rfl)) (by rfl)
set_option maxRecDepth 20000 in
theorem q442 : (Jvm.Cond.instantiable "java/lang/IllegalArgumentException" (6 : Nat)) ∈ gw := gw_in (List.mem_of_getElem? (i := 442) (by rfl)) (by rfl)
set_option maxRecDepth 20000 in
theorem q444 : (Jvm.Cond.selects "java/lang/IllegalArgumentException" ({ cls := "java/lang/Throwable", name := "fillInStackTrace", desc := "(I)Ljava/lang/Throwable;" } : Jvm.MethodName) ({ cls := "java/lang/Throwable", name := "fillInStackTrace", desc := "(I)Ljava/lang/Throwable;" } : Jvm.MethodName)) ∈ gw := gw_in (List.mem_of_getElem? (i := 444) (by rfl)) (by rfl)
set_option maxRecDepth 20000 in
theorem q445 : (Jvm.Cond.lays "java/lang/IllegalArgumentException" "java/lang/Throwable" "cause" "Ljava/lang/Throwable;") ∈ gw := gw_in (List.mem_of_getElem? (i := 445) (by rfl)) (by rfl)
set_option maxRecDepth 20000 in
theorem q446 : (Jvm.Cond.lays "java/lang/IllegalArgumentException" "java/lang/Throwable" "stackTrace" "[Ljava/lang/StackTraceElement;") ∈ gw := gw_in (List.mem_of_getElem? (i := 446) (by rfl)) (by rfl)
set_option maxRecDepth 20000 in
theorem q447 : (Jvm.Cond.lays "java/lang/IllegalArgumentException" "java/lang/Throwable" "suppressedExceptions" "Ljava/util/List;") ∈ gw := gw_in (List.mem_of_getElem? (i := 447) (by rfl)) (by rfl)
set_option maxRecDepth 20000 in
theorem q448 : (Jvm.Cond.lays "java/lang/IllegalArgumentException" "java/lang/Throwable" "detailMessage" "Ljava/lang/String;") ∈ gw := gw_in (List.mem_of_getElem? (i := 448) (by rfl)) (by rfl)
set_option maxRecDepth 20000 in
theorem q449 : (Jvm.Cond.lays "java/lang/IllegalArgumentException" "java/lang/Throwable" "backtrace" "Ljava/lang/Object;") ∈ gw := gw_in (List.mem_of_getElem? (i := 449) (by rfl)) (by rfl)
set_option maxRecDepth 20000 in
theorem q451 : (Jvm.Cond.methodLink "Nominator" (30 : Nat) ({ cls := "java/lang/IllegalArgumentException", name := "<init>", desc := "(Ljava/lang/String;)V" } : Jvm.MethodName)) ∈ gw := gw_in (List.mem_of_getElem? (i := 451) (by rfl)) (by rfl)
set_option maxRecDepth 20000 in
theorem q452 : (Jvm.Cond.instanceMethod ({ cls := "java/lang/IllegalArgumentException", name := "<init>", desc := "(Ljava/lang/String;)V" } : Jvm.MethodName)) ∈ gw := gw_in (List.mem_of_getElem? (i := 452) (by rfl)) (by rfl)
set_option maxRecDepth 20000 in
theorem q453 : (Jvm.Cond.code ({ cls := "java/lang/IllegalArgumentException", name := "<init>", desc := "(Ljava/lang/String;)V" } : Jvm.MethodName) prog_16_method_2_code (2 : Nat) (Option.none : Option Jvm.ClassFile.FieldType)) ∈ gw := gw_in (List.mem_of_getElem? (i := 453) (by rfl)) (by rfl)
set_option maxRecDepth 20000 in
theorem q454 : (Jvm.Cond.methodLink "java/lang/IllegalArgumentException" (7 : Nat) ({ cls := "java/lang/RuntimeException", name := "<init>", desc := "(Ljava/lang/String;)V" } : Jvm.MethodName)) ∈ gw := gw_in (List.mem_of_getElem? (i := 454) (by rfl)) (by rfl)
set_option maxRecDepth 20000 in
theorem q455 : (Jvm.Cond.lays "java/lang/IllegalArgumentException" "java/lang/Throwable" "depth" "I") ∈ gw := gw_in (List.mem_of_getElem? (i := 455) (by rfl)) (by rfl)
set_option maxRecDepth 20000 in
theorem q457 : (Jvm.Cond.classLink "Nominator" (46 : Nat) "java/lang/IllegalStateException") ∈ gw := gw_in (List.mem_of_getElem? (i := 457) (by rfl)) (by rfl)
set_option maxRecDepth 20000 in
theorem q458 : (Jvm.Cond.instantiable "java/lang/IllegalStateException" (6 : Nat)) ∈ gw := gw_in (List.mem_of_getElem? (i := 458) (by rfl)) (by rfl)
set_option maxRecDepth 20000 in
theorem q460 : (Jvm.Cond.selects "java/lang/IllegalStateException" ({ cls := "java/lang/Throwable", name := "fillInStackTrace", desc := "(I)Ljava/lang/Throwable;" } : Jvm.MethodName) ({ cls := "java/lang/Throwable", name := "fillInStackTrace", desc := "(I)Ljava/lang/Throwable;" } : Jvm.MethodName)) ∈ gw := gw_in (List.mem_of_getElem? (i := 460) (by rfl)) (by rfl)
set_option maxRecDepth 20000 in
theorem q461 : (Jvm.Cond.lays "java/lang/IllegalStateException" "java/lang/Throwable" "cause" "Ljava/lang/Throwable;") ∈ gw := gw_in (List.mem_of_getElem? (i := 461) (by rfl)) (by rfl)
set_option maxRecDepth 20000 in
theorem q462 : (Jvm.Cond.lays "java/lang/IllegalStateException" "java/lang/Throwable" "stackTrace" "[Ljava/lang/StackTraceElement;") ∈ gw := gw_in (List.mem_of_getElem? (i := 462) (by rfl)) (by rfl)
set_option maxRecDepth 20000 in
theorem q463 : (Jvm.Cond.lays "java/lang/IllegalStateException" "java/lang/Throwable" "suppressedExceptions" "Ljava/util/List;") ∈ gw := gw_in (List.mem_of_getElem? (i := 463) (by rfl)) (by rfl)
set_option maxRecDepth 20000 in
theorem q464 : (Jvm.Cond.lays "java/lang/IllegalStateException" "java/lang/Throwable" "detailMessage" "Ljava/lang/String;") ∈ gw := gw_in (List.mem_of_getElem? (i := 464) (by rfl)) (by rfl)
set_option maxRecDepth 20000 in
theorem q465 : (Jvm.Cond.lays "java/lang/IllegalStateException" "java/lang/Throwable" "backtrace" "Ljava/lang/Object;") ∈ gw := gw_in (List.mem_of_getElem? (i := 465) (by rfl)) (by rfl)
set_option maxRecDepth 20000 in
theorem q467 : (Jvm.Cond.methodLink "Nominator" (50 : Nat) ({ cls := "java/lang/IllegalStateException", name := "<init>", desc := "(Ljava/lang/String;)V" } : Jvm.MethodName)) ∈ gw := gw_in (List.mem_of_getElem? (i := 467) (by rfl)) (by rfl)
set_option maxRecDepth 20000 in
theorem q468 : (Jvm.Cond.instanceMethod ({ cls := "java/lang/IllegalStateException", name := "<init>", desc := "(Ljava/lang/String;)V" } : Jvm.MethodName)) ∈ gw := gw_in (List.mem_of_getElem? (i := 468) (by rfl)) (by rfl)
set_option maxRecDepth 20000 in
theorem q469 : (Jvm.Cond.code ({ cls := "java/lang/IllegalStateException", name := "<init>", desc := "(Ljava/lang/String;)V" } : Jvm.MethodName) prog_17_method_2_code (2 : Nat) (Option.none : Option Jvm.ClassFile.FieldType)) ∈ gw := gw_in (List.mem_of_getElem? (i := 469) (by rfl)) (by rfl)
set_option maxRecDepth 20000 in
theorem q470 : (Jvm.Cond.methodLink "java/lang/IllegalStateException" (7 : Nat) ({ cls := "java/lang/RuntimeException", name := "<init>", desc := "(Ljava/lang/String;)V" } : Jvm.MethodName)) ∈ gw := gw_in (List.mem_of_getElem? (i := 470) (by rfl)) (by rfl)
set_option maxRecDepth 20000 in
theorem q471 : (Jvm.Cond.lays "java/lang/IllegalStateException" "java/lang/Throwable" "depth" "I") ∈ gw := gw_in (List.mem_of_getElem? (i := 471) (by rfl)) (by rfl)
set_option maxRecDepth 20000 in
theorem q473 : (Jvm.Cond.methodLink "Nominator" (54 : Nat) ({ cls := "Nominator", name := "happen", desc := "(IIII)V" } : Jvm.MethodName)) ∈ gw := gw_in (List.mem_of_getElem? (i := 473) (by rfl)) (by rfl)
set_option maxRecDepth 20000 in
theorem q475 : (Jvm.Cond.instanceMethod ({ cls := "Nominator", name := "happen", desc := "(IIII)V" } : Jvm.MethodName)) ∈ gw := gw_in (List.mem_of_getElem? (i := 475) (by rfl)) (by rfl)
set_option maxRecDepth 20000 in
theorem q476 : (Jvm.Cond.code ({ cls := "Nominator", name := "happen", desc := "(IIII)V" } : Jvm.MethodName) prog_1_method_57_code (5 : Nat) (Option.none : Option Jvm.ClassFile.FieldType)) ∈ gw := gw_in (List.mem_of_getElem? (i := 476) (by rfl)) (by rfl)
set_option maxRecDepth 20000 in
theorem q477 : (Jvm.Cond.methodLink "Nominator" (385 : Nat) ({ cls := "Nominator$Diary", name := "write", desc := "(IIII)V" } : Jvm.MethodName)) ∈ gw := gw_in (List.mem_of_getElem? (i := 477) (by rfl)) (by rfl)
set_option maxRecDepth 20000 in
theorem q478 : (Jvm.Cond.instanceMethod ({ cls := "Nominator$Diary", name := "write", desc := "(IIII)V" } : Jvm.MethodName)) ∈ gw := gw_in (List.mem_of_getElem? (i := 478) (by rfl)) (by rfl)
set_option maxRecDepth 20000 in
theorem q479 : (Jvm.Cond.selects "Nominator$Diary" ({ cls := "Nominator$Diary", name := "write", desc := "(IIII)V" } : Jvm.MethodName) ({ cls := "Nominator$Diary", name := "write", desc := "(IIII)V" } : Jvm.MethodName)) ∈ gw := gw_in (List.mem_of_getElem? (i := 479) (by rfl)) (by rfl)
set_option maxRecDepth 20000 in
theorem q480 : (Jvm.Cond.code ({ cls := "Nominator$Diary", name := "write", desc := "(IIII)V" } : Jvm.MethodName) prog_4_method_2_code (5 : Nat) (Option.none : Option Jvm.ClassFile.FieldType)) ∈ gw := gw_in (List.mem_of_getElem? (i := 480) (by rfl)) (by rfl)
set_option maxRecDepth 20000 in
theorem q481 : (Jvm.Cond.methodLink "Nominator" (256 : Nat) ({ cls := "Nominator$Office", name := "happen", desc := "(IIII)V" } : Jvm.MethodName)) ∈ gw := gw_in (List.mem_of_getElem? (i := 481) (by rfl)) (by rfl)
set_option maxRecDepth 20000 in
theorem q482 : (Jvm.Cond.instanceMethod ({ cls := "Nominator$Office", name := "happen", desc := "(IIII)V" } : Jvm.MethodName)) ∈ gw := gw_in (List.mem_of_getElem? (i := 482) (by rfl)) (by rfl)
set_option maxRecDepth 20000 in
theorem q483 : (Jvm.Cond.selects "Nominator$Office" ({ cls := "Nominator$Office", name := "happen", desc := "(IIII)V" } : Jvm.MethodName) ({ cls := "Nominator$Office", name := "happen", desc := "(IIII)V" } : Jvm.MethodName)) ∈ gw := gw_in (List.mem_of_getElem? (i := 483) (by rfl)) (by rfl)
set_option maxRecDepth 20000 in
theorem q484 : (Jvm.Cond.code ({ cls := "Nominator$Office", name := "happen", desc := "(IIII)V" } : Jvm.MethodName) prog_6_method_3_code (5 : Nat) (Option.none : Option Jvm.ClassFile.FieldType)) ∈ gw := gw_in (List.mem_of_getElem? (i := 484) (by rfl)) (by rfl)
set_option maxRecDepth 20000 in
theorem q485 : (Jvm.Cond.methodLink "Nominator$Office" (66 : Nat) ({ cls := "Nominator$Calendar", name := "fix", desc := "(III)V" } : Jvm.MethodName)) ∈ gw := gw_in (List.mem_of_getElem? (i := 485) (by rfl)) (by rfl)
set_option maxRecDepth 20000 in
theorem q486 : (Jvm.Cond.methodLink "Nominator$Office" (70 : Nat) ({ cls := "Nominator$Office", name := "judge", desc := "()V" } : Jvm.MethodName)) ∈ gw := gw_in (List.mem_of_getElem? (i := 486) (by rfl)) (by rfl)
set_option maxRecDepth 20000 in
theorem q487 : (Jvm.Cond.instanceMethod ({ cls := "Nominator$Office", name := "judge", desc := "()V" } : Jvm.MethodName)) ∈ gw := gw_in (List.mem_of_getElem? (i := 487) (by rfl)) (by rfl)
set_option maxRecDepth 20000 in
theorem q488 : (Jvm.Cond.selects "Nominator$Office" ({ cls := "Nominator$Office", name := "judge", desc := "()V" } : Jvm.MethodName) ({ cls := "Nominator$Office", name := "judge", desc := "()V" } : Jvm.MethodName)) ∈ gw := gw_in (List.mem_of_getElem? (i := 488) (by rfl)) (by rfl)
set_option maxRecDepth 20000 in
theorem q489 : (Jvm.Cond.code ({ cls := "Nominator$Office", name := "judge", desc := "()V" } : Jvm.MethodName) prog_6_method_7_code (2 : Nat) (Option.none : Option Jvm.ClassFile.FieldType)) ∈ gw := gw_in (List.mem_of_getElem? (i := 489) (by rfl)) (by rfl)
set_option maxRecDepth 20000 in
theorem q490 : (Jvm.Cond.methodLink "Nominator$Office" (122 : Nat) ({ cls := "Nominator$Calendar", name := "isBeforeClose", desc := "()Z" } : Jvm.MethodName)) ∈ gw := gw_in (List.mem_of_getElem? (i := 490) (by rfl)) (by rfl)
set_option maxRecDepth 20000 in
theorem q491 : (Jvm.Cond.methodLink "Nominator$Office" (148 : Nat) ({ cls := "Nominator$Office", name := "judgeSignatures", desc := "()V" } : Jvm.MethodName)) ∈ gw := gw_in (List.mem_of_getElem? (i := 491) (by rfl)) (by rfl)
set_option maxRecDepth 20000 in
theorem q493 : (Jvm.Cond.instanceMethod ({ cls := "Nominator$Office", name := "judgeSignatures", desc := "()V" } : Jvm.MethodName)) ∈ gw := gw_in (List.mem_of_getElem? (i := 493) (by rfl)) (by rfl)
set_option maxRecDepth 20000 in
theorem q494 : (Jvm.Cond.code ({ cls := "Nominator$Office", name := "judgeSignatures", desc := "()V" } : Jvm.MethodName) prog_6_method_8_code (3 : Nat) (Option.none : Option Jvm.ClassFile.FieldType)) ∈ gw := gw_in (List.mem_of_getElem? (i := 494) (by rfl)) (by rfl)
set_option maxRecDepth 20000 in
theorem q495 : (Jvm.Cond.methodLink "Nominator$Office" (161 : Nat) ({ cls := "Nominator$Office", name := "resultOf", desc := "(LNominator$Signature;)I" } : Jvm.MethodName)) ∈ gw := gw_in (List.mem_of_getElem? (i := 495) (by rfl)) (by rfl)
set_option maxRecDepth 20000 in
theorem q497 : (Jvm.Cond.instanceMethod ({ cls := "Nominator$Office", name := "resultOf", desc := "(LNominator$Signature;)I" } : Jvm.MethodName)) ∈ gw := gw_in (List.mem_of_getElem? (i := 497) (by rfl)) (by rfl)
set_option maxRecDepth 20000 in
theorem q498 : (Jvm.Cond.code ({ cls := "Nominator$Office", name := "resultOf", desc := "(LNominator$Signature;)I" } : Jvm.MethodName) prog_6_method_9_code (2 : Nat) (Option.some Jvm.ClassFile.FieldType.int)) ∈ gw := gw_in (List.mem_of_getElem? (i := 498) (by rfl)) (by rfl)
set_option maxRecDepth 20000 in
theorem q499 : (Jvm.Cond.methodLink "Nominator$Office" (177 : Nat) ({ cls := "Nominator$Office", name := "isWithdrawn", desc := "(I)Z" } : Jvm.MethodName)) ∈ gw := gw_in (List.mem_of_getElem? (i := 499) (by rfl)) (by rfl)
set_option maxRecDepth 20000 in
theorem q500 : (Jvm.Cond.instanceMethod ({ cls := "Nominator$Office", name := "isWithdrawn", desc := "(I)Z" } : Jvm.MethodName)) ∈ gw := gw_in (List.mem_of_getElem? (i := 500) (by rfl)) (by rfl)
set_option maxRecDepth 20000 in
theorem q501 : (Jvm.Cond.selects "Nominator$Office" ({ cls := "Nominator$Office", name := "isWithdrawn", desc := "(I)Z" } : Jvm.MethodName) ({ cls := "Nominator$Office", name := "isWithdrawn", desc := "(I)Z" } : Jvm.MethodName)) ∈ gw := gw_in (List.mem_of_getElem? (i := 501) (by rfl)) (by rfl)
set_option maxRecDepth 20000 in
theorem q502 : (Jvm.Cond.code ({ cls := "Nominator$Office", name := "isWithdrawn", desc := "(I)Z" } : Jvm.MethodName) prog_6_method_12_code (2 : Nat) (Option.some Jvm.ClassFile.FieldType.boolean)) ∈ gw := gw_in (List.mem_of_getElem? (i := 502) (by rfl)) (by rfl)
set_option maxRecDepth 20000 in
theorem q503 : (Jvm.Cond.methodLink "Nominator$Office" (151 : Nat) ({ cls := "Nominator$Office", name := "verdictOn", desc := "(I)I" } : Jvm.MethodName)) ∈ gw := gw_in (List.mem_of_getElem? (i := 503) (by rfl)) (by rfl)
set_option maxRecDepth 20000 in
theorem q505 : (Jvm.Cond.instanceMethod ({ cls := "Nominator$Office", name := "verdictOn", desc := "(I)I" } : Jvm.MethodName)) ∈ gw := gw_in (List.mem_of_getElem? (i := 505) (by rfl)) (by rfl)
set_option maxRecDepth 20000 in
theorem q506 : (Jvm.Cond.code ({ cls := "Nominator$Office", name := "verdictOn", desc := "(I)I" } : Jvm.MethodName) prog_6_method_10_code (4 : Nat) (Option.some Jvm.ClassFile.FieldType.int)) ∈ gw := gw_in (List.mem_of_getElem? (i := 506) (by rfl)) (by rfl)
set_option maxRecDepth 20000 in
theorem q507 : (Jvm.Cond.methodLink "Nominator$Office" (190 : Nat) ({ cls := "Nominator$Office", name := "isDouble", desc := "(I)Z" } : Jvm.MethodName)) ∈ gw := gw_in (List.mem_of_getElem? (i := 507) (by rfl)) (by rfl)
set_option maxRecDepth 20000 in
theorem q509 : (Jvm.Cond.instanceMethod ({ cls := "Nominator$Office", name := "isDouble", desc := "(I)Z" } : Jvm.MethodName)) ∈ gw := gw_in (List.mem_of_getElem? (i := 509) (by rfl)) (by rfl)
set_option maxRecDepth 20000 in
theorem q510 : (Jvm.Cond.code ({ cls := "Nominator$Office", name := "isDouble", desc := "(I)Z" } : Jvm.MethodName) prog_6_method_11_code (5 : Nat) (Option.some Jvm.ClassFile.FieldType.boolean)) ∈ gw := gw_in (List.mem_of_getElem? (i := 510) (by rfl)) (by rfl)
set_option maxRecDepth 20000 in
theorem q511 : (Jvm.Cond.methodLink "Nominator$Office" (76 : Nat) ({ cls := "Nominator$Roll", name := "beginArea", desc := "(II)V" } : Jvm.MethodName)) ∈ gw := gw_in (List.mem_of_getElem? (i := 511) (by rfl)) (by rfl)
set_option maxRecDepth 20000 in
theorem q512 : (Jvm.Cond.instanceMethod ({ cls := "Nominator$Roll", name := "beginArea", desc := "(II)V" } : Jvm.MethodName)) ∈ gw := gw_in (List.mem_of_getElem? (i := 512) (by rfl)) (by rfl)
set_option maxRecDepth 20000 in
theorem q513 : (Jvm.Cond.selects "Nominator$Roll" ({ cls := "Nominator$Roll", name := "beginArea", desc := "(II)V" } : Jvm.MethodName) ({ cls := "Nominator$Roll", name := "beginArea", desc := "(II)V" } : Jvm.MethodName)) ∈ gw := gw_in (List.mem_of_getElem? (i := 513) (by rfl)) (by rfl)
set_option maxRecDepth 20000 in
theorem q514 : (Jvm.Cond.code ({ cls := "Nominator$Roll", name := "beginArea", desc := "(II)V" } : Jvm.MethodName) prog_8_method_3_code (3 : Nat) (Option.none : Option Jvm.ClassFile.FieldType)) ∈ gw := gw_in (List.mem_of_getElem? (i := 514) (by rfl)) (by rfl)
set_option maxRecDepth 20000 in
theorem q515 : (Jvm.Cond.methodLink "Nominator$Roll" (32 : Nat) ({ cls := "Nominator$Area", name := "begin", desc := "(II)V" } : Jvm.MethodName)) ∈ gw := gw_in (List.mem_of_getElem? (i := 515) (by rfl)) (by rfl)
set_option maxRecDepth 20000 in
theorem q516 : (Jvm.Cond.instanceMethod ({ cls := "Nominator$Area", name := "begin", desc := "(II)V" } : Jvm.MethodName)) ∈ gw := gw_in (List.mem_of_getElem? (i := 516) (by rfl)) (by rfl)
set_option maxRecDepth 20000 in
theorem q517 : (Jvm.Cond.selects "Nominator$Area" ({ cls := "Nominator$Area", name := "begin", desc := "(II)V" } : Jvm.MethodName) ({ cls := "Nominator$Area", name := "begin", desc := "(II)V" } : Jvm.MethodName)) ∈ gw := gw_in (List.mem_of_getElem? (i := 517) (by rfl)) (by rfl)
set_option maxRecDepth 20000 in
theorem q518 : (Jvm.Cond.code ({ cls := "Nominator$Area", name := "begin", desc := "(II)V" } : Jvm.MethodName) prog_2_method_2_code (3 : Nat) (Option.none : Option Jvm.ClassFile.FieldType)) ∈ gw := gw_in (List.mem_of_getElem? (i := 518) (by rfl)) (by rfl)
set_option maxRecDepth 20000 in
theorem q519 : (Jvm.Cond.methodLink "Nominator$Office" (80 : Nat) ({ cls := "Nominator$Roll", name := "beginVoter", desc := "(I)V" } : Jvm.MethodName)) ∈ gw := gw_in (List.mem_of_getElem? (i := 519) (by rfl)) (by rfl)
set_option maxRecDepth 20000 in
theorem q520 : (Jvm.Cond.instanceMethod ({ cls := "Nominator$Roll", name := "beginVoter", desc := "(I)V" } : Jvm.MethodName)) ∈ gw := gw_in (List.mem_of_getElem? (i := 520) (by rfl)) (by rfl)
set_option maxRecDepth 20000 in
theorem q521 : (Jvm.Cond.selects "Nominator$Roll" ({ cls := "Nominator$Roll", name := "beginVoter", desc := "(I)V" } : Jvm.MethodName) ({ cls := "Nominator$Roll", name := "beginVoter", desc := "(I)V" } : Jvm.MethodName)) ∈ gw := gw_in (List.mem_of_getElem? (i := 521) (by rfl)) (by rfl)
set_option maxRecDepth 20000 in
theorem q522 : (Jvm.Cond.code ({ cls := "Nominator$Roll", name := "beginVoter", desc := "(I)V" } : Jvm.MethodName) prog_8_method_4_code (2 : Nat) (Option.none : Option Jvm.ClassFile.FieldType)) ∈ gw := gw_in (List.mem_of_getElem? (i := 522) (by rfl)) (by rfl)
set_option maxRecDepth 20000 in
theorem q523 : (Jvm.Cond.methodLink "Nominator$Roll" (36 : Nat) ({ cls := "Nominator$Voter", name := "begin", desc := "(I)V" } : Jvm.MethodName)) ∈ gw := gw_in (List.mem_of_getElem? (i := 523) (by rfl)) (by rfl)
set_option maxRecDepth 20000 in
theorem q524 : (Jvm.Cond.instanceMethod ({ cls := "Nominator$Voter", name := "begin", desc := "(I)V" } : Jvm.MethodName)) ∈ gw := gw_in (List.mem_of_getElem? (i := 524) (by rfl)) (by rfl)
set_option maxRecDepth 20000 in
theorem q525 : (Jvm.Cond.selects "Nominator$Voter" ({ cls := "Nominator$Voter", name := "begin", desc := "(I)V" } : Jvm.MethodName) ({ cls := "Nominator$Voter", name := "begin", desc := "(I)V" } : Jvm.MethodName)) ∈ gw := gw_in (List.mem_of_getElem? (i := 525) (by rfl)) (by rfl)
set_option maxRecDepth 20000 in
theorem q526 : (Jvm.Cond.code ({ cls := "Nominator$Voter", name := "begin", desc := "(I)V" } : Jvm.MethodName) prog_10_method_2_code (2 : Nat) (Option.none : Option Jvm.ClassFile.FieldType)) ∈ gw := gw_in (List.mem_of_getElem? (i := 526) (by rfl)) (by rfl)
set_option maxRecDepth 20000 in
theorem q527 : (Jvm.Cond.methodLink "Nominator$Office" (97 : Nat) ({ cls := "Nominator$Letters", name := "shuffle", desc := "(I)V" } : Jvm.MethodName)) ∈ gw := gw_in (List.mem_of_getElem? (i := 527) (by rfl)) (by rfl)
set_option maxRecDepth 20000 in
theorem q528 : (Jvm.Cond.instanceMethod ({ cls := "Nominator$Letters", name := "shuffle", desc := "(I)V" } : Jvm.MethodName)) ∈ gw := gw_in (List.mem_of_getElem? (i := 528) (by rfl)) (by rfl)
set_option maxRecDepth 20000 in
theorem q529 : (Jvm.Cond.selects "Nominator$Letters" ({ cls := "Nominator$Letters", name := "shuffle", desc := "(I)V" } : Jvm.MethodName) ({ cls := "Nominator$Letters", name := "shuffle", desc := "(I)V" } : Jvm.MethodName)) ∈ gw := gw_in (List.mem_of_getElem? (i := 529) (by rfl)) (by rfl)
set_option maxRecDepth 20000 in
theorem q530 : (Jvm.Cond.code ({ cls := "Nominator$Letters", name := "shuffle", desc := "(I)V" } : Jvm.MethodName) prog_5_method_3_code (4 : Nat) (Option.none : Option Jvm.ClassFile.FieldType)) ∈ gw := gw_in (List.mem_of_getElem? (i := 530) (by rfl)) (by rfl)
set_option maxRecDepth 20000 in
theorem q531 : (Jvm.Cond.constant "Nominator$Letters" (23 : Nat) (1103515245 : Int32)) ∈ gw := gw_in (List.mem_of_getElem? (i := 531) (by rfl)) (by rfl)
set_option maxRecDepth 20000 in
theorem q532 : (Jvm.Cond.methodLink "Nominator$Letters" (24 : Nat) ({ cls := "Nominator$Letters", name := "exchange", desc := "(II)V" } : Jvm.MethodName)) ∈ gw := gw_in (List.mem_of_getElem? (i := 532) (by rfl)) (by rfl)
set_option maxRecDepth 20000 in
theorem q534 : (Jvm.Cond.instanceMethod ({ cls := "Nominator$Letters", name := "exchange", desc := "(II)V" } : Jvm.MethodName)) ∈ gw := gw_in (List.mem_of_getElem? (i := 534) (by rfl)) (by rfl)
set_option maxRecDepth 20000 in
theorem q535 : (Jvm.Cond.code ({ cls := "Nominator$Letters", name := "exchange", desc := "(II)V" } : Jvm.MethodName) prog_5_method_4_code (4 : Nat) (Option.none : Option Jvm.ClassFile.FieldType)) ∈ gw := gw_in (List.mem_of_getElem? (i := 535) (by rfl)) (by rfl)
set_option maxRecDepth 20000 in
theorem q536 : (Jvm.Cond.methodLink "Nominator$Office" (109 : Nat) ({ cls := "Nominator$Office", name := "happenToPaper", desc := "(IIII)V" } : Jvm.MethodName)) ∈ gw := gw_in (List.mem_of_getElem? (i := 536) (by rfl)) (by rfl)
set_option maxRecDepth 20000 in
theorem q538 : (Jvm.Cond.instanceMethod ({ cls := "Nominator$Office", name := "happenToPaper", desc := "(IIII)V" } : Jvm.MethodName)) ∈ gw := gw_in (List.mem_of_getElem? (i := 538) (by rfl)) (by rfl)
set_option maxRecDepth 20000 in
theorem q539 : (Jvm.Cond.code ({ cls := "Nominator$Office", name := "happenToPaper", desc := "(IIII)V" } : Jvm.MethodName) prog_6_method_4_code (5 : Nat) (Option.none : Option Jvm.ClassFile.FieldType)) ∈ gw := gw_in (List.mem_of_getElem? (i := 539) (by rfl)) (by rfl)
set_option maxRecDepth 20000 in
theorem q540 : (Jvm.Cond.methodLink "Nominator$Office" (113 : Nat) ({ cls := "Nominator$Office", name := "beginPaper", desc := "(III)V" } : Jvm.MethodName)) ∈ gw := gw_in (List.mem_of_getElem? (i := 540) (by rfl)) (by rfl)
set_option maxRecDepth 20000 in
theorem q542 : (Jvm.Cond.instanceMethod ({ cls := "Nominator$Office", name := "beginPaper", desc := "(III)V" } : Jvm.MethodName)) ∈ gw := gw_in (List.mem_of_getElem? (i := 542) (by rfl)) (by rfl)
set_option maxRecDepth 20000 in
theorem q543 : (Jvm.Cond.code ({ cls := "Nominator$Office", name := "beginPaper", desc := "(III)V" } : Jvm.MethodName) prog_6_method_5_code (4 : Nat) (Option.none : Option Jvm.ClassFile.FieldType)) ∈ gw := gw_in (List.mem_of_getElem? (i := 543) (by rfl)) (by rfl)
set_option maxRecDepth 20000 in
theorem q544 : (Jvm.Cond.methodLink "Nominator$Office" (138 : Nat) ({ cls := "Nominator$Paper", name := "begin", desc := "(III)V" } : Jvm.MethodName)) ∈ gw := gw_in (List.mem_of_getElem? (i := 544) (by rfl)) (by rfl)
set_option maxRecDepth 20000 in
theorem q545 : (Jvm.Cond.instanceMethod ({ cls := "Nominator$Paper", name := "begin", desc := "(III)V" } : Jvm.MethodName)) ∈ gw := gw_in (List.mem_of_getElem? (i := 545) (by rfl)) (by rfl)
set_option maxRecDepth 20000 in
theorem q546 : (Jvm.Cond.selects "Nominator$Paper" ({ cls := "Nominator$Paper", name := "begin", desc := "(III)V" } : Jvm.MethodName) ({ cls := "Nominator$Paper", name := "begin", desc := "(III)V" } : Jvm.MethodName)) ∈ gw := gw_in (List.mem_of_getElem? (i := 546) (by rfl)) (by rfl)
set_option maxRecDepth 20000 in
theorem q547 : (Jvm.Cond.code ({ cls := "Nominator$Paper", name := "begin", desc := "(III)V" } : Jvm.MethodName) prog_7_method_2_code (4 : Nat) (Option.none : Option Jvm.ClassFile.FieldType)) ∈ gw := gw_in (List.mem_of_getElem? (i := 547) (by rfl)) (by rfl)
set_option maxRecDepth 20000 in
theorem q548 : (Jvm.Cond.methodLink "Nominator$Office" (116 : Nat) ({ cls := "Nominator$Office", name := "beginSignature", desc := "(II)V" } : Jvm.MethodName)) ∈ gw := gw_in (List.mem_of_getElem? (i := 548) (by rfl)) (by rfl)
set_option maxRecDepth 20000 in
theorem q550 : (Jvm.Cond.instanceMethod ({ cls := "Nominator$Office", name := "beginSignature", desc := "(II)V" } : Jvm.MethodName)) ∈ gw := gw_in (List.mem_of_getElem? (i := 550) (by rfl)) (by rfl)
set_option maxRecDepth 20000 in
theorem q551 : (Jvm.Cond.code ({ cls := "Nominator$Office", name := "beginSignature", desc := "(II)V" } : Jvm.MethodName) prog_6_method_6_code (5 : Nat) (Option.none : Option Jvm.ClassFile.FieldType)) ∈ gw := gw_in (List.mem_of_getElem? (i := 551) (by rfl)) (by rfl)
set_option maxRecDepth 20000 in
theorem q552 : (Jvm.Cond.methodLink "Nominator$Office" (145 : Nat) ({ cls := "Nominator$Signature", name := "begin", desc := "(IIZI)V" } : Jvm.MethodName)) ∈ gw := gw_in (List.mem_of_getElem? (i := 552) (by rfl)) (by rfl)
set_option maxRecDepth 20000 in
theorem q553 : (Jvm.Cond.instanceMethod ({ cls := "Nominator$Signature", name := "begin", desc := "(IIZI)V" } : Jvm.MethodName)) ∈ gw := gw_in (List.mem_of_getElem? (i := 553) (by rfl)) (by rfl)
set_option maxRecDepth 20000 in
theorem q554 : (Jvm.Cond.selects "Nominator$Signature" ({ cls := "Nominator$Signature", name := "begin", desc := "(IIZI)V" } : Jvm.MethodName) ({ cls := "Nominator$Signature", name := "begin", desc := "(IIZI)V" } : Jvm.MethodName)) ∈ gw := gw_in (List.mem_of_getElem? (i := 554) (by rfl)) (by rfl)
set_option maxRecDepth 20000 in
theorem q555 : (Jvm.Cond.code ({ cls := "Nominator$Signature", name := "begin", desc := "(IIZI)V" } : Jvm.MethodName) prog_9_method_2_code (5 : Nat) (Option.none : Option Jvm.ClassFile.FieldType)) ∈ gw := gw_in (List.mem_of_getElem? (i := 555) (by rfl)) (by rfl)
set_option maxRecDepth 20000 in
theorem q556 : (Jvm.Cond.methodLink "Nominator$Office" (132 : Nat) ({ cls := "Nominator$Paper", name := "renew", desc := "(I)V" } : Jvm.MethodName)) ∈ gw := gw_in (List.mem_of_getElem? (i := 556) (by rfl)) (by rfl)
set_option maxRecDepth 20000 in
theorem q557 : (Jvm.Cond.instanceMethod ({ cls := "Nominator$Paper", name := "renew", desc := "(I)V" } : Jvm.MethodName)) ∈ gw := gw_in (List.mem_of_getElem? (i := 557) (by rfl)) (by rfl)
set_option maxRecDepth 20000 in
theorem q558 : (Jvm.Cond.selects "Nominator$Paper" ({ cls := "Nominator$Paper", name := "renew", desc := "(I)V" } : Jvm.MethodName) ({ cls := "Nominator$Paper", name := "renew", desc := "(I)V" } : Jvm.MethodName)) ∈ gw := gw_in (List.mem_of_getElem? (i := 558) (by rfl)) (by rfl)
set_option maxRecDepth 20000 in
theorem q559 : (Jvm.Cond.code ({ cls := "Nominator$Paper", name := "renew", desc := "(I)V" } : Jvm.MethodName) prog_7_method_3_code (2 : Nat) (Option.none : Option Jvm.ClassFile.FieldType)) ∈ gw := gw_in (List.mem_of_getElem? (i := 559) (by rfl)) (by rfl)
set_option maxRecDepth 20000 in
theorem q560 : (Jvm.Cond.methodLink "Nominator" (257 : Nat) ({ cls := "Nominator$Office", name := "judge", desc := "()V" } : Jvm.MethodName)) ∈ gw := gw_in (List.mem_of_getElem? (i := 560) (by rfl)) (by rfl)
set_option maxRecDepth 20000 in
theorem q561 : (Jvm.Cond.methodLink "NominatorLaw" (15 : Nat) ({ cls := "Nominator", name := "addArea", desc := "(II)I" } : Jvm.MethodName)) ∈ gw := gw_in (List.mem_of_getElem? (i := 561) (by rfl)) (by rfl)
set_option maxRecDepth 20000 in
theorem q562 : (Jvm.Cond.instanceMethod ({ cls := "Nominator", name := "addArea", desc := "(II)I" } : Jvm.MethodName)) ∈ gw := gw_in (List.mem_of_getElem? (i := 562) (by rfl)) (by rfl)
set_option maxRecDepth 20000 in
theorem q563 : (Jvm.Cond.selects "Nominator" ({ cls := "Nominator", name := "addArea", desc := "(II)I" } : Jvm.MethodName) ({ cls := "Nominator", name := "addArea", desc := "(II)I" } : Jvm.MethodName)) ∈ gw := gw_in (List.mem_of_getElem? (i := 563) (by rfl)) (by rfl)
set_option maxRecDepth 20000 in
theorem q564 : (Jvm.Cond.code ({ cls := "Nominator", name := "addArea", desc := "(II)I" } : Jvm.MethodName) prog_1_method_6_code (3 : Nat) (Option.some Jvm.ClassFile.FieldType.int)) ∈ gw := gw_in (List.mem_of_getElem? (i := 564) (by rfl)) (by rfl)
set_option maxRecDepth 20000 in
theorem q567 : (Jvm.Cond.methodLink "NominatorLaw" (19 : Nat) ({ cls := "Nominator", name := "addVoter", desc := "(I)I" } : Jvm.MethodName)) ∈ gw := gw_in (List.mem_of_getElem? (i := 567) (by rfl)) (by rfl)
set_option maxRecDepth 20000 in
theorem q568 : (Jvm.Cond.instanceMethod ({ cls := "Nominator", name := "addVoter", desc := "(I)I" } : Jvm.MethodName)) ∈ gw := gw_in (List.mem_of_getElem? (i := 568) (by rfl)) (by rfl)
set_option maxRecDepth 20000 in
theorem q569 : (Jvm.Cond.selects "Nominator" ({ cls := "Nominator", name := "addVoter", desc := "(I)I" } : Jvm.MethodName) ({ cls := "Nominator", name := "addVoter", desc := "(I)I" } : Jvm.MethodName)) ∈ gw := gw_in (List.mem_of_getElem? (i := 569) (by rfl)) (by rfl)
set_option maxRecDepth 20000 in
theorem q570 : (Jvm.Cond.code ({ cls := "Nominator", name := "addVoter", desc := "(I)I" } : Jvm.MethodName) prog_1_method_7_code (2 : Nat) (Option.some Jvm.ClassFile.FieldType.int)) ∈ gw := gw_in (List.mem_of_getElem? (i := 570) (by rfl)) (by rfl)
set_option maxRecDepth 20000 in
theorem q571 : (Jvm.Cond.methodLink "Nominator" (79 : Nat) ({ cls := "Nominator", name := "needArea", desc := "(I)V" } : Jvm.MethodName)) ∈ gw := gw_in (List.mem_of_getElem? (i := 571) (by rfl)) (by rfl)
set_option maxRecDepth 20000 in
theorem q573 : (Jvm.Cond.instanceMethod ({ cls := "Nominator", name := "needArea", desc := "(I)V" } : Jvm.MethodName)) ∈ gw := gw_in (List.mem_of_getElem? (i := 573) (by rfl)) (by rfl)
set_option maxRecDepth 20000 in
theorem q574 : (Jvm.Cond.code ({ cls := "Nominator", name := "needArea", desc := "(I)V" } : Jvm.MethodName) prog_1_method_46_code (2 : Nat) (Option.none : Option Jvm.ClassFile.FieldType)) ∈ gw := gw_in (List.mem_of_getElem? (i := 574) (by rfl)) (by rfl)
set_option maxRecDepth 20000 in
theorem q575 : (Jvm.Cond.classLink "Nominator" (185 : Nat) "java/lang/IndexOutOfBoundsException") ∈ gw := gw_in (List.mem_of_getElem? (i := 575) (by rfl)) (by rfl)
set_option maxRecDepth 20000 in
theorem q576 : (Jvm.Cond.instantiable "java/lang/IndexOutOfBoundsException" (6 : Nat)) ∈ gw := gw_in (List.mem_of_getElem? (i := 576) (by rfl)) (by rfl)
set_option maxRecDepth 20000 in
theorem q578 : (Jvm.Cond.selects "java/lang/IndexOutOfBoundsException" ({ cls := "java/lang/Throwable", name := "fillInStackTrace", desc := "(I)Ljava/lang/Throwable;" } : Jvm.MethodName) ({ cls := "java/lang/Throwable", name := "fillInStackTrace", desc := "(I)Ljava/lang/Throwable;" } : Jvm.MethodName)) ∈ gw := gw_in (List.mem_of_getElem? (i := 578) (by rfl)) (by rfl)
set_option maxRecDepth 20000 in
theorem q579 : (Jvm.Cond.lays "java/lang/IndexOutOfBoundsException" "java/lang/Throwable" "cause" "Ljava/lang/Throwable;") ∈ gw := gw_in (List.mem_of_getElem? (i := 579) (by rfl)) (by rfl)
set_option maxRecDepth 20000 in
theorem q580 : (Jvm.Cond.lays "java/lang/IndexOutOfBoundsException" "java/lang/Throwable" "stackTrace" "[Ljava/lang/StackTraceElement;") ∈ gw := gw_in (List.mem_of_getElem? (i := 580) (by rfl)) (by rfl)
set_option maxRecDepth 20000 in
theorem q581 : (Jvm.Cond.lays "java/lang/IndexOutOfBoundsException" "java/lang/Throwable" "suppressedExceptions" "Ljava/util/List;") ∈ gw := gw_in (List.mem_of_getElem? (i := 581) (by rfl)) (by rfl)
set_option maxRecDepth 20000 in
theorem q582 : (Jvm.Cond.lays "java/lang/IndexOutOfBoundsException" "java/lang/Throwable" "detailMessage" "Ljava/lang/String;") ∈ gw := gw_in (List.mem_of_getElem? (i := 582) (by rfl)) (by rfl)
set_option maxRecDepth 20000 in
theorem q583 : (Jvm.Cond.lays "java/lang/IndexOutOfBoundsException" "java/lang/Throwable" "backtrace" "Ljava/lang/Object;") ∈ gw := gw_in (List.mem_of_getElem? (i := 583) (by rfl)) (by rfl)
set_option maxRecDepth 20000 in
theorem q585 : (Jvm.Cond.methodLink "Nominator" (189 : Nat) ({ cls := "java/lang/IndexOutOfBoundsException", name := "<init>", desc := "(Ljava/lang/String;)V" } : Jvm.MethodName)) ∈ gw := gw_in (List.mem_of_getElem? (i := 585) (by rfl)) (by rfl)
set_option maxRecDepth 20000 in
theorem q586 : (Jvm.Cond.lays "java/lang/IndexOutOfBoundsException" "java/lang/Throwable" "depth" "I") ∈ gw := gw_in (List.mem_of_getElem? (i := 586) (by rfl)) (by rfl)
set_option maxRecDepth 20000 in
theorem q589 : (Jvm.Cond.methodLink "NominatorLaw" (22 : Nat) ({ cls := "Nominator", name := "move", desc := "(II)I" } : Jvm.MethodName)) ∈ gw := gw_in (List.mem_of_getElem? (i := 589) (by rfl)) (by rfl)
set_option maxRecDepth 20000 in
theorem q590 : (Jvm.Cond.instanceMethod ({ cls := "Nominator", name := "move", desc := "(II)I" } : Jvm.MethodName)) ∈ gw := gw_in (List.mem_of_getElem? (i := 590) (by rfl)) (by rfl)
set_option maxRecDepth 20000 in
theorem q591 : (Jvm.Cond.selects "Nominator" ({ cls := "Nominator", name := "move", desc := "(II)I" } : Jvm.MethodName) ({ cls := "Nominator", name := "move", desc := "(II)I" } : Jvm.MethodName)) ∈ gw := gw_in (List.mem_of_getElem? (i := 591) (by rfl)) (by rfl)
set_option maxRecDepth 20000 in
theorem q592 : (Jvm.Cond.code ({ cls := "Nominator", name := "move", desc := "(II)I" } : Jvm.MethodName) prog_1_method_8_code (4 : Nat) (Option.some Jvm.ClassFile.FieldType.int)) ∈ gw := gw_in (List.mem_of_getElem? (i := 592) (by rfl)) (by rfl)
set_option maxRecDepth 20000 in
theorem q593 : (Jvm.Cond.methodLink "Nominator" (88 : Nat) ({ cls := "Nominator", name := "needVoter", desc := "(I)V" } : Jvm.MethodName)) ∈ gw := gw_in (List.mem_of_getElem? (i := 593) (by rfl)) (by rfl)
set_option maxRecDepth 20000 in
theorem q595 : (Jvm.Cond.instanceMethod ({ cls := "Nominator", name := "needVoter", desc := "(I)V" } : Jvm.MethodName)) ∈ gw := gw_in (List.mem_of_getElem? (i := 595) (by rfl)) (by rfl)
set_option maxRecDepth 20000 in
theorem q596 : (Jvm.Cond.code ({ cls := "Nominator", name := "needVoter", desc := "(I)V" } : Jvm.MethodName) prog_1_method_47_code (2 : Nat) (Option.none : Option Jvm.ClassFile.FieldType)) ∈ gw := gw_in (List.mem_of_getElem? (i := 596) (by rfl)) (by rfl)
set_option maxRecDepth 20000 in
theorem q598 : (Jvm.Cond.classLink "Nominator" (100 : Nat) "java/lang/UnsupportedOperationException") ∈ gw := gw_in (List.mem_of_getElem? (i := 598) (by rfl)) (by rfl)
set_option maxRecDepth 20000 in
theorem q599 : (Jvm.Cond.instantiable "java/lang/UnsupportedOperationException" (6 : Nat)) ∈ gw := gw_in (List.mem_of_getElem? (i := 599) (by rfl)) (by rfl)
set_option maxRecDepth 20000 in
theorem q601 : (Jvm.Cond.selects "java/lang/UnsupportedOperationException" ({ cls := "java/lang/Throwable", name := "fillInStackTrace", desc := "(I)Ljava/lang/Throwable;" } : Jvm.MethodName) ({ cls := "java/lang/Throwable", name := "fillInStackTrace", desc := "(I)Ljava/lang/Throwable;" } : Jvm.MethodName)) ∈ gw := gw_in (List.mem_of_getElem? (i := 601) (by rfl)) (by rfl)
set_option maxRecDepth 20000 in
theorem q602 : (Jvm.Cond.lays "java/lang/UnsupportedOperationException" "java/lang/Throwable" "cause" "Ljava/lang/Throwable;") ∈ gw := gw_in (List.mem_of_getElem? (i := 602) (by rfl)) (by rfl)
set_option maxRecDepth 20000 in
theorem q603 : (Jvm.Cond.lays "java/lang/UnsupportedOperationException" "java/lang/Throwable" "stackTrace" "[Ljava/lang/StackTraceElement;") ∈ gw := gw_in (List.mem_of_getElem? (i := 603) (by rfl)) (by rfl)
set_option maxRecDepth 20000 in
theorem q604 : (Jvm.Cond.lays "java/lang/UnsupportedOperationException" "java/lang/Throwable" "suppressedExceptions" "Ljava/util/List;") ∈ gw := gw_in (List.mem_of_getElem? (i := 604) (by rfl)) (by rfl)
set_option maxRecDepth 20000 in
theorem q605 : (Jvm.Cond.lays "java/lang/UnsupportedOperationException" "java/lang/Throwable" "detailMessage" "Ljava/lang/String;") ∈ gw := gw_in (List.mem_of_getElem? (i := 605) (by rfl)) (by rfl)
set_option maxRecDepth 20000 in
theorem q606 : (Jvm.Cond.lays "java/lang/UnsupportedOperationException" "java/lang/Throwable" "backtrace" "Ljava/lang/Object;") ∈ gw := gw_in (List.mem_of_getElem? (i := 606) (by rfl)) (by rfl)
set_option maxRecDepth 20000 in
theorem q608 : (Jvm.Cond.methodLink "Nominator" (104 : Nat) ({ cls := "java/lang/UnsupportedOperationException", name := "<init>", desc := "(Ljava/lang/String;)V" } : Jvm.MethodName)) ∈ gw := gw_in (List.mem_of_getElem? (i := 608) (by rfl)) (by rfl)
set_option maxRecDepth 20000 in
theorem q609 : (Jvm.Cond.instanceMethod ({ cls := "java/lang/UnsupportedOperationException", name := "<init>", desc := "(Ljava/lang/String;)V" } : Jvm.MethodName)) ∈ gw := gw_in (List.mem_of_getElem? (i := 609) (by rfl)) (by rfl)
set_option maxRecDepth 20000 in
theorem q610 : (Jvm.Cond.code ({ cls := "java/lang/UnsupportedOperationException", name := "<init>", desc := "(Ljava/lang/String;)V" } : Jvm.MethodName) prog_24_method_2_code (2 : Nat) (Option.none : Option Jvm.ClassFile.FieldType)) ∈ gw := gw_in (List.mem_of_getElem? (i := 610) (by rfl)) (by rfl)
set_option maxRecDepth 20000 in
theorem q611 : (Jvm.Cond.methodLink "java/lang/UnsupportedOperationException" (7 : Nat) ({ cls := "java/lang/RuntimeException", name := "<init>", desc := "(Ljava/lang/String;)V" } : Jvm.MethodName)) ∈ gw := gw_in (List.mem_of_getElem? (i := 611) (by rfl)) (by rfl)
set_option maxRecDepth 20000 in
theorem q612 : (Jvm.Cond.lays "java/lang/UnsupportedOperationException" "java/lang/Throwable" "depth" "I") ∈ gw := gw_in (List.mem_of_getElem? (i := 612) (by rfl)) (by rfl)
set_option maxRecDepth 20000 in
theorem q614 : (Jvm.Cond.methodLink "NominatorLaw" (25 : Nat) ({ cls := "Nominator", name := "strike", desc := "(I)I" } : Jvm.MethodName)) ∈ gw := gw_in (List.mem_of_getElem? (i := 614) (by rfl)) (by rfl)
set_option maxRecDepth 20000 in
theorem q615 : (Jvm.Cond.instanceMethod ({ cls := "Nominator", name := "strike", desc := "(I)I" } : Jvm.MethodName)) ∈ gw := gw_in (List.mem_of_getElem? (i := 615) (by rfl)) (by rfl)
set_option maxRecDepth 20000 in
theorem q616 : (Jvm.Cond.selects "Nominator" ({ cls := "Nominator", name := "strike", desc := "(I)I" } : Jvm.MethodName) ({ cls := "Nominator", name := "strike", desc := "(I)I" } : Jvm.MethodName)) ∈ gw := gw_in (List.mem_of_getElem? (i := 616) (by rfl)) (by rfl)
set_option maxRecDepth 20000 in
theorem q617 : (Jvm.Cond.code ({ cls := "Nominator", name := "strike", desc := "(I)I" } : Jvm.MethodName) prog_1_method_9_code (2 : Nat) (Option.some Jvm.ClassFile.FieldType.int)) ∈ gw := gw_in (List.mem_of_getElem? (i := 617) (by rfl)) (by rfl)
set_option maxRecDepth 20000 in
theorem q619 : (Jvm.Cond.methodLink "Nominator" (111 : Nat) ({ cls := "Nominator$Roll", name := "countOnRoll", desc := "()I" } : Jvm.MethodName)) ∈ gw := gw_in (List.mem_of_getElem? (i := 619) (by rfl)) (by rfl)
set_option maxRecDepth 20000 in
theorem q620 : (Jvm.Cond.instanceMethod ({ cls := "Nominator$Roll", name := "countOnRoll", desc := "()I" } : Jvm.MethodName)) ∈ gw := gw_in (List.mem_of_getElem? (i := 620) (by rfl)) (by rfl)
set_option maxRecDepth 20000 in
theorem q621 : (Jvm.Cond.selects "Nominator$Roll" ({ cls := "Nominator$Roll", name := "countOnRoll", desc := "()I" } : Jvm.MethodName) ({ cls := "Nominator$Roll", name := "countOnRoll", desc := "()I" } : Jvm.MethodName)) ∈ gw := gw_in (List.mem_of_getElem? (i := 621) (by rfl)) (by rfl)
set_option maxRecDepth 20000 in
theorem q622 : (Jvm.Cond.code ({ cls := "Nominator$Roll", name := "countOnRoll", desc := "()I" } : Jvm.MethodName) prog_8_method_5_code (3 : Nat) (Option.some Jvm.ClassFile.FieldType.int)) ∈ gw := gw_in (List.mem_of_getElem? (i := 622) (by rfl)) (by rfl)
set_option maxRecDepth 20000 in
theorem q623 : (Jvm.Cond.methodLink "NominatorLaw" (28 : Nat) ({ cls := "Nominator", name := "restore", desc := "(I)I" } : Jvm.MethodName)) ∈ gw := gw_in (List.mem_of_getElem? (i := 623) (by rfl)) (by rfl)
set_option maxRecDepth 20000 in
theorem q624 : (Jvm.Cond.instanceMethod ({ cls := "Nominator", name := "restore", desc := "(I)I" } : Jvm.MethodName)) ∈ gw := gw_in (List.mem_of_getElem? (i := 624) (by rfl)) (by rfl)
set_option maxRecDepth 20000 in
theorem q625 : (Jvm.Cond.selects "Nominator" ({ cls := "Nominator", name := "restore", desc := "(I)I" } : Jvm.MethodName) ({ cls := "Nominator", name := "restore", desc := "(I)I" } : Jvm.MethodName)) ∈ gw := gw_in (List.mem_of_getElem? (i := 625) (by rfl)) (by rfl)
set_option maxRecDepth 20000 in
theorem q626 : (Jvm.Cond.code ({ cls := "Nominator", name := "restore", desc := "(I)I" } : Jvm.MethodName) prog_1_method_10_code (2 : Nat) (Option.some Jvm.ClassFile.FieldType.int)) ∈ gw := gw_in (List.mem_of_getElem? (i := 626) (by rfl)) (by rfl)
set_option maxRecDepth 20000 in
theorem q628 : (Jvm.Cond.methodLink "NominatorLaw" (31 : Nat) ({ cls := "Nominator", name := "sign", desc := "(II)I" } : Jvm.MethodName)) ∈ gw := gw_in (List.mem_of_getElem? (i := 628) (by rfl)) (by rfl)
set_option maxRecDepth 20000 in
theorem q629 : (Jvm.Cond.instanceMethod ({ cls := "Nominator", name := "sign", desc := "(II)I" } : Jvm.MethodName)) ∈ gw := gw_in (List.mem_of_getElem? (i := 629) (by rfl)) (by rfl)
set_option maxRecDepth 20000 in
theorem q630 : (Jvm.Cond.selects "Nominator" ({ cls := "Nominator", name := "sign", desc := "(II)I" } : Jvm.MethodName) ({ cls := "Nominator", name := "sign", desc := "(II)I" } : Jvm.MethodName)) ∈ gw := gw_in (List.mem_of_getElem? (i := 630) (by rfl)) (by rfl)
set_option maxRecDepth 20000 in
theorem q631 : (Jvm.Cond.code ({ cls := "Nominator", name := "sign", desc := "(II)I" } : Jvm.MethodName) prog_1_method_14_code (3 : Nat) (Option.some Jvm.ClassFile.FieldType.int)) ∈ gw := gw_in (List.mem_of_getElem? (i := 631) (by rfl)) (by rfl)
set_option maxRecDepth 20000 in
theorem q632 : (Jvm.Cond.methodLink "Nominator" (132 : Nat) ({ cls := "Nominator", name := "needPaper", desc := "(I)V" } : Jvm.MethodName)) ∈ gw := gw_in (List.mem_of_getElem? (i := 632) (by rfl)) (by rfl)
set_option maxRecDepth 20000 in
theorem q634 : (Jvm.Cond.instanceMethod ({ cls := "Nominator", name := "needPaper", desc := "(I)V" } : Jvm.MethodName)) ∈ gw := gw_in (List.mem_of_getElem? (i := 634) (by rfl)) (by rfl)
set_option maxRecDepth 20000 in
theorem q635 : (Jvm.Cond.code ({ cls := "Nominator", name := "needPaper", desc := "(I)V" } : Jvm.MethodName) prog_1_method_48_code (2 : Nat) (Option.none : Option Jvm.ClassFile.FieldType)) ∈ gw := gw_in (List.mem_of_getElem? (i := 635) (by rfl)) (by rfl)
set_option maxRecDepth 20000 in
theorem q637 : (Jvm.Cond.methodLink "Nominator" (123 : Nat) ({ cls := "Nominator", name := "needOpen", desc := "()V" } : Jvm.MethodName)) ∈ gw := gw_in (List.mem_of_getElem? (i := 637) (by rfl)) (by rfl)
set_option maxRecDepth 20000 in
theorem q639 : (Jvm.Cond.instanceMethod ({ cls := "Nominator", name := "needOpen", desc := "()V" } : Jvm.MethodName)) ∈ gw := gw_in (List.mem_of_getElem? (i := 639) (by rfl)) (by rfl)
set_option maxRecDepth 20000 in
theorem q640 : (Jvm.Cond.code ({ cls := "Nominator", name := "needOpen", desc := "()V" } : Jvm.MethodName) prog_1_method_51_code (1 : Nat) (Option.none : Option Jvm.ClassFile.FieldType)) ∈ gw := gw_in (List.mem_of_getElem? (i := 640) (by rfl)) (by rfl)
set_option maxRecDepth 20000 in
theorem q642 : (Jvm.Cond.methodLink "Nominator" (135 : Nat) ({ cls := "Nominator", name := "needNotWithdrawn", desc := "(I)V" } : Jvm.MethodName)) ∈ gw := gw_in (List.mem_of_getElem? (i := 642) (by rfl)) (by rfl)
set_option maxRecDepth 20000 in
theorem q644 : (Jvm.Cond.instanceMethod ({ cls := "Nominator", name := "needNotWithdrawn", desc := "(I)V" } : Jvm.MethodName)) ∈ gw := gw_in (List.mem_of_getElem? (i := 644) (by rfl)) (by rfl)
set_option maxRecDepth 20000 in
theorem q645 : (Jvm.Cond.code ({ cls := "Nominator", name := "needNotWithdrawn", desc := "(I)V" } : Jvm.MethodName) prog_1_method_52_code (2 : Nat) (Option.none : Option Jvm.ClassFile.FieldType)) ∈ gw := gw_in (List.mem_of_getElem? (i := 645) (by rfl)) (by rfl)
set_option maxRecDepth 20000 in
theorem q646 : (Jvm.Cond.methodLink "Nominator" (367 : Nat) ({ cls := "Nominator$Office", name := "isWithdrawn", desc := "(I)Z" } : Jvm.MethodName)) ∈ gw := gw_in (List.mem_of_getElem? (i := 646) (by rfl)) (by rfl)
set_option maxRecDepth 20000 in
theorem q649 : (Jvm.Cond.methodLink "NominatorLaw" (34 : Nat) ({ cls := "Nominator", name := "pay", desc := "(II)I" } : Jvm.MethodName)) ∈ gw := gw_in (List.mem_of_getElem? (i := 649) (by rfl)) (by rfl)
set_option maxRecDepth 20000 in
theorem q650 : (Jvm.Cond.instanceMethod ({ cls := "Nominator", name := "pay", desc := "(II)I" } : Jvm.MethodName)) ∈ gw := gw_in (List.mem_of_getElem? (i := 650) (by rfl)) (by rfl)
set_option maxRecDepth 20000 in
theorem q651 : (Jvm.Cond.selects "Nominator" ({ cls := "Nominator", name := "pay", desc := "(II)I" } : Jvm.MethodName) ({ cls := "Nominator", name := "pay", desc := "(II)I" } : Jvm.MethodName)) ∈ gw := gw_in (List.mem_of_getElem? (i := 651) (by rfl)) (by rfl)
set_option maxRecDepth 20000 in
theorem q652 : (Jvm.Cond.code ({ cls := "Nominator", name := "pay", desc := "(II)I" } : Jvm.MethodName) prog_1_method_15_code (3 : Nat) (Option.some Jvm.ClassFile.FieldType.int)) ∈ gw := gw_in (List.mem_of_getElem? (i := 652) (by rfl)) (by rfl)
set_option maxRecDepth 20000 in
theorem q654 : (Jvm.Cond.methodLink "NominatorLaw" (37 : Nat) ({ cls := "Nominator", name := "withdraw", desc := "(I)I" } : Jvm.MethodName)) ∈ gw := gw_in (List.mem_of_getElem? (i := 654) (by rfl)) (by rfl)
set_option maxRecDepth 20000 in
theorem q655 : (Jvm.Cond.instanceMethod ({ cls := "Nominator", name := "withdraw", desc := "(I)I" } : Jvm.MethodName)) ∈ gw := gw_in (List.mem_of_getElem? (i := 655) (by rfl)) (by rfl)
set_option maxRecDepth 20000 in
theorem q656 : (Jvm.Cond.selects "Nominator" ({ cls := "Nominator", name := "withdraw", desc := "(I)I" } : Jvm.MethodName) ({ cls := "Nominator", name := "withdraw", desc := "(I)I" } : Jvm.MethodName)) ∈ gw := gw_in (List.mem_of_getElem? (i := 656) (by rfl)) (by rfl)
set_option maxRecDepth 20000 in
theorem q657 : (Jvm.Cond.code ({ cls := "Nominator", name := "withdraw", desc := "(I)I" } : Jvm.MethodName) prog_1_method_16_code (3 : Nat) (Option.some Jvm.ClassFile.FieldType.int)) ∈ gw := gw_in (List.mem_of_getElem? (i := 657) (by rfl)) (by rfl)
set_option maxRecDepth 20000 in
theorem q658 : (Jvm.Cond.methodLink "Nominator" (154 : Nat) ({ cls := "Nominator", name := "needNotRejected", desc := "(I)V" } : Jvm.MethodName)) ∈ gw := gw_in (List.mem_of_getElem? (i := 658) (by rfl)) (by rfl)
set_option maxRecDepth 20000 in
theorem q660 : (Jvm.Cond.instanceMethod ({ cls := "Nominator", name := "needNotRejected", desc := "(I)V" } : Jvm.MethodName)) ∈ gw := gw_in (List.mem_of_getElem? (i := 660) (by rfl)) (by rfl)
set_option maxRecDepth 20000 in
theorem q661 : (Jvm.Cond.code ({ cls := "Nominator", name := "needNotRejected", desc := "(I)V" } : Jvm.MethodName) prog_1_method_53_code (2 : Nat) (Option.none : Option Jvm.ClassFile.FieldType)) ∈ gw := gw_in (List.mem_of_getElem? (i := 661) (by rfl)) (by rfl)
set_option maxRecDepth 20000 in
theorem q662 : (Jvm.Cond.methodLink "Nominator" (372 : Nat) ({ cls := "Nominator$Office", name := "isRejected", desc := "(I)Z" } : Jvm.MethodName)) ∈ gw := gw_in (List.mem_of_getElem? (i := 662) (by rfl)) (by rfl)
set_option maxRecDepth 20000 in
theorem q663 : (Jvm.Cond.instanceMethod ({ cls := "Nominator$Office", name := "isRejected", desc := "(I)Z" } : Jvm.MethodName)) ∈ gw := gw_in (List.mem_of_getElem? (i := 663) (by rfl)) (by rfl)
set_option maxRecDepth 20000 in
theorem q664 : (Jvm.Cond.selects "Nominator$Office" ({ cls := "Nominator$Office", name := "isRejected", desc := "(I)Z" } : Jvm.MethodName) ({ cls := "Nominator$Office", name := "isRejected", desc := "(I)Z" } : Jvm.MethodName)) ∈ gw := gw_in (List.mem_of_getElem? (i := 664) (by rfl)) (by rfl)
set_option maxRecDepth 20000 in
theorem q665 : (Jvm.Cond.code ({ cls := "Nominator$Office", name := "isRejected", desc := "(I)Z" } : Jvm.MethodName) prog_6_method_13_code (3 : Nat) (Option.some Jvm.ClassFile.FieldType.boolean)) ∈ gw := gw_in (List.mem_of_getElem? (i := 665) (by rfl)) (by rfl)
set_option maxRecDepth 20000 in
theorem q667 : (Jvm.Cond.methodLink "Nominator" (157 : Nat) ({ cls := "Nominator$Calendar", name := "allowsChanges", desc := "()Z" } : Jvm.MethodName)) ∈ gw := gw_in (List.mem_of_getElem? (i := 667) (by rfl)) (by rfl)
set_option maxRecDepth 20000 in
theorem q668 : (Jvm.Cond.instanceMethod ({ cls := "Nominator$Calendar", name := "allowsChanges", desc := "()Z" } : Jvm.MethodName)) ∈ gw := gw_in (List.mem_of_getElem? (i := 668) (by rfl)) (by rfl)
set_option maxRecDepth 20000 in
theorem q669 : (Jvm.Cond.selects "Nominator$Calendar" ({ cls := "Nominator$Calendar", name := "allowsChanges", desc := "()Z" } : Jvm.MethodName) ({ cls := "Nominator$Calendar", name := "allowsChanges", desc := "()Z" } : Jvm.MethodName)) ∈ gw := gw_in (List.mem_of_getElem? (i := 669) (by rfl)) (by rfl)
set_option maxRecDepth 20000 in
theorem q670 : (Jvm.Cond.code ({ cls := "Nominator$Calendar", name := "allowsChanges", desc := "()Z" } : Jvm.MethodName) prog_3_method_5_code (1 : Nat) (Option.some Jvm.ClassFile.FieldType.boolean)) ∈ gw := gw_in (List.mem_of_getElem? (i := 670) (by rfl)) (by rfl)
set_option maxRecDepth 20000 in
theorem q672 : (Jvm.Cond.methodLink "Nominator" (162 : Nat) ({ cls := "Nominator$Office", name := "countOfOthers", desc := "(I)I" } : Jvm.MethodName)) ∈ gw := gw_in (List.mem_of_getElem? (i := 672) (by rfl)) (by rfl)
set_option maxRecDepth 20000 in
theorem q673 : (Jvm.Cond.instanceMethod ({ cls := "Nominator$Office", name := "countOfOthers", desc := "(I)I" } : Jvm.MethodName)) ∈ gw := gw_in (List.mem_of_getElem? (i := 673) (by rfl)) (by rfl)
set_option maxRecDepth 20000 in
theorem q674 : (Jvm.Cond.selects "Nominator$Office" ({ cls := "Nominator$Office", name := "countOfOthers", desc := "(I)I" } : Jvm.MethodName) ({ cls := "Nominator$Office", name := "countOfOthers", desc := "(I)I" } : Jvm.MethodName)) ∈ gw := gw_in (List.mem_of_getElem? (i := 674) (by rfl)) (by rfl)
set_option maxRecDepth 20000 in
theorem q675 : (Jvm.Cond.code ({ cls := "Nominator$Office", name := "countOfOthers", desc := "(I)I" } : Jvm.MethodName) prog_6_method_16_code (4 : Nat) (Option.some Jvm.ClassFile.FieldType.int)) ∈ gw := gw_in (List.mem_of_getElem? (i := 675) (by rfl)) (by rfl)
set_option maxRecDepth 20000 in
theorem q676 : (Jvm.Cond.methodLink "NominatorLaw" (40 : Nat) ({ cls := "Nominator", name := "die", desc := "(I)Z" } : Jvm.MethodName)) ∈ gw := gw_in (List.mem_of_getElem? (i := 676) (by rfl)) (by rfl)
set_option maxRecDepth 20000 in
theorem q677 : (Jvm.Cond.instanceMethod ({ cls := "Nominator", name := "die", desc := "(I)Z" } : Jvm.MethodName)) ∈ gw := gw_in (List.mem_of_getElem? (i := 677) (by rfl)) (by rfl)
set_option maxRecDepth 20000 in
theorem q678 : (Jvm.Cond.selects "Nominator" ({ cls := "Nominator", name := "die", desc := "(I)Z" } : Jvm.MethodName) ({ cls := "Nominator", name := "die", desc := "(I)Z" } : Jvm.MethodName)) ∈ gw := gw_in (List.mem_of_getElem? (i := 678) (by rfl)) (by rfl)
set_option maxRecDepth 20000 in
theorem q679 : (Jvm.Cond.code ({ cls := "Nominator", name := "die", desc := "(I)Z" } : Jvm.MethodName) prog_1_method_17_code (2 : Nat) (Option.some Jvm.ClassFile.FieldType.boolean)) ∈ gw := gw_in (List.mem_of_getElem? (i := 679) (by rfl)) (by rfl)
set_option maxRecDepth 20000 in
theorem q681 : (Jvm.Cond.methodLink "Nominator" (171 : Nat) ({ cls := "Nominator$Calendar", name := "isPollingOpen", desc := "()Z" } : Jvm.MethodName)) ∈ gw := gw_in (List.mem_of_getElem? (i := 681) (by rfl)) (by rfl)
set_option maxRecDepth 20000 in
theorem q682 : (Jvm.Cond.instanceMethod ({ cls := "Nominator$Calendar", name := "isPollingOpen", desc := "()Z" } : Jvm.MethodName)) ∈ gw := gw_in (List.mem_of_getElem? (i := 682) (by rfl)) (by rfl)
set_option maxRecDepth 20000 in
theorem q683 : (Jvm.Cond.selects "Nominator$Calendar" ({ cls := "Nominator$Calendar", name := "isPollingOpen", desc := "()Z" } : Jvm.MethodName) ({ cls := "Nominator$Calendar", name := "isPollingOpen", desc := "()Z" } : Jvm.MethodName)) ∈ gw := gw_in (List.mem_of_getElem? (i := 683) (by rfl)) (by rfl)
set_option maxRecDepth 20000 in
theorem q684 : (Jvm.Cond.code ({ cls := "Nominator$Calendar", name := "isPollingOpen", desc := "()Z" } : Jvm.MethodName) prog_3_method_6_code (1 : Nat) (Option.some Jvm.ClassFile.FieldType.boolean)) ∈ gw := gw_in (List.mem_of_getElem? (i := 684) (by rfl)) (by rfl)
set_option maxRecDepth 20000 in
theorem q686 : (Jvm.Cond.methodLink "Nominator" (176 : Nat) ({ cls := "Nominator$Office", name := "canReplace", desc := "(I)Z" } : Jvm.MethodName)) ∈ gw := gw_in (List.mem_of_getElem? (i := 686) (by rfl)) (by rfl)
set_option maxRecDepth 20000 in
theorem q687 : (Jvm.Cond.instanceMethod ({ cls := "Nominator$Office", name := "canReplace", desc := "(I)Z" } : Jvm.MethodName)) ∈ gw := gw_in (List.mem_of_getElem? (i := 687) (by rfl)) (by rfl)
set_option maxRecDepth 20000 in
theorem q688 : (Jvm.Cond.selects "Nominator$Office" ({ cls := "Nominator$Office", name := "canReplace", desc := "(I)Z" } : Jvm.MethodName) ({ cls := "Nominator$Office", name := "canReplace", desc := "(I)Z" } : Jvm.MethodName)) ∈ gw := gw_in (List.mem_of_getElem? (i := 688) (by rfl)) (by rfl)
set_option maxRecDepth 20000 in
theorem q689 : (Jvm.Cond.code ({ cls := "Nominator$Office", name := "canReplace", desc := "(I)Z" } : Jvm.MethodName) prog_6_method_14_code (3 : Nat) (Option.some Jvm.ClassFile.FieldType.boolean)) ∈ gw := gw_in (List.mem_of_getElem? (i := 689) (by rfl)) (by rfl)
set_option maxRecDepth 20000 in
theorem q690 : (Jvm.Cond.methodLink "Nominator$Office" (196 : Nat) ({ cls := "Nominator$Office", name := "isRejected", desc := "(I)Z" } : Jvm.MethodName)) ∈ gw := gw_in (List.mem_of_getElem? (i := 690) (by rfl)) (by rfl)
set_option maxRecDepth 20000 in
theorem q691 : (Jvm.Cond.methodLink "Nominator$Office" (202 : Nat) ({ cls := "Nominator$Calendar", name := "allowsChanges", desc := "()Z" } : Jvm.MethodName)) ∈ gw := gw_in (List.mem_of_getElem? (i := 691) (by rfl)) (by rfl)
set_option maxRecDepth 20000 in
theorem q692 : (Jvm.Cond.methodLink "NominatorLaw" (44 : Nat) ({ cls := "Nominator", name := "isReplaceable", desc := "(I)Z" } : Jvm.MethodName)) ∈ gw := gw_in (List.mem_of_getElem? (i := 692) (by rfl)) (by rfl)
set_option maxRecDepth 20000 in
theorem q693 : (Jvm.Cond.instanceMethod ({ cls := "Nominator", name := "isReplaceable", desc := "(I)Z" } : Jvm.MethodName)) ∈ gw := gw_in (List.mem_of_getElem? (i := 693) (by rfl)) (by rfl)
set_option maxRecDepth 20000 in
theorem q694 : (Jvm.Cond.selects "Nominator" ({ cls := "Nominator", name := "isReplaceable", desc := "(I)Z" } : Jvm.MethodName) ({ cls := "Nominator", name := "isReplaceable", desc := "(I)Z" } : Jvm.MethodName)) ∈ gw := gw_in (List.mem_of_getElem? (i := 694) (by rfl)) (by rfl)
set_option maxRecDepth 20000 in
theorem q695 : (Jvm.Cond.code ({ cls := "Nominator", name := "isReplaceable", desc := "(I)Z" } : Jvm.MethodName) prog_1_method_19_code (2 : Nat) (Option.some Jvm.ClassFile.FieldType.boolean)) ∈ gw := gw_in (List.mem_of_getElem? (i := 695) (by rfl)) (by rfl)
set_option maxRecDepth 20000 in
theorem q696 : (Jvm.Cond.methodLink "NominatorLaw" (47 : Nat) ({ cls := "Nominator", name := "counted", desc := "(I)I" } : Jvm.MethodName)) ∈ gw := gw_in (List.mem_of_getElem? (i := 696) (by rfl)) (by rfl)
set_option maxRecDepth 20000 in
theorem q697 : (Jvm.Cond.instanceMethod ({ cls := "Nominator", name := "counted", desc := "(I)I" } : Jvm.MethodName)) ∈ gw := gw_in (List.mem_of_getElem? (i := 697) (by rfl)) (by rfl)
set_option maxRecDepth 20000 in
theorem q698 : (Jvm.Cond.selects "Nominator" ({ cls := "Nominator", name := "counted", desc := "(I)I" } : Jvm.MethodName) ({ cls := "Nominator", name := "counted", desc := "(I)I" } : Jvm.MethodName)) ∈ gw := gw_in (List.mem_of_getElem? (i := 698) (by rfl)) (by rfl)
set_option maxRecDepth 20000 in
theorem q699 : (Jvm.Cond.code ({ cls := "Nominator", name := "counted", desc := "(I)I" } : Jvm.MethodName) prog_1_method_22_code (2 : Nat) (Option.some Jvm.ClassFile.FieldType.int)) ∈ gw := gw_in (List.mem_of_getElem? (i := 699) (by rfl)) (by rfl)
set_option maxRecDepth 20000 in
theorem q700 : (Jvm.Cond.methodLink "NominatorLaw" (50 : Nat) ({ cls := "Nominator", name := "signatureResult", desc := "(I)I" } : Jvm.MethodName)) ∈ gw := gw_in (List.mem_of_getElem? (i := 700) (by rfl)) (by rfl)
set_option maxRecDepth 20000 in
theorem q701 : (Jvm.Cond.instanceMethod ({ cls := "Nominator", name := "signatureResult", desc := "(I)I" } : Jvm.MethodName)) ∈ gw := gw_in (List.mem_of_getElem? (i := 701) (by rfl)) (by rfl)
set_option maxRecDepth 20000 in
theorem q702 : (Jvm.Cond.selects "Nominator" ({ cls := "Nominator", name := "signatureResult", desc := "(I)I" } : Jvm.MethodName) ({ cls := "Nominator", name := "signatureResult", desc := "(I)I" } : Jvm.MethodName)) ∈ gw := gw_in (List.mem_of_getElem? (i := 702) (by rfl)) (by rfl)
set_option maxRecDepth 20000 in
theorem q703 : (Jvm.Cond.code ({ cls := "Nominator", name := "signatureResult", desc := "(I)I" } : Jvm.MethodName) prog_1_method_23_code (2 : Nat) (Option.some Jvm.ClassFile.FieldType.int)) ∈ gw := gw_in (List.mem_of_getElem? (i := 703) (by rfl)) (by rfl)
set_option maxRecDepth 20000 in
theorem q705 : (Jvm.Cond.methodLink "NominatorLaw" (53 : Nat) ({ cls := "Nominator", name := "wouldCount", desc := "(II)Z" } : Jvm.MethodName)) ∈ gw := gw_in (List.mem_of_getElem? (i := 705) (by rfl)) (by rfl)
set_option maxRecDepth 20000 in
theorem q706 : (Jvm.Cond.instanceMethod ({ cls := "Nominator", name := "wouldCount", desc := "(II)Z" } : Jvm.MethodName)) ∈ gw := gw_in (List.mem_of_getElem? (i := 706) (by rfl)) (by rfl)
set_option maxRecDepth 20000 in
theorem q707 : (Jvm.Cond.selects "Nominator" ({ cls := "Nominator", name := "wouldCount", desc := "(II)Z" } : Jvm.MethodName) ({ cls := "Nominator", name := "wouldCount", desc := "(II)Z" } : Jvm.MethodName)) ∈ gw := gw_in (List.mem_of_getElem? (i := 707) (by rfl)) (by rfl)
set_option maxRecDepth 20000 in
theorem q708 : (Jvm.Cond.code ({ cls := "Nominator", name := "wouldCount", desc := "(II)Z" } : Jvm.MethodName) prog_1_method_24_code (3 : Nat) (Option.some Jvm.ClassFile.FieldType.boolean)) ∈ gw := gw_in (List.mem_of_getElem? (i := 708) (by rfl)) (by rfl)
set_option maxRecDepth 20000 in
theorem q709 : (Jvm.Cond.methodLink "Nominator" (211 : Nat) ({ cls := "Nominator$Office", name := "wouldSupport", desc := "(II)Z" } : Jvm.MethodName)) ∈ gw := gw_in (List.mem_of_getElem? (i := 709) (by rfl)) (by rfl)
set_option maxRecDepth 20000 in
theorem q710 : (Jvm.Cond.instanceMethod ({ cls := "Nominator$Office", name := "wouldSupport", desc := "(II)Z" } : Jvm.MethodName)) ∈ gw := gw_in (List.mem_of_getElem? (i := 710) (by rfl)) (by rfl)
set_option maxRecDepth 20000 in
theorem q711 : (Jvm.Cond.selects "Nominator$Office" ({ cls := "Nominator$Office", name := "wouldSupport", desc := "(II)Z" } : Jvm.MethodName) ({ cls := "Nominator$Office", name := "wouldSupport", desc := "(II)Z" } : Jvm.MethodName)) ∈ gw := gw_in (List.mem_of_getElem? (i := 711) (by rfl)) (by rfl)
set_option maxRecDepth 20000 in
theorem q712 : (Jvm.Cond.code ({ cls := "Nominator$Office", name := "wouldSupport", desc := "(II)Z" } : Jvm.MethodName) prog_6_method_17_code (4 : Nat) (Option.some Jvm.ClassFile.FieldType.boolean)) ∈ gw := gw_in (List.mem_of_getElem? (i := 712) (by rfl)) (by rfl)
set_option maxRecDepth 20000 in
theorem q713 : (Jvm.Cond.methodLink "NominatorLaw" (57 : Nat) ({ cls := "Nominator", name := "paperOf", desc := "(I)I" } : Jvm.MethodName)) ∈ gw := gw_in (List.mem_of_getElem? (i := 713) (by rfl)) (by rfl)
set_option maxRecDepth 20000 in
theorem q714 : (Jvm.Cond.instanceMethod ({ cls := "Nominator", name := "paperOf", desc := "(I)I" } : Jvm.MethodName)) ∈ gw := gw_in (List.mem_of_getElem? (i := 714) (by rfl)) (by rfl)
set_option maxRecDepth 20000 in
theorem q715 : (Jvm.Cond.selects "Nominator" ({ cls := "Nominator", name := "paperOf", desc := "(I)I" } : Jvm.MethodName) ({ cls := "Nominator", name := "paperOf", desc := "(I)I" } : Jvm.MethodName)) ∈ gw := gw_in (List.mem_of_getElem? (i := 715) (by rfl)) (by rfl)
set_option maxRecDepth 20000 in
theorem q716 : (Jvm.Cond.code ({ cls := "Nominator", name := "paperOf", desc := "(I)I" } : Jvm.MethodName) prog_1_method_25_code (3 : Nat) (Option.some Jvm.ClassFile.FieldType.int)) ∈ gw := gw_in (List.mem_of_getElem? (i := 716) (by rfl)) (by rfl)
set_option maxRecDepth 20000 in
theorem q717 : (Jvm.Cond.methodLink "Nominator" (215 : Nat) ({ cls := "Nominator$Office", name := "supportedBy", desc := "(I)I" } : Jvm.MethodName)) ∈ gw := gw_in (List.mem_of_getElem? (i := 717) (by rfl)) (by rfl)
set_option maxRecDepth 20000 in
theorem q718 : (Jvm.Cond.instanceMethod ({ cls := "Nominator$Office", name := "supportedBy", desc := "(I)I" } : Jvm.MethodName)) ∈ gw := gw_in (List.mem_of_getElem? (i := 718) (by rfl)) (by rfl)
set_option maxRecDepth 20000 in
theorem q719 : (Jvm.Cond.selects "Nominator$Office" ({ cls := "Nominator$Office", name := "supportedBy", desc := "(I)I" } : Jvm.MethodName) ({ cls := "Nominator$Office", name := "supportedBy", desc := "(I)I" } : Jvm.MethodName)) ∈ gw := gw_in (List.mem_of_getElem? (i := 719) (by rfl)) (by rfl)
set_option maxRecDepth 20000 in
theorem q720 : (Jvm.Cond.code ({ cls := "Nominator$Office", name := "supportedBy", desc := "(I)I" } : Jvm.MethodName) prog_6_method_18_code (3 : Nat) (Option.some Jvm.ClassFile.FieldType.int)) ∈ gw := gw_in (List.mem_of_getElem? (i := 720) (by rfl)) (by rfl)
set_option maxRecDepth 20000 in
theorem q721 : (Jvm.Cond.classLink "Nominator" (218 : Nat) "java/util/NoSuchElementException") ∈ gw := gw_in (List.mem_of_getElem? (i := 721) (by rfl)) (by rfl)
set_option maxRecDepth 20000 in
theorem q722 : (Jvm.Cond.instantiable "java/util/NoSuchElementException" (6 : Nat)) ∈ gw := gw_in (List.mem_of_getElem? (i := 722) (by rfl)) (by rfl)
set_option maxRecDepth 20000 in
theorem q724 : (Jvm.Cond.selects "java/util/NoSuchElementException" ({ cls := "java/lang/Throwable", name := "fillInStackTrace", desc := "(I)Ljava/lang/Throwable;" } : Jvm.MethodName) ({ cls := "java/lang/Throwable", name := "fillInStackTrace", desc := "(I)Ljava/lang/Throwable;" } : Jvm.MethodName)) ∈ gw := gw_in (List.mem_of_getElem? (i := 724) (by rfl)) (by rfl)
set_option maxRecDepth 20000 in
theorem q725 : (Jvm.Cond.lays "java/util/NoSuchElementException" "java/lang/Throwable" "cause" "Ljava/lang/Throwable;") ∈ gw := gw_in (List.mem_of_getElem? (i := 725) (by rfl)) (by rfl)
set_option maxRecDepth 20000 in
theorem q726 : (Jvm.Cond.lays "java/util/NoSuchElementException" "java/lang/Throwable" "stackTrace" "[Ljava/lang/StackTraceElement;") ∈ gw := gw_in (List.mem_of_getElem? (i := 726) (by rfl)) (by rfl)
set_option maxRecDepth 20000 in
theorem q727 : (Jvm.Cond.lays "java/util/NoSuchElementException" "java/lang/Throwable" "suppressedExceptions" "Ljava/util/List;") ∈ gw := gw_in (List.mem_of_getElem? (i := 727) (by rfl)) (by rfl)
set_option maxRecDepth 20000 in
theorem q728 : (Jvm.Cond.lays "java/util/NoSuchElementException" "java/lang/Throwable" "detailMessage" "Ljava/lang/String;") ∈ gw := gw_in (List.mem_of_getElem? (i := 728) (by rfl)) (by rfl)
set_option maxRecDepth 20000 in
theorem q729 : (Jvm.Cond.lays "java/util/NoSuchElementException" "java/lang/Throwable" "backtrace" "Ljava/lang/Object;") ∈ gw := gw_in (List.mem_of_getElem? (i := 729) (by rfl)) (by rfl)
set_option maxRecDepth 20000 in
theorem q731 : (Jvm.Cond.methodLink "Nominator" (222 : Nat) ({ cls := "java/util/NoSuchElementException", name := "<init>", desc := "(Ljava/lang/String;)V" } : Jvm.MethodName)) ∈ gw := gw_in (List.mem_of_getElem? (i := 731) (by rfl)) (by rfl)
set_option maxRecDepth 20000 in
theorem q732 : (Jvm.Cond.instanceMethod ({ cls := "java/util/NoSuchElementException", name := "<init>", desc := "(Ljava/lang/String;)V" } : Jvm.MethodName)) ∈ gw := gw_in (List.mem_of_getElem? (i := 732) (by rfl)) (by rfl)
set_option maxRecDepth 20000 in
theorem q733 : (Jvm.Cond.code ({ cls := "java/util/NoSuchElementException", name := "<init>", desc := "(Ljava/lang/String;)V" } : Jvm.MethodName) prog_25_method_4_code (2 : Nat) (Option.none : Option Jvm.ClassFile.FieldType)) ∈ gw := gw_in (List.mem_of_getElem? (i := 733) (by rfl)) (by rfl)
set_option maxRecDepth 20000 in
theorem q734 : (Jvm.Cond.methodLink "java/util/NoSuchElementException" (13 : Nat) ({ cls := "java/lang/RuntimeException", name := "<init>", desc := "(Ljava/lang/String;)V" } : Jvm.MethodName)) ∈ gw := gw_in (List.mem_of_getElem? (i := 734) (by rfl)) (by rfl)
set_option maxRecDepth 20000 in
theorem q735 : (Jvm.Cond.lays "java/util/NoSuchElementException" "java/lang/Throwable" "depth" "I") ∈ gw := gw_in (List.mem_of_getElem? (i := 735) (by rfl)) (by rfl)
set_option maxRecDepth 20000 in
theorem q737 : (Jvm.Cond.methodLink "NominatorLaw" (60 : Nat) ({ cls := "Nominator", name := "gain", desc := "(II)I" } : Jvm.MethodName)) ∈ gw := gw_in (List.mem_of_getElem? (i := 737) (by rfl)) (by rfl)
set_option maxRecDepth 20000 in
theorem q738 : (Jvm.Cond.instanceMethod ({ cls := "Nominator", name := "gain", desc := "(II)I" } : Jvm.MethodName)) ∈ gw := gw_in (List.mem_of_getElem? (i := 738) (by rfl)) (by rfl)
set_option maxRecDepth 20000 in
theorem q739 : (Jvm.Cond.selects "Nominator" ({ cls := "Nominator", name := "gain", desc := "(II)I" } : Jvm.MethodName) ({ cls := "Nominator", name := "gain", desc := "(II)I" } : Jvm.MethodName)) ∈ gw := gw_in (List.mem_of_getElem? (i := 739) (by rfl)) (by rfl)
set_option maxRecDepth 20000 in
theorem q740 : (Jvm.Cond.code ({ cls := "Nominator", name := "gain", desc := "(II)I" } : Jvm.MethodName) prog_1_method_26_code (3 : Nat) (Option.some Jvm.ClassFile.FieldType.int)) ∈ gw := gw_in (List.mem_of_getElem? (i := 740) (by rfl)) (by rfl)
set_option maxRecDepth 20000 in
theorem q742 : (Jvm.Cond.methodLink "Nominator" (225 : Nat) ({ cls := "Nominator$Office", name := "freedBy", desc := "(II)I" } : Jvm.MethodName)) ∈ gw := gw_in (List.mem_of_getElem? (i := 742) (by rfl)) (by rfl)
set_option maxRecDepth 20000 in
theorem q743 : (Jvm.Cond.instanceMethod ({ cls := "Nominator$Office", name := "freedBy", desc := "(II)I" } : Jvm.MethodName)) ∈ gw := gw_in (List.mem_of_getElem? (i := 743) (by rfl)) (by rfl)
set_option maxRecDepth 20000 in
theorem q744 : (Jvm.Cond.selects "Nominator$Office" ({ cls := "Nominator$Office", name := "freedBy", desc := "(II)I" } : Jvm.MethodName) ({ cls := "Nominator$Office", name := "freedBy", desc := "(II)I" } : Jvm.MethodName)) ∈ gw := gw_in (List.mem_of_getElem? (i := 744) (by rfl)) (by rfl)
set_option maxRecDepth 20000 in
theorem q745 : (Jvm.Cond.code ({ cls := "Nominator$Office", name := "freedBy", desc := "(II)I" } : Jvm.MethodName) prog_6_method_19_code (4 : Nat) (Option.some Jvm.ClassFile.FieldType.int)) ∈ gw := gw_in (List.mem_of_getElem? (i := 745) (by rfl)) (by rfl)
set_option maxRecDepth 20000 in
theorem q746 : (Jvm.Cond.methodLink "Nominator$Office" (205 : Nat) ({ cls := "Nominator$Office", name := "gatherBlockers", desc := "(I)I" } : Jvm.MethodName)) ∈ gw := gw_in (List.mem_of_getElem? (i := 746) (by rfl)) (by rfl)
set_option maxRecDepth 20000 in
theorem q748 : (Jvm.Cond.instanceMethod ({ cls := "Nominator$Office", name := "gatherBlockers", desc := "(I)I" } : Jvm.MethodName)) ∈ gw := gw_in (List.mem_of_getElem? (i := 748) (by rfl)) (by rfl)
set_option maxRecDepth 20000 in
theorem q749 : (Jvm.Cond.code ({ cls := "Nominator$Office", name := "gatherBlockers", desc := "(I)I" } : Jvm.MethodName) prog_6_method_21_code (5 : Nat) (Option.some Jvm.ClassFile.FieldType.int)) ∈ gw := gw_in (List.mem_of_getElem? (i := 749) (by rfl)) (by rfl)
set_option maxRecDepth 20000 in
theorem q750 : (Jvm.Cond.methodLink "Nominator$Office" (208 : Nat) ({ cls := "Nominator$Office", name := "countWithout", desc := "(II)I" } : Jvm.MethodName)) ∈ gw := gw_in (List.mem_of_getElem? (i := 750) (by rfl)) (by rfl)
set_option maxRecDepth 20000 in
theorem q752 : (Jvm.Cond.instanceMethod ({ cls := "Nominator$Office", name := "countWithout", desc := "(II)I" } : Jvm.MethodName)) ∈ gw := gw_in (List.mem_of_getElem? (i := 752) (by rfl)) (by rfl)
set_option maxRecDepth 20000 in
theorem q753 : (Jvm.Cond.code ({ cls := "Nominator$Office", name := "countWithout", desc := "(II)I" } : Jvm.MethodName) prog_6_method_23_code (5 : Nat) (Option.some Jvm.ClassFile.FieldType.int)) ∈ gw := gw_in (List.mem_of_getElem? (i := 753) (by rfl)) (by rfl)
set_option maxRecDepth 20000 in
theorem q754 : (Jvm.Cond.methodLink "NominatorLaw" (63 : Nat) ({ cls := "Nominator", name := "fewestWithdrawals", desc := "(I)I" } : Jvm.MethodName)) ∈ gw := gw_in (List.mem_of_getElem? (i := 754) (by rfl)) (by rfl)
set_option maxRecDepth 20000 in
theorem q755 : (Jvm.Cond.instanceMethod ({ cls := "Nominator", name := "fewestWithdrawals", desc := "(I)I" } : Jvm.MethodName)) ∈ gw := gw_in (List.mem_of_getElem? (i := 755) (by rfl)) (by rfl)
set_option maxRecDepth 20000 in
theorem q756 : (Jvm.Cond.selects "Nominator" ({ cls := "Nominator", name := "fewestWithdrawals", desc := "(I)I" } : Jvm.MethodName) ({ cls := "Nominator", name := "fewestWithdrawals", desc := "(I)I" } : Jvm.MethodName)) ∈ gw := gw_in (List.mem_of_getElem? (i := 756) (by rfl)) (by rfl)
set_option maxRecDepth 20000 in
theorem q757 : (Jvm.Cond.code ({ cls := "Nominator", name := "fewestWithdrawals", desc := "(I)I" } : Jvm.MethodName) prog_1_method_27_code (3 : Nat) (Option.some Jvm.ClassFile.FieldType.int)) ∈ gw := gw_in (List.mem_of_getElem? (i := 757) (by rfl)) (by rfl)
set_option maxRecDepth 20000 in
theorem q758 : (Jvm.Cond.methodLink "Nominator" (229 : Nat) ({ cls := "Nominator$Office", name := "smallestSetFor", desc := "(I)I" } : Jvm.MethodName)) ∈ gw := gw_in (List.mem_of_getElem? (i := 758) (by rfl)) (by rfl)
set_option maxRecDepth 20000 in
theorem q759 : (Jvm.Cond.instanceMethod ({ cls := "Nominator$Office", name := "smallestSetFor", desc := "(I)I" } : Jvm.MethodName)) ∈ gw := gw_in (List.mem_of_getElem? (i := 759) (by rfl)) (by rfl)
set_option maxRecDepth 20000 in
theorem q760 : (Jvm.Cond.selects "Nominator$Office" ({ cls := "Nominator$Office", name := "smallestSetFor", desc := "(I)I" } : Jvm.MethodName) ({ cls := "Nominator$Office", name := "smallestSetFor", desc := "(I)I" } : Jvm.MethodName)) ∈ gw := gw_in (List.mem_of_getElem? (i := 760) (by rfl)) (by rfl)
set_option maxRecDepth 20000 in
theorem q761 : (Jvm.Cond.code ({ cls := "Nominator$Office", name := "smallestSetFor", desc := "(I)I" } : Jvm.MethodName) prog_6_method_20_code (8 : Nat) (Option.some Jvm.ClassFile.FieldType.int)) ∈ gw := gw_in (List.mem_of_getElem? (i := 761) (by rfl)) (by rfl)
set_option maxRecDepth 20000 in
theorem q762 : (Jvm.Cond.methodLink "Nominator$Office" (212 : Nat) ({ cls := "Nominator$Office", name := "allBlockers", desc := "(I)I" } : Jvm.MethodName)) ∈ gw := gw_in (List.mem_of_getElem? (i := 762) (by rfl)) (by rfl)
set_option maxRecDepth 20000 in
theorem q764 : (Jvm.Cond.instanceMethod ({ cls := "Nominator$Office", name := "allBlockers", desc := "(I)I" } : Jvm.MethodName)) ∈ gw := gw_in (List.mem_of_getElem? (i := 764) (by rfl)) (by rfl)
set_option maxRecDepth 20000 in
theorem q765 : (Jvm.Cond.code ({ cls := "Nominator$Office", name := "allBlockers", desc := "(I)I" } : Jvm.MethodName) prog_6_method_22_code (4 : Nat) (Option.some Jvm.ClassFile.FieldType.int)) ∈ gw := gw_in (List.mem_of_getElem? (i := 765) (by rfl)) (by rfl)
set_option maxRecDepth 20000 in
theorem q766 : (Jvm.Cond.methodLink "Nominator$Office" (215 : Nat) ({ cls := "java/lang/Integer", name := "bitCount", desc := "(I)I" } : Jvm.MethodName)) ∈ gw := gw_in (List.mem_of_getElem? (i := 766) (by rfl)) (by rfl)
set_option maxRecDepth 20000 in
theorem q767 : (Jvm.Cond.static ({ cls := "java/lang/Integer", name := "bitCount", desc := "(I)I" } : Jvm.MethodName)) ∈ gw := gw_in (List.mem_of_getElem? (i := 767) (by rfl)) (by rfl)
set_option maxRecDepth 20000 in
theorem q768 : (Jvm.Cond.code ({ cls := "java/lang/Integer", name := "bitCount", desc := "(I)I" } : Jvm.MethodName) prog_19_method_49_code (1 : Nat) (Option.some Jvm.ClassFile.FieldType.int)) ∈ gw := gw_in (List.mem_of_getElem? (i := 768) (by rfl)) (by rfl)
set_option maxRecDepth 20000 in
theorem q769 : (Jvm.Cond.constant "java/lang/Integer" (265 : Nat) (1431655765 : Int32)) ∈ gw := gw_in (List.mem_of_getElem? (i := 769) (by rfl)) (by rfl)
set_option maxRecDepth 20000 in
theorem q770 : (Jvm.Cond.constant "java/lang/Integer" (266 : Nat) (858993459 : Int32)) ∈ gw := gw_in (List.mem_of_getElem? (i := 770) (by rfl)) (by rfl)
set_option maxRecDepth 20000 in
theorem q771 : (Jvm.Cond.constant "java/lang/Integer" (267 : Nat) (252645135 : Int32)) ∈ gw := gw_in (List.mem_of_getElem? (i := 771) (by rfl)) (by rfl)
set_option maxRecDepth 20000 in
theorem q773 : (Jvm.Cond.methodLink "NominatorLaw" (66 : Nat) ({ cls := "Nominator", name := "reason", desc := "(I)I" } : Jvm.MethodName)) ∈ gw := gw_in (List.mem_of_getElem? (i := 773) (by rfl)) (by rfl)
set_option maxRecDepth 20000 in
theorem q774 : (Jvm.Cond.instanceMethod ({ cls := "Nominator", name := "reason", desc := "(I)I" } : Jvm.MethodName)) ∈ gw := gw_in (List.mem_of_getElem? (i := 774) (by rfl)) (by rfl)
set_option maxRecDepth 20000 in
theorem q775 : (Jvm.Cond.selects "Nominator" ({ cls := "Nominator", name := "reason", desc := "(I)I" } : Jvm.MethodName) ({ cls := "Nominator", name := "reason", desc := "(I)I" } : Jvm.MethodName)) ∈ gw := gw_in (List.mem_of_getElem? (i := 775) (by rfl)) (by rfl)
set_option maxRecDepth 20000 in
theorem q776 : (Jvm.Cond.code ({ cls := "Nominator", name := "reason", desc := "(I)I" } : Jvm.MethodName) prog_1_method_29_code (2 : Nat) (Option.some Jvm.ClassFile.FieldType.int)) ∈ gw := gw_in (List.mem_of_getElem? (i := 776) (by rfl)) (by rfl)
set_option maxRecDepth 20000 in
theorem q777 : (Jvm.Cond.methodLink "Nominator" (234 : Nat) ({ cls := "Nominator$Office", name := "whyNotStanding", desc := "(I)I" } : Jvm.MethodName)) ∈ gw := gw_in (List.mem_of_getElem? (i := 777) (by rfl)) (by rfl)
set_option maxRecDepth 20000 in
theorem q778 : (Jvm.Cond.instanceMethod ({ cls := "Nominator$Office", name := "whyNotStanding", desc := "(I)I" } : Jvm.MethodName)) ∈ gw := gw_in (List.mem_of_getElem? (i := 778) (by rfl)) (by rfl)
set_option maxRecDepth 20000 in
theorem q779 : (Jvm.Cond.selects "Nominator$Office" ({ cls := "Nominator$Office", name := "whyNotStanding", desc := "(I)I" } : Jvm.MethodName) ({ cls := "Nominator$Office", name := "whyNotStanding", desc := "(I)I" } : Jvm.MethodName)) ∈ gw := gw_in (List.mem_of_getElem? (i := 779) (by rfl)) (by rfl)
set_option maxRecDepth 20000 in
theorem q780 : (Jvm.Cond.code ({ cls := "Nominator$Office", name := "whyNotStanding", desc := "(I)I" } : Jvm.MethodName) prog_6_method_15_code (3 : Nat) (Option.some Jvm.ClassFile.FieldType.int)) ∈ gw := gw_in (List.mem_of_getElem? (i := 780) (by rfl)) (by rfl)
set_option maxRecDepth 20000 in
theorem q781 : (Jvm.Cond.methodLink "NominatorLaw" (69 : Nat) ({ cls := "Nominator", name := "reasonByReplay", desc := "(I)I" } : Jvm.MethodName)) ∈ gw := gw_in (List.mem_of_getElem? (i := 781) (by rfl)) (by rfl)
set_option maxRecDepth 20000 in
theorem q782 : (Jvm.Cond.instanceMethod ({ cls := "Nominator", name := "reasonByReplay", desc := "(I)I" } : Jvm.MethodName)) ∈ gw := gw_in (List.mem_of_getElem? (i := 782) (by rfl)) (by rfl)
set_option maxRecDepth 20000 in
theorem q783 : (Jvm.Cond.selects "Nominator" ({ cls := "Nominator", name := "reasonByReplay", desc := "(I)I" } : Jvm.MethodName) ({ cls := "Nominator", name := "reasonByReplay", desc := "(I)I" } : Jvm.MethodName)) ∈ gw := gw_in (List.mem_of_getElem? (i := 783) (by rfl)) (by rfl)
set_option maxRecDepth 20000 in
theorem q784 : (Jvm.Cond.code ({ cls := "Nominator", name := "reasonByReplay", desc := "(I)I" } : Jvm.MethodName) prog_1_method_30_code (3 : Nat) (Option.some Jvm.ClassFile.FieldType.int)) ∈ gw := gw_in (List.mem_of_getElem? (i := 784) (by rfl)) (by rfl)
set_option maxRecDepth 20000 in
theorem q785 : (Jvm.Cond.methodLink "Nominator" (237 : Nat) ({ cls := "Nominator$Office", name := "restart", desc := "()V" } : Jvm.MethodName)) ∈ gw := gw_in (List.mem_of_getElem? (i := 785) (by rfl)) (by rfl)
set_option maxRecDepth 20000 in
theorem q786 : (Jvm.Cond.methodLink "NominatorLaw" (72 : Nat) ({ cls := "Nominator", name := "ballotSize", desc := "(I)I" } : Jvm.MethodName)) ∈ gw := gw_in (List.mem_of_getElem? (i := 786) (by rfl)) (by rfl)
set_option maxRecDepth 20000 in
theorem q787 : (Jvm.Cond.instanceMethod ({ cls := "Nominator", name := "ballotSize", desc := "(I)I" } : Jvm.MethodName)) ∈ gw := gw_in (List.mem_of_getElem? (i := 787) (by rfl)) (by rfl)
set_option maxRecDepth 20000 in
theorem q788 : (Jvm.Cond.selects "Nominator" ({ cls := "Nominator", name := "ballotSize", desc := "(I)I" } : Jvm.MethodName) ({ cls := "Nominator", name := "ballotSize", desc := "(I)I" } : Jvm.MethodName)) ∈ gw := gw_in (List.mem_of_getElem? (i := 788) (by rfl)) (by rfl)
set_option maxRecDepth 20000 in
theorem q789 : (Jvm.Cond.code ({ cls := "Nominator", name := "ballotSize", desc := "(I)I" } : Jvm.MethodName) prog_1_method_31_code (2 : Nat) (Option.some Jvm.ClassFile.FieldType.int)) ∈ gw := gw_in (List.mem_of_getElem? (i := 789) (by rfl)) (by rfl)
set_option maxRecDepth 20000 in
theorem q790 : (Jvm.Cond.methodLink "Nominator" (260 : Nat) ({ cls := "Nominator$Office", name := "countStanding", desc := "(I)I" } : Jvm.MethodName)) ∈ gw := gw_in (List.mem_of_getElem? (i := 790) (by rfl)) (by rfl)
set_option maxRecDepth 20000 in
theorem q791 : (Jvm.Cond.instanceMethod ({ cls := "Nominator$Office", name := "countStanding", desc := "(I)I" } : Jvm.MethodName)) ∈ gw := gw_in (List.mem_of_getElem? (i := 791) (by rfl)) (by rfl)
set_option maxRecDepth 20000 in
theorem q792 : (Jvm.Cond.selects "Nominator$Office" ({ cls := "Nominator$Office", name := "countStanding", desc := "(I)I" } : Jvm.MethodName) ({ cls := "Nominator$Office", name := "countStanding", desc := "(I)I" } : Jvm.MethodName)) ∈ gw := gw_in (List.mem_of_getElem? (i := 792) (by rfl)) (by rfl)
set_option maxRecDepth 20000 in
theorem q793 : (Jvm.Cond.code ({ cls := "Nominator$Office", name := "countStanding", desc := "(I)I" } : Jvm.MethodName) prog_6_method_25_code (4 : Nat) (Option.some Jvm.ClassFile.FieldType.int)) ∈ gw := gw_in (List.mem_of_getElem? (i := 793) (by rfl)) (by rfl)
set_option maxRecDepth 20000 in
theorem q794 : (Jvm.Cond.methodLink "Nominator$Office" (223 : Nat) ({ cls := "Nominator$Office", name := "standsIn", desc := "(II)Z" } : Jvm.MethodName)) ∈ gw := gw_in (List.mem_of_getElem? (i := 794) (by rfl)) (by rfl)
set_option maxRecDepth 20000 in
theorem q796 : (Jvm.Cond.instanceMethod ({ cls := "Nominator$Office", name := "standsIn", desc := "(II)Z" } : Jvm.MethodName)) ∈ gw := gw_in (List.mem_of_getElem? (i := 796) (by rfl)) (by rfl)
set_option maxRecDepth 20000 in
theorem q797 : (Jvm.Cond.code ({ cls := "Nominator$Office", name := "standsIn", desc := "(II)Z" } : Jvm.MethodName) prog_6_method_24_code (3 : Nat) (Option.some Jvm.ClassFile.FieldType.boolean)) ∈ gw := gw_in (List.mem_of_getElem? (i := 797) (by rfl)) (by rfl)
set_option maxRecDepth 20000 in
theorem q798 : (Jvm.Cond.methodLink "Nominator$Office" (220 : Nat) ({ cls := "Nominator$Office", name := "whyNotStanding", desc := "(I)I" } : Jvm.MethodName)) ∈ gw := gw_in (List.mem_of_getElem? (i := 798) (by rfl)) (by rfl)
set_option maxRecDepth 20000 in
theorem q799 : (Jvm.Cond.methodLink "NominatorLaw" (75 : Nat) ({ cls := "Nominator", name := "draw", desc := "(I)C" } : Jvm.MethodName)) ∈ gw := gw_in (List.mem_of_getElem? (i := 799) (by rfl)) (by rfl)
set_option maxRecDepth 20000 in
theorem q800 : (Jvm.Cond.instanceMethod ({ cls := "Nominator", name := "draw", desc := "(I)C" } : Jvm.MethodName)) ∈ gw := gw_in (List.mem_of_getElem? (i := 800) (by rfl)) (by rfl)
set_option maxRecDepth 20000 in
theorem q801 : (Jvm.Cond.selects "Nominator" ({ cls := "Nominator", name := "draw", desc := "(I)C" } : Jvm.MethodName) ({ cls := "Nominator", name := "draw", desc := "(I)C" } : Jvm.MethodName)) ∈ gw := gw_in (List.mem_of_getElem? (i := 801) (by rfl)) (by rfl)
set_option maxRecDepth 20000 in
theorem q802 : (Jvm.Cond.code ({ cls := "Nominator", name := "draw", desc := "(I)C" } : Jvm.MethodName) prog_1_method_32_code (2 : Nat) (Option.some Jvm.ClassFile.FieldType.char)) ∈ gw := gw_in (List.mem_of_getElem? (i := 802) (by rfl)) (by rfl)
set_option maxRecDepth 20000 in
theorem q805 : (Jvm.Cond.methodLink "NominatorLaw" (79 : Nat) ({ cls := "Nominator", name := "letter", desc := "(I)C" } : Jvm.MethodName)) ∈ gw := gw_in (List.mem_of_getElem? (i := 805) (by rfl)) (by rfl)
set_option maxRecDepth 20000 in
theorem q806 : (Jvm.Cond.instanceMethod ({ cls := "Nominator", name := "letter", desc := "(I)C" } : Jvm.MethodName)) ∈ gw := gw_in (List.mem_of_getElem? (i := 806) (by rfl)) (by rfl)
set_option maxRecDepth 20000 in
theorem q807 : (Jvm.Cond.selects "Nominator" ({ cls := "Nominator", name := "letter", desc := "(I)C" } : Jvm.MethodName) ({ cls := "Nominator", name := "letter", desc := "(I)C" } : Jvm.MethodName)) ∈ gw := gw_in (List.mem_of_getElem? (i := 807) (by rfl)) (by rfl)
set_option maxRecDepth 20000 in
theorem q808 : (Jvm.Cond.code ({ cls := "Nominator", name := "letter", desc := "(I)C" } : Jvm.MethodName) prog_1_method_33_code (2 : Nat) (Option.some Jvm.ClassFile.FieldType.char)) ∈ gw := gw_in (List.mem_of_getElem? (i := 808) (by rfl)) (by rfl)
set_option maxRecDepth 20000 in
theorem q810 : (Jvm.Cond.methodLink "Nominator" (280 : Nat) ({ cls := "Nominator", name := "needLetters", desc := "()V" } : Jvm.MethodName)) ∈ gw := gw_in (List.mem_of_getElem? (i := 810) (by rfl)) (by rfl)
set_option maxRecDepth 20000 in
theorem q812 : (Jvm.Cond.instanceMethod ({ cls := "Nominator", name := "needLetters", desc := "()V" } : Jvm.MethodName)) ∈ gw := gw_in (List.mem_of_getElem? (i := 812) (by rfl)) (by rfl)
set_option maxRecDepth 20000 in
theorem q813 : (Jvm.Cond.code ({ cls := "Nominator", name := "needLetters", desc := "()V" } : Jvm.MethodName) prog_1_method_55_code (1 : Nat) (Option.none : Option Jvm.ClassFile.FieldType)) ∈ gw := gw_in (List.mem_of_getElem? (i := 813) (by rfl)) (by rfl)
set_option maxRecDepth 20000 in
theorem q815 : (Jvm.Cond.methodLink "NominatorLaw" (82 : Nat) ({ cls := "Nominator", name := "placeOnBallot", desc := "(II)I" } : Jvm.MethodName)) ∈ gw := gw_in (List.mem_of_getElem? (i := 815) (by rfl)) (by rfl)
set_option maxRecDepth 20000 in
theorem q816 : (Jvm.Cond.instanceMethod ({ cls := "Nominator", name := "placeOnBallot", desc := "(II)I" } : Jvm.MethodName)) ∈ gw := gw_in (List.mem_of_getElem? (i := 816) (by rfl)) (by rfl)
set_option maxRecDepth 20000 in
theorem q817 : (Jvm.Cond.selects "Nominator" ({ cls := "Nominator", name := "placeOnBallot", desc := "(II)I" } : Jvm.MethodName) ({ cls := "Nominator", name := "placeOnBallot", desc := "(II)I" } : Jvm.MethodName)) ∈ gw := gw_in (List.mem_of_getElem? (i := 817) (by rfl)) (by rfl)
set_option maxRecDepth 20000 in
theorem q818 : (Jvm.Cond.code ({ cls := "Nominator", name := "placeOnBallot", desc := "(II)I" } : Jvm.MethodName) prog_1_method_35_code (3 : Nat) (Option.some Jvm.ClassFile.FieldType.int)) ∈ gw := gw_in (List.mem_of_getElem? (i := 818) (by rfl)) (by rfl)
set_option maxRecDepth 20000 in
theorem q819 : (Jvm.Cond.methodLink "Nominator" (283 : Nat) ({ cls := "Nominator", name := "needPrecinct", desc := "(I)V" } : Jvm.MethodName)) ∈ gw := gw_in (List.mem_of_getElem? (i := 819) (by rfl)) (by rfl)
set_option maxRecDepth 20000 in
theorem q821 : (Jvm.Cond.instanceMethod ({ cls := "Nominator", name := "needPrecinct", desc := "(I)V" } : Jvm.MethodName)) ∈ gw := gw_in (List.mem_of_getElem? (i := 821) (by rfl)) (by rfl)
set_option maxRecDepth 20000 in
theorem q822 : (Jvm.Cond.code ({ cls := "Nominator", name := "needPrecinct", desc := "(I)V" } : Jvm.MethodName) prog_1_method_50_code (2 : Nat) (Option.none : Option Jvm.ClassFile.FieldType)) ∈ gw := gw_in (List.mem_of_getElem? (i := 822) (by rfl)) (by rfl)
set_option maxRecDepth 20000 in
theorem q824 : (Jvm.Cond.methodLink "Nominator" (294 : Nat) ({ cls := "Nominator", name := "needStanding", desc := "(I)V" } : Jvm.MethodName)) ∈ gw := gw_in (List.mem_of_getElem? (i := 824) (by rfl)) (by rfl)
set_option maxRecDepth 20000 in
theorem q826 : (Jvm.Cond.instanceMethod ({ cls := "Nominator", name := "needStanding", desc := "(I)V" } : Jvm.MethodName)) ∈ gw := gw_in (List.mem_of_getElem? (i := 826) (by rfl)) (by rfl)
set_option maxRecDepth 20000 in
theorem q827 : (Jvm.Cond.code ({ cls := "Nominator", name := "needStanding", desc := "(I)V" } : Jvm.MethodName) prog_1_method_54_code (2 : Nat) (Option.none : Option Jvm.ClassFile.FieldType)) ∈ gw := gw_in (List.mem_of_getElem? (i := 827) (by rfl)) (by rfl)
set_option maxRecDepth 20000 in
theorem q829 : (Jvm.Cond.methodLink "Nominator" (297 : Nat) ({ cls := "Nominator$Office", name := "placeOnList", desc := "(I)I" } : Jvm.MethodName)) ∈ gw := gw_in (List.mem_of_getElem? (i := 829) (by rfl)) (by rfl)
set_option maxRecDepth 20000 in
theorem q830 : (Jvm.Cond.instanceMethod ({ cls := "Nominator$Office", name := "placeOnList", desc := "(I)I" } : Jvm.MethodName)) ∈ gw := gw_in (List.mem_of_getElem? (i := 830) (by rfl)) (by rfl)
set_option maxRecDepth 20000 in
theorem q831 : (Jvm.Cond.selects "Nominator$Office" ({ cls := "Nominator$Office", name := "placeOnList", desc := "(I)I" } : Jvm.MethodName) ({ cls := "Nominator$Office", name := "placeOnList", desc := "(I)I" } : Jvm.MethodName)) ∈ gw := gw_in (List.mem_of_getElem? (i := 831) (by rfl)) (by rfl)
set_option maxRecDepth 20000 in
theorem q832 : (Jvm.Cond.code ({ cls := "Nominator$Office", name := "placeOnList", desc := "(I)I" } : Jvm.MethodName) prog_6_method_27_code (4 : Nat) (Option.some Jvm.ClassFile.FieldType.int)) ∈ gw := gw_in (List.mem_of_getElem? (i := 832) (by rfl)) (by rfl)
set_option maxRecDepth 20000 in
theorem q833 : (Jvm.Cond.methodLink "Nominator$Office" (230 : Nat) ({ cls := "Nominator$Office", name := "comesBefore", desc := "(II)Z" } : Jvm.MethodName)) ∈ gw := gw_in (List.mem_of_getElem? (i := 833) (by rfl)) (by rfl)
set_option maxRecDepth 20000 in
theorem q835 : (Jvm.Cond.instanceMethod ({ cls := "Nominator$Office", name := "comesBefore", desc := "(II)Z" } : Jvm.MethodName)) ∈ gw := gw_in (List.mem_of_getElem? (i := 835) (by rfl)) (by rfl)
set_option maxRecDepth 20000 in
theorem q836 : (Jvm.Cond.code ({ cls := "Nominator$Office", name := "comesBefore", desc := "(II)Z" } : Jvm.MethodName) prog_6_method_28_code (5 : Nat) (Option.some Jvm.ClassFile.FieldType.boolean)) ∈ gw := gw_in (List.mem_of_getElem? (i := 836) (by rfl)) (by rfl)
set_option maxRecDepth 20000 in
theorem q837 : (Jvm.Cond.methodLink "Nominator$Office" (236 : Nat) ({ cls := "Nominator$Letters", name := "rankOf", desc := "(I)I" } : Jvm.MethodName)) ∈ gw := gw_in (List.mem_of_getElem? (i := 837) (by rfl)) (by rfl)
set_option maxRecDepth 20000 in
theorem q838 : (Jvm.Cond.instanceMethod ({ cls := "Nominator$Letters", name := "rankOf", desc := "(I)I" } : Jvm.MethodName)) ∈ gw := gw_in (List.mem_of_getElem? (i := 838) (by rfl)) (by rfl)
set_option maxRecDepth 20000 in
theorem q839 : (Jvm.Cond.selects "Nominator$Letters" ({ cls := "Nominator$Letters", name := "rankOf", desc := "(I)I" } : Jvm.MethodName) ({ cls := "Nominator$Letters", name := "rankOf", desc := "(I)I" } : Jvm.MethodName)) ∈ gw := gw_in (List.mem_of_getElem? (i := 839) (by rfl)) (by rfl)
set_option maxRecDepth 20000 in
theorem q840 : (Jvm.Cond.code ({ cls := "Nominator$Letters", name := "rankOf", desc := "(I)I" } : Jvm.MethodName) prog_5_method_5_code (5 : Nat) (Option.some Jvm.ClassFile.FieldType.int)) ∈ gw := gw_in (List.mem_of_getElem? (i := 840) (by rfl)) (by rfl)
set_option maxRecDepth 20000 in
theorem q842 : (Jvm.Cond.static ({ cls := "Nominator", name := "characterOf", desc := "(II)C" } : Jvm.MethodName)) ∈ gw := gw_in (List.mem_of_getElem? (i := 842) (by rfl)) (by rfl)
set_option maxRecDepth 20000 in
theorem q843 : (Jvm.Cond.code ({ cls := "Nominator", name := "characterOf", desc := "(II)C" } : Jvm.MethodName) prog_1_method_61_code (2 : Nat) (Option.some Jvm.ClassFile.FieldType.char)) ∈ gw := gw_in (List.mem_of_getElem? (i := 843) (by rfl)) (by rfl)
set_option maxRecDepth 20000 in
theorem q845 : (Jvm.Cond.static ({ cls := "Nominator", name := "isSmallLetter", desc := "(C)Z" } : Jvm.MethodName)) ∈ gw := gw_in (List.mem_of_getElem? (i := 845) (by rfl)) (by rfl)
set_option maxRecDepth 20000 in
theorem q846 : (Jvm.Cond.code ({ cls := "Nominator", name := "isSmallLetter", desc := "(C)Z" } : Jvm.MethodName) prog_1_method_58_code (1 : Nat) (Option.some Jvm.ClassFile.FieldType.boolean)) ∈ gw := gw_in (List.mem_of_getElem? (i := 846) (by rfl)) (by rfl)
set_option maxRecDepth 20000 in
theorem q847 : (Jvm.Cond.methodLink "Nominator" (288 : Nat) ({ cls := "Nominator", name := "around", desc := "(II)I" } : Jvm.MethodName)) ∈ gw := gw_in (List.mem_of_getElem? (i := 847) (by rfl)) (by rfl)
set_option maxRecDepth 20000 in
theorem q848 : (Jvm.Cond.static ({ cls := "Nominator", name := "around", desc := "(II)I" } : Jvm.MethodName)) ∈ gw := gw_in (List.mem_of_getElem? (i := 848) (by rfl)) (by rfl)
set_option maxRecDepth 20000 in
theorem q849 : (Jvm.Cond.code ({ cls := "Nominator", name := "around", desc := "(II)I" } : Jvm.MethodName) prog_1_method_62_code (2 : Nat) (Option.some Jvm.ClassFile.FieldType.int)) ∈ gw := gw_in (List.mem_of_getElem? (i := 849) (by rfl)) (by rfl)
set_option maxRecDepth 20000 in
theorem q850 : (Jvm.Cond.methodLink "Nominator" (388 : Nat) ({ cls := "java/lang/Math", name := "floorMod", desc := "(II)I" } : Jvm.MethodName)) ∈ gw := gw_in (List.mem_of_getElem? (i := 850) (by rfl)) (by rfl)
set_option maxRecDepth 20000 in
theorem q851 : (Jvm.Cond.static ({ cls := "java/lang/Math", name := "floorMod", desc := "(II)I" } : Jvm.MethodName)) ∈ gw := gw_in (List.mem_of_getElem? (i := 851) (by rfl)) (by rfl)
set_option maxRecDepth 20000 in
theorem q852 : (Jvm.Cond.code ({ cls := "java/lang/Math", name := "floorMod", desc := "(II)I" } : Jvm.MethodName) prog_20_method_50_code (3 : Nat) (Option.some Jvm.ClassFile.FieldType.int)) ∈ gw := gw_in (List.mem_of_getElem? (i := 852) (by rfl)) (by rfl)
set_option maxRecDepth 20000 in
theorem q853 : (Jvm.Cond.methodLink "NominatorLaw" (85 : Nat) ({ cls := "Nominator", name := "addVotes", desc := "(II)I" } : Jvm.MethodName)) ∈ gw := gw_in (List.mem_of_getElem? (i := 853) (by rfl)) (by rfl)
set_option maxRecDepth 20000 in
theorem q854 : (Jvm.Cond.instanceMethod ({ cls := "Nominator", name := "addVotes", desc := "(II)I" } : Jvm.MethodName)) ∈ gw := gw_in (List.mem_of_getElem? (i := 854) (by rfl)) (by rfl)
set_option maxRecDepth 20000 in
theorem q855 : (Jvm.Cond.selects "Nominator" ({ cls := "Nominator", name := "addVotes", desc := "(II)I" } : Jvm.MethodName) ({ cls := "Nominator", name := "addVotes", desc := "(II)I" } : Jvm.MethodName)) ∈ gw := gw_in (List.mem_of_getElem? (i := 855) (by rfl)) (by rfl)
set_option maxRecDepth 20000 in
theorem q856 : (Jvm.Cond.code ({ cls := "Nominator", name := "addVotes", desc := "(II)I" } : Jvm.MethodName) prog_1_method_36_code (3 : Nat) (Option.some Jvm.ClassFile.FieldType.int)) ∈ gw := gw_in (List.mem_of_getElem? (i := 856) (by rfl)) (by rfl)
set_option maxRecDepth 20000 in
theorem q858 : (Jvm.Cond.methodLink "Nominator" (303 : Nat) ({ cls := "Nominator", name := "needCounting", desc := "(I)V" } : Jvm.MethodName)) ∈ gw := gw_in (List.mem_of_getElem? (i := 858) (by rfl)) (by rfl)
set_option maxRecDepth 20000 in
theorem q860 : (Jvm.Cond.instanceMethod ({ cls := "Nominator", name := "needCounting", desc := "(I)V" } : Jvm.MethodName)) ∈ gw := gw_in (List.mem_of_getElem? (i := 860) (by rfl)) (by rfl)
set_option maxRecDepth 20000 in
theorem q861 : (Jvm.Cond.code ({ cls := "Nominator", name := "needCounting", desc := "(I)V" } : Jvm.MethodName) prog_1_method_56_code (2 : Nat) (Option.none : Option Jvm.ClassFile.FieldType)) ∈ gw := gw_in (List.mem_of_getElem? (i := 861) (by rfl)) (by rfl)
set_option maxRecDepth 20000 in
theorem q864 : (Jvm.Cond.methodLink "NominatorLaw" (88 : Nat) ({ cls := "Nominator", name := "finish", desc := "(I)I" } : Jvm.MethodName)) ∈ gw := gw_in (List.mem_of_getElem? (i := 864) (by rfl)) (by rfl)
set_option maxRecDepth 20000 in
theorem q865 : (Jvm.Cond.instanceMethod ({ cls := "Nominator", name := "finish", desc := "(I)I" } : Jvm.MethodName)) ∈ gw := gw_in (List.mem_of_getElem? (i := 865) (by rfl)) (by rfl)
set_option maxRecDepth 20000 in
theorem q866 : (Jvm.Cond.selects "Nominator" ({ cls := "Nominator", name := "finish", desc := "(I)I" } : Jvm.MethodName) ({ cls := "Nominator", name := "finish", desc := "(I)I" } : Jvm.MethodName)) ∈ gw := gw_in (List.mem_of_getElem? (i := 866) (by rfl)) (by rfl)
set_option maxRecDepth 20000 in
theorem q867 : (Jvm.Cond.code ({ cls := "Nominator", name := "finish", desc := "(I)I" } : Jvm.MethodName) prog_1_method_37_code (2 : Nat) (Option.some Jvm.ClassFile.FieldType.int)) ∈ gw := gw_in (List.mem_of_getElem? (i := 867) (by rfl)) (by rfl)
set_option maxRecDepth 20000 in
theorem q868 : (Jvm.Cond.methodLink "Nominator" (309 : Nat) ({ cls := "Nominator$Office", name := "countStandingAndLost", desc := "(I)I" } : Jvm.MethodName)) ∈ gw := gw_in (List.mem_of_getElem? (i := 868) (by rfl)) (by rfl)
set_option maxRecDepth 20000 in
theorem q869 : (Jvm.Cond.instanceMethod ({ cls := "Nominator$Office", name := "countStandingAndLost", desc := "(I)I" } : Jvm.MethodName)) ∈ gw := gw_in (List.mem_of_getElem? (i := 869) (by rfl)) (by rfl)
set_option maxRecDepth 20000 in
theorem q870 : (Jvm.Cond.selects "Nominator$Office" ({ cls := "Nominator$Office", name := "countStandingAndLost", desc := "(I)I" } : Jvm.MethodName) ({ cls := "Nominator$Office", name := "countStandingAndLost", desc := "(I)I" } : Jvm.MethodName)) ∈ gw := gw_in (List.mem_of_getElem? (i := 870) (by rfl)) (by rfl)
set_option maxRecDepth 20000 in
theorem q871 : (Jvm.Cond.code ({ cls := "Nominator$Office", name := "countStandingAndLost", desc := "(I)I" } : Jvm.MethodName) prog_6_method_31_code (4 : Nat) (Option.some Jvm.ClassFile.FieldType.int)) ∈ gw := gw_in (List.mem_of_getElem? (i := 871) (by rfl)) (by rfl)
set_option maxRecDepth 20000 in
theorem q872 : (Jvm.Cond.methodLink "Nominator$Office" (239 : Nat) ({ cls := "Nominator$Office", name := "stateOfDeposit", desc := "(I)I" } : Jvm.MethodName)) ∈ gw := gw_in (List.mem_of_getElem? (i := 872) (by rfl)) (by rfl)
set_option maxRecDepth 20000 in
theorem q873 : (Jvm.Cond.instanceMethod ({ cls := "Nominator$Office", name := "stateOfDeposit", desc := "(I)I" } : Jvm.MethodName)) ∈ gw := gw_in (List.mem_of_getElem? (i := 873) (by rfl)) (by rfl)
set_option maxRecDepth 20000 in
theorem q874 : (Jvm.Cond.selects "Nominator$Office" ({ cls := "Nominator$Office", name := "stateOfDeposit", desc := "(I)I" } : Jvm.MethodName) ({ cls := "Nominator$Office", name := "stateOfDeposit", desc := "(I)I" } : Jvm.MethodName)) ∈ gw := gw_in (List.mem_of_getElem? (i := 874) (by rfl)) (by rfl)
set_option maxRecDepth 20000 in
theorem q875 : (Jvm.Cond.code ({ cls := "Nominator$Office", name := "stateOfDeposit", desc := "(I)I" } : Jvm.MethodName) prog_6_method_32_code (3 : Nat) (Option.some Jvm.ClassFile.FieldType.int)) ∈ gw := gw_in (List.mem_of_getElem? (i := 875) (by rfl)) (by rfl)
set_option maxRecDepth 20000 in
theorem q876 : (Jvm.Cond.methodLink "Nominator$Office" (242 : Nat) ({ cls := "Nominator$Office", name := "canReplace", desc := "(I)Z" } : Jvm.MethodName)) ∈ gw := gw_in (List.mem_of_getElem? (i := 876) (by rfl)) (by rfl)
set_option maxRecDepth 20000 in
theorem q877 : (Jvm.Cond.methodLink "Nominator$Office" (245 : Nat) ({ cls := "Nominator$Office", name := "votesIn", desc := "(I)I" } : Jvm.MethodName)) ∈ gw := gw_in (List.mem_of_getElem? (i := 877) (by rfl)) (by rfl)
set_option maxRecDepth 20000 in
theorem q878 : (Jvm.Cond.instanceMethod ({ cls := "Nominator$Office", name := "votesIn", desc := "(I)I" } : Jvm.MethodName)) ∈ gw := gw_in (List.mem_of_getElem? (i := 878) (by rfl)) (by rfl)
set_option maxRecDepth 20000 in
theorem q879 : (Jvm.Cond.selects "Nominator$Office" ({ cls := "Nominator$Office", name := "votesIn", desc := "(I)I" } : Jvm.MethodName) ({ cls := "Nominator$Office", name := "votesIn", desc := "(I)I" } : Jvm.MethodName)) ∈ gw := gw_in (List.mem_of_getElem? (i := 879) (by rfl)) (by rfl)
set_option maxRecDepth 20000 in
theorem q880 : (Jvm.Cond.code ({ cls := "Nominator$Office", name := "votesIn", desc := "(I)I" } : Jvm.MethodName) prog_6_method_29_code (4 : Nat) (Option.some Jvm.ClassFile.FieldType.int)) ∈ gw := gw_in (List.mem_of_getElem? (i := 880) (by rfl)) (by rfl)
set_option maxRecDepth 20000 in
theorem q881 : (Jvm.Cond.methodLink "NominatorLaw" (91 : Nat) ({ cls := "Nominator", name := "votes", desc := "(I)I" } : Jvm.MethodName)) ∈ gw := gw_in (List.mem_of_getElem? (i := 881) (by rfl)) (by rfl)
set_option maxRecDepth 20000 in
theorem q882 : (Jvm.Cond.instanceMethod ({ cls := "Nominator", name := "votes", desc := "(I)I" } : Jvm.MethodName)) ∈ gw := gw_in (List.mem_of_getElem? (i := 882) (by rfl)) (by rfl)
set_option maxRecDepth 20000 in
theorem q883 : (Jvm.Cond.selects "Nominator" ({ cls := "Nominator", name := "votes", desc := "(I)I" } : Jvm.MethodName) ({ cls := "Nominator", name := "votes", desc := "(I)I" } : Jvm.MethodName)) ∈ gw := gw_in (List.mem_of_getElem? (i := 883) (by rfl)) (by rfl)
set_option maxRecDepth 20000 in
theorem q884 : (Jvm.Cond.code ({ cls := "Nominator", name := "votes", desc := "(I)I" } : Jvm.MethodName) prog_1_method_38_code (2 : Nat) (Option.some Jvm.ClassFile.FieldType.int)) ∈ gw := gw_in (List.mem_of_getElem? (i := 884) (by rfl)) (by rfl)
set_option maxRecDepth 20000 in
theorem q885 : (Jvm.Cond.methodLink "NominatorLaw" (94 : Nat) ({ cls := "Nominator", name := "winner", desc := "(I)I" } : Jvm.MethodName)) ∈ gw := gw_in (List.mem_of_getElem? (i := 885) (by rfl)) (by rfl)
set_option maxRecDepth 20000 in
theorem q886 : (Jvm.Cond.instanceMethod ({ cls := "Nominator", name := "winner", desc := "(I)I" } : Jvm.MethodName)) ∈ gw := gw_in (List.mem_of_getElem? (i := 886) (by rfl)) (by rfl)
set_option maxRecDepth 20000 in
theorem q887 : (Jvm.Cond.selects "Nominator" ({ cls := "Nominator", name := "winner", desc := "(I)I" } : Jvm.MethodName) ({ cls := "Nominator", name := "winner", desc := "(I)I" } : Jvm.MethodName)) ∈ gw := gw_in (List.mem_of_getElem? (i := 887) (by rfl)) (by rfl)
set_option maxRecDepth 20000 in
theorem q888 : (Jvm.Cond.code ({ cls := "Nominator", name := "winner", desc := "(I)I" } : Jvm.MethodName) prog_1_method_40_code (3 : Nat) (Option.some Jvm.ClassFile.FieldType.int)) ∈ gw := gw_in (List.mem_of_getElem? (i := 888) (by rfl)) (by rfl)
set_option maxRecDepth 20000 in
theorem q890 : (Jvm.Cond.methodLink "Nominator" (331 : Nat) ({ cls := "Nominator$Office", name := "mostVotedIn", desc := "(I)I" } : Jvm.MethodName)) ∈ gw := gw_in (List.mem_of_getElem? (i := 890) (by rfl)) (by rfl)
set_option maxRecDepth 20000 in
theorem q891 : (Jvm.Cond.instanceMethod ({ cls := "Nominator$Office", name := "mostVotedIn", desc := "(I)I" } : Jvm.MethodName)) ∈ gw := gw_in (List.mem_of_getElem? (i := 891) (by rfl)) (by rfl)
set_option maxRecDepth 20000 in
theorem q892 : (Jvm.Cond.selects "Nominator$Office" ({ cls := "Nominator$Office", name := "mostVotedIn", desc := "(I)I" } : Jvm.MethodName) ({ cls := "Nominator$Office", name := "mostVotedIn", desc := "(I)I" } : Jvm.MethodName)) ∈ gw := gw_in (List.mem_of_getElem? (i := 892) (by rfl)) (by rfl)
set_option maxRecDepth 20000 in
theorem q893 : (Jvm.Cond.code ({ cls := "Nominator$Office", name := "mostVotedIn", desc := "(I)I" } : Jvm.MethodName) prog_6_method_30_code (4 : Nat) (Option.some Jvm.ClassFile.FieldType.int)) ∈ gw := gw_in (List.mem_of_getElem? (i := 893) (by rfl)) (by rfl)
set_option maxRecDepth 20000 in
theorem q895 : (Jvm.Cond.methodLink "NominatorLaw" (97 : Nat) ({ cls := "Nominator", name := "deposit", desc := "(I)I" } : Jvm.MethodName)) ∈ gw := gw_in (List.mem_of_getElem? (i := 895) (by rfl)) (by rfl)
set_option maxRecDepth 20000 in
theorem q896 : (Jvm.Cond.instanceMethod ({ cls := "Nominator", name := "deposit", desc := "(I)I" } : Jvm.MethodName)) ∈ gw := gw_in (List.mem_of_getElem? (i := 896) (by rfl)) (by rfl)
set_option maxRecDepth 20000 in
theorem q897 : (Jvm.Cond.selects "Nominator" ({ cls := "Nominator", name := "deposit", desc := "(I)I" } : Jvm.MethodName) ({ cls := "Nominator", name := "deposit", desc := "(I)I" } : Jvm.MethodName)) ∈ gw := gw_in (List.mem_of_getElem? (i := 897) (by rfl)) (by rfl)
set_option maxRecDepth 20000 in
theorem q898 : (Jvm.Cond.code ({ cls := "Nominator", name := "deposit", desc := "(I)I" } : Jvm.MethodName) prog_1_method_41_code (2 : Nat) (Option.some Jvm.ClassFile.FieldType.int)) ∈ gw := gw_in (List.mem_of_getElem? (i := 898) (by rfl)) (by rfl)
set_option maxRecDepth 20000 in
theorem q899 : (Jvm.Cond.methodLink "Nominator" (336 : Nat) ({ cls := "Nominator$Office", name := "stateOfDeposit", desc := "(I)I" } : Jvm.MethodName)) ∈ gw := gw_in (List.mem_of_getElem? (i := 899) (by rfl)) (by rfl)
set_option maxRecDepth 20000 in
theorem q900 : (Jvm.Cond.methodLink "NominatorLaw" (100 : Nat) ({ cls := "Nominator", name := "paid", desc := "(I)I" } : Jvm.MethodName)) ∈ gw := gw_in (List.mem_of_getElem? (i := 900) (by rfl)) (by rfl)
set_option maxRecDepth 20000 in
theorem q901 : (Jvm.Cond.instanceMethod ({ cls := "Nominator", name := "paid", desc := "(I)I" } : Jvm.MethodName)) ∈ gw := gw_in (List.mem_of_getElem? (i := 901) (by rfl)) (by rfl)
set_option maxRecDepth 20000 in
theorem q902 : (Jvm.Cond.selects "Nominator" ({ cls := "Nominator", name := "paid", desc := "(I)I" } : Jvm.MethodName) ({ cls := "Nominator", name := "paid", desc := "(I)I" } : Jvm.MethodName)) ∈ gw := gw_in (List.mem_of_getElem? (i := 902) (by rfl)) (by rfl)
set_option maxRecDepth 20000 in
theorem q903 : (Jvm.Cond.code ({ cls := "Nominator", name := "paid", desc := "(I)I" } : Jvm.MethodName) prog_1_method_42_code (2 : Nat) (Option.some Jvm.ClassFile.FieldType.int)) ∈ gw := gw_in (List.mem_of_getElem? (i := 903) (by rfl)) (by rfl)
set_option maxRecDepth 20000 in
theorem q904 : (Jvm.Cond.methodLink "NominatorLaw" (103 : Nat) ({ cls := "Nominator", name := "areaOf", desc := "(I)I" } : Jvm.MethodName)) ∈ gw := gw_in (List.mem_of_getElem? (i := 904) (by rfl)) (by rfl)
set_option maxRecDepth 20000 in
theorem q905 : (Jvm.Cond.instanceMethod ({ cls := "Nominator", name := "areaOf", desc := "(I)I" } : Jvm.MethodName)) ∈ gw := gw_in (List.mem_of_getElem? (i := 905) (by rfl)) (by rfl)
set_option maxRecDepth 20000 in
theorem q906 : (Jvm.Cond.selects "Nominator" ({ cls := "Nominator", name := "areaOf", desc := "(I)I" } : Jvm.MethodName) ({ cls := "Nominator", name := "areaOf", desc := "(I)I" } : Jvm.MethodName)) ∈ gw := gw_in (List.mem_of_getElem? (i := 906) (by rfl)) (by rfl)
set_option maxRecDepth 20000 in
theorem q907 : (Jvm.Cond.code ({ cls := "Nominator", name := "areaOf", desc := "(I)I" } : Jvm.MethodName) prog_1_method_11_code (2 : Nat) (Option.some Jvm.ClassFile.FieldType.int)) ∈ gw := gw_in (List.mem_of_getElem? (i := 907) (by rfl)) (by rfl)
set_option maxRecDepth 20000 in
theorem q908 : (Jvm.Cond.methodLink "NominatorLaw" (106 : Nat) ({ cls := "Nominator", name := "isOnRoll", desc := "(I)Z" } : Jvm.MethodName)) ∈ gw := gw_in (List.mem_of_getElem? (i := 908) (by rfl)) (by rfl)
set_option maxRecDepth 20000 in
theorem q909 : (Jvm.Cond.instanceMethod ({ cls := "Nominator", name := "isOnRoll", desc := "(I)Z" } : Jvm.MethodName)) ∈ gw := gw_in (List.mem_of_getElem? (i := 909) (by rfl)) (by rfl)
set_option maxRecDepth 20000 in
theorem q910 : (Jvm.Cond.selects "Nominator" ({ cls := "Nominator", name := "isOnRoll", desc := "(I)Z" } : Jvm.MethodName) ({ cls := "Nominator", name := "isOnRoll", desc := "(I)Z" } : Jvm.MethodName)) ∈ gw := gw_in (List.mem_of_getElem? (i := 910) (by rfl)) (by rfl)
set_option maxRecDepth 20000 in
theorem q911 : (Jvm.Cond.code ({ cls := "Nominator", name := "isOnRoll", desc := "(I)Z" } : Jvm.MethodName) prog_1_method_12_code (2 : Nat) (Option.some Jvm.ClassFile.FieldType.boolean)) ∈ gw := gw_in (List.mem_of_getElem? (i := 911) (by rfl)) (by rfl)
set_option maxRecDepth 20000 in
theorem q912 : (Jvm.Cond.methodLink "NominatorLaw" (109 : Nat) ({ cls := "Nominator", name := "surname", desc := "(II)C" } : Jvm.MethodName)) ∈ gw := gw_in (List.mem_of_getElem? (i := 912) (by rfl)) (by rfl)
set_option maxRecDepth 20000 in
theorem q913 : (Jvm.Cond.instanceMethod ({ cls := "Nominator", name := "surname", desc := "(II)C" } : Jvm.MethodName)) ∈ gw := gw_in (List.mem_of_getElem? (i := 913) (by rfl)) (by rfl)
set_option maxRecDepth 20000 in
theorem q914 : (Jvm.Cond.selects "Nominator" ({ cls := "Nominator", name := "surname", desc := "(II)C" } : Jvm.MethodName) ({ cls := "Nominator", name := "surname", desc := "(II)C" } : Jvm.MethodName)) ∈ gw := gw_in (List.mem_of_getElem? (i := 914) (by rfl)) (by rfl)
set_option maxRecDepth 20000 in
theorem q915 : (Jvm.Cond.code ({ cls := "Nominator", name := "surname", desc := "(II)C" } : Jvm.MethodName) prog_1_method_20_code (3 : Nat) (Option.some Jvm.ClassFile.FieldType.char)) ∈ gw := gw_in (List.mem_of_getElem? (i := 915) (by rfl)) (by rfl)
set_option maxRecDepth 20000 in
theorem q916 : (Jvm.Cond.methodLink "Nominator" (193 : Nat) ({ cls := "Nominator", name := "characterOf", desc := "(II)C" } : Jvm.MethodName)) ∈ gw := gw_in (List.mem_of_getElem? (i := 916) (by rfl)) (by rfl)
set_option maxRecDepth 20000 in
theorem q917 : (Jvm.Cond.methodLink "NominatorLaw" (181 : Nat) ({ cls := "NominatorLaw", name := "file", desc := "(LNominator;III)I" } : Jvm.MethodName)) ∈ gw := gw_in (List.mem_of_getElem? (i := 917) (by rfl)) (by rfl)
set_option maxRecDepth 20000 in
theorem q918 : (Jvm.Cond.static ({ cls := "NominatorLaw", name := "file", desc := "(LNominator;III)I" } : Jvm.MethodName)) ∈ gw := gw_in (List.mem_of_getElem? (i := 918) (by rfl)) (by rfl)
set_option maxRecDepth 20000 in
theorem q919 : (Jvm.Cond.codeWith ({ cls := "NominatorLaw", name := "file", desc := "(LNominator;III)I" } : Jvm.MethodName) method_6_code (9 : Nat) (Option.some Jvm.ClassFile.FieldType.int) [((44 : Nat), (78 : Nat), (79 : Nat), (113 : Nat)), ((44 : Nat), (78 : Nat), (84 : Nat), (115 : Nat)), ((44 : Nat), (78 : Nat), (89 : Nat), (117 : Nat))]) ∈ gw := gw_in (List.mem_of_getElem? (i := 919) (by rfl)) (by rfl)
set_option maxRecDepth 20000 in
theorem q920 : (Jvm.Cond.methodLink "NominatorLaw" (127 : Nat) ({ cls := "NominatorLaw", name := "letter", desc := "(I)C" } : Jvm.MethodName)) ∈ gw := gw_in (List.mem_of_getElem? (i := 920) (by rfl)) (by rfl)
set_option maxRecDepth 20000 in
theorem q921 : (Jvm.Cond.static ({ cls := "NominatorLaw", name := "letter", desc := "(I)C" } : Jvm.MethodName)) ∈ gw := gw_in (List.mem_of_getElem? (i := 921) (by rfl)) (by rfl)
set_option maxRecDepth 20000 in
theorem q922 : (Jvm.Cond.code ({ cls := "NominatorLaw", name := "letter", desc := "(I)C" } : Jvm.MethodName) method_7_code (1 : Nat) (Option.some Jvm.ClassFile.FieldType.char)) ∈ gw := gw_in (List.mem_of_getElem? (i := 922) (by rfl)) (by rfl)
set_option maxRecDepth 20000 in
theorem q923 : (Jvm.Cond.methodLink "NominatorLaw" (130 : Nat) ({ cls := "Nominator", name := "replace", desc := "(ICCCC)I" } : Jvm.MethodName)) ∈ gw := gw_in (List.mem_of_getElem? (i := 923) (by rfl)) (by rfl)
set_option maxRecDepth 20000 in
theorem q924 : (Jvm.Cond.instanceMethod ({ cls := "Nominator", name := "replace", desc := "(ICCCC)I" } : Jvm.MethodName)) ∈ gw := gw_in (List.mem_of_getElem? (i := 924) (by rfl)) (by rfl)
set_option maxRecDepth 20000 in
theorem q925 : (Jvm.Cond.selects "Nominator" ({ cls := "Nominator", name := "replace", desc := "(ICCCC)I" } : Jvm.MethodName) ({ cls := "Nominator", name := "replace", desc := "(ICCCC)I" } : Jvm.MethodName)) ∈ gw := gw_in (List.mem_of_getElem? (i := 925) (by rfl)) (by rfl)
set_option maxRecDepth 20000 in
theorem q926 : (Jvm.Cond.code ({ cls := "Nominator", name := "replace", desc := "(ICCCC)I" } : Jvm.MethodName) prog_1_method_18_code (6 : Nat) (Option.some Jvm.ClassFile.FieldType.int)) ∈ gw := gw_in (List.mem_of_getElem? (i := 926) (by rfl)) (by rfl)
set_option maxRecDepth 20000 in
theorem q927 : (Jvm.Cond.methodLink "Nominator" (119 : Nat) ({ cls := "Nominator", name := "needName", desc := "(CCCC)V" } : Jvm.MethodName)) ∈ gw := gw_in (List.mem_of_getElem? (i := 927) (by rfl)) (by rfl)
set_option maxRecDepth 20000 in
theorem q929 : (Jvm.Cond.instanceMethod ({ cls := "Nominator", name := "needName", desc := "(CCCC)V" } : Jvm.MethodName)) ∈ gw := gw_in (List.mem_of_getElem? (i := 929) (by rfl)) (by rfl)
set_option maxRecDepth 20000 in
theorem q930 : (Jvm.Cond.code ({ cls := "Nominator", name := "needName", desc := "(CCCC)V" } : Jvm.MethodName) prog_1_method_49_code (5 : Nat) (Option.none : Option Jvm.ClassFile.FieldType)) ∈ gw := gw_in (List.mem_of_getElem? (i := 930) (by rfl)) (by rfl)
set_option maxRecDepth 20000 in
theorem q931 : (Jvm.Cond.methodLink "Nominator" (353 : Nat) ({ cls := "Nominator", name := "isSmallLetter", desc := "(C)Z" } : Jvm.MethodName)) ∈ gw := gw_in (List.mem_of_getElem? (i := 931) (by rfl)) (by rfl)
set_option maxRecDepth 20000 in
theorem q932 : (Jvm.Cond.methodLink "Nominator" (357 : Nat) ({ cls := "Nominator", name := "mayFollow", desc := "(CC)Z" } : Jvm.MethodName)) ∈ gw := gw_in (List.mem_of_getElem? (i := 932) (by rfl)) (by rfl)
set_option maxRecDepth 20000 in
theorem q933 : (Jvm.Cond.static ({ cls := "Nominator", name := "mayFollow", desc := "(CC)Z" } : Jvm.MethodName)) ∈ gw := gw_in (List.mem_of_getElem? (i := 933) (by rfl)) (by rfl)
set_option maxRecDepth 20000 in
theorem q934 : (Jvm.Cond.code ({ cls := "Nominator", name := "mayFollow", desc := "(CC)Z" } : Jvm.MethodName) prog_1_method_59_code (2 : Nat) (Option.some Jvm.ClassFile.FieldType.boolean)) ∈ gw := gw_in (List.mem_of_getElem? (i := 934) (by rfl)) (by rfl)
set_option maxRecDepth 20000 in
theorem q937 : (Jvm.Cond.methodLink "Nominator" (128 : Nat) ({ cls := "Nominator", name := "nameOf", desc := "(CCCC)I" } : Jvm.MethodName)) ∈ gw := gw_in (List.mem_of_getElem? (i := 937) (by rfl)) (by rfl)
set_option maxRecDepth 20000 in
theorem q938 : (Jvm.Cond.static ({ cls := "Nominator", name := "nameOf", desc := "(CCCC)I" } : Jvm.MethodName)) ∈ gw := gw_in (List.mem_of_getElem? (i := 938) (by rfl)) (by rfl)
set_option maxRecDepth 20000 in
theorem q939 : (Jvm.Cond.code ({ cls := "Nominator", name := "nameOf", desc := "(CCCC)I" } : Jvm.MethodName) prog_1_method_60_code (4 : Nat) (Option.some Jvm.ClassFile.FieldType.int)) ∈ gw := gw_in (List.mem_of_getElem? (i := 939) (by rfl)) (by rfl)
set_option maxRecDepth 20000 in
theorem q940 : (Jvm.Cond.methodLink "NominatorLaw" (134 : Nat) ({ cls := "Nominator", name := "file", desc := "(IICCCC)I" } : Jvm.MethodName)) ∈ gw := gw_in (List.mem_of_getElem? (i := 940) (by rfl)) (by rfl)
set_option maxRecDepth 20000 in
theorem q941 : (Jvm.Cond.instanceMethod ({ cls := "Nominator", name := "file", desc := "(IICCCC)I" } : Jvm.MethodName)) ∈ gw := gw_in (List.mem_of_getElem? (i := 941) (by rfl)) (by rfl)
set_option maxRecDepth 20000 in
theorem q942 : (Jvm.Cond.selects "Nominator" ({ cls := "Nominator", name := "file", desc := "(IICCCC)I" } : Jvm.MethodName) ({ cls := "Nominator", name := "file", desc := "(IICCCC)I" } : Jvm.MethodName)) ∈ gw := gw_in (List.mem_of_getElem? (i := 942) (by rfl)) (by rfl)
set_option maxRecDepth 20000 in
theorem q943 : (Jvm.Cond.code ({ cls := "Nominator", name := "file", desc := "(IICCCC)I" } : Jvm.MethodName) prog_1_method_13_code (7 : Nat) (Option.some Jvm.ClassFile.FieldType.int)) ∈ gw := gw_in (List.mem_of_getElem? (i := 943) (by rfl)) (by rfl)
set_option maxRecDepth 20000 in
theorem q946 : (Jvm.Cond.methodLink "NominatorLaw" (178 : Nat) ({ cls := "NominatorLaw", name := "name", desc := "(I)I" } : Jvm.MethodName)) ∈ gw := gw_in (List.mem_of_getElem? (i := 946) (by rfl)) (by rfl)
set_option maxRecDepth 20000 in
theorem q947 : (Jvm.Cond.static ({ cls := "NominatorLaw", name := "name", desc := "(I)I" } : Jvm.MethodName)) ∈ gw := gw_in (List.mem_of_getElem? (i := 947) (by rfl)) (by rfl)
set_option maxRecDepth 20000 in
theorem q948 : (Jvm.Cond.code ({ cls := "NominatorLaw", name := "name", desc := "(I)I" } : Jvm.MethodName) method_8_code (4 : Nat) (Option.some Jvm.ClassFile.FieldType.int)) ∈ gw := gw_in (List.mem_of_getElem? (i := 948) (by rfl)) (by rfl)
set_option maxRecDepth 20000 in
theorem q949 : (Jvm.Cond.methodLink "NominatorLaw" (174 : Nat) ({ cls := "NominatorLaw", name := "state", desc := "(LNominator;I)J" } : Jvm.MethodName)) ∈ gw := gw_in (List.mem_of_getElem? (i := 949) (by rfl)) (by rfl)
set_option maxRecDepth 20000 in
theorem q950 : (Jvm.Cond.static ({ cls := "NominatorLaw", name := "state", desc := "(LNominator;I)J" } : Jvm.MethodName)) ∈ gw := gw_in (List.mem_of_getElem? (i := 950) (by rfl)) (by rfl)
set_option maxRecDepth 20000 in
theorem q951 : (Jvm.Cond.code ({ cls := "NominatorLaw", name := "state", desc := "(LNominator;I)J" } : Jvm.MethodName) method_9_code (6 : Nat) (Option.some Jvm.ClassFile.FieldType.long)) ∈ gw := gw_in (List.mem_of_getElem? (i := 951) (by rfl)) (by rfl)
set_option maxRecDepth 20000 in
theorem q954 : (Jvm.Cond.methodLink "NominatorLaw" (159 : Nat) ({ cls := "Nominator", name := "sumHeld", desc := "()I" } : Jvm.MethodName)) ∈ gw := gw_in (List.mem_of_getElem? (i := 954) (by rfl)) (by rfl)
set_option maxRecDepth 20000 in
theorem q955 : (Jvm.Cond.instanceMethod ({ cls := "Nominator", name := "sumHeld", desc := "()I" } : Jvm.MethodName)) ∈ gw := gw_in (List.mem_of_getElem? (i := 955) (by rfl)) (by rfl)
set_option maxRecDepth 20000 in
theorem q956 : (Jvm.Cond.selects "Nominator" ({ cls := "Nominator", name := "sumHeld", desc := "()I" } : Jvm.MethodName) ({ cls := "Nominator", name := "sumHeld", desc := "()I" } : Jvm.MethodName)) ∈ gw := gw_in (List.mem_of_getElem? (i := 956) (by rfl)) (by rfl)
set_option maxRecDepth 20000 in
theorem q957 : (Jvm.Cond.code ({ cls := "Nominator", name := "sumHeld", desc := "()I" } : Jvm.MethodName) prog_1_method_43_code (1 : Nat) (Option.some Jvm.ClassFile.FieldType.int)) ∈ gw := gw_in (List.mem_of_getElem? (i := 957) (by rfl)) (by rfl)
set_option maxRecDepth 20000 in
theorem q958 : (Jvm.Cond.methodLink "Nominator" (339 : Nat) ({ cls := "Nominator$Office", name := "sumOfDeposits", desc := "(I)I" } : Jvm.MethodName)) ∈ gw := gw_in (List.mem_of_getElem? (i := 958) (by rfl)) (by rfl)
set_option maxRecDepth 20000 in
theorem q959 : (Jvm.Cond.instanceMethod ({ cls := "Nominator$Office", name := "sumOfDeposits", desc := "(I)I" } : Jvm.MethodName)) ∈ gw := gw_in (List.mem_of_getElem? (i := 959) (by rfl)) (by rfl)
set_option maxRecDepth 20000 in
theorem q960 : (Jvm.Cond.selects "Nominator$Office" ({ cls := "Nominator$Office", name := "sumOfDeposits", desc := "(I)I" } : Jvm.MethodName) ({ cls := "Nominator$Office", name := "sumOfDeposits", desc := "(I)I" } : Jvm.MethodName)) ∈ gw := gw_in (List.mem_of_getElem? (i := 960) (by rfl)) (by rfl)
set_option maxRecDepth 20000 in
theorem q961 : (Jvm.Cond.code ({ cls := "Nominator$Office", name := "sumOfDeposits", desc := "(I)I" } : Jvm.MethodName) prog_6_method_33_code (4 : Nat) (Option.some Jvm.ClassFile.FieldType.int)) ∈ gw := gw_in (List.mem_of_getElem? (i := 961) (by rfl)) (by rfl)
set_option maxRecDepth 20000 in
theorem q962 : (Jvm.Cond.methodLink "NominatorLaw" (162 : Nat) ({ cls := "Nominator", name := "sumLost", desc := "()I" } : Jvm.MethodName)) ∈ gw := gw_in (List.mem_of_getElem? (i := 962) (by rfl)) (by rfl)
set_option maxRecDepth 20000 in
theorem q963 : (Jvm.Cond.instanceMethod ({ cls := "Nominator", name := "sumLost", desc := "()I" } : Jvm.MethodName)) ∈ gw := gw_in (List.mem_of_getElem? (i := 963) (by rfl)) (by rfl)
set_option maxRecDepth 20000 in
theorem q964 : (Jvm.Cond.selects "Nominator" ({ cls := "Nominator", name := "sumLost", desc := "()I" } : Jvm.MethodName) ({ cls := "Nominator", name := "sumLost", desc := "()I" } : Jvm.MethodName)) ∈ gw := gw_in (List.mem_of_getElem? (i := 964) (by rfl)) (by rfl)
set_option maxRecDepth 20000 in
theorem q965 : (Jvm.Cond.code ({ cls := "Nominator", name := "sumLost", desc := "()I" } : Jvm.MethodName) prog_1_method_44_code (1 : Nat) (Option.some Jvm.ClassFile.FieldType.int)) ∈ gw := gw_in (List.mem_of_getElem? (i := 965) (by rfl)) (by rfl)
set_option maxRecDepth 20000 in
theorem q966 : (Jvm.Cond.methodLink "NominatorLaw" (183 : Nat) ({ cls := "NominatorLaw", name := "sound", desc := "(LNominator;[I[II)Z" } : Jvm.MethodName)) ∈ gw := gw_in (List.mem_of_getElem? (i := 966) (by rfl)) (by rfl)
set_option maxRecDepth 20000 in
theorem q967 : (Jvm.Cond.static ({ cls := "NominatorLaw", name := "sound", desc := "(LNominator;[I[II)Z" } : Jvm.MethodName)) ∈ gw := gw_in (List.mem_of_getElem? (i := 967) (by rfl)) (by rfl)
set_option maxRecDepth 20000 in
theorem q968 : (Jvm.Cond.code ({ cls := "NominatorLaw", name := "sound", desc := "(LNominator;[I[II)Z" } : Jvm.MethodName) method_10_code (14 : Nat) (Option.some Jvm.ClassFile.FieldType.boolean)) ∈ gw := gw_in (List.mem_of_getElem? (i := 968) (by rfl)) (by rfl)
set_option maxRecDepth 20000 in
theorem q969 : (Jvm.Cond.sameMethod "java/lang/Throwable" "java/lang/Throwable" "fillInStackTrace" "(I)Ljava/lang/Throwable;") ∈ gw := gw_in (List.mem_of_getElem? (i := 969) (by rfl)) (by rfl)
theorem qs0 : Cond.selects "java/lang/Throwable" ⟨"java/lang/Throwable", "fillInStackTrace", "(I)Ljava/lang/Throwable;"⟩ ⟨"java/lang/Throwable", "fillInStackTrace", "(I)Ljava/lang/Throwable;"⟩ ∈ gw := gw_ins (List.mem_of_getElem? (i := 0) (by rfl)) (by rfl)
theorem qs1 : Cond.selects "Nominator" ⟨"Nominator", "happen", "(IIII)V"⟩ ⟨"Nominator", "happen", "(IIII)V"⟩ ∈ gw := gw_ins (List.mem_of_getElem? (i := 1) (by rfl)) (by rfl)
theorem qs2 : Cond.selects "Nominator$Office" ⟨"Nominator$Office", "judgeSignatures", "()V"⟩ ⟨"Nominator$Office", "judgeSignatures", "()V"⟩ ∈ gw := gw_ins (List.mem_of_getElem? (i := 2) (by rfl)) (by rfl)
theorem qs3 : Cond.selects "Nominator$Office" ⟨"Nominator$Office", "resultOf", "(LNominator$Signature;)I"⟩ ⟨"Nominator$Office", "resultOf", "(LNominator$Signature;)I"⟩ ∈ gw := gw_ins (List.mem_of_getElem? (i := 3) (by rfl)) (by rfl)
theorem qs4 : Cond.selects "Nominator$Office" ⟨"Nominator$Office", "verdictOn", "(I)I"⟩ ⟨"Nominator$Office", "verdictOn", "(I)I"⟩ ∈ gw := gw_ins (List.mem_of_getElem? (i := 4) (by rfl)) (by rfl)
theorem qs5 : Cond.selects "Nominator$Office" ⟨"Nominator$Office", "isDouble", "(I)Z"⟩ ⟨"Nominator$Office", "isDouble", "(I)Z"⟩ ∈ gw := gw_ins (List.mem_of_getElem? (i := 5) (by rfl)) (by rfl)
theorem qs6 : Cond.selects "Nominator$Letters" ⟨"Nominator$Letters", "exchange", "(II)V"⟩ ⟨"Nominator$Letters", "exchange", "(II)V"⟩ ∈ gw := gw_ins (List.mem_of_getElem? (i := 6) (by rfl)) (by rfl)
theorem qs7 : Cond.selects "Nominator$Office" ⟨"Nominator$Office", "happenToPaper", "(IIII)V"⟩ ⟨"Nominator$Office", "happenToPaper", "(IIII)V"⟩ ∈ gw := gw_ins (List.mem_of_getElem? (i := 7) (by rfl)) (by rfl)
theorem qs8 : Cond.selects "Nominator$Office" ⟨"Nominator$Office", "beginPaper", "(III)V"⟩ ⟨"Nominator$Office", "beginPaper", "(III)V"⟩ ∈ gw := gw_ins (List.mem_of_getElem? (i := 8) (by rfl)) (by rfl)
theorem qs9 : Cond.selects "Nominator$Office" ⟨"Nominator$Office", "beginSignature", "(II)V"⟩ ⟨"Nominator$Office", "beginSignature", "(II)V"⟩ ∈ gw := gw_ins (List.mem_of_getElem? (i := 9) (by rfl)) (by rfl)
theorem qs10 : Cond.selects "Nominator" ⟨"Nominator", "needArea", "(I)V"⟩ ⟨"Nominator", "needArea", "(I)V"⟩ ∈ gw := gw_ins (List.mem_of_getElem? (i := 10) (by rfl)) (by rfl)
theorem qs11 : Cond.selects "Nominator" ⟨"Nominator", "needVoter", "(I)V"⟩ ⟨"Nominator", "needVoter", "(I)V"⟩ ∈ gw := gw_ins (List.mem_of_getElem? (i := 11) (by rfl)) (by rfl)
theorem qs12 : Cond.selects "Nominator" ⟨"Nominator", "needPaper", "(I)V"⟩ ⟨"Nominator", "needPaper", "(I)V"⟩ ∈ gw := gw_ins (List.mem_of_getElem? (i := 12) (by rfl)) (by rfl)
theorem qs13 : Cond.selects "Nominator" ⟨"Nominator", "needOpen", "()V"⟩ ⟨"Nominator", "needOpen", "()V"⟩ ∈ gw := gw_ins (List.mem_of_getElem? (i := 13) (by rfl)) (by rfl)
theorem qs14 : Cond.selects "Nominator" ⟨"Nominator", "needNotWithdrawn", "(I)V"⟩ ⟨"Nominator", "needNotWithdrawn", "(I)V"⟩ ∈ gw := gw_ins (List.mem_of_getElem? (i := 14) (by rfl)) (by rfl)
theorem qs15 : Cond.selects "Nominator" ⟨"Nominator", "needNotRejected", "(I)V"⟩ ⟨"Nominator", "needNotRejected", "(I)V"⟩ ∈ gw := gw_ins (List.mem_of_getElem? (i := 15) (by rfl)) (by rfl)
theorem qs16 : Cond.selects "Nominator$Office" ⟨"Nominator$Office", "gatherBlockers", "(I)I"⟩ ⟨"Nominator$Office", "gatherBlockers", "(I)I"⟩ ∈ gw := gw_ins (List.mem_of_getElem? (i := 16) (by rfl)) (by rfl)
theorem qs17 : Cond.selects "Nominator$Office" ⟨"Nominator$Office", "countWithout", "(II)I"⟩ ⟨"Nominator$Office", "countWithout", "(II)I"⟩ ∈ gw := gw_ins (List.mem_of_getElem? (i := 17) (by rfl)) (by rfl)
theorem qs18 : Cond.selects "Nominator$Office" ⟨"Nominator$Office", "allBlockers", "(I)I"⟩ ⟨"Nominator$Office", "allBlockers", "(I)I"⟩ ∈ gw := gw_ins (List.mem_of_getElem? (i := 18) (by rfl)) (by rfl)
theorem qs19 : Cond.selects "Nominator$Office" ⟨"Nominator$Office", "standsIn", "(II)Z"⟩ ⟨"Nominator$Office", "standsIn", "(II)Z"⟩ ∈ gw := gw_ins (List.mem_of_getElem? (i := 19) (by rfl)) (by rfl)
theorem qs20 : Cond.selects "Nominator" ⟨"Nominator", "needLetters", "()V"⟩ ⟨"Nominator", "needLetters", "()V"⟩ ∈ gw := gw_ins (List.mem_of_getElem? (i := 20) (by rfl)) (by rfl)
theorem qs21 : Cond.selects "Nominator" ⟨"Nominator", "needPrecinct", "(I)V"⟩ ⟨"Nominator", "needPrecinct", "(I)V"⟩ ∈ gw := gw_ins (List.mem_of_getElem? (i := 21) (by rfl)) (by rfl)
theorem qs22 : Cond.selects "Nominator" ⟨"Nominator", "needStanding", "(I)V"⟩ ⟨"Nominator", "needStanding", "(I)V"⟩ ∈ gw := gw_ins (List.mem_of_getElem? (i := 22) (by rfl)) (by rfl)
theorem qs23 : Cond.selects "Nominator$Office" ⟨"Nominator$Office", "comesBefore", "(II)Z"⟩ ⟨"Nominator$Office", "comesBefore", "(II)Z"⟩ ∈ gw := gw_ins (List.mem_of_getElem? (i := 23) (by rfl)) (by rfl)
theorem qs24 : Cond.selects "Nominator" ⟨"Nominator", "needCounting", "(I)V"⟩ ⟨"Nominator", "needCounting", "(I)V"⟩ ∈ gw := gw_ins (List.mem_of_getElem? (i := 24) (by rfl)) (by rfl)
theorem qs25 : Cond.selects "Nominator" ⟨"Nominator", "needName", "(CCCC)V"⟩ ⟨"Nominator", "needName", "(CCCC)V"⟩ ∈ gw := gw_ins (List.mem_of_getElem? (i := 25) (by rfl)) (by rfl)
