def jW : List Cond := lw_tbl.filter goodWord
theorem jW_mem {w : Cond} (h : w ∈ lw_tbl) (hg : goodWord w = true) : w ∈ jW := List.mem_filter.mpr ⟨h, hg⟩
theorem jW_in {w : Cond} (h : w ∈ jW) : w ∈ lw_tbl := (List.mem_filter.mp h).1
theorem jW_good {c : Cond} (h : c ∈ jW) : GoodIn jW (c :: jW) := fun w hw => by
  rcases List.mem_cons.mp hw with rfl | hw
  · exact ⟨h, good_of_word (List.mem_filter.mp h).2⟩
  · exact ⟨hw, good_of_word (List.mem_filter.mp hw).2⟩
theorem jW_t1 {w : Cond} {i : Nat} (h : tables_1_1[i]? = some w) (hg : goodWord w = true) : w ∈ jW := jW_mem (List.mem_append_right _ (List.mem_append_left _ (List.mem_of_getElem? h))) hg
theorem jW_t2 {w : Cond} {i : Nat} (h : tables_1_2[i]? = some w) (hg : goodWord w = true) : w ∈ jW := jW_mem (List.mem_append_right _ (List.mem_append_right _ (List.mem_append_left _ (List.mem_of_getElem? h)))) hg
theorem jW_t3 {w : Cond} {i : Nat} (h : tables_1_3[i]? = some w) (hg : goodWord w = true) : w ∈ jW := jW_mem (List.mem_append_right _ (List.mem_append_right _ (List.mem_append_right _ (List.mem_append_left _ (List.mem_of_getElem? h))))) hg
theorem jW_t4 {w : Cond} {i : Nat} (h : tables_1_4[i]? = some w) (hg : goodWord w = true) : w ∈ jW := jW_mem (List.mem_append_right _ (List.mem_append_right _ (List.mem_append_right _ (List.mem_append_right _ (List.mem_append_left _ (List.mem_of_getElem? h)))))) hg
theorem jW_t5 {w : Cond} {i : Nat} (h : tables_1_5[i]? = some w) (hg : goodWord w = true) : w ∈ jW := jW_mem (List.mem_append_right _ (List.mem_append_right _ (List.mem_append_right _ (List.mem_append_right _ (List.mem_append_right _ (List.mem_append_left _ (List.mem_of_getElem? h))))))) hg
theorem jW_t6 {w : Cond} {i : Nat} (h : tables_1_6[i]? = some w) (hg : goodWord w = true) : w ∈ jW := jW_mem (List.mem_append_right _ (List.mem_append_right _ (List.mem_append_right _ (List.mem_append_right _ (List.mem_append_right _ (List.mem_append_right _ (List.mem_append_left _ (List.mem_of_getElem? h)))))))) hg
theorem jW_t7 {w : Cond} {i : Nat} (h : tables_1_7[i]? = some w) (hg : goodWord w = true) : w ∈ jW := jW_mem (List.mem_append_right _ (List.mem_append_right _ (List.mem_append_right _ (List.mem_append_right _ (List.mem_append_right _ (List.mem_append_right _ (List.mem_append_right _ (List.mem_of_getElem? h)))))))) hg
theorem jW_p {y : MethodName} {i n : Nat} (h : lw_privs[i]? = some (y, n)) : Cond.selects y.cls y y ∈ jW := jW_mem (List.mem_append_left _ (List.mem_map.mpr ⟨(y, n), List.mem_of_getElem? h, rfl⟩)) rfl
set_option maxRecDepth 4000 in
theorem u0 : (Cond.initialized "PaperPocketLaw") ∈ jW := jW_t1 (i := 0) rfl rfl
set_option maxRecDepth 4000 in
theorem u1 : (Cond.initialized "PaperPocket") ∈ jW := jW_t1 (i := 1) rfl rfl
set_option maxRecDepth 4000 in
theorem u2 : (Cond.initialized "PaperPocket$Sheets") ∈ jW := jW_t1 (i := 2) rfl rfl
set_option maxRecDepth 4000 in
theorem u3 : (Cond.initialized "java/util/Arrays") ∈ jW := jW_t1 (i := 3) rfl rfl
set_option maxRecDepth 4000 in
theorem u4 : (Cond.initialized "PaperPocket$Offices") ∈ jW := jW_t1 (i := 4) rfl rfl
set_option maxRecDepth 4000 in
theorem u5 : (Cond.initialized "PaperPocket$Circle") ∈ jW := jW_t1 (i := 5) rfl rfl
set_option maxRecDepth 4000 in
theorem u6 : (Cond.initialized "PaperPocket$Gates") ∈ jW := jW_t1 (i := 6) rfl rfl
set_option maxRecDepth 4000 in
theorem u7 : (Cond.initialized "PaperPocket$Tape") ∈ jW := jW_t1 (i := 7) rfl rfl
set_option maxRecDepth 4000 in
theorem u8 : (Cond.initialized "PaperPocket$Choice") ∈ jW := jW_t1 (i := 8) rfl rfl
set_option maxRecDepth 4000 in
theorem u9 : (Cond.initialized "PaperPocket$Sightings") ∈ jW := jW_t1 (i := 9) rfl rfl
set_option maxRecDepth 4000 in
theorem u10 : (Cond.initialized "PaperPocket$Line") ∈ jW := jW_t1 (i := 10) rfl rfl
set_option maxRecDepth 4000 in
theorem u11 : (Cond.initialized "PaperPocket$Bodies") ∈ jW := jW_t1 (i := 11) rfl rfl
set_option maxRecDepth 4000 in
theorem u12 : (Cond.initialized "PaperPocketModel") ∈ jW := jW_t1 (i := 12) rfl rfl
set_option maxRecDepth 4000 in
theorem u13 : (Cond.initialized "java/lang/System") ∈ jW := jW_t1 (i := 13) rfl rfl
set_option maxRecDepth 4000 in
theorem u14 : (Cond.initialized "PaperPocket$Paper") ∈ jW := jW_t1 (i := 14) rfl rfl
set_option maxRecDepth 4000 in
theorem u15 : (Cond.initialized "java/lang/Math") ∈ jW := jW_t1 (i := 15) rfl rfl
set_option maxRecDepth 4000 in
theorem u16 : (Cond.initialized "java/lang/String") ∈ jW := jW_t1 (i := 16) rfl rfl
set_option maxRecDepth 4000 in
theorem u17 : (Cond.initialized "java/lang/StringLatin1") ∈ jW := jW_t1 (i := 17) rfl rfl
set_option maxRecDepth 4000 in
theorem u18 : (Cond.initialized "jdk/internal/util/Preconditions") ∈ jW := jW_t1 (i := 18) rfl rfl
set_option maxRecDepth 4000 in
theorem u19 : (Cond.initialized "java/lang/StringUTF16") ∈ jW := jW_t1 (i := 19) rfl rfl
set_option maxRecDepth 4000 in
theorem u20 : (Cond.initialized "java/lang/Integer") ∈ jW := jW_t1 (i := 20) rfl rfl
set_option maxRecDepth 4000 in
theorem u21 : (Cond.classLink "PaperPocketLaw" (7 : Nat) "PaperPocket") ∈ jW := jW_t1 (i := 21) rfl rfl
set_option maxRecDepth 4000 in
theorem u22 : (Cond.instantiable "PaperPocket" (15 : Nat)) ∈ jW := jW_t1 (i := 22) rfl rfl
set_option maxRecDepth 4000 in
theorem u23 : (Cond.methodLink "PaperPocketLaw" (9 : Nat) ({ cls := "PaperPocket", name := "<init>", desc := "()V" } : MethodName)) ∈ jW := jW_t1 (i := 23) rfl rfl
set_option maxRecDepth 4000 in
theorem u24 : (Cond.instanceMethod ({ cls := "PaperPocket", name := "<init>", desc := "()V" } : MethodName)) ∈ jW := jW_t1 (i := 24) rfl rfl
set_option maxRecDepth 4000 in
theorem u25 : (Cond.code ({ cls := "PaperPocket", name := "<init>", desc := "()V" } : MethodName) prog_1_method_1_code (2 : Nat) (Option.none : Option ClassFile.FieldType)) ∈ jW := jW_t1 (i := 25) rfl rfl
set_option maxRecDepth 4000 in
theorem u26 : (Cond.methodLink "PaperPocket" (3 : Nat) ({ cls := "java/lang/Object", name := "<init>", desc := "()V" } : MethodName)) ∈ jW := jW_t1 (i := 26) rfl rfl
set_option maxRecDepth 4000 in
theorem u27 : (Cond.instanceMethod ({ cls := "java/lang/Object", name := "<init>", desc := "()V" } : MethodName)) ∈ jW := jW_t1 (i := 27) rfl rfl
set_option maxRecDepth 4000 in
theorem u28 : (Cond.code ({ cls := "java/lang/Object", name := "<init>", desc := "()V" } : MethodName) object_method_1_code (1 : Nat) (Option.none : Option ClassFile.FieldType)) ∈ jW := jW_t1 (i := 28) rfl rfl
set_option maxRecDepth 4000 in
theorem u29 : (Cond.classLink "PaperPocket" (9 : Nat) "PaperPocket$Sheets") ∈ jW := jW_t1 (i := 29) rfl rfl
set_option maxRecDepth 4000 in
theorem u30 : (Cond.instantiable "PaperPocket$Sheets" (3 : Nat)) ∈ jW := jW_t1 (i := 30) rfl rfl
set_option maxRecDepth 4000 in
theorem u31 : (Cond.methodLink "PaperPocket" (11 : Nat) ({ cls := "PaperPocket$Sheets", name := "<init>", desc := "()V" } : MethodName)) ∈ jW := jW_t1 (i := 31) rfl rfl
set_option maxRecDepth 4000 in
theorem u32 : (Cond.instanceMethod ({ cls := "PaperPocket$Sheets", name := "<init>", desc := "()V" } : MethodName)) ∈ jW := jW_t1 (i := 32) rfl rfl
set_option maxRecDepth 4000 in
theorem u33 : (Cond.code ({ cls := "PaperPocket$Sheets", name := "<init>", desc := "()V" } : MethodName) prog_9_method_1_code (1 : Nat) (Option.none : Option ClassFile.FieldType)) ∈ jW := jW_t1 (i := 33) rfl rfl
set_option maxRecDepth 4000 in
theorem u34 : (Cond.methodLink "PaperPocket$Sheets" (3 : Nat) ({ cls := "java/lang/Object", name := "<init>", desc := "()V" } : MethodName)) ∈ jW := jW_t1 (i := 34) rfl rfl
set_option maxRecDepth 4000 in
theorem u35 : (Cond.classLink "PaperPocket$Sheets" (11 : Nat) "[[I") ∈ jW := jW_t1 (i := 35) rfl rfl
set_option maxRecDepth 4000 in
theorem u37 : (Cond.methodLink "PaperPocket$Sheets" (23 : Nat) ({ cls := "java/util/Arrays", name := "fill", desc := "([II)V" } : MethodName)) ∈ jW := jW_t1 (i := 37) rfl rfl
set_option maxRecDepth 4000 in
theorem u38 : (Cond.static ({ cls := "java/util/Arrays", name := "fill", desc := "([II)V" } : MethodName)) ∈ jW := jW_t1 (i := 38) rfl rfl
set_option maxRecDepth 4000 in
theorem u39 : (Cond.code ({ cls := "java/util/Arrays", name := "fill", desc := "([II)V" } : MethodName) prog_20_method_103_code (4 : Nat) (Option.none : Option ClassFile.FieldType)) ∈ jW := jW_t1 (i := 39) rfl rfl
set_option maxRecDepth 4000 in
theorem u40 : (Cond.fieldLink "PaperPocket$Sheets" (13 : Nat) "PaperPocket$Sheets" "items" "[[I") ∈ jW := jW_t1 (i := 40) rfl rfl
set_option maxRecDepth 4000 in
theorem u41 : (Cond.fieldLink "PaperPocket" (121 : Nat) "PaperPocket$Sheets" "items" "[[I") ∈ jW := jW_t1 (i := 41) rfl rfl
set_option maxRecDepth 4000 in
theorem u42 : (Cond.fieldLink "PaperPocket$Sheets" (16 : Nat) "PaperPocket$Sheets" "lanes" "[I") ∈ jW := jW_t1 (i := 42) rfl rfl
set_option maxRecDepth 4000 in
theorem u43 : (Cond.fieldLink "PaperPocket" (115 : Nat) "PaperPocket$Sheets" "lanes" "[I") ∈ jW := jW_t1 (i := 43) rfl rfl
set_option maxRecDepth 4000 in
theorem u44 : (Cond.fieldLink "PaperPocket$Sheets" (20 : Nat) "PaperPocket$Sheets" "sizes" "[I") ∈ jW := jW_t1 (i := 44) rfl rfl
set_option maxRecDepth 4000 in
theorem u52 : (Cond.arrayClass FieldType.int) ∈ jW := jW_t1 (i := 52) rfl rfl
set_option maxRecDepth 4000 in
theorem u53 : (Cond.classLink "PaperPocket" (16 : Nat) "PaperPocket$Offices") ∈ jW := jW_t1 (i := 53) rfl rfl
set_option maxRecDepth 4000 in
theorem u54 : (Cond.instantiable "PaperPocket$Offices" (5 : Nat)) ∈ jW := jW_t1 (i := 54) rfl rfl
set_option maxRecDepth 4000 in
theorem u55 : (Cond.methodLink "PaperPocket" (18 : Nat) ({ cls := "PaperPocket$Offices", name := "<init>", desc := "()V" } : MethodName)) ∈ jW := jW_t1 (i := 55) rfl rfl
set_option maxRecDepth 4000 in
theorem u56 : (Cond.instanceMethod ({ cls := "PaperPocket$Offices", name := "<init>", desc := "()V" } : MethodName)) ∈ jW := jW_t1 (i := 56) rfl rfl
set_option maxRecDepth 4000 in
theorem u57 : (Cond.code ({ cls := "PaperPocket$Offices", name := "<init>", desc := "()V" } : MethodName) prog_7_method_1_code (1 : Nat) (Option.none : Option ClassFile.FieldType)) ∈ jW := jW_t1 (i := 57) rfl rfl
set_option maxRecDepth 4000 in
theorem u58 : (Cond.methodLink "PaperPocket$Offices" (3 : Nat) ({ cls := "java/lang/Object", name := "<init>", desc := "()V" } : MethodName)) ∈ jW := jW_t1 (i := 58) rfl rfl
set_option maxRecDepth 4000 in
theorem u59 : (Cond.classLink "PaperPocket$Offices" (11 : Nat) "[[I") ∈ jW := jW_t1 (i := 59) rfl rfl
set_option maxRecDepth 4000 in
theorem u60 : (Cond.methodLink "PaperPocket$Offices" (29 : Nat) ({ cls := "java/util/Arrays", name := "fill", desc := "([II)V" } : MethodName)) ∈ jW := jW_t1 (i := 60) rfl rfl
set_option maxRecDepth 4000 in
theorem u61 : (Cond.fieldLink "PaperPocket$Offices" (13 : Nat) "PaperPocket$Offices" "keyDays" "[[I") ∈ jW := jW_t1 (i := 61) rfl rfl
set_option maxRecDepth 4000 in
theorem u62 : (Cond.fieldLink "PaperPocket$Offices" (16 : Nat) "PaperPocket$Offices" "keys" "[[I") ∈ jW := jW_t1 (i := 62) rfl rfl
set_option maxRecDepth 4000 in
theorem u63 : (Cond.fieldLink "PaperPocket$Offices" (19 : Nat) "PaperPocket$Offices" "keyCounts" "[I") ∈ jW := jW_t1 (i := 63) rfl rfl
set_option maxRecDepth 4000 in
theorem u64 : (Cond.fieldLink "PaperPocket" (144 : Nat) "PaperPocket$Offices" "keyCounts" "[I") ∈ jW := jW_t1 (i := 64) rfl rfl
set_option maxRecDepth 4000 in
theorem u65 : (Cond.fieldLink "PaperPocket$Offices" (23 : Nat) "PaperPocket$Offices" "burntFrom" "[I") ∈ jW := jW_t1 (i := 65) rfl rfl
set_option maxRecDepth 4000 in
theorem u66 : (Cond.fieldLink "PaperPocket" (152 : Nat) "PaperPocket$Offices" "burntFrom" "[I") ∈ jW := jW_t1 (i := 66) rfl rfl
set_option maxRecDepth 4000 in
theorem u67 : (Cond.fieldLink "PaperPocket$Offices" (26 : Nat) "PaperPocket$Offices" "endsOn" "[I") ∈ jW := jW_t1 (i := 67) rfl rfl
set_option maxRecDepth 4000 in
theorem u68 : (Cond.fieldLink "PaperPocket" (155 : Nat) "PaperPocket$Offices" "endsOn" "[I") ∈ jW := jW_t1 (i := 68) rfl rfl
set_option maxRecDepth 4000 in
theorem u80 : (Cond.classLink "PaperPocket" (23 : Nat) "PaperPocket$Paper") ∈ jW := jW_t1 (i := 80) rfl rfl
set_option maxRecDepth 4000 in
theorem u82 : (Cond.classLink "PaperPocket" (33 : Nat) "PaperPocket$Circle") ∈ jW := jW_t1 (i := 82) rfl rfl
set_option maxRecDepth 4000 in
theorem u83 : (Cond.instantiable "PaperPocket$Circle" (2 : Nat)) ∈ jW := jW_t1 (i := 83) rfl rfl
set_option maxRecDepth 4000 in
theorem u85 : (Cond.instanceMethod ({ cls := "PaperPocket$Circle", name := "<init>", desc := "()V" } : MethodName)) ∈ jW := jW_t1 (i := 85) rfl rfl
set_option maxRecDepth 4000 in
theorem u86 : (Cond.code ({ cls := "PaperPocket$Circle", name := "<init>", desc := "()V" } : MethodName) prog_4_method_1_code (1 : Nat) (Option.none : Option ClassFile.FieldType)) ∈ jW := jW_t1 (i := 86) rfl rfl
set_option maxRecDepth 4000 in
theorem u87 : (Cond.methodLink "PaperPocket$Circle" (1 : Nat) ({ cls := "java/lang/Object", name := "<init>", desc := "()V" } : MethodName)) ∈ jW := jW_t1 (i := 87) rfl rfl
set_option maxRecDepth 4000 in
theorem u88 : (Cond.fieldLink "PaperPocket$Circle" (9 : Nat) "PaperPocket$Circle" "numbers" "[I") ∈ jW := jW_t1 (i := 88) rfl rfl
set_option maxRecDepth 4000 in
theorem u89 : (Cond.fieldLink "PaperPocket$Circle" (13 : Nat) "PaperPocket$Circle" "parts" "[I") ∈ jW := jW_t1 (i := 89) rfl rfl
set_option maxRecDepth 4000 in
theorem u95 : (Cond.classLink "PaperPocket" (40 : Nat) "PaperPocket$Gates") ∈ jW := jW_t1 (i := 95) rfl rfl
set_option maxRecDepth 4000 in
theorem u96 : (Cond.instantiable "PaperPocket$Gates" (6 : Nat)) ∈ jW := jW_t1 (i := 96) rfl rfl
set_option maxRecDepth 4000 in
theorem u97 : (Cond.methodLink "PaperPocket" (42 : Nat) ({ cls := "PaperPocket$Gates", name := "<init>", desc := "()V" } : MethodName)) ∈ jW := jW_t1 (i := 97) rfl rfl
set_option maxRecDepth 4000 in
theorem u98 : (Cond.instanceMethod ({ cls := "PaperPocket$Gates", name := "<init>", desc := "()V" } : MethodName)) ∈ jW := jW_t1 (i := 98) rfl rfl
set_option maxRecDepth 4000 in
theorem u99 : (Cond.code ({ cls := "PaperPocket$Gates", name := "<init>", desc := "()V" } : MethodName) prog_5_method_1_code (1 : Nat) (Option.none : Option ClassFile.FieldType)) ∈ jW := jW_t1 (i := 99) rfl rfl
set_option maxRecDepth 4000 in
theorem u100 : (Cond.methodLink "PaperPocket$Gates" (3 : Nat) ({ cls := "java/lang/Object", name := "<init>", desc := "()V" } : MethodName)) ∈ jW := jW_t1 (i := 100) rfl rfl
set_option maxRecDepth 4000 in
theorem u101 : (Cond.classLink "PaperPocket$Gates" (21 : Nat) "[[I") ∈ jW := jW_t1 (i := 101) rfl rfl
set_option maxRecDepth 4000 in
theorem u102 : (Cond.methodLink "PaperPocket$Gates" (32 : Nat) ({ cls := "java/util/Arrays", name := "fill", desc := "([II)V" } : MethodName)) ∈ jW := jW_t1 (i := 102) rfl rfl
set_option maxRecDepth 4000 in
theorem u103 : (Cond.fieldLink "PaperPocket$Gates" (9 : Nat) "PaperPocket$Gates" "bookDays" "[I") ∈ jW := jW_t1 (i := 103) rfl rfl
set_option maxRecDepth 4000 in
theorem u104 : (Cond.fieldLink "PaperPocket" (262 : Nat) "PaperPocket$Gates" "bookDays" "[I") ∈ jW := jW_t1 (i := 104) rfl rfl
set_option maxRecDepth 4000 in
theorem u105 : (Cond.fieldLink "PaperPocket$Gates" (15 : Nat) "PaperPocket$Gates" "rights" "[I") ∈ jW := jW_t1 (i := 105) rfl rfl
set_option maxRecDepth 4000 in
theorem u106 : (Cond.fieldLink "PaperPocket$Tape" (90 : Nat) "PaperPocket$Gates" "rights" "[I") ∈ jW := jW_t1 (i := 106) rfl rfl
set_option maxRecDepth 4000 in
theorem u107 : (Cond.fieldLink "PaperPocket" (289 : Nat) "PaperPocket$Gates" "rights" "[I") ∈ jW := jW_t1 (i := 107) rfl rfl
set_option maxRecDepth 4000 in
theorem u108 : (Cond.fieldLink "PaperPocket$Gates" (18 : Nat) "PaperPocket$Gates" "askCounts" "[I") ∈ jW := jW_t1 (i := 108) rfl rfl
set_option maxRecDepth 4000 in
theorem u109 : (Cond.fieldLink "PaperPocket$Tape" (65 : Nat) "PaperPocket$Gates" "askCounts" "[I") ∈ jW := jW_t1 (i := 109) rfl rfl
set_option maxRecDepth 4000 in
theorem u110 : (Cond.fieldLink "PaperPocket" (286 : Nat) "PaperPocket$Gates" "askCounts" "[I") ∈ jW := jW_t1 (i := 110) rfl rfl
set_option maxRecDepth 4000 in
theorem u111 : (Cond.fieldLink "PaperPocket$Gates" (23 : Nat) "PaperPocket$Gates" "whats" "[[I") ∈ jW := jW_t1 (i := 111) rfl rfl
set_option maxRecDepth 4000 in
theorem u112 : (Cond.fieldLink "PaperPocket$Gates" (26 : Nat) "PaperPocket$Gates" "wheres" "[[I") ∈ jW := jW_t1 (i := 112) rfl rfl
set_option maxRecDepth 4000 in
theorem u113 : (Cond.fieldLink "PaperPocket$Gates" (29 : Nat) "PaperPocket$Gates" "bounds" "[[I") ∈ jW := jW_t1 (i := 113) rfl rfl
set_option maxRecDepth 4000 in
theorem u127 : (Cond.classLink "PaperPocket" (47 : Nat) "PaperPocket$Tape") ∈ jW := jW_t1 (i := 127) rfl rfl
set_option maxRecDepth 4000 in
theorem u128 : (Cond.instantiable "PaperPocket$Tape" (9 : Nat)) ∈ jW := jW_t1 (i := 128) rfl rfl
set_option maxRecDepth 4000 in
theorem u130 : (Cond.instanceMethod ({ cls := "PaperPocket$Tape", name := "<init>", desc := "()V" } : MethodName)) ∈ jW := jW_t1 (i := 130) rfl rfl
set_option maxRecDepth 4000 in
theorem u131 : (Cond.code ({ cls := "PaperPocket$Tape", name := "<init>", desc := "()V" } : MethodName) prog_11_method_1_code (1 : Nat) (Option.none : Option ClassFile.FieldType)) ∈ jW := jW_t1 (i := 131) rfl rfl
set_option maxRecDepth 4000 in
theorem u132 : (Cond.methodLink "PaperPocket$Tape" (3 : Nat) ({ cls := "java/lang/Object", name := "<init>", desc := "()V" } : MethodName)) ∈ jW := jW_t1 (i := 132) rfl rfl
set_option maxRecDepth 4000 in
theorem u133 : (Cond.fieldLink "PaperPocket$Tape" (11 : Nat) "PaperPocket$Tape" "bytes" "[B") ∈ jW := jW_t1 (i := 133) rfl rfl
set_option maxRecDepth 4000 in
theorem u134 : (Cond.fieldLink "PaperPocket$Tape" (15 : Nat) "PaperPocket$Tape" "size" "I") ∈ jW := jW_t1 (i := 134) rfl rfl
set_option maxRecDepth 4000 in
theorem u135 : (Cond.fieldLink "PaperPocket" (276 : Nat) "PaperPocket$Tape" "size" "I") ∈ jW := jW_t1 (i := 135) rfl rfl
set_option maxRecDepth 4000 in
theorem u136 : (Cond.fieldLink "PaperPocket$Tape" (93 : Nat) "PaperPocket$Tape" "latestFault" "I") ∈ jW := jW_t1 (i := 136) rfl rfl
set_option maxRecDepth 4000 in
theorem u137 : (Cond.fieldLink "PaperPocket" (283 : Nat) "PaperPocket$Tape" "latestFault" "I") ∈ jW := jW_t1 (i := 137) rfl rfl
set_option maxRecDepth 4000 in
theorem u138 : (Cond.fieldLink "PaperPocket$Tape" (28 : Nat) "PaperPocket$Tape" "faultPlace" "I") ∈ jW := jW_t1 (i := 138) rfl rfl
set_option maxRecDepth 4000 in
theorem u139 : (Cond.fieldLink "PaperPocket$Tape" (19 : Nat) "PaperPocket$Tape" "doing" "Z") ∈ jW := jW_t1 (i := 139) rfl rfl
set_option maxRecDepth 4000 in
theorem u140 : (Cond.fieldLink "PaperPocket$Tape" (31 : Nat) "PaperPocket$Tape" "next" "I") ∈ jW := jW_t1 (i := 140) rfl rfl
set_option maxRecDepth 4000 in
theorem u141 : (Cond.fieldLink "PaperPocket$Tape" (96 : Nat) "PaperPocket$Tape" "tokenStart" "I") ∈ jW := jW_t1 (i := 141) rfl rfl
set_option maxRecDepth 4000 in
theorem u142 : (Cond.fieldLink "PaperPocket$Tape" (37 : Nat) "PaperPocket$Tape" "token" "I") ∈ jW := jW_t1 (i := 142) rfl rfl
set_option maxRecDepth 4000 in
theorem u143 : (Cond.fieldLink "PaperPocket$Tape" (62 : Nat) "PaperPocket$Tape" "value" "I") ∈ jW := jW_t1 (i := 143) rfl rfl
set_option maxRecDepth 4000 in
theorem u163 : (Cond.arrayClass FieldType.byte) ∈ jW := jW_t1 (i := 163) rfl rfl
set_option maxRecDepth 4000 in
theorem u164 : (Cond.classLink "PaperPocket" (54 : Nat) "PaperPocket$Choice") ∈ jW := jW_t1 (i := 164) rfl rfl
set_option maxRecDepth 4000 in
theorem u165 : (Cond.instantiable "PaperPocket$Choice" (2 : Nat)) ∈ jW := jW_t1 (i := 165) rfl rfl
set_option maxRecDepth 4000 in
theorem u167 : (Cond.instanceMethod ({ cls := "PaperPocket$Choice", name := "<init>", desc := "()V" } : MethodName)) ∈ jW := jW_t1 (i := 167) rfl rfl
set_option maxRecDepth 4000 in
theorem u168 : (Cond.code ({ cls := "PaperPocket$Choice", name := "<init>", desc := "()V" } : MethodName) prog_3_method_1_code (1 : Nat) (Option.none : Option ClassFile.FieldType)) ∈ jW := jW_t1 (i := 168) rfl rfl
set_option maxRecDepth 4000 in
theorem u169 : (Cond.methodLink "PaperPocket$Choice" (3 : Nat) ({ cls := "java/lang/Object", name := "<init>", desc := "()V" } : MethodName)) ∈ jW := jW_t1 (i := 169) rfl rfl
set_option maxRecDepth 4000 in
theorem u170 : (Cond.fieldLink "PaperPocket$Choice" (11 : Nat) "PaperPocket$Choice" "bests" "[I") ∈ jW := jW_t1 (i := 170) rfl rfl
set_option maxRecDepth 4000 in
theorem u171 : (Cond.fieldLink "PaperPocket$Choice" (23 : Nat) "PaperPocket$Choice" "states" "I") ∈ jW := jW_t1 (i := 171) rfl rfl
set_option maxRecDepth 4000 in
theorem u177 : (Cond.classLink "PaperPocket" (61 : Nat) "PaperPocket$Sightings") ∈ jW := jW_t1 (i := 177) rfl rfl
set_option maxRecDepth 4000 in
theorem u178 : (Cond.instantiable "PaperPocket$Sightings" (3 : Nat)) ∈ jW := jW_t1 (i := 178) rfl rfl
set_option maxRecDepth 4000 in
theorem u180 : (Cond.instanceMethod ({ cls := "PaperPocket$Sightings", name := "<init>", desc := "()V" } : MethodName)) ∈ jW := jW_t1 (i := 180) rfl rfl
set_option maxRecDepth 4000 in
theorem u181 : (Cond.code ({ cls := "PaperPocket$Sightings", name := "<init>", desc := "()V" } : MethodName) prog_10_method_1_code (1 : Nat) (Option.none : Option ClassFile.FieldType)) ∈ jW := jW_t1 (i := 181) rfl rfl
set_option maxRecDepth 4000 in
theorem u182 : (Cond.methodLink "PaperPocket$Sightings" (1 : Nat) ({ cls := "java/lang/Object", name := "<init>", desc := "()V" } : MethodName)) ∈ jW := jW_t1 (i := 182) rfl rfl
set_option maxRecDepth 4000 in
theorem u183 : (Cond.fieldLink "PaperPocket$Sightings" (9 : Nat) "PaperPocket$Sightings" "papers" "[I") ∈ jW := jW_t1 (i := 183) rfl rfl
set_option maxRecDepth 4000 in
theorem u184 : (Cond.fieldLink "PaperPocket" (308 : Nat) "PaperPocket$Sightings" "papers" "[I") ∈ jW := jW_t1 (i := 184) rfl rfl
set_option maxRecDepth 4000 in
theorem u185 : (Cond.fieldLink "PaperPocket$Sightings" (13 : Nat) "PaperPocket$Sightings" "sets" "[I") ∈ jW := jW_t1 (i := 185) rfl rfl
set_option maxRecDepth 4000 in
theorem u186 : (Cond.fieldLink "PaperPocket" (310 : Nat) "PaperPocket$Sightings" "sets" "[I") ∈ jW := jW_t1 (i := 186) rfl rfl
set_option maxRecDepth 4000 in
theorem u187 : (Cond.fieldLink "PaperPocket$Sightings" (16 : Nat) "PaperPocket$Sightings" "count" "I") ∈ jW := jW_t1 (i := 187) rfl rfl
set_option maxRecDepth 4000 in
theorem u188 : (Cond.fieldLink "PaperPocket" (302 : Nat) "PaperPocket$Sightings" "count" "I") ∈ jW := jW_t1 (i := 188) rfl rfl
set_option maxRecDepth 4000 in
theorem u196 : (Cond.classLink "PaperPocket" (68 : Nat) "PaperPocket$Line") ∈ jW := jW_t1 (i := 196) rfl rfl
set_option maxRecDepth 4000 in
theorem u197 : (Cond.instantiable "PaperPocket$Line" (6 : Nat)) ∈ jW := jW_t1 (i := 197) rfl rfl
set_option maxRecDepth 4000 in
theorem u199 : (Cond.instanceMethod ({ cls := "PaperPocket$Line", name := "<init>", desc := "()V" } : MethodName)) ∈ jW := jW_t1 (i := 199) rfl rfl
set_option maxRecDepth 4000 in
theorem u200 : (Cond.code ({ cls := "PaperPocket$Line", name := "<init>", desc := "()V" } : MethodName) prog_6_method_1_code (1 : Nat) (Option.none : Option ClassFile.FieldType)) ∈ jW := jW_t1 (i := 200) rfl rfl
set_option maxRecDepth 4000 in
theorem u201 : (Cond.methodLink "PaperPocket$Line" (1 : Nat) ({ cls := "java/lang/Object", name := "<init>", desc := "()V" } : MethodName)) ∈ jW := jW_t1 (i := 201) rfl rfl
set_option maxRecDepth 4000 in
theorem u202 : (Cond.fieldLink "PaperPocket$Line" (9 : Nat) "PaperPocket$Line" "comings" "[I") ∈ jW := jW_t1 (i := 202) rfl rfl
set_option maxRecDepth 4000 in
theorem u203 : (Cond.fieldLink "PaperPocket$Line" (13 : Nat) "PaperPocket$Line" "lengths" "[I") ∈ jW := jW_t1 (i := 203) rfl rfl
set_option maxRecDepth 4000 in
theorem u204 : (Cond.fieldLink "PaperPocket$Line" (16 : Nat) "PaperPocket$Line" "order" "[I") ∈ jW := jW_t1 (i := 204) rfl rfl
set_option maxRecDepth 4000 in
theorem u205 : (Cond.fieldLink "PaperPocket$Line" (19 : Nat) "PaperPocket$Line" "bestOrder" "[I") ∈ jW := jW_t1 (i := 205) rfl rfl
set_option maxRecDepth 4000 in
theorem u206 : (Cond.fieldLink "PaperPocket" (323 : Nat) "PaperPocket$Line" "bestOrder" "[I") ∈ jW := jW_t1 (i := 206) rfl rfl
set_option maxRecDepth 4000 in
theorem u207 : (Cond.fieldLink "PaperPocket$Line" (35 : Nat) "PaperPocket$Line" "bestSum" "I") ∈ jW := jW_t1 (i := 207) rfl rfl
set_option maxRecDepth 4000 in
theorem u208 : (Cond.fieldLink "PaperPocket" (320 : Nat) "PaperPocket$Line" "bestSum" "I") ∈ jW := jW_t1 (i := 208) rfl rfl
set_option maxRecDepth 4000 in
theorem u209 : (Cond.fieldLink "PaperPocket$Line" (22 : Nat) "PaperPocket$Line" "works" "I") ∈ jW := jW_t1 (i := 209) rfl rfl
set_option maxRecDepth 4000 in
theorem u223 : (Cond.classLink "PaperPocket" (75 : Nat) "PaperPocket$Bodies") ∈ jW := jW_t1 (i := 223) rfl rfl
set_option maxRecDepth 4000 in
theorem u224 : (Cond.instantiable "PaperPocket$Bodies" (2 : Nat)) ∈ jW := jW_t1 (i := 224) rfl rfl
set_option maxRecDepth 4000 in
theorem u226 : (Cond.instanceMethod ({ cls := "PaperPocket$Bodies", name := "<init>", desc := "()V" } : MethodName)) ∈ jW := jW_t1 (i := 226) rfl rfl
set_option maxRecDepth 4000 in
theorem u227 : (Cond.code ({ cls := "PaperPocket$Bodies", name := "<init>", desc := "()V" } : MethodName) prog_2_method_1_code (1 : Nat) (Option.none : Option ClassFile.FieldType)) ∈ jW := jW_t1 (i := 227) rfl rfl
set_option maxRecDepth 4000 in
theorem u228 : (Cond.methodLink "PaperPocket$Bodies" (3 : Nat) ({ cls := "java/lang/Object", name := "<init>", desc := "()V" } : MethodName)) ∈ jW := jW_t1 (i := 228) rfl rfl
set_option maxRecDepth 4000 in
theorem u229 : (Cond.fieldLink "PaperPocket$Bodies" (11 : Nat) "PaperPocket$Bodies" "traced" "[I") ∈ jW := jW_t1 (i := 229) rfl rfl
set_option maxRecDepth 4000 in
theorem u230 : (Cond.fieldLink "PaperPocket" (342 : Nat) "PaperPocket$Bodies" "traced" "[I") ∈ jW := jW_t1 (i := 230) rfl rfl
set_option maxRecDepth 4000 in
theorem u231 : (Cond.fieldLink "PaperPocket$Bodies" (15 : Nat) "PaperPocket$Bodies" "traceCount" "I") ∈ jW := jW_t1 (i := 231) rfl rfl
set_option maxRecDepth 4000 in
theorem u232 : (Cond.fieldLink "PaperPocket" (332 : Nat) "PaperPocket$Bodies" "traceCount" "I") ∈ jW := jW_t1 (i := 232) rfl rfl
set_option maxRecDepth 4000 in
theorem u238 : (Cond.fieldLink "PaperPocket" (12 : Nat) "PaperPocket" "sheets" "LPaperPocket$Sheets;") ∈ jW := jW_t1 (i := 238) rfl rfl
set_option maxRecDepth 4000 in
theorem u239 : (Cond.fieldLink "PaperPocket" (19 : Nat) "PaperPocket" "offices" "LPaperPocket$Offices;") ∈ jW := jW_t1 (i := 239) rfl rfl
set_option maxRecDepth 4000 in
theorem u240 : (Cond.fieldLink "PaperPocket" (25 : Nat) "PaperPocket" "papers" "[LPaperPocket$Paper;") ∈ jW := jW_t2 (i := 0) rfl rfl
set_option maxRecDepth 4000 in
theorem u241 : (Cond.fieldLink "PaperPocket" (29 : Nat) "PaperPocket" "secrets" "[I") ∈ jW := jW_t2 (i := 1) rfl rfl
set_option maxRecDepth 4000 in
theorem u242 : (Cond.fieldLink "PaperPocket" (36 : Nat) "PaperPocket" "circle" "LPaperPocket$Circle;") ∈ jW := jW_t2 (i := 2) rfl rfl
set_option maxRecDepth 4000 in
theorem u243 : (Cond.fieldLink "PaperPocket" (43 : Nat) "PaperPocket" "gates" "LPaperPocket$Gates;") ∈ jW := jW_t2 (i := 3) rfl rfl
set_option maxRecDepth 4000 in
theorem u244 : (Cond.fieldLink "PaperPocket" (50 : Nat) "PaperPocket" "tape" "LPaperPocket$Tape;") ∈ jW := jW_t2 (i := 4) rfl rfl
set_option maxRecDepth 4000 in
theorem u245 : (Cond.fieldLink "PaperPocket" (57 : Nat) "PaperPocket" "choice" "LPaperPocket$Choice;") ∈ jW := jW_t2 (i := 5) rfl rfl
set_option maxRecDepth 4000 in
theorem u246 : (Cond.fieldLink "PaperPocket" (64 : Nat) "PaperPocket" "sightings" "LPaperPocket$Sightings;") ∈ jW := jW_t2 (i := 6) rfl rfl
set_option maxRecDepth 4000 in
theorem u247 : (Cond.fieldLink "PaperPocket" (71 : Nat) "PaperPocket" "line" "LPaperPocket$Line;") ∈ jW := jW_t2 (i := 7) rfl rfl
set_option maxRecDepth 4000 in
theorem u248 : (Cond.fieldLink "PaperPocket" (78 : Nat) "PaperPocket" "bodies" "LPaperPocket$Bodies;") ∈ jW := jW_t2 (i := 8) rfl rfl
set_option maxRecDepth 4000 in
theorem u249 : (Cond.fieldLink "PaperPocket" (82 : Nat) "PaperPocket" "shown" "[I") ∈ jW := jW_t2 (i := 9) rfl rfl
set_option maxRecDepth 4000 in
theorem u250 : (Cond.fieldLink "PaperPocket" (159 : Nat) "PaperPocket" "paperCount" "I") ∈ jW := jW_t2 (i := 10) rfl rfl
set_option maxRecDepth 4000 in
theorem u251 : (Cond.fieldLink "PaperPocket" (326 : Nat) "PaperPocket" "theDay" "I") ∈ jW := jW_t2 (i := 11) rfl rfl
set_option maxRecDepth 4000 in
theorem u252 : (Cond.fieldLink "PaperPocket" (354 : Nat) "PaperPocket" "latestFinding" "I") ∈ jW := jW_t2 (i := 12) rfl rfl
set_option maxRecDepth 4000 in
theorem u284 : (Cond.methodLink "PaperPocketLaw" (13 : Nat) ({ cls := "PaperPocket", name := "sheet", desc := "(III)I" } : MethodName)) ∈ jW := jW_t2 (i := 44) rfl rfl
set_option maxRecDepth 4000 in
theorem u285 : (Cond.instanceMethod ({ cls := "PaperPocket", name := "sheet", desc := "(III)I" } : MethodName)) ∈ jW := jW_t2 (i := 45) rfl rfl
set_option maxRecDepth 4000 in
theorem u286 : (Cond.selects "PaperPocket" ({ cls := "PaperPocket", name := "sheet", desc := "(III)I" } : MethodName) ({ cls := "PaperPocket", name := "sheet", desc := "(III)I" } : MethodName)) ∈ jW := jW_t2 (i := 46) rfl rfl
set_option maxRecDepth 4000 in
theorem u287 : (Cond.code ({ cls := "PaperPocket", name := "sheet", desc := "(III)I" } : MethodName) prog_1_method_2_code (4 : Nat) (Option.some FieldType.int)) ∈ jW := jW_t2 (i := 47) rfl rfl
set_option maxRecDepth 4000 in
theorem u288 : (Cond.methodLink "PaperPocket" (85 : Nat) ({ cls := "PaperPocket$Sheets", name := "isNumber", desc := "(I)Z" } : MethodName)) ∈ jW := jW_t2 (i := 48) rfl rfl
set_option maxRecDepth 4000 in
theorem u289 : (Cond.static ({ cls := "PaperPocket$Sheets", name := "isNumber", desc := "(I)Z" } : MethodName)) ∈ jW := jW_t2 (i := 49) rfl rfl
set_option maxRecDepth 4000 in
theorem u290 : (Cond.code ({ cls := "PaperPocket$Sheets", name := "isNumber", desc := "(I)Z" } : MethodName) prog_9_method_2_code (1 : Nat) (Option.some FieldType.boolean)) ∈ jW := jW_t2 (i := 50) rfl rfl
set_option maxRecDepth 4000 in
theorem u292 : (Cond.static ({ cls := "PaperPocket", name := "within", desc := "(III)Z" } : MethodName)) ∈ jW := jW_t2 (i := 52) rfl rfl
set_option maxRecDepth 4000 in
theorem u293 : (Cond.code ({ cls := "PaperPocket", name := "within", desc := "(III)Z" } : MethodName) prog_1_method_42_code (3 : Nat) (Option.some FieldType.boolean)) ∈ jW := jW_t2 (i := 53) rfl rfl
set_option maxRecDepth 4000 in
theorem u294 : (Cond.methodLink "PaperPocket" (89 : Nat) ({ cls := "PaperPocket", name := "within", desc := "(III)Z" } : MethodName)) ∈ jW := jW_t2 (i := 54) rfl rfl
set_option maxRecDepth 4000 in
theorem u295 : (Cond.constant "PaperPocket" (93 : Nat) (-1000001 : Int32)) ∈ jW := jW_t2 (i := 55) rfl rfl
set_option maxRecDepth 4000 in
theorem u296 : (Cond.methodLink "PaperPocket" (94 : Nat) ({ cls := "PaperPocket", name := "finding", desc := "(I)I" } : MethodName)) ∈ jW := jW_t2 (i := 56) rfl rfl
set_option maxRecDepth 4000 in
theorem u298 : (Cond.instanceMethod ({ cls := "PaperPocket", name := "finding", desc := "(I)I" } : MethodName)) ∈ jW := jW_t2 (i := 58) rfl rfl
set_option maxRecDepth 4000 in
theorem u299 : (Cond.code ({ cls := "PaperPocket", name := "finding", desc := "(I)I" } : MethodName) prog_1_method_40_code (2 : Nat) (Option.some FieldType.int)) ∈ jW := jW_t2 (i := 59) rfl rfl
set_option maxRecDepth 4000 in
theorem u300 : (Cond.constant "PaperPocket" (357 : Nat) (-1000010 : Int32)) ∈ jW := jW_t2 (i := 60) rfl rfl
set_option maxRecDepth 4000 in
theorem u301 : (Cond.methodLink "PaperPocket" (98 : Nat) ({ cls := "PaperPocket$Sheets", name := "make", desc := "(III)V" } : MethodName)) ∈ jW := jW_t2 (i := 61) rfl rfl
set_option maxRecDepth 4000 in
theorem u302 : (Cond.instanceMethod ({ cls := "PaperPocket$Sheets", name := "make", desc := "(III)V" } : MethodName)) ∈ jW := jW_t2 (i := 62) rfl rfl
set_option maxRecDepth 4000 in
theorem u303 : (Cond.selects "PaperPocket$Sheets" ({ cls := "PaperPocket$Sheets", name := "make", desc := "(III)V" } : MethodName) ({ cls := "PaperPocket$Sheets", name := "make", desc := "(III)V" } : MethodName)) ∈ jW := jW_t2 (i := 63) rfl rfl
set_option maxRecDepth 4000 in
theorem u304 : (Cond.code ({ cls := "PaperPocket$Sheets", name := "make", desc := "(III)V" } : MethodName) prog_9_method_6_code (4 : Nat) (Option.none : Option ClassFile.FieldType)) ∈ jW := jW_t2 (i := 64) rfl rfl
set_option maxRecDepth 4000 in
theorem u305 : (Cond.methodLink "PaperPocket" (102 : Nat) ({ cls := "PaperPocket", name := "found", desc := "(I)I" } : MethodName)) ∈ jW := jW_t2 (i := 65) rfl rfl
set_option maxRecDepth 4000 in
theorem u307 : (Cond.instanceMethod ({ cls := "PaperPocket", name := "found", desc := "(I)I" } : MethodName)) ∈ jW := jW_t2 (i := 67) rfl rfl
set_option maxRecDepth 4000 in
theorem u308 : (Cond.code ({ cls := "PaperPocket", name := "found", desc := "(I)I" } : MethodName) prog_1_method_41_code (2 : Nat) (Option.some FieldType.int)) ∈ jW := jW_t2 (i := 68) rfl rfl
set_option maxRecDepth 4000 in
theorem u309 : (Cond.methodLink "PaperPocketLaw" (18 : Nat) ({ cls := "PaperPocket", name := "set", desc := "(III)I" } : MethodName)) ∈ jW := jW_t2 (i := 69) rfl rfl
set_option maxRecDepth 4000 in
theorem u310 : (Cond.instanceMethod ({ cls := "PaperPocket", name := "set", desc := "(III)I" } : MethodName)) ∈ jW := jW_t2 (i := 70) rfl rfl
set_option maxRecDepth 4000 in
theorem u311 : (Cond.selects "PaperPocket" ({ cls := "PaperPocket", name := "set", desc := "(III)I" } : MethodName) ({ cls := "PaperPocket", name := "set", desc := "(III)I" } : MethodName)) ∈ jW := jW_t2 (i := 71) rfl rfl
set_option maxRecDepth 4000 in
theorem u312 : (Cond.code ({ cls := "PaperPocket", name := "set", desc := "(III)I" } : MethodName) prog_1_method_3_code (5 : Nat) (Option.some FieldType.int)) ∈ jW := jW_t2 (i := 72) rfl rfl
set_option maxRecDepth 4000 in
theorem u313 : (Cond.methodLink "PaperPocket" (105 : Nat) ({ cls := "PaperPocket$Sheets", name := "troubleAt", desc := "(III)I" } : MethodName)) ∈ jW := jW_t2 (i := 73) rfl rfl
set_option maxRecDepth 4000 in
theorem u314 : (Cond.instanceMethod ({ cls := "PaperPocket$Sheets", name := "troubleAt", desc := "(III)I" } : MethodName)) ∈ jW := jW_t2 (i := 74) rfl rfl
set_option maxRecDepth 4000 in
theorem u315 : (Cond.selects "PaperPocket$Sheets" ({ cls := "PaperPocket$Sheets", name := "troubleAt", desc := "(III)I" } : MethodName) ({ cls := "PaperPocket$Sheets", name := "troubleAt", desc := "(III)I" } : MethodName)) ∈ jW := jW_t2 (i := 75) rfl rfl
set_option maxRecDepth 4000 in
theorem u316 : (Cond.code ({ cls := "PaperPocket$Sheets", name := "troubleAt", desc := "(III)I" } : MethodName) prog_9_method_5_code (4 : Nat) (Option.some FieldType.int)) ∈ jW := jW_t2 (i := 76) rfl rfl
set_option maxRecDepth 4000 in
theorem u317 : (Cond.methodLink "PaperPocket$Sheets" (33 : Nat) ({ cls := "PaperPocket$Sheets", name := "isMissing", desc := "(I)Z" } : MethodName)) ∈ jW := jW_t2 (i := 77) rfl rfl
set_option maxRecDepth 4000 in
theorem u318 : (Cond.instanceMethod ({ cls := "PaperPocket$Sheets", name := "isMissing", desc := "(I)Z" } : MethodName)) ∈ jW := jW_t2 (i := 78) rfl rfl
set_option maxRecDepth 4000 in
theorem u319 : (Cond.selects "PaperPocket$Sheets" ({ cls := "PaperPocket$Sheets", name := "isMissing", desc := "(I)Z" } : MethodName) ({ cls := "PaperPocket$Sheets", name := "isMissing", desc := "(I)Z" } : MethodName)) ∈ jW := jW_t2 (i := 79) rfl rfl
set_option maxRecDepth 4000 in
theorem u320 : (Cond.code ({ cls := "PaperPocket$Sheets", name := "isMissing", desc := "(I)Z" } : MethodName) prog_9_method_3_code (2 : Nat) (Option.some FieldType.boolean)) ∈ jW := jW_t2 (i := 80) rfl rfl
set_option maxRecDepth 4000 in
theorem u321 : (Cond.methodLink "PaperPocket$Sheets" (37 : Nat) ({ cls := "PaperPocket$Sheets", name := "reaches", desc := "(III)Z" } : MethodName)) ∈ jW := jW_t2 (i := 81) rfl rfl
set_option maxRecDepth 4000 in
theorem u322 : (Cond.instanceMethod ({ cls := "PaperPocket$Sheets", name := "reaches", desc := "(III)Z" } : MethodName)) ∈ jW := jW_t2 (i := 82) rfl rfl
set_option maxRecDepth 4000 in
theorem u323 : (Cond.selects "PaperPocket$Sheets" ({ cls := "PaperPocket$Sheets", name := "reaches", desc := "(III)Z" } : MethodName) ({ cls := "PaperPocket$Sheets", name := "reaches", desc := "(III)Z" } : MethodName)) ∈ jW := jW_t2 (i := 83) rfl rfl
set_option maxRecDepth 4000 in
theorem u324 : (Cond.code ({ cls := "PaperPocket$Sheets", name := "reaches", desc := "(III)Z" } : MethodName) prog_9_method_4_code (4 : Nat) (Option.some FieldType.boolean)) ∈ jW := jW_t2 (i := 84) rfl rfl
set_option maxRecDepth 4000 in
theorem u325 : (Cond.methodLink "PaperPocket" (109 : Nat) ({ cls := "PaperPocket$Sheets", name := "put", desc := "(III)I" } : MethodName)) ∈ jW := jW_t2 (i := 85) rfl rfl
set_option maxRecDepth 4000 in
theorem u326 : (Cond.instanceMethod ({ cls := "PaperPocket$Sheets", name := "put", desc := "(III)I" } : MethodName)) ∈ jW := jW_t2 (i := 86) rfl rfl
set_option maxRecDepth 4000 in
theorem u327 : (Cond.selects "PaperPocket$Sheets" ({ cls := "PaperPocket$Sheets", name := "put", desc := "(III)I" } : MethodName) ({ cls := "PaperPocket$Sheets", name := "put", desc := "(III)I" } : MethodName)) ∈ jW := jW_t2 (i := 87) rfl rfl
set_option maxRecDepth 4000 in
theorem u328 : (Cond.code ({ cls := "PaperPocket$Sheets", name := "put", desc := "(III)I" } : MethodName) prog_9_method_7_code (6 : Nat) (Option.some FieldType.int)) ∈ jW := jW_t2 (i := 88) rfl rfl
set_option maxRecDepth 4000 in
theorem u329 : (Cond.methodLink "PaperPocketLaw" (22 : Nat) ({ cls := "PaperPocket", name := "copy", desc := "(IIIII)I" } : MethodName)) ∈ jW := jW_t2 (i := 89) rfl rfl
set_option maxRecDepth 4000 in
theorem u330 : (Cond.instanceMethod ({ cls := "PaperPocket", name := "copy", desc := "(IIIII)I" } : MethodName)) ∈ jW := jW_t2 (i := 90) rfl rfl
set_option maxRecDepth 4000 in
theorem u331 : (Cond.selects "PaperPocket" ({ cls := "PaperPocket", name := "copy", desc := "(IIIII)I" } : MethodName) ({ cls := "PaperPocket", name := "copy", desc := "(IIIII)I" } : MethodName)) ∈ jW := jW_t2 (i := 91) rfl rfl
set_option maxRecDepth 4000 in
theorem u332 : (Cond.code ({ cls := "PaperPocket", name := "copy", desc := "(IIIII)I" } : MethodName) prog_1_method_4_code (6 : Nat) (Option.some FieldType.int)) ∈ jW := jW_t2 (i := 92) rfl rfl
set_option maxRecDepth 4000 in
theorem u333 : (Cond.methodLink "PaperPocket" (112 : Nat) ({ cls := "PaperPocket$Sheets", name := "isMissing", desc := "(I)Z" } : MethodName)) ∈ jW := jW_t2 (i := 93) rfl rfl
set_option maxRecDepth 4000 in
theorem u334 : (Cond.methodLink "PaperPocket" (118 : Nat) ({ cls := "PaperPocket$Sheets", name := "reaches", desc := "(III)Z" } : MethodName)) ∈ jW := jW_t2 (i := 94) rfl rfl
set_option maxRecDepth 4000 in
theorem u335 : (Cond.methodLink "PaperPocket" (125 : Nat) ({ cls := "java/lang/System", name := "arraycopy", desc := "(Ljava/lang/Object;ILjava/lang/Object;II)V" } : MethodName)) ∈ jW := jW_t2 (i := 95) rfl rfl
set_option maxRecDepth 4000 in
theorem u336 : (Cond.static ({ cls := "java/lang/System", name := "arraycopy", desc := "(Ljava/lang/Object;ILjava/lang/Object;II)V" } : MethodName)) ∈ jW := jW_t2 (i := 96) rfl rfl
set_option maxRecDepth 4000 in
theorem u337 : (Cond.native ({ cls := "java/lang/System", name := "arraycopy", desc := "(Ljava/lang/Object;ILjava/lang/Object;II)V" } : MethodName)) ∈ jW := jW_t2 (i := 97) rfl rfl
set_option maxRecDepth 4000 in
theorem u338 : (Cond.methodLink "PaperPocketLaw" (27 : Nat) ({ cls := "PaperPocket", name := "drop", desc := "(I)I" } : MethodName)) ∈ jW := jW_t2 (i := 98) rfl rfl
set_option maxRecDepth 4000 in
theorem u339 : (Cond.instanceMethod ({ cls := "PaperPocket", name := "drop", desc := "(I)I" } : MethodName)) ∈ jW := jW_t2 (i := 99) rfl rfl
set_option maxRecDepth 4000 in
theorem u340 : (Cond.selects "PaperPocket" ({ cls := "PaperPocket", name := "drop", desc := "(I)I" } : MethodName) ({ cls := "PaperPocket", name := "drop", desc := "(I)I" } : MethodName)) ∈ jW := jW_t2 (i := 100) rfl rfl
set_option maxRecDepth 4000 in
theorem u341 : (Cond.code ({ cls := "PaperPocket", name := "drop", desc := "(I)I" } : MethodName) prog_1_method_5_code (2 : Nat) (Option.some FieldType.int)) ∈ jW := jW_t2 (i := 101) rfl rfl
set_option maxRecDepth 4000 in
theorem u342 : (Cond.methodLink "PaperPocket" (131 : Nat) ({ cls := "PaperPocket$Sheets", name := "forget", desc := "(I)I" } : MethodName)) ∈ jW := jW_t2 (i := 102) rfl rfl
set_option maxRecDepth 4000 in
theorem u343 : (Cond.instanceMethod ({ cls := "PaperPocket$Sheets", name := "forget", desc := "(I)I" } : MethodName)) ∈ jW := jW_t2 (i := 103) rfl rfl
set_option maxRecDepth 4000 in
theorem u344 : (Cond.selects "PaperPocket$Sheets" ({ cls := "PaperPocket$Sheets", name := "forget", desc := "(I)I" } : MethodName) ({ cls := "PaperPocket$Sheets", name := "forget", desc := "(I)I" } : MethodName)) ∈ jW := jW_t2 (i := 104) rfl rfl
set_option maxRecDepth 4000 in
theorem u345 : (Cond.code ({ cls := "PaperPocket$Sheets", name := "forget", desc := "(I)I" } : MethodName) prog_9_method_8_code (3 : Nat) (Option.some FieldType.int)) ∈ jW := jW_t2 (i := 105) rfl rfl
set_option maxRecDepth 4000 in
theorem u346 : (Cond.methodLink "PaperPocketLaw" (32 : Nat) ({ cls := "PaperPocket", name := "key", desc := "(III)I" } : MethodName)) ∈ jW := jW_t2 (i := 106) rfl rfl
set_option maxRecDepth 4000 in
theorem u347 : (Cond.instanceMethod ({ cls := "PaperPocket", name := "key", desc := "(III)I" } : MethodName)) ∈ jW := jW_t2 (i := 107) rfl rfl
set_option maxRecDepth 4000 in
theorem u348 : (Cond.selects "PaperPocket" ({ cls := "PaperPocket", name := "key", desc := "(III)I" } : MethodName) ({ cls := "PaperPocket", name := "key", desc := "(III)I" } : MethodName)) ∈ jW := jW_t2 (i := 108) rfl rfl
set_option maxRecDepth 4000 in
theorem u349 : (Cond.code ({ cls := "PaperPocket", name := "key", desc := "(III)I" } : MethodName) prog_1_method_6_code (4 : Nat) (Option.some FieldType.int)) ∈ jW := jW_t2 (i := 109) rfl rfl
set_option maxRecDepth 4000 in
theorem u350 : (Cond.methodLink "PaperPocket" (134 : Nat) ({ cls := "PaperPocket", name := "isOffice", desc := "(I)Z" } : MethodName)) ∈ jW := jW_t2 (i := 110) rfl rfl
set_option maxRecDepth 4000 in
theorem u351 : (Cond.static ({ cls := "PaperPocket", name := "isOffice", desc := "(I)Z" } : MethodName)) ∈ jW := jW_t2 (i := 111) rfl rfl
set_option maxRecDepth 4000 in
theorem u352 : (Cond.code ({ cls := "PaperPocket", name := "isOffice", desc := "(I)Z" } : MethodName) prog_1_method_44_code (1 : Nat) (Option.some FieldType.boolean)) ∈ jW := jW_t2 (i := 112) rfl rfl
set_option maxRecDepth 4000 in
theorem u353 : (Cond.methodLink "PaperPocket" (137 : Nat) ({ cls := "PaperPocket", name := "isDay", desc := "(I)Z" } : MethodName)) ∈ jW := jW_t2 (i := 113) rfl rfl
set_option maxRecDepth 4000 in
theorem u354 : (Cond.static ({ cls := "PaperPocket", name := "isDay", desc := "(I)Z" } : MethodName)) ∈ jW := jW_t2 (i := 114) rfl rfl
set_option maxRecDepth 4000 in
theorem u355 : (Cond.code ({ cls := "PaperPocket", name := "isDay", desc := "(I)Z" } : MethodName) prog_1_method_48_code (1 : Nat) (Option.some FieldType.boolean)) ∈ jW := jW_t2 (i := 115) rfl rfl
set_option maxRecDepth 4000 in
theorem u356 : (Cond.constant "PaperPocket" (140 : Nat) (65520 : Int32)) ∈ jW := jW_t2 (i := 116) rfl rfl
set_option maxRecDepth 4000 in
theorem u357 : (Cond.methodLink "PaperPocket" (141 : Nat) ({ cls := "PaperPocket$Offices", name := "addKey", desc := "(III)Z" } : MethodName)) ∈ jW := jW_t2 (i := 117) rfl rfl
set_option maxRecDepth 4000 in
theorem u358 : (Cond.instanceMethod ({ cls := "PaperPocket$Offices", name := "addKey", desc := "(III)Z" } : MethodName)) ∈ jW := jW_t2 (i := 118) rfl rfl
set_option maxRecDepth 4000 in
theorem u359 : (Cond.selects "PaperPocket$Offices" ({ cls := "PaperPocket$Offices", name := "addKey", desc := "(III)Z" } : MethodName) ({ cls := "PaperPocket$Offices", name := "addKey", desc := "(III)Z" } : MethodName)) ∈ jW := jW_t2 (i := 119) rfl rfl
set_option maxRecDepth 4000 in
theorem u360 : (Cond.code ({ cls := "PaperPocket$Offices", name := "addKey", desc := "(III)Z" } : MethodName) prog_7_method_2_code (5 : Nat) (Option.some FieldType.boolean)) ∈ jW := jW_t2 (i := 120) rfl rfl
set_option maxRecDepth 4000 in
theorem u361 : (Cond.constant "PaperPocket" (147 : Nat) (-1000003 : Int32)) ∈ jW := jW_t2 (i := 121) rfl rfl
set_option maxRecDepth 4000 in
theorem u362 : (Cond.methodLink "PaperPocketLaw" (36 : Nat) ({ cls := "PaperPocket", name := "keyOn", desc := "(II)I" } : MethodName)) ∈ jW := jW_t2 (i := 122) rfl rfl
set_option maxRecDepth 4000 in
theorem u363 : (Cond.instanceMethod ({ cls := "PaperPocket", name := "keyOn", desc := "(II)I" } : MethodName)) ∈ jW := jW_t2 (i := 123) rfl rfl
set_option maxRecDepth 4000 in
theorem u364 : (Cond.selects "PaperPocket" ({ cls := "PaperPocket", name := "keyOn", desc := "(II)I" } : MethodName) ({ cls := "PaperPocket", name := "keyOn", desc := "(II)I" } : MethodName)) ∈ jW := jW_t2 (i := 124) rfl rfl
set_option maxRecDepth 4000 in
theorem u365 : (Cond.code ({ cls := "PaperPocket", name := "keyOn", desc := "(II)I" } : MethodName) prog_1_method_7_code (3 : Nat) (Option.some FieldType.int)) ∈ jW := jW_t2 (i := 125) rfl rfl
set_option maxRecDepth 4000 in
theorem u366 : (Cond.methodLink "PaperPocket" (148 : Nat) ({ cls := "PaperPocket$Offices", name := "keyAt", desc := "(II)I" } : MethodName)) ∈ jW := jW_t2 (i := 126) rfl rfl
set_option maxRecDepth 4000 in
theorem u367 : (Cond.instanceMethod ({ cls := "PaperPocket$Offices", name := "keyAt", desc := "(II)I" } : MethodName)) ∈ jW := jW_t2 (i := 127) rfl rfl
set_option maxRecDepth 4000 in
theorem u368 : (Cond.selects "PaperPocket$Offices" ({ cls := "PaperPocket$Offices", name := "keyAt", desc := "(II)I" } : MethodName) ({ cls := "PaperPocket$Offices", name := "keyAt", desc := "(II)I" } : MethodName)) ∈ jW := jW_t2 (i := 128) rfl rfl
set_option maxRecDepth 4000 in
theorem u369 : (Cond.code ({ cls := "PaperPocket$Offices", name := "keyAt", desc := "(II)I" } : MethodName) prog_7_method_3_code (7 : Nat) (Option.some FieldType.int)) ∈ jW := jW_t2 (i := 129) rfl rfl
set_option maxRecDepth 4000 in
theorem u370 : (Cond.methodLink "PaperPocketLaw" (41 : Nat) ({ cls := "PaperPocket", name := "close", desc := "(III)I" } : MethodName)) ∈ jW := jW_t2 (i := 130) rfl rfl
set_option maxRecDepth 4000 in
theorem u371 : (Cond.instanceMethod ({ cls := "PaperPocket", name := "close", desc := "(III)I" } : MethodName)) ∈ jW := jW_t2 (i := 131) rfl rfl
set_option maxRecDepth 4000 in
theorem u372 : (Cond.selects "PaperPocket" ({ cls := "PaperPocket", name := "close", desc := "(III)I" } : MethodName) ({ cls := "PaperPocket", name := "close", desc := "(III)I" } : MethodName)) ∈ jW := jW_t2 (i := 132) rfl rfl
set_option maxRecDepth 4000 in
theorem u373 : (Cond.code ({ cls := "PaperPocket", name := "close", desc := "(III)I" } : MethodName) prog_1_method_8_code (5 : Nat) (Option.some FieldType.int)) ∈ jW := jW_t2 (i := 133) rfl rfl
set_option maxRecDepth 4000 in
theorem u374 : (Cond.constant "PaperPocket" (158 : Nat) (-1000002 : Int32)) ∈ jW := jW_t2 (i := 134) rfl rfl
set_option maxRecDepth 4000 in
theorem u375 : (Cond.methodLink "PaperPocketLaw" (45 : Nat) ({ cls := "PaperPocket", name := "paper", desc := "(II)I" } : MethodName)) ∈ jW := jW_t2 (i := 135) rfl rfl
set_option maxRecDepth 4000 in
theorem u376 : (Cond.instanceMethod ({ cls := "PaperPocket", name := "paper", desc := "(II)I" } : MethodName)) ∈ jW := jW_t2 (i := 136) rfl rfl
set_option maxRecDepth 4000 in
theorem u377 : (Cond.selects "PaperPocket" ({ cls := "PaperPocket", name := "paper", desc := "(II)I" } : MethodName) ({ cls := "PaperPocket", name := "paper", desc := "(II)I" } : MethodName)) ∈ jW := jW_t2 (i := 137) rfl rfl
set_option maxRecDepth 4000 in
theorem u378 : (Cond.code ({ cls := "PaperPocket", name := "paper", desc := "(II)I" } : MethodName) prog_1_method_9_code (5 : Nat) (Option.some FieldType.int)) ∈ jW := jW_t2 (i := 138) rfl rfl
set_option maxRecDepth 4000 in
theorem u379 : (Cond.methodLink "PaperPocket" (163 : Nat) ({ cls := "PaperPocket$Paper", name := "isTold", desc := "([II)Z" } : MethodName)) ∈ jW := jW_t2 (i := 139) rfl rfl
set_option maxRecDepth 4000 in
theorem u380 : (Cond.static ({ cls := "PaperPocket$Paper", name := "isTold", desc := "([II)Z" } : MethodName)) ∈ jW := jW_t2 (i := 140) rfl rfl
set_option maxRecDepth 4000 in
theorem u381 : (Cond.code ({ cls := "PaperPocket$Paper", name := "isTold", desc := "([II)Z" } : MethodName) prog_8_method_2_code (3 : Nat) (Option.some FieldType.boolean)) ∈ jW := jW_t2 (i := 141) rfl rfl
set_option maxRecDepth 4000 in
theorem u382 : (Cond.fieldLink "PaperPocket$Paper" (43 : Nat) "PaperPocket$Paper" "LIMITS" "[I") ∈ jW := jW_t2 (i := 142) rfl rfl
set_option maxRecDepth 4000 in
theorem u385 : (Cond.instantiable "PaperPocket$Paper" (8 : Nat)) ∈ jW := jW_t2 (i := 145) rfl rfl
set_option maxRecDepth 4000 in
theorem u386 : (Cond.methodLink "PaperPocket" (167 : Nat) ({ cls := "PaperPocket$Paper", name := "<init>", desc := "(I[II)V" } : MethodName)) ∈ jW := jW_t2 (i := 146) rfl rfl
set_option maxRecDepth 4000 in
theorem u387 : (Cond.instanceMethod ({ cls := "PaperPocket$Paper", name := "<init>", desc := "(I[II)V" } : MethodName)) ∈ jW := jW_t2 (i := 147) rfl rfl
set_option maxRecDepth 4000 in
theorem u388 : (Cond.code ({ cls := "PaperPocket$Paper", name := "<init>", desc := "(I[II)V" } : MethodName) prog_8_method_1_code (4 : Nat) (Option.none : Option ClassFile.FieldType)) ∈ jW := jW_t2 (i := 148) rfl rfl
set_option maxRecDepth 4000 in
theorem u389 : (Cond.methodLink "PaperPocket$Paper" (3 : Nat) ({ cls := "java/lang/Object", name := "<init>", desc := "()V" } : MethodName)) ∈ jW := jW_t2 (i := 149) rfl rfl
set_option maxRecDepth 4000 in
theorem u390 : (Cond.methodLink "PaperPocket$Paper" (37 : Nat) ({ cls := "java/lang/System", name := "arraycopy", desc := "(Ljava/lang/Object;ILjava/lang/Object;II)V" } : MethodName)) ∈ jW := jW_t2 (i := 150) rfl rfl
set_option maxRecDepth 4000 in
theorem u391 : (Cond.fieldLink "PaperPocket$Paper" (19 : Nat) "PaperPocket$Paper" "number" "I") ∈ jW := jW_t2 (i := 151) rfl rfl
set_option maxRecDepth 4000 in
theorem u392 : (Cond.fieldLink "PaperPocket$Bodies" (62 : Nat) "PaperPocket$Paper" "number" "I") ∈ jW := jW_t2 (i := 152) rfl rfl
set_option maxRecDepth 4000 in
theorem u393 : (Cond.fieldLink "PaperPocket$Paper" (22 : Nat) "PaperPocket$Paper" "office" "I") ∈ jW := jW_t2 (i := 153) rfl rfl
set_option maxRecDepth 4000 in
theorem u394 : (Cond.fieldLink "PaperPocket$Gates" (46 : Nat) "PaperPocket$Paper" "office" "I") ∈ jW := jW_t2 (i := 154) rfl rfl
set_option maxRecDepth 4000 in
theorem u395 : (Cond.fieldLink "PaperPocket" (194 : Nat) "PaperPocket$Paper" "office" "I") ∈ jW := jW_t2 (i := 155) rfl rfl
set_option maxRecDepth 4000 in
theorem u396 : (Cond.fieldLink "PaperPocket$Paper" (25 : Nat) "PaperPocket$Paper" "bearer" "I") ∈ jW := jW_t2 (i := 156) rfl rfl
set_option maxRecDepth 4000 in
theorem u397 : (Cond.fieldLink "PaperPocket" (197 : Nat) "PaperPocket$Paper" "bearer" "I") ∈ jW := jW_t2 (i := 157) rfl rfl
set_option maxRecDepth 4000 in
theorem u398 : (Cond.fieldLink "PaperPocket$Paper" (28 : Nat) "PaperPocket$Paper" "sort" "I") ∈ jW := jW_t2 (i := 158) rfl rfl
set_option maxRecDepth 4000 in
theorem u399 : (Cond.fieldLink "PaperPocket$Paper" (31 : Nat) "PaperPocket$Paper" "first" "I") ∈ jW := jW_t2 (i := 159) rfl rfl
set_option maxRecDepth 4000 in
theorem u400 : (Cond.fieldLink "PaperPocket$Bodies" (56 : Nat) "PaperPocket$Paper" "first" "I") ∈ jW := jW_t2 (i := 160) rfl rfl
set_option maxRecDepth 4000 in
theorem u401 : (Cond.fieldLink "PaperPocket" (200 : Nat) "PaperPocket$Paper" "first" "I") ∈ jW := jW_t2 (i := 161) rfl rfl
set_option maxRecDepth 4000 in
theorem u402 : (Cond.fieldLink "PaperPocket$Paper" (34 : Nat) "PaperPocket$Paper" "last" "I") ∈ jW := jW_t2 (i := 162) rfl rfl
set_option maxRecDepth 4000 in
theorem u403 : (Cond.fieldLink "PaperPocket$Bodies" (51 : Nat) "PaperPocket$Paper" "last" "I") ∈ jW := jW_t2 (i := 163) rfl rfl
set_option maxRecDepth 4000 in
theorem u404 : (Cond.fieldLink "PaperPocket" (203 : Nat) "PaperPocket$Paper" "last" "I") ∈ jW := jW_t2 (i := 164) rfl rfl
set_option maxRecDepth 4000 in
theorem u405 : (Cond.fieldLink "PaperPocket$Paper" (9 : Nat) "PaperPocket$Paper" "fields" "[I") ∈ jW := jW_t2 (i := 165) rfl rfl
set_option maxRecDepth 4000 in
theorem u406 : (Cond.fieldLink "PaperPocket$Gates" (52 : Nat) "PaperPocket$Paper" "fields" "[I") ∈ jW := jW_t2 (i := 166) rfl rfl
set_option maxRecDepth 4000 in
theorem u407 : (Cond.fieldLink "PaperPocket$Bodies" (59 : Nat) "PaperPocket$Paper" "fields" "[I") ∈ jW := jW_t2 (i := 167) rfl rfl
set_option maxRecDepth 4000 in
theorem u408 : (Cond.fieldLink "PaperPocket" (174 : Nat) "PaperPocket$Paper" "fields" "[I") ∈ jW := jW_t2 (i := 168) rfl rfl
set_option maxRecDepth 4000 in
theorem u409 : (Cond.fieldLink "PaperPocket$Paper" (15 : Nat) "PaperPocket$Paper" "takenBackFrom" "I") ∈ jW := jW_t2 (i := 169) rfl rfl
set_option maxRecDepth 4000 in
theorem u410 : (Cond.fieldLink "PaperPocket" (265 : Nat) "PaperPocket$Paper" "takenBackFrom" "I") ∈ jW := jW_t2 (i := 170) rfl rfl
set_option maxRecDepth 4000 in
theorem u428 : (Cond.methodLink "PaperPocketLaw" (49 : Nat) ({ cls := "PaperPocket", name := "told", desc := "(II)I" } : MethodName)) ∈ jW := jW_t2 (i := 188) rfl rfl
set_option maxRecDepth 4000 in
theorem u429 : (Cond.instanceMethod ({ cls := "PaperPocket", name := "told", desc := "(II)I" } : MethodName)) ∈ jW := jW_t2 (i := 189) rfl rfl
set_option maxRecDepth 4000 in
theorem u430 : (Cond.selects "PaperPocket" ({ cls := "PaperPocket", name := "told", desc := "(II)I" } : MethodName) ({ cls := "PaperPocket", name := "told", desc := "(II)I" } : MethodName)) ∈ jW := jW_t2 (i := 190) rfl rfl
set_option maxRecDepth 4000 in
theorem u431 : (Cond.code ({ cls := "PaperPocket", name := "told", desc := "(II)I" } : MethodName) prog_1_method_10_code (4 : Nat) (Option.some FieldType.int)) ∈ jW := jW_t2 (i := 191) rfl rfl
set_option maxRecDepth 4000 in
theorem u432 : (Cond.methodLink "PaperPocket" (170 : Nat) ({ cls := "PaperPocket", name := "paperAt", desc := "(I)LPaperPocket$Paper;" } : MethodName)) ∈ jW := jW_t2 (i := 192) rfl rfl
set_option maxRecDepth 4000 in
theorem u434 : (Cond.instanceMethod ({ cls := "PaperPocket", name := "paperAt", desc := "(I)LPaperPocket$Paper;" } : MethodName)) ∈ jW := jW_t2 (i := 194) rfl rfl
set_option maxRecDepth 4000 in
theorem u435 : (Cond.code ({ cls := "PaperPocket", name := "paperAt", desc := "(I)LPaperPocket$Paper;" } : MethodName) prog_1_method_50_code (2 : Nat) (Option.some (FieldType.object "PaperPocket$Paper"))) ∈ jW := jW_t2 (i := 195) rfl rfl
set_option maxRecDepth 4000 in
theorem u436 : (Cond.methodLink "PaperPocket" (177 : Nat) ({ cls := "PaperPocket$Paper", name := "chainEnd", desc := "(I)I" } : MethodName)) ∈ jW := jW_t2 (i := 196) rfl rfl
set_option maxRecDepth 4000 in
theorem u437 : (Cond.instanceMethod ({ cls := "PaperPocket$Paper", name := "chainEnd", desc := "(I)I" } : MethodName)) ∈ jW := jW_t2 (i := 197) rfl rfl
set_option maxRecDepth 4000 in
theorem u438 : (Cond.selects "PaperPocket$Paper" ({ cls := "PaperPocket$Paper", name := "chainEnd", desc := "(I)I" } : MethodName) ({ cls := "PaperPocket$Paper", name := "chainEnd", desc := "(I)I" } : MethodName)) ∈ jW := jW_t2 (i := 198) rfl rfl
set_option maxRecDepth 4000 in
theorem u439 : (Cond.code ({ cls := "PaperPocket$Paper", name := "chainEnd", desc := "(I)I" } : MethodName) prog_8_method_17_code (2 : Nat) (Option.some FieldType.int)) ∈ jW := jW_t2 (i := 199) rfl rfl
set_option maxRecDepth 4000 in
theorem u440 : (Cond.methodLink "PaperPocket$Paper" (87 : Nat) ({ cls := "PaperPocket$Paper", name := "chainBeginning", desc := "(I)I" } : MethodName)) ∈ jW := jW_t2 (i := 200) rfl rfl
set_option maxRecDepth 4000 in
theorem u441 : (Cond.instanceMethod ({ cls := "PaperPocket$Paper", name := "chainBeginning", desc := "(I)I" } : MethodName)) ∈ jW := jW_t2 (i := 201) rfl rfl
set_option maxRecDepth 4000 in
theorem u442 : (Cond.selects "PaperPocket$Paper" ({ cls := "PaperPocket$Paper", name := "chainBeginning", desc := "(I)I" } : MethodName) ({ cls := "PaperPocket$Paper", name := "chainBeginning", desc := "(I)I" } : MethodName)) ∈ jW := jW_t2 (i := 202) rfl rfl
set_option maxRecDepth 4000 in
theorem u443 : (Cond.code ({ cls := "PaperPocket$Paper", name := "chainBeginning", desc := "(I)I" } : MethodName) prog_8_method_16_code (2 : Nat) (Option.some FieldType.int)) ∈ jW := jW_t2 (i := 203) rfl rfl
set_option maxRecDepth 4000 in
theorem u445 : (Cond.static ({ cls := "PaperPocket", name := "steps", desc := "(II)I" } : MethodName)) ∈ jW := jW_t2 (i := 205) rfl rfl
set_option maxRecDepth 4000 in
theorem u446 : (Cond.code ({ cls := "PaperPocket", name := "steps", desc := "(II)I" } : MethodName) prog_1_method_52_code (5 : Nat) (Option.some FieldType.int)) ∈ jW := jW_t2 (i := 206) rfl rfl
set_option maxRecDepth 4000 in
theorem u447 : (Cond.constantLong "PaperPocket" (358 : Nat) (3 : Int64)) ∈ jW := jW_t2 (i := 207) rfl rfl
set_option maxRecDepth 4000 in
theorem u448 : (Cond.constantLong "PaperPocket" (362 : Nat) (65521 : Int64)) ∈ jW := jW_t2 (i := 208) rfl rfl
set_option maxRecDepth 4000 in
theorem u449 : (Cond.methodLink "PaperPocket" (180 : Nat) ({ cls := "PaperPocket$Paper", name := "half", desc := "(I)I" } : MethodName)) ∈ jW := jW_t2 (i := 209) rfl rfl
set_option maxRecDepth 4000 in
theorem u450 : (Cond.instanceMethod ({ cls := "PaperPocket$Paper", name := "half", desc := "(I)I" } : MethodName)) ∈ jW := jW_t2 (i := 210) rfl rfl
set_option maxRecDepth 4000 in
theorem u451 : (Cond.selects "PaperPocket$Paper" ({ cls := "PaperPocket$Paper", name := "half", desc := "(I)I" } : MethodName) ({ cls := "PaperPocket$Paper", name := "half", desc := "(I)I" } : MethodName)) ∈ jW := jW_t2 (i := 211) rfl rfl
set_option maxRecDepth 4000 in
theorem u452 : (Cond.code ({ cls := "PaperPocket$Paper", name := "half", desc := "(I)I" } : MethodName) prog_8_method_5_code (2 : Nat) (Option.some FieldType.int)) ∈ jW := jW_t2 (i := 212) rfl rfl
set_option maxRecDepth 4000 in
theorem u453 : (Cond.methodLink "PaperPocket$Paper" (55 : Nat) ({ cls := "PaperPocket$Paper", name := "leaf", desc := "(I)I" } : MethodName)) ∈ jW := jW_t2 (i := 213) rfl rfl
set_option maxRecDepth 4000 in
theorem u454 : (Cond.instanceMethod ({ cls := "PaperPocket$Paper", name := "leaf", desc := "(I)I" } : MethodName)) ∈ jW := jW_t2 (i := 214) rfl rfl
set_option maxRecDepth 4000 in
theorem u455 : (Cond.selects "PaperPocket$Paper" ({ cls := "PaperPocket$Paper", name := "leaf", desc := "(I)I" } : MethodName) ({ cls := "PaperPocket$Paper", name := "leaf", desc := "(I)I" } : MethodName)) ∈ jW := jW_t2 (i := 215) rfl rfl
set_option maxRecDepth 4000 in
theorem u456 : (Cond.code ({ cls := "PaperPocket$Paper", name := "leaf", desc := "(I)I" } : MethodName) prog_8_method_4_code (2 : Nat) (Option.some FieldType.int)) ∈ jW := jW_t2 (i := 216) rfl rfl
set_option maxRecDepth 4000 in
theorem u457 : (Cond.methodLink "PaperPocket$Paper" (51 : Nat) ({ cls := "PaperPocket$Paper", name := "leafWith", desc := "(II)I" } : MethodName)) ∈ jW := jW_t2 (i := 217) rfl rfl
set_option maxRecDepth 4000 in
theorem u458 : (Cond.instanceMethod ({ cls := "PaperPocket$Paper", name := "leafWith", desc := "(II)I" } : MethodName)) ∈ jW := jW_t2 (i := 218) rfl rfl
set_option maxRecDepth 4000 in
theorem u459 : (Cond.selects "PaperPocket$Paper" ({ cls := "PaperPocket$Paper", name := "leafWith", desc := "(II)I" } : MethodName) ({ cls := "PaperPocket$Paper", name := "leafWith", desc := "(II)I" } : MethodName)) ∈ jW := jW_t2 (i := 219) rfl rfl
set_option maxRecDepth 4000 in
theorem u460 : (Cond.code ({ cls := "PaperPocket$Paper", name := "leafWith", desc := "(II)I" } : MethodName) prog_8_method_3_code (3 : Nat) (Option.some FieldType.int)) ∈ jW := jW_t2 (i := 220) rfl rfl
set_option maxRecDepth 4000 in
theorem u461 : (Cond.constant "PaperPocket$Paper" (50 : Nat) (65521 : Int32)) ∈ jW := jW_t2 (i := 221) rfl rfl
set_option maxRecDepth 4000 in
theorem u463 : (Cond.static ({ cls := "PaperPocket", name := "join", desc := "(II)I" } : MethodName)) ∈ jW := jW_t2 (i := 223) rfl rfl
set_option maxRecDepth 4000 in
theorem u464 : (Cond.code ({ cls := "PaperPocket", name := "join", desc := "(II)I" } : MethodName) prog_1_method_51_code (2 : Nat) (Option.some FieldType.int)) ∈ jW := jW_t2 (i := 224) rfl rfl
set_option maxRecDepth 4000 in
theorem u465 : (Cond.constantLong "PaperPocket" (360 : Nat) (5 : Int64)) ∈ jW := jW_t2 (i := 225) rfl rfl
set_option maxRecDepth 4000 in
theorem u466 : (Cond.methodLink "PaperPocket" (183 : Nat) ({ cls := "PaperPocket$Paper", name := "root", desc := "()I" } : MethodName)) ∈ jW := jW_t2 (i := 226) rfl rfl
set_option maxRecDepth 4000 in
theorem u467 : (Cond.instanceMethod ({ cls := "PaperPocket$Paper", name := "root", desc := "()I" } : MethodName)) ∈ jW := jW_t2 (i := 227) rfl rfl
set_option maxRecDepth 4000 in
theorem u468 : (Cond.selects "PaperPocket$Paper" ({ cls := "PaperPocket$Paper", name := "root", desc := "()I" } : MethodName) ({ cls := "PaperPocket$Paper", name := "root", desc := "()I" } : MethodName)) ∈ jW := jW_t2 (i := 228) rfl rfl
set_option maxRecDepth 4000 in
theorem u469 : (Cond.code ({ cls := "PaperPocket$Paper", name := "root", desc := "()I" } : MethodName) prog_8_method_6_code (1 : Nat) (Option.some FieldType.int)) ∈ jW := jW_t2 (i := 229) rfl rfl
set_option maxRecDepth 4000 in
theorem u470 : (Cond.methodLink "PaperPocket$Paper" (62 : Nat) ({ cls := "PaperPocket$Paper", name := "half", desc := "(I)I" } : MethodName)) ∈ jW := jW_t2 (i := 230) rfl rfl
set_option maxRecDepth 4000 in
theorem u471 : (Cond.methodLink "PaperPocket" (187 : Nat) ({ cls := "PaperPocket", name := "keyOf", desc := "(LPaperPocket$Paper;)I" } : MethodName)) ∈ jW := jW_t2 (i := 231) rfl rfl
set_option maxRecDepth 4000 in
theorem u473 : (Cond.instanceMethod ({ cls := "PaperPocket", name := "keyOf", desc := "(LPaperPocket$Paper;)I" } : MethodName)) ∈ jW := jW_t2 (i := 233) rfl rfl
set_option maxRecDepth 4000 in
theorem u474 : (Cond.code ({ cls := "PaperPocket", name := "keyOf", desc := "(LPaperPocket$Paper;)I" } : MethodName) prog_1_method_55_code (2 : Nat) (Option.some FieldType.int)) ∈ jW := jW_t2 (i := 234) rfl rfl
set_option maxRecDepth 4000 in
theorem u475 : (Cond.methodLink "PaperPocket" (191 : Nat) ({ cls := "PaperPocket", name := "seal", desc := "(II)I" } : MethodName)) ∈ jW := jW_t2 (i := 235) rfl rfl
set_option maxRecDepth 4000 in
theorem u476 : (Cond.static ({ cls := "PaperPocket", name := "seal", desc := "(II)I" } : MethodName)) ∈ jW := jW_t2 (i := 236) rfl rfl
set_option maxRecDepth 4000 in
theorem u477 : (Cond.code ({ cls := "PaperPocket", name := "seal", desc := "(II)I" } : MethodName) prog_1_method_54_code (2 : Nat) (Option.some FieldType.int)) ∈ jW := jW_t2 (i := 237) rfl rfl
set_option maxRecDepth 4000 in
theorem u478 : (Cond.methodLink "PaperPocketLaw" (53 : Nat) ({ cls := "PaperPocket", name := "show", desc := "(III)I" } : MethodName)) ∈ jW := jW_t2 (i := 238) rfl rfl
set_option maxRecDepth 4000 in
theorem u479 : (Cond.instanceMethod ({ cls := "PaperPocket", name := "show", desc := "(III)I" } : MethodName)) ∈ jW := jW_t2 (i := 239) rfl rfl
set_option maxRecDepth 4000 in
theorem u480 : (Cond.selects "PaperPocket" ({ cls := "PaperPocket", name := "show", desc := "(III)I" } : MethodName) ({ cls := "PaperPocket", name := "show", desc := "(III)I" } : MethodName)) ∈ jW := jW_t3 (i := 0) rfl rfl
set_option maxRecDepth 4000 in
theorem u481 : (Cond.code ({ cls := "PaperPocket", name := "show", desc := "(III)I" } : MethodName) prog_1_method_11_code (6 : Nat) (Option.some FieldType.int)) ∈ jW := jW_t3 (i := 1) rfl rfl
set_option maxRecDepth 4000 in
theorem u482 : (Cond.methodLink "PaperPocket" (206 : Nat) ({ cls := "PaperPocket", name := "isSet", desc := "(I)Z" } : MethodName)) ∈ jW := jW_t3 (i := 2) rfl rfl
set_option maxRecDepth 4000 in
theorem u483 : (Cond.static ({ cls := "PaperPocket", name := "isSet", desc := "(I)Z" } : MethodName)) ∈ jW := jW_t3 (i := 3) rfl rfl
set_option maxRecDepth 4000 in
theorem u484 : (Cond.code ({ cls := "PaperPocket", name := "isSet", desc := "(I)Z" } : MethodName) prog_1_method_49_code (1 : Nat) (Option.some FieldType.boolean)) ∈ jW := jW_t3 (i := 4) rfl rfl
set_option maxRecDepth 4000 in
theorem u485 : (Cond.methodLink "PaperPocket" (209 : Nat) ({ cls := "PaperPocket$Paper", name := "fillShowing", desc := "(I[I)I" } : MethodName)) ∈ jW := jW_t3 (i := 5) rfl rfl
set_option maxRecDepth 4000 in
theorem u486 : (Cond.instanceMethod ({ cls := "PaperPocket$Paper", name := "fillShowing", desc := "(I[I)I" } : MethodName)) ∈ jW := jW_t3 (i := 6) rfl rfl
set_option maxRecDepth 4000 in
theorem u487 : (Cond.selects "PaperPocket$Paper" ({ cls := "PaperPocket$Paper", name := "fillShowing", desc := "(I[I)I" } : MethodName) ({ cls := "PaperPocket$Paper", name := "fillShowing", desc := "(I[I)I" } : MethodName)) ∈ jW := jW_t3 (i := 7) rfl rfl
set_option maxRecDepth 4000 in
theorem u488 : (Cond.code ({ cls := "PaperPocket$Paper", name := "fillShowing", desc := "(I[I)I" } : MethodName) prog_8_method_11_code (5 : Nat) (Option.some FieldType.int)) ∈ jW := jW_t3 (i := 8) rfl rfl
set_option maxRecDepth 4000 in
theorem u489 : (Cond.methodLink "PaperPocket$Paper" (65 : Nat) ({ cls := "PaperPocket$Paper", name := "showsOfHalf", desc := "(II)Z" } : MethodName)) ∈ jW := jW_t3 (i := 9) rfl rfl
set_option maxRecDepth 4000 in
theorem u490 : (Cond.static ({ cls := "PaperPocket$Paper", name := "showsOfHalf", desc := "(II)Z" } : MethodName)) ∈ jW := jW_t3 (i := 10) rfl rfl
set_option maxRecDepth 4000 in
theorem u491 : (Cond.code ({ cls := "PaperPocket$Paper", name := "showsOfHalf", desc := "(II)Z" } : MethodName) prog_8_method_8_code (2 : Nat) (Option.some FieldType.boolean)) ∈ jW := jW_t3 (i := 11) rfl rfl
set_option maxRecDepth 4000 in
theorem u492 : (Cond.methodLink "PaperPocket$Paper" (72 : Nat) ({ cls := "PaperPocket$Paper", name := "shownOf", desc := "(II)I" } : MethodName)) ∈ jW := jW_t3 (i := 12) rfl rfl
set_option maxRecDepth 4000 in
theorem u494 : (Cond.instanceMethod ({ cls := "PaperPocket$Paper", name := "shownOf", desc := "(II)I" } : MethodName)) ∈ jW := jW_t3 (i := 14) rfl rfl
set_option maxRecDepth 4000 in
theorem u495 : (Cond.code ({ cls := "PaperPocket$Paper", name := "shownOf", desc := "(II)I" } : MethodName) prog_8_method_12_code (3 : Nat) (Option.some FieldType.int)) ∈ jW := jW_t3 (i := 15) rfl rfl
set_option maxRecDepth 4000 in
theorem u497 : (Cond.static ({ cls := "PaperPocket", name := "hasBit", desc := "(II)Z" } : MethodName)) ∈ jW := jW_t3 (i := 17) rfl rfl
set_option maxRecDepth 4000 in
theorem u498 : (Cond.code ({ cls := "PaperPocket", name := "hasBit", desc := "(II)Z" } : MethodName) prog_1_method_43_code (2 : Nat) (Option.some FieldType.boolean)) ∈ jW := jW_t3 (i := 18) rfl rfl
set_option maxRecDepth 4000 in
theorem u499 : (Cond.methodLink "PaperPocket$Paper" (69 : Nat) ({ cls := "PaperPocket$Paper", name := "halfSize", desc := "(II)I" } : MethodName)) ∈ jW := jW_t3 (i := 19) rfl rfl
set_option maxRecDepth 4000 in
theorem u500 : (Cond.static ({ cls := "PaperPocket$Paper", name := "halfSize", desc := "(II)I" } : MethodName)) ∈ jW := jW_t3 (i := 20) rfl rfl
set_option maxRecDepth 4000 in
theorem u501 : (Cond.code ({ cls := "PaperPocket$Paper", name := "halfSize", desc := "(II)I" } : MethodName) prog_8_method_9_code (2 : Nat) (Option.some FieldType.int)) ∈ jW := jW_t3 (i := 21) rfl rfl
set_option maxRecDepth 4000 in
theorem u502 : (Cond.constant "PaperPocket" (213 : Nat) (-1000000 : Int32)) ∈ jW := jW_t3 (i := 22) rfl rfl
set_option maxRecDepth 4000 in
theorem u503 : (Cond.methodLink "PaperPocketLaw" (57 : Nat) ({ cls := "PaperPocket", name := "check", desc := "(IIIII)I" } : MethodName)) ∈ jW := jW_t3 (i := 23) rfl rfl
set_option maxRecDepth 4000 in
theorem u504 : (Cond.instanceMethod ({ cls := "PaperPocket", name := "check", desc := "(IIIII)I" } : MethodName)) ∈ jW := jW_t3 (i := 24) rfl rfl
set_option maxRecDepth 4000 in
theorem u505 : (Cond.selects "PaperPocket" ({ cls := "PaperPocket", name := "check", desc := "(IIIII)I" } : MethodName) ({ cls := "PaperPocket", name := "check", desc := "(IIIII)I" } : MethodName)) ∈ jW := jW_t3 (i := 25) rfl rfl
set_option maxRecDepth 4000 in
theorem u506 : (Cond.code ({ cls := "PaperPocket", name := "check", desc := "(IIIII)I" } : MethodName) prog_1_method_12_code (10 : Nat) (Option.some FieldType.int)) ∈ jW := jW_t3 (i := 26) rfl rfl
set_option maxRecDepth 4000 in
theorem u507 : (Cond.methodLink "PaperPocket" (214 : Nat) ({ cls := "PaperPocket$Paper", name := "showingSize", desc := "(I)I" } : MethodName)) ∈ jW := jW_t3 (i := 27) rfl rfl
set_option maxRecDepth 4000 in
theorem u508 : (Cond.static ({ cls := "PaperPocket$Paper", name := "showingSize", desc := "(I)I" } : MethodName)) ∈ jW := jW_t3 (i := 28) rfl rfl
set_option maxRecDepth 4000 in
theorem u509 : (Cond.code ({ cls := "PaperPocket$Paper", name := "showingSize", desc := "(I)I" } : MethodName) prog_8_method_10_code (1 : Nat) (Option.some FieldType.int)) ∈ jW := jW_t3 (i := 29) rfl rfl
set_option maxRecDepth 4000 in
theorem u510 : (Cond.methodLink "PaperPocket" (217 : Nat) ({ cls := "PaperPocket$Paper", name := "rootOfShowing", desc := "(I[II)I" } : MethodName)) ∈ jW := jW_t3 (i := 30) rfl rfl
set_option maxRecDepth 4000 in
theorem u511 : (Cond.instanceMethod ({ cls := "PaperPocket$Paper", name := "rootOfShowing", desc := "(I[II)I" } : MethodName)) ∈ jW := jW_t3 (i := 31) rfl rfl
set_option maxRecDepth 4000 in
theorem u512 : (Cond.selects "PaperPocket$Paper" ({ cls := "PaperPocket$Paper", name := "rootOfShowing", desc := "(I[II)I" } : MethodName) ({ cls := "PaperPocket$Paper", name := "rootOfShowing", desc := "(I[II)I" } : MethodName)) ∈ jW := jW_t3 (i := 32) rfl rfl
set_option maxRecDepth 4000 in
theorem u513 : (Cond.code ({ cls := "PaperPocket$Paper", name := "rootOfShowing", desc := "(I[II)I" } : MethodName) prog_8_method_13_code (6 : Nat) (Option.some FieldType.int)) ∈ jW := jW_t3 (i := 33) rfl rfl
set_option maxRecDepth 4000 in
theorem u514 : (Cond.methodLink "PaperPocket$Paper" (78 : Nat) ({ cls := "PaperPocket$Paper", name := "halfOfShowing", desc := "(II[II)I" } : MethodName)) ∈ jW := jW_t3 (i := 34) rfl rfl
set_option maxRecDepth 4000 in
theorem u516 : (Cond.instanceMethod ({ cls := "PaperPocket$Paper", name := "halfOfShowing", desc := "(II[II)I" } : MethodName)) ∈ jW := jW_t3 (i := 36) rfl rfl
set_option maxRecDepth 4000 in
theorem u517 : (Cond.code ({ cls := "PaperPocket$Paper", name := "halfOfShowing", desc := "(II[II)I" } : MethodName) prog_8_method_14_code (7 : Nat) (Option.some FieldType.int)) ∈ jW := jW_t3 (i := 37) rfl rfl
set_option maxRecDepth 4000 in
theorem u518 : (Cond.constant "PaperPocket$Paper" (82 : Nat) (65520 : Int32)) ∈ jW := jW_t3 (i := 38) rfl rfl
set_option maxRecDepth 4000 in
theorem u519 : (Cond.methodLink "PaperPocket$Paper" (83 : Nat) ({ cls := "PaperPocket$Paper", name := "leafOfShown", desc := "(III)I" } : MethodName)) ∈ jW := jW_t3 (i := 39) rfl rfl
set_option maxRecDepth 4000 in
theorem u521 : (Cond.instanceMethod ({ cls := "PaperPocket$Paper", name := "leafOfShown", desc := "(III)I" } : MethodName)) ∈ jW := jW_t3 (i := 41) rfl rfl
set_option maxRecDepth 4000 in
theorem u522 : (Cond.code ({ cls := "PaperPocket$Paper", name := "leafOfShown", desc := "(III)I" } : MethodName) prog_8_method_15_code (4 : Nat) (Option.some FieldType.int)) ∈ jW := jW_t3 (i := 42) rfl rfl
set_option maxRecDepth 4000 in
theorem u523 : (Cond.methodLink "PaperPocketLaw" (61 : Nat) ({ cls := "PaperPocket", name := "lies", desc := "(II)I" } : MethodName)) ∈ jW := jW_t3 (i := 43) rfl rfl
set_option maxRecDepth 4000 in
theorem u524 : (Cond.instanceMethod ({ cls := "PaperPocket", name := "lies", desc := "(II)I" } : MethodName)) ∈ jW := jW_t3 (i := 44) rfl rfl
set_option maxRecDepth 4000 in
theorem u525 : (Cond.selects "PaperPocket" ({ cls := "PaperPocket", name := "lies", desc := "(II)I" } : MethodName) ({ cls := "PaperPocket", name := "lies", desc := "(II)I" } : MethodName)) ∈ jW := jW_t3 (i := 45) rfl rfl
set_option maxRecDepth 4000 in
theorem u526 : (Cond.code ({ cls := "PaperPocket", name := "lies", desc := "(II)I" } : MethodName) prog_1_method_13_code (8 : Nat) (Option.some FieldType.int)) ∈ jW := jW_t3 (i := 46) rfl rfl
set_option maxRecDepth 4000 in
theorem u527 : (Cond.methodLink "PaperPocket" (221 : Nat) ({ cls := "PaperPocket", name := "isField", desc := "(I)Z" } : MethodName)) ∈ jW := jW_t3 (i := 47) rfl rfl
set_option maxRecDepth 4000 in
theorem u528 : (Cond.static ({ cls := "PaperPocket", name := "isField", desc := "(I)Z" } : MethodName)) ∈ jW := jW_t3 (i := 48) rfl rfl
set_option maxRecDepth 4000 in
theorem u529 : (Cond.code ({ cls := "PaperPocket", name := "isField", desc := "(I)Z" } : MethodName) prog_1_method_47_code (1 : Nat) (Option.some FieldType.boolean)) ∈ jW := jW_t3 (i := 49) rfl rfl
set_option maxRecDepth 4000 in
theorem u530 : (Cond.methodLink "PaperPocket" (224 : Nat) ({ cls := "PaperPocket$Paper", name := "rootWith", desc := "(II)I" } : MethodName)) ∈ jW := jW_t3 (i := 50) rfl rfl
set_option maxRecDepth 4000 in
theorem u531 : (Cond.instanceMethod ({ cls := "PaperPocket$Paper", name := "rootWith", desc := "(II)I" } : MethodName)) ∈ jW := jW_t3 (i := 51) rfl rfl
set_option maxRecDepth 4000 in
theorem u532 : (Cond.selects "PaperPocket$Paper" ({ cls := "PaperPocket$Paper", name := "rootWith", desc := "(II)I" } : MethodName) ({ cls := "PaperPocket$Paper", name := "rootWith", desc := "(II)I" } : MethodName)) ∈ jW := jW_t3 (i := 52) rfl rfl
set_option maxRecDepth 4000 in
theorem u533 : (Cond.code ({ cls := "PaperPocket$Paper", name := "rootWith", desc := "(II)I" } : MethodName) prog_8_method_7_code (4 : Nat) (Option.some FieldType.int)) ∈ jW := jW_t3 (i := 53) rfl rfl
set_option maxRecDepth 4000 in
theorem u534 : (Cond.methodLink "PaperPocketLaw" (65 : Nat) ({ cls := "PaperPocket", name := "over", desc := "(III)I" } : MethodName)) ∈ jW := jW_t3 (i := 54) rfl rfl
set_option maxRecDepth 4000 in
theorem u535 : (Cond.instanceMethod ({ cls := "PaperPocket", name := "over", desc := "(III)I" } : MethodName)) ∈ jW := jW_t3 (i := 55) rfl rfl
set_option maxRecDepth 4000 in
theorem u536 : (Cond.selects "PaperPocket" ({ cls := "PaperPocket", name := "over", desc := "(III)I" } : MethodName) ({ cls := "PaperPocket", name := "over", desc := "(III)I" } : MethodName)) ∈ jW := jW_t3 (i := 56) rfl rfl
set_option maxRecDepth 4000 in
theorem u537 : (Cond.code ({ cls := "PaperPocket", name := "over", desc := "(III)I" } : MethodName) prog_1_method_14_code (6 : Nat) (Option.some FieldType.int)) ∈ jW := jW_t3 (i := 57) rfl rfl
set_option maxRecDepth 4000 in
theorem u538 : (Cond.methodLink "PaperPocket" (227 : Nat) ({ cls := "PaperPocket$Paper", name := "chainBeginning", desc := "(I)I" } : MethodName)) ∈ jW := jW_t3 (i := 58) rfl rfl
set_option maxRecDepth 4000 in
theorem u539 : (Cond.methodLink "PaperPocket" (230 : Nat) ({ cls := "PaperPocket", name := "steps", desc := "(II)I" } : MethodName)) ∈ jW := jW_t3 (i := 59) rfl rfl
set_option maxRecDepth 4000 in
theorem u540 : (Cond.methodLink "PaperPocketLaw" (69 : Nat) ({ cls := "PaperPocket", name := "isOver", desc := "(IIII)I" } : MethodName)) ∈ jW := jW_t3 (i := 60) rfl rfl
set_option maxRecDepth 4000 in
theorem u541 : (Cond.instanceMethod ({ cls := "PaperPocket", name := "isOver", desc := "(IIII)I" } : MethodName)) ∈ jW := jW_t3 (i := 61) rfl rfl
set_option maxRecDepth 4000 in
theorem u542 : (Cond.selects "PaperPocket" ({ cls := "PaperPocket", name := "isOver", desc := "(IIII)I" } : MethodName) ({ cls := "PaperPocket", name := "isOver", desc := "(IIII)I" } : MethodName)) ∈ jW := jW_t3 (i := 62) rfl rfl
set_option maxRecDepth 4000 in
theorem u543 : (Cond.code ({ cls := "PaperPocket", name := "isOver", desc := "(IIII)I" } : MethodName) prog_1_method_15_code (6 : Nat) (Option.some FieldType.int)) ∈ jW := jW_t3 (i := 63) rfl rfl
set_option maxRecDepth 4000 in
theorem u544 : (Cond.methodLink "PaperPocketLaw" (74 : Nat) ({ cls := "PaperPocket", name := "secret", desc := "(II)I" } : MethodName)) ∈ jW := jW_t3 (i := 64) rfl rfl
set_option maxRecDepth 4000 in
theorem u545 : (Cond.instanceMethod ({ cls := "PaperPocket", name := "secret", desc := "(II)I" } : MethodName)) ∈ jW := jW_t3 (i := 65) rfl rfl
set_option maxRecDepth 4000 in
theorem u546 : (Cond.selects "PaperPocket" ({ cls := "PaperPocket", name := "secret", desc := "(II)I" } : MethodName) ({ cls := "PaperPocket", name := "secret", desc := "(II)I" } : MethodName)) ∈ jW := jW_t3 (i := 66) rfl rfl
set_option maxRecDepth 4000 in
theorem u547 : (Cond.code ({ cls := "PaperPocket", name := "secret", desc := "(II)I" } : MethodName) prog_1_method_16_code (3 : Nat) (Option.some FieldType.int)) ∈ jW := jW_t3 (i := 67) rfl rfl
set_option maxRecDepth 4000 in
theorem u548 : (Cond.methodLink "PaperPocket" (233 : Nat) ({ cls := "PaperPocket", name := "isBearer", desc := "(I)Z" } : MethodName)) ∈ jW := jW_t3 (i := 68) rfl rfl
set_option maxRecDepth 4000 in
theorem u549 : (Cond.static ({ cls := "PaperPocket", name := "isBearer", desc := "(I)Z" } : MethodName)) ∈ jW := jW_t3 (i := 69) rfl rfl
set_option maxRecDepth 4000 in
theorem u550 : (Cond.code ({ cls := "PaperPocket", name := "isBearer", desc := "(I)Z" } : MethodName) prog_1_method_45_code (1 : Nat) (Option.some FieldType.boolean)) ∈ jW := jW_t3 (i := 70) rfl rfl
set_option maxRecDepth 4000 in
theorem u551 : (Cond.methodLink "PaperPocket" (236 : Nat) ({ cls := "PaperPocket", name := "signOf", desc := "(I)I" } : MethodName)) ∈ jW := jW_t3 (i := 71) rfl rfl
set_option maxRecDepth 4000 in
theorem u553 : (Cond.instanceMethod ({ cls := "PaperPocket", name := "signOf", desc := "(I)I" } : MethodName)) ∈ jW := jW_t3 (i := 73) rfl rfl
set_option maxRecDepth 4000 in
theorem u554 : (Cond.code ({ cls := "PaperPocket", name := "signOf", desc := "(I)I" } : MethodName) prog_1_method_56_code (2 : Nat) (Option.some FieldType.int)) ∈ jW := jW_t3 (i := 74) rfl rfl
set_option maxRecDepth 4000 in
theorem u555 : (Cond.methodLink "PaperPocket" (239 : Nat) ({ cls := "PaperPocket", name := "power", desc := "(II)I" } : MethodName)) ∈ jW := jW_t3 (i := 75) rfl rfl
set_option maxRecDepth 4000 in
theorem u556 : (Cond.static ({ cls := "PaperPocket", name := "power", desc := "(II)I" } : MethodName)) ∈ jW := jW_t3 (i := 76) rfl rfl
set_option maxRecDepth 4000 in
theorem u557 : (Cond.code ({ cls := "PaperPocket", name := "power", desc := "(II)I" } : MethodName) prog_1_method_53_code (4 : Nat) (Option.some FieldType.int)) ∈ jW := jW_t3 (i := 77) rfl rfl
set_option maxRecDepth 4000 in
theorem u558 : (Cond.methodLink "PaperPocketLaw" (78 : Nat) ({ cls := "PaperPocket", name := "answer", desc := "(IIII)I" } : MethodName)) ∈ jW := jW_t3 (i := 78) rfl rfl
set_option maxRecDepth 4000 in
theorem u559 : (Cond.instanceMethod ({ cls := "PaperPocket", name := "answer", desc := "(IIII)I" } : MethodName)) ∈ jW := jW_t3 (i := 79) rfl rfl
set_option maxRecDepth 4000 in
theorem u560 : (Cond.selects "PaperPocket" ({ cls := "PaperPocket", name := "answer", desc := "(IIII)I" } : MethodName) ({ cls := "PaperPocket", name := "answer", desc := "(IIII)I" } : MethodName)) ∈ jW := jW_t3 (i := 80) rfl rfl
set_option maxRecDepth 4000 in
theorem u561 : (Cond.code ({ cls := "PaperPocket", name := "answer", desc := "(IIII)I" } : MethodName) prog_1_method_17_code (5 : Nat) (Option.some FieldType.int)) ∈ jW := jW_t3 (i := 81) rfl rfl
set_option maxRecDepth 4000 in
theorem u562 : (Cond.methodLink "PaperPocketLaw" (82 : Nat) ({ cls := "PaperPocket", name := "taken", desc := "(IIII)I" } : MethodName)) ∈ jW := jW_t3 (i := 82) rfl rfl
set_option maxRecDepth 4000 in
theorem u563 : (Cond.instanceMethod ({ cls := "PaperPocket", name := "taken", desc := "(IIII)I" } : MethodName)) ∈ jW := jW_t3 (i := 83) rfl rfl
set_option maxRecDepth 4000 in
theorem u564 : (Cond.selects "PaperPocket" ({ cls := "PaperPocket", name := "taken", desc := "(IIII)I" } : MethodName) ({ cls := "PaperPocket", name := "taken", desc := "(IIII)I" } : MethodName)) ∈ jW := jW_t3 (i := 84) rfl rfl
set_option maxRecDepth 4000 in
theorem u565 : (Cond.code ({ cls := "PaperPocket", name := "taken", desc := "(IIII)I" } : MethodName) prog_1_method_18_code (5 : Nat) (Option.some FieldType.int)) ∈ jW := jW_t3 (i := 85) rfl rfl
set_option maxRecDepth 4000 in
theorem u566 : (Cond.methodLink "PaperPocket" (242 : Nat) ({ cls := "PaperPocket", name := "isTaken", desc := "(IIII)Z" } : MethodName)) ∈ jW := jW_t3 (i := 86) rfl rfl
set_option maxRecDepth 4000 in
theorem u568 : (Cond.instanceMethod ({ cls := "PaperPocket", name := "isTaken", desc := "(IIII)Z" } : MethodName)) ∈ jW := jW_t3 (i := 88) rfl rfl
set_option maxRecDepth 4000 in
theorem u569 : (Cond.code ({ cls := "PaperPocket", name := "isTaken", desc := "(IIII)Z" } : MethodName) prog_1_method_57_code (5 : Nat) (Option.some FieldType.boolean)) ∈ jW := jW_t3 (i := 89) rfl rfl
set_option maxRecDepth 4000 in
theorem u570 : (Cond.methodLink "PaperPocketLaw" (86 : Nat) ({ cls := "PaperPocket", name := "odds", desc := "(III)I" } : MethodName)) ∈ jW := jW_t3 (i := 90) rfl rfl
set_option maxRecDepth 4000 in
theorem u571 : (Cond.instanceMethod ({ cls := "PaperPocket", name := "odds", desc := "(III)I" } : MethodName)) ∈ jW := jW_t3 (i := 91) rfl rfl
set_option maxRecDepth 4000 in
theorem u572 : (Cond.selects "PaperPocket" ({ cls := "PaperPocket", name := "odds", desc := "(III)I" } : MethodName) ({ cls := "PaperPocket", name := "odds", desc := "(III)I" } : MethodName)) ∈ jW := jW_t3 (i := 92) rfl rfl
set_option maxRecDepth 4000 in
theorem u573 : (Cond.code ({ cls := "PaperPocket", name := "odds", desc := "(III)I" } : MethodName) prog_1_method_19_code (6 : Nat) (Option.some FieldType.int)) ∈ jW := jW_t3 (i := 93) rfl rfl
set_option maxRecDepth 4000 in
theorem u574 : (Cond.methodLink "PaperPocketLaw" (90 : Nat) ({ cls := "PaperPocket", name := "part", desc := "(III)I" } : MethodName)) ∈ jW := jW_t3 (i := 94) rfl rfl
set_option maxRecDepth 4000 in
theorem u575 : (Cond.instanceMethod ({ cls := "PaperPocket", name := "part", desc := "(III)I" } : MethodName)) ∈ jW := jW_t3 (i := 95) rfl rfl
set_option maxRecDepth 4000 in
theorem u576 : (Cond.selects "PaperPocket" ({ cls := "PaperPocket", name := "part", desc := "(III)I" } : MethodName) ({ cls := "PaperPocket", name := "part", desc := "(III)I" } : MethodName)) ∈ jW := jW_t3 (i := 96) rfl rfl
set_option maxRecDepth 4000 in
theorem u577 : (Cond.code ({ cls := "PaperPocket", name := "part", desc := "(III)I" } : MethodName) prog_1_method_20_code (4 : Nat) (Option.some FieldType.int)) ∈ jW := jW_t3 (i := 97) rfl rfl
set_option maxRecDepth 4000 in
theorem u578 : (Cond.methodLink "PaperPocket" (246 : Nat) ({ cls := "PaperPocket$Circle", name := "partOf", desc := "(III)I" } : MethodName)) ∈ jW := jW_t3 (i := 98) rfl rfl
set_option maxRecDepth 4000 in
theorem u579 : (Cond.static ({ cls := "PaperPocket$Circle", name := "partOf", desc := "(III)I" } : MethodName)) ∈ jW := jW_t3 (i := 99) rfl rfl
set_option maxRecDepth 4000 in
theorem u580 : (Cond.code ({ cls := "PaperPocket$Circle", name := "partOf", desc := "(III)I" } : MethodName) prog_4_method_2_code (6 : Nat) (Option.some FieldType.int)) ∈ jW := jW_t3 (i := 100) rfl rfl
set_option maxRecDepth 4000 in
theorem u581 : (Cond.methodLink "PaperPocketLaw" (94 : Nat) ({ cls := "PaperPocket", name := "friends", desc := "(IIII)I" } : MethodName)) ∈ jW := jW_t3 (i := 101) rfl rfl
set_option maxRecDepth 4000 in
theorem u582 : (Cond.instanceMethod ({ cls := "PaperPocket", name := "friends", desc := "(IIII)I" } : MethodName)) ∈ jW := jW_t3 (i := 102) rfl rfl
set_option maxRecDepth 4000 in
theorem u583 : (Cond.selects "PaperPocket" ({ cls := "PaperPocket", name := "friends", desc := "(IIII)I" } : MethodName) ({ cls := "PaperPocket", name := "friends", desc := "(IIII)I" } : MethodName)) ∈ jW := jW_t3 (i := 103) rfl rfl
set_option maxRecDepth 4000 in
theorem u584 : (Cond.code ({ cls := "PaperPocket", name := "friends", desc := "(IIII)I" } : MethodName) prog_1_method_21_code (6 : Nat) (Option.some FieldType.int)) ∈ jW := jW_t3 (i := 104) rfl rfl
set_option maxRecDepth 4000 in
theorem u585 : (Cond.methodLink "PaperPocket" (249 : Nat) ({ cls := "PaperPocket$Circle", name := "take", desc := "([III)Z" } : MethodName)) ∈ jW := jW_t3 (i := 105) rfl rfl
set_option maxRecDepth 4000 in
theorem u586 : (Cond.instanceMethod ({ cls := "PaperPocket$Circle", name := "take", desc := "([III)Z" } : MethodName)) ∈ jW := jW_t3 (i := 106) rfl rfl
set_option maxRecDepth 4000 in
theorem u587 : (Cond.selects "PaperPocket$Circle" ({ cls := "PaperPocket$Circle", name := "take", desc := "([III)Z" } : MethodName) ({ cls := "PaperPocket$Circle", name := "take", desc := "([III)Z" } : MethodName)) ∈ jW := jW_t3 (i := 107) rfl rfl
set_option maxRecDepth 4000 in
theorem u588 : (Cond.code ({ cls := "PaperPocket$Circle", name := "take", desc := "([III)Z" } : MethodName) prog_4_method_3_code (8 : Nat) (Option.some FieldType.boolean)) ∈ jW := jW_t3 (i := 108) rfl rfl
set_option maxRecDepth 4000 in
theorem u591 : (Cond.methodLink "PaperPocket" (253 : Nat) ({ cls := "PaperPocket$Circle", name := "sumAt", desc := "(II)I" } : MethodName)) ∈ jW := jW_t3 (i := 111) rfl rfl
set_option maxRecDepth 4000 in
theorem u592 : (Cond.instanceMethod ({ cls := "PaperPocket$Circle", name := "sumAt", desc := "(II)I" } : MethodName)) ∈ jW := jW_t3 (i := 112) rfl rfl
set_option maxRecDepth 4000 in
theorem u593 : (Cond.selects "PaperPocket$Circle" ({ cls := "PaperPocket$Circle", name := "sumAt", desc := "(II)I" } : MethodName) ({ cls := "PaperPocket$Circle", name := "sumAt", desc := "(II)I" } : MethodName)) ∈ jW := jW_t3 (i := 113) rfl rfl
set_option maxRecDepth 4000 in
theorem u594 : (Cond.code ({ cls := "PaperPocket$Circle", name := "sumAt", desc := "(II)I" } : MethodName) prog_4_method_4_code (8 : Nat) (Option.some FieldType.int)) ∈ jW := jW_t3 (i := 114) rfl rfl
set_option maxRecDepth 4000 in
theorem u595 : (Cond.methodLink "PaperPocket$Circle" (26 : Nat) ({ cls := "java/lang/Math", name := "floorMod", desc := "(II)I" } : MethodName)) ∈ jW := jW_t3 (i := 115) rfl rfl
set_option maxRecDepth 4000 in
theorem u596 : (Cond.static ({ cls := "java/lang/Math", name := "floorMod", desc := "(II)I" } : MethodName)) ∈ jW := jW_t3 (i := 116) rfl rfl
set_option maxRecDepth 4000 in
theorem u597 : (Cond.code ({ cls := "java/lang/Math", name := "floorMod", desc := "(II)I" } : MethodName) prog_15_method_50_code (3 : Nat) (Option.some FieldType.int)) ∈ jW := jW_t3 (i := 117) rfl rfl
set_option maxRecDepth 4000 in
theorem u598 : (Cond.methodLink "PaperPocket$Circle" (32 : Nat) ({ cls := "PaperPocket$Circle", name := "inverse", desc := "(I)I" } : MethodName)) ∈ jW := jW_t3 (i := 118) rfl rfl
set_option maxRecDepth 4000 in
theorem u599 : (Cond.static ({ cls := "PaperPocket$Circle", name := "inverse", desc := "(I)I" } : MethodName)) ∈ jW := jW_t3 (i := 119) rfl rfl
set_option maxRecDepth 4000 in
theorem u600 : (Cond.code ({ cls := "PaperPocket$Circle", name := "inverse", desc := "(I)I" } : MethodName) prog_4_method_5_code (3 : Nat) (Option.some FieldType.int)) ∈ jW := jW_t3 (i := 120) rfl rfl
set_option maxRecDepth 4000 in
theorem u601 : (Cond.methodLink "PaperPocket" (256 : Nat) ({ cls := "PaperPocket$Circle", name := "possible", desc := "(II)I" } : MethodName)) ∈ jW := jW_t3 (i := 121) rfl rfl
set_option maxRecDepth 4000 in
theorem u602 : (Cond.instanceMethod ({ cls := "PaperPocket$Circle", name := "possible", desc := "(II)I" } : MethodName)) ∈ jW := jW_t3 (i := 122) rfl rfl
set_option maxRecDepth 4000 in
theorem u603 : (Cond.selects "PaperPocket$Circle" ({ cls := "PaperPocket$Circle", name := "possible", desc := "(II)I" } : MethodName) ({ cls := "PaperPocket$Circle", name := "possible", desc := "(II)I" } : MethodName)) ∈ jW := jW_t3 (i := 123) rfl rfl
set_option maxRecDepth 4000 in
theorem u604 : (Cond.code ({ cls := "PaperPocket$Circle", name := "possible", desc := "(II)I" } : MethodName) prog_4_method_6_code (4 : Nat) (Option.some FieldType.int)) ∈ jW := jW_t3 (i := 124) rfl rfl
set_option maxRecDepth 4000 in
theorem u605 : (Cond.methodLink "PaperPocket$Circle" (36 : Nat) ({ cls := "PaperPocket$Circle", name := "sumAt", desc := "(II)I" } : MethodName)) ∈ jW := jW_t3 (i := 125) rfl rfl
set_option maxRecDepth 4000 in
theorem u606 : (Cond.methodLink "PaperPocketLaw" (98 : Nat) ({ cls := "PaperPocket", name := "book", desc := "(II)I" } : MethodName)) ∈ jW := jW_t3 (i := 126) rfl rfl
set_option maxRecDepth 4000 in
theorem u607 : (Cond.instanceMethod ({ cls := "PaperPocket", name := "book", desc := "(II)I" } : MethodName)) ∈ jW := jW_t3 (i := 127) rfl rfl
set_option maxRecDepth 4000 in
theorem u608 : (Cond.selects "PaperPocket" ({ cls := "PaperPocket", name := "book", desc := "(II)I" } : MethodName) ({ cls := "PaperPocket", name := "book", desc := "(II)I" } : MethodName)) ∈ jW := jW_t3 (i := 128) rfl rfl
set_option maxRecDepth 4000 in
theorem u609 : (Cond.code ({ cls := "PaperPocket", name := "book", desc := "(II)I" } : MethodName) prog_1_method_22_code (4 : Nat) (Option.some FieldType.int)) ∈ jW := jW_t3 (i := 129) rfl rfl
set_option maxRecDepth 4000 in
theorem u610 : (Cond.methodLink "PaperPocket" (259 : Nat) ({ cls := "PaperPocket", name := "isDoor", desc := "(I)Z" } : MethodName)) ∈ jW := jW_t3 (i := 130) rfl rfl
set_option maxRecDepth 4000 in
theorem u611 : (Cond.static ({ cls := "PaperPocket", name := "isDoor", desc := "(I)Z" } : MethodName)) ∈ jW := jW_t3 (i := 131) rfl rfl
set_option maxRecDepth 4000 in
theorem u612 : (Cond.code ({ cls := "PaperPocket", name := "isDoor", desc := "(I)Z" } : MethodName) prog_1_method_46_code (1 : Nat) (Option.some FieldType.boolean)) ∈ jW := jW_t3 (i := 132) rfl rfl
set_option maxRecDepth 4000 in
theorem u613 : (Cond.methodLink "PaperPocketLaw" (102 : Nat) ({ cls := "PaperPocket", name := "revoke", desc := "(II)I" } : MethodName)) ∈ jW := jW_t3 (i := 133) rfl rfl
set_option maxRecDepth 4000 in
theorem u614 : (Cond.instanceMethod ({ cls := "PaperPocket", name := "revoke", desc := "(II)I" } : MethodName)) ∈ jW := jW_t3 (i := 134) rfl rfl
set_option maxRecDepth 4000 in
theorem u615 : (Cond.selects "PaperPocket" ({ cls := "PaperPocket", name := "revoke", desc := "(II)I" } : MethodName) ({ cls := "PaperPocket", name := "revoke", desc := "(II)I" } : MethodName)) ∈ jW := jW_t3 (i := 135) rfl rfl
set_option maxRecDepth 4000 in
theorem u616 : (Cond.code ({ cls := "PaperPocket", name := "revoke", desc := "(II)I" } : MethodName) prog_1_method_23_code (4 : Nat) (Option.some FieldType.int)) ∈ jW := jW_t3 (i := 136) rfl rfl
set_option maxRecDepth 4000 in
theorem u617 : (Cond.methodLink "PaperPocketLaw" (106 : Nat) ({ cls := "PaperPocket", name := "holds", desc := "(III)I" } : MethodName)) ∈ jW := jW_t3 (i := 137) rfl rfl
set_option maxRecDepth 4000 in
theorem u618 : (Cond.instanceMethod ({ cls := "PaperPocket", name := "holds", desc := "(III)I" } : MethodName)) ∈ jW := jW_t3 (i := 138) rfl rfl
set_option maxRecDepth 4000 in
theorem u619 : (Cond.selects "PaperPocket" ({ cls := "PaperPocket", name := "holds", desc := "(III)I" } : MethodName) ({ cls := "PaperPocket", name := "holds", desc := "(III)I" } : MethodName)) ∈ jW := jW_t3 (i := 139) rfl rfl
set_option maxRecDepth 4000 in
theorem u620 : (Cond.code ({ cls := "PaperPocket", name := "holds", desc := "(III)I" } : MethodName) prog_1_method_24_code (5 : Nat) (Option.some FieldType.int)) ∈ jW := jW_t3 (i := 140) rfl rfl
set_option maxRecDepth 4000 in
theorem u621 : (Cond.methodLink "PaperPocket" (268 : Nat) ({ cls := "PaperPocket", name := "whyNot", desc := "(LPaperPocket$Paper;II)I" } : MethodName)) ∈ jW := jW_t3 (i := 141) rfl rfl
set_option maxRecDepth 4000 in
theorem u623 : (Cond.instanceMethod ({ cls := "PaperPocket", name := "whyNot", desc := "(LPaperPocket$Paper;II)I" } : MethodName)) ∈ jW := jW_t3 (i := 143) rfl rfl
set_option maxRecDepth 4000 in
theorem u624 : (Cond.code ({ cls := "PaperPocket", name := "whyNot", desc := "(LPaperPocket$Paper;II)I" } : MethodName) prog_1_method_58_code (7 : Nat) (Option.some FieldType.int)) ∈ jW := jW_t3 (i := 144) rfl rfl
set_option maxRecDepth 4000 in
theorem u625 : (Cond.methodLink "PaperPocket" (364 : Nat) ({ cls := "java/lang/Math", name := "min", desc := "(II)I" } : MethodName)) ∈ jW := jW_t3 (i := 145) rfl rfl
set_option maxRecDepth 4000 in
theorem u626 : (Cond.static ({ cls := "java/lang/Math", name := "min", desc := "(II)I" } : MethodName)) ∈ jW := jW_t3 (i := 146) rfl rfl
set_option maxRecDepth 4000 in
theorem u627 : (Cond.code ({ cls := "java/lang/Math", name := "min", desc := "(II)I" } : MethodName) prog_15_method_69_code (2 : Nat) (Option.some FieldType.int)) ∈ jW := jW_t3 (i := 147) rfl rfl
set_option maxRecDepth 4000 in
theorem u628 : (Cond.methodLink "PaperPocketLaw" (112 : Nat) ({ cls := "PaperPocket", name := "feed", desc := "(JI)I" } : MethodName)) ∈ jW := jW_t3 (i := 148) rfl rfl
set_option maxRecDepth 4000 in
theorem u629 : (Cond.instanceMethod ({ cls := "PaperPocket", name := "feed", desc := "(JI)I" } : MethodName)) ∈ jW := jW_t3 (i := 149) rfl rfl
set_option maxRecDepth 4000 in
theorem u630 : (Cond.selects "PaperPocket" ({ cls := "PaperPocket", name := "feed", desc := "(JI)I" } : MethodName) ({ cls := "PaperPocket", name := "feed", desc := "(JI)I" } : MethodName)) ∈ jW := jW_t3 (i := 150) rfl rfl
set_option maxRecDepth 4000 in
theorem u631 : (Cond.code ({ cls := "PaperPocket", name := "feed", desc := "(JI)I" } : MethodName) prog_1_method_25_code (4 : Nat) (Option.some FieldType.int)) ∈ jW := jW_t3 (i := 151) rfl rfl
set_option maxRecDepth 4000 in
theorem u632 : (Cond.methodLink "PaperPocket" (272 : Nat) ({ cls := "PaperPocket$Tape", name := "append", desc := "(JI)Z" } : MethodName)) ∈ jW := jW_t3 (i := 152) rfl rfl
set_option maxRecDepth 4000 in
theorem u633 : (Cond.instanceMethod ({ cls := "PaperPocket$Tape", name := "append", desc := "(JI)Z" } : MethodName)) ∈ jW := jW_t3 (i := 153) rfl rfl
set_option maxRecDepth 4000 in
theorem u634 : (Cond.selects "PaperPocket$Tape" ({ cls := "PaperPocket$Tape", name := "append", desc := "(JI)Z" } : MethodName) ({ cls := "PaperPocket$Tape", name := "append", desc := "(JI)Z" } : MethodName)) ∈ jW := jW_t3 (i := 154) rfl rfl
set_option maxRecDepth 4000 in
theorem u635 : (Cond.code ({ cls := "PaperPocket$Tape", name := "append", desc := "(JI)Z" } : MethodName) prog_11_method_2_code (5 : Nat) (Option.some FieldType.boolean)) ∈ jW := jW_t3 (i := 155) rfl rfl
set_option maxRecDepth 4000 in
theorem u636 : (Cond.methodLink "PaperPocketLaw" (117 : Nat) ({ cls := "PaperPocket", name := "doors", desc := "()I" } : MethodName)) ∈ jW := jW_t3 (i := 156) rfl rfl
set_option maxRecDepth 4000 in
theorem u637 : (Cond.instanceMethod ({ cls := "PaperPocket", name := "doors", desc := "()I" } : MethodName)) ∈ jW := jW_t3 (i := 157) rfl rfl
set_option maxRecDepth 4000 in
theorem u638 : (Cond.selects "PaperPocket" ({ cls := "PaperPocket", name := "doors", desc := "()I" } : MethodName) ({ cls := "PaperPocket", name := "doors", desc := "()I" } : MethodName)) ∈ jW := jW_t3 (i := 158) rfl rfl
set_option maxRecDepth 4000 in
theorem u639 : (Cond.code ({ cls := "PaperPocket", name := "doors", desc := "()I" } : MethodName) prog_1_method_26_code (1 : Nat) (Option.some FieldType.int)) ∈ jW := jW_t3 (i := 159) rfl rfl
set_option maxRecDepth 4000 in
theorem u640 : (Cond.methodLink "PaperPocket" (279 : Nat) ({ cls := "PaperPocket$Tape", name := "readAll", desc := "(LPaperPocket$Gates;)I" } : MethodName)) ∈ jW := jW_t3 (i := 160) rfl rfl
set_option maxRecDepth 4000 in
theorem u641 : (Cond.instanceMethod ({ cls := "PaperPocket$Tape", name := "readAll", desc := "(LPaperPocket$Gates;)I" } : MethodName)) ∈ jW := jW_t3 (i := 161) rfl rfl
set_option maxRecDepth 4000 in
theorem u642 : (Cond.selects "PaperPocket$Tape" ({ cls := "PaperPocket$Tape", name := "readAll", desc := "(LPaperPocket$Gates;)I" } : MethodName) ({ cls := "PaperPocket$Tape", name := "readAll", desc := "(LPaperPocket$Gates;)I" } : MethodName)) ∈ jW := jW_t3 (i := 162) rfl rfl
set_option maxRecDepth 4000 in
theorem u643 : (Cond.code ({ cls := "PaperPocket$Tape", name := "readAll", desc := "(LPaperPocket$Gates;)I" } : MethodName) prog_11_method_3_code (3 : Nat) (Option.some FieldType.int)) ∈ jW := jW_t3 (i := 163) rfl rfl
set_option maxRecDepth 4000 in
theorem u644 : (Cond.methodLink "PaperPocket$Tape" (23 : Nat) ({ cls := "PaperPocket$Tape", name := "readTexts", desc := "(LPaperPocket$Gates;)I" } : MethodName)) ∈ jW := jW_t3 (i := 164) rfl rfl
set_option maxRecDepth 4000 in
theorem u646 : (Cond.instanceMethod ({ cls := "PaperPocket$Tape", name := "readTexts", desc := "(LPaperPocket$Gates;)I" } : MethodName)) ∈ jW := jW_t3 (i := 166) rfl rfl
set_option maxRecDepth 4000 in
theorem u647 : (Cond.code ({ cls := "PaperPocket$Tape", name := "readTexts", desc := "(LPaperPocket$Gates;)I" } : MethodName) prog_11_method_4_code (4 : Nat) (Option.some FieldType.int)) ∈ jW := jW_t3 (i := 167) rfl rfl
set_option maxRecDepth 4000 in
theorem u648 : (Cond.methodLink "PaperPocket$Tape" (34 : Nat) ({ cls := "PaperPocket$Tape", name := "advance", desc := "()V" } : MethodName)) ∈ jW := jW_t3 (i := 168) rfl rfl
set_option maxRecDepth 4000 in
theorem u650 : (Cond.instanceMethod ({ cls := "PaperPocket$Tape", name := "advance", desc := "()V" } : MethodName)) ∈ jW := jW_t3 (i := 170) rfl rfl
set_option maxRecDepth 4000 in
theorem u651 : (Cond.code ({ cls := "PaperPocket$Tape", name := "advance", desc := "()V" } : MethodName) prog_11_method_11_code (1 : Nat) (Option.none : Option ClassFile.FieldType)) ∈ jW := jW_t3 (i := 171) rfl rfl
set_option maxRecDepth 4000 in
theorem u652 : (Cond.methodLink "PaperPocket$Tape" (99 : Nat) ({ cls := "PaperPocket$Tape", name := "isLetter", desc := "(B)Z" } : MethodName)) ∈ jW := jW_t3 (i := 172) rfl rfl
set_option maxRecDepth 4000 in
theorem u653 : (Cond.static ({ cls := "PaperPocket$Tape", name := "isLetter", desc := "(B)Z" } : MethodName)) ∈ jW := jW_t3 (i := 173) rfl rfl
set_option maxRecDepth 4000 in
theorem u654 : (Cond.code ({ cls := "PaperPocket$Tape", name := "isLetter", desc := "(B)Z" } : MethodName) prog_11_method_14_code (1 : Nat) (Option.some FieldType.boolean)) ∈ jW := jW_t3 (i := 174) rfl rfl
set_option maxRecDepth 4000 in
theorem u655 : (Cond.methodLink "PaperPocket$Tape" (103 : Nat) ({ cls := "PaperPocket$Tape", name := "readName", desc := "()V" } : MethodName)) ∈ jW := jW_t3 (i := 175) rfl rfl
set_option maxRecDepth 4000 in
theorem u657 : (Cond.instanceMethod ({ cls := "PaperPocket$Tape", name := "readName", desc := "()V" } : MethodName)) ∈ jW := jW_t3 (i := 177) rfl rfl
set_option maxRecDepth 4000 in
theorem u658 : (Cond.code ({ cls := "PaperPocket$Tape", name := "readName", desc := "()V" } : MethodName) prog_11_method_12_code (1 : Nat) (Option.none : Option ClassFile.FieldType)) ∈ jW := jW_t3 (i := 178) rfl rfl
set_option maxRecDepth 4000 in
theorem u659 : (Cond.methodLink "PaperPocket$Tape" (106 : Nat) ({ cls := "PaperPocket$Tape", name := "isFigure", desc := "(B)Z" } : MethodName)) ∈ jW := jW_t3 (i := 179) rfl rfl
set_option maxRecDepth 4000 in
theorem u660 : (Cond.static ({ cls := "PaperPocket$Tape", name := "isFigure", desc := "(B)Z" } : MethodName)) ∈ jW := jW_t3 (i := 180) rfl rfl
set_option maxRecDepth 4000 in
theorem u661 : (Cond.code ({ cls := "PaperPocket$Tape", name := "isFigure", desc := "(B)Z" } : MethodName) prog_11_method_15_code (1 : Nat) (Option.some FieldType.boolean)) ∈ jW := jW_t3 (i := 181) rfl rfl
set_option maxRecDepth 4000 in
theorem u662 : (Cond.methodLink "PaperPocket$Tape" (109 : Nat) ({ cls := "PaperPocket$Tape", name := "readFigures", desc := "()V" } : MethodName)) ∈ jW := jW_t3 (i := 182) rfl rfl
set_option maxRecDepth 4000 in
theorem u664 : (Cond.instanceMethod ({ cls := "PaperPocket$Tape", name := "readFigures", desc := "()V" } : MethodName)) ∈ jW := jW_t3 (i := 184) rfl rfl
set_option maxRecDepth 4000 in
theorem u665 : (Cond.code ({ cls := "PaperPocket$Tape", name := "readFigures", desc := "()V" } : MethodName) prog_11_method_13_code (1 : Nat) (Option.none : Option ClassFile.FieldType)) ∈ jW := jW_t3 (i := 185) rfl rfl
set_option maxRecDepth 4000 in
theorem u667 : (Cond.methodLink "PaperPocket$Tape" (42 : Nat) ({ cls := "PaperPocket$Tape", name := "isWord", desc := "(Ljava/lang/String;)Z" } : MethodName)) ∈ jW := jW_t3 (i := 187) rfl rfl
set_option maxRecDepth 4000 in
theorem u669 : (Cond.instanceMethod ({ cls := "PaperPocket$Tape", name := "isWord", desc := "(Ljava/lang/String;)Z" } : MethodName)) ∈ jW := jW_t3 (i := 189) rfl rfl
set_option maxRecDepth 4000 in
theorem u670 : (Cond.code ({ cls := "PaperPocket$Tape", name := "isWord", desc := "(Ljava/lang/String;)Z" } : MethodName) prog_11_method_16_code (3 : Nat) (Option.some FieldType.boolean)) ∈ jW := jW_t3 (i := 190) rfl rfl
set_option maxRecDepth 4000 in
theorem u671 : (Cond.methodLink "PaperPocket$Tape" (112 : Nat) ({ cls := "java/lang/String", name := "length", desc := "()I" } : MethodName)) ∈ jW := jW_t3 (i := 191) rfl rfl
set_option maxRecDepth 4000 in
theorem u672 : (Cond.instanceMethod ({ cls := "java/lang/String", name := "length", desc := "()I" } : MethodName)) ∈ jW := jW_t3 (i := 192) rfl rfl
set_option maxRecDepth 4000 in
theorem u673 : (Cond.selects "java/lang/String" ({ cls := "java/lang/String", name := "length", desc := "()I" } : MethodName) ({ cls := "java/lang/String", name := "length", desc := "()I" } : MethodName)) ∈ jW := jW_t3 (i := 193) rfl rfl
set_option maxRecDepth 4000 in
theorem u674 : (Cond.code ({ cls := "java/lang/String", name := "length", desc := "()I" } : MethodName) prog_16_method_54_code (1 : Nat) (Option.some FieldType.int)) ∈ jW := jW_t3 (i := 194) rfl rfl
set_option maxRecDepth 4000 in
theorem u675 : (Cond.methodLink "java/lang/String" (335 : Nat) ({ cls := "java/lang/String", name := "coder", desc := "()B" } : MethodName)) ∈ jW := jW_t3 (i := 195) rfl rfl
set_option maxRecDepth 4000 in
theorem u676 : (Cond.instanceMethod ({ cls := "java/lang/String", name := "coder", desc := "()B" } : MethodName)) ∈ jW := jW_t3 (i := 196) rfl rfl
set_option maxRecDepth 4000 in
theorem u677 : (Cond.selects "java/lang/String" ({ cls := "java/lang/String", name := "coder", desc := "()B" } : MethodName) ({ cls := "java/lang/String", name := "coder", desc := "()B" } : MethodName)) ∈ jW := jW_t3 (i := 197) rfl rfl
set_option maxRecDepth 4000 in
theorem u678 : (Cond.code ({ cls := "java/lang/String", name := "coder", desc := "()B" } : MethodName) prog_16_method_152_code (1 : Nat) (Option.some FieldType.byte)) ∈ jW := jW_t3 (i := 198) rfl rfl
set_option maxRecDepth 4000 in
theorem u679 : (Cond.fieldLink "java/lang/String" (38 : Nat) "java/lang/String" "COMPACT_STRINGS" "Z") ∈ jW := jW_t3 (i := 199) rfl rfl
set_option maxRecDepth 4000 in
theorem u681 : (Cond.methodLink "PaperPocket$Tape" (118 : Nat) ({ cls := "java/lang/String", name := "charAt", desc := "(I)C" } : MethodName)) ∈ jW := jW_t3 (i := 201) rfl rfl
set_option maxRecDepth 4000 in
theorem u682 : (Cond.instanceMethod ({ cls := "java/lang/String", name := "charAt", desc := "(I)C" } : MethodName)) ∈ jW := jW_t3 (i := 202) rfl rfl
set_option maxRecDepth 4000 in
theorem u683 : (Cond.selects "java/lang/String" ({ cls := "java/lang/String", name := "charAt", desc := "(I)C" } : MethodName) ({ cls := "java/lang/String", name := "charAt", desc := "(I)C" } : MethodName)) ∈ jW := jW_t3 (i := 203) rfl rfl
set_option maxRecDepth 4000 in
theorem u684 : (Cond.code ({ cls := "java/lang/String", name := "charAt", desc := "(I)C" } : MethodName) prog_16_method_56_code (2 : Nat) (Option.some FieldType.char)) ∈ jW := jW_t3 (i := 204) rfl rfl
set_option maxRecDepth 4000 in
theorem u685 : (Cond.methodLink "java/lang/String" (492 : Nat) ({ cls := "java/lang/String", name := "isLatin1", desc := "()Z" } : MethodName)) ∈ jW := jW_t3 (i := 205) rfl rfl
set_option maxRecDepth 4000 in
theorem u686 : (Cond.instanceMethod ({ cls := "java/lang/String", name := "isLatin1", desc := "()Z" } : MethodName)) ∈ jW := jW_t3 (i := 206) rfl rfl
set_option maxRecDepth 4000 in
theorem u687 : (Cond.selects "java/lang/String" ({ cls := "java/lang/String", name := "isLatin1", desc := "()Z" } : MethodName) ({ cls := "java/lang/String", name := "isLatin1", desc := "()Z" } : MethodName)) ∈ jW := jW_t3 (i := 207) rfl rfl
set_option maxRecDepth 4000 in
theorem u688 : (Cond.code ({ cls := "java/lang/String", name := "isLatin1", desc := "()Z" } : MethodName) prog_16_method_154_code (1 : Nat) (Option.some FieldType.boolean)) ∈ jW := jW_t3 (i := 208) rfl rfl
set_option maxRecDepth 4000 in
theorem u689 : (Cond.methodLink "java/lang/String" (495 : Nat) ({ cls := "java/lang/StringLatin1", name := "charAt", desc := "([BI)C" } : MethodName)) ∈ jW := jW_t3 (i := 209) rfl rfl
set_option maxRecDepth 4000 in
theorem u690 : (Cond.static ({ cls := "java/lang/StringLatin1", name := "charAt", desc := "([BI)C" } : MethodName)) ∈ jW := jW_t3 (i := 210) rfl rfl
set_option maxRecDepth 4000 in
theorem u691 : (Cond.code ({ cls := "java/lang/StringLatin1", name := "charAt", desc := "([BI)C" } : MethodName) prog_17_method_2_code (2 : Nat) (Option.some FieldType.char)) ∈ jW := jW_t3 (i := 211) rfl rfl
set_option maxRecDepth 4000 in
theorem u692 : (Cond.methodLink "java/lang/StringLatin1" (9 : Nat) ({ cls := "java/lang/String", name := "checkIndex", desc := "(II)V" } : MethodName)) ∈ jW := jW_t3 (i := 212) rfl rfl
set_option maxRecDepth 4000 in
theorem u693 : (Cond.static ({ cls := "java/lang/String", name := "checkIndex", desc := "(II)V" } : MethodName)) ∈ jW := jW_t3 (i := 213) rfl rfl
set_option maxRecDepth 4000 in
theorem u694 : (Cond.code ({ cls := "java/lang/String", name := "checkIndex", desc := "(II)V" } : MethodName) prog_16_method_155_code (2 : Nat) (Option.none : Option ClassFile.FieldType)) ∈ jW := jW_t3 (i := 214) rfl rfl
set_option maxRecDepth 4000 in
theorem u695 : (Cond.fieldLink "java/lang/String" (1053 : Nat) "jdk/internal/util/Preconditions" "SIOOBE_FORMATTER" "Ljava/util/function/BiFunction;") ∈ jW := jW_t3 (i := 215) rfl rfl
set_option maxRecDepth 4000 in
theorem u697 : (Cond.methodLink "java/lang/String" (1059 : Nat) ({ cls := "jdk/internal/util/Preconditions", name := "checkIndex", desc := "(IILjava/util/function/BiFunction;)I" } : MethodName)) ∈ jW := jW_t3 (i := 217) rfl rfl
set_option maxRecDepth 4000 in
theorem u698 : (Cond.static ({ cls := "jdk/internal/util/Preconditions", name := "checkIndex", desc := "(IILjava/util/function/BiFunction;)I" } : MethodName)) ∈ jW := jW_t3 (i := 218) rfl rfl
set_option maxRecDepth 4000 in
theorem u699 : (Cond.code ({ cls := "jdk/internal/util/Preconditions", name := "checkIndex", desc := "(IILjava/util/function/BiFunction;)I" } : MethodName) prog_21_method_11_code (3 : Nat) (Option.some FieldType.int)) ∈ jW := jW_t3 (i := 219) rfl rfl
set_option maxRecDepth 4000 in
theorem u700 : (Cond.methodLink "java/lang/String" (498 : Nat) ({ cls := "java/lang/StringUTF16", name := "charAt", desc := "([BI)C" } : MethodName)) ∈ jW := jW_t3 (i := 220) rfl rfl
set_option maxRecDepth 4000 in
theorem u701 : (Cond.static ({ cls := "java/lang/StringUTF16", name := "charAt", desc := "([BI)C" } : MethodName)) ∈ jW := jW_t3 (i := 221) rfl rfl
set_option maxRecDepth 4000 in
theorem u702 : (Cond.code ({ cls := "java/lang/StringUTF16", name := "charAt", desc := "([BI)C" } : MethodName) prog_18_method_83_code (2 : Nat) (Option.some FieldType.char)) ∈ jW := jW_t3 (i := 222) rfl rfl
set_option maxRecDepth 4000 in
theorem u703 : (Cond.methodLink "java/lang/StringUTF16" (67 : Nat) ({ cls := "java/lang/StringUTF16", name := "checkIndex", desc := "(I[B)V" } : MethodName)) ∈ jW := jW_t3 (i := 223) rfl rfl
set_option maxRecDepth 4000 in
theorem u704 : (Cond.static ({ cls := "java/lang/StringUTF16", name := "checkIndex", desc := "(I[B)V" } : MethodName)) ∈ jW := jW_t3 (i := 224) rfl rfl
set_option maxRecDepth 4000 in
theorem u705 : (Cond.code ({ cls := "java/lang/StringUTF16", name := "checkIndex", desc := "(I[B)V" } : MethodName) prog_18_method_91_code (2 : Nat) (Option.none : Option ClassFile.FieldType)) ∈ jW := jW_t3 (i := 225) rfl rfl
set_option maxRecDepth 4000 in
theorem u706 : (Cond.methodLink "java/lang/StringUTF16" (48 : Nat) ({ cls := "java/lang/StringUTF16", name := "length", desc := "([B)I" } : MethodName)) ∈ jW := jW_t3 (i := 226) rfl rfl
set_option maxRecDepth 4000 in
theorem u707 : (Cond.static ({ cls := "java/lang/StringUTF16", name := "length", desc := "([B)I" } : MethodName)) ∈ jW := jW_t3 (i := 227) rfl rfl
set_option maxRecDepth 4000 in
theorem u708 : (Cond.code ({ cls := "java/lang/StringUTF16", name := "length", desc := "([B)I" } : MethodName) prog_18_method_6_code (1 : Nat) (Option.some FieldType.int)) ∈ jW := jW_t3 (i := 228) rfl rfl
set_option maxRecDepth 4000 in
theorem u709 : (Cond.methodLink "java/lang/StringUTF16" (414 : Nat) ({ cls := "java/lang/String", name := "checkIndex", desc := "(II)V" } : MethodName)) ∈ jW := jW_t3 (i := 229) rfl rfl
set_option maxRecDepth 4000 in
theorem u710 : (Cond.methodLink "java/lang/StringUTF16" (71 : Nat) ({ cls := "java/lang/StringUTF16", name := "getChar", desc := "([BI)C" } : MethodName)) ∈ jW := jW_t3 (i := 230) rfl rfl
set_option maxRecDepth 4000 in
theorem u711 : (Cond.static ({ cls := "java/lang/StringUTF16", name := "getChar", desc := "([BI)C" } : MethodName)) ∈ jW := jW_t3 (i := 231) rfl rfl
set_option maxRecDepth 4000 in
theorem u712 : (Cond.code ({ cls := "java/lang/StringUTF16", name := "getChar", desc := "([BI)C" } : MethodName) prog_18_method_5_code (2 : Nat) (Option.some FieldType.char)) ∈ jW := jW_t3 (i := 232) rfl rfl
set_option maxRecDepth 4000 in
theorem u713 : (Cond.fieldLink "java/lang/StringUTF16" (44 : Nat) "java/lang/StringUTF16" "$assertionsDisabled" "Z") ∈ jW := jW_t3 (i := 233) rfl rfl
set_option maxRecDepth 4000 in
theorem u715 : (Cond.fieldLink "java/lang/StringUTF16" (59 : Nat) "java/lang/StringUTF16" "HI_BYTE_SHIFT" "I") ∈ jW := jW_t3 (i := 235) rfl rfl
set_option maxRecDepth 4000 in
theorem u717 : (Cond.fieldLink "java/lang/StringUTF16" (63 : Nat) "java/lang/StringUTF16" "LO_BYTE_SHIFT" "I") ∈ jW := jW_t3 (i := 237) rfl rfl
set_option maxRecDepth 4000 in
theorem u719 : (Cond.methodLink "PaperPocket$Tape" (46 : Nat) ({ cls := "PaperPocket$Tape", name := "readDoor", desc := "(LPaperPocket$Gates;)Z" } : MethodName)) ∈ jW := jW_t3 (i := 239) rfl rfl
set_option maxRecDepth 4000 in
theorem u721 : (Cond.instanceMethod ({ cls := "PaperPocket$Tape", name := "readDoor", desc := "(LPaperPocket$Gates;)Z" } : MethodName)) ∈ jW := jW_t4 (i := 1) rfl rfl
set_option maxRecDepth 4000 in
theorem u722 : (Cond.code ({ cls := "PaperPocket$Tape", name := "readDoor", desc := "(LPaperPocket$Gates;)Z" } : MethodName) prog_11_method_5_code (4 : Nat) (Option.some FieldType.boolean)) ∈ jW := jW_t4 (i := 2) rfl rfl
set_option maxRecDepth 4000 in
theorem u723 : (Cond.methodLink "PaperPocket$Tape" (59 : Nat) ({ cls := "PaperPocket$Tape", name := "expectNumber", desc := "(I)Z" } : MethodName)) ∈ jW := jW_t4 (i := 3) rfl rfl
set_option maxRecDepth 4000 in
theorem u725 : (Cond.instanceMethod ({ cls := "PaperPocket$Tape", name := "expectNumber", desc := "(I)Z" } : MethodName)) ∈ jW := jW_t4 (i := 5) rfl rfl
set_option maxRecDepth 4000 in
theorem u726 : (Cond.code ({ cls := "PaperPocket$Tape", name := "expectNumber", desc := "(I)Z" } : MethodName) prog_11_method_8_code (2 : Nat) (Option.some FieldType.boolean)) ∈ jW := jW_t4 (i := 6) rfl rfl
set_option maxRecDepth 4000 in
theorem u727 : (Cond.methodLink "PaperPocket$Tape" (55 : Nat) ({ cls := "PaperPocket$Tape", name := "fail", desc := "(I)Z" } : MethodName)) ∈ jW := jW_t4 (i := 7) rfl rfl
set_option maxRecDepth 4000 in
theorem u729 : (Cond.instanceMethod ({ cls := "PaperPocket$Tape", name := "fail", desc := "(I)Z" } : MethodName)) ∈ jW := jW_t4 (i := 9) rfl rfl
set_option maxRecDepth 4000 in
theorem u730 : (Cond.code ({ cls := "PaperPocket$Tape", name := "fail", desc := "(I)Z" } : MethodName) prog_11_method_10_code (2 : Nat) (Option.some FieldType.boolean)) ∈ jW := jW_t4 (i := 10) rfl rfl
set_option maxRecDepth 4000 in
theorem u731 : (Cond.methodLink "PaperPocket$Tape" (71 : Nat) ({ cls := "PaperPocket$Tape", name := "readAsk", desc := "(LPaperPocket$Gates;II)Z" } : MethodName)) ∈ jW := jW_t4 (i := 11) rfl rfl
set_option maxRecDepth 4000 in
theorem u733 : (Cond.instanceMethod ({ cls := "PaperPocket$Tape", name := "readAsk", desc := "(LPaperPocket$Gates;II)Z" } : MethodName)) ∈ jW := jW_t4 (i := 13) rfl rfl
set_option maxRecDepth 4000 in
theorem u734 : (Cond.code ({ cls := "PaperPocket$Tape", name := "readAsk", desc := "(LPaperPocket$Gates;II)Z" } : MethodName) prog_11_method_6_code (7 : Nat) (Option.some FieldType.boolean)) ∈ jW := jW_t4 (i := 14) rfl rfl
set_option maxRecDepth 4000 in
theorem u738 : (Cond.constant "PaperPocket$Tape" (85 : Nat) (-1000000 : Int32)) ∈ jW := jW_t4 (i := 18) rfl rfl
set_option maxRecDepth 4000 in
theorem u739 : (Cond.methodLink "PaperPocket$Tape" (86 : Nat) ({ cls := "PaperPocket$Gates", name := "addAsk", desc := "(IIII)V" } : MethodName)) ∈ jW := jW_t4 (i := 19) rfl rfl
set_option maxRecDepth 4000 in
theorem u740 : (Cond.instanceMethod ({ cls := "PaperPocket$Gates", name := "addAsk", desc := "(IIII)V" } : MethodName)) ∈ jW := jW_t4 (i := 20) rfl rfl
set_option maxRecDepth 4000 in
theorem u741 : (Cond.selects "PaperPocket$Gates" ({ cls := "PaperPocket$Gates", name := "addAsk", desc := "(IIII)V" } : MethodName) ({ cls := "PaperPocket$Gates", name := "addAsk", desc := "(IIII)V" } : MethodName)) ∈ jW := jW_t4 (i := 21) rfl rfl
set_option maxRecDepth 4000 in
theorem u742 : (Cond.code ({ cls := "PaperPocket$Gates", name := "addAsk", desc := "(IIII)V" } : MethodName) prog_5_method_2_code (6 : Nat) (Option.none : Option ClassFile.FieldType)) ∈ jW := jW_t4 (i := 22) rfl rfl
set_option maxRecDepth 4000 in
theorem u743 : (Cond.methodLink "PaperPocket$Tape" (75 : Nat) ({ cls := "PaperPocket$Tape", name := "expectStop", desc := "()Z" } : MethodName)) ∈ jW := jW_t4 (i := 23) rfl rfl
set_option maxRecDepth 4000 in
theorem u745 : (Cond.instanceMethod ({ cls := "PaperPocket$Tape", name := "expectStop", desc := "()Z" } : MethodName)) ∈ jW := jW_t4 (i := 25) rfl rfl
set_option maxRecDepth 4000 in
theorem u746 : (Cond.code ({ cls := "PaperPocket$Tape", name := "expectStop", desc := "()Z" } : MethodName) prog_11_method_9_code (1 : Nat) (Option.some FieldType.boolean)) ∈ jW := jW_t4 (i := 26) rfl rfl
set_option maxRecDepth 4000 in
theorem u748 : (Cond.methodLink "PaperPocket$Tape" (52 : Nat) ({ cls := "PaperPocket$Tape", name := "readRight", desc := "(LPaperPocket$Gates;)Z" } : MethodName)) ∈ jW := jW_t4 (i := 28) rfl rfl
set_option maxRecDepth 4000 in
theorem u750 : (Cond.instanceMethod ({ cls := "PaperPocket$Tape", name := "readRight", desc := "(LPaperPocket$Gates;)Z" } : MethodName)) ∈ jW := jW_t4 (i := 30) rfl rfl
set_option maxRecDepth 4000 in
theorem u751 : (Cond.code ({ cls := "PaperPocket$Tape", name := "readRight", desc := "(LPaperPocket$Gates;)Z" } : MethodName) prog_11_method_7_code (5 : Nat) (Option.some FieldType.boolean)) ∈ jW := jW_t4 (i := 31) rfl rfl
set_option maxRecDepth 4000 in
theorem u752 : (Cond.constant "PaperPocket$Tape" (27 : Nat) (-1000100 : Int32)) ∈ jW := jW_t4 (i := 32) rfl rfl
set_option maxRecDepth 4000 in
theorem u753 : (Cond.methodLink "PaperPocketLaw" (122 : Nat) ({ cls := "PaperPocket", name := "fault", desc := "()I" } : MethodName)) ∈ jW := jW_t4 (i := 33) rfl rfl
set_option maxRecDepth 4000 in
theorem u754 : (Cond.instanceMethod ({ cls := "PaperPocket", name := "fault", desc := "()I" } : MethodName)) ∈ jW := jW_t4 (i := 34) rfl rfl
set_option maxRecDepth 4000 in
theorem u755 : (Cond.selects "PaperPocket" ({ cls := "PaperPocket", name := "fault", desc := "()I" } : MethodName) ({ cls := "PaperPocket", name := "fault", desc := "()I" } : MethodName)) ∈ jW := jW_t4 (i := 35) rfl rfl
set_option maxRecDepth 4000 in
theorem u756 : (Cond.code ({ cls := "PaperPocket", name := "fault", desc := "()I" } : MethodName) prog_1_method_27_code (1 : Nat) (Option.some FieldType.int)) ∈ jW := jW_t4 (i := 36) rfl rfl
set_option maxRecDepth 4000 in
theorem u757 : (Cond.methodLink "PaperPocketLaw" (126 : Nat) ({ cls := "PaperPocket", name := "door", desc := "(II)I" } : MethodName)) ∈ jW := jW_t4 (i := 37) rfl rfl
set_option maxRecDepth 4000 in
theorem u758 : (Cond.instanceMethod ({ cls := "PaperPocket", name := "door", desc := "(II)I" } : MethodName)) ∈ jW := jW_t4 (i := 38) rfl rfl
set_option maxRecDepth 4000 in
theorem u759 : (Cond.selects "PaperPocket" ({ cls := "PaperPocket", name := "door", desc := "(II)I" } : MethodName) ({ cls := "PaperPocket", name := "door", desc := "(II)I" } : MethodName)) ∈ jW := jW_t4 (i := 39) rfl rfl
set_option maxRecDepth 4000 in
theorem u760 : (Cond.code ({ cls := "PaperPocket", name := "door", desc := "(II)I" } : MethodName) prog_1_method_28_code (3 : Nat) (Option.some FieldType.int)) ∈ jW := jW_t4 (i := 40) rfl rfl
set_option maxRecDepth 4000 in
theorem u761 : (Cond.methodLink "PaperPocket" (292 : Nat) ({ cls := "PaperPocket$Gates", name := "asksTooMuch", desc := "(I)Z" } : MethodName)) ∈ jW := jW_t4 (i := 41) rfl rfl
set_option maxRecDepth 4000 in
theorem u762 : (Cond.instanceMethod ({ cls := "PaperPocket$Gates", name := "asksTooMuch", desc := "(I)Z" } : MethodName)) ∈ jW := jW_t4 (i := 42) rfl rfl
set_option maxRecDepth 4000 in
theorem u763 : (Cond.selects "PaperPocket$Gates" ({ cls := "PaperPocket$Gates", name := "asksTooMuch", desc := "(I)Z" } : MethodName) ({ cls := "PaperPocket$Gates", name := "asksTooMuch", desc := "(I)Z" } : MethodName)) ∈ jW := jW_t4 (i := 43) rfl rfl
set_option maxRecDepth 4000 in
theorem u764 : (Cond.code ({ cls := "PaperPocket$Gates", name := "asksTooMuch", desc := "(I)Z" } : MethodName) prog_5_method_3_code (3 : Nat) (Option.some FieldType.boolean)) ∈ jW := jW_t4 (i := 44) rfl rfl
set_option maxRecDepth 4000 in
theorem u766 : (Cond.methodLink "PaperPocketLaw" (130 : Nat) ({ cls := "PaperPocket", name := "least", desc := "(IIII)I" } : MethodName)) ∈ jW := jW_t4 (i := 46) rfl rfl
set_option maxRecDepth 4000 in
theorem u767 : (Cond.instanceMethod ({ cls := "PaperPocket", name := "least", desc := "(IIII)I" } : MethodName)) ∈ jW := jW_t4 (i := 47) rfl rfl
set_option maxRecDepth 4000 in
theorem u768 : (Cond.selects "PaperPocket" ({ cls := "PaperPocket", name := "least", desc := "(IIII)I" } : MethodName) ({ cls := "PaperPocket", name := "least", desc := "(IIII)I" } : MethodName)) ∈ jW := jW_t4 (i := 48) rfl rfl
set_option maxRecDepth 4000 in
theorem u769 : (Cond.code ({ cls := "PaperPocket", name := "least", desc := "(IIII)I" } : MethodName) prog_1_method_29_code (6 : Nat) (Option.some FieldType.int)) ∈ jW := jW_t4 (i := 49) rfl rfl
set_option maxRecDepth 4000 in
theorem u770 : (Cond.methodLink "PaperPocket" (295 : Nat) ({ cls := "PaperPocket", name := "lightest", desc := "(III)I" } : MethodName)) ∈ jW := jW_t4 (i := 50) rfl rfl
set_option maxRecDepth 4000 in
theorem u772 : (Cond.instanceMethod ({ cls := "PaperPocket", name := "lightest", desc := "(III)I" } : MethodName)) ∈ jW := jW_t4 (i := 52) rfl rfl
set_option maxRecDepth 4000 in
theorem u773 : (Cond.code ({ cls := "PaperPocket", name := "lightest", desc := "(III)I" } : MethodName) prog_1_method_59_code (6 : Nat) (Option.some FieldType.int)) ∈ jW := jW_t4 (i := 53) rfl rfl
set_option maxRecDepth 4000 in
theorem u774 : (Cond.methodLink "PaperPocket" (369 : Nat) ({ cls := "PaperPocket$Choice", name := "begin", desc := "(I)V" } : MethodName)) ∈ jW := jW_t4 (i := 54) rfl rfl
set_option maxRecDepth 4000 in
theorem u775 : (Cond.instanceMethod ({ cls := "PaperPocket$Choice", name := "begin", desc := "(I)V" } : MethodName)) ∈ jW := jW_t4 (i := 55) rfl rfl
set_option maxRecDepth 4000 in
theorem u776 : (Cond.selects "PaperPocket$Choice" ({ cls := "PaperPocket$Choice", name := "begin", desc := "(I)V" } : MethodName) ({ cls := "PaperPocket$Choice", name := "begin", desc := "(I)V" } : MethodName)) ∈ jW := jW_t4 (i := 56) rfl rfl
set_option maxRecDepth 4000 in
theorem u777 : (Cond.code ({ cls := "PaperPocket$Choice", name := "begin", desc := "(I)V" } : MethodName) prog_3_method_2_code (2 : Nat) (Option.none : Option ClassFile.FieldType)) ∈ jW := jW_t4 (i := 57) rfl rfl
set_option maxRecDepth 4000 in
theorem u778 : (Cond.methodLink "PaperPocket$Choice" (17 : Nat) ({ cls := "java/lang/Math", name := "min", desc := "(II)I" } : MethodName)) ∈ jW := jW_t4 (i := 58) rfl rfl
set_option maxRecDepth 4000 in
theorem u779 : (Cond.constant "PaperPocket$Choice" (27 : Nat) (-1000000 : Int32)) ∈ jW := jW_t4 (i := 59) rfl rfl
set_option maxRecDepth 4000 in
theorem u780 : (Cond.methodLink "PaperPocket$Choice" (28 : Nat) ({ cls := "java/util/Arrays", name := "fill", desc := "([II)V" } : MethodName)) ∈ jW := jW_t4 (i := 60) rfl rfl
set_option maxRecDepth 4000 in
theorem u781 : (Cond.methodLink "PaperPocket" (373 : Nat) ({ cls := "PaperPocket$Gates", name := "fittedBy", desc := "(LPaperPocket$Paper;I)I" } : MethodName)) ∈ jW := jW_t4 (i := 61) rfl rfl
set_option maxRecDepth 4000 in
theorem u782 : (Cond.instanceMethod ({ cls := "PaperPocket$Gates", name := "fittedBy", desc := "(LPaperPocket$Paper;I)I" } : MethodName)) ∈ jW := jW_t4 (i := 62) rfl rfl
set_option maxRecDepth 4000 in
theorem u783 : (Cond.selects "PaperPocket$Gates" ({ cls := "PaperPocket$Gates", name := "fittedBy", desc := "(LPaperPocket$Paper;I)I" } : MethodName) ({ cls := "PaperPocket$Gates", name := "fittedBy", desc := "(LPaperPocket$Paper;I)I" } : MethodName)) ∈ jW := jW_t4 (i := 63) rfl rfl
set_option maxRecDepth 4000 in
theorem u784 : (Cond.code ({ cls := "PaperPocket$Gates", name := "fittedBy", desc := "(LPaperPocket$Paper;I)I" } : MethodName) prog_5_method_4_code (5 : Nat) (Option.some FieldType.int)) ∈ jW := jW_t4 (i := 64) rfl rfl
set_option maxRecDepth 4000 in
theorem u785 : (Cond.methodLink "PaperPocket$Gates" (42 : Nat) ({ cls := "PaperPocket$Gates", name := "isFitted", desc := "(LPaperPocket$Paper;III)Z" } : MethodName)) ∈ jW := jW_t4 (i := 65) rfl rfl
set_option maxRecDepth 4000 in
theorem u786 : (Cond.static ({ cls := "PaperPocket$Gates", name := "isFitted", desc := "(LPaperPocket$Paper;III)Z" } : MethodName)) ∈ jW := jW_t4 (i := 66) rfl rfl
set_option maxRecDepth 4000 in
theorem u787 : (Cond.code ({ cls := "PaperPocket$Gates", name := "isFitted", desc := "(LPaperPocket$Paper;III)Z" } : MethodName) prog_5_method_5_code (4 : Nat) (Option.some FieldType.boolean)) ∈ jW := jW_t4 (i := 67) rfl rfl
set_option maxRecDepth 4000 in
theorem u788 : (Cond.methodLink "PaperPocket" (376 : Nat) ({ cls := "PaperPocket$Choice", name := "offer", desc := "(II)V" } : MethodName)) ∈ jW := jW_t4 (i := 68) rfl rfl
set_option maxRecDepth 4000 in
theorem u789 : (Cond.instanceMethod ({ cls := "PaperPocket$Choice", name := "offer", desc := "(II)V" } : MethodName)) ∈ jW := jW_t4 (i := 69) rfl rfl
set_option maxRecDepth 4000 in
theorem u790 : (Cond.selects "PaperPocket$Choice" ({ cls := "PaperPocket$Choice", name := "offer", desc := "(II)V" } : MethodName) ({ cls := "PaperPocket$Choice", name := "offer", desc := "(II)V" } : MethodName)) ∈ jW := jW_t4 (i := 70) rfl rfl
set_option maxRecDepth 4000 in
theorem u791 : (Cond.code ({ cls := "PaperPocket$Choice", name := "offer", desc := "(II)V" } : MethodName) prog_3_method_3_code (7 : Nat) (Option.none : Option ClassFile.FieldType)) ∈ jW := jW_t4 (i := 71) rfl rfl
set_option maxRecDepth 4000 in
theorem u792 : (Cond.methodLink "PaperPocket$Choice" (34 : Nat) ({ cls := "java/lang/Integer", name := "bitCount", desc := "(I)I" } : MethodName)) ∈ jW := jW_t4 (i := 72) rfl rfl
set_option maxRecDepth 4000 in
theorem u793 : (Cond.static ({ cls := "java/lang/Integer", name := "bitCount", desc := "(I)I" } : MethodName)) ∈ jW := jW_t4 (i := 73) rfl rfl
set_option maxRecDepth 4000 in
theorem u794 : (Cond.code ({ cls := "java/lang/Integer", name := "bitCount", desc := "(I)I" } : MethodName) prog_14_method_49_code (1 : Nat) (Option.some FieldType.int)) ∈ jW := jW_t4 (i := 74) rfl rfl
set_option maxRecDepth 4000 in
theorem u795 : (Cond.constant "java/lang/Integer" (265 : Nat) (1431655765 : Int32)) ∈ jW := jW_t4 (i := 75) rfl rfl
set_option maxRecDepth 4000 in
theorem u796 : (Cond.constant "java/lang/Integer" (266 : Nat) (858993459 : Int32)) ∈ jW := jW_t4 (i := 76) rfl rfl
set_option maxRecDepth 4000 in
theorem u797 : (Cond.constant "java/lang/Integer" (267 : Nat) (252645135 : Int32)) ∈ jW := jW_t4 (i := 77) rfl rfl
set_option maxRecDepth 4000 in
theorem u798 : (Cond.methodLink "PaperPocket" (380 : Nat) ({ cls := "PaperPocket$Choice", name := "best", desc := "()I" } : MethodName)) ∈ jW := jW_t4 (i := 78) rfl rfl
set_option maxRecDepth 4000 in
theorem u799 : (Cond.instanceMethod ({ cls := "PaperPocket$Choice", name := "best", desc := "()I" } : MethodName)) ∈ jW := jW_t4 (i := 79) rfl rfl
set_option maxRecDepth 4000 in
theorem u800 : (Cond.selects "PaperPocket$Choice" ({ cls := "PaperPocket$Choice", name := "best", desc := "()I" } : MethodName) ({ cls := "PaperPocket$Choice", name := "best", desc := "()I" } : MethodName)) ∈ jW := jW_t4 (i := 80) rfl rfl
set_option maxRecDepth 4000 in
theorem u801 : (Cond.code ({ cls := "PaperPocket$Choice", name := "best", desc := "()I" } : MethodName) prog_3_method_4_code (1 : Nat) (Option.some FieldType.int)) ∈ jW := jW_t4 (i := 81) rfl rfl
set_option maxRecDepth 4000 in
theorem u802 : (Cond.methodLink "PaperPocketLaw" (134 : Nat) ({ cls := "PaperPocket", name := "seen", desc := "(III)I" } : MethodName)) ∈ jW := jW_t4 (i := 82) rfl rfl
set_option maxRecDepth 4000 in
theorem u803 : (Cond.instanceMethod ({ cls := "PaperPocket", name := "seen", desc := "(III)I" } : MethodName)) ∈ jW := jW_t4 (i := 83) rfl rfl
set_option maxRecDepth 4000 in
theorem u804 : (Cond.selects "PaperPocket" ({ cls := "PaperPocket", name := "seen", desc := "(III)I" } : MethodName) ({ cls := "PaperPocket", name := "seen", desc := "(III)I" } : MethodName)) ∈ jW := jW_t4 (i := 84) rfl rfl
set_option maxRecDepth 4000 in
theorem u805 : (Cond.code ({ cls := "PaperPocket", name := "seen", desc := "(III)I" } : MethodName) prog_1_method_30_code (4 : Nat) (Option.some FieldType.int)) ∈ jW := jW_t4 (i := 85) rfl rfl
set_option maxRecDepth 4000 in
theorem u806 : (Cond.methodLink "PaperPocket" (298 : Nat) ({ cls := "PaperPocket$Sightings", name := "add", desc := "(II)Z" } : MethodName)) ∈ jW := jW_t4 (i := 86) rfl rfl
set_option maxRecDepth 4000 in
theorem u807 : (Cond.instanceMethod ({ cls := "PaperPocket$Sightings", name := "add", desc := "(II)Z" } : MethodName)) ∈ jW := jW_t4 (i := 87) rfl rfl
set_option maxRecDepth 4000 in
theorem u808 : (Cond.selects "PaperPocket$Sightings" ({ cls := "PaperPocket$Sightings", name := "add", desc := "(II)Z" } : MethodName) ({ cls := "PaperPocket$Sightings", name := "add", desc := "(II)Z" } : MethodName)) ∈ jW := jW_t4 (i := 88) rfl rfl
set_option maxRecDepth 4000 in
theorem u809 : (Cond.code ({ cls := "PaperPocket$Sightings", name := "add", desc := "(II)Z" } : MethodName) prog_10_method_2_code (3 : Nat) (Option.some FieldType.boolean)) ∈ jW := jW_t4 (i := 89) rfl rfl
set_option maxRecDepth 4000 in
theorem u810 : (Cond.methodLink "PaperPocketLaw" (138 : Nat) ({ cls := "PaperPocket", name := "together", desc := "(I)I" } : MethodName)) ∈ jW := jW_t4 (i := 90) rfl rfl
set_option maxRecDepth 4000 in
theorem u811 : (Cond.instanceMethod ({ cls := "PaperPocket", name := "together", desc := "(I)I" } : MethodName)) ∈ jW := jW_t4 (i := 91) rfl rfl
set_option maxRecDepth 4000 in
theorem u812 : (Cond.selects "PaperPocket" ({ cls := "PaperPocket", name := "together", desc := "(I)I" } : MethodName) ({ cls := "PaperPocket", name := "together", desc := "(I)I" } : MethodName)) ∈ jW := jW_t4 (i := 92) rfl rfl
set_option maxRecDepth 4000 in
theorem u813 : (Cond.code ({ cls := "PaperPocket", name := "together", desc := "(I)I" } : MethodName) prog_1_method_31_code (4 : Nat) (Option.some FieldType.int)) ∈ jW := jW_t4 (i := 93) rfl rfl
set_option maxRecDepth 4000 in
theorem u814 : (Cond.methodLink "PaperPocket" (305 : Nat) ({ cls := "PaperPocket", name := "hasBit", desc := "(II)Z" } : MethodName)) ∈ jW := jW_t4 (i := 94) rfl rfl
set_option maxRecDepth 4000 in
theorem u815 : (Cond.methodLink "PaperPocket" (313 : Nat) ({ cls := "PaperPocket", name := "couldHaveMade", desc := "(II)I" } : MethodName)) ∈ jW := jW_t4 (i := 95) rfl rfl
set_option maxRecDepth 4000 in
theorem u817 : (Cond.instanceMethod ({ cls := "PaperPocket", name := "couldHaveMade", desc := "(II)I" } : MethodName)) ∈ jW := jW_t4 (i := 97) rfl rfl
set_option maxRecDepth 4000 in
theorem u818 : (Cond.code ({ cls := "PaperPocket", name := "couldHaveMade", desc := "(II)I" } : MethodName) prog_1_method_60_code (7 : Nat) (Option.some FieldType.int)) ∈ jW := jW_t4 (i := 98) rfl rfl
set_option maxRecDepth 4000 in
theorem u819 : (Cond.methodLink "PaperPocket" (383 : Nat) ({ cls := "PaperPocket$Paper", name := "looksLike", desc := "(LPaperPocket$Paper;I)Z" } : MethodName)) ∈ jW := jW_t4 (i := 99) rfl rfl
set_option maxRecDepth 4000 in
theorem u820 : (Cond.instanceMethod ({ cls := "PaperPocket$Paper", name := "looksLike", desc := "(LPaperPocket$Paper;I)Z" } : MethodName)) ∈ jW := jW_t4 (i := 100) rfl rfl
set_option maxRecDepth 4000 in
theorem u821 : (Cond.selects "PaperPocket$Paper" ({ cls := "PaperPocket$Paper", name := "looksLike", desc := "(LPaperPocket$Paper;I)Z" } : MethodName) ({ cls := "PaperPocket$Paper", name := "looksLike", desc := "(LPaperPocket$Paper;I)Z" } : MethodName)) ∈ jW := jW_t4 (i := 101) rfl rfl
set_option maxRecDepth 4000 in
theorem u822 : (Cond.code ({ cls := "PaperPocket$Paper", name := "looksLike", desc := "(LPaperPocket$Paper;I)Z" } : MethodName) prog_8_method_19_code (4 : Nat) (Option.some FieldType.boolean)) ∈ jW := jW_t4 (i := 102) rfl rfl
set_option maxRecDepth 4000 in
theorem u823 : (Cond.methodLink "PaperPocketLaw" (142 : Nat) ({ cls := "PaperPocket", name := "queue", desc := "(IIII)I" } : MethodName)) ∈ jW := jW_t4 (i := 103) rfl rfl
set_option maxRecDepth 4000 in
theorem u824 : (Cond.instanceMethod ({ cls := "PaperPocket", name := "queue", desc := "(IIII)I" } : MethodName)) ∈ jW := jW_t4 (i := 104) rfl rfl
set_option maxRecDepth 4000 in
theorem u825 : (Cond.selects "PaperPocket" ({ cls := "PaperPocket", name := "queue", desc := "(IIII)I" } : MethodName) ({ cls := "PaperPocket", name := "queue", desc := "(IIII)I" } : MethodName)) ∈ jW := jW_t4 (i := 105) rfl rfl
set_option maxRecDepth 4000 in
theorem u826 : (Cond.code ({ cls := "PaperPocket", name := "queue", desc := "(IIII)I" } : MethodName) prog_1_method_32_code (6 : Nat) (Option.some FieldType.int)) ∈ jW := jW_t4 (i := 106) rfl rfl
set_option maxRecDepth 4000 in
theorem u827 : (Cond.methodLink "PaperPocket" (316 : Nat) ({ cls := "PaperPocket$Line", name := "take", desc := "([III)Z" } : MethodName)) ∈ jW := jW_t4 (i := 107) rfl rfl
set_option maxRecDepth 4000 in
theorem u828 : (Cond.instanceMethod ({ cls := "PaperPocket$Line", name := "take", desc := "([III)Z" } : MethodName)) ∈ jW := jW_t4 (i := 108) rfl rfl
set_option maxRecDepth 4000 in
theorem u829 : (Cond.selects "PaperPocket$Line" ({ cls := "PaperPocket$Line", name := "take", desc := "([III)Z" } : MethodName) ({ cls := "PaperPocket$Line", name := "take", desc := "([III)Z" } : MethodName)) ∈ jW := jW_t4 (i := 109) rfl rfl
set_option maxRecDepth 4000 in
theorem u830 : (Cond.code ({ cls := "PaperPocket$Line", name := "take", desc := "([III)Z" } : MethodName) prog_6_method_2_code (5 : Nat) (Option.some FieldType.boolean)) ∈ jW := jW_t4 (i := 110) rfl rfl
set_option maxRecDepth 4000 in
theorem u832 : (Cond.methodLink "PaperPocket" (317 : Nat) ({ cls := "PaperPocket$Line", name := "findBest", desc := "()V" } : MethodName)) ∈ jW := jW_t4 (i := 112) rfl rfl
set_option maxRecDepth 4000 in
theorem u833 : (Cond.instanceMethod ({ cls := "PaperPocket$Line", name := "findBest", desc := "()V" } : MethodName)) ∈ jW := jW_t4 (i := 113) rfl rfl
set_option maxRecDepth 4000 in
theorem u834 : (Cond.selects "PaperPocket$Line" ({ cls := "PaperPocket$Line", name := "findBest", desc := "()V" } : MethodName) ({ cls := "PaperPocket$Line", name := "findBest", desc := "()V" } : MethodName)) ∈ jW := jW_t4 (i := 114) rfl rfl
set_option maxRecDepth 4000 in
theorem u835 : (Cond.code ({ cls := "PaperPocket$Line", name := "findBest", desc := "()V" } : MethodName) prog_6_method_3_code (1 : Nat) (Option.none : Option ClassFile.FieldType)) ∈ jW := jW_t4 (i := 115) rfl rfl
set_option maxRecDepth 4000 in
theorem u836 : (Cond.constant "PaperPocket$Line" (34 : Nat) (2147483647 : Int32)) ∈ jW := jW_t4 (i := 116) rfl rfl
set_option maxRecDepth 4000 in
theorem u837 : (Cond.methodLink "PaperPocket$Line" (38 : Nat) ({ cls := "PaperPocket$Line", name := "extend", desc := "(IIII)V" } : MethodName)) ∈ jW := jW_t4 (i := 117) rfl rfl
set_option maxRecDepth 4000 in
theorem u839 : (Cond.instanceMethod ({ cls := "PaperPocket$Line", name := "extend", desc := "(IIII)V" } : MethodName)) ∈ jW := jW_t4 (i := 119) rfl rfl
set_option maxRecDepth 4000 in
theorem u840 : (Cond.code ({ cls := "PaperPocket$Line", name := "extend", desc := "(IIII)V" } : MethodName) prog_6_method_4_code (10 : Nat) (Option.none : Option ClassFile.FieldType)) ∈ jW := jW_t4 (i := 120) rfl rfl
set_option maxRecDepth 4000 in
theorem u841 : (Cond.methodLink "PaperPocket$Line" (42 : Nat) ({ cls := "java/lang/System", name := "arraycopy", desc := "(Ljava/lang/Object;ILjava/lang/Object;II)V" } : MethodName)) ∈ jW := jW_t4 (i := 121) rfl rfl
set_option maxRecDepth 4000 in
theorem u843 : (Cond.methodLink "PaperPocket$Line" (52 : Nat) ({ cls := "java/lang/Math", name := "max", desc := "(II)I" } : MethodName)) ∈ jW := jW_t4 (i := 123) rfl rfl
set_option maxRecDepth 4000 in
theorem u844 : (Cond.static ({ cls := "java/lang/Math", name := "max", desc := "(II)I" } : MethodName)) ∈ jW := jW_t4 (i := 124) rfl rfl
set_option maxRecDepth 4000 in
theorem u845 : (Cond.code ({ cls := "java/lang/Math", name := "max", desc := "(II)I" } : MethodName) prog_15_method_65_code (2 : Nat) (Option.some FieldType.int)) ∈ jW := jW_t4 (i := 125) rfl rfl
set_option maxRecDepth 4000 in
theorem u846 : (Cond.methodLink "PaperPocket$Line" (58 : Nat) ({ cls := "PaperPocket$Line", name := "waitedAt", desc := "(II)I" } : MethodName)) ∈ jW := jW_t4 (i := 126) rfl rfl
set_option maxRecDepth 4000 in
theorem u848 : (Cond.instanceMethod ({ cls := "PaperPocket$Line", name := "waitedAt", desc := "(II)I" } : MethodName)) ∈ jW := jW_t4 (i := 128) rfl rfl
set_option maxRecDepth 4000 in
theorem u849 : (Cond.code ({ cls := "PaperPocket$Line", name := "waitedAt", desc := "(II)I" } : MethodName) prog_6_method_5_code (5 : Nat) (Option.some FieldType.int)) ∈ jW := jW_t4 (i := 129) rfl rfl
set_option maxRecDepth 4000 in
theorem u850 : (Cond.methodLink "PaperPocketLaw" (146 : Nat) ({ cls := "PaperPocket", name := "day", desc := "(I)I" } : MethodName)) ∈ jW := jW_t4 (i := 130) rfl rfl
set_option maxRecDepth 4000 in
theorem u851 : (Cond.instanceMethod ({ cls := "PaperPocket", name := "day", desc := "(I)I" } : MethodName)) ∈ jW := jW_t4 (i := 131) rfl rfl
set_option maxRecDepth 4000 in
theorem u852 : (Cond.selects "PaperPocket" ({ cls := "PaperPocket", name := "day", desc := "(I)I" } : MethodName) ({ cls := "PaperPocket", name := "day", desc := "(I)I" } : MethodName)) ∈ jW := jW_t4 (i := 132) rfl rfl
set_option maxRecDepth 4000 in
theorem u853 : (Cond.code ({ cls := "PaperPocket", name := "day", desc := "(I)I" } : MethodName) prog_1_method_33_code (3 : Nat) (Option.some FieldType.int)) ∈ jW := jW_t4 (i := 133) rfl rfl
set_option maxRecDepth 4000 in
theorem u854 : (Cond.methodLink "PaperPocketLaw" (150 : Nat) ({ cls := "PaperPocket", name := "kind", desc := "(I)I" } : MethodName)) ∈ jW := jW_t4 (i := 134) rfl rfl
set_option maxRecDepth 4000 in
theorem u855 : (Cond.instanceMethod ({ cls := "PaperPocket", name := "kind", desc := "(I)I" } : MethodName)) ∈ jW := jW_t4 (i := 135) rfl rfl
set_option maxRecDepth 4000 in
theorem u856 : (Cond.selects "PaperPocket" ({ cls := "PaperPocket", name := "kind", desc := "(I)I" } : MethodName) ({ cls := "PaperPocket", name := "kind", desc := "(I)I" } : MethodName)) ∈ jW := jW_t4 (i := 136) rfl rfl
set_option maxRecDepth 4000 in
theorem u857 : (Cond.code ({ cls := "PaperPocket", name := "kind", desc := "(I)I" } : MethodName) prog_1_method_34_code (3 : Nat) (Option.some FieldType.int)) ∈ jW := jW_t4 (i := 137) rfl rfl
set_option maxRecDepth 4000 in
theorem u858 : (Cond.methodLink "PaperPocket" (329 : Nat) ({ cls := "PaperPocket$Paper", name := "kindOn", desc := "(I)I" } : MethodName)) ∈ jW := jW_t4 (i := 138) rfl rfl
set_option maxRecDepth 4000 in
theorem u859 : (Cond.instanceMethod ({ cls := "PaperPocket$Paper", name := "kindOn", desc := "(I)I" } : MethodName)) ∈ jW := jW_t4 (i := 139) rfl rfl
set_option maxRecDepth 4000 in
theorem u860 : (Cond.selects "PaperPocket$Paper" ({ cls := "PaperPocket$Paper", name := "kindOn", desc := "(I)I" } : MethodName) ({ cls := "PaperPocket$Paper", name := "kindOn", desc := "(I)I" } : MethodName)) ∈ jW := jW_t4 (i := 140) rfl rfl
set_option maxRecDepth 4000 in
theorem u861 : (Cond.code ({ cls := "PaperPocket$Paper", name := "kindOn", desc := "(I)I" } : MethodName) prog_8_method_18_code (2 : Nat) (Option.some FieldType.int)) ∈ jW := jW_t4 (i := 141) rfl rfl
set_option maxRecDepth 4000 in
theorem u862 : (Cond.methodLink "PaperPocketLaw" (154 : Nat) ({ cls := "PaperPocket", name := "as", desc := "(II)I" } : MethodName)) ∈ jW := jW_t4 (i := 142) rfl rfl
set_option maxRecDepth 4000 in
theorem u863 : (Cond.instanceMethod ({ cls := "PaperPocket", name := "as", desc := "(II)I" } : MethodName)) ∈ jW := jW_t4 (i := 143) rfl rfl
set_option maxRecDepth 4000 in
theorem u864 : (Cond.selects "PaperPocket" ({ cls := "PaperPocket", name := "as", desc := "(II)I" } : MethodName) ({ cls := "PaperPocket", name := "as", desc := "(II)I" } : MethodName)) ∈ jW := jW_t4 (i := 144) rfl rfl
set_option maxRecDepth 4000 in
theorem u865 : (Cond.code ({ cls := "PaperPocket", name := "as", desc := "(II)I" } : MethodName) prog_1_method_35_code (6 : Nat) (Option.some FieldType.int)) ∈ jW := jW_t4 (i := 145) rfl rfl
set_option maxRecDepth 4000 in
theorem u866 : (Cond.methodLink "PaperPocketLaw" (158 : Nat) ({ cls := "PaperPocket", name := "ask", desc := "(II)I" } : MethodName)) ∈ jW := jW_t4 (i := 146) rfl rfl
set_option maxRecDepth 4000 in
theorem u867 : (Cond.instanceMethod ({ cls := "PaperPocket", name := "ask", desc := "(II)I" } : MethodName)) ∈ jW := jW_t4 (i := 147) rfl rfl
set_option maxRecDepth 4000 in
theorem u868 : (Cond.selects "PaperPocket" ({ cls := "PaperPocket", name := "ask", desc := "(II)I" } : MethodName) ({ cls := "PaperPocket", name := "ask", desc := "(II)I" } : MethodName)) ∈ jW := jW_t4 (i := 148) rfl rfl
set_option maxRecDepth 4000 in
theorem u869 : (Cond.code ({ cls := "PaperPocket", name := "ask", desc := "(II)I" } : MethodName) prog_1_method_36_code (5 : Nat) (Option.some FieldType.int)) ∈ jW := jW_t4 (i := 149) rfl rfl
set_option maxRecDepth 4000 in
theorem u870 : (Cond.methodLink "PaperPocket" (335 : Nat) ({ cls := "PaperPocket$Bodies", name := "sizeOf", desc := "(LPaperPocket$Paper;I)I" } : MethodName)) ∈ jW := jW_t4 (i := 150) rfl rfl
set_option maxRecDepth 4000 in
theorem u871 : (Cond.instanceMethod ({ cls := "PaperPocket$Bodies", name := "sizeOf", desc := "(LPaperPocket$Paper;I)I" } : MethodName)) ∈ jW := jW_t4 (i := 151) rfl rfl
set_option maxRecDepth 4000 in
theorem u872 : (Cond.selects "PaperPocket$Bodies" ({ cls := "PaperPocket$Bodies", name := "sizeOf", desc := "(LPaperPocket$Paper;I)I" } : MethodName) ({ cls := "PaperPocket$Bodies", name := "sizeOf", desc := "(LPaperPocket$Paper;I)I" } : MethodName)) ∈ jW := jW_t4 (i := 152) rfl rfl
set_option maxRecDepth 4000 in
theorem u873 : (Cond.code ({ cls := "PaperPocket$Bodies", name := "sizeOf", desc := "(LPaperPocket$Paper;I)I" } : MethodName) prog_2_method_3_code (3 : Nat) (Option.some FieldType.int)) ∈ jW := jW_t4 (i := 153) rfl rfl
set_option maxRecDepth 4000 in
theorem u874 : (Cond.methodLink "PaperPocket$Bodies" (19 : Nat) ({ cls := "PaperPocket$Bodies", name := "stampSize", desc := "(LPaperPocket$Paper;)I" } : MethodName)) ∈ jW := jW_t4 (i := 154) rfl rfl
set_option maxRecDepth 4000 in
theorem u876 : (Cond.instanceMethod ({ cls := "PaperPocket$Bodies", name := "stampSize", desc := "(LPaperPocket$Paper;)I" } : MethodName)) ∈ jW := jW_t4 (i := 156) rfl rfl
set_option maxRecDepth 4000 in
theorem u877 : (Cond.code ({ cls := "PaperPocket$Bodies", name := "stampSize", desc := "(LPaperPocket$Paper;)I" } : MethodName) prog_2_method_6_code (2 : Nat) (Option.some FieldType.int)) ∈ jW := jW_t4 (i := 157) rfl rfl
set_option maxRecDepth 4000 in
theorem u878 : (Cond.methodLink "PaperPocket$Bodies" (47 : Nat) ({ cls := "PaperPocket$Bodies", name := "begin", desc := "(I)V" } : MethodName)) ∈ jW := jW_t4 (i := 158) rfl rfl
set_option maxRecDepth 4000 in
theorem u880 : (Cond.instanceMethod ({ cls := "PaperPocket$Bodies", name := "begin", desc := "(I)V" } : MethodName)) ∈ jW := jW_t4 (i := 160) rfl rfl
set_option maxRecDepth 4000 in
theorem u881 : (Cond.code ({ cls := "PaperPocket$Bodies", name := "begin", desc := "(I)V" } : MethodName) prog_2_method_2_code (2 : Nat) (Option.none : Option ClassFile.FieldType)) ∈ jW := jW_t4 (i := 161) rfl rfl
set_option maxRecDepth 4000 in
theorem u882 : (Cond.methodLink "PaperPocket$Bodies" (32 : Nat) ({ cls := "PaperPocket$Bodies", name := "lentSize", desc := "(LPaperPocket$Paper;)I" } : MethodName)) ∈ jW := jW_t4 (i := 162) rfl rfl
set_option maxRecDepth 4000 in
theorem u884 : (Cond.instanceMethod ({ cls := "PaperPocket$Bodies", name := "lentSize", desc := "(LPaperPocket$Paper;)I" } : MethodName)) ∈ jW := jW_t4 (i := 164) rfl rfl
set_option maxRecDepth 4000 in
theorem u885 : (Cond.code ({ cls := "PaperPocket$Bodies", name := "lentSize", desc := "(LPaperPocket$Paper;)I" } : MethodName) prog_2_method_5_code (2 : Nat) (Option.some FieldType.int)) ∈ jW := jW_t4 (i := 165) rfl rfl
set_option maxRecDepth 4000 in
theorem u886 : (Cond.methodLink "PaperPocket$Bodies" (23 : Nat) ({ cls := "PaperPocket$Bodies", name := "shortSize", desc := "(LPaperPocket$Paper;)I" } : MethodName)) ∈ jW := jW_t4 (i := 166) rfl rfl
set_option maxRecDepth 4000 in
theorem u888 : (Cond.instanceMethod ({ cls := "PaperPocket$Bodies", name := "shortSize", desc := "(LPaperPocket$Paper;)I" } : MethodName)) ∈ jW := jW_t4 (i := 168) rfl rfl
set_option maxRecDepth 4000 in
theorem u889 : (Cond.code ({ cls := "PaperPocket$Bodies", name := "shortSize", desc := "(LPaperPocket$Paper;)I" } : MethodName) prog_2_method_7_code (2 : Nat) (Option.some FieldType.int)) ∈ jW := jW_t4 (i := 169) rfl rfl
set_option maxRecDepth 4000 in
theorem u890 : (Cond.methodLink "PaperPocket$Bodies" (26 : Nat) ({ cls := "PaperPocket$Bodies", name := "gradeSize", desc := "(LPaperPocket$Paper;)I" } : MethodName)) ∈ jW := jW_t4 (i := 170) rfl rfl
set_option maxRecDepth 4000 in
theorem u892 : (Cond.instanceMethod ({ cls := "PaperPocket$Bodies", name := "gradeSize", desc := "(LPaperPocket$Paper;)I" } : MethodName)) ∈ jW := jW_t4 (i := 172) rfl rfl
set_option maxRecDepth 4000 in
theorem u893 : (Cond.code ({ cls := "PaperPocket$Bodies", name := "gradeSize", desc := "(LPaperPocket$Paper;)I" } : MethodName) prog_2_method_8_code (2 : Nat) (Option.some FieldType.int)) ∈ jW := jW_t4 (i := 173) rfl rfl
set_option maxRecDepth 4000 in
theorem u894 : (Cond.methodLink "PaperPocket$Bodies" (38 : Nat) ({ cls := "PaperPocket$Bodies", name := "gradeMark", desc := "(LPaperPocket$Paper;)I" } : MethodName)) ∈ jW := jW_t4 (i := 174) rfl rfl
set_option maxRecDepth 4000 in
theorem u896 : (Cond.instanceMethod ({ cls := "PaperPocket$Bodies", name := "gradeMark", desc := "(LPaperPocket$Paper;)I" } : MethodName)) ∈ jW := jW_t4 (i := 176) rfl rfl
set_option maxRecDepth 4000 in
theorem u897 : (Cond.code ({ cls := "PaperPocket$Bodies", name := "gradeMark", desc := "(LPaperPocket$Paper;)I" } : MethodName) prog_2_method_12_code (4 : Nat) (Option.some FieldType.int)) ∈ jW := jW_t4 (i := 177) rfl rfl
set_option maxRecDepth 4000 in
theorem u898 : (Cond.methodLink "PaperPocket$Bodies" (65 : Nat) ({ cls := "java/lang/Math", name := "max", desc := "(II)I" } : MethodName)) ∈ jW := jW_t4 (i := 178) rfl rfl
set_option maxRecDepth 4000 in
theorem u899 : (Cond.methodLink "PaperPocket$Bodies" (44 : Nat) ({ cls := "PaperPocket$Bodies", name := "lentMark", desc := "(LPaperPocket$Paper;)I" } : MethodName)) ∈ jW := jW_t4 (i := 179) rfl rfl
set_option maxRecDepth 4000 in
theorem u901 : (Cond.instanceMethod ({ cls := "PaperPocket$Bodies", name := "lentMark", desc := "(LPaperPocket$Paper;)I" } : MethodName)) ∈ jW := jW_t4 (i := 181) rfl rfl
set_option maxRecDepth 4000 in
theorem u902 : (Cond.code ({ cls := "PaperPocket$Bodies", name := "lentMark", desc := "(LPaperPocket$Paper;)I" } : MethodName) prog_2_method_10_code (2 : Nat) (Option.some FieldType.int)) ∈ jW := jW_t4 (i := 182) rfl rfl
set_option maxRecDepth 4000 in
theorem u903 : (Cond.methodLink "PaperPocket$Bodies" (29 : Nat) ({ cls := "PaperPocket$Bodies", name := "goneSize", desc := "(LPaperPocket$Paper;)I" } : MethodName)) ∈ jW := jW_t4 (i := 183) rfl rfl
set_option maxRecDepth 4000 in
theorem u905 : (Cond.instanceMethod ({ cls := "PaperPocket$Bodies", name := "goneSize", desc := "(LPaperPocket$Paper;)I" } : MethodName)) ∈ jW := jW_t4 (i := 185) rfl rfl
set_option maxRecDepth 4000 in
theorem u906 : (Cond.code ({ cls := "PaperPocket$Bodies", name := "goneSize", desc := "(LPaperPocket$Paper;)I" } : MethodName) prog_2_method_9_code (2 : Nat) (Option.some FieldType.int)) ∈ jW := jW_t4 (i := 186) rfl rfl
set_option maxRecDepth 4000 in
theorem u907 : (Cond.methodLink "PaperPocket" (339 : Nat) ({ cls := "PaperPocket$Bodies", name := "markOf", desc := "(LPaperPocket$Paper;I)I" } : MethodName)) ∈ jW := jW_t4 (i := 187) rfl rfl
set_option maxRecDepth 4000 in
theorem u908 : (Cond.instanceMethod ({ cls := "PaperPocket$Bodies", name := "markOf", desc := "(LPaperPocket$Paper;I)I" } : MethodName)) ∈ jW := jW_t4 (i := 188) rfl rfl
set_option maxRecDepth 4000 in
theorem u909 : (Cond.selects "PaperPocket$Bodies" ({ cls := "PaperPocket$Bodies", name := "markOf", desc := "(LPaperPocket$Paper;I)I" } : MethodName) ({ cls := "PaperPocket$Bodies", name := "markOf", desc := "(LPaperPocket$Paper;I)I" } : MethodName)) ∈ jW := jW_t4 (i := 189) rfl rfl
set_option maxRecDepth 4000 in
theorem u910 : (Cond.code ({ cls := "PaperPocket$Bodies", name := "markOf", desc := "(LPaperPocket$Paper;I)I" } : MethodName) prog_2_method_4_code (3 : Nat) (Option.some FieldType.int)) ∈ jW := jW_t4 (i := 190) rfl rfl
set_option maxRecDepth 4000 in
theorem u911 : (Cond.methodLink "PaperPocket$Bodies" (35 : Nat) ({ cls := "PaperPocket$Bodies", name := "shortMark", desc := "(LPaperPocket$Paper;)I" } : MethodName)) ∈ jW := jW_t4 (i := 191) rfl rfl
set_option maxRecDepth 4000 in
theorem u913 : (Cond.instanceMethod ({ cls := "PaperPocket$Bodies", name := "shortMark", desc := "(LPaperPocket$Paper;)I" } : MethodName)) ∈ jW := jW_t4 (i := 193) rfl rfl
set_option maxRecDepth 4000 in
theorem u914 : (Cond.code ({ cls := "PaperPocket$Bodies", name := "shortMark", desc := "(LPaperPocket$Paper;)I" } : MethodName) prog_2_method_11_code (2 : Nat) (Option.some FieldType.int)) ∈ jW := jW_t4 (i := 194) rfl rfl
set_option maxRecDepth 4000 in
theorem u915 : (Cond.methodLink "PaperPocket$Bodies" (41 : Nat) ({ cls := "PaperPocket$Bodies", name := "lentOnesMark", desc := "(LPaperPocket$Paper;)I" } : MethodName)) ∈ jW := jW_t4 (i := 195) rfl rfl
set_option maxRecDepth 4000 in
theorem u917 : (Cond.instanceMethod ({ cls := "PaperPocket$Bodies", name := "lentOnesMark", desc := "(LPaperPocket$Paper;)I" } : MethodName)) ∈ jW := jW_t4 (i := 197) rfl rfl
set_option maxRecDepth 4000 in
theorem u918 : (Cond.code ({ cls := "PaperPocket$Bodies", name := "lentOnesMark", desc := "(LPaperPocket$Paper;)I" } : MethodName) prog_2_method_13_code (2 : Nat) (Option.some FieldType.int)) ∈ jW := jW_t4 (i := 198) rfl rfl
set_option maxRecDepth 4000 in
theorem u919 : (Cond.methodLink "PaperPocketLaw" (162 : Nat) ({ cls := "PaperPocket", name := "trace", desc := "(I)I" } : MethodName)) ∈ jW := jW_t4 (i := 199) rfl rfl
set_option maxRecDepth 4000 in
theorem u920 : (Cond.instanceMethod ({ cls := "PaperPocket", name := "trace", desc := "(I)I" } : MethodName)) ∈ jW := jW_t4 (i := 200) rfl rfl
set_option maxRecDepth 4000 in
theorem u921 : (Cond.selects "PaperPocket" ({ cls := "PaperPocket", name := "trace", desc := "(I)I" } : MethodName) ({ cls := "PaperPocket", name := "trace", desc := "(I)I" } : MethodName)) ∈ jW := jW_t4 (i := 201) rfl rfl
set_option maxRecDepth 4000 in
theorem u922 : (Cond.code ({ cls := "PaperPocket", name := "trace", desc := "(I)I" } : MethodName) prog_1_method_37_code (2 : Nat) (Option.some FieldType.int)) ∈ jW := jW_t4 (i := 202) rfl rfl
set_option maxRecDepth 4000 in
theorem u923 : (Cond.methodLink "PaperPocketLaw" (166 : Nat) ({ cls := "PaperPocket", name := "count", desc := "(I)I" } : MethodName)) ∈ jW := jW_t4 (i := 203) rfl rfl
set_option maxRecDepth 4000 in
theorem u924 : (Cond.instanceMethod ({ cls := "PaperPocket", name := "count", desc := "(I)I" } : MethodName)) ∈ jW := jW_t4 (i := 204) rfl rfl
set_option maxRecDepth 4000 in
theorem u925 : (Cond.selects "PaperPocket" ({ cls := "PaperPocket", name := "count", desc := "(I)I" } : MethodName) ({ cls := "PaperPocket", name := "count", desc := "(I)I" } : MethodName)) ∈ jW := jW_t4 (i := 205) rfl rfl
set_option maxRecDepth 4000 in
theorem u926 : (Cond.code ({ cls := "PaperPocket", name := "count", desc := "(I)I" } : MethodName) prog_1_method_38_code (2 : Nat) (Option.some FieldType.int)) ∈ jW := jW_t4 (i := 206) rfl rfl
set_option maxRecDepth 4000 in
theorem u927 : (Cond.methodLink "PaperPocket" (345 : Nat) ({ cls := "PaperPocket$Sheets", name := "present", desc := "()I" } : MethodName)) ∈ jW := jW_t4 (i := 207) rfl rfl
set_option maxRecDepth 4000 in
theorem u928 : (Cond.instanceMethod ({ cls := "PaperPocket$Sheets", name := "present", desc := "()I" } : MethodName)) ∈ jW := jW_t4 (i := 208) rfl rfl
set_option maxRecDepth 4000 in
theorem u929 : (Cond.selects "PaperPocket$Sheets" ({ cls := "PaperPocket$Sheets", name := "present", desc := "()I" } : MethodName) ({ cls := "PaperPocket$Sheets", name := "present", desc := "()I" } : MethodName)) ∈ jW := jW_t4 (i := 209) rfl rfl
set_option maxRecDepth 4000 in
theorem u930 : (Cond.code ({ cls := "PaperPocket$Sheets", name := "present", desc := "()I" } : MethodName) prog_9_method_9_code (3 : Nat) (Option.some FieldType.int)) ∈ jW := jW_t4 (i := 210) rfl rfl
set_option maxRecDepth 4000 in
theorem u931 : (Cond.methodLink "PaperPocket" (348 : Nat) ({ cls := "PaperPocket", name := "goneCount", desc := "()I" } : MethodName)) ∈ jW := jW_t4 (i := 211) rfl rfl
set_option maxRecDepth 4000 in
theorem u933 : (Cond.instanceMethod ({ cls := "PaperPocket", name := "goneCount", desc := "()I" } : MethodName)) ∈ jW := jW_t4 (i := 213) rfl rfl
set_option maxRecDepth 4000 in
theorem u934 : (Cond.code ({ cls := "PaperPocket", name := "goneCount", desc := "()I" } : MethodName) prog_1_method_61_code (4 : Nat) (Option.some FieldType.int)) ∈ jW := jW_t4 (i := 214) rfl rfl
set_option maxRecDepth 4000 in
theorem u935 : (Cond.methodLink "PaperPocket" (351 : Nat) ({ cls := "PaperPocket$Offices", name := "allKeys", desc := "()I" } : MethodName)) ∈ jW := jW_t4 (i := 215) rfl rfl
set_option maxRecDepth 4000 in
theorem u936 : (Cond.instanceMethod ({ cls := "PaperPocket$Offices", name := "allKeys", desc := "()I" } : MethodName)) ∈ jW := jW_t4 (i := 216) rfl rfl
set_option maxRecDepth 4000 in
theorem u937 : (Cond.selects "PaperPocket$Offices" ({ cls := "PaperPocket$Offices", name := "allKeys", desc := "()I" } : MethodName) ({ cls := "PaperPocket$Offices", name := "allKeys", desc := "()I" } : MethodName)) ∈ jW := jW_t4 (i := 217) rfl rfl
set_option maxRecDepth 4000 in
theorem u938 : (Cond.code ({ cls := "PaperPocket$Offices", name := "allKeys", desc := "()I" } : MethodName) prog_7_method_4_code (3 : Nat) (Option.some FieldType.int)) ∈ jW := jW_t4 (i := 218) rfl rfl
set_option maxRecDepth 4000 in
theorem u939 : (Cond.methodLink "PaperPocketLaw" (170 : Nat) ({ cls := "PaperPocket", name := "status", desc := "()I" } : MethodName)) ∈ jW := jW_t4 (i := 219) rfl rfl
set_option maxRecDepth 4000 in
theorem u940 : (Cond.instanceMethod ({ cls := "PaperPocket", name := "status", desc := "()I" } : MethodName)) ∈ jW := jW_t4 (i := 220) rfl rfl
set_option maxRecDepth 4000 in
theorem u941 : (Cond.selects "PaperPocket" ({ cls := "PaperPocket", name := "status", desc := "()I" } : MethodName) ({ cls := "PaperPocket", name := "status", desc := "()I" } : MethodName)) ∈ jW := jW_t4 (i := 221) rfl rfl
set_option maxRecDepth 4000 in
theorem u942 : (Cond.code ({ cls := "PaperPocket", name := "status", desc := "()I" } : MethodName) prog_1_method_39_code (1 : Nat) (Option.some FieldType.int)) ∈ jW := jW_t4 (i := 222) rfl rfl
set_option maxRecDepth 4000 in
theorem u943 : (Cond.classLink "PaperPocketLaw" (10 : Nat) "PaperPocketModel") ∈ jW := jW_t4 (i := 223) rfl rfl
set_option maxRecDepth 4000 in
theorem u944 : (Cond.instantiable "PaperPocketModel" (42 : Nat)) ∈ jW := jW_t4 (i := 224) rfl rfl
set_option maxRecDepth 4000 in
theorem u945 : (Cond.methodLink "PaperPocketLaw" (12 : Nat) ({ cls := "PaperPocketModel", name := "<init>", desc := "()V" } : MethodName)) ∈ jW := jW_t4 (i := 225) rfl rfl
set_option maxRecDepth 4000 in
theorem u946 : (Cond.instanceMethod ({ cls := "PaperPocketModel", name := "<init>", desc := "()V" } : MethodName)) ∈ jW := jW_t4 (i := 226) rfl rfl
set_option maxRecDepth 4000 in
theorem u947 : (Cond.code ({ cls := "PaperPocketModel", name := "<init>", desc := "()V" } : MethodName) prog_13_method_4_code (2 : Nat) (Option.none : Option ClassFile.FieldType)) ∈ jW := jW_t4 (i := 227) rfl rfl
set_option maxRecDepth 4000 in
theorem u948 : (Cond.methodLink "PaperPocketModel" (11 : Nat) ({ cls := "java/lang/Object", name := "<init>", desc := "()V" } : MethodName)) ∈ jW := jW_t4 (i := 228) rfl rfl
set_option maxRecDepth 4000 in
theorem u949 : (Cond.constant "PaperPocketModel" (93 : Nat) (-1000000 : Int32)) ∈ jW := jW_t4 (i := 229) rfl rfl
set_option maxRecDepth 4000 in
theorem u950 : (Cond.fieldLink "PaperPocketModel" (1 : Nat) "PaperPocketModel" "thrown" "I") ∈ jW := jW_t4 (i := 230) rfl rfl
set_option maxRecDepth 4000 in
theorem u951 : (Cond.fieldLink "PaperPocketModel" (7 : Nat) "PaperPocketModel" "status" "I") ∈ jW := jW_t4 (i := 231) rfl rfl
set_option maxRecDepth 4000 in
theorem u952 : (Cond.fieldLink "PaperPocketModel" (17 : Nat) "PaperPocketModel" "lane" "[I") ∈ jW := jW_t4 (i := 232) rfl rfl
set_option maxRecDepth 4000 in
theorem u953 : (Cond.fieldLink "PaperPocketModel" (21 : Nat) "PaperPocketModel" "many" "[I") ∈ jW := jW_t4 (i := 233) rfl rfl
set_option maxRecDepth 4000 in
theorem u954 : (Cond.fieldLink "PaperPocketModel" (24 : Nat) "PaperPocketModel" "item" "[I") ∈ jW := jW_t4 (i := 234) rfl rfl
set_option maxRecDepth 4000 in
theorem u955 : (Cond.fieldLink "PaperPocketModel" (27 : Nat) "PaperPocketModel" "keys" "[I") ∈ jW := jW_t4 (i := 235) rfl rfl
set_option maxRecDepth 4000 in
theorem u956 : (Cond.fieldLink "PaperPocketModel" (30 : Nat) "PaperPocketModel" "keyDay" "[I") ∈ jW := jW_t4 (i := 236) rfl rfl
set_option maxRecDepth 4000 in
theorem u957 : (Cond.fieldLink "PaperPocketModel" (33 : Nat) "PaperPocketModel" "keyOf" "[I") ∈ jW := jW_t4 (i := 237) rfl rfl
set_option maxRecDepth 4000 in
theorem u958 : (Cond.fieldLink "PaperPocketModel" (36 : Nat) "PaperPocketModel" "closed" "[I") ∈ jW := jW_t4 (i := 238) rfl rfl
set_option maxRecDepth 4000 in
theorem u959 : (Cond.fieldLink "PaperPocketModel" (129 : Nat) "PaperPocketModel" "papers" "I") ∈ jW := jW_t4 (i := 239) rfl rfl
set_option maxRecDepth 4000 in
theorem u960 : (Cond.fieldLink "PaperPocketModel" (39 : Nat) "PaperPocketModel" "row" "[I") ∈ jW := jW_t5 (i := 0) rfl rfl
set_option maxRecDepth 4000 in
theorem u961 : (Cond.fieldLink "PaperPocketModel" (42 : Nat) "PaperPocketModel" "revoked" "[I") ∈ jW := jW_t5 (i := 1) rfl rfl
set_option maxRecDepth 4000 in
theorem u962 : (Cond.fieldLink "PaperPocketModel" (45 : Nat) "PaperPocketModel" "shown" "[I") ∈ jW := jW_t5 (i := 2) rfl rfl
set_option maxRecDepth 4000 in
theorem u963 : (Cond.fieldLink "PaperPocketModel" (48 : Nat) "PaperPocketModel" "sums" "[I") ∈ jW := jW_t5 (i := 3) rfl rfl
set_option maxRecDepth 4000 in
theorem u964 : (Cond.fieldLink "PaperPocketModel" (51 : Nat) "PaperPocketModel" "secrets" "[I") ∈ jW := jW_t5 (i := 4) rfl rfl
set_option maxRecDepth 4000 in
theorem u965 : (Cond.fieldLink "PaperPocketModel" (54 : Nat) "PaperPocketModel" "bookDay" "[I") ∈ jW := jW_t5 (i := 5) rfl rfl
set_option maxRecDepth 4000 in
theorem u966 : (Cond.fieldLink "PaperPocketModel" (57 : Nat) "PaperPocketModel" "rights" "[I") ∈ jW := jW_t5 (i := 6) rfl rfl
set_option maxRecDepth 4000 in
theorem u967 : (Cond.fieldLink "PaperPocketModel" (60 : Nat) "PaperPocketModel" "asks" "[I") ∈ jW := jW_t5 (i := 7) rfl rfl
set_option maxRecDepth 4000 in
theorem u968 : (Cond.fieldLink "PaperPocketModel" (63 : Nat) "PaperPocketModel" "askWhat" "[I") ∈ jW := jW_t5 (i := 8) rfl rfl
set_option maxRecDepth 4000 in
theorem u969 : (Cond.fieldLink "PaperPocketModel" (66 : Nat) "PaperPocketModel" "askOf" "[I") ∈ jW := jW_t5 (i := 9) rfl rfl
set_option maxRecDepth 4000 in
theorem u970 : (Cond.fieldLink "PaperPocketModel" (69 : Nat) "PaperPocketModel" "askBound" "[I") ∈ jW := jW_t5 (i := 10) rfl rfl
set_option maxRecDepth 4000 in
theorem u971 : (Cond.fieldLink "PaperPocketModel" (72 : Nat) "PaperPocketModel" "tape" "[I") ∈ jW := jW_t5 (i := 11) rfl rfl
set_option maxRecDepth 4000 in
theorem u972 : (Cond.fieldLink "PaperPocketModel" (220 : Nat) "PaperPocketModel" "taped" "I") ∈ jW := jW_t5 (i := 12) rfl rfl
set_option maxRecDepth 4000 in
theorem u973 : (Cond.fieldLink "PaperPocketModel" (303 : Nat) "PaperPocketModel" "latest" "I") ∈ jW := jW_t5 (i := 13) rfl rfl
set_option maxRecDepth 4000 in
theorem u974 : (Cond.fieldLink "PaperPocketModel" (225 : Nat) "PaperPocketModel" "length" "I") ∈ jW := jW_t5 (i := 14) rfl rfl
set_option maxRecDepth 4000 in
theorem u975 : (Cond.fieldLink "PaperPocketModel" (228 : Nat) "PaperPocketModel" "cursor" "I") ∈ jW := jW_t5 (i := 15) rfl rfl
set_option maxRecDepth 4000 in
theorem u976 : (Cond.fieldLink "PaperPocketModel" (237 : Nat) "PaperPocketModel" "token" "I") ∈ jW := jW_t5 (i := 16) rfl rfl
set_option maxRecDepth 4000 in
theorem u977 : (Cond.fieldLink "PaperPocketModel" (234 : Nat) "PaperPocketModel" "from" "I") ∈ jW := jW_t5 (i := 17) rfl rfl
set_option maxRecDepth 4000 in
theorem u978 : (Cond.fieldLink "PaperPocketModel" (246 : Nat) "PaperPocketModel" "till" "I") ∈ jW := jW_t5 (i := 18) rfl rfl
set_option maxRecDepth 4000 in
theorem u979 : (Cond.fieldLink "PaperPocketModel" (249 : Nat) "PaperPocketModel" "fault" "I") ∈ jW := jW_t5 (i := 19) rfl rfl
set_option maxRecDepth 4000 in
theorem u980 : (Cond.fieldLink "PaperPocketModel" (252 : Nat) "PaperPocketModel" "faultAt" "I") ∈ jW := jW_t5 (i := 20) rfl rfl
set_option maxRecDepth 4000 in
theorem u981 : (Cond.fieldLink "PaperPocketModel" (283 : Nat) "PaperPocketModel" "isDone" "Z") ∈ jW := jW_t5 (i := 21) rfl rfl
set_option maxRecDepth 4000 in
theorem u982 : (Cond.fieldLink "PaperPocketModel" (287 : Nat) "PaperPocketModel" "texts" "I") ∈ jW := jW_t5 (i := 22) rfl rfl
set_option maxRecDepth 4000 in
theorem u983 : (Cond.fieldLink "PaperPocketModel" (75 : Nat) "PaperPocketModel" "fit" "[I") ∈ jW := jW_t5 (i := 23) rfl rfl
set_option maxRecDepth 4000 in
theorem u984 : (Cond.fieldLink "PaperPocketModel" (316 : Nat) "PaperPocketModel" "seens" "I") ∈ jW := jW_t5 (i := 24) rfl rfl
set_option maxRecDepth 4000 in
theorem u985 : (Cond.fieldLink "PaperPocketModel" (78 : Nat) "PaperPocketModel" "seenPaper" "[I") ∈ jW := jW_t5 (i := 25) rfl rfl
set_option maxRecDepth 4000 in
theorem u986 : (Cond.fieldLink "PaperPocketModel" (81 : Nat) "PaperPocketModel" "seenSet" "[I") ∈ jW := jW_t5 (i := 26) rfl rfl
set_option maxRecDepth 4000 in
theorem u987 : (Cond.fieldLink "PaperPocketModel" (84 : Nat) "PaperPocketModel" "order" "[I") ∈ jW := jW_t5 (i := 27) rfl rfl
set_option maxRecDepth 4000 in
theorem u988 : (Cond.fieldLink "PaperPocketModel" (87 : Nat) "PaperPocketModel" "bestOrder" "[I") ∈ jW := jW_t5 (i := 28) rfl rfl
set_option maxRecDepth 4000 in
theorem u989 : (Cond.fieldLink "PaperPocketModel" (332 : Nat) "PaperPocketModel" "theDay" "I") ∈ jW := jW_t5 (i := 29) rfl rfl
set_option maxRecDepth 4000 in
theorem u990 : (Cond.fieldLink "PaperPocketModel" (90 : Nat) "PaperPocketModel" "trace" "[I") ∈ jW := jW_t5 (i := 30) rfl rfl
set_option maxRecDepth 4000 in
theorem u991 : (Cond.fieldLink "PaperPocketModel" (341 : Nat) "PaperPocketModel" "traced" "I") ∈ jW := jW_t5 (i := 31) rfl rfl
set_option maxRecDepth 4000 in
theorem u1077 : (Cond.methodLink "PaperPocketLaw" (17 : Nat) ({ cls := "PaperPocketModel", name := "sheet", desc := "(III)I" } : MethodName)) ∈ jW := jW_t5 (i := 117) rfl rfl
set_option maxRecDepth 4000 in
theorem u1078 : (Cond.instanceMethod ({ cls := "PaperPocketModel", name := "sheet", desc := "(III)I" } : MethodName)) ∈ jW := jW_t5 (i := 118) rfl rfl
set_option maxRecDepth 4000 in
theorem u1079 : (Cond.selects "PaperPocketModel" ({ cls := "PaperPocketModel", name := "sheet", desc := "(III)I" } : MethodName) ({ cls := "PaperPocketModel", name := "sheet", desc := "(III)I" } : MethodName)) ∈ jW := jW_t5 (i := 119) rfl rfl
set_option maxRecDepth 4000 in
theorem u1080 : (Cond.code ({ cls := "PaperPocketModel", name := "sheet", desc := "(III)I" } : MethodName) prog_13_method_7_code (5 : Nat) (Option.some FieldType.int)) ∈ jW := jW_t5 (i := 120) rfl rfl
set_option maxRecDepth 4000 in
theorem u1081 : (Cond.methodLink "PaperPocketModel" (102 : Nat) ({ cls := "PaperPocketModel", name := "isSheet", desc := "(I)Z" } : MethodName)) ∈ jW := jW_t5 (i := 121) rfl rfl
set_option maxRecDepth 4000 in
theorem u1082 : (Cond.static ({ cls := "PaperPocketModel", name := "isSheet", desc := "(I)Z" } : MethodName)) ∈ jW := jW_t5 (i := 122) rfl rfl
set_option maxRecDepth 4000 in
theorem u1083 : (Cond.code ({ cls := "PaperPocketModel", name := "isSheet", desc := "(I)Z" } : MethodName) prog_13_method_6_code (1 : Nat) (Option.some FieldType.boolean)) ∈ jW := jW_t5 (i := 123) rfl rfl
set_option maxRecDepth 4000 in
theorem u1084 : (Cond.constantLong "PaperPocketModel" (100 : Nat) (7 : Int64)) ∈ jW := jW_t5 (i := 124) rfl rfl
set_option maxRecDepth 4000 in
theorem u1085 : (Cond.methodLink "PaperPocketModel" (96 : Nat) ({ cls := "PaperPocketModel", name := "in", desc := "(JJJ)Z" } : MethodName)) ∈ jW := jW_t5 (i := 125) rfl rfl
set_option maxRecDepth 4000 in
theorem u1086 : (Cond.static ({ cls := "PaperPocketModel", name := "in", desc := "(JJJ)Z" } : MethodName)) ∈ jW := jW_t5 (i := 126) rfl rfl
set_option maxRecDepth 4000 in
theorem u1087 : (Cond.code ({ cls := "PaperPocketModel", name := "in", desc := "(JJJ)Z" } : MethodName) prog_13_method_2_code (6 : Nat) (Option.some FieldType.boolean)) ∈ jW := jW_t5 (i := 127) rfl rfl
set_option maxRecDepth 4000 in
theorem u1088 : (Cond.constantLong "PaperPocketModel" (106 : Nat) (2 : Int64)) ∈ jW := jW_t5 (i := 128) rfl rfl
set_option maxRecDepth 4000 in
theorem u1089 : (Cond.constant "PaperPocketModel" (108 : Nat) (-1000001 : Int32)) ∈ jW := jW_t5 (i := 129) rfl rfl
set_option maxRecDepth 4000 in
theorem u1090 : (Cond.methodLink "PaperPocketModel" (109 : Nat) ({ cls := "PaperPocketModel", name := "finding", desc := "(I)I" } : MethodName)) ∈ jW := jW_t5 (i := 130) rfl rfl
set_option maxRecDepth 4000 in
theorem u1092 : (Cond.instanceMethod ({ cls := "PaperPocketModel", name := "finding", desc := "(I)I" } : MethodName)) ∈ jW := jW_t5 (i := 132) rfl rfl
set_option maxRecDepth 4000 in
theorem u1093 : (Cond.code ({ cls := "PaperPocketModel", name := "finding", desc := "(I)I" } : MethodName) prog_13_method_3_code (2 : Nat) (Option.some FieldType.int)) ∈ jW := jW_t5 (i := 133) rfl rfl
set_option maxRecDepth 4000 in
theorem u1094 : (Cond.constant "PaperPocketModel" (10 : Nat) (-1000010 : Int32)) ∈ jW := jW_t5 (i := 134) rfl rfl
set_option maxRecDepth 4000 in
theorem u1095 : (Cond.methodLink "PaperPocketLaw" (21 : Nat) ({ cls := "PaperPocketModel", name := "set", desc := "(III)I" } : MethodName)) ∈ jW := jW_t5 (i := 135) rfl rfl
set_option maxRecDepth 4000 in
theorem u1096 : (Cond.instanceMethod ({ cls := "PaperPocketModel", name := "set", desc := "(III)I" } : MethodName)) ∈ jW := jW_t5 (i := 136) rfl rfl
set_option maxRecDepth 4000 in
theorem u1097 : (Cond.selects "PaperPocketModel" ({ cls := "PaperPocketModel", name := "set", desc := "(III)I" } : MethodName) ({ cls := "PaperPocketModel", name := "set", desc := "(III)I" } : MethodName)) ∈ jW := jW_t5 (i := 137) rfl rfl
set_option maxRecDepth 4000 in
theorem u1098 : (Cond.code ({ cls := "PaperPocketModel", name := "set", desc := "(III)I" } : MethodName) prog_13_method_8_code (4 : Nat) (Option.some FieldType.int)) ∈ jW := jW_t5 (i := 138) rfl rfl
set_option maxRecDepth 4000 in
theorem u1099 : (Cond.methodLink "PaperPocketLaw" (26 : Nat) ({ cls := "PaperPocketModel", name := "copy", desc := "(IIIII)I" } : MethodName)) ∈ jW := jW_t5 (i := 139) rfl rfl
set_option maxRecDepth 4000 in
theorem u1100 : (Cond.instanceMethod ({ cls := "PaperPocketModel", name := "copy", desc := "(IIIII)I" } : MethodName)) ∈ jW := jW_t5 (i := 140) rfl rfl
set_option maxRecDepth 4000 in
theorem u1101 : (Cond.selects "PaperPocketModel" ({ cls := "PaperPocketModel", name := "copy", desc := "(IIIII)I" } : MethodName) ({ cls := "PaperPocketModel", name := "copy", desc := "(IIIII)I" } : MethodName)) ∈ jW := jW_t5 (i := 141) rfl rfl
set_option maxRecDepth 4000 in
theorem u1102 : (Cond.code ({ cls := "PaperPocketModel", name := "copy", desc := "(IIIII)I" } : MethodName) prog_13_method_9_code (9 : Nat) (Option.some FieldType.int)) ∈ jW := jW_t5 (i := 142) rfl rfl
set_option maxRecDepth 4000 in
theorem u1103 : (Cond.methodLink "PaperPocketLaw" (31 : Nat) ({ cls := "PaperPocketModel", name := "drop", desc := "(I)I" } : MethodName)) ∈ jW := jW_t5 (i := 143) rfl rfl
set_option maxRecDepth 4000 in
theorem u1104 : (Cond.instanceMethod ({ cls := "PaperPocketModel", name := "drop", desc := "(I)I" } : MethodName)) ∈ jW := jW_t5 (i := 144) rfl rfl
set_option maxRecDepth 4000 in
theorem u1105 : (Cond.selects "PaperPocketModel" ({ cls := "PaperPocketModel", name := "drop", desc := "(I)I" } : MethodName) ({ cls := "PaperPocketModel", name := "drop", desc := "(I)I" } : MethodName)) ∈ jW := jW_t5 (i := 145) rfl rfl
set_option maxRecDepth 4000 in
theorem u1106 : (Cond.code ({ cls := "PaperPocketModel", name := "drop", desc := "(I)I" } : MethodName) prog_13_method_10_code (2 : Nat) (Option.some FieldType.int)) ∈ jW := jW_t5 (i := 146) rfl rfl
set_option maxRecDepth 4000 in
theorem u1107 : (Cond.methodLink "PaperPocketLaw" (35 : Nat) ({ cls := "PaperPocketModel", name := "key", desc := "(III)I" } : MethodName)) ∈ jW := jW_t5 (i := 147) rfl rfl
set_option maxRecDepth 4000 in
theorem u1108 : (Cond.instanceMethod ({ cls := "PaperPocketModel", name := "key", desc := "(III)I" } : MethodName)) ∈ jW := jW_t5 (i := 148) rfl rfl
set_option maxRecDepth 4000 in
theorem u1109 : (Cond.selects "PaperPocketModel" ({ cls := "PaperPocketModel", name := "key", desc := "(III)I" } : MethodName) ({ cls := "PaperPocketModel", name := "key", desc := "(III)I" } : MethodName)) ∈ jW := jW_t5 (i := 149) rfl rfl
set_option maxRecDepth 4000 in
theorem u1110 : (Cond.code ({ cls := "PaperPocketModel", name := "key", desc := "(III)I" } : MethodName) prog_13_method_13_code (4 : Nat) (Option.some FieldType.int)) ∈ jW := jW_t5 (i := 150) rfl rfl
set_option maxRecDepth 4000 in
theorem u1111 : (Cond.methodLink "PaperPocketModel" (115 : Nat) ({ cls := "PaperPocketModel", name := "isOffice", desc := "(I)Z" } : MethodName)) ∈ jW := jW_t5 (i := 151) rfl rfl
set_option maxRecDepth 4000 in
theorem u1112 : (Cond.static ({ cls := "PaperPocketModel", name := "isOffice", desc := "(I)Z" } : MethodName)) ∈ jW := jW_t5 (i := 152) rfl rfl
set_option maxRecDepth 4000 in
theorem u1113 : (Cond.code ({ cls := "PaperPocketModel", name := "isOffice", desc := "(I)Z" } : MethodName) prog_13_method_12_code (1 : Nat) (Option.some FieldType.boolean)) ∈ jW := jW_t5 (i := 153) rfl rfl
set_option maxRecDepth 4000 in
theorem u1114 : (Cond.constantLong "PaperPocketModel" (113 : Nat) (3 : Int64)) ∈ jW := jW_t5 (i := 154) rfl rfl
set_option maxRecDepth 4000 in
theorem u1115 : (Cond.methodLink "PaperPocketModel" (118 : Nat) ({ cls := "PaperPocketModel", name := "isDay", desc := "(I)Z" } : MethodName)) ∈ jW := jW_t5 (i := 155) rfl rfl
set_option maxRecDepth 4000 in
theorem u1116 : (Cond.static ({ cls := "PaperPocketModel", name := "isDay", desc := "(I)Z" } : MethodName)) ∈ jW := jW_t5 (i := 156) rfl rfl
set_option maxRecDepth 4000 in
theorem u1117 : (Cond.code ({ cls := "PaperPocketModel", name := "isDay", desc := "(I)Z" } : MethodName) prog_13_method_5_code (1 : Nat) (Option.some FieldType.boolean)) ∈ jW := jW_t5 (i := 157) rfl rfl
set_option maxRecDepth 4000 in
theorem u1118 : (Cond.constantLong "PaperPocketModel" (94 : Nat) (999 : Int64)) ∈ jW := jW_t5 (i := 158) rfl rfl
set_option maxRecDepth 4000 in
theorem u1119 : (Cond.constantLong "PaperPocketModel" (121 : Nat) (65520 : Int64)) ∈ jW := jW_t5 (i := 159) rfl rfl
set_option maxRecDepth 4000 in
theorem u1120 : (Cond.constant "PaperPocketModel" (123 : Nat) (-1000003 : Int32)) ∈ jW := jW_t5 (i := 160) rfl rfl
set_option maxRecDepth 4000 in
theorem u1121 : (Cond.methodLink "PaperPocketLaw" (40 : Nat) ({ cls := "PaperPocketModel", name := "keyOn", desc := "(II)I" } : MethodName)) ∈ jW := jW_t5 (i := 161) rfl rfl
set_option maxRecDepth 4000 in
theorem u1122 : (Cond.instanceMethod ({ cls := "PaperPocketModel", name := "keyOn", desc := "(II)I" } : MethodName)) ∈ jW := jW_t5 (i := 162) rfl rfl
set_option maxRecDepth 4000 in
theorem u1123 : (Cond.selects "PaperPocketModel" ({ cls := "PaperPocketModel", name := "keyOn", desc := "(II)I" } : MethodName) ({ cls := "PaperPocketModel", name := "keyOn", desc := "(II)I" } : MethodName)) ∈ jW := jW_t5 (i := 163) rfl rfl
set_option maxRecDepth 4000 in
theorem u1124 : (Cond.code ({ cls := "PaperPocketModel", name := "keyOn", desc := "(II)I" } : MethodName) prog_13_method_15_code (3 : Nat) (Option.some FieldType.int)) ∈ jW := jW_t5 (i := 164) rfl rfl
set_option maxRecDepth 4000 in
theorem u1125 : (Cond.methodLink "PaperPocketModel" (124 : Nat) ({ cls := "PaperPocketModel", name := "keyFor", desc := "(II)I" } : MethodName)) ∈ jW := jW_t5 (i := 165) rfl rfl
set_option maxRecDepth 4000 in
theorem u1127 : (Cond.instanceMethod ({ cls := "PaperPocketModel", name := "keyFor", desc := "(II)I" } : MethodName)) ∈ jW := jW_t5 (i := 167) rfl rfl
set_option maxRecDepth 4000 in
theorem u1128 : (Cond.code ({ cls := "PaperPocketModel", name := "keyFor", desc := "(II)I" } : MethodName) prog_13_method_14_code (5 : Nat) (Option.some FieldType.int)) ∈ jW := jW_t5 (i := 168) rfl rfl
set_option maxRecDepth 4000 in
theorem u1129 : (Cond.methodLink "PaperPocketLaw" (44 : Nat) ({ cls := "PaperPocketModel", name := "close", desc := "(III)I" } : MethodName)) ∈ jW := jW_t5 (i := 169) rfl rfl
set_option maxRecDepth 4000 in
theorem u1130 : (Cond.instanceMethod ({ cls := "PaperPocketModel", name := "close", desc := "(III)I" } : MethodName)) ∈ jW := jW_t5 (i := 170) rfl rfl
set_option maxRecDepth 4000 in
theorem u1131 : (Cond.selects "PaperPocketModel" ({ cls := "PaperPocketModel", name := "close", desc := "(III)I" } : MethodName) ({ cls := "PaperPocketModel", name := "close", desc := "(III)I" } : MethodName)) ∈ jW := jW_t5 (i := 171) rfl rfl
set_option maxRecDepth 4000 in
theorem u1132 : (Cond.code ({ cls := "PaperPocketModel", name := "close", desc := "(III)I" } : MethodName) prog_13_method_16_code (4 : Nat) (Option.some FieldType.int)) ∈ jW := jW_t5 (i := 172) rfl rfl
set_option maxRecDepth 4000 in
theorem u1133 : (Cond.constant "PaperPocketModel" (128 : Nat) (-1000002 : Int32)) ∈ jW := jW_t5 (i := 173) rfl rfl
set_option maxRecDepth 4000 in
theorem u1134 : (Cond.methodLink "PaperPocketLaw" (48 : Nat) ({ cls := "PaperPocketModel", name := "paper", desc := "(II)I" } : MethodName)) ∈ jW := jW_t5 (i := 174) rfl rfl
set_option maxRecDepth 4000 in
theorem u1135 : (Cond.instanceMethod ({ cls := "PaperPocketModel", name := "paper", desc := "(II)I" } : MethodName)) ∈ jW := jW_t5 (i := 175) rfl rfl
set_option maxRecDepth 4000 in
theorem u1136 : (Cond.selects "PaperPocketModel" ({ cls := "PaperPocketModel", name := "paper", desc := "(II)I" } : MethodName) ({ cls := "PaperPocketModel", name := "paper", desc := "(II)I" } : MethodName)) ∈ jW := jW_t5 (i := 176) rfl rfl
set_option maxRecDepth 4000 in
theorem u1137 : (Cond.code ({ cls := "PaperPocketModel", name := "paper", desc := "(II)I" } : MethodName) prog_13_method_20_code (7 : Nat) (Option.some FieldType.int)) ∈ jW := jW_t5 (i := 177) rfl rfl
set_option maxRecDepth 4000 in
theorem u1138 : (Cond.methodLink "PaperPocketModel" (132 : Nat) ({ cls := "PaperPocketModel", name := "lookItems", desc := "(III)I" } : MethodName)) ∈ jW := jW_t5 (i := 178) rfl rfl
set_option maxRecDepth 4000 in
theorem u1140 : (Cond.instanceMethod ({ cls := "PaperPocketModel", name := "lookItems", desc := "(III)I" } : MethodName)) ∈ jW := jW_t5 (i := 180) rfl rfl
set_option maxRecDepth 4000 in
theorem u1141 : (Cond.code ({ cls := "PaperPocketModel", name := "lookItems", desc := "(III)I" } : MethodName) prog_13_method_11_code (4 : Nat) (Option.some FieldType.int)) ∈ jW := jW_t5 (i := 181) rfl rfl
set_option maxRecDepth 4000 in
theorem u1142 : (Cond.constantLong "PaperPocketModel" (136 : Nat) (5 : Int64)) ∈ jW := jW_t5 (i := 182) rfl rfl
set_option maxRecDepth 4000 in
theorem u1143 : (Cond.constantLong "PaperPocketModel" (138 : Nat) (4 : Int64)) ∈ jW := jW_t5 (i := 183) rfl rfl
set_option maxRecDepth 4000 in
theorem u1144 : (Cond.methodLink "PaperPocketLaw" (52 : Nat) ({ cls := "PaperPocketModel", name := "told", desc := "(II)I" } : MethodName)) ∈ jW := jW_t5 (i := 184) rfl rfl
set_option maxRecDepth 4000 in
theorem u1145 : (Cond.instanceMethod ({ cls := "PaperPocketModel", name := "told", desc := "(II)I" } : MethodName)) ∈ jW := jW_t5 (i := 185) rfl rfl
set_option maxRecDepth 4000 in
theorem u1146 : (Cond.selects "PaperPocketModel" ({ cls := "PaperPocketModel", name := "told", desc := "(II)I" } : MethodName) ({ cls := "PaperPocketModel", name := "told", desc := "(II)I" } : MethodName)) ∈ jW := jW_t5 (i := 186) rfl rfl
set_option maxRecDepth 4000 in
theorem u1147 : (Cond.code ({ cls := "PaperPocketModel", name := "told", desc := "(II)I" } : MethodName) prog_13_method_29_code (3 : Nat) (Option.some FieldType.int)) ∈ jW := jW_t5 (i := 187) rfl rfl
set_option maxRecDepth 4000 in
theorem u1148 : (Cond.methodLink "PaperPocketModel" (164 : Nat) ({ cls := "PaperPocketModel", name := "isPaper", desc := "(I)Z" } : MethodName)) ∈ jW := jW_t5 (i := 188) rfl rfl
set_option maxRecDepth 4000 in
theorem u1150 : (Cond.instanceMethod ({ cls := "PaperPocketModel", name := "isPaper", desc := "(I)Z" } : MethodName)) ∈ jW := jW_t5 (i := 190) rfl rfl
set_option maxRecDepth 4000 in
theorem u1151 : (Cond.code ({ cls := "PaperPocketModel", name := "isPaper", desc := "(I)Z" } : MethodName) prog_13_method_17_code (2 : Nat) (Option.some FieldType.boolean)) ∈ jW := jW_t5 (i := 191) rfl rfl
set_option maxRecDepth 4000 in
theorem u1152 : (Cond.constantLong "PaperPocketModel" (167 : Nat) (15 : Int64)) ∈ jW := jW_t5 (i := 192) rfl rfl
set_option maxRecDepth 4000 in
theorem u1153 : (Cond.methodLink "PaperPocketModel" (155 : Nat) ({ cls := "PaperPocketModel", name := "halfOf", desc := "(II)I" } : MethodName)) ∈ jW := jW_t5 (i := 193) rfl rfl
set_option maxRecDepth 4000 in
theorem u1155 : (Cond.instanceMethod ({ cls := "PaperPocketModel", name := "halfOf", desc := "(II)I" } : MethodName)) ∈ jW := jW_t5 (i := 195) rfl rfl
set_option maxRecDepth 4000 in
theorem u1156 : (Cond.code ({ cls := "PaperPocketModel", name := "halfOf", desc := "(II)I" } : MethodName) prog_13_method_23_code (3 : Nat) (Option.some FieldType.int)) ∈ jW := jW_t5 (i := 196) rfl rfl
set_option maxRecDepth 4000 in
theorem u1157 : (Cond.methodLink "PaperPocketModel" (143 : Nat) ({ cls := "PaperPocketModel", name := "field", desc := "(II)I" } : MethodName)) ∈ jW := jW_t5 (i := 197) rfl rfl
set_option maxRecDepth 4000 in
theorem u1159 : (Cond.instanceMethod ({ cls := "PaperPocketModel", name := "field", desc := "(II)I" } : MethodName)) ∈ jW := jW_t5 (i := 199) rfl rfl
set_option maxRecDepth 4000 in
theorem u1160 : (Cond.code ({ cls := "PaperPocketModel", name := "field", desc := "(II)I" } : MethodName) prog_13_method_19_code (3 : Nat) (Option.some FieldType.int)) ∈ jW := jW_t5 (i := 200) rfl rfl
set_option maxRecDepth 4000 in
theorem u1161 : (Cond.methodLink "PaperPocketModel" (146 : Nat) ({ cls := "PaperPocketModel", name := "leaf", desc := "(III)I" } : MethodName)) ∈ jW := jW_t5 (i := 201) rfl rfl
set_option maxRecDepth 4000 in
theorem u1162 : (Cond.static ({ cls := "PaperPocketModel", name := "leaf", desc := "(III)I" } : MethodName)) ∈ jW := jW_t5 (i := 202) rfl rfl
set_option maxRecDepth 4000 in
theorem u1163 : (Cond.code ({ cls := "PaperPocketModel", name := "leaf", desc := "(III)I" } : MethodName) prog_13_method_22_code (3 : Nat) (Option.some FieldType.int)) ∈ jW := jW_t5 (i := 203) rfl rfl
set_option maxRecDepth 4000 in
theorem u1164 : (Cond.constant "PaperPocketModel" (142 : Nat) (65521 : Int32)) ∈ jW := jW_t5 (i := 204) rfl rfl
set_option maxRecDepth 4000 in
theorem u1165 : (Cond.methodLink "PaperPocketModel" (149 : Nat) ({ cls := "PaperPocketModel", name := "join", desc := "(II)I" } : MethodName)) ∈ jW := jW_t5 (i := 205) rfl rfl
set_option maxRecDepth 4000 in
theorem u1166 : (Cond.static ({ cls := "PaperPocketModel", name := "join", desc := "(II)I" } : MethodName)) ∈ jW := jW_t5 (i := 206) rfl rfl
set_option maxRecDepth 4000 in
theorem u1167 : (Cond.code ({ cls := "PaperPocketModel", name := "join", desc := "(II)I" } : MethodName) prog_13_method_21_code (2 : Nat) (Option.some FieldType.int)) ∈ jW := jW_t5 (i := 207) rfl rfl
set_option maxRecDepth 4000 in
theorem u1168 : (Cond.constantLong "PaperPocketModel" (140 : Nat) (65521 : Int64)) ∈ jW := jW_t5 (i := 208) rfl rfl
set_option maxRecDepth 4000 in
theorem u1169 : (Cond.methodLink "PaperPocketModel" (169 : Nat) ({ cls := "PaperPocketModel", name := "rootOf", desc := "(I)I" } : MethodName)) ∈ jW := jW_t5 (i := 209) rfl rfl
set_option maxRecDepth 4000 in
theorem u1171 : (Cond.instanceMethod ({ cls := "PaperPocketModel", name := "rootOf", desc := "(I)I" } : MethodName)) ∈ jW := jW_t5 (i := 211) rfl rfl
set_option maxRecDepth 4000 in
theorem u1172 : (Cond.code ({ cls := "PaperPocketModel", name := "rootOf", desc := "(I)I" } : MethodName) prog_13_method_25_code (2 : Nat) (Option.some FieldType.int)) ∈ jW := jW_t5 (i := 212) rfl rfl
set_option maxRecDepth 4000 in
theorem u1173 : (Cond.methodLink "PaperPocketModel" (172 : Nat) ({ cls := "PaperPocketModel", name := "sealOf", desc := "(II)I" } : MethodName)) ∈ jW := jW_t5 (i := 213) rfl rfl
set_option maxRecDepth 4000 in
theorem u1175 : (Cond.instanceMethod ({ cls := "PaperPocketModel", name := "sealOf", desc := "(II)I" } : MethodName)) ∈ jW := jW_t5 (i := 215) rfl rfl
set_option maxRecDepth 4000 in
theorem u1176 : (Cond.code ({ cls := "PaperPocketModel", name := "sealOf", desc := "(II)I" } : MethodName) prog_13_method_24_code (3 : Nat) (Option.some FieldType.int)) ∈ jW := jW_t5 (i := 216) rfl rfl
set_option maxRecDepth 4000 in
theorem u1177 : (Cond.methodLink "PaperPocketModel" (152 : Nat) ({ cls := "PaperPocketModel", name := "of", desc := "(II)I" } : MethodName)) ∈ jW := jW_t5 (i := 217) rfl rfl
set_option maxRecDepth 4000 in
theorem u1179 : (Cond.instanceMethod ({ cls := "PaperPocketModel", name := "of", desc := "(II)I" } : MethodName)) ∈ jW := jW_t5 (i := 219) rfl rfl
set_option maxRecDepth 4000 in
theorem u1180 : (Cond.code ({ cls := "PaperPocketModel", name := "of", desc := "(II)I" } : MethodName) prog_13_method_18_code (3 : Nat) (Option.some FieldType.int)) ∈ jW := jW_t5 (i := 220) rfl rfl
set_option maxRecDepth 4000 in
theorem u1181 : (Cond.methodLink "PaperPocketModel" (175 : Nat) ({ cls := "PaperPocketModel", name := "endOf", desc := "(II)I" } : MethodName)) ∈ jW := jW_t5 (i := 221) rfl rfl
set_option maxRecDepth 4000 in
theorem u1183 : (Cond.instanceMethod ({ cls := "PaperPocketModel", name := "endOf", desc := "(II)I" } : MethodName)) ∈ jW := jW_t5 (i := 223) rfl rfl
set_option maxRecDepth 4000 in
theorem u1184 : (Cond.code ({ cls := "PaperPocketModel", name := "endOf", desc := "(II)I" } : MethodName) prog_13_method_28_code (3 : Nat) (Option.some FieldType.int)) ∈ jW := jW_t5 (i := 224) rfl rfl
set_option maxRecDepth 4000 in
theorem u1185 : (Cond.methodLink "PaperPocketModel" (158 : Nat) ({ cls := "PaperPocketModel", name := "beginning", desc := "(II)I" } : MethodName)) ∈ jW := jW_t5 (i := 225) rfl rfl
set_option maxRecDepth 4000 in
theorem u1186 : (Cond.static ({ cls := "PaperPocketModel", name := "beginning", desc := "(II)I" } : MethodName)) ∈ jW := jW_t5 (i := 226) rfl rfl
set_option maxRecDepth 4000 in
theorem u1187 : (Cond.code ({ cls := "PaperPocketModel", name := "beginning", desc := "(II)I" } : MethodName) prog_13_method_27_code (2 : Nat) (Option.some FieldType.int)) ∈ jW := jW_t5 (i := 227) rfl rfl
set_option maxRecDepth 4000 in
theorem u1188 : (Cond.methodLink "PaperPocketModel" (161 : Nat) ({ cls := "PaperPocketModel", name := "steps", desc := "(II)I" } : MethodName)) ∈ jW := jW_t5 (i := 228) rfl rfl
set_option maxRecDepth 4000 in
theorem u1189 : (Cond.static ({ cls := "PaperPocketModel", name := "steps", desc := "(II)I" } : MethodName)) ∈ jW := jW_t5 (i := 229) rfl rfl
set_option maxRecDepth 4000 in
theorem u1190 : (Cond.code ({ cls := "PaperPocketModel", name := "steps", desc := "(II)I" } : MethodName) prog_13_method_26_code (4 : Nat) (Option.some FieldType.int)) ∈ jW := jW_t5 (i := 230) rfl rfl
set_option maxRecDepth 4000 in
theorem u1191 : (Cond.methodLink "PaperPocketLaw" (56 : Nat) ({ cls := "PaperPocketModel", name := "show", desc := "(III)I" } : MethodName)) ∈ jW := jW_t5 (i := 231) rfl rfl
set_option maxRecDepth 4000 in
theorem u1192 : (Cond.instanceMethod ({ cls := "PaperPocketModel", name := "show", desc := "(III)I" } : MethodName)) ∈ jW := jW_t5 (i := 232) rfl rfl
set_option maxRecDepth 4000 in
theorem u1193 : (Cond.selects "PaperPocketModel" ({ cls := "PaperPocketModel", name := "show", desc := "(III)I" } : MethodName) ({ cls := "PaperPocketModel", name := "show", desc := "(III)I" } : MethodName)) ∈ jW := jW_t5 (i := 233) rfl rfl
set_option maxRecDepth 4000 in
theorem u1194 : (Cond.code ({ cls := "PaperPocketModel", name := "show", desc := "(III)I" } : MethodName) prog_13_method_31_code (5 : Nat) (Option.some FieldType.int)) ∈ jW := jW_t5 (i := 234) rfl rfl
set_option maxRecDepth 4000 in
theorem u1195 : (Cond.methodLink "PaperPocketModel" (178 : Nat) ({ cls := "PaperPocketModel", name := "showAll", desc := "(II)I" } : MethodName)) ∈ jW := jW_t5 (i := 235) rfl rfl
set_option maxRecDepth 4000 in
theorem u1197 : (Cond.instanceMethod ({ cls := "PaperPocketModel", name := "showAll", desc := "(II)I" } : MethodName)) ∈ jW := jW_t5 (i := 237) rfl rfl
set_option maxRecDepth 4000 in
theorem u1198 : (Cond.code ({ cls := "PaperPocketModel", name := "showAll", desc := "(II)I" } : MethodName) prog_13_method_30_code (6 : Nat) (Option.some FieldType.int)) ∈ jW := jW_t5 (i := 238) rfl rfl
set_option maxRecDepth 4000 in
theorem u1199 : (Cond.methodLink "PaperPocketLaw" (60 : Nat) ({ cls := "PaperPocketModel", name := "check", desc := "(IIIII)I" } : MethodName)) ∈ jW := jW_t5 (i := 239) rfl rfl
set_option maxRecDepth 4000 in
theorem u1200 : (Cond.instanceMethod ({ cls := "PaperPocketModel", name := "check", desc := "(IIIII)I" } : MethodName)) ∈ jW := jW_t6 (i := 0) rfl rfl
set_option maxRecDepth 4000 in
theorem u1201 : (Cond.selects "PaperPocketModel" ({ cls := "PaperPocketModel", name := "check", desc := "(IIIII)I" } : MethodName) ({ cls := "PaperPocketModel", name := "check", desc := "(IIIII)I" } : MethodName)) ∈ jW := jW_t6 (i := 1) rfl rfl
set_option maxRecDepth 4000 in
theorem u1202 : (Cond.code ({ cls := "PaperPocketModel", name := "check", desc := "(IIIII)I" } : MethodName) prog_13_method_32_code (13 : Nat) (Option.some FieldType.int)) ∈ jW := jW_t6 (i := 2) rfl rfl
set_option maxRecDepth 4000 in
theorem u1203 : (Cond.methodLink "PaperPocketLaw" (64 : Nat) ({ cls := "PaperPocketModel", name := "lies", desc := "(II)I" } : MethodName)) ∈ jW := jW_t6 (i := 3) rfl rfl
set_option maxRecDepth 4000 in
theorem u1204 : (Cond.instanceMethod ({ cls := "PaperPocketModel", name := "lies", desc := "(II)I" } : MethodName)) ∈ jW := jW_t6 (i := 4) rfl rfl
set_option maxRecDepth 4000 in
theorem u1205 : (Cond.selects "PaperPocketModel" ({ cls := "PaperPocketModel", name := "lies", desc := "(II)I" } : MethodName) ({ cls := "PaperPocketModel", name := "lies", desc := "(II)I" } : MethodName)) ∈ jW := jW_t6 (i := 5) rfl rfl
set_option maxRecDepth 4000 in
theorem u1206 : (Cond.code ({ cls := "PaperPocketModel", name := "lies", desc := "(II)I" } : MethodName) prog_13_method_33_code (10 : Nat) (Option.some FieldType.int)) ∈ jW := jW_t6 (i := 6) rfl rfl
set_option maxRecDepth 4000 in
theorem u1207 : (Cond.methodLink "PaperPocketLaw" (68 : Nat) ({ cls := "PaperPocketModel", name := "over", desc := "(III)I" } : MethodName)) ∈ jW := jW_t6 (i := 7) rfl rfl
set_option maxRecDepth 4000 in
theorem u1208 : (Cond.instanceMethod ({ cls := "PaperPocketModel", name := "over", desc := "(III)I" } : MethodName)) ∈ jW := jW_t6 (i := 8) rfl rfl
set_option maxRecDepth 4000 in
theorem u1209 : (Cond.selects "PaperPocketModel" ({ cls := "PaperPocketModel", name := "over", desc := "(III)I" } : MethodName) ({ cls := "PaperPocketModel", name := "over", desc := "(III)I" } : MethodName)) ∈ jW := jW_t6 (i := 9) rfl rfl
set_option maxRecDepth 4000 in
theorem u1210 : (Cond.code ({ cls := "PaperPocketModel", name := "over", desc := "(III)I" } : MethodName) prog_13_method_34_code (4 : Nat) (Option.some FieldType.int)) ∈ jW := jW_t6 (i := 10) rfl rfl
set_option maxRecDepth 4000 in
theorem u1211 : (Cond.methodLink "PaperPocketLaw" (73 : Nat) ({ cls := "PaperPocketModel", name := "isOver", desc := "(IIII)I" } : MethodName)) ∈ jW := jW_t6 (i := 11) rfl rfl
set_option maxRecDepth 4000 in
theorem u1212 : (Cond.instanceMethod ({ cls := "PaperPocketModel", name := "isOver", desc := "(IIII)I" } : MethodName)) ∈ jW := jW_t6 (i := 12) rfl rfl
set_option maxRecDepth 4000 in
theorem u1213 : (Cond.selects "PaperPocketModel" ({ cls := "PaperPocketModel", name := "isOver", desc := "(IIII)I" } : MethodName) ({ cls := "PaperPocketModel", name := "isOver", desc := "(IIII)I" } : MethodName)) ∈ jW := jW_t6 (i := 13) rfl rfl
set_option maxRecDepth 4000 in
theorem u1214 : (Cond.code ({ cls := "PaperPocketModel", name := "isOver", desc := "(IIII)I" } : MethodName) prog_13_method_35_code (5 : Nat) (Option.some FieldType.int)) ∈ jW := jW_t6 (i := 14) rfl rfl
set_option maxRecDepth 4000 in
theorem u1215 : (Cond.methodLink "PaperPocketLaw" (77 : Nat) ({ cls := "PaperPocketModel", name := "secret", desc := "(II)I" } : MethodName)) ∈ jW := jW_t6 (i := 15) rfl rfl
set_option maxRecDepth 4000 in
theorem u1216 : (Cond.instanceMethod ({ cls := "PaperPocketModel", name := "secret", desc := "(II)I" } : MethodName)) ∈ jW := jW_t6 (i := 16) rfl rfl
set_option maxRecDepth 4000 in
theorem u1217 : (Cond.selects "PaperPocketModel" ({ cls := "PaperPocketModel", name := "secret", desc := "(II)I" } : MethodName) ({ cls := "PaperPocketModel", name := "secret", desc := "(II)I" } : MethodName)) ∈ jW := jW_t6 (i := 17) rfl rfl
set_option maxRecDepth 4000 in
theorem u1218 : (Cond.code ({ cls := "PaperPocketModel", name := "secret", desc := "(II)I" } : MethodName) prog_13_method_38_code (3 : Nat) (Option.some FieldType.int)) ∈ jW := jW_t6 (i := 18) rfl rfl
set_option maxRecDepth 4000 in
theorem u1219 : (Cond.methodLink "PaperPocketModel" (181 : Nat) ({ cls := "PaperPocketModel", name := "isBearer", desc := "(I)Z" } : MethodName)) ∈ jW := jW_t6 (i := 19) rfl rfl
set_option maxRecDepth 4000 in
theorem u1220 : (Cond.static ({ cls := "PaperPocketModel", name := "isBearer", desc := "(I)Z" } : MethodName)) ∈ jW := jW_t6 (i := 20) rfl rfl
set_option maxRecDepth 4000 in
theorem u1221 : (Cond.code ({ cls := "PaperPocketModel", name := "isBearer", desc := "(I)Z" } : MethodName) prog_13_method_36_code (1 : Nat) (Option.some FieldType.boolean)) ∈ jW := jW_t6 (i := 21) rfl rfl
set_option maxRecDepth 4000 in
theorem u1222 : (Cond.constantLong "PaperPocketModel" (184 : Nat) (22 : Int64)) ∈ jW := jW_t6 (i := 22) rfl rfl
set_option maxRecDepth 4000 in
theorem u1223 : (Cond.methodLink "PaperPocketModel" (186 : Nat) ({ cls := "PaperPocketModel", name := "power", desc := "(II)I" } : MethodName)) ∈ jW := jW_t6 (i := 23) rfl rfl
set_option maxRecDepth 4000 in
theorem u1224 : (Cond.static ({ cls := "PaperPocketModel", name := "power", desc := "(II)I" } : MethodName)) ∈ jW := jW_t6 (i := 24) rfl rfl
set_option maxRecDepth 4000 in
theorem u1225 : (Cond.code ({ cls := "PaperPocketModel", name := "power", desc := "(II)I" } : MethodName) prog_13_method_37_code (4 : Nat) (Option.some FieldType.int)) ∈ jW := jW_t6 (i := 25) rfl rfl
set_option maxRecDepth 4000 in
theorem u1226 : (Cond.methodLink "PaperPocketLaw" (81 : Nat) ({ cls := "PaperPocketModel", name := "answer", desc := "(IIII)I" } : MethodName)) ∈ jW := jW_t6 (i := 26) rfl rfl
set_option maxRecDepth 4000 in
theorem u1227 : (Cond.instanceMethod ({ cls := "PaperPocketModel", name := "answer", desc := "(IIII)I" } : MethodName)) ∈ jW := jW_t6 (i := 27) rfl rfl
set_option maxRecDepth 4000 in
theorem u1228 : (Cond.selects "PaperPocketModel" ({ cls := "PaperPocketModel", name := "answer", desc := "(IIII)I" } : MethodName) ({ cls := "PaperPocketModel", name := "answer", desc := "(IIII)I" } : MethodName)) ∈ jW := jW_t6 (i := 28) rfl rfl
set_option maxRecDepth 4000 in
theorem u1229 : (Cond.code ({ cls := "PaperPocketModel", name := "answer", desc := "(IIII)I" } : MethodName) prog_13_method_39_code (5 : Nat) (Option.some FieldType.int)) ∈ jW := jW_t6 (i := 29) rfl rfl
set_option maxRecDepth 4000 in
theorem u1230 : (Cond.methodLink "PaperPocketLaw" (85 : Nat) ({ cls := "PaperPocketModel", name := "taken", desc := "(IIII)I" } : MethodName)) ∈ jW := jW_t6 (i := 30) rfl rfl
set_option maxRecDepth 4000 in
theorem u1231 : (Cond.instanceMethod ({ cls := "PaperPocketModel", name := "taken", desc := "(IIII)I" } : MethodName)) ∈ jW := jW_t6 (i := 31) rfl rfl
set_option maxRecDepth 4000 in
theorem u1232 : (Cond.selects "PaperPocketModel" ({ cls := "PaperPocketModel", name := "taken", desc := "(IIII)I" } : MethodName) ({ cls := "PaperPocketModel", name := "taken", desc := "(IIII)I" } : MethodName)) ∈ jW := jW_t6 (i := 32) rfl rfl
set_option maxRecDepth 4000 in
theorem u1233 : (Cond.code ({ cls := "PaperPocketModel", name := "taken", desc := "(IIII)I" } : MethodName) prog_13_method_41_code (5 : Nat) (Option.some FieldType.int)) ∈ jW := jW_t6 (i := 33) rfl rfl
set_option maxRecDepth 4000 in
theorem u1234 : (Cond.constantLong "PaperPocketModel" (189 : Nat) (46 : Int64)) ∈ jW := jW_t6 (i := 34) rfl rfl
set_option maxRecDepth 4000 in
theorem u1235 : (Cond.methodLink "PaperPocketModel" (191 : Nat) ({ cls := "PaperPocketModel", name := "isTaken", desc := "(IIII)Z" } : MethodName)) ∈ jW := jW_t6 (i := 35) rfl rfl
set_option maxRecDepth 4000 in
theorem u1237 : (Cond.instanceMethod ({ cls := "PaperPocketModel", name := "isTaken", desc := "(IIII)Z" } : MethodName)) ∈ jW := jW_t6 (i := 37) rfl rfl
set_option maxRecDepth 4000 in
theorem u1238 : (Cond.code ({ cls := "PaperPocketModel", name := "isTaken", desc := "(IIII)Z" } : MethodName) prog_13_method_40_code (5 : Nat) (Option.some FieldType.boolean)) ∈ jW := jW_t6 (i := 38) rfl rfl
set_option maxRecDepth 4000 in
theorem u1239 : (Cond.methodLink "PaperPocketLaw" (89 : Nat) ({ cls := "PaperPocketModel", name := "odds", desc := "(III)I" } : MethodName)) ∈ jW := jW_t6 (i := 39) rfl rfl
set_option maxRecDepth 4000 in
theorem u1240 : (Cond.instanceMethod ({ cls := "PaperPocketModel", name := "odds", desc := "(III)I" } : MethodName)) ∈ jW := jW_t6 (i := 40) rfl rfl
set_option maxRecDepth 4000 in
theorem u1241 : (Cond.selects "PaperPocketModel" ({ cls := "PaperPocketModel", name := "odds", desc := "(III)I" } : MethodName) ({ cls := "PaperPocketModel", name := "odds", desc := "(III)I" } : MethodName)) ∈ jW := jW_t6 (i := 41) rfl rfl
set_option maxRecDepth 4000 in
theorem u1242 : (Cond.code ({ cls := "PaperPocketModel", name := "odds", desc := "(III)I" } : MethodName) prog_13_method_42_code (6 : Nat) (Option.some FieldType.int)) ∈ jW := jW_t6 (i := 42) rfl rfl
set_option maxRecDepth 4000 in
theorem u1243 : (Cond.methodLink "PaperPocketLaw" (93 : Nat) ({ cls := "PaperPocketModel", name := "part", desc := "(III)I" } : MethodName)) ∈ jW := jW_t6 (i := 43) rfl rfl
set_option maxRecDepth 4000 in
theorem u1244 : (Cond.instanceMethod ({ cls := "PaperPocketModel", name := "part", desc := "(III)I" } : MethodName)) ∈ jW := jW_t6 (i := 44) rfl rfl
set_option maxRecDepth 4000 in
theorem u1245 : (Cond.selects "PaperPocketModel" ({ cls := "PaperPocketModel", name := "part", desc := "(III)I" } : MethodName) ({ cls := "PaperPocketModel", name := "part", desc := "(III)I" } : MethodName)) ∈ jW := jW_t6 (i := 45) rfl rfl
set_option maxRecDepth 4000 in
theorem u1246 : (Cond.code ({ cls := "PaperPocketModel", name := "part", desc := "(III)I" } : MethodName) prog_13_method_44_code (4 : Nat) (Option.some FieldType.int)) ∈ jW := jW_t6 (i := 46) rfl rfl
set_option maxRecDepth 4000 in
theorem u1247 : (Cond.constantLong "PaperPocketModel" (195 : Nat) (256 : Int64)) ∈ jW := jW_t6 (i := 47) rfl rfl
set_option maxRecDepth 4000 in
theorem u1248 : (Cond.constantLong "PaperPocketModel" (197 : Nat) (6 : Int64)) ∈ jW := jW_t6 (i := 48) rfl rfl
set_option maxRecDepth 4000 in
theorem u1249 : (Cond.methodLink "PaperPocketModel" (199 : Nat) ({ cls := "PaperPocketModel", name := "partOf", desc := "(III)I" } : MethodName)) ∈ jW := jW_t6 (i := 49) rfl rfl
set_option maxRecDepth 4000 in
theorem u1250 : (Cond.static ({ cls := "PaperPocketModel", name := "partOf", desc := "(III)I" } : MethodName)) ∈ jW := jW_t6 (i := 50) rfl rfl
set_option maxRecDepth 4000 in
theorem u1251 : (Cond.code ({ cls := "PaperPocketModel", name := "partOf", desc := "(III)I" } : MethodName) prog_13_method_43_code (6 : Nat) (Option.some FieldType.int)) ∈ jW := jW_t6 (i := 51) rfl rfl
set_option maxRecDepth 4000 in
theorem u1252 : (Cond.methodLink "PaperPocketLaw" (97 : Nat) ({ cls := "PaperPocketModel", name := "friends", desc := "(IIII)I" } : MethodName)) ∈ jW := jW_t6 (i := 52) rfl rfl
set_option maxRecDepth 4000 in
theorem u1253 : (Cond.instanceMethod ({ cls := "PaperPocketModel", name := "friends", desc := "(IIII)I" } : MethodName)) ∈ jW := jW_t6 (i := 53) rfl rfl
set_option maxRecDepth 4000 in
theorem u1254 : (Cond.selects "PaperPocketModel" ({ cls := "PaperPocketModel", name := "friends", desc := "(IIII)I" } : MethodName) ({ cls := "PaperPocketModel", name := "friends", desc := "(IIII)I" } : MethodName)) ∈ jW := jW_t6 (i := 54) rfl rfl
set_option maxRecDepth 4000 in
theorem u1255 : (Cond.code ({ cls := "PaperPocketModel", name := "friends", desc := "(IIII)I" } : MethodName) prog_13_method_47_code (10 : Nat) (Option.some FieldType.int)) ∈ jW := jW_t6 (i := 55) rfl rfl
set_option maxRecDepth 4000 in
theorem u1256 : (Cond.methodLink "PaperPocketModel" (205 : Nat) ({ cls := "PaperPocketModel", name := "valueAt", desc := "(III)I" } : MethodName)) ∈ jW := jW_t6 (i := 56) rfl rfl
set_option maxRecDepth 4000 in
theorem u1258 : (Cond.instanceMethod ({ cls := "PaperPocketModel", name := "valueAt", desc := "(III)I" } : MethodName)) ∈ jW := jW_t6 (i := 58) rfl rfl
set_option maxRecDepth 4000 in
theorem u1259 : (Cond.code ({ cls := "PaperPocketModel", name := "valueAt", desc := "(III)I" } : MethodName) prog_13_method_46_code (9 : Nat) (Option.some FieldType.int)) ∈ jW := jW_t6 (i := 59) rfl rfl
set_option maxRecDepth 4000 in
theorem u1260 : (Cond.methodLink "PaperPocketModel" (202 : Nat) ({ cls := "PaperPocketModel", name := "turned", desc := "(I)I" } : MethodName)) ∈ jW := jW_t6 (i := 60) rfl rfl
set_option maxRecDepth 4000 in
theorem u1261 : (Cond.static ({ cls := "PaperPocketModel", name := "turned", desc := "(I)I" } : MethodName)) ∈ jW := jW_t6 (i := 61) rfl rfl
set_option maxRecDepth 4000 in
theorem u1262 : (Cond.code ({ cls := "PaperPocketModel", name := "turned", desc := "(I)I" } : MethodName) prog_13_method_45_code (2 : Nat) (Option.some FieldType.int)) ∈ jW := jW_t6 (i := 62) rfl rfl
set_option maxRecDepth 4000 in
theorem u1263 : (Cond.methodLink "PaperPocketLaw" (101 : Nat) ({ cls := "PaperPocketModel", name := "book", desc := "(II)I" } : MethodName)) ∈ jW := jW_t6 (i := 63) rfl rfl
set_option maxRecDepth 4000 in
theorem u1264 : (Cond.instanceMethod ({ cls := "PaperPocketModel", name := "book", desc := "(II)I" } : MethodName)) ∈ jW := jW_t6 (i := 64) rfl rfl
set_option maxRecDepth 4000 in
theorem u1265 : (Cond.selects "PaperPocketModel" ({ cls := "PaperPocketModel", name := "book", desc := "(II)I" } : MethodName) ({ cls := "PaperPocketModel", name := "book", desc := "(II)I" } : MethodName)) ∈ jW := jW_t6 (i := 65) rfl rfl
set_option maxRecDepth 4000 in
theorem u1266 : (Cond.code ({ cls := "PaperPocketModel", name := "book", desc := "(II)I" } : MethodName) prog_13_method_49_code (4 : Nat) (Option.some FieldType.int)) ∈ jW := jW_t6 (i := 66) rfl rfl
set_option maxRecDepth 4000 in
theorem u1267 : (Cond.methodLink "PaperPocketModel" (208 : Nat) ({ cls := "PaperPocketModel", name := "isDoor", desc := "(I)Z" } : MethodName)) ∈ jW := jW_t6 (i := 67) rfl rfl
set_option maxRecDepth 4000 in
theorem u1268 : (Cond.static ({ cls := "PaperPocketModel", name := "isDoor", desc := "(I)Z" } : MethodName)) ∈ jW := jW_t6 (i := 68) rfl rfl
set_option maxRecDepth 4000 in
theorem u1269 : (Cond.code ({ cls := "PaperPocketModel", name := "isDoor", desc := "(I)Z" } : MethodName) prog_13_method_48_code (1 : Nat) (Option.some FieldType.boolean)) ∈ jW := jW_t6 (i := 69) rfl rfl
set_option maxRecDepth 4000 in
theorem u1270 : (Cond.methodLink "PaperPocketLaw" (105 : Nat) ({ cls := "PaperPocketModel", name := "revoke", desc := "(II)I" } : MethodName)) ∈ jW := jW_t6 (i := 70) rfl rfl
set_option maxRecDepth 4000 in
theorem u1271 : (Cond.instanceMethod ({ cls := "PaperPocketModel", name := "revoke", desc := "(II)I" } : MethodName)) ∈ jW := jW_t6 (i := 71) rfl rfl
set_option maxRecDepth 4000 in
theorem u1272 : (Cond.selects "PaperPocketModel" ({ cls := "PaperPocketModel", name := "revoke", desc := "(II)I" } : MethodName) ({ cls := "PaperPocketModel", name := "revoke", desc := "(II)I" } : MethodName)) ∈ jW := jW_t6 (i := 72) rfl rfl
set_option maxRecDepth 4000 in
theorem u1273 : (Cond.code ({ cls := "PaperPocketModel", name := "revoke", desc := "(II)I" } : MethodName) prog_13_method_50_code (3 : Nat) (Option.some FieldType.int)) ∈ jW := jW_t6 (i := 73) rfl rfl
set_option maxRecDepth 4000 in
theorem u1274 : (Cond.methodLink "PaperPocketLaw" (109 : Nat) ({ cls := "PaperPocketModel", name := "holds", desc := "(III)I" } : MethodName)) ∈ jW := jW_t6 (i := 74) rfl rfl
set_option maxRecDepth 4000 in
theorem u1275 : (Cond.instanceMethod ({ cls := "PaperPocketModel", name := "holds", desc := "(III)I" } : MethodName)) ∈ jW := jW_t6 (i := 75) rfl rfl
set_option maxRecDepth 4000 in
theorem u1276 : (Cond.selects "PaperPocketModel" ({ cls := "PaperPocketModel", name := "holds", desc := "(III)I" } : MethodName) ({ cls := "PaperPocketModel", name := "holds", desc := "(III)I" } : MethodName)) ∈ jW := jW_t6 (i := 76) rfl rfl
set_option maxRecDepth 4000 in
theorem u1277 : (Cond.code ({ cls := "PaperPocketModel", name := "holds", desc := "(III)I" } : MethodName) prog_13_method_53_code (4 : Nat) (Option.some FieldType.int)) ∈ jW := jW_t6 (i := 77) rfl rfl
set_option maxRecDepth 4000 in
theorem u1278 : (Cond.methodLink "PaperPocketModel" (215 : Nat) ({ cls := "PaperPocketModel", name := "holdsAt", desc := "(III)I" } : MethodName)) ∈ jW := jW_t6 (i := 78) rfl rfl
set_option maxRecDepth 4000 in
theorem u1280 : (Cond.instanceMethod ({ cls := "PaperPocketModel", name := "holdsAt", desc := "(III)I" } : MethodName)) ∈ jW := jW_t6 (i := 80) rfl rfl
set_option maxRecDepth 4000 in
theorem u1281 : (Cond.code ({ cls := "PaperPocketModel", name := "holdsAt", desc := "(III)I" } : MethodName) prog_13_method_52_code (7 : Nat) (Option.some FieldType.int)) ∈ jW := jW_t6 (i := 81) rfl rfl
set_option maxRecDepth 4000 in
theorem u1282 : (Cond.methodLink "PaperPocketModel" (211 : Nat) ({ cls := "PaperPocketModel", name := "isKnown", desc := "(II)Z" } : MethodName)) ∈ jW := jW_t6 (i := 82) rfl rfl
set_option maxRecDepth 4000 in
theorem u1283 : (Cond.static ({ cls := "PaperPocketModel", name := "isKnown", desc := "(II)Z" } : MethodName)) ∈ jW := jW_t6 (i := 83) rfl rfl
set_option maxRecDepth 4000 in
theorem u1284 : (Cond.code ({ cls := "PaperPocketModel", name := "isKnown", desc := "(II)Z" } : MethodName) prog_13_method_51_code (2 : Nat) (Option.some FieldType.boolean)) ∈ jW := jW_t6 (i := 84) rfl rfl
set_option maxRecDepth 4000 in
theorem u1285 : (Cond.methodLink "PaperPocketLaw" (116 : Nat) ({ cls := "PaperPocketModel", name := "feed", desc := "(JI)I" } : MethodName)) ∈ jW := jW_t6 (i := 85) rfl rfl
set_option maxRecDepth 4000 in
theorem u1286 : (Cond.instanceMethod ({ cls := "PaperPocketModel", name := "feed", desc := "(JI)I" } : MethodName)) ∈ jW := jW_t6 (i := 86) rfl rfl
set_option maxRecDepth 4000 in
theorem u1287 : (Cond.selects "PaperPocketModel" ({ cls := "PaperPocketModel", name := "feed", desc := "(JI)I" } : MethodName) ({ cls := "PaperPocketModel", name := "feed", desc := "(JI)I" } : MethodName)) ∈ jW := jW_t6 (i := 87) rfl rfl
set_option maxRecDepth 4000 in
theorem u1288 : (Cond.code ({ cls := "PaperPocketModel", name := "feed", desc := "(JI)I" } : MethodName) prog_13_method_54_code (5 : Nat) (Option.some FieldType.int)) ∈ jW := jW_t6 (i := 88) rfl rfl
set_option maxRecDepth 4000 in
theorem u1289 : (Cond.constantLong "PaperPocketModel" (218 : Nat) (8 : Int64)) ∈ jW := jW_t6 (i := 89) rfl rfl
set_option maxRecDepth 4000 in
theorem u1290 : (Cond.constantLong "PaperPocketModel" (223 : Nat) (255 : Int64)) ∈ jW := jW_t6 (i := 90) rfl rfl
set_option maxRecDepth 4000 in
theorem u1291 : (Cond.methodLink "PaperPocketLaw" (121 : Nat) ({ cls := "PaperPocketModel", name := "doors", desc := "()I" } : MethodName)) ∈ jW := jW_t6 (i := 91) rfl rfl
set_option maxRecDepth 4000 in
theorem u1292 : (Cond.instanceMethod ({ cls := "PaperPocketModel", name := "doors", desc := "()I" } : MethodName)) ∈ jW := jW_t6 (i := 92) rfl rfl
set_option maxRecDepth 4000 in
theorem u1293 : (Cond.selects "PaperPocketModel" ({ cls := "PaperPocketModel", name := "doors", desc := "()I" } : MethodName) ({ cls := "PaperPocketModel", name := "doors", desc := "()I" } : MethodName)) ∈ jW := jW_t6 (i := 93) rfl rfl
set_option maxRecDepth 4000 in
theorem u1294 : (Cond.code ({ cls := "PaperPocketModel", name := "doors", desc := "()I" } : MethodName) prog_13_method_67_code (1 : Nat) (Option.some FieldType.int)) ∈ jW := jW_t6 (i := 94) rfl rfl
set_option maxRecDepth 4000 in
theorem u1295 : (Cond.methodLink "PaperPocketModel" (300 : Nat) ({ cls := "PaperPocketModel", name := "readAll", desc := "()V" } : MethodName)) ∈ jW := jW_t6 (i := 95) rfl rfl
set_option maxRecDepth 4000 in
theorem u1297 : (Cond.instanceMethod ({ cls := "PaperPocketModel", name := "readAll", desc := "()V" } : MethodName)) ∈ jW := jW_t6 (i := 97) rfl rfl
set_option maxRecDepth 4000 in
theorem u1298 : (Cond.code ({ cls := "PaperPocketModel", name := "readAll", desc := "()V" } : MethodName) prog_13_method_66_code (3 : Nat) (Option.none : Option ClassFile.FieldType)) ∈ jW := jW_t6 (i := 98) rfl rfl
set_option maxRecDepth 4000 in
theorem u1299 : (Cond.methodLink "PaperPocketModel" (259 : Nat) ({ cls := "PaperPocketModel", name := "step", desc := "()V" } : MethodName)) ∈ jW := jW_t6 (i := 99) rfl rfl
set_option maxRecDepth 4000 in
theorem u1301 : (Cond.instanceMethod ({ cls := "PaperPocketModel", name := "step", desc := "()V" } : MethodName)) ∈ jW := jW_t6 (i := 101) rfl rfl
set_option maxRecDepth 4000 in
theorem u1302 : (Cond.code ({ cls := "PaperPocketModel", name := "step", desc := "()V" } : MethodName) prog_13_method_58_code (2 : Nat) (Option.none : Option ClassFile.FieldType)) ∈ jW := jW_t6 (i := 102) rfl rfl
set_option maxRecDepth 4000 in
theorem u1303 : (Cond.methodLink "PaperPocketModel" (231 : Nat) ({ cls := "PaperPocketModel", name := "byteAt", desc := "(I)I" } : MethodName)) ∈ jW := jW_t6 (i := 103) rfl rfl
set_option maxRecDepth 4000 in
theorem u1305 : (Cond.instanceMethod ({ cls := "PaperPocketModel", name := "byteAt", desc := "(I)I" } : MethodName)) ∈ jW := jW_t6 (i := 105) rfl rfl
set_option maxRecDepth 4000 in
theorem u1306 : (Cond.code ({ cls := "PaperPocketModel", name := "byteAt", desc := "(I)I" } : MethodName) prog_13_method_55_code (2 : Nat) (Option.some FieldType.int)) ∈ jW := jW_t6 (i := 106) rfl rfl
set_option maxRecDepth 4000 in
theorem u1307 : (Cond.methodLink "PaperPocketModel" (240 : Nat) ({ cls := "PaperPocketModel", name := "isLetter", desc := "(I)Z" } : MethodName)) ∈ jW := jW_t6 (i := 107) rfl rfl
set_option maxRecDepth 4000 in
theorem u1308 : (Cond.static ({ cls := "PaperPocketModel", name := "isLetter", desc := "(I)Z" } : MethodName)) ∈ jW := jW_t6 (i := 108) rfl rfl
set_option maxRecDepth 4000 in
theorem u1309 : (Cond.code ({ cls := "PaperPocketModel", name := "isLetter", desc := "(I)Z" } : MethodName) prog_13_method_56_code (1 : Nat) (Option.some FieldType.boolean)) ∈ jW := jW_t6 (i := 109) rfl rfl
set_option maxRecDepth 4000 in
theorem u1310 : (Cond.methodLink "PaperPocketModel" (243 : Nat) ({ cls := "PaperPocketModel", name := "isFigure", desc := "(I)Z" } : MethodName)) ∈ jW := jW_t6 (i := 110) rfl rfl
set_option maxRecDepth 4000 in
theorem u1311 : (Cond.static ({ cls := "PaperPocketModel", name := "isFigure", desc := "(I)Z" } : MethodName)) ∈ jW := jW_t6 (i := 111) rfl rfl
set_option maxRecDepth 4000 in
theorem u1312 : (Cond.code ({ cls := "PaperPocketModel", name := "isFigure", desc := "(I)Z" } : MethodName) prog_13_method_57_code (1 : Nat) (Option.some FieldType.boolean)) ∈ jW := jW_t6 (i := 112) rfl rfl
set_option maxRecDepth 4000 in
theorem u1313 : (Cond.methodLink "PaperPocketModel" (266 : Nat) ({ cls := "PaperPocketModel", name := "word", desc := "()J" } : MethodName)) ∈ jW := jW_t6 (i := 113) rfl rfl
set_option maxRecDepth 4000 in
theorem u1315 : (Cond.instanceMethod ({ cls := "PaperPocketModel", name := "word", desc := "()J" } : MethodName)) ∈ jW := jW_t6 (i := 115) rfl rfl
set_option maxRecDepth 4000 in
theorem u1316 : (Cond.code ({ cls := "PaperPocketModel", name := "word", desc := "()J" } : MethodName) prog_13_method_61_code (4 : Nat) (Option.some FieldType.long)) ∈ jW := jW_t6 (i := 116) rfl rfl
set_option maxRecDepth 4000 in
theorem u1317 : (Cond.constantLong "PaperPocketModel" (290 : Nat) (1685024626 : Int64)) ∈ jW := jW_t6 (i := 117) rfl rfl
set_option maxRecDepth 4000 in
theorem u1318 : (Cond.constantLong "PaperPocketModel" (292 : Nat) (491394656372 : Int64)) ∈ jW := jW_t6 (i := 118) rfl rfl
set_option maxRecDepth 4000 in
theorem u1319 : (Cond.methodLink "PaperPocketModel" (262 : Nat) ({ cls := "PaperPocketModel", name := "must", desc := "(Z)V" } : MethodName)) ∈ jW := jW_t6 (i := 119) rfl rfl
set_option maxRecDepth 4000 in
theorem u1321 : (Cond.instanceMethod ({ cls := "PaperPocketModel", name := "must", desc := "(Z)V" } : MethodName)) ∈ jW := jW_t6 (i := 121) rfl rfl
set_option maxRecDepth 4000 in
theorem u1322 : (Cond.code ({ cls := "PaperPocketModel", name := "must", desc := "(Z)V" } : MethodName) prog_13_method_60_code (2 : Nat) (Option.none : Option ClassFile.FieldType)) ∈ jW := jW_t6 (i := 122) rfl rfl
set_option maxRecDepth 4000 in
theorem u1323 : (Cond.methodLink "PaperPocketModel" (255 : Nat) ({ cls := "PaperPocketModel", name := "bad", desc := "(I)V" } : MethodName)) ∈ jW := jW_t6 (i := 123) rfl rfl
set_option maxRecDepth 4000 in
theorem u1325 : (Cond.instanceMethod ({ cls := "PaperPocketModel", name := "bad", desc := "(I)V" } : MethodName)) ∈ jW := jW_t6 (i := 125) rfl rfl
set_option maxRecDepth 4000 in
theorem u1326 : (Cond.code ({ cls := "PaperPocketModel", name := "bad", desc := "(I)V" } : MethodName) prog_13_method_59_code (2 : Nat) (Option.none : Option ClassFile.FieldType)) ∈ jW := jW_t6 (i := 126) rfl rfl
set_option maxRecDepth 4000 in
theorem u1327 : (Cond.methodLink "PaperPocketModel" (294 : Nat) ({ cls := "PaperPocketModel", name := "readDoor", desc := "()V" } : MethodName)) ∈ jW := jW_t6 (i := 127) rfl rfl
set_option maxRecDepth 4000 in
theorem u1329 : (Cond.instanceMethod ({ cls := "PaperPocketModel", name := "readDoor", desc := "()V" } : MethodName)) ∈ jW := jW_t6 (i := 129) rfl rfl
set_option maxRecDepth 4000 in
theorem u1330 : (Cond.code ({ cls := "PaperPocketModel", name := "readDoor", desc := "()V" } : MethodName) prog_13_method_64_code (6 : Nat) (Option.none : Option ClassFile.FieldType)) ∈ jW := jW_t6 (i := 130) rfl rfl
set_option maxRecDepth 4000 in
theorem u1331 : (Cond.methodLink "PaperPocketModel" (276 : Nat) ({ cls := "PaperPocketModel", name := "numberTo", desc := "(I)I" } : MethodName)) ∈ jW := jW_t6 (i := 131) rfl rfl
set_option maxRecDepth 4000 in
theorem u1333 : (Cond.instanceMethod ({ cls := "PaperPocketModel", name := "numberTo", desc := "(I)I" } : MethodName)) ∈ jW := jW_t6 (i := 133) rfl rfl
set_option maxRecDepth 4000 in
theorem u1334 : (Cond.code ({ cls := "PaperPocketModel", name := "numberTo", desc := "(I)I" } : MethodName) prog_13_method_62_code (4 : Nat) (Option.some FieldType.int)) ∈ jW := jW_t6 (i := 134) rfl rfl
set_option maxRecDepth 4000 in
theorem u1335 : (Cond.methodLink "PaperPocketModel" (279 : Nat) ({ cls := "PaperPocketModel", name := "askOfWord", desc := "()I" } : MethodName)) ∈ jW := jW_t6 (i := 135) rfl rfl
set_option maxRecDepth 4000 in
theorem u1337 : (Cond.instanceMethod ({ cls := "PaperPocketModel", name := "askOfWord", desc := "()I" } : MethodName)) ∈ jW := jW_t6 (i := 137) rfl rfl
set_option maxRecDepth 4000 in
theorem u1338 : (Cond.code ({ cls := "PaperPocketModel", name := "askOfWord", desc := "()I" } : MethodName) prog_13_method_63_code (3 : Nat) (Option.some FieldType.int)) ∈ jW := jW_t6 (i := 138) rfl rfl
set_option maxRecDepth 4000 in
theorem u1339 : (Cond.constantLong "PaperPocketModel" (270 : Nat) (1718775661 : Int64)) ∈ jW := jW_t6 (i := 139) rfl rfl
set_option maxRecDepth 4000 in
theorem u1340 : (Cond.constantLong "PaperPocketModel" (272 : Nat) (439854918756 : Int64)) ∈ jW := jW_t6 (i := 140) rfl rfl
set_option maxRecDepth 4000 in
theorem u1341 : (Cond.constantLong "PaperPocketModel" (274 : Nat) (1870030194 : Int64)) ∈ jW := jW_t6 (i := 141) rfl rfl
set_option maxRecDepth 4000 in
theorem u1342 : (Cond.methodLink "PaperPocketModel" (297 : Nat) ({ cls := "PaperPocketModel", name := "readRight", desc := "()V" } : MethodName)) ∈ jW := jW_t6 (i := 142) rfl rfl
set_option maxRecDepth 4000 in
theorem u1344 : (Cond.instanceMethod ({ cls := "PaperPocketModel", name := "readRight", desc := "()V" } : MethodName)) ∈ jW := jW_t6 (i := 144) rfl rfl
set_option maxRecDepth 4000 in
theorem u1345 : (Cond.code ({ cls := "PaperPocketModel", name := "readRight", desc := "()V" } : MethodName) prog_13_method_65_code (3 : Nat) (Option.none : Option ClassFile.FieldType)) ∈ jW := jW_t6 (i := 145) rfl rfl
set_option maxRecDepth 4000 in
theorem u1346 : (Cond.constant "PaperPocketModel" (306 : Nat) (-1000100 : Int32)) ∈ jW := jW_t6 (i := 146) rfl rfl
set_option maxRecDepth 4000 in
theorem u1347 : (Cond.methodLink "PaperPocketLaw" (125 : Nat) ({ cls := "PaperPocketModel", name := "fault", desc := "()I" } : MethodName)) ∈ jW := jW_t6 (i := 147) rfl rfl
set_option maxRecDepth 4000 in
theorem u1348 : (Cond.instanceMethod ({ cls := "PaperPocketModel", name := "fault", desc := "()I" } : MethodName)) ∈ jW := jW_t6 (i := 148) rfl rfl
set_option maxRecDepth 4000 in
theorem u1349 : (Cond.selects "PaperPocketModel" ({ cls := "PaperPocketModel", name := "fault", desc := "()I" } : MethodName) ({ cls := "PaperPocketModel", name := "fault", desc := "()I" } : MethodName)) ∈ jW := jW_t6 (i := 149) rfl rfl
set_option maxRecDepth 4000 in
theorem u1350 : (Cond.code ({ cls := "PaperPocketModel", name := "fault", desc := "()I" } : MethodName) prog_13_method_68_code (1 : Nat) (Option.some FieldType.int)) ∈ jW := jW_t6 (i := 150) rfl rfl
set_option maxRecDepth 4000 in
theorem u1351 : (Cond.methodLink "PaperPocketLaw" (129 : Nat) ({ cls := "PaperPocketModel", name := "door", desc := "(II)I" } : MethodName)) ∈ jW := jW_t6 (i := 151) rfl rfl
set_option maxRecDepth 4000 in
theorem u1352 : (Cond.instanceMethod ({ cls := "PaperPocketModel", name := "door", desc := "(II)I" } : MethodName)) ∈ jW := jW_t6 (i := 152) rfl rfl
set_option maxRecDepth 4000 in
theorem u1353 : (Cond.selects "PaperPocketModel" ({ cls := "PaperPocketModel", name := "door", desc := "(II)I" } : MethodName) ({ cls := "PaperPocketModel", name := "door", desc := "(II)I" } : MethodName)) ∈ jW := jW_t6 (i := 153) rfl rfl
set_option maxRecDepth 4000 in
theorem u1354 : (Cond.code ({ cls := "PaperPocketModel", name := "door", desc := "(II)I" } : MethodName) prog_13_method_70_code (3 : Nat) (Option.some FieldType.int)) ∈ jW := jW_t6 (i := 154) rfl rfl
set_option maxRecDepth 4000 in
theorem u1355 : (Cond.methodLink "PaperPocketModel" (307 : Nat) ({ cls := "PaperPocketModel", name := "asksTooMuch", desc := "(I)Z" } : MethodName)) ∈ jW := jW_t6 (i := 155) rfl rfl
set_option maxRecDepth 4000 in
theorem u1357 : (Cond.instanceMethod ({ cls := "PaperPocketModel", name := "asksTooMuch", desc := "(I)Z" } : MethodName)) ∈ jW := jW_t6 (i := 157) rfl rfl
set_option maxRecDepth 4000 in
theorem u1358 : (Cond.code ({ cls := "PaperPocketModel", name := "asksTooMuch", desc := "(I)Z" } : MethodName) prog_13_method_69_code (4 : Nat) (Option.some FieldType.boolean)) ∈ jW := jW_t6 (i := 158) rfl rfl
set_option maxRecDepth 4000 in
theorem u1359 : (Cond.methodLink "PaperPocketLaw" (133 : Nat) ({ cls := "PaperPocketModel", name := "least", desc := "(IIII)I" } : MethodName)) ∈ jW := jW_t6 (i := 159) rfl rfl
set_option maxRecDepth 4000 in
theorem u1360 : (Cond.instanceMethod ({ cls := "PaperPocketModel", name := "least", desc := "(IIII)I" } : MethodName)) ∈ jW := jW_t6 (i := 160) rfl rfl
set_option maxRecDepth 4000 in
theorem u1361 : (Cond.selects "PaperPocketModel" ({ cls := "PaperPocketModel", name := "least", desc := "(IIII)I" } : MethodName) ({ cls := "PaperPocketModel", name := "least", desc := "(IIII)I" } : MethodName)) ∈ jW := jW_t6 (i := 161) rfl rfl
set_option maxRecDepth 4000 in
theorem u1362 : (Cond.code ({ cls := "PaperPocketModel", name := "least", desc := "(IIII)I" } : MethodName) prog_13_method_73_code (12 : Nat) (Option.some FieldType.int)) ∈ jW := jW_t6 (i := 162) rfl rfl
set_option maxRecDepth 4000 in
theorem u1363 : (Cond.methodLink "PaperPocketModel" (310 : Nat) ({ cls := "PaperPocketModel", name := "fitsOf", desc := "(II)I" } : MethodName)) ∈ jW := jW_t6 (i := 163) rfl rfl
set_option maxRecDepth 4000 in
theorem u1365 : (Cond.instanceMethod ({ cls := "PaperPocketModel", name := "fitsOf", desc := "(II)I" } : MethodName)) ∈ jW := jW_t6 (i := 165) rfl rfl
set_option maxRecDepth 4000 in
theorem u1366 : (Cond.code ({ cls := "PaperPocketModel", name := "fitsOf", desc := "(II)I" } : MethodName) prog_13_method_71_code (7 : Nat) (Option.some FieldType.int)) ∈ jW := jW_t6 (i := 166) rfl rfl
set_option maxRecDepth 4000 in
theorem u1367 : (Cond.methodLink "PaperPocketModel" (313 : Nat) ({ cls := "PaperPocketModel", name := "bits", desc := "(I)I" } : MethodName)) ∈ jW := jW_t6 (i := 167) rfl rfl
set_option maxRecDepth 4000 in
theorem u1368 : (Cond.static ({ cls := "PaperPocketModel", name := "bits", desc := "(I)I" } : MethodName)) ∈ jW := jW_t6 (i := 168) rfl rfl
set_option maxRecDepth 4000 in
theorem u1369 : (Cond.code ({ cls := "PaperPocketModel", name := "bits", desc := "(I)I" } : MethodName) prog_13_method_72_code (3 : Nat) (Option.some FieldType.int)) ∈ jW := jW_t6 (i := 169) rfl rfl
set_option maxRecDepth 4000 in
theorem u1370 : (Cond.methodLink "PaperPocketLaw" (137 : Nat) ({ cls := "PaperPocketModel", name := "seen", desc := "(III)I" } : MethodName)) ∈ jW := jW_t6 (i := 170) rfl rfl
set_option maxRecDepth 4000 in
theorem u1371 : (Cond.instanceMethod ({ cls := "PaperPocketModel", name := "seen", desc := "(III)I" } : MethodName)) ∈ jW := jW_t6 (i := 171) rfl rfl
set_option maxRecDepth 4000 in
theorem u1372 : (Cond.selects "PaperPocketModel" ({ cls := "PaperPocketModel", name := "seen", desc := "(III)I" } : MethodName) ({ cls := "PaperPocketModel", name := "seen", desc := "(III)I" } : MethodName)) ∈ jW := jW_t6 (i := 172) rfl rfl
set_option maxRecDepth 4000 in
theorem u1373 : (Cond.code ({ cls := "PaperPocketModel", name := "seen", desc := "(III)I" } : MethodName) prog_13_method_74_code (4 : Nat) (Option.some FieldType.int)) ∈ jW := jW_t6 (i := 173) rfl rfl
set_option maxRecDepth 4000 in
theorem u1374 : (Cond.methodLink "PaperPocketLaw" (141 : Nat) ({ cls := "PaperPocketModel", name := "together", desc := "(I)I" } : MethodName)) ∈ jW := jW_t6 (i := 174) rfl rfl
set_option maxRecDepth 4000 in
theorem u1375 : (Cond.instanceMethod ({ cls := "PaperPocketModel", name := "together", desc := "(I)I" } : MethodName)) ∈ jW := jW_t6 (i := 175) rfl rfl
set_option maxRecDepth 4000 in
theorem u1376 : (Cond.selects "PaperPocketModel" ({ cls := "PaperPocketModel", name := "together", desc := "(I)I" } : MethodName) ({ cls := "PaperPocketModel", name := "together", desc := "(I)I" } : MethodName)) ∈ jW := jW_t6 (i := 176) rfl rfl
set_option maxRecDepth 4000 in
theorem u1377 : (Cond.code ({ cls := "PaperPocketModel", name := "together", desc := "(I)I" } : MethodName) prog_13_method_76_code (4 : Nat) (Option.some FieldType.int)) ∈ jW := jW_t6 (i := 177) rfl rfl
set_option maxRecDepth 4000 in
theorem u1378 : (Cond.methodLink "PaperPocketModel" (319 : Nat) ({ cls := "PaperPocketModel", name := "couldOf", desc := "(I)I" } : MethodName)) ∈ jW := jW_t6 (i := 178) rfl rfl
set_option maxRecDepth 4000 in
theorem u1380 : (Cond.instanceMethod ({ cls := "PaperPocketModel", name := "couldOf", desc := "(I)I" } : MethodName)) ∈ jW := jW_t6 (i := 180) rfl rfl
set_option maxRecDepth 4000 in
theorem u1381 : (Cond.code ({ cls := "PaperPocketModel", name := "couldOf", desc := "(I)I" } : MethodName) prog_13_method_75_code (6 : Nat) (Option.some FieldType.int)) ∈ jW := jW_t6 (i := 181) rfl rfl
set_option maxRecDepth 4000 in
theorem u1382 : (Cond.methodLink "PaperPocketLaw" (145 : Nat) ({ cls := "PaperPocketModel", name := "queue", desc := "(IIII)I" } : MethodName)) ∈ jW := jW_t6 (i := 182) rfl rfl
set_option maxRecDepth 4000 in
theorem u1383 : (Cond.instanceMethod ({ cls := "PaperPocketModel", name := "queue", desc := "(IIII)I" } : MethodName)) ∈ jW := jW_t6 (i := 183) rfl rfl
set_option maxRecDepth 4000 in
theorem u1384 : (Cond.selects "PaperPocketModel" ({ cls := "PaperPocketModel", name := "queue", desc := "(IIII)I" } : MethodName) ({ cls := "PaperPocketModel", name := "queue", desc := "(IIII)I" } : MethodName)) ∈ jW := jW_t6 (i := 184) rfl rfl
set_option maxRecDepth 4000 in
theorem u1385 : (Cond.code ({ cls := "PaperPocketModel", name := "queue", desc := "(IIII)I" } : MethodName) prog_13_method_79_code (11 : Nat) (Option.some FieldType.int)) ∈ jW := jW_t6 (i := 185) rfl rfl
set_option maxRecDepth 4000 in
theorem u1386 : (Cond.constantLong "PaperPocketModel" (322 : Nat) (-1 : Int64)) ∈ jW := jW_t6 (i := 186) rfl rfl
set_option maxRecDepth 4000 in
theorem u1387 : (Cond.constantLong "PaperPocketModel" (324 : Nat) (99 : Int64)) ∈ jW := jW_t6 (i := 187) rfl rfl
set_option maxRecDepth 4000 in
theorem u1388 : (Cond.methodLink "PaperPocketModel" (326 : Nat) ({ cls := "PaperPocketModel", name := "waitsOf", desc := "(II)I" } : MethodName)) ∈ jW := jW_t6 (i := 188) rfl rfl
set_option maxRecDepth 4000 in
theorem u1390 : (Cond.instanceMethod ({ cls := "PaperPocketModel", name := "waitsOf", desc := "(II)I" } : MethodName)) ∈ jW := jW_t6 (i := 190) rfl rfl
set_option maxRecDepth 4000 in
theorem u1391 : (Cond.code ({ cls := "PaperPocketModel", name := "waitsOf", desc := "(II)I" } : MethodName) prog_13_method_77_code (8 : Nat) (Option.some FieldType.int)) ∈ jW := jW_t6 (i := 191) rfl rfl
set_option maxRecDepth 4000 in
theorem u1392 : (Cond.methodLink "PaperPocketModel" (329 : Nat) ({ cls := "PaperPocketModel", name := "nextOrder", desc := "(I)Z" } : MethodName)) ∈ jW := jW_t6 (i := 192) rfl rfl
set_option maxRecDepth 4000 in
theorem u1394 : (Cond.instanceMethod ({ cls := "PaperPocketModel", name := "nextOrder", desc := "(I)Z" } : MethodName)) ∈ jW := jW_t6 (i := 194) rfl rfl
set_option maxRecDepth 4000 in
theorem u1395 : (Cond.code ({ cls := "PaperPocketModel", name := "nextOrder", desc := "(I)Z" } : MethodName) prog_13_method_78_code (7 : Nat) (Option.some FieldType.boolean)) ∈ jW := jW_t6 (i := 195) rfl rfl
set_option maxRecDepth 4000 in
theorem u1396 : (Cond.methodLink "PaperPocketLaw" (149 : Nat) ({ cls := "PaperPocketModel", name := "day", desc := "(I)I" } : MethodName)) ∈ jW := jW_t6 (i := 196) rfl rfl
set_option maxRecDepth 4000 in
theorem u1397 : (Cond.instanceMethod ({ cls := "PaperPocketModel", name := "day", desc := "(I)I" } : MethodName)) ∈ jW := jW_t6 (i := 197) rfl rfl
set_option maxRecDepth 4000 in
theorem u1398 : (Cond.selects "PaperPocketModel" ({ cls := "PaperPocketModel", name := "day", desc := "(I)I" } : MethodName) ({ cls := "PaperPocketModel", name := "day", desc := "(I)I" } : MethodName)) ∈ jW := jW_t6 (i := 198) rfl rfl
set_option maxRecDepth 4000 in
theorem u1399 : (Cond.code ({ cls := "PaperPocketModel", name := "day", desc := "(I)I" } : MethodName) prog_13_method_80_code (3 : Nat) (Option.some FieldType.int)) ∈ jW := jW_t6 (i := 199) rfl rfl
set_option maxRecDepth 4000 in
theorem u1400 : (Cond.methodLink "PaperPocketLaw" (153 : Nat) ({ cls := "PaperPocketModel", name := "kind", desc := "(I)I" } : MethodName)) ∈ jW := jW_t6 (i := 200) rfl rfl
set_option maxRecDepth 4000 in
theorem u1401 : (Cond.instanceMethod ({ cls := "PaperPocketModel", name := "kind", desc := "(I)I" } : MethodName)) ∈ jW := jW_t6 (i := 201) rfl rfl
set_option maxRecDepth 4000 in
theorem u1402 : (Cond.selects "PaperPocketModel" ({ cls := "PaperPocketModel", name := "kind", desc := "(I)I" } : MethodName) ({ cls := "PaperPocketModel", name := "kind", desc := "(I)I" } : MethodName)) ∈ jW := jW_t6 (i := 202) rfl rfl
set_option maxRecDepth 4000 in
theorem u1403 : (Cond.code ({ cls := "PaperPocketModel", name := "kind", desc := "(I)I" } : MethodName) prog_13_method_83_code (2 : Nat) (Option.some FieldType.int)) ∈ jW := jW_t6 (i := 203) rfl rfl
set_option maxRecDepth 4000 in
theorem u1404 : (Cond.methodLink "PaperPocketModel" (335 : Nat) ({ cls := "PaperPocketModel", name := "kindOf", desc := "(I)I" } : MethodName)) ∈ jW := jW_t6 (i := 204) rfl rfl
set_option maxRecDepth 4000 in
theorem u1406 : (Cond.instanceMethod ({ cls := "PaperPocketModel", name := "kindOf", desc := "(I)I" } : MethodName)) ∈ jW := jW_t6 (i := 206) rfl rfl
set_option maxRecDepth 4000 in
theorem u1407 : (Cond.code ({ cls := "PaperPocketModel", name := "kindOf", desc := "(I)I" } : MethodName) prog_13_method_81_code (3 : Nat) (Option.some FieldType.int)) ∈ jW := jW_t6 (i := 207) rfl rfl
set_option maxRecDepth 4000 in
theorem u1408 : (Cond.methodLink "PaperPocketLaw" (157 : Nat) ({ cls := "PaperPocketModel", name := "as", desc := "(II)I" } : MethodName)) ∈ jW := jW_t6 (i := 208) rfl rfl
set_option maxRecDepth 4000 in
theorem u1409 : (Cond.instanceMethod ({ cls := "PaperPocketModel", name := "as", desc := "(II)I" } : MethodName)) ∈ jW := jW_t6 (i := 209) rfl rfl
set_option maxRecDepth 4000 in
theorem u1410 : (Cond.selects "PaperPocketModel" ({ cls := "PaperPocketModel", name := "as", desc := "(II)I" } : MethodName) ({ cls := "PaperPocketModel", name := "as", desc := "(II)I" } : MethodName)) ∈ jW := jW_t6 (i := 210) rfl rfl
set_option maxRecDepth 4000 in
theorem u1411 : (Cond.code ({ cls := "PaperPocketModel", name := "as", desc := "(II)I" } : MethodName) prog_13_method_84_code (3 : Nat) (Option.some FieldType.int)) ∈ jW := jW_t6 (i := 211) rfl rfl
set_option maxRecDepth 4000 in
theorem u1412 : (Cond.methodLink "PaperPocketModel" (338 : Nat) ({ cls := "PaperPocketModel", name := "isOf", desc := "(II)Z" } : MethodName)) ∈ jW := jW_t6 (i := 212) rfl rfl
set_option maxRecDepth 4000 in
theorem u1413 : (Cond.static ({ cls := "PaperPocketModel", name := "isOf", desc := "(II)Z" } : MethodName)) ∈ jW := jW_t6 (i := 213) rfl rfl
set_option maxRecDepth 4000 in
theorem u1414 : (Cond.code ({ cls := "PaperPocketModel", name := "isOf", desc := "(II)Z" } : MethodName) prog_13_method_82_code (2 : Nat) (Option.some FieldType.boolean)) ∈ jW := jW_t6 (i := 214) rfl rfl
set_option maxRecDepth 4000 in
theorem u1415 : (Cond.methodLink "PaperPocketLaw" (161 : Nat) ({ cls := "PaperPocketModel", name := "ask", desc := "(II)I" } : MethodName)) ∈ jW := jW_t6 (i := 215) rfl rfl
set_option maxRecDepth 4000 in
theorem u1416 : (Cond.instanceMethod ({ cls := "PaperPocketModel", name := "ask", desc := "(II)I" } : MethodName)) ∈ jW := jW_t6 (i := 216) rfl rfl
set_option maxRecDepth 4000 in
theorem u1417 : (Cond.selects "PaperPocketModel" ({ cls := "PaperPocketModel", name := "ask", desc := "(II)I" } : MethodName) ({ cls := "PaperPocketModel", name := "ask", desc := "(II)I" } : MethodName)) ∈ jW := jW_t6 (i := 217) rfl rfl
set_option maxRecDepth 4000 in
theorem u1418 : (Cond.code ({ cls := "PaperPocketModel", name := "ask", desc := "(II)I" } : MethodName) prog_13_method_90_code (3 : Nat) (Option.some FieldType.int)) ∈ jW := jW_t6 (i := 218) rfl rfl
set_option maxRecDepth 4000 in
theorem u1419 : (Cond.methodLink "PaperPocketModel" (356 : Nat) ({ cls := "PaperPocketModel", name := "sizeOf", desc := "(II)I" } : MethodName)) ∈ jW := jW_t6 (i := 219) rfl rfl
set_option maxRecDepth 4000 in
theorem u1421 : (Cond.instanceMethod ({ cls := "PaperPocketModel", name := "sizeOf", desc := "(II)I" } : MethodName)) ∈ jW := jW_t6 (i := 221) rfl rfl
set_option maxRecDepth 4000 in
theorem u1422 : (Cond.code ({ cls := "PaperPocketModel", name := "sizeOf", desc := "(II)I" } : MethodName) prog_13_method_89_code (4 : Nat) (Option.some FieldType.int)) ∈ jW := jW_t6 (i := 222) rfl rfl
set_option maxRecDepth 4000 in
theorem u1423 : (Cond.methodLink "PaperPocketModel" (350 : Nat) ({ cls := "PaperPocketModel", name := "stampSize", desc := "(II)I" } : MethodName)) ∈ jW := jW_t6 (i := 223) rfl rfl
set_option maxRecDepth 4000 in
theorem u1425 : (Cond.instanceMethod ({ cls := "PaperPocketModel", name := "stampSize", desc := "(II)I" } : MethodName)) ∈ jW := jW_t6 (i := 225) rfl rfl
set_option maxRecDepth 4000 in
theorem u1426 : (Cond.code ({ cls := "PaperPocketModel", name := "stampSize", desc := "(II)I" } : MethodName) prog_13_method_87_code (4 : Nat) (Option.some FieldType.int)) ∈ jW := jW_t6 (i := 226) rfl rfl
set_option maxRecDepth 4000 in
theorem u1427 : (Cond.methodLink "PaperPocketModel" (344 : Nat) ({ cls := "PaperPocketModel", name := "began", desc := "(I)V" } : MethodName)) ∈ jW := jW_t6 (i := 227) rfl rfl
set_option maxRecDepth 4000 in
theorem u1429 : (Cond.instanceMethod ({ cls := "PaperPocketModel", name := "began", desc := "(I)V" } : MethodName)) ∈ jW := jW_t6 (i := 229) rfl rfl
set_option maxRecDepth 4000 in
theorem u1430 : (Cond.code ({ cls := "PaperPocketModel", name := "began", desc := "(I)V" } : MethodName) prog_13_method_85_code (2 : Nat) (Option.none : Option ClassFile.FieldType)) ∈ jW := jW_t6 (i := 230) rfl rfl
set_option maxRecDepth 4000 in
theorem u1431 : (Cond.methodLink "PaperPocketModel" (347 : Nat) ({ cls := "PaperPocketModel", name := "daysOf", desc := "(I)I" } : MethodName)) ∈ jW := jW_t6 (i := 231) rfl rfl
set_option maxRecDepth 4000 in
theorem u1433 : (Cond.instanceMethod ({ cls := "PaperPocketModel", name := "daysOf", desc := "(I)I" } : MethodName)) ∈ jW := jW_t6 (i := 233) rfl rfl
set_option maxRecDepth 4000 in
theorem u1434 : (Cond.code ({ cls := "PaperPocketModel", name := "daysOf", desc := "(I)I" } : MethodName) prog_13_method_86_code (2 : Nat) (Option.some FieldType.int)) ∈ jW := jW_t6 (i := 234) rfl rfl
set_option maxRecDepth 4000 in
theorem u1435 : (Cond.methodLink "PaperPocketModel" (353 : Nat) ({ cls := "PaperPocketModel", name := "markOf", desc := "(II)I" } : MethodName)) ∈ jW := jW_t6 (i := 235) rfl rfl
set_option maxRecDepth 4000 in
theorem u1437 : (Cond.instanceMethod ({ cls := "PaperPocketModel", name := "markOf", desc := "(II)I" } : MethodName)) ∈ jW := jW_t6 (i := 237) rfl rfl
set_option maxRecDepth 4000 in
theorem u1438 : (Cond.code ({ cls := "PaperPocketModel", name := "markOf", desc := "(II)I" } : MethodName) prog_13_method_88_code (6 : Nat) (Option.some FieldType.int)) ∈ jW := jW_t6 (i := 238) rfl rfl
set_option maxRecDepth 4000 in
theorem u1439 : (Cond.methodLink "PaperPocketLaw" (165 : Nat) ({ cls := "PaperPocketModel", name := "trace", desc := "(I)I" } : MethodName)) ∈ jW := jW_t6 (i := 239) rfl rfl
set_option maxRecDepth 4000 in
theorem u1440 : (Cond.instanceMethod ({ cls := "PaperPocketModel", name := "trace", desc := "(I)I" } : MethodName)) ∈ jW := jW_t7 (i := 0) rfl rfl
set_option maxRecDepth 4000 in
theorem u1441 : (Cond.selects "PaperPocketModel" ({ cls := "PaperPocketModel", name := "trace", desc := "(I)I" } : MethodName) ({ cls := "PaperPocketModel", name := "trace", desc := "(I)I" } : MethodName)) ∈ jW := jW_t7 (i := 1) rfl rfl
set_option maxRecDepth 4000 in
theorem u1442 : (Cond.code ({ cls := "PaperPocketModel", name := "trace", desc := "(I)I" } : MethodName) prog_13_method_91_code (2 : Nat) (Option.some FieldType.int)) ∈ jW := jW_t7 (i := 2) rfl rfl
set_option maxRecDepth 4000 in
theorem u1443 : (Cond.methodLink "PaperPocketLaw" (169 : Nat) ({ cls := "PaperPocketModel", name := "count", desc := "(I)I" } : MethodName)) ∈ jW := jW_t7 (i := 3) rfl rfl
set_option maxRecDepth 4000 in
theorem u1444 : (Cond.instanceMethod ({ cls := "PaperPocketModel", name := "count", desc := "(I)I" } : MethodName)) ∈ jW := jW_t7 (i := 4) rfl rfl
set_option maxRecDepth 4000 in
theorem u1445 : (Cond.selects "PaperPocketModel" ({ cls := "PaperPocketModel", name := "count", desc := "(I)I" } : MethodName) ({ cls := "PaperPocketModel", name := "count", desc := "(I)I" } : MethodName)) ∈ jW := jW_t7 (i := 5) rfl rfl
set_option maxRecDepth 4000 in
theorem u1446 : (Cond.code ({ cls := "PaperPocketModel", name := "count", desc := "(I)I" } : MethodName) prog_13_method_92_code (4 : Nat) (Option.some FieldType.int)) ∈ jW := jW_t7 (i := 6) rfl rfl
set_option maxRecDepth 4000 in
theorem u1447 : (Cond.methodLink "PaperPocketLaw" (173 : Nat) ({ cls := "PaperPocketModel", name := "status", desc := "()I" } : MethodName)) ∈ jW := jW_t7 (i := 7) rfl rfl
set_option maxRecDepth 4000 in
theorem u1448 : (Cond.instanceMethod ({ cls := "PaperPocketModel", name := "status", desc := "()I" } : MethodName)) ∈ jW := jW_t7 (i := 8) rfl rfl
set_option maxRecDepth 4000 in
theorem u1449 : (Cond.selects "PaperPocketModel" ({ cls := "PaperPocketModel", name := "status", desc := "()I" } : MethodName) ({ cls := "PaperPocketModel", name := "status", desc := "()I" } : MethodName)) ∈ jW := jW_t7 (i := 9) rfl rfl
set_option maxRecDepth 4000 in
theorem u1450 : (Cond.code ({ cls := "PaperPocketModel", name := "status", desc := "()I" } : MethodName) prog_13_method_93_code (1 : Nat) (Option.some FieldType.int)) ∈ jW := jW_t7 (i := 10) rfl rfl
set_option maxRecDepth 4000 in
theorem u1451 : (Cond.constantLong "PaperPocketLaw" (110 : Nat) (4294967295 : Int64)) ∈ jW := jW_t7 (i := 11) rfl rfl
set_option maxRecDepth 4000 in
theorem u1452 : (Cond.fieldLink "java/lang/String" (9 : Nat) "java/lang/String" "value" "[B") ∈ jW := jW_t7 (i := 12) rfl rfl
set_option maxRecDepth 4000 in
theorem u1453 : (Cond.fieldLink "java/lang/String" (15 : Nat) "java/lang/String" "coder" "B") ∈ jW := jW_t7 (i := 13) rfl rfl
theorem ilX0 : ∀ w ∈ u_ws RX0 TX0 2, w ∈ jW := by
  intro w hw
  obtain ⟨k, hk, rfl⟩ := List.mem_map.mp hw
  have hk := List.mem_range.mp hk
  match k, hk with
  | 0, _ => exact jW_t1 (i := 233) rfl rfl
  | 1, _ => exact jW_t1 (i := 235) rfl rfl
  | k + 2, hk => exact absurd hk (by omega)
theorem ilX1 : ∀ w ∈ u_ws RX1 TX1 2, w ∈ jW := by
  intro w hw
  obtain ⟨k, hk, rfl⟩ := List.mem_map.mp hw
  have hk := List.mem_range.mp hk
  match k, hk with
  | 0, _ => exact jW_t1 (i := 172) rfl rfl
  | 1, _ => exact jW_t1 (i := 174) rfl rfl
  | k + 2, hk => exact absurd hk (by omega)
theorem ilX2 : ∀ w ∈ u_ws RX2 TX2 2, w ∈ jW := by
  intro w hw
  obtain ⟨k, hk, rfl⟩ := List.mem_map.mp hw
  have hk := List.mem_range.mp hk
  match k, hk with
  | 0, _ => exact jW_t1 (i := 90) rfl rfl
  | 1, _ => exact jW_t1 (i := 92) rfl rfl
  | k + 2, hk => exact absurd hk (by omega)
theorem ilX3 : ∀ w ∈ u_ws RX3 TX3 6, w ∈ jW := by
  intro w hw
  obtain ⟨k, hk, rfl⟩ := List.mem_map.mp hw
  have hk := List.mem_range.mp hk
  match k, hk with
  | 0, _ => exact jW_t1 (i := 114) rfl rfl
  | 1, _ => exact jW_t1 (i := 116) rfl rfl
  | 2, _ => exact jW_t1 (i := 118) rfl rfl
  | 3, _ => exact jW_t1 (i := 120) rfl rfl
  | 4, _ => exact jW_t1 (i := 122) rfl rfl
  | 5, _ => exact jW_t1 (i := 124) rfl rfl
  | k + 6, hk => exact absurd hk (by omega)
theorem ilX4 : ∀ w ∈ u_ws RX4 TX4 6, w ∈ jW := by
  intro w hw
  obtain ⟨k, hk, rfl⟩ := List.mem_map.mp hw
  have hk := List.mem_range.mp hk
  match k, hk with
  | 0, _ => exact jW_t1 (i := 210) rfl rfl
  | 1, _ => exact jW_t1 (i := 212) rfl rfl
  | 2, _ => exact jW_t1 (i := 214) rfl rfl
  | 3, _ => exact jW_t1 (i := 216) rfl rfl
  | 4, _ => exact jW_t1 (i := 218) rfl rfl
  | 5, _ => exact jW_t1 (i := 220) rfl rfl
  | k + 6, hk => exact absurd hk (by omega)
theorem ilX5 : ∀ w ∈ u_ws RX5 TX5 5, w ∈ jW := by
  intro w hw
  obtain ⟨k, hk, rfl⟩ := List.mem_map.mp hw
  have hk := List.mem_range.mp hk
  match k, hk with
  | 0, _ => exact jW_t1 (i := 69) rfl rfl
  | 1, _ => exact jW_t1 (i := 71) rfl rfl
  | 2, _ => exact jW_t1 (i := 73) rfl rfl
  | 3, _ => exact jW_t1 (i := 75) rfl rfl
  | 4, _ => exact jW_t1 (i := 77) rfl rfl
  | k + 5, hk => exact absurd hk (by omega)
theorem ilX6 : ∀ w ∈ u_ws RX6 TX6 8, w ∈ jW := by
  intro w hw
  obtain ⟨k, hk, rfl⟩ := List.mem_map.mp hw
  have hk := List.mem_range.mp hk
  match k, hk with
  | 0, _ => exact jW_t2 (i := 171) rfl rfl
  | 1, _ => exact jW_t2 (i := 173) rfl rfl
  | 2, _ => exact jW_t2 (i := 175) rfl rfl
  | 3, _ => exact jW_t2 (i := 177) rfl rfl
  | 4, _ => exact jW_t2 (i := 179) rfl rfl
  | 5, _ => exact jW_t2 (i := 181) rfl rfl
  | 6, _ => exact jW_t2 (i := 183) rfl rfl
  | 7, _ => exact jW_t2 (i := 185) rfl rfl
  | k + 8, hk => exact absurd hk (by omega)
theorem ilX7 : ∀ w ∈ u_ws RX7 TX7 3, w ∈ jW := by
  intro w hw
  obtain ⟨k, hk, rfl⟩ := List.mem_map.mp hw
  have hk := List.mem_range.mp hk
  match k, hk with
  | 0, _ => exact jW_t1 (i := 45) rfl rfl
  | 1, _ => exact jW_t1 (i := 47) rfl rfl
  | 2, _ => exact jW_t1 (i := 49) rfl rfl
  | k + 3, hk => exact absurd hk (by omega)
theorem ilX8 : ∀ w ∈ u_ws RX8 TX8 3, w ∈ jW := by
  intro w hw
  obtain ⟨k, hk, rfl⟩ := List.mem_map.mp hw
  have hk := List.mem_range.mp hk
  match k, hk with
  | 0, _ => exact jW_t1 (i := 189) rfl rfl
  | 1, _ => exact jW_t1 (i := 191) rfl rfl
  | 2, _ => exact jW_t1 (i := 193) rfl rfl
  | k + 3, hk => exact absurd hk (by omega)
theorem ilX9 : ∀ w ∈ u_ws RX9 TX9 9, w ∈ jW := by
  intro w hw
  obtain ⟨k, hk, rfl⟩ := List.mem_map.mp hw
  have hk := List.mem_range.mp hk
  match k, hk with
  | 0, _ => exact jW_t1 (i := 144) rfl rfl
  | 1, _ => exact jW_t1 (i := 146) rfl rfl
  | 2, _ => exact jW_t1 (i := 148) rfl rfl
  | 3, _ => exact jW_t1 (i := 150) rfl rfl
  | 4, _ => exact jW_t1 (i := 152) rfl rfl
  | 5, _ => exact jW_t1 (i := 154) rfl rfl
  | 6, _ => exact jW_t1 (i := 156) rfl rfl
  | 7, _ => exact jW_t1 (i := 158) rfl rfl
  | 8, _ => exact jW_t1 (i := 160) rfl rfl
  | k + 9, hk => exact absurd hk (by omega)
theorem ilX10 : ∀ w ∈ u_ws RX10 TX10 15, w ∈ jW := by
  intro w hw
  obtain ⟨k, hk, rfl⟩ := List.mem_map.mp hw
  have hk := List.mem_range.mp hk
  match k, hk with
  | 0, _ => exact jW_t2 (i := 13) rfl rfl
  | 1, _ => exact jW_t2 (i := 15) rfl rfl
  | 2, _ => exact jW_t2 (i := 17) rfl rfl
  | 3, _ => exact jW_t2 (i := 19) rfl rfl
  | 4, _ => exact jW_t2 (i := 21) rfl rfl
  | 5, _ => exact jW_t2 (i := 23) rfl rfl
  | 6, _ => exact jW_t2 (i := 25) rfl rfl
  | 7, _ => exact jW_t2 (i := 27) rfl rfl
  | 8, _ => exact jW_t2 (i := 29) rfl rfl
  | 9, _ => exact jW_t2 (i := 31) rfl rfl
  | 10, _ => exact jW_t2 (i := 33) rfl rfl
  | 11, _ => exact jW_t2 (i := 35) rfl rfl
  | 12, _ => exact jW_t2 (i := 37) rfl rfl
  | 13, _ => exact jW_t2 (i := 39) rfl rfl
  | 14, _ => exact jW_t2 (i := 41) rfl rfl
  | k + 15, hk => exact absurd hk (by omega)
theorem ilX11 : ∀ w ∈ u_ws RX11 TX11 42, w ∈ jW := by
  intro w hw
  obtain ⟨k, hk, rfl⟩ := List.mem_map.mp hw
  have hk := List.mem_range.mp hk
  match k, hk with
  | 0, _ => exact jW_t5 (i := 32) rfl rfl
  | 1, _ => exact jW_t5 (i := 34) rfl rfl
  | 2, _ => exact jW_t5 (i := 36) rfl rfl
  | 3, _ => exact jW_t5 (i := 38) rfl rfl
  | 4, _ => exact jW_t5 (i := 40) rfl rfl
  | 5, _ => exact jW_t5 (i := 42) rfl rfl
  | 6, _ => exact jW_t5 (i := 44) rfl rfl
  | 7, _ => exact jW_t5 (i := 46) rfl rfl
  | 8, _ => exact jW_t5 (i := 48) rfl rfl
  | 9, _ => exact jW_t5 (i := 50) rfl rfl
  | 10, _ => exact jW_t5 (i := 52) rfl rfl
  | 11, _ => exact jW_t5 (i := 54) rfl rfl
  | 12, _ => exact jW_t5 (i := 56) rfl rfl
  | 13, _ => exact jW_t5 (i := 58) rfl rfl
  | 14, _ => exact jW_t5 (i := 60) rfl rfl
  | 15, _ => exact jW_t5 (i := 62) rfl rfl
  | 16, _ => exact jW_t5 (i := 64) rfl rfl
  | 17, _ => exact jW_t5 (i := 66) rfl rfl
  | 18, _ => exact jW_t5 (i := 68) rfl rfl
  | 19, _ => exact jW_t5 (i := 70) rfl rfl
  | 20, _ => exact jW_t5 (i := 72) rfl rfl
  | 21, _ => exact jW_t5 (i := 74) rfl rfl
  | 22, _ => exact jW_t5 (i := 76) rfl rfl
  | 23, _ => exact jW_t5 (i := 78) rfl rfl
  | 24, _ => exact jW_t5 (i := 80) rfl rfl
  | 25, _ => exact jW_t5 (i := 82) rfl rfl
  | 26, _ => exact jW_t5 (i := 84) rfl rfl
  | 27, _ => exact jW_t5 (i := 86) rfl rfl
  | 28, _ => exact jW_t5 (i := 88) rfl rfl
  | 29, _ => exact jW_t5 (i := 90) rfl rfl
  | 30, _ => exact jW_t5 (i := 92) rfl rfl
  | 31, _ => exact jW_t5 (i := 94) rfl rfl
  | 32, _ => exact jW_t5 (i := 96) rfl rfl
  | 33, _ => exact jW_t5 (i := 98) rfl rfl
  | 34, _ => exact jW_t5 (i := 100) rfl rfl
  | 35, _ => exact jW_t5 (i := 102) rfl rfl
  | 36, _ => exact jW_t5 (i := 104) rfl rfl
  | 37, _ => exact jW_t5 (i := 106) rfl rfl
  | 38, _ => exact jW_t5 (i := 108) rfl rfl
  | 39, _ => exact jW_t5 (i := 110) rfl rfl
  | 40, _ => exact jW_t5 (i := 112) rfl rfl
  | 41, _ => exact jW_t5 (i := 114) rfl rfl
  | k + 42, hk => exact absurd hk (by omega)
