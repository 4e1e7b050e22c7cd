/-- the words that the contracts stand on -/
def wAll : List Cond := lw_tbl.filter goodWord
theorem tm_1 {w : Cond} (h : w ∈ tables_1_1) (g : goodWord w = true) : w ∈ wAll := List.mem_filter.mpr ⟨List.mem_append_right _ (show w ∈ tables_1 from List.mem_append_left _ h), g⟩
theorem tm_2 {w : Cond} (h : w ∈ tables_1_2) (g : goodWord w = true) : w ∈ wAll := List.mem_filter.mpr ⟨List.mem_append_right _ (show w ∈ tables_1 from List.mem_append_right _ (List.mem_append_left _ h)), g⟩
theorem tm_3 {w : Cond} (h : w ∈ tables_1_3) (g : goodWord w = true) : w ∈ wAll := List.mem_filter.mpr ⟨List.mem_append_right _ (show w ∈ tables_1 from List.mem_append_right _ (List.mem_append_right _ (List.mem_append_left _ h))), g⟩
theorem tm_4 {w : Cond} (h : w ∈ tables_1_4) (g : goodWord w = true) : w ∈ wAll := List.mem_filter.mpr ⟨List.mem_append_right _ (show w ∈ tables_1 from List.mem_append_right _ (List.mem_append_right _ (List.mem_append_right _ (List.mem_append_left _ h)))), g⟩
theorem tm_5 {w : Cond} (h : w ∈ tables_1_5) (g : goodWord w = true) : w ∈ wAll := List.mem_filter.mpr ⟨List.mem_append_right _ (show w ∈ tables_1 from List.mem_append_right _ (List.mem_append_right _ (List.mem_append_right _ (List.mem_append_right _ (List.mem_append_left _ h))))), g⟩
theorem tm_6 {w : Cond} (h : w ∈ tables_1_6) (g : goodWord w = true) : w ∈ wAll := List.mem_filter.mpr ⟨List.mem_append_right _ (show w ∈ tables_1 from List.mem_append_right _ (List.mem_append_right _ (List.mem_append_right _ (List.mem_append_right _ (List.mem_append_right _ (h)))))), g⟩
theorem tm_p {q : MethodName × Nat} (h : q ∈ lw_privs) : Cond.selects q.1.cls q.1 q.1 ∈ wAll := List.mem_filter.mpr ⟨List.mem_append_left _ (List.mem_map.mpr ⟨q, h, rfl⟩), rfl⟩
theorem tw_1_0 : (Jvm.Cond.initialized "LadderClubLaw") ∈ wAll := tm_1 (List.mem_of_getElem? (i := 0) rfl) rfl
theorem tw_1_1 : (Jvm.Cond.initialized "LadderClub") ∈ wAll := tm_1 (List.mem_of_getElem? (i := 1) rfl) rfl
theorem tw_1_2 : (Jvm.Cond.initialized "LadderClub$Ladder") ∈ wAll := tm_1 (List.mem_of_getElem? (i := 2) rfl) rfl
theorem tw_1_3 : (Jvm.Cond.initialized "LadderClub$Asker") ∈ wAll := tm_1 (List.mem_of_getElem? (i := 3) rfl) rfl
theorem tw_1_4 : (Jvm.Cond.initialized "LadderClub$ClubReader") ∈ wAll := tm_1 (List.mem_of_getElem? (i := 4) rfl) rfl
theorem tw_1_5 : (Jvm.Cond.initialized "LadderClub$Days") ∈ wAll := tm_1 (List.mem_of_getElem? (i := 5) rfl) rfl
theorem tw_1_6 : (Jvm.Cond.initialized "LadderClubModel") ∈ wAll := tm_1 (List.mem_of_getElem? (i := 6) rfl) rfl
theorem tw_1_7 : (Jvm.Cond.initialized "java/lang/String") ∈ wAll := tm_1 (List.mem_of_getElem? (i := 7) rfl) rfl
theorem tw_1_8 : (Jvm.Cond.initialized "java/lang/StringLatin1") ∈ wAll := tm_1 (List.mem_of_getElem? (i := 8) rfl) rfl
theorem tw_1_9 : (Jvm.Cond.initialized "java/lang/Math") ∈ wAll := tm_1 (List.mem_of_getElem? (i := 9) rfl) rfl
theorem tw_1_10 : (Jvm.Cond.initialized "java/lang/StringUTF16") ∈ wAll := tm_1 (List.mem_of_getElem? (i := 10) rfl) rfl
theorem tw_1_11 : (Jvm.Cond.initialized "jdk/internal/util/Preconditions") ∈ wAll := tm_1 (List.mem_of_getElem? (i := 11) rfl) rfl
theorem tw_1_12 : (Jvm.Cond.initialized "java/lang/Character") ∈ wAll := tm_1 (List.mem_of_getElem? (i := 12) rfl) rfl
theorem tw_1_13 : (Jvm.Cond.initialized "LadderClub$Club") ∈ wAll := tm_1 (List.mem_of_getElem? (i := 13) rfl) rfl
theorem tw_1_14 : (Jvm.Cond.initialized "java/lang/System") ∈ wAll := tm_1 (List.mem_of_getElem? (i := 14) rfl) rfl
theorem tw_1_15 : (Jvm.Cond.initialized "LadderClub$Near") ∈ wAll := tm_1 (List.mem_of_getElem? (i := 15) rfl) rfl
theorem tw_1_16 : (Jvm.Cond.initialized "LadderClub$Far") ∈ wAll := tm_1 (List.mem_of_getElem? (i := 16) rfl) rfl
theorem tw_1_17 : (Jvm.Cond.initialized "LadderClub$Safe") ∈ wAll := tm_1 (List.mem_of_getElem? (i := 17) rfl) rfl
theorem tw_1_18 : (Jvm.Cond.initialized "LadderClub$Best") ∈ wAll := tm_1 (List.mem_of_getElem? (i := 18) rfl) rfl
theorem tw_1_19 : (Jvm.Cond.initialized "LadderClub$Told") ∈ wAll := tm_1 (List.mem_of_getElem? (i := 19) rfl) rfl
theorem tw_1_20 : (Jvm.Cond.initialized "LadderClub$Never") ∈ wAll := tm_1 (List.mem_of_getElem? (i := 20) rfl) rfl
theorem tw_1_21 : (Jvm.Cond.classLink "LadderClubLaw" (7 : Nat) "LadderClub") ∈ wAll := tm_1 (List.mem_of_getElem? (i := 21) rfl) rfl
theorem tw_1_22 : (Jvm.Cond.instantiable "LadderClub" (10 : Nat)) ∈ wAll := tm_1 (List.mem_of_getElem? (i := 22) rfl) rfl
theorem tw_1_23 : (Jvm.Cond.methodLink "LadderClubLaw" (9 : Nat) yX11_init) ∈ wAll := tm_1 (List.mem_of_getElem? (i := 23) rfl) rfl
theorem tw_1_24 : (Jvm.Cond.instanceMethod yX11_init) ∈ wAll := tm_1 (List.mem_of_getElem? (i := 24) rfl) rfl
theorem tw_1_25 : (Jvm.Cond.code yX11_init prog_1_method_1_code (1 : Nat) (Option.none : Option Jvm.ClassFile.FieldType)) ∈ wAll := tm_1 (List.mem_of_getElem? (i := 25) rfl) rfl
theorem tw_1_26 : (Jvm.Cond.methodLink "LadderClub" (3 : Nat) ({ cls := "java/lang/Object", name := "<init>", desc := "()V" } : Jvm.MethodName)) ∈ wAll := tm_1 (List.mem_of_getElem? (i := 26) rfl) rfl
theorem tw_1_27 : (Jvm.Cond.instanceMethod ({ cls := "java/lang/Object", name := "<init>", desc := "()V" } : Jvm.MethodName)) ∈ wAll := tm_1 (List.mem_of_getElem? (i := 27) rfl) rfl
theorem tw_1_28 : (Jvm.Cond.code ({ cls := "java/lang/Object", name := "<init>", desc := "()V" } : Jvm.MethodName) object_method_1_code (1 : Nat) (Option.none : Option Jvm.ClassFile.FieldType)) ∈ wAll := tm_1 (List.mem_of_getElem? (i := 28) rfl) rfl
theorem tw_1_29 : (Jvm.Cond.classLink "LadderClub" (9 : Nat) "LadderClub$Ladder") ∈ wAll := tm_1 (List.mem_of_getElem? (i := 29) rfl) rfl
theorem tw_1_30 : (Jvm.Cond.instantiable "LadderClub$Ladder" (16 : Nat)) ∈ wAll := tm_1 (List.mem_of_getElem? (i := 30) rfl) rfl
theorem tw_1_31 : (Jvm.Cond.methodLink "LadderClub" (11 : Nat) yX6_init) ∈ wAll := tm_1 (List.mem_of_getElem? (i := 31) rfl) rfl
theorem tw_1_32 : (Jvm.Cond.instanceMethod yX6_init) ∈ wAll := tm_1 (List.mem_of_getElem? (i := 32) rfl) rfl
theorem tw_1_33 : (Jvm.Cond.code yX6_init prog_8_method_1_code (3 : Nat) (Option.none : Option Jvm.ClassFile.FieldType)) ∈ wAll := tm_1 (List.mem_of_getElem? (i := 33) rfl) rfl
theorem tw_1_34 : (Jvm.Cond.methodLink "LadderClub$Ladder" (3 : Nat) ({ cls := "java/lang/Object", name := "<init>", desc := "()V" } : Jvm.MethodName)) ∈ wAll := tm_1 (List.mem_of_getElem? (i := 34) rfl) rfl
theorem tw_1_35 : (Jvm.Cond.classLink "LadderClub$Ladder" (19 : Nat) "[[I") ∈ wAll := tm_1 (List.mem_of_getElem? (i := 35) rfl) rfl
theorem tw_1_37 : (Jvm.Cond.classLink "LadderClub$Ladder" (27 : Nat) "LadderClub$Asker") ∈ wAll := tm_1 (List.mem_of_getElem? (i := 37) rfl) rfl
theorem tw_1_39 : (Jvm.Cond.classLink "LadderClub$Ladder" (40 : Nat) "LadderClub$Club") ∈ wAll := tm_1 (List.mem_of_getElem? (i := 39) rfl) rfl
theorem tw_1_41 : (Jvm.Cond.instantiable "LadderClub$Asker" (2 : Nat)) ∈ wAll := tm_1 (List.mem_of_getElem? (i := 41) rfl) rfl
theorem tw_1_42 : (Jvm.Cond.methodLink "LadderClub$Ladder" (70 : Nat) yX0_init) ∈ wAll := tm_1 (List.mem_of_getElem? (i := 42) rfl) rfl
theorem tw_1_43 : (Jvm.Cond.instanceMethod yX0_init) ∈ wAll := tm_1 (List.mem_of_getElem? (i := 43) rfl) rfl
theorem tw_1_44 : (Jvm.Cond.code yX0_init prog_2_method_1_code (3 : Nat) (Option.none : Option Jvm.ClassFile.FieldType)) ∈ wAll := tm_1 (List.mem_of_getElem? (i := 44) rfl) rfl
theorem tw_1_45 : (Jvm.Cond.methodLink "LadderClub$Asker" (3 : Nat) ({ cls := "java/lang/Object", name := "<init>", desc := "()V" } : Jvm.MethodName)) ∈ wAll := tm_1 (List.mem_of_getElem? (i := 45) rfl) rfl
theorem tw_1_46 : (Jvm.Cond.fieldLink "LadderClub$Asker" (9 : Nat) "LadderClub$Asker" "number" "I") ∈ wAll := tm_1 (List.mem_of_getElem? (i := 46) rfl) rfl
theorem tw_1_47 : (Jvm.Cond.fieldLink "LadderClub$Asker" (15 : Nat) "LadderClub$Asker" "v" "I") ∈ wAll := tm_1 (List.mem_of_getElem? (i := 47) rfl) rfl
theorem tw_1_49 : (Jvm.Cond.laysFinal "LadderClub$Asker" "LadderClub$Asker" "number" "I") ∈ wAll := tm_1 (List.mem_of_getElem? (i := 49) rfl) rfl
theorem tw_1_51 : (Jvm.Cond.laysFinal "LadderClub$Asker" "LadderClub$Asker" "v" "I") ∈ wAll := tm_1 (List.mem_of_getElem? (i := 51) rfl) rfl
theorem tw_1_54 : (Jvm.Cond.arrayClass Jvm.ClassFile.FieldType.int) ∈ wAll := tm_1 (List.mem_of_getElem? (i := 54) rfl) rfl
theorem tw_1_55 : (Jvm.Cond.arrayClass Jvm.ClassFile.FieldType.byte) ∈ wAll := tm_1 (List.mem_of_getElem? (i := 55) rfl) rfl
theorem tw_1_56 : (Jvm.Cond.fieldLink "LadderClub$Ladder" (9 : Nat) "LadderClub$Ladder" "names" "I") ∈ wAll := tm_1 (List.mem_of_getElem? (i := 56) rfl) rfl
theorem tw_1_59 : (Jvm.Cond.fieldLink "LadderClub$Ladder" (15 : Nat) "LadderClub$Ladder" "board" "[I") ∈ wAll := tm_1 (List.mem_of_getElem? (i := 59) rfl) rfl
theorem tw_1_61 : (Jvm.Cond.fieldLink "LadderClub$Ladder" (21 : Nat) "LadderClub$Ladder" "chances" "[[I") ∈ wAll := tm_1 (List.mem_of_getElem? (i := 61) rfl) rfl
theorem tw_1_64 : (Jvm.Cond.fieldLink "LadderClub$Ladder" (24 : Nat) "LadderClub$Ladder" "today" "I") ∈ wAll := tm_1 (List.mem_of_getElem? (i := 64) rfl) rfl
theorem tw_1_66 : (Jvm.Cond.fieldLink "LadderClub$Ladder" (29 : Nat) "LadderClub$Ladder" "askers" "[LLadderClub$Asker;") ∈ wAll := tm_1 (List.mem_of_getElem? (i := 66) rfl) rfl
theorem tw_1_68 : (Jvm.Cond.fieldLink "LadderClub$Ladder" (33 : Nat) "LadderClub$Ladder" "tape" "[B") ∈ wAll := tm_1 (List.mem_of_getElem? (i := 68) rfl) rfl
theorem tw_1_70 : (Jvm.Cond.fieldLink "LadderClub$Ladder" (37 : Nat) "LadderClub$Ladder" "taped" "I") ∈ wAll := tm_1 (List.mem_of_getElem? (i := 70) rfl) rfl
theorem tw_1_72 : (Jvm.Cond.fieldLink "LadderClub$Ladder" (42 : Nat) "LadderClub$Ladder" "clubs" "[LLadderClub$Club;") ∈ wAll := tm_1 (List.mem_of_getElem? (i := 72) rfl) rfl
theorem tw_1_74 : (Jvm.Cond.fieldLink "LadderClub$Ladder" (46 : Nat) "LadderClub$Ladder" "clubCount" "I") ∈ wAll := tm_1 (List.mem_of_getElem? (i := 74) rfl) rfl
theorem tw_1_76 : (Jvm.Cond.fieldLink "LadderClub$Ladder" (49 : Nat) "LadderClub$Ladder" "row" "[I") ∈ wAll := tm_1 (List.mem_of_getElem? (i := 76) rfl) rfl
theorem tw_1_78 : (Jvm.Cond.fieldLink "LadderClub$Ladder" (52 : Nat) "LadderClub$Ladder" "rowed" "I") ∈ wAll := tm_1 (List.mem_of_getElem? (i := 78) rfl) rfl
theorem tw_1_80 : (Jvm.Cond.fieldLink "LadderClub$Ladder" (55 : Nat) "LadderClub$Ladder" "uppers" "[I") ∈ wAll := tm_1 (List.mem_of_getElem? (i := 80) rfl) rfl
theorem tw_1_82 : (Jvm.Cond.fieldLink "LadderClub$Ladder" (58 : Nat) "LadderClub$Ladder" "lowers" "[I") ∈ wAll := tm_1 (List.mem_of_getElem? (i := 82) rfl) rfl
theorem tw_1_84 : (Jvm.Cond.fieldLink "LadderClub$Ladder" (61 : Nat) "LadderClub$Ladder" "rounds" "I") ∈ wAll := tm_1 (List.mem_of_getElem? (i := 84) rfl) rfl
theorem tw_1_86 : (Jvm.Cond.fieldLink "LadderClub$Ladder" (64 : Nat) "LadderClub$Ladder" "past" "[[I") ∈ wAll := tm_1 (List.mem_of_getElem? (i := 86) rfl) rfl
theorem tw_1_88 : (Jvm.Cond.fieldLink "LadderClub$Ladder" (67 : Nat) "LadderClub$Ladder" "facts" "[I") ∈ wAll := tm_1 (List.mem_of_getElem? (i := 88) rfl) rfl
theorem tw_1_89 : (Jvm.Cond.lays "LadderClub$Ladder" "LadderClub$Ladder" "names" "I") ∈ wAll := tm_1 (List.mem_of_getElem? (i := 89) rfl) rfl
theorem tw_1_91 : (Jvm.Cond.laysFinal "LadderClub$Ladder" "LadderClub$Ladder" "board" "[I") ∈ wAll := tm_1 (List.mem_of_getElem? (i := 91) rfl) rfl
theorem tw_1_93 : (Jvm.Cond.laysFinal "LadderClub$Ladder" "LadderClub$Ladder" "chances" "[[I") ∈ wAll := tm_1 (List.mem_of_getElem? (i := 93) rfl) rfl
theorem tw_1_95 : (Jvm.Cond.lays "LadderClub$Ladder" "LadderClub$Ladder" "today" "I") ∈ wAll := tm_1 (List.mem_of_getElem? (i := 95) rfl) rfl
theorem tw_1_97 : (Jvm.Cond.laysFinal "LadderClub$Ladder" "LadderClub$Ladder" "askers" "[LLadderClub$Asker;") ∈ wAll := tm_1 (List.mem_of_getElem? (i := 97) rfl) rfl
theorem tw_1_99 : (Jvm.Cond.laysFinal "LadderClub$Ladder" "LadderClub$Ladder" "tape" "[B") ∈ wAll := tm_1 (List.mem_of_getElem? (i := 99) rfl) rfl
theorem tw_1_101 : (Jvm.Cond.lays "LadderClub$Ladder" "LadderClub$Ladder" "taped" "I") ∈ wAll := tm_1 (List.mem_of_getElem? (i := 101) rfl) rfl
theorem tw_1_103 : (Jvm.Cond.laysFinal "LadderClub$Ladder" "LadderClub$Ladder" "clubs" "[LLadderClub$Club;") ∈ wAll := tm_1 (List.mem_of_getElem? (i := 103) rfl) rfl
theorem tw_1_105 : (Jvm.Cond.lays "LadderClub$Ladder" "LadderClub$Ladder" "clubCount" "I") ∈ wAll := tm_1 (List.mem_of_getElem? (i := 105) rfl) rfl
theorem tw_1_107 : (Jvm.Cond.laysFinal "LadderClub$Ladder" "LadderClub$Ladder" "row" "[I") ∈ wAll := tm_1 (List.mem_of_getElem? (i := 107) rfl) rfl
theorem tw_1_109 : (Jvm.Cond.lays "LadderClub$Ladder" "LadderClub$Ladder" "rowed" "I") ∈ wAll := tm_1 (List.mem_of_getElem? (i := 109) rfl) rfl
theorem tw_1_111 : (Jvm.Cond.laysFinal "LadderClub$Ladder" "LadderClub$Ladder" "uppers" "[I") ∈ wAll := tm_1 (List.mem_of_getElem? (i := 111) rfl) rfl
theorem tw_1_113 : (Jvm.Cond.laysFinal "LadderClub$Ladder" "LadderClub$Ladder" "lowers" "[I") ∈ wAll := tm_1 (List.mem_of_getElem? (i := 113) rfl) rfl
theorem tw_1_115 : (Jvm.Cond.lays "LadderClub$Ladder" "LadderClub$Ladder" "rounds" "I") ∈ wAll := tm_1 (List.mem_of_getElem? (i := 115) rfl) rfl
theorem tw_1_117 : (Jvm.Cond.laysFinal "LadderClub$Ladder" "LadderClub$Ladder" "past" "[[I") ∈ wAll := tm_1 (List.mem_of_getElem? (i := 117) rfl) rfl
theorem tw_1_119 : (Jvm.Cond.laysFinal "LadderClub$Ladder" "LadderClub$Ladder" "facts" "[I") ∈ wAll := tm_1 (List.mem_of_getElem? (i := 119) rfl) rfl
theorem tw_1_122 : (Jvm.Cond.classLink "LadderClub" (29 : Nat) "LadderClub$ClubReader") ∈ wAll := tm_1 (List.mem_of_getElem? (i := 122) rfl) rfl
theorem tw_1_123 : (Jvm.Cond.instantiable "LadderClub$ClubReader" (7 : Nat)) ∈ wAll := tm_1 (List.mem_of_getElem? (i := 123) rfl) rfl
theorem tw_1_125 : (Jvm.Cond.instanceMethod yX3_init) ∈ wAll := tm_1 (List.mem_of_getElem? (i := 125) rfl) rfl
theorem tw_1_126 : (Jvm.Cond.code yX3_init prog_5_method_1_code (1 : Nat) (Option.none : Option Jvm.ClassFile.FieldType)) ∈ wAll := tm_1 (List.mem_of_getElem? (i := 126) rfl) rfl
theorem tw_1_127 : (Jvm.Cond.methodLink "LadderClub$ClubReader" (3 : Nat) ({ cls := "java/lang/Object", name := "<init>", desc := "()V" } : Jvm.MethodName)) ∈ wAll := tm_1 (List.mem_of_getElem? (i := 127) rfl) rfl
theorem tw_1_128 : (Jvm.Cond.fieldLink "LadderClub$ClubReader" (9 : Nat) "LadderClub$ClubReader" "code" "[I") ∈ wAll := tm_1 (List.mem_of_getElem? (i := 128) rfl) rfl
theorem tw_1_129 : (Jvm.Cond.fieldLink "LadderClub$ClubReader" (15 : Nat) "LadderClub$ClubReader" "length" "I") ∈ wAll := tm_1 (List.mem_of_getElem? (i := 129) rfl) rfl
theorem tw_1_130 : (Jvm.Cond.fieldLink "LadderClub$ClubReader" (19 : Nat) "LadderClub$ClubReader" "tape" "[B") ∈ wAll := tm_1 (List.mem_of_getElem? (i := 130) rfl) rfl
theorem tw_1_131 : (Jvm.Cond.fieldLink "LadderClub$ClubReader" (23 : Nat) "LadderClub$ClubReader" "size" "I") ∈ wAll := tm_1 (List.mem_of_getElem? (i := 131) rfl) rfl
theorem tw_1_132 : (Jvm.Cond.fieldLink "LadderClub$ClubReader" (26 : Nat) "LadderClub$ClubReader" "at" "I") ∈ wAll := tm_1 (List.mem_of_getElem? (i := 132) rfl) rfl
theorem tw_1_133 : (Jvm.Cond.fieldLink "LadderClub$ClubReader" (29 : Nat) "LadderClub$ClubReader" "up" "I") ∈ wAll := tm_1 (List.mem_of_getElem? (i := 133) rfl) rfl
theorem tw_1_134 : (Jvm.Cond.fieldLink "LadderClub$ClubReader" (34 : Nat) "LadderClub$ClubReader" "wins" "I") ∈ wAll := tm_1 (List.mem_of_getElem? (i := 134) rfl) rfl
theorem tw_1_135 : (Jvm.Cond.laysFinal "LadderClub$ClubReader" "LadderClub$ClubReader" "code" "[I") ∈ wAll := tm_1 (List.mem_of_getElem? (i := 135) rfl) rfl
theorem tw_1_137 : (Jvm.Cond.lays "LadderClub$ClubReader" "LadderClub$ClubReader" "length" "I") ∈ wAll := tm_1 (List.mem_of_getElem? (i := 137) rfl) rfl
theorem tw_1_139 : (Jvm.Cond.lays "LadderClub$ClubReader" "LadderClub$ClubReader" "tape" "[B") ∈ wAll := tm_1 (List.mem_of_getElem? (i := 139) rfl) rfl
theorem tw_1_141 : (Jvm.Cond.lays "LadderClub$ClubReader" "LadderClub$ClubReader" "size" "I") ∈ wAll := tm_1 (List.mem_of_getElem? (i := 141) rfl) rfl
theorem tw_1_143 : (Jvm.Cond.lays "LadderClub$ClubReader" "LadderClub$ClubReader" "at" "I") ∈ wAll := tm_1 (List.mem_of_getElem? (i := 143) rfl) rfl
theorem tw_1_145 : (Jvm.Cond.lays "LadderClub$ClubReader" "LadderClub$ClubReader" "up" "I") ∈ wAll := tm_1 (List.mem_of_getElem? (i := 145) rfl) rfl
theorem tw_1_147 : (Jvm.Cond.lays "LadderClub$ClubReader" "LadderClub$ClubReader" "wins" "I") ∈ wAll := tm_1 (List.mem_of_getElem? (i := 147) rfl) rfl
theorem tw_1_150 : (Jvm.Cond.classLink "LadderClub" (36 : Nat) "LadderClub$Days") ∈ wAll := tm_1 (List.mem_of_getElem? (i := 150) rfl) rfl
theorem tw_1_151 : (Jvm.Cond.instantiable "LadderClub$Days" (9 : Nat)) ∈ wAll := tm_1 (List.mem_of_getElem? (i := 151) rfl) rfl
theorem tw_1_152 : (Jvm.Cond.methodLink "LadderClub" (38 : Nat) yX4_init) ∈ wAll := tm_1 (List.mem_of_getElem? (i := 152) rfl) rfl
theorem tw_1_153 : (Jvm.Cond.instanceMethod yX4_init) ∈ wAll := tm_1 (List.mem_of_getElem? (i := 153) rfl) rfl
theorem tw_1_154 : (Jvm.Cond.code yX4_init prog_6_method_1_code (2 : Nat) (Option.none : Option Jvm.ClassFile.FieldType)) ∈ wAll := tm_1 (List.mem_of_getElem? (i := 154) rfl) rfl
theorem tw_1_155 : (Jvm.Cond.methodLink "LadderClub$Days" (3 : Nat) ({ cls := "java/lang/Object", name := "<init>", desc := "()V" } : Jvm.MethodName)) ∈ wAll := tm_1 (List.mem_of_getElem? (i := 155) rfl) rfl
theorem tw_1_156 : (Jvm.Cond.fieldLink "LadderClub$Days" (39 : Nat) "LadderClub$Days" "ladder" "LLadderClub$Ladder;") ∈ wAll := tm_1 (List.mem_of_getElem? (i := 156) rfl) rfl
theorem tw_1_157 : (Jvm.Cond.fieldLink "LadderClub$Days" (11 : Nat) "LadderClub$Days" "boards" "[I") ∈ wAll := tm_1 (List.mem_of_getElem? (i := 157) rfl) rfl
theorem tw_1_158 : (Jvm.Cond.fieldLink "LadderClub$Days" (15 : Nat) "LadderClub$Days" "weights" "[J") ∈ wAll := tm_1 (List.mem_of_getElem? (i := 158) rfl) rfl
theorem tw_1_159 : (Jvm.Cond.fieldLink "LadderClub$Days" (19 : Nat) "LadderClub$Days" "count" "I") ∈ wAll := tm_1 (List.mem_of_getElem? (i := 159) rfl) rfl
theorem tw_1_160 : (Jvm.Cond.fieldLink "LadderClub$Days" (23 : Nat) "LadderClub$Days" "boardsBefore" "[I") ∈ wAll := tm_1 (List.mem_of_getElem? (i := 160) rfl) rfl
theorem tw_1_161 : (Jvm.Cond.fieldLink "LadderClub$Days" (26 : Nat) "LadderClub$Days" "weightsBefore" "[J") ∈ wAll := tm_1 (List.mem_of_getElem? (i := 161) rfl) rfl
theorem tw_1_162 : (Jvm.Cond.fieldLink "LadderClub$Days" (29 : Nat) "LadderClub$Days" "countBefore" "I") ∈ wAll := tm_1 (List.mem_of_getElem? (i := 162) rfl) rfl
theorem tw_1_163 : (Jvm.Cond.fieldLink "LadderClub$Days" (32 : Nat) "LadderClub$Days" "whole" "J") ∈ wAll := tm_1 (List.mem_of_getElem? (i := 163) rfl) rfl
theorem tw_1_164 : (Jvm.Cond.fieldLink "LadderClub$Days" (36 : Nat) "LadderClub$Days" "here" "[I") ∈ wAll := tm_1 (List.mem_of_getElem? (i := 164) rfl) rfl
theorem tw_1_165 : (Jvm.Cond.laysFinal "LadderClub$Days" "LadderClub$Days" "ladder" "LLadderClub$Ladder;") ∈ wAll := tm_1 (List.mem_of_getElem? (i := 165) rfl) rfl
theorem tw_1_167 : (Jvm.Cond.lays "LadderClub$Days" "LadderClub$Days" "boards" "[I") ∈ wAll := tm_1 (List.mem_of_getElem? (i := 167) rfl) rfl
theorem tw_1_169 : (Jvm.Cond.lays "LadderClub$Days" "LadderClub$Days" "weights" "[J") ∈ wAll := tm_1 (List.mem_of_getElem? (i := 169) rfl) rfl
theorem tw_1_171 : (Jvm.Cond.lays "LadderClub$Days" "LadderClub$Days" "count" "I") ∈ wAll := tm_1 (List.mem_of_getElem? (i := 171) rfl) rfl
theorem tw_1_173 : (Jvm.Cond.lays "LadderClub$Days" "LadderClub$Days" "boardsBefore" "[I") ∈ wAll := tm_1 (List.mem_of_getElem? (i := 173) rfl) rfl
theorem tw_1_175 : (Jvm.Cond.lays "LadderClub$Days" "LadderClub$Days" "weightsBefore" "[J") ∈ wAll := tm_1 (List.mem_of_getElem? (i := 175) rfl) rfl
theorem tw_1_177 : (Jvm.Cond.lays "LadderClub$Days" "LadderClub$Days" "countBefore" "I") ∈ wAll := tm_1 (List.mem_of_getElem? (i := 177) rfl) rfl
theorem tw_1_179 : (Jvm.Cond.lays "LadderClub$Days" "LadderClub$Days" "whole" "J") ∈ wAll := tm_1 (List.mem_of_getElem? (i := 179) rfl) rfl
theorem tw_1_181 : (Jvm.Cond.laysFinal "LadderClub$Days" "LadderClub$Days" "here" "[I") ∈ wAll := tm_1 (List.mem_of_getElem? (i := 181) rfl) rfl
theorem tw_1_184 : (Jvm.Cond.arrayClass Jvm.ClassFile.FieldType.long) ∈ wAll := tm_1 (List.mem_of_getElem? (i := 184) rfl) rfl
theorem tw_1_185 : (Jvm.Cond.fieldLink "LadderClub" (12 : Nat) "LadderClub" "now" "LLadderClub$Ladder;") ∈ wAll := tm_1 (List.mem_of_getElem? (i := 185) rfl) rfl
theorem tw_1_186 : (Jvm.Cond.fieldLink "LadderClub" (18 : Nat) "LadderClub" "image" "LLadderClub$Ladder;") ∈ wAll := tm_1 (List.mem_of_getElem? (i := 186) rfl) rfl
theorem tw_1_187 : (Jvm.Cond.fieldLink "LadderClub" (21 : Nat) "LadderClub" "imaged" "Z") ∈ wAll := tm_1 (List.mem_of_getElem? (i := 187) rfl) rfl
theorem tw_1_188 : (Jvm.Cond.fieldLink "LadderClub" (25 : Nat) "LadderClub" "bodies" "[I") ∈ wAll := tm_1 (List.mem_of_getElem? (i := 188) rfl) rfl
theorem tw_1_189 : (Jvm.Cond.fieldLink "LadderClub" (32 : Nat) "LadderClub" "reader" "LLadderClub$ClubReader;") ∈ wAll := tm_1 (List.mem_of_getElem? (i := 189) rfl) rfl
theorem tw_1_190 : (Jvm.Cond.fieldLink "LadderClub" (41 : Nat) "LadderClub" "days" "LLadderClub$Days;") ∈ wAll := tm_1 (List.mem_of_getElem? (i := 190) rfl) rfl
theorem tw_1_191 : (Jvm.Cond.fieldLink "LadderClub" (45 : Nat) "LadderClub" "truth" "[I") ∈ wAll := tm_1 (List.mem_of_getElem? (i := 191) rfl) rfl
theorem tw_1_192 : (Jvm.Cond.fieldLink "LadderClub" (48 : Nat) "LadderClub" "row" "[I") ∈ wAll := tm_1 (List.mem_of_getElem? (i := 192) rfl) rfl
theorem tw_1_193 : (Jvm.Cond.fieldLink "LadderClub" (51 : Nat) "LadderClub" "trial" "[I") ∈ wAll := tm_1 (List.mem_of_getElem? (i := 193) rfl) rfl
theorem tw_1_194 : (Jvm.Cond.fieldLink "LadderClub" (54 : Nat) "LadderClub" "fewest" "[I") ∈ wAll := tm_1 (List.mem_of_getElem? (i := 194) rfl) rfl
theorem tw_1_195 : (Jvm.Cond.laysFinal "LadderClub" "LadderClub" "now" "LLadderClub$Ladder;") ∈ wAll := tm_1 (List.mem_of_getElem? (i := 195) rfl) rfl
theorem tw_1_197 : (Jvm.Cond.laysFinal "LadderClub" "LadderClub" "image" "LLadderClub$Ladder;") ∈ wAll := tm_1 (List.mem_of_getElem? (i := 197) rfl) rfl
theorem tw_1_199 : (Jvm.Cond.lays "LadderClub" "LadderClub" "imaged" "Z") ∈ wAll := tm_1 (List.mem_of_getElem? (i := 199) rfl) rfl
theorem tw_1_201 : (Jvm.Cond.laysFinal "LadderClub" "LadderClub" "bodies" "[I") ∈ wAll := tm_1 (List.mem_of_getElem? (i := 201) rfl) rfl
theorem tw_1_203 : (Jvm.Cond.laysFinal "LadderClub" "LadderClub" "reader" "LLadderClub$ClubReader;") ∈ wAll := tm_1 (List.mem_of_getElem? (i := 203) rfl) rfl
theorem tw_1_205 : (Jvm.Cond.laysFinal "LadderClub" "LadderClub" "days" "LLadderClub$Days;") ∈ wAll := tm_1 (List.mem_of_getElem? (i := 205) rfl) rfl
theorem tw_1_207 : (Jvm.Cond.laysFinal "LadderClub" "LadderClub" "truth" "[I") ∈ wAll := tm_1 (List.mem_of_getElem? (i := 207) rfl) rfl
theorem tw_1_209 : (Jvm.Cond.laysFinal "LadderClub" "LadderClub" "row" "[I") ∈ wAll := tm_1 (List.mem_of_getElem? (i := 209) rfl) rfl
theorem tw_1_211 : (Jvm.Cond.laysFinal "LadderClub" "LadderClub" "trial" "[I") ∈ wAll := tm_1 (List.mem_of_getElem? (i := 211) rfl) rfl
theorem tw_1_213 : (Jvm.Cond.laysFinal "LadderClub" "LadderClub" "fewest" "[I") ∈ wAll := tm_1 (List.mem_of_getElem? (i := 213) rfl) rfl
theorem tw_1_216 : (Jvm.Cond.methodLink "LadderClubLaw" (13 : Nat) yX11_name) ∈ wAll := tm_1 (List.mem_of_getElem? (i := 216) rfl) rfl
theorem tw_1_217 : (Jvm.Cond.instanceMethod yX11_name) ∈ wAll := tm_1 (List.mem_of_getElem? (i := 217) rfl) rfl
theorem tw_1_218 : (Jvm.Cond.selects "LadderClub" yX11_name yX11_name) ∈ wAll := tm_1 (List.mem_of_getElem? (i := 218) rfl) rfl
theorem tw_1_219 : (Jvm.Cond.code yX11_name prog_1_method_2_code (1 : Nat) (Option.some Jvm.ClassFile.FieldType.int)) ∈ wAll := tm_1 (List.mem_of_getElem? (i := 219) rfl) rfl
theorem tw_1_220 : (Jvm.Cond.methodLink "LadderClubLaw" (18 : Nat) yX11_chance) ∈ wAll := tm_1 (List.mem_of_getElem? (i := 220) rfl) rfl
theorem tw_1_221 : (Jvm.Cond.instanceMethod yX11_chance) ∈ wAll := tm_1 (List.mem_of_getElem? (i := 221) rfl) rfl
theorem tw_1_222 : (Jvm.Cond.selects "LadderClub" yX11_chance yX11_chance) ∈ wAll := tm_1 (List.mem_of_getElem? (i := 222) rfl) rfl
theorem tw_1_223 : (Jvm.Cond.code yX11_chance prog_1_method_3_code (5 : Nat) (Option.some Jvm.ClassFile.FieldType.int)) ∈ wAll := tm_1 (List.mem_of_getElem? (i := 223) rfl) rfl
theorem tw_1_224 : (Jvm.Cond.methodLink "LadderClub" (64 : Nat) yX11_isName) ∈ wAll := tm_1 (List.mem_of_getElem? (i := 224) rfl) rfl
theorem tw_1_226 : (Jvm.Cond.instanceMethod yX11_isName) ∈ wAll := tm_1 (List.mem_of_getElem? (i := 226) rfl) rfl
theorem tw_1_227 : (Jvm.Cond.code yX11_isName prog_1_method_38_code (2 : Nat) (Option.some Jvm.ClassFile.FieldType.boolean)) ∈ wAll := tm_1 (List.mem_of_getElem? (i := 227) rfl) rfl
theorem tw_1_228 : (Jvm.Cond.methodLink "LadderClubLaw" (23 : Nat) yX11_beats) ∈ wAll := tm_1 (List.mem_of_getElem? (i := 228) rfl) rfl
theorem tw_1_229 : (Jvm.Cond.instanceMethod yX11_beats) ∈ wAll := tm_1 (List.mem_of_getElem? (i := 229) rfl) rfl
theorem tw_1_230 : (Jvm.Cond.selects "LadderClub" yX11_beats yX11_beats) ∈ wAll := tm_1 (List.mem_of_getElem? (i := 230) rfl) rfl
theorem tw_1_231 : (Jvm.Cond.code yX11_beats prog_1_method_4_code (3 : Nat) (Option.some Jvm.ClassFile.FieldType.int)) ∈ wAll := tm_1 (List.mem_of_getElem? (i := 231) rfl) rfl
theorem tw_1_232 : (Jvm.Cond.methodLink "LadderClubLaw" (28 : Nat) yX11_board) ∈ wAll := tm_1 (List.mem_of_getElem? (i := 232) rfl) rfl
theorem tw_1_233 : (Jvm.Cond.instanceMethod yX11_board) ∈ wAll := tm_1 (List.mem_of_getElem? (i := 233) rfl) rfl
theorem tw_1_234 : (Jvm.Cond.selects "LadderClub" yX11_board yX11_board) ∈ wAll := tm_1 (List.mem_of_getElem? (i := 234) rfl) rfl
theorem tw_1_235 : (Jvm.Cond.code yX11_board prog_1_method_5_code (3 : Nat) (Option.some Jvm.ClassFile.FieldType.int)) ∈ wAll := tm_1 (List.mem_of_getElem? (i := 235) rfl) rfl
theorem tw_1_236 : (Jvm.Cond.methodLink "LadderClub" (72 : Nat) yX11_isRung) ∈ wAll := tm_1 (List.mem_of_getElem? (i := 236) rfl) rfl
theorem tw_1_238 : (Jvm.Cond.instanceMethod yX11_isRung) ∈ wAll := tm_1 (List.mem_of_getElem? (i := 238) rfl) rfl
theorem tw_1_239 : (Jvm.Cond.code yX11_isRung prog_1_method_39_code (2 : Nat) (Option.some Jvm.ClassFile.FieldType.boolean)) ∈ wAll := tm_1 (List.mem_of_getElem? (i := 239) rfl) rfl
theorem tw_2_0 : (Jvm.Cond.methodLink "LadderClub" (75 : Nat) yX11_isEither) ∈ wAll := tm_2 (List.mem_of_getElem? (i := 0) rfl) rfl
theorem tw_2_1 : (Jvm.Cond.static yX11_isEither) ∈ wAll := tm_2 (List.mem_of_getElem? (i := 1) rfl) rfl
theorem tw_2_2 : (Jvm.Cond.code yX11_isEither prog_1_method_41_code (1 : Nat) (Option.some Jvm.ClassFile.FieldType.boolean)) ∈ wAll := tm_2 (List.mem_of_getElem? (i := 2) rfl) rfl
theorem tw_2_3 : (Jvm.Cond.methodLink "LadderClub" (78 : Nat) yX6_findTruth) ∈ wAll := tm_2 (List.mem_of_getElem? (i := 3) rfl) rfl
theorem tw_2_4 : (Jvm.Cond.instanceMethod yX6_findTruth) ∈ wAll := tm_2 (List.mem_of_getElem? (i := 4) rfl) rfl
theorem tw_2_5 : (Jvm.Cond.selects "LadderClub$Ladder" yX6_findTruth yX6_findTruth) ∈ wAll := tm_2 (List.mem_of_getElem? (i := 5) rfl) rfl
theorem tw_2_6 : (Jvm.Cond.code yX6_findTruth prog_8_method_5_code (6 : Nat) (Option.none : Option Jvm.ClassFile.FieldType)) ∈ wAll := tm_2 (List.mem_of_getElem? (i := 6) rfl) rfl
theorem tw_2_7 : (Jvm.Cond.methodLink "LadderClub$Ladder" (79 : Nat) yX6_weaker) ∈ wAll := tm_2 (List.mem_of_getElem? (i := 7) rfl) rfl
theorem tw_2_9 : (Jvm.Cond.instanceMethod yX6_weaker) ∈ wAll := tm_2 (List.mem_of_getElem? (i := 9) rfl) rfl
theorem tw_2_10 : (Jvm.Cond.code yX6_weaker prog_8_method_6_code (4 : Nat) (Option.some Jvm.ClassFile.FieldType.int)) ∈ wAll := tm_2 (List.mem_of_getElem? (i := 10) rfl) rfl
theorem tw_2_11 : (Jvm.Cond.methodLink "LadderClub$Ladder" (83 : Nat) yX6_isStronger) ∈ wAll := tm_2 (List.mem_of_getElem? (i := 11) rfl) rfl
theorem tw_2_12 : (Jvm.Cond.instanceMethod yX6_isStronger) ∈ wAll := tm_2 (List.mem_of_getElem? (i := 12) rfl) rfl
theorem tw_2_13 : (Jvm.Cond.selects "LadderClub$Ladder" yX6_isStronger yX6_isStronger) ∈ wAll := tm_2 (List.mem_of_getElem? (i := 13) rfl) rfl
theorem tw_2_14 : (Jvm.Cond.code yX6_isStronger prog_8_method_3_code (3 : Nat) (Option.some Jvm.ClassFile.FieldType.boolean)) ∈ wAll := tm_2 (List.mem_of_getElem? (i := 14) rfl) rfl
theorem tw_2_15 : (Jvm.Cond.methodLink "LadderClubLaw" (32 : Nat) yX11_hang) ∈ wAll := tm_2 (List.mem_of_getElem? (i := 15) rfl) rfl
theorem tw_2_16 : (Jvm.Cond.instanceMethod yX11_hang) ∈ wAll := tm_2 (List.mem_of_getElem? (i := 16) rfl) rfl
theorem tw_2_17 : (Jvm.Cond.selects "LadderClub" yX11_hang yX11_hang) ∈ wAll := tm_2 (List.mem_of_getElem? (i := 17) rfl) rfl
theorem tw_2_18 : (Jvm.Cond.code yX11_hang prog_1_method_6_code (4 : Nat) (Option.some Jvm.ClassFile.FieldType.int)) ∈ wAll := tm_2 (List.mem_of_getElem? (i := 18) rfl) rfl
theorem tw_2_19 : (Jvm.Cond.methodLink "LadderClub" (82 : Nat) yX6_rungOf) ∈ wAll := tm_2 (List.mem_of_getElem? (i := 19) rfl) rfl
theorem tw_2_20 : (Jvm.Cond.instanceMethod yX6_rungOf) ∈ wAll := tm_2 (List.mem_of_getElem? (i := 20) rfl) rfl
theorem tw_2_21 : (Jvm.Cond.selects "LadderClub$Ladder" yX6_rungOf yX6_rungOf) ∈ wAll := tm_2 (List.mem_of_getElem? (i := 21) rfl) rfl
theorem tw_2_22 : (Jvm.Cond.code yX6_rungOf prog_8_method_4_code (4 : Nat) (Option.some Jvm.ClassFile.FieldType.int)) ∈ wAll := tm_2 (List.mem_of_getElem? (i := 22) rfl) rfl
theorem tw_2_23 : (Jvm.Cond.methodLink "LadderClub" (86 : Nat) yX11_move) ∈ wAll := tm_2 (List.mem_of_getElem? (i := 23) rfl) rfl
theorem tw_2_24 : (Jvm.Cond.static yX11_move) ∈ wAll := tm_2 (List.mem_of_getElem? (i := 24) rfl) rfl
theorem tw_2_25 : (Jvm.Cond.code yX11_move prog_1_method_55_code (5 : Nat) (Option.none : Option Jvm.ClassFile.FieldType)) ∈ wAll := tm_2 (List.mem_of_getElem? (i := 25) rfl) rfl
theorem tw_2_26 : (Jvm.Cond.methodLink "LadderClubLaw" (36 : Nat) yX11_far) ∈ wAll := tm_2 (List.mem_of_getElem? (i := 26) rfl) rfl
theorem tw_2_27 : (Jvm.Cond.instanceMethod yX11_far) ∈ wAll := tm_2 (List.mem_of_getElem? (i := 27) rfl) rfl
theorem tw_2_28 : (Jvm.Cond.selects "LadderClub" yX11_far yX11_far) ∈ wAll := tm_2 (List.mem_of_getElem? (i := 28) rfl) rfl
theorem tw_2_29 : (Jvm.Cond.code yX11_far prog_1_method_7_code (4 : Nat) (Option.some Jvm.ClassFile.FieldType.int)) ∈ wAll := tm_2 (List.mem_of_getElem? (i := 29) rfl) rfl
theorem tw_2_30 : (Jvm.Cond.methodLink "LadderClubLaw" (42 : Nat) yX11_feed) ∈ wAll := tm_2 (List.mem_of_getElem? (i := 30) rfl) rfl
theorem tw_2_31 : (Jvm.Cond.instanceMethod yX11_feed) ∈ wAll := tm_2 (List.mem_of_getElem? (i := 31) rfl) rfl
theorem tw_2_32 : (Jvm.Cond.selects "LadderClub" yX11_feed yX11_feed) ∈ wAll := tm_2 (List.mem_of_getElem? (i := 32) rfl) rfl
theorem tw_2_33 : (Jvm.Cond.code yX11_feed prog_1_method_8_code (5 : Nat) (Option.some Jvm.ClassFile.FieldType.int)) ∈ wAll := tm_2 (List.mem_of_getElem? (i := 33) rfl) rfl
theorem tw_2_34 : (Jvm.Cond.methodLink "LadderClubLaw" (47 : Nat) yX11_club) ∈ wAll := tm_2 (List.mem_of_getElem? (i := 34) rfl) rfl
theorem tw_2_35 : (Jvm.Cond.instanceMethod yX11_club) ∈ wAll := tm_2 (List.mem_of_getElem? (i := 35) rfl) rfl
theorem tw_2_36 : (Jvm.Cond.selects "LadderClub" yX11_club yX11_club) ∈ wAll := tm_2 (List.mem_of_getElem? (i := 36) rfl) rfl
theorem tw_2_37 : (Jvm.Cond.code yX11_club prog_1_method_9_code (2 : Nat) (Option.some Jvm.ClassFile.FieldType.int)) ∈ wAll := tm_2 (List.mem_of_getElem? (i := 37) rfl) rfl
theorem tw_2_38 : (Jvm.Cond.methodLink "LadderClub" (100 : Nat) yX3_read) ∈ wAll := tm_2 (List.mem_of_getElem? (i := 38) rfl) rfl
theorem tw_2_39 : (Jvm.Cond.instanceMethod yX3_read) ∈ wAll := tm_2 (List.mem_of_getElem? (i := 39) rfl) rfl
theorem tw_2_40 : (Jvm.Cond.selects "LadderClub$ClubReader" yX3_read yX3_read) ∈ wAll := tm_2 (List.mem_of_getElem? (i := 40) rfl) rfl
theorem tw_2_41 : (Jvm.Cond.code yX3_read prog_5_method_2_code (4 : Nat) (Option.some (Jvm.ClassFile.FieldType.object "LadderClub$Club"))) ∈ wAll := tm_2 (List.mem_of_getElem? (i := 41) rfl) rfl
theorem tw_2_42 : (Jvm.Cond.methodLink "LadderClub$ClubReader" (37 : Nat) yX3_readClause) ∈ wAll := tm_2 (List.mem_of_getElem? (i := 42) rfl) rfl
theorem tw_2_44 : (Jvm.Cond.instanceMethod yX3_readClause) ∈ wAll := tm_2 (List.mem_of_getElem? (i := 44) rfl) rfl
theorem tw_2_45 : (Jvm.Cond.code yX3_readClause prog_5_method_5_code (1 : Nat) (Option.some Jvm.ClassFile.FieldType.boolean)) ∈ wAll := tm_2 (List.mem_of_getElem? (i := 45) rfl) rfl
theorem tw_2_47 : (Jvm.Cond.methodLink "LadderClub$ClubReader" (60 : Nat) yX3_takeOneOf) ∈ wAll := tm_2 (List.mem_of_getElem? (i := 47) rfl) rfl
theorem tw_2_49 : (Jvm.Cond.instanceMethod yX3_takeOneOf) ∈ wAll := tm_2 (List.mem_of_getElem? (i := 49) rfl) rfl
theorem tw_2_50 : (Jvm.Cond.code yX3_takeOneOf prog_5_method_14_code (3 : Nat) (Option.some Jvm.ClassFile.FieldType.int)) ∈ wAll := tm_2 (List.mem_of_getElem? (i := 50) rfl) rfl
theorem tw_2_51 : (Jvm.Cond.methodLink "LadderClub$ClubReader" (119 : Nat) yJ0_indexOf_0f7a4) ∈ wAll := tm_2 (List.mem_of_getElem? (i := 51) rfl) rfl
theorem tw_2_52 : (Jvm.Cond.instanceMethod yJ0_indexOf_0f7a4) ∈ wAll := tm_2 (List.mem_of_getElem? (i := 52) rfl) rfl
theorem tw_2_53 : (Jvm.Cond.selects "java/lang/String" yJ0_indexOf_0f7a4 yJ0_indexOf_0f7a4) ∈ wAll := tm_2 (List.mem_of_getElem? (i := 53) rfl) rfl
theorem tw_2_54 : (Jvm.Cond.code yJ0_indexOf_0f7a4 prog_17_method_79_code (2 : Nat) (Option.some Jvm.ClassFile.FieldType.int)) ∈ wAll := tm_2 (List.mem_of_getElem? (i := 54) rfl) rfl
theorem tw_2_55 : (Jvm.Cond.methodLink "java/lang/String" (633 : Nat) yJ0_indexOf_7cf53) ∈ wAll := tm_2 (List.mem_of_getElem? (i := 55) rfl) rfl
theorem tw_2_56 : (Jvm.Cond.instanceMethod yJ0_indexOf_7cf53) ∈ wAll := tm_2 (List.mem_of_getElem? (i := 56) rfl) rfl
theorem tw_2_57 : (Jvm.Cond.selects "java/lang/String" yJ0_indexOf_7cf53 yJ0_indexOf_7cf53) ∈ wAll := tm_2 (List.mem_of_getElem? (i := 57) rfl) rfl
theorem tw_2_58 : (Jvm.Cond.code yJ0_indexOf_7cf53 prog_17_method_80_code (3 : Nat) (Option.some Jvm.ClassFile.FieldType.int)) ∈ wAll := tm_2 (List.mem_of_getElem? (i := 58) rfl) rfl
theorem tw_2_59 : (Jvm.Cond.methodLink "java/lang/String" (492 : Nat) yJ0_isLatin1_aae02) ∈ wAll := tm_2 (List.mem_of_getElem? (i := 59) rfl) rfl
theorem tw_2_60 : (Jvm.Cond.instanceMethod yJ0_isLatin1_aae02) ∈ wAll := tm_2 (List.mem_of_getElem? (i := 60) rfl) rfl
theorem tw_2_61 : (Jvm.Cond.selects "java/lang/String" yJ0_isLatin1_aae02 yJ0_isLatin1_aae02) ∈ wAll := tm_2 (List.mem_of_getElem? (i := 61) rfl) rfl
theorem tw_2_62 : (Jvm.Cond.code yJ0_isLatin1_aae02 prog_17_method_154_code (1 : Nat) (Option.some Jvm.ClassFile.FieldType.boolean)) ∈ wAll := tm_2 (List.mem_of_getElem? (i := 62) rfl) rfl
theorem tw_2_63 : (Jvm.Cond.fieldLink "java/lang/String" (38 : Nat) "java/lang/String" "COMPACT_STRINGS" "Z") ∈ wAll := tm_2 (List.mem_of_getElem? (i := 63) rfl) rfl
theorem tw_2_65 : (Jvm.Cond.methodLink "java/lang/String" (505 : Nat) yJ0_length_8abf5) ∈ wAll := tm_2 (List.mem_of_getElem? (i := 65) rfl) rfl
theorem tw_2_66 : (Jvm.Cond.instanceMethod yJ0_length_8abf5) ∈ wAll := tm_2 (List.mem_of_getElem? (i := 66) rfl) rfl
theorem tw_2_67 : (Jvm.Cond.selects "java/lang/String" yJ0_length_8abf5 yJ0_length_8abf5) ∈ wAll := tm_2 (List.mem_of_getElem? (i := 67) rfl) rfl
theorem tw_2_68 : (Jvm.Cond.code yJ0_length_8abf5 prog_17_method_54_code (1 : Nat) (Option.some Jvm.ClassFile.FieldType.int)) ∈ wAll := tm_2 (List.mem_of_getElem? (i := 68) rfl) rfl
theorem tw_2_69 : (Jvm.Cond.methodLink "java/lang/String" (335 : Nat) yJ0_coder_7d493) ∈ wAll := tm_2 (List.mem_of_getElem? (i := 69) rfl) rfl
theorem tw_2_70 : (Jvm.Cond.instanceMethod yJ0_coder_7d493) ∈ wAll := tm_2 (List.mem_of_getElem? (i := 70) rfl) rfl
theorem tw_2_71 : (Jvm.Cond.selects "java/lang/String" yJ0_coder_7d493 yJ0_coder_7d493) ∈ wAll := tm_2 (List.mem_of_getElem? (i := 71) rfl) rfl
theorem tw_2_72 : (Jvm.Cond.code yJ0_coder_7d493 prog_17_method_152_code (1 : Nat) (Option.some Jvm.ClassFile.FieldType.byte)) ∈ wAll := tm_2 (List.mem_of_getElem? (i := 72) rfl) rfl
theorem tw_2_73 : (Jvm.Cond.methodLink "java/lang/String" (637 : Nat) yJ1_indexOf_4cfef) ∈ wAll := tm_2 (List.mem_of_getElem? (i := 73) rfl) rfl
theorem tw_2_74 : (Jvm.Cond.static yJ1_indexOf_4cfef) ∈ wAll := tm_2 (List.mem_of_getElem? (i := 74) rfl) rfl
theorem tw_2_75 : (Jvm.Cond.code yJ1_indexOf_4cfef prog_18_method_22_code (4 : Nat) (Option.some Jvm.ClassFile.FieldType.int)) ∈ wAll := tm_2 (List.mem_of_getElem? (i := 75) rfl) rfl
theorem tw_2_76 : (Jvm.Cond.methodLink "java/lang/StringLatin1" (88 : Nat) yJ1_canEncode_9a6ad) ∈ wAll := tm_2 (List.mem_of_getElem? (i := 76) rfl) rfl
theorem tw_2_77 : (Jvm.Cond.static yJ1_canEncode_9a6ad) ∈ wAll := tm_2 (List.mem_of_getElem? (i := 77) rfl) rfl
theorem tw_2_78 : (Jvm.Cond.code yJ1_canEncode_9a6ad prog_18_method_4_code (1 : Nat) (Option.some Jvm.ClassFile.FieldType.boolean)) ∈ wAll := tm_2 (List.mem_of_getElem? (i := 78) rfl) rfl
theorem tw_2_79 : (Jvm.Cond.methodLink "java/lang/StringLatin1" (92 : Nat) yJ9_max_7cf53) ∈ wAll := tm_2 (List.mem_of_getElem? (i := 79) rfl) rfl
theorem tw_2_80 : (Jvm.Cond.static yJ9_max_7cf53) ∈ wAll := tm_2 (List.mem_of_getElem? (i := 80) rfl) rfl
theorem tw_2_81 : (Jvm.Cond.code yJ9_max_7cf53 prog_16_method_65_code (2 : Nat) (Option.some Jvm.ClassFile.FieldType.int)) ∈ wAll := tm_2 (List.mem_of_getElem? (i := 81) rfl) rfl
theorem tw_2_82 : (Jvm.Cond.methodLink "java/lang/StringLatin1" (38 : Nat) yJ9_min_7cf53) ∈ wAll := tm_2 (List.mem_of_getElem? (i := 82) rfl) rfl
theorem tw_2_83 : (Jvm.Cond.static yJ9_min_7cf53) ∈ wAll := tm_2 (List.mem_of_getElem? (i := 83) rfl) rfl
theorem tw_2_84 : (Jvm.Cond.code yJ9_min_7cf53 prog_16_method_69_code (2 : Nat) (Option.some Jvm.ClassFile.FieldType.int)) ∈ wAll := tm_2 (List.mem_of_getElem? (i := 84) rfl) rfl
theorem tw_2_85 : (Jvm.Cond.methodLink "java/lang/StringLatin1" (95 : Nat) yJ1_indexOfChar_4cfef) ∈ wAll := tm_2 (List.mem_of_getElem? (i := 85) rfl) rfl
theorem tw_2_86 : (Jvm.Cond.static yJ1_indexOfChar_4cfef) ∈ wAll := tm_2 (List.mem_of_getElem? (i := 86) rfl) rfl
theorem tw_2_87 : (Jvm.Cond.code yJ1_indexOfChar_4cfef prog_18_method_23_code (6 : Nat) (Option.some Jvm.ClassFile.FieldType.int)) ∈ wAll := tm_2 (List.mem_of_getElem? (i := 87) rfl) rfl
theorem tw_2_88 : (Jvm.Cond.methodLink "java/lang/String" (640 : Nat) yJ2_indexOf_4cfef) ∈ wAll := tm_2 (List.mem_of_getElem? (i := 88) rfl) rfl
theorem tw_2_89 : (Jvm.Cond.static yJ2_indexOf_4cfef) ∈ wAll := tm_2 (List.mem_of_getElem? (i := 89) rfl) rfl
theorem tw_2_90 : (Jvm.Cond.code yJ2_indexOf_4cfef prog_19_method_40_code (4 : Nat) (Option.some Jvm.ClassFile.FieldType.int)) ∈ wAll := tm_2 (List.mem_of_getElem? (i := 90) rfl) rfl
theorem tw_2_91 : (Jvm.Cond.methodLink "java/lang/StringUTF16" (224 : Nat) yJ9_max_7cf53) ∈ wAll := tm_2 (List.mem_of_getElem? (i := 91) rfl) rfl
theorem tw_2_92 : (Jvm.Cond.methodLink "java/lang/StringUTF16" (183 : Nat) yJ9_min_7cf53) ∈ wAll := tm_2 (List.mem_of_getElem? (i := 92) rfl) rfl
theorem tw_2_93 : (Jvm.Cond.constant "java/lang/StringUTF16" (227 : Nat) (65536 : Int32)) ∈ wAll := tm_2 (List.mem_of_getElem? (i := 93) rfl) rfl
theorem tw_2_94 : (Jvm.Cond.methodLink "java/lang/StringUTF16" (228 : Nat) yJ2_indexOfChar_4cfef) ∈ wAll := tm_2 (List.mem_of_getElem? (i := 94) rfl) rfl
theorem tw_2_95 : (Jvm.Cond.static yJ2_indexOfChar_4cfef) ∈ wAll := tm_2 (List.mem_of_getElem? (i := 95) rfl) rfl
theorem tw_2_96 : (Jvm.Cond.code yJ2_indexOfChar_4cfef prog_19_method_47_code (4 : Nat) (Option.some Jvm.ClassFile.FieldType.int)) ∈ wAll := tm_2 (List.mem_of_getElem? (i := 96) rfl) rfl
theorem tw_2_97 : (Jvm.Cond.methodLink "java/lang/StringUTF16" (96 : Nat) yJ2_checkBoundsBeginEnd_d044e) ∈ wAll := tm_2 (List.mem_of_getElem? (i := 97) rfl) rfl
theorem tw_2_98 : (Jvm.Cond.static yJ2_checkBoundsBeginEnd_d044e) ∈ wAll := tm_2 (List.mem_of_getElem? (i := 98) rfl) rfl
theorem tw_2_99 : (Jvm.Cond.code yJ2_checkBoundsBeginEnd_d044e prog_19_method_93_code (3 : Nat) (Option.none : Option Jvm.ClassFile.FieldType)) ∈ wAll := tm_2 (List.mem_of_getElem? (i := 99) rfl) rfl
theorem tw_2_100 : (Jvm.Cond.methodLink "java/lang/StringUTF16" (48 : Nat) yJ2_length_9d52b) ∈ wAll := tm_2 (List.mem_of_getElem? (i := 100) rfl) rfl
theorem tw_2_101 : (Jvm.Cond.static yJ2_length_9d52b) ∈ wAll := tm_2 (List.mem_of_getElem? (i := 101) rfl) rfl
theorem tw_2_102 : (Jvm.Cond.code yJ2_length_9d52b prog_19_method_6_code (1 : Nat) (Option.some Jvm.ClassFile.FieldType.int)) ∈ wAll := tm_2 (List.mem_of_getElem? (i := 102) rfl) rfl
theorem tw_2_103 : (Jvm.Cond.methodLink "java/lang/StringUTF16" (241 : Nat) yJ0_checkBoundsBeginEnd_23922) ∈ wAll := tm_2 (List.mem_of_getElem? (i := 103) rfl) rfl
theorem tw_2_104 : (Jvm.Cond.static yJ0_checkBoundsBeginEnd_23922) ∈ wAll := tm_2 (List.mem_of_getElem? (i := 104) rfl) rfl
theorem tw_2_105 : (Jvm.Cond.code yJ0_checkBoundsBeginEnd_23922 prog_17_method_158_code (3 : Nat) (Option.none : Option Jvm.ClassFile.FieldType)) ∈ wAll := tm_2 (List.mem_of_getElem? (i := 105) rfl) rfl
theorem tw_2_106 : (Jvm.Cond.fieldLink "java/lang/String" (1053 : Nat) "jdk/internal/util/Preconditions" "SIOOBE_FORMATTER" "Ljava/util/function/BiFunction;") ∈ wAll := tm_2 (List.mem_of_getElem? (i := 106) rfl) rfl
theorem tw_2_108 : (Jvm.Cond.methodLink "java/lang/String" (1062 : Nat) yJ3_checkFromToIndex_8c36e) ∈ wAll := tm_2 (List.mem_of_getElem? (i := 108) rfl) rfl
theorem tw_2_109 : (Jvm.Cond.static yJ3_checkFromToIndex_8c36e) ∈ wAll := tm_2 (List.mem_of_getElem? (i := 109) rfl) rfl
theorem tw_2_110 : (Jvm.Cond.code yJ3_checkFromToIndex_8c36e prog_21_method_12_code (4 : Nat) (Option.some Jvm.ClassFile.FieldType.int)) ∈ wAll := tm_2 (List.mem_of_getElem? (i := 110) rfl) rfl
theorem tw_2_111 : (Jvm.Cond.methodLink "java/lang/StringUTF16" (244 : Nat) yJ2_indexOfCharUnsafe_4cfef) ∈ wAll := tm_2 (List.mem_of_getElem? (i := 111) rfl) rfl
theorem tw_2_112 : (Jvm.Cond.static yJ2_indexOfCharUnsafe_4cfef) ∈ wAll := tm_2 (List.mem_of_getElem? (i := 112) rfl) rfl
theorem tw_2_113 : (Jvm.Cond.code yJ2_indexOfCharUnsafe_4cfef prog_19_method_48_code (5 : Nat) (Option.some Jvm.ClassFile.FieldType.int)) ∈ wAll := tm_2 (List.mem_of_getElem? (i := 113) rfl) rfl
theorem tw_2_114 : (Jvm.Cond.methodLink "java/lang/StringUTF16" (71 : Nat) yJ2_getChar_3b067) ∈ wAll := tm_2 (List.mem_of_getElem? (i := 114) rfl) rfl
theorem tw_2_115 : (Jvm.Cond.static yJ2_getChar_3b067) ∈ wAll := tm_2 (List.mem_of_getElem? (i := 115) rfl) rfl
theorem tw_2_116 : (Jvm.Cond.code yJ2_getChar_3b067 prog_19_method_5_code (2 : Nat) (Option.some Jvm.ClassFile.FieldType.char)) ∈ wAll := tm_2 (List.mem_of_getElem? (i := 116) rfl) rfl
theorem tw_2_117 : (Jvm.Cond.fieldLink "java/lang/StringUTF16" (44 : Nat) "java/lang/StringUTF16" "$assertionsDisabled" "Z") ∈ wAll := tm_2 (List.mem_of_getElem? (i := 117) rfl) rfl
theorem tw_2_119 : (Jvm.Cond.fieldLink "java/lang/StringUTF16" (59 : Nat) "java/lang/StringUTF16" "HI_BYTE_SHIFT" "I") ∈ wAll := tm_2 (List.mem_of_getElem? (i := 119) rfl) rfl
theorem tw_2_121 : (Jvm.Cond.fieldLink "java/lang/StringUTF16" (63 : Nat) "java/lang/StringUTF16" "LO_BYTE_SHIFT" "I") ∈ wAll := tm_2 (List.mem_of_getElem? (i := 121) rfl) rfl
theorem tw_2_123 : (Jvm.Cond.methodLink "java/lang/StringUTF16" (232 : Nat) yJ2_indexOfSupplementary_4cfef) ∈ wAll := tm_2 (List.mem_of_getElem? (i := 123) rfl) rfl
theorem tw_2_124 : (Jvm.Cond.static yJ2_indexOfSupplementary_4cfef) ∈ wAll := tm_2 (List.mem_of_getElem? (i := 124) rfl) rfl
theorem tw_2_125 : (Jvm.Cond.code yJ2_indexOfSupplementary_4cfef prog_19_method_49_code (7 : Nat) (Option.some Jvm.ClassFile.FieldType.int)) ∈ wAll := tm_2 (List.mem_of_getElem? (i := 125) rfl) rfl
theorem tw_2_126 : (Jvm.Cond.methodLink "java/lang/StringUTF16" (164 : Nat) yJ11_isValidCodePoint_9a6ad) ∈ wAll := tm_2 (List.mem_of_getElem? (i := 126) rfl) rfl
theorem tw_2_127 : (Jvm.Cond.static yJ11_isValidCodePoint_9a6ad) ∈ wAll := tm_2 (List.mem_of_getElem? (i := 127) rfl) rfl
theorem tw_2_128 : (Jvm.Cond.code yJ11_isValidCodePoint_9a6ad prog_15_method_11_code (2 : Nat) (Option.some Jvm.ClassFile.FieldType.boolean)) ∈ wAll := tm_2 (List.mem_of_getElem? (i := 128) rfl) rfl
theorem tw_2_129 : (Jvm.Cond.methodLink "java/lang/StringUTF16" (157 : Nat) yJ11_highSurrogate_5068e) ∈ wAll := tm_2 (List.mem_of_getElem? (i := 129) rfl) rfl
theorem tw_2_130 : (Jvm.Cond.static yJ11_highSurrogate_5068e) ∈ wAll := tm_2 (List.mem_of_getElem? (i := 130) rfl) rfl
theorem tw_2_131 : (Jvm.Cond.code yJ11_highSurrogate_5068e prog_15_method_28_code (1 : Nat) (Option.some Jvm.ClassFile.FieldType.char)) ∈ wAll := tm_2 (List.mem_of_getElem? (i := 131) rfl) rfl
theorem tw_2_132 : (Jvm.Cond.constant "java/lang/Character" (110 : Nat) (55232 : Int32)) ∈ wAll := tm_2 (List.mem_of_getElem? (i := 132) rfl) rfl
theorem tw_2_133 : (Jvm.Cond.methodLink "java/lang/StringUTF16" (161 : Nat) yJ11_lowSurrogate_5068e) ∈ wAll := tm_2 (List.mem_of_getElem? (i := 133) rfl) rfl
theorem tw_2_134 : (Jvm.Cond.static yJ11_lowSurrogate_5068e) ∈ wAll := tm_2 (List.mem_of_getElem? (i := 134) rfl) rfl
theorem tw_2_135 : (Jvm.Cond.code yJ11_lowSurrogate_5068e prog_15_method_29_code (1 : Nat) (Option.some Jvm.ClassFile.FieldType.char)) ∈ wAll := tm_2 (List.mem_of_getElem? (i := 135) rfl) rfl
theorem tw_2_136 : (Jvm.Cond.constant "java/lang/Character" (76 : Nat) (56320 : Int32)) ∈ wAll := tm_2 (List.mem_of_getElem? (i := 136) rfl) rfl
theorem tw_2_138 : (Jvm.Cond.methodLink "LadderClub$ClubReader" (66 : Nat) yX3_takeWord) ∈ wAll := tm_2 (List.mem_of_getElem? (i := 138) rfl) rfl
theorem tw_2_140 : (Jvm.Cond.instanceMethod yX3_takeWord) ∈ wAll := tm_2 (List.mem_of_getElem? (i := 140) rfl) rfl
theorem tw_2_141 : (Jvm.Cond.code yX3_takeWord prog_5_method_13_code (3 : Nat) (Option.some Jvm.ClassFile.FieldType.boolean)) ∈ wAll := tm_2 (List.mem_of_getElem? (i := 141) rfl) rfl
theorem tw_2_142 : (Jvm.Cond.methodLink "LadderClub$ClubReader" (111 : Nat) yJ0_length_8abf5) ∈ wAll := tm_2 (List.mem_of_getElem? (i := 142) rfl) rfl
theorem tw_2_143 : (Jvm.Cond.methodLink "LadderClub$ClubReader" (115 : Nat) yJ0_charAt_5068e) ∈ wAll := tm_2 (List.mem_of_getElem? (i := 143) rfl) rfl
theorem tw_2_144 : (Jvm.Cond.instanceMethod yJ0_charAt_5068e) ∈ wAll := tm_2 (List.mem_of_getElem? (i := 144) rfl) rfl
theorem tw_2_145 : (Jvm.Cond.selects "java/lang/String" yJ0_charAt_5068e yJ0_charAt_5068e) ∈ wAll := tm_2 (List.mem_of_getElem? (i := 145) rfl) rfl
theorem tw_2_146 : (Jvm.Cond.code yJ0_charAt_5068e prog_17_method_56_code (2 : Nat) (Option.some Jvm.ClassFile.FieldType.char)) ∈ wAll := tm_2 (List.mem_of_getElem? (i := 146) rfl) rfl
theorem tw_2_147 : (Jvm.Cond.methodLink "java/lang/String" (495 : Nat) yJ1_charAt_3b067) ∈ wAll := tm_2 (List.mem_of_getElem? (i := 147) rfl) rfl
theorem tw_2_148 : (Jvm.Cond.static yJ1_charAt_3b067) ∈ wAll := tm_2 (List.mem_of_getElem? (i := 148) rfl) rfl
theorem tw_2_149 : (Jvm.Cond.code yJ1_charAt_3b067 prog_18_method_2_code (2 : Nat) (Option.some Jvm.ClassFile.FieldType.char)) ∈ wAll := tm_2 (List.mem_of_getElem? (i := 149) rfl) rfl
theorem tw_2_150 : (Jvm.Cond.methodLink "java/lang/StringLatin1" (9 : Nat) yJ0_checkIndex_df160) ∈ wAll := tm_2 (List.mem_of_getElem? (i := 150) rfl) rfl
theorem tw_2_151 : (Jvm.Cond.static yJ0_checkIndex_df160) ∈ wAll := tm_2 (List.mem_of_getElem? (i := 151) rfl) rfl
theorem tw_2_152 : (Jvm.Cond.code yJ0_checkIndex_df160 prog_17_method_155_code (2 : Nat) (Option.none : Option Jvm.ClassFile.FieldType)) ∈ wAll := tm_2 (List.mem_of_getElem? (i := 152) rfl) rfl
theorem tw_2_153 : (Jvm.Cond.methodLink "java/lang/String" (1059 : Nat) yJ3_checkIndex_8e157) ∈ wAll := tm_2 (List.mem_of_getElem? (i := 153) rfl) rfl
theorem tw_2_154 : (Jvm.Cond.static yJ3_checkIndex_8e157) ∈ wAll := tm_2 (List.mem_of_getElem? (i := 154) rfl) rfl
theorem tw_2_155 : (Jvm.Cond.code yJ3_checkIndex_8e157 prog_21_method_11_code (3 : Nat) (Option.some Jvm.ClassFile.FieldType.int)) ∈ wAll := tm_2 (List.mem_of_getElem? (i := 155) rfl) rfl
theorem tw_2_156 : (Jvm.Cond.methodLink "java/lang/String" (498 : Nat) yJ2_charAt_3b067) ∈ wAll := tm_2 (List.mem_of_getElem? (i := 156) rfl) rfl
theorem tw_2_157 : (Jvm.Cond.static yJ2_charAt_3b067) ∈ wAll := tm_2 (List.mem_of_getElem? (i := 157) rfl) rfl
theorem tw_2_158 : (Jvm.Cond.code yJ2_charAt_3b067 prog_19_method_83_code (2 : Nat) (Option.some Jvm.ClassFile.FieldType.char)) ∈ wAll := tm_2 (List.mem_of_getElem? (i := 158) rfl) rfl
theorem tw_2_159 : (Jvm.Cond.methodLink "java/lang/StringUTF16" (67 : Nat) yJ2_checkIndex_2214a) ∈ wAll := tm_2 (List.mem_of_getElem? (i := 159) rfl) rfl
theorem tw_2_160 : (Jvm.Cond.static yJ2_checkIndex_2214a) ∈ wAll := tm_2 (List.mem_of_getElem? (i := 160) rfl) rfl
theorem tw_2_161 : (Jvm.Cond.code yJ2_checkIndex_2214a prog_19_method_91_code (2 : Nat) (Option.none : Option Jvm.ClassFile.FieldType)) ∈ wAll := tm_2 (List.mem_of_getElem? (i := 161) rfl) rfl
theorem tw_2_162 : (Jvm.Cond.methodLink "java/lang/StringUTF16" (414 : Nat) yJ0_checkIndex_df160) ∈ wAll := tm_2 (List.mem_of_getElem? (i := 162) rfl) rfl
theorem tw_2_163 : (Jvm.Cond.methodLink "LadderClub$ClubReader" (48 : Nat) yX3_take) ∈ wAll := tm_2 (List.mem_of_getElem? (i := 163) rfl) rfl
theorem tw_2_165 : (Jvm.Cond.instanceMethod yX3_take) ∈ wAll := tm_2 (List.mem_of_getElem? (i := 165) rfl) rfl
theorem tw_2_166 : (Jvm.Cond.code yX3_take prog_5_method_12_code (2 : Nat) (Option.some Jvm.ClassFile.FieldType.boolean)) ∈ wAll := tm_2 (List.mem_of_getElem? (i := 166) rfl) rfl
theorem tw_2_167 : (Jvm.Cond.methodLink "LadderClub$ClubReader" (70 : Nat) yX3_readUp) ∈ wAll := tm_2 (List.mem_of_getElem? (i := 167) rfl) rfl
theorem tw_2_169 : (Jvm.Cond.instanceMethod yX3_readUp) ∈ wAll := tm_2 (List.mem_of_getElem? (i := 169) rfl) rfl
theorem tw_2_170 : (Jvm.Cond.code yX3_readUp prog_5_method_6_code (1 : Nat) (Option.some Jvm.ClassFile.FieldType.boolean)) ∈ wAll := tm_2 (List.mem_of_getElem? (i := 170) rfl) rfl
theorem tw_2_171 : (Jvm.Cond.methodLink "LadderClub$ClubReader" (89 : Nat) yX3_readNumber) ∈ wAll := tm_2 (List.mem_of_getElem? (i := 171) rfl) rfl
theorem tw_2_173 : (Jvm.Cond.instanceMethod yX3_readNumber) ∈ wAll := tm_2 (List.mem_of_getElem? (i := 173) rfl) rfl
theorem tw_2_174 : (Jvm.Cond.code yX3_readNumber prog_5_method_11_code (3 : Nat) (Option.some Jvm.ClassFile.FieldType.int)) ∈ wAll := tm_2 (List.mem_of_getElem? (i := 174) rfl) rfl
theorem tw_2_177 : (Jvm.Cond.methodLink "LadderClub$ClubReader" (75 : Nat) yX3_readWins) ∈ wAll := tm_2 (List.mem_of_getElem? (i := 177) rfl) rfl
theorem tw_2_179 : (Jvm.Cond.instanceMethod yX3_readWins) ∈ wAll := tm_2 (List.mem_of_getElem? (i := 179) rfl) rfl
theorem tw_2_180 : (Jvm.Cond.code yX3_readWins prog_5_method_7_code (1 : Nat) (Option.some Jvm.ClassFile.FieldType.boolean)) ∈ wAll := tm_2 (List.mem_of_getElem? (i := 180) rfl) rfl
theorem tw_2_183 : (Jvm.Cond.methodLink "LadderClub$ClubReader" (80 : Nat) yX3_readEither) ∈ wAll := tm_2 (List.mem_of_getElem? (i := 183) rfl) rfl
theorem tw_2_185 : (Jvm.Cond.instanceMethod yX3_readEither) ∈ wAll := tm_2 (List.mem_of_getElem? (i := 185) rfl) rfl
theorem tw_2_186 : (Jvm.Cond.code yX3_readEither prog_5_method_8_code (3 : Nat) (Option.some Jvm.ClassFile.FieldType.boolean)) ∈ wAll := tm_2 (List.mem_of_getElem? (i := 186) rfl) rfl
theorem tw_2_187 : (Jvm.Cond.methodLink "LadderClub$ClubReader" (95 : Nat) yX3_readBoth) ∈ wAll := tm_2 (List.mem_of_getElem? (i := 187) rfl) rfl
theorem tw_2_189 : (Jvm.Cond.instanceMethod yX3_readBoth) ∈ wAll := tm_2 (List.mem_of_getElem? (i := 189) rfl) rfl
theorem tw_2_190 : (Jvm.Cond.code yX3_readBoth prog_5_method_9_code (3 : Nat) (Option.some Jvm.ClassFile.FieldType.boolean)) ∈ wAll := tm_2 (List.mem_of_getElem? (i := 190) rfl) rfl
theorem tw_2_191 : (Jvm.Cond.methodLink "LadderClub$ClubReader" (98 : Nat) yX3_readFactor) ∈ wAll := tm_2 (List.mem_of_getElem? (i := 191) rfl) rfl
theorem tw_2_193 : (Jvm.Cond.instanceMethod yX3_readFactor) ∈ wAll := tm_2 (List.mem_of_getElem? (i := 193) rfl) rfl
theorem tw_2_194 : (Jvm.Cond.code yX3_readFactor prog_5_method_10_code (5 : Nat) (Option.some Jvm.ClassFile.FieldType.boolean)) ∈ wAll := tm_2 (List.mem_of_getElem? (i := 194) rfl) rfl
theorem tw_2_195 : (Jvm.Cond.methodLink "LadderClub$ClubReader" (84 : Nat) yX3_put) ∈ wAll := tm_2 (List.mem_of_getElem? (i := 195) rfl) rfl
theorem tw_2_197 : (Jvm.Cond.instanceMethod yX3_put) ∈ wAll := tm_2 (List.mem_of_getElem? (i := 197) rfl) rfl
theorem tw_2_198 : (Jvm.Cond.code yX3_put prog_5_method_15_code (2 : Nat) (Option.some Jvm.ClassFile.FieldType.boolean)) ∈ wAll := tm_2 (List.mem_of_getElem? (i := 198) rfl) rfl
theorem tw_2_201 : (Jvm.Cond.methodLink "LadderClub$ClubReader" (105 : Nat) yX2_testOf) ∈ wAll := tm_2 (List.mem_of_getElem? (i := 201) rfl) rfl
theorem tw_2_202 : (Jvm.Cond.static yX2_testOf) ∈ wAll := tm_2 (List.mem_of_getElem? (i := 202) rfl) rfl
theorem tw_2_203 : (Jvm.Cond.code yX2_testOf prog_4_method_2_code (3 : Nat) (Option.some Jvm.ClassFile.FieldType.int)) ∈ wAll := tm_2 (List.mem_of_getElem? (i := 203) rfl) rfl
theorem tw_2_205 : (Jvm.Cond.classLink "LadderClub$ClubReader" (32 : Nat) "LadderClub$Club") ∈ wAll := tm_2 (List.mem_of_getElem? (i := 205) rfl) rfl
theorem tw_2_206 : (Jvm.Cond.instantiable "LadderClub$Club" (3 : Nat)) ∈ wAll := tm_2 (List.mem_of_getElem? (i := 206) rfl) rfl
theorem tw_2_207 : (Jvm.Cond.methodLink "LadderClub$ClubReader" (41 : Nat) yX3_ownCode) ∈ wAll := tm_2 (List.mem_of_getElem? (i := 207) rfl) rfl
theorem tw_2_209 : (Jvm.Cond.instanceMethod yX3_ownCode) ∈ wAll := tm_2 (List.mem_of_getElem? (i := 209) rfl) rfl
theorem tw_2_210 : (Jvm.Cond.code yX3_ownCode prog_5_method_4_code (2 : Nat) (Option.some (Jvm.ClassFile.FieldType.array Jvm.ClassFile.FieldType.int))) ∈ wAll := tm_2 (List.mem_of_getElem? (i := 210) rfl) rfl
theorem tw_2_211 : (Jvm.Cond.methodLink "LadderClub$ClubReader" (52 : Nat) ({ cls := "java/lang/System", name := "arraycopy", desc := "(Ljava/lang/Object;ILjava/lang/Object;II)V" } : Jvm.MethodName)) ∈ wAll := tm_2 (List.mem_of_getElem? (i := 211) rfl) rfl
theorem tw_2_212 : (Jvm.Cond.static ({ cls := "java/lang/System", name := "arraycopy", desc := "(Ljava/lang/Object;ILjava/lang/Object;II)V" } : Jvm.MethodName)) ∈ wAll := tm_2 (List.mem_of_getElem? (i := 212) rfl) rfl
theorem tw_2_213 : (Jvm.Cond.native ({ cls := "java/lang/System", name := "arraycopy", desc := "(Ljava/lang/Object;ILjava/lang/Object;II)V" } : Jvm.MethodName)) ∈ wAll := tm_2 (List.mem_of_getElem? (i := 213) rfl) rfl
theorem tw_2_214 : (Jvm.Cond.methodLink "LadderClub$ClubReader" (45 : Nat) yX2_init) ∈ wAll := tm_2 (List.mem_of_getElem? (i := 214) rfl) rfl
theorem tw_2_215 : (Jvm.Cond.instanceMethod yX2_init) ∈ wAll := tm_2 (List.mem_of_getElem? (i := 215) rfl) rfl
theorem tw_2_216 : (Jvm.Cond.code yX2_init prog_4_method_1_code (4 : Nat) (Option.none : Option Jvm.ClassFile.FieldType)) ∈ wAll := tm_2 (List.mem_of_getElem? (i := 216) rfl) rfl
theorem tw_2_217 : (Jvm.Cond.methodLink "LadderClub$Club" (1 : Nat) ({ cls := "java/lang/Object", name := "<init>", desc := "()V" } : Jvm.MethodName)) ∈ wAll := tm_2 (List.mem_of_getElem? (i := 217) rfl) rfl
theorem tw_2_218 : (Jvm.Cond.fieldLink "LadderClub$Club" (7 : Nat) "LadderClub$Club" "up" "I") ∈ wAll := tm_2 (List.mem_of_getElem? (i := 218) rfl) rfl
theorem tw_2_220 : (Jvm.Cond.fieldLink "LadderClub$Club" (13 : Nat) "LadderClub$Club" "wins" "I") ∈ wAll := tm_2 (List.mem_of_getElem? (i := 220) rfl) rfl
theorem tw_2_221 : (Jvm.Cond.fieldLink "LadderClub$Club" (16 : Nat) "LadderClub$Club" "code" "[I") ∈ wAll := tm_2 (List.mem_of_getElem? (i := 221) rfl) rfl
theorem tw_2_222 : (Jvm.Cond.laysFinal "LadderClub$Club" "LadderClub$Club" "up" "I") ∈ wAll := tm_2 (List.mem_of_getElem? (i := 222) rfl) rfl
theorem tw_2_224 : (Jvm.Cond.laysFinal "LadderClub$Club" "LadderClub$Club" "wins" "I") ∈ wAll := tm_2 (List.mem_of_getElem? (i := 224) rfl) rfl
theorem tw_2_226 : (Jvm.Cond.laysFinal "LadderClub$Club" "LadderClub$Club" "code" "[I") ∈ wAll := tm_2 (List.mem_of_getElem? (i := 226) rfl) rfl
theorem tw_2_229 : (Jvm.Cond.methodLink "LadderClub" (104 : Nat) yX3_place) ∈ wAll := tm_2 (List.mem_of_getElem? (i := 229) rfl) rfl
theorem tw_2_230 : (Jvm.Cond.instanceMethod yX3_place) ∈ wAll := tm_2 (List.mem_of_getElem? (i := 230) rfl) rfl
theorem tw_2_231 : (Jvm.Cond.selects "LadderClub$ClubReader" yX3_place yX3_place) ∈ wAll := tm_2 (List.mem_of_getElem? (i := 231) rfl) rfl
theorem tw_2_232 : (Jvm.Cond.code yX3_place prog_5_method_3_code (1 : Nat) (Option.some Jvm.ClassFile.FieldType.int)) ∈ wAll := tm_2 (List.mem_of_getElem? (i := 232) rfl) rfl
theorem tw_2_233 : (Jvm.Cond.methodLink "LadderClubLaw" (51 : Nat) yX11_may) ∈ wAll := tm_2 (List.mem_of_getElem? (i := 233) rfl) rfl
theorem tw_2_234 : (Jvm.Cond.instanceMethod yX11_may) ∈ wAll := tm_2 (List.mem_of_getElem? (i := 234) rfl) rfl
theorem tw_2_235 : (Jvm.Cond.selects "LadderClub" yX11_may yX11_may) ∈ wAll := tm_2 (List.mem_of_getElem? (i := 235) rfl) rfl
theorem tw_2_236 : (Jvm.Cond.code yX11_may prog_1_method_10_code (5 : Nat) (Option.some Jvm.ClassFile.FieldType.int)) ∈ wAll := tm_2 (List.mem_of_getElem? (i := 236) rfl) rfl
theorem tw_2_237 : (Jvm.Cond.methodLink "LadderClub" (112 : Nat) yX11_clubAt) ∈ wAll := tm_2 (List.mem_of_getElem? (i := 237) rfl) rfl
theorem tw_2_239 : (Jvm.Cond.instanceMethod yX11_clubAt) ∈ wAll := tm_2 (List.mem_of_getElem? (i := 239) rfl) rfl
theorem tw_3_0 : (Jvm.Cond.code yX11_clubAt prog_1_method_45_code (2 : Nat) (Option.some (Jvm.ClassFile.FieldType.object "LadderClub$Club"))) ∈ wAll := tm_3 (List.mem_of_getElem? (i := 0) rfl) rfl
theorem tw_3_1 : (Jvm.Cond.methodLink "LadderClub" (116 : Nat) yX11_isDay) ∈ wAll := tm_3 (List.mem_of_getElem? (i := 1) rfl) rfl
theorem tw_3_2 : (Jvm.Cond.static yX11_isDay) ∈ wAll := tm_3 (List.mem_of_getElem? (i := 2) rfl) rfl
theorem tw_3_3 : (Jvm.Cond.code yX11_isDay prog_1_method_42_code (1 : Nat) (Option.some Jvm.ClassFile.FieldType.boolean)) ∈ wAll := tm_3 (List.mem_of_getElem? (i := 3) rfl) rfl
theorem tw_3_4 : (Jvm.Cond.methodLink "LadderClub" (119 : Nat) yX6_mayBits) ∈ wAll := tm_3 (List.mem_of_getElem? (i := 4) rfl) rfl
theorem tw_3_5 : (Jvm.Cond.instanceMethod yX6_mayBits) ∈ wAll := tm_3 (List.mem_of_getElem? (i := 5) rfl) rfl
theorem tw_3_6 : (Jvm.Cond.selects "LadderClub$Ladder" yX6_mayBits yX6_mayBits) ∈ wAll := tm_3 (List.mem_of_getElem? (i := 6) rfl) rfl
theorem tw_3_7 : (Jvm.Cond.code yX6_mayBits prog_8_method_8_code (9 : Nat) (Option.some Jvm.ClassFile.FieldType.int)) ∈ wAll := tm_3 (List.mem_of_getElem? (i := 7) rfl) rfl
theorem tw_3_8 : (Jvm.Cond.methodLink "LadderClub$Ladder" (90 : Nat) yX2_lets) ∈ wAll := tm_3 (List.mem_of_getElem? (i := 8) rfl) rfl
theorem tw_3_9 : (Jvm.Cond.instanceMethod yX2_lets) ∈ wAll := tm_3 (List.mem_of_getElem? (i := 9) rfl) rfl
theorem tw_3_10 : (Jvm.Cond.selects "LadderClub$Club" yX2_lets yX2_lets) ∈ wAll := tm_3 (List.mem_of_getElem? (i := 10) rfl) rfl
theorem tw_3_11 : (Jvm.Cond.code yX2_lets prog_4_method_3_code (6 : Nat) (Option.some Jvm.ClassFile.FieldType.boolean)) ∈ wAll := tm_3 (List.mem_of_getElem? (i := 11) rfl) rfl
theorem tw_3_12 : (Jvm.Cond.methodLink "LadderClub$Club" (20 : Nat) yX2_isTrue) ∈ wAll := tm_3 (List.mem_of_getElem? (i := 12) rfl) rfl
theorem tw_3_13 : (Jvm.Cond.static yX2_isTrue) ∈ wAll := tm_3 (List.mem_of_getElem? (i := 13) rfl) rfl
theorem tw_3_14 : (Jvm.Cond.code yX2_isTrue prog_4_method_4_code (4 : Nat) (Option.some Jvm.ClassFile.FieldType.boolean)) ∈ wAll := tm_3 (List.mem_of_getElem? (i := 14) rfl) rfl
theorem tw_3_15 : (Jvm.Cond.methodLink "LadderClubLaw" (55 : Nat) yX11_asker) ∈ wAll := tm_3 (List.mem_of_getElem? (i := 15) rfl) rfl
theorem tw_3_16 : (Jvm.Cond.instanceMethod yX11_asker) ∈ wAll := tm_3 (List.mem_of_getElem? (i := 16) rfl) rfl
theorem tw_3_17 : (Jvm.Cond.selects "LadderClub" yX11_asker yX11_asker) ∈ wAll := tm_3 (List.mem_of_getElem? (i := 17) rfl) rfl
theorem tw_3_18 : (Jvm.Cond.code yX11_asker prog_1_method_11_code (5 : Nat) (Option.some Jvm.ClassFile.FieldType.int)) ∈ wAll := tm_3 (List.mem_of_getElem? (i := 18) rfl) rfl
theorem tw_3_19 : (Jvm.Cond.methodLink "LadderClub" (123 : Nat) yX11_isKind) ∈ wAll := tm_3 (List.mem_of_getElem? (i := 19) rfl) rfl
theorem tw_3_20 : (Jvm.Cond.static yX11_isKind) ∈ wAll := tm_3 (List.mem_of_getElem? (i := 20) rfl) rfl
theorem tw_3_21 : (Jvm.Cond.code yX11_isKind prog_1_method_40_code (1 : Nat) (Option.some Jvm.ClassFile.FieldType.boolean)) ∈ wAll := tm_3 (List.mem_of_getElem? (i := 21) rfl) rfl
theorem tw_3_22 : (Jvm.Cond.methodLink "LadderClub" (130 : Nat) yX0_kind) ∈ wAll := tm_3 (List.mem_of_getElem? (i := 22) rfl) rfl
theorem tw_3_23 : (Jvm.Cond.instanceMethod yX0_kind) ∈ wAll := tm_3 (List.mem_of_getElem? (i := 23) rfl) rfl
theorem tw_3_24 : (Jvm.Cond.selects "LadderClub$Asker" yX0_kind yX0_kind) ∈ wAll := tm_3 (List.mem_of_getElem? (i := 24) rfl) rfl
theorem tw_3_25 : (Jvm.Cond.sameMethod "LadderClub$Asker" "LadderClub$Asker" "kind" "()I") ∈ wAll := tm_3 (List.mem_of_getElem? (i := 25) rfl) rfl
theorem tw_3_26 : (Jvm.Cond.selects "LadderClub$Best" yX0_kind yX1_kind) ∈ wAll := tm_3 (List.mem_of_getElem? (i := 26) rfl) rfl
theorem tw_3_27 : (Jvm.Cond.instanceMethod yX1_kind) ∈ wAll := tm_3 (List.mem_of_getElem? (i := 27) rfl) rfl
theorem tw_3_28 : (Jvm.Cond.code yX1_kind prog_3_method_2_code (1 : Nat) (Option.some Jvm.ClassFile.FieldType.int)) ∈ wAll := tm_3 (List.mem_of_getElem? (i := 28) rfl) rfl
theorem tw_3_29 : (Jvm.Cond.selects "LadderClub$Far" yX0_kind yX5_kind) ∈ wAll := tm_3 (List.mem_of_getElem? (i := 29) rfl) rfl
theorem tw_3_30 : (Jvm.Cond.instanceMethod yX5_kind) ∈ wAll := tm_3 (List.mem_of_getElem? (i := 30) rfl) rfl
theorem tw_3_31 : (Jvm.Cond.code yX5_kind prog_7_method_2_code (1 : Nat) (Option.some Jvm.ClassFile.FieldType.int)) ∈ wAll := tm_3 (List.mem_of_getElem? (i := 31) rfl) rfl
theorem tw_3_32 : (Jvm.Cond.selects "LadderClub$Near" yX0_kind yX7_kind) ∈ wAll := tm_3 (List.mem_of_getElem? (i := 32) rfl) rfl
theorem tw_3_33 : (Jvm.Cond.instanceMethod yX7_kind) ∈ wAll := tm_3 (List.mem_of_getElem? (i := 33) rfl) rfl
theorem tw_3_34 : (Jvm.Cond.code yX7_kind prog_9_method_2_code (1 : Nat) (Option.some Jvm.ClassFile.FieldType.int)) ∈ wAll := tm_3 (List.mem_of_getElem? (i := 34) rfl) rfl
theorem tw_3_35 : (Jvm.Cond.selects "LadderClub$Never" yX0_kind yX8_kind) ∈ wAll := tm_3 (List.mem_of_getElem? (i := 35) rfl) rfl
theorem tw_3_36 : (Jvm.Cond.instanceMethod yX8_kind) ∈ wAll := tm_3 (List.mem_of_getElem? (i := 36) rfl) rfl
theorem tw_3_37 : (Jvm.Cond.code yX8_kind prog_10_method_2_code (1 : Nat) (Option.some Jvm.ClassFile.FieldType.int)) ∈ wAll := tm_3 (List.mem_of_getElem? (i := 37) rfl) rfl
theorem tw_3_38 : (Jvm.Cond.selects "LadderClub$Safe" yX0_kind yX9_kind) ∈ wAll := tm_3 (List.mem_of_getElem? (i := 38) rfl) rfl
theorem tw_3_39 : (Jvm.Cond.instanceMethod yX9_kind) ∈ wAll := tm_3 (List.mem_of_getElem? (i := 39) rfl) rfl
theorem tw_3_40 : (Jvm.Cond.code yX9_kind prog_11_method_2_code (1 : Nat) (Option.some Jvm.ClassFile.FieldType.int)) ∈ wAll := tm_3 (List.mem_of_getElem? (i := 40) rfl) rfl
theorem tw_3_41 : (Jvm.Cond.selects "LadderClub$Told" yX0_kind yX10_kind) ∈ wAll := tm_3 (List.mem_of_getElem? (i := 41) rfl) rfl
theorem tw_3_42 : (Jvm.Cond.instanceMethod yX10_kind) ∈ wAll := tm_3 (List.mem_of_getElem? (i := 42) rfl) rfl
theorem tw_3_43 : (Jvm.Cond.code yX10_kind prog_12_method_2_code (1 : Nat) (Option.some Jvm.ClassFile.FieldType.int)) ∈ wAll := tm_3 (List.mem_of_getElem? (i := 43) rfl) rfl
theorem tw_3_44 : (Jvm.Cond.code yX0_kind prog_2_method_4_code (1 : Nat) (Option.some Jvm.ClassFile.FieldType.int)) ∈ wAll := tm_3 (List.mem_of_getElem? (i := 44) rfl) rfl
theorem tw_3_45 : (Jvm.Cond.methodLink "LadderClub" (135 : Nat) yX11_newAsker) ∈ wAll := tm_3 (List.mem_of_getElem? (i := 45) rfl) rfl
theorem tw_3_46 : (Jvm.Cond.static yX11_newAsker) ∈ wAll := tm_3 (List.mem_of_getElem? (i := 46) rfl) rfl
theorem tw_3_47 : (Jvm.Cond.code yX11_newAsker prog_1_method_61_code (3 : Nat) (Option.some (Jvm.ClassFile.FieldType.object "LadderClub$Asker"))) ∈ wAll := tm_3 (List.mem_of_getElem? (i := 47) rfl) rfl
theorem tw_3_48 : (Jvm.Cond.classLink "LadderClub" (322 : Nat) "LadderClub$Near") ∈ wAll := tm_3 (List.mem_of_getElem? (i := 48) rfl) rfl
theorem tw_3_49 : (Jvm.Cond.instantiable "LadderClub$Near" (2 : Nat)) ∈ wAll := tm_3 (List.mem_of_getElem? (i := 49) rfl) rfl
theorem tw_3_50 : (Jvm.Cond.methodLink "LadderClub" (324 : Nat) yX7_init) ∈ wAll := tm_3 (List.mem_of_getElem? (i := 50) rfl) rfl
theorem tw_3_51 : (Jvm.Cond.instanceMethod yX7_init) ∈ wAll := tm_3 (List.mem_of_getElem? (i := 51) rfl) rfl
theorem tw_3_52 : (Jvm.Cond.code yX7_init prog_9_method_1_code (3 : Nat) (Option.none : Option Jvm.ClassFile.FieldType)) ∈ wAll := tm_3 (List.mem_of_getElem? (i := 52) rfl) rfl
theorem tw_3_53 : (Jvm.Cond.methodLink "LadderClub$Near" (3 : Nat) yX0_init) ∈ wAll := tm_3 (List.mem_of_getElem? (i := 53) rfl) rfl
theorem tw_3_54 : (Jvm.Cond.laysFinal "LadderClub$Near" "LadderClub$Asker" "number" "I") ∈ wAll := tm_3 (List.mem_of_getElem? (i := 54) rfl) rfl
theorem tw_3_55 : (Jvm.Cond.laysFinal "LadderClub$Near" "LadderClub$Asker" "v" "I") ∈ wAll := tm_3 (List.mem_of_getElem? (i := 55) rfl) rfl
theorem tw_3_57 : (Jvm.Cond.classLink "LadderClub" (327 : Nat) "LadderClub$Far") ∈ wAll := tm_3 (List.mem_of_getElem? (i := 57) rfl) rfl
theorem tw_3_58 : (Jvm.Cond.instantiable "LadderClub$Far" (2 : Nat)) ∈ wAll := tm_3 (List.mem_of_getElem? (i := 58) rfl) rfl
theorem tw_3_59 : (Jvm.Cond.methodLink "LadderClub" (329 : Nat) yX5_init) ∈ wAll := tm_3 (List.mem_of_getElem? (i := 59) rfl) rfl
theorem tw_3_60 : (Jvm.Cond.instanceMethod yX5_init) ∈ wAll := tm_3 (List.mem_of_getElem? (i := 60) rfl) rfl
theorem tw_3_61 : (Jvm.Cond.code yX5_init prog_7_method_1_code (3 : Nat) (Option.none : Option Jvm.ClassFile.FieldType)) ∈ wAll := tm_3 (List.mem_of_getElem? (i := 61) rfl) rfl
theorem tw_3_62 : (Jvm.Cond.methodLink "LadderClub$Far" (3 : Nat) yX0_init) ∈ wAll := tm_3 (List.mem_of_getElem? (i := 62) rfl) rfl
theorem tw_3_63 : (Jvm.Cond.laysFinal "LadderClub$Far" "LadderClub$Asker" "number" "I") ∈ wAll := tm_3 (List.mem_of_getElem? (i := 63) rfl) rfl
theorem tw_3_64 : (Jvm.Cond.laysFinal "LadderClub$Far" "LadderClub$Asker" "v" "I") ∈ wAll := tm_3 (List.mem_of_getElem? (i := 64) rfl) rfl
theorem tw_3_66 : (Jvm.Cond.classLink "LadderClub" (330 : Nat) "LadderClub$Safe") ∈ wAll := tm_3 (List.mem_of_getElem? (i := 66) rfl) rfl
theorem tw_3_67 : (Jvm.Cond.instantiable "LadderClub$Safe" (2 : Nat)) ∈ wAll := tm_3 (List.mem_of_getElem? (i := 67) rfl) rfl
theorem tw_3_68 : (Jvm.Cond.methodLink "LadderClub" (332 : Nat) yX9_init) ∈ wAll := tm_3 (List.mem_of_getElem? (i := 68) rfl) rfl
theorem tw_3_69 : (Jvm.Cond.instanceMethod yX9_init) ∈ wAll := tm_3 (List.mem_of_getElem? (i := 69) rfl) rfl
theorem tw_3_70 : (Jvm.Cond.code yX9_init prog_11_method_1_code (3 : Nat) (Option.none : Option Jvm.ClassFile.FieldType)) ∈ wAll := tm_3 (List.mem_of_getElem? (i := 70) rfl) rfl
theorem tw_3_71 : (Jvm.Cond.methodLink "LadderClub$Safe" (3 : Nat) yX5_init) ∈ wAll := tm_3 (List.mem_of_getElem? (i := 71) rfl) rfl
theorem tw_3_72 : (Jvm.Cond.laysFinal "LadderClub$Safe" "LadderClub$Asker" "number" "I") ∈ wAll := tm_3 (List.mem_of_getElem? (i := 72) rfl) rfl
theorem tw_3_73 : (Jvm.Cond.laysFinal "LadderClub$Safe" "LadderClub$Asker" "v" "I") ∈ wAll := tm_3 (List.mem_of_getElem? (i := 73) rfl) rfl
theorem tw_3_75 : (Jvm.Cond.classLink "LadderClub" (333 : Nat) "LadderClub$Best") ∈ wAll := tm_3 (List.mem_of_getElem? (i := 75) rfl) rfl
theorem tw_3_76 : (Jvm.Cond.instantiable "LadderClub$Best" (2 : Nat)) ∈ wAll := tm_3 (List.mem_of_getElem? (i := 76) rfl) rfl
theorem tw_3_77 : (Jvm.Cond.methodLink "LadderClub" (335 : Nat) yX1_init) ∈ wAll := tm_3 (List.mem_of_getElem? (i := 77) rfl) rfl
theorem tw_3_78 : (Jvm.Cond.instanceMethod yX1_init) ∈ wAll := tm_3 (List.mem_of_getElem? (i := 78) rfl) rfl
theorem tw_3_79 : (Jvm.Cond.code yX1_init prog_3_method_1_code (3 : Nat) (Option.none : Option Jvm.ClassFile.FieldType)) ∈ wAll := tm_3 (List.mem_of_getElem? (i := 79) rfl) rfl
theorem tw_3_80 : (Jvm.Cond.methodLink "LadderClub$Best" (3 : Nat) yX5_init) ∈ wAll := tm_3 (List.mem_of_getElem? (i := 80) rfl) rfl
theorem tw_3_81 : (Jvm.Cond.laysFinal "LadderClub$Best" "LadderClub$Asker" "number" "I") ∈ wAll := tm_3 (List.mem_of_getElem? (i := 81) rfl) rfl
theorem tw_3_82 : (Jvm.Cond.laysFinal "LadderClub$Best" "LadderClub$Asker" "v" "I") ∈ wAll := tm_3 (List.mem_of_getElem? (i := 82) rfl) rfl
theorem tw_3_84 : (Jvm.Cond.classLink "LadderClub" (336 : Nat) "LadderClub$Told") ∈ wAll := tm_3 (List.mem_of_getElem? (i := 84) rfl) rfl
theorem tw_3_85 : (Jvm.Cond.instantiable "LadderClub$Told" (2 : Nat)) ∈ wAll := tm_3 (List.mem_of_getElem? (i := 85) rfl) rfl
theorem tw_3_86 : (Jvm.Cond.methodLink "LadderClub" (338 : Nat) yX10_init) ∈ wAll := tm_3 (List.mem_of_getElem? (i := 86) rfl) rfl
theorem tw_3_87 : (Jvm.Cond.instanceMethod yX10_init) ∈ wAll := tm_3 (List.mem_of_getElem? (i := 87) rfl) rfl
theorem tw_3_88 : (Jvm.Cond.code yX10_init prog_12_method_1_code (3 : Nat) (Option.none : Option Jvm.ClassFile.FieldType)) ∈ wAll := tm_3 (List.mem_of_getElem? (i := 88) rfl) rfl
theorem tw_3_89 : (Jvm.Cond.methodLink "LadderClub$Told" (3 : Nat) yX0_init) ∈ wAll := tm_3 (List.mem_of_getElem? (i := 89) rfl) rfl
theorem tw_3_90 : (Jvm.Cond.laysFinal "LadderClub$Told" "LadderClub$Asker" "number" "I") ∈ wAll := tm_3 (List.mem_of_getElem? (i := 90) rfl) rfl
theorem tw_3_91 : (Jvm.Cond.laysFinal "LadderClub$Told" "LadderClub$Asker" "v" "I") ∈ wAll := tm_3 (List.mem_of_getElem? (i := 91) rfl) rfl
theorem tw_3_93 : (Jvm.Cond.classLink "LadderClub" (282 : Nat) "LadderClub$Never") ∈ wAll := tm_3 (List.mem_of_getElem? (i := 93) rfl) rfl
theorem tw_3_94 : (Jvm.Cond.instantiable "LadderClub$Never" (2 : Nat)) ∈ wAll := tm_3 (List.mem_of_getElem? (i := 94) rfl) rfl
theorem tw_3_95 : (Jvm.Cond.methodLink "LadderClub" (339 : Nat) yX8_init) ∈ wAll := tm_3 (List.mem_of_getElem? (i := 95) rfl) rfl
theorem tw_3_96 : (Jvm.Cond.instanceMethod yX8_init) ∈ wAll := tm_3 (List.mem_of_getElem? (i := 96) rfl) rfl
theorem tw_3_97 : (Jvm.Cond.code yX8_init prog_10_method_1_code (3 : Nat) (Option.none : Option Jvm.ClassFile.FieldType)) ∈ wAll := tm_3 (List.mem_of_getElem? (i := 97) rfl) rfl
theorem tw_3_98 : (Jvm.Cond.methodLink "LadderClub$Never" (3 : Nat) yX10_init) ∈ wAll := tm_3 (List.mem_of_getElem? (i := 98) rfl) rfl
theorem tw_3_99 : (Jvm.Cond.laysFinal "LadderClub$Never" "LadderClub$Asker" "number" "I") ∈ wAll := tm_3 (List.mem_of_getElem? (i := 99) rfl) rfl
theorem tw_3_100 : (Jvm.Cond.laysFinal "LadderClub$Never" "LadderClub$Asker" "v" "I") ∈ wAll := tm_3 (List.mem_of_getElem? (i := 100) rfl) rfl
theorem tw_3_102 : (Jvm.Cond.classLink "LadderClub" (131 : Nat) "LadderClub$Asker") ∈ wAll := tm_3 (List.mem_of_getElem? (i := 102) rfl) rfl
theorem tw_3_103 : (Jvm.Cond.methodLink "LadderClub" (340 : Nat) yX0_init) ∈ wAll := tm_3 (List.mem_of_getElem? (i := 103) rfl) rfl
theorem tw_3_104 : (Jvm.Cond.methodLink "LadderClubLaw" (59 : Nat) yX11_asks) ∈ wAll := tm_3 (List.mem_of_getElem? (i := 104) rfl) rfl
theorem tw_3_105 : (Jvm.Cond.instanceMethod yX11_asks) ∈ wAll := tm_3 (List.mem_of_getElem? (i := 105) rfl) rfl
theorem tw_3_106 : (Jvm.Cond.selects "LadderClub" yX11_asks yX11_asks) ∈ wAll := tm_3 (List.mem_of_getElem? (i := 106) rfl) rfl
theorem tw_3_107 : (Jvm.Cond.code yX11_asks prog_1_method_12_code (5 : Nat) (Option.some Jvm.ClassFile.FieldType.int)) ∈ wAll := tm_3 (List.mem_of_getElem? (i := 107) rfl) rfl
theorem tw_3_108 : (Jvm.Cond.methodLink "LadderClub" (139 : Nat) yX11_whomToday) ∈ wAll := tm_3 (List.mem_of_getElem? (i := 108) rfl) rfl
theorem tw_3_110 : (Jvm.Cond.instanceMethod yX11_whomToday) ∈ wAll := tm_3 (List.mem_of_getElem? (i := 110) rfl) rfl
theorem tw_3_111 : (Jvm.Cond.code yX11_whomToday prog_1_method_46_code (4 : Nat) (Option.some Jvm.ClassFile.FieldType.int)) ∈ wAll := tm_3 (List.mem_of_getElem? (i := 111) rfl) rfl
theorem tw_3_112 : (Jvm.Cond.methodLink "LadderClub" (284 : Nat) yX6_whom) ∈ wAll := tm_3 (List.mem_of_getElem? (i := 112) rfl) rfl
theorem tw_3_113 : (Jvm.Cond.instanceMethod yX6_whom) ∈ wAll := tm_3 (List.mem_of_getElem? (i := 113) rfl) rfl
theorem tw_3_114 : (Jvm.Cond.selects "LadderClub$Ladder" yX6_whom yX6_whom) ∈ wAll := tm_3 (List.mem_of_getElem? (i := 114) rfl) rfl
theorem tw_3_115 : (Jvm.Cond.code yX6_whom prog_8_method_9_code (7 : Nat) (Option.some Jvm.ClassFile.FieldType.int)) ∈ wAll := tm_3 (List.mem_of_getElem? (i := 115) rfl) rfl
theorem tw_3_116 : (Jvm.Cond.methodLink "LadderClub$Ladder" (94 : Nat) yX6_mayBits) ∈ wAll := tm_3 (List.mem_of_getElem? (i := 116) rfl) rfl
theorem tw_3_117 : (Jvm.Cond.methodLink "LadderClub$Ladder" (98 : Nat) yX0_pick) ∈ wAll := tm_3 (List.mem_of_getElem? (i := 117) rfl) rfl
theorem tw_3_118 : (Jvm.Cond.instanceMethod yX0_pick) ∈ wAll := tm_3 (List.mem_of_getElem? (i := 118) rfl) rfl
theorem tw_3_119 : (Jvm.Cond.selects "LadderClub$Asker" yX0_pick yX0_pick) ∈ wAll := tm_3 (List.mem_of_getElem? (i := 119) rfl) rfl
theorem tw_3_120 : (Jvm.Cond.sameMethod "LadderClub$Asker" "LadderClub$Asker" "pick" "([[ILLadderClub$Club;[III)I") ∈ wAll := tm_3 (List.mem_of_getElem? (i := 120) rfl) rfl
theorem tw_3_121 : (Jvm.Cond.selects "LadderClub$Best" yX0_pick yX1_pick) ∈ wAll := tm_3 (List.mem_of_getElem? (i := 121) rfl) rfl
theorem tw_3_122 : (Jvm.Cond.instanceMethod yX1_pick) ∈ wAll := tm_3 (List.mem_of_getElem? (i := 122) rfl) rfl
theorem tw_3_123 : (Jvm.Cond.code yX1_pick prog_3_method_3_code (10 : Nat) (Option.some Jvm.ClassFile.FieldType.int)) ∈ wAll := tm_3 (List.mem_of_getElem? (i := 123) rfl) rfl
theorem tw_3_124 : (Jvm.Cond.methodLink "LadderClub$Best" (11 : Nat) yX2_worth) ∈ wAll := tm_3 (List.mem_of_getElem? (i := 124) rfl) rfl
theorem tw_3_125 : (Jvm.Cond.instanceMethod yX2_worth) ∈ wAll := tm_3 (List.mem_of_getElem? (i := 125) rfl) rfl
theorem tw_3_126 : (Jvm.Cond.selects "LadderClub$Club" yX2_worth yX2_worth) ∈ wAll := tm_3 (List.mem_of_getElem? (i := 126) rfl) rfl
theorem tw_3_127 : (Jvm.Cond.code yX2_worth prog_4_method_5_code (2 : Nat) (Option.some Jvm.ClassFile.FieldType.int)) ∈ wAll := tm_3 (List.mem_of_getElem? (i := 127) rfl) rfl
theorem tw_3_129 : (Jvm.Cond.static yX11_holds) ∈ wAll := tm_3 (List.mem_of_getElem? (i := 129) rfl) rfl
theorem tw_3_130 : (Jvm.Cond.code yX11_holds prog_1_method_44_code (2 : Nat) (Option.some Jvm.ClassFile.FieldType.boolean)) ∈ wAll := tm_3 (List.mem_of_getElem? (i := 130) rfl) rfl
theorem tw_3_131 : (Jvm.Cond.selects "LadderClub$Far" yX0_pick yX5_pick) ∈ wAll := tm_3 (List.mem_of_getElem? (i := 131) rfl) rfl
theorem tw_3_132 : (Jvm.Cond.instanceMethod yX5_pick) ∈ wAll := tm_3 (List.mem_of_getElem? (i := 132) rfl) rfl
theorem tw_3_133 : (Jvm.Cond.code yX5_pick prog_7_method_3_code (7 : Nat) (Option.some Jvm.ClassFile.FieldType.int)) ∈ wAll := tm_3 (List.mem_of_getElem? (i := 133) rfl) rfl
theorem tw_3_135 : (Jvm.Cond.selects "LadderClub$Near" yX0_pick yX7_pick) ∈ wAll := tm_3 (List.mem_of_getElem? (i := 135) rfl) rfl
theorem tw_3_136 : (Jvm.Cond.instanceMethod yX7_pick) ∈ wAll := tm_3 (List.mem_of_getElem? (i := 136) rfl) rfl
theorem tw_3_137 : (Jvm.Cond.code yX7_pick prog_9_method_3_code (7 : Nat) (Option.some Jvm.ClassFile.FieldType.int)) ∈ wAll := tm_3 (List.mem_of_getElem? (i := 137) rfl) rfl
theorem tw_3_139 : (Jvm.Cond.selects "LadderClub$Never" yX0_pick yX8_pick) ∈ wAll := tm_3 (List.mem_of_getElem? (i := 139) rfl) rfl
theorem tw_3_140 : (Jvm.Cond.instanceMethod yX8_pick) ∈ wAll := tm_3 (List.mem_of_getElem? (i := 140) rfl) rfl
theorem tw_3_141 : (Jvm.Cond.code yX8_pick prog_10_method_3_code (6 : Nat) (Option.some Jvm.ClassFile.FieldType.int)) ∈ wAll := tm_3 (List.mem_of_getElem? (i := 141) rfl) rfl
theorem tw_3_142 : (Jvm.Cond.selects "LadderClub$Safe" yX0_pick yX9_pick) ∈ wAll := tm_3 (List.mem_of_getElem? (i := 142) rfl) rfl
theorem tw_3_143 : (Jvm.Cond.instanceMethod yX9_pick) ∈ wAll := tm_3 (List.mem_of_getElem? (i := 143) rfl) rfl
theorem tw_3_144 : (Jvm.Cond.code yX9_pick prog_11_method_3_code (7 : Nat) (Option.some Jvm.ClassFile.FieldType.int)) ∈ wAll := tm_3 (List.mem_of_getElem? (i := 144) rfl) rfl
theorem tw_3_146 : (Jvm.Cond.methodLink "LadderClub$Safe" (15 : Nat) ({ cls := "LadderClub$Safe", name := "v", desc := "()I" } : Jvm.MethodName)) ∈ wAll := tm_3 (List.mem_of_getElem? (i := 146) rfl) rfl
theorem tw_3_147 : (Jvm.Cond.sameMethod "LadderClub$Safe" "LadderClub$Asker" "v" "()I") ∈ wAll := tm_3 (List.mem_of_getElem? (i := 147) rfl) rfl
theorem tw_3_149 : (Jvm.Cond.selects "LadderClub$Safe" ({ cls := "LadderClub$Safe", name := "v", desc := "()I" } : Jvm.MethodName) yX0_v) ∈ wAll := tm_3 (List.mem_of_getElem? (i := 149) rfl) rfl
theorem tw_3_150 : (Jvm.Cond.instanceMethod yX0_v) ∈ wAll := tm_3 (List.mem_of_getElem? (i := 150) rfl) rfl
theorem tw_3_151 : (Jvm.Cond.code yX0_v prog_2_method_3_code (1 : Nat) (Option.some Jvm.ClassFile.FieldType.int)) ∈ wAll := tm_3 (List.mem_of_getElem? (i := 151) rfl) rfl
theorem tw_3_152 : (Jvm.Cond.selects "LadderClub$Told" yX0_pick yX10_pick) ∈ wAll := tm_3 (List.mem_of_getElem? (i := 152) rfl) rfl
theorem tw_3_153 : (Jvm.Cond.instanceMethod yX10_pick) ∈ wAll := tm_3 (List.mem_of_getElem? (i := 153) rfl) rfl
theorem tw_3_154 : (Jvm.Cond.code yX10_pick prog_12_method_3_code (6 : Nat) (Option.some Jvm.ClassFile.FieldType.int)) ∈ wAll := tm_3 (List.mem_of_getElem? (i := 154) rfl) rfl
theorem tw_3_155 : (Jvm.Cond.methodLink "LadderClub$Told" (11 : Nat) ({ cls := "LadderClub$Told", name := "v", desc := "()I" } : Jvm.MethodName)) ∈ wAll := tm_3 (List.mem_of_getElem? (i := 155) rfl) rfl
theorem tw_3_156 : (Jvm.Cond.sameMethod "LadderClub$Told" "LadderClub$Asker" "v" "()I") ∈ wAll := tm_3 (List.mem_of_getElem? (i := 156) rfl) rfl
theorem tw_3_157 : (Jvm.Cond.selects "LadderClub$Never" ({ cls := "LadderClub$Told", name := "v", desc := "()I" } : Jvm.MethodName) yX0_v) ∈ wAll := tm_3 (List.mem_of_getElem? (i := 157) rfl) rfl
theorem tw_3_158 : (Jvm.Cond.selects "LadderClub$Told" ({ cls := "LadderClub$Told", name := "v", desc := "()I" } : Jvm.MethodName) yX0_v) ∈ wAll := tm_3 (List.mem_of_getElem? (i := 158) rfl) rfl
theorem tw_3_160 : (Jvm.Cond.code yX0_pick prog_2_method_5_code (10 : Nat) (Option.some Jvm.ClassFile.FieldType.int)) ∈ wAll := tm_3 (List.mem_of_getElem? (i := 160) rfl) rfl
theorem tw_3_162 : (Jvm.Cond.methodLink "LadderClubLaw" (63 : Nat) yX11_match) ∈ wAll := tm_3 (List.mem_of_getElem? (i := 162) rfl) rfl
theorem tw_3_163 : (Jvm.Cond.instanceMethod yX11_match) ∈ wAll := tm_3 (List.mem_of_getElem? (i := 163) rfl) rfl
theorem tw_3_164 : (Jvm.Cond.selects "LadderClub" yX11_match yX11_match) ∈ wAll := tm_3 (List.mem_of_getElem? (i := 164) rfl) rfl
theorem tw_3_165 : (Jvm.Cond.code yX11_match prog_1_method_13_code (7 : Nat) (Option.some Jvm.ClassFile.FieldType.int)) ∈ wAll := tm_3 (List.mem_of_getElem? (i := 165) rfl) rfl
theorem tw_3_166 : (Jvm.Cond.methodLink "LadderClub" (146 : Nat) yX11_holds) ∈ wAll := tm_3 (List.mem_of_getElem? (i := 166) rfl) rfl
theorem tw_3_167 : (Jvm.Cond.methodLink "LadderClub" (150 : Nat) yX2_climb) ∈ wAll := tm_3 (List.mem_of_getElem? (i := 167) rfl) rfl
theorem tw_3_168 : (Jvm.Cond.instanceMethod yX2_climb) ∈ wAll := tm_3 (List.mem_of_getElem? (i := 168) rfl) rfl
theorem tw_3_169 : (Jvm.Cond.selects "LadderClub$Club" yX2_climb yX2_climb) ∈ wAll := tm_3 (List.mem_of_getElem? (i := 169) rfl) rfl
theorem tw_3_170 : (Jvm.Cond.code yX2_climb prog_4_method_6_code (4 : Nat) (Option.none : Option Jvm.ClassFile.FieldType)) ∈ wAll := tm_3 (List.mem_of_getElem? (i := 170) rfl) rfl
theorem tw_3_172 : (Jvm.Cond.static yX11_swap) ∈ wAll := tm_3 (List.mem_of_getElem? (i := 172) rfl) rfl
theorem tw_3_173 : (Jvm.Cond.code yX11_swap prog_1_method_56_code (4 : Nat) (Option.none : Option Jvm.ClassFile.FieldType)) ∈ wAll := tm_3 (List.mem_of_getElem? (i := 173) rfl) rfl
theorem tw_3_174 : (Jvm.Cond.methodLink "LadderClub$Club" (30 : Nat) yX2_worth) ∈ wAll := tm_3 (List.mem_of_getElem? (i := 174) rfl) rfl
theorem tw_3_176 : (Jvm.Cond.methodLink "LadderClubLaw" (68 : Nat) yX11_pass) ∈ wAll := tm_3 (List.mem_of_getElem? (i := 176) rfl) rfl
theorem tw_3_177 : (Jvm.Cond.instanceMethod yX11_pass) ∈ wAll := tm_3 (List.mem_of_getElem? (i := 177) rfl) rfl
theorem tw_3_178 : (Jvm.Cond.selects "LadderClub" yX11_pass yX11_pass) ∈ wAll := tm_3 (List.mem_of_getElem? (i := 178) rfl) rfl
theorem tw_3_179 : (Jvm.Cond.code yX11_pass prog_1_method_14_code (2 : Nat) (Option.some Jvm.ClassFile.FieldType.int)) ∈ wAll := tm_3 (List.mem_of_getElem? (i := 179) rfl) rfl
theorem tw_3_180 : (Jvm.Cond.methodLink "LadderClubLaw" (73 : Nat) yX11_share) ∈ wAll := tm_3 (List.mem_of_getElem? (i := 180) rfl) rfl
theorem tw_3_181 : (Jvm.Cond.instanceMethod yX11_share) ∈ wAll := tm_3 (List.mem_of_getElem? (i := 181) rfl) rfl
theorem tw_3_182 : (Jvm.Cond.selects "LadderClub" yX11_share yX11_share) ∈ wAll := tm_3 (List.mem_of_getElem? (i := 182) rfl) rfl
theorem tw_3_183 : (Jvm.Cond.code yX11_share prog_1_method_15_code (7 : Nat) (Option.some Jvm.ClassFile.FieldType.long)) ∈ wAll := tm_3 (List.mem_of_getElem? (i := 183) rfl) rfl
theorem tw_3_184 : (Jvm.Cond.methodLink "LadderClub" (155 : Nat) yX11_isDaysOn) ∈ wAll := tm_3 (List.mem_of_getElem? (i := 184) rfl) rfl
theorem tw_3_185 : (Jvm.Cond.static yX11_isDaysOn) ∈ wAll := tm_3 (List.mem_of_getElem? (i := 185) rfl) rfl
theorem tw_3_186 : (Jvm.Cond.code yX11_isDaysOn prog_1_method_43_code (1 : Nat) (Option.some Jvm.ClassFile.FieldType.boolean)) ∈ wAll := tm_3 (List.mem_of_getElem? (i := 186) rfl) rfl
theorem tw_3_187 : (Jvm.Cond.constantLong "LadderClub" (158 : Nat) (-9223372036854775808 : Int64)) ∈ wAll := tm_3 (List.mem_of_getElem? (i := 187) rfl) rfl
theorem tw_3_188 : (Jvm.Cond.methodLink "LadderClub" (160 : Nat) yX11_goBehind) ∈ wAll := tm_3 (List.mem_of_getElem? (i := 188) rfl) rfl
theorem tw_3_190 : (Jvm.Cond.instanceMethod yX11_goBehind) ∈ wAll := tm_3 (List.mem_of_getElem? (i := 190) rfl) rfl
theorem tw_3_191 : (Jvm.Cond.code yX11_goBehind prog_1_method_51_code (6 : Nat) (Option.none : Option Jvm.ClassFile.FieldType)) ∈ wAll := tm_3 (List.mem_of_getElem? (i := 191) rfl) rfl
theorem tw_3_192 : (Jvm.Cond.methodLink "LadderClub" (295 : Nat) yX4_startFrom) ∈ wAll := tm_3 (List.mem_of_getElem? (i := 192) rfl) rfl
theorem tw_3_193 : (Jvm.Cond.instanceMethod yX4_startFrom) ∈ wAll := tm_3 (List.mem_of_getElem? (i := 193) rfl) rfl
theorem tw_3_194 : (Jvm.Cond.selects "LadderClub$Days" yX4_startFrom yX4_startFrom) ∈ wAll := tm_3 (List.mem_of_getElem? (i := 194) rfl) rfl
theorem tw_3_195 : (Jvm.Cond.code yX4_startFrom prog_6_method_2_code (2 : Nat) (Option.none : Option Jvm.ClassFile.FieldType)) ∈ wAll := tm_3 (List.mem_of_getElem? (i := 195) rfl) rfl
theorem tw_3_196 : (Jvm.Cond.methodLink "LadderClub$Days" (43 : Nat) yX4_numberOf) ∈ wAll := tm_3 (List.mem_of_getElem? (i := 196) rfl) rfl
theorem tw_3_198 : (Jvm.Cond.instanceMethod yX4_numberOf) ∈ wAll := tm_3 (List.mem_of_getElem? (i := 198) rfl) rfl
theorem tw_3_199 : (Jvm.Cond.code yX4_numberOf prog_6_method_8_code (4 : Nat) (Option.some Jvm.ClassFile.FieldType.int)) ∈ wAll := tm_3 (List.mem_of_getElem? (i := 199) rfl) rfl
theorem tw_3_200 : (Jvm.Cond.methodLink "LadderClub$Days" (47 : Nat) yX4_add) ∈ wAll := tm_3 (List.mem_of_getElem? (i := 200) rfl) rfl
theorem tw_3_202 : (Jvm.Cond.instanceMethod yX4_add) ∈ wAll := tm_3 (List.mem_of_getElem? (i := 202) rfl) rfl
theorem tw_3_203 : (Jvm.Cond.code yX4_add prog_6_method_7_code (5 : Nat) (Option.none : Option Jvm.ClassFile.FieldType)) ∈ wAll := tm_3 (List.mem_of_getElem? (i := 203) rfl) rfl
theorem tw_3_204 : (Jvm.Cond.methodLink "LadderClub" (298 : Nat) yX4_goOn) ∈ wAll := tm_3 (List.mem_of_getElem? (i := 204) rfl) rfl
theorem tw_3_205 : (Jvm.Cond.instanceMethod yX4_goOn) ∈ wAll := tm_3 (List.mem_of_getElem? (i := 205) rfl) rfl
theorem tw_3_206 : (Jvm.Cond.selects "LadderClub$Days" yX4_goOn yX4_goOn) ∈ wAll := tm_3 (List.mem_of_getElem? (i := 206) rfl) rfl
theorem tw_3_207 : (Jvm.Cond.code yX4_goOn prog_6_method_3_code (6 : Nat) (Option.none : Option Jvm.ClassFile.FieldType)) ∈ wAll := tm_3 (List.mem_of_getElem? (i := 207) rfl) rfl
theorem tw_3_208 : (Jvm.Cond.methodLink "LadderClub$Days" (51 : Nat) yX4_beginDay) ∈ wAll := tm_3 (List.mem_of_getElem? (i := 208) rfl) rfl
theorem tw_3_210 : (Jvm.Cond.instanceMethod yX4_beginDay) ∈ wAll := tm_3 (List.mem_of_getElem? (i := 210) rfl) rfl
theorem tw_3_211 : (Jvm.Cond.code yX4_beginDay prog_6_method_5_code (3 : Nat) (Option.none : Option Jvm.ClassFile.FieldType)) ∈ wAll := tm_3 (List.mem_of_getElem? (i := 211) rfl) rfl
theorem tw_3_212 : (Jvm.Cond.constantLong "LadderClub$Days" (75 : Nat) (100 : Int64)) ∈ wAll := tm_3 (List.mem_of_getElem? (i := 212) rfl) rfl
theorem tw_3_213 : (Jvm.Cond.methodLink "LadderClub$Days" (59 : Nat) yX6_turn) ∈ wAll := tm_3 (List.mem_of_getElem? (i := 213) rfl) rfl
theorem tw_3_214 : (Jvm.Cond.instanceMethod yX6_turn) ∈ wAll := tm_3 (List.mem_of_getElem? (i := 214) rfl) rfl
theorem tw_3_215 : (Jvm.Cond.selects "LadderClub$Ladder" yX6_turn yX6_turn) ∈ wAll := tm_3 (List.mem_of_getElem? (i := 215) rfl) rfl
theorem tw_3_216 : (Jvm.Cond.code yX6_turn prog_8_method_7_code (2 : Nat) (Option.some Jvm.ClassFile.FieldType.int)) ∈ wAll := tm_3 (List.mem_of_getElem? (i := 216) rfl) rfl
theorem tw_3_217 : (Jvm.Cond.methodLink "LadderClub$Days" (63 : Nat) yX4_lay) ∈ wAll := tm_3 (List.mem_of_getElem? (i := 217) rfl) rfl
theorem tw_3_219 : (Jvm.Cond.instanceMethod yX4_lay) ∈ wAll := tm_3 (List.mem_of_getElem? (i := 219) rfl) rfl
theorem tw_3_220 : (Jvm.Cond.code yX4_lay prog_6_method_10_code (3 : Nat) (Option.none : Option Jvm.ClassFile.FieldType)) ∈ wAll := tm_3 (List.mem_of_getElem? (i := 220) rfl) rfl
theorem tw_3_221 : (Jvm.Cond.methodLink "LadderClub$Days" (87 : Nat) yX4_nameOn) ∈ wAll := tm_3 (List.mem_of_getElem? (i := 221) rfl) rfl
theorem tw_3_223 : (Jvm.Cond.instanceMethod yX4_nameOn) ∈ wAll := tm_3 (List.mem_of_getElem? (i := 223) rfl) rfl
theorem tw_3_224 : (Jvm.Cond.code yX4_nameOn prog_6_method_9_code (3 : Nat) (Option.some Jvm.ClassFile.FieldType.int)) ∈ wAll := tm_3 (List.mem_of_getElem? (i := 224) rfl) rfl
theorem tw_3_225 : (Jvm.Cond.methodLink "LadderClub$Days" (67 : Nat) yX6_whom) ∈ wAll := tm_3 (List.mem_of_getElem? (i := 225) rfl) rfl
theorem tw_3_226 : (Jvm.Cond.methodLink "LadderClub$Days" (71 : Nat) yX4_play) ∈ wAll := tm_3 (List.mem_of_getElem? (i := 226) rfl) rfl
theorem tw_3_228 : (Jvm.Cond.instanceMethod yX4_play) ∈ wAll := tm_3 (List.mem_of_getElem? (i := 228) rfl) rfl
theorem tw_3_229 : (Jvm.Cond.code yX4_play prog_6_method_6_code (7 : Nat) (Option.none : Option Jvm.ClassFile.FieldType)) ∈ wAll := tm_3 (List.mem_of_getElem? (i := 229) rfl) rfl
theorem tw_3_230 : (Jvm.Cond.methodLink "LadderClub$Days" (81 : Nat) yX2_climb) ∈ wAll := tm_3 (List.mem_of_getElem? (i := 230) rfl) rfl
theorem tw_3_231 : (Jvm.Cond.methodLink "LadderClub" (164 : Nat) yX4_onRung) ∈ wAll := tm_3 (List.mem_of_getElem? (i := 231) rfl) rfl
theorem tw_3_232 : (Jvm.Cond.instanceMethod yX4_onRung) ∈ wAll := tm_3 (List.mem_of_getElem? (i := 232) rfl) rfl
theorem tw_3_233 : (Jvm.Cond.selects "LadderClub$Days" yX4_onRung yX4_onRung) ∈ wAll := tm_3 (List.mem_of_getElem? (i := 233) rfl) rfl
theorem tw_3_234 : (Jvm.Cond.code yX4_onRung prog_6_method_12_code (6 : Nat) (Option.some Jvm.ClassFile.FieldType.long)) ∈ wAll := tm_3 (List.mem_of_getElem? (i := 234) rfl) rfl
theorem tw_3_235 : (Jvm.Cond.methodLink "LadderClub" (168 : Nat) yX4_whole) ∈ wAll := tm_3 (List.mem_of_getElem? (i := 235) rfl) rfl
theorem tw_3_236 : (Jvm.Cond.instanceMethod yX4_whole) ∈ wAll := tm_3 (List.mem_of_getElem? (i := 236) rfl) rfl
theorem tw_3_237 : (Jvm.Cond.selects "LadderClub$Days" yX4_whole yX4_whole) ∈ wAll := tm_3 (List.mem_of_getElem? (i := 237) rfl) rfl
theorem tw_3_238 : (Jvm.Cond.code yX4_whole prog_6_method_11_code (1 : Nat) (Option.some Jvm.ClassFile.FieldType.long)) ∈ wAll := tm_3 (List.mem_of_getElem? (i := 238) rfl) rfl
theorem tw_3_239 : (Jvm.Cond.methodLink "LadderClub" (172 : Nat) yX11_partOf) ∈ wAll := tm_3 (List.mem_of_getElem? (i := 239) rfl) rfl
theorem tw_4_0 : (Jvm.Cond.static yX11_partOf) ∈ wAll := tm_4 (List.mem_of_getElem? (i := 0) rfl) rfl
theorem tw_4_1 : (Jvm.Cond.code yX11_partOf prog_1_method_53_code (7 : Nat) (Option.some Jvm.ClassFile.FieldType.long)) ∈ wAll := tm_4 (List.mem_of_getElem? (i := 1) rfl) rfl
theorem tw_4_2 : (Jvm.Cond.methodLink "LadderClub" (305 : Nat) yJ9_abs_067f4) ∈ wAll := tm_4 (List.mem_of_getElem? (i := 2) rfl) rfl
theorem tw_4_3 : (Jvm.Cond.static yJ9_abs_067f4) ∈ wAll := tm_4 (List.mem_of_getElem? (i := 3) rfl) rfl
theorem tw_4_4 : (Jvm.Cond.code yJ9_abs_067f4 prog_16_method_61_code (2 : Nat) (Option.some Jvm.ClassFile.FieldType.long)) ∈ wAll := tm_4 (List.mem_of_getElem? (i := 4) rfl) rfl
theorem tw_4_5 : (Jvm.Cond.methodLink "LadderClub" (311 : Nat) yX11_commonDivisor) ∈ wAll := tm_4 (List.mem_of_getElem? (i := 5) rfl) rfl
theorem tw_4_6 : (Jvm.Cond.static yX11_commonDivisor) ∈ wAll := tm_4 (List.mem_of_getElem? (i := 6) rfl) rfl
theorem tw_4_7 : (Jvm.Cond.code yX11_commonDivisor prog_1_method_54_code (7 : Nat) (Option.some Jvm.ClassFile.FieldType.long)) ∈ wAll := tm_4 (List.mem_of_getElem? (i := 7) rfl) rfl
theorem tw_4_8 : (Jvm.Cond.methodLink "LadderClubLaw" (78 : Nat) yX11_truly) ∈ wAll := tm_4 (List.mem_of_getElem? (i := 8) rfl) rfl
theorem tw_4_9 : (Jvm.Cond.instanceMethod yX11_truly) ∈ wAll := tm_4 (List.mem_of_getElem? (i := 9) rfl) rfl
theorem tw_4_10 : (Jvm.Cond.selects "LadderClub" yX11_truly yX11_truly) ∈ wAll := tm_4 (List.mem_of_getElem? (i := 10) rfl) rfl
theorem tw_4_11 : (Jvm.Cond.code yX11_truly prog_1_method_16_code (5 : Nat) (Option.some Jvm.ClassFile.FieldType.long)) ∈ wAll := tm_4 (List.mem_of_getElem? (i := 11) rfl) rfl
theorem tw_4_12 : (Jvm.Cond.methodLink "LadderClub" (176 : Nat) yX4_being) ∈ wAll := tm_4 (List.mem_of_getElem? (i := 12) rfl) rfl
theorem tw_4_13 : (Jvm.Cond.instanceMethod yX4_being) ∈ wAll := tm_4 (List.mem_of_getElem? (i := 13) rfl) rfl
theorem tw_4_14 : (Jvm.Cond.selects "LadderClub$Days" yX4_being yX4_being) ∈ wAll := tm_4 (List.mem_of_getElem? (i := 14) rfl) rfl
theorem tw_4_15 : (Jvm.Cond.code yX4_being prog_6_method_14_code (4 : Nat) (Option.some Jvm.ClassFile.FieldType.long)) ∈ wAll := tm_4 (List.mem_of_getElem? (i := 15) rfl) rfl
theorem tw_4_16 : (Jvm.Cond.methodLink "LadderClubLaw" (83 : Nat) yX11_likely) ∈ wAll := tm_4 (List.mem_of_getElem? (i := 16) rfl) rfl
theorem tw_4_17 : (Jvm.Cond.instanceMethod yX11_likely) ∈ wAll := tm_4 (List.mem_of_getElem? (i := 17) rfl) rfl
theorem tw_4_18 : (Jvm.Cond.selects "LadderClub" yX11_likely yX11_likely) ∈ wAll := tm_4 (List.mem_of_getElem? (i := 18) rfl) rfl
theorem tw_4_19 : (Jvm.Cond.code yX11_likely prog_1_method_17_code (5 : Nat) (Option.some Jvm.ClassFile.FieldType.int)) ∈ wAll := tm_4 (List.mem_of_getElem? (i := 19) rfl) rfl
theorem tw_4_20 : (Jvm.Cond.methodLink "LadderClub" (180 : Nat) yX4_findLikeliest) ∈ wAll := tm_4 (List.mem_of_getElem? (i := 20) rfl) rfl
theorem tw_4_21 : (Jvm.Cond.instanceMethod yX4_findLikeliest) ∈ wAll := tm_4 (List.mem_of_getElem? (i := 21) rfl) rfl
theorem tw_4_22 : (Jvm.Cond.selects "LadderClub$Days" yX4_findLikeliest yX4_findLikeliest) ∈ wAll := tm_4 (List.mem_of_getElem? (i := 22) rfl) rfl
theorem tw_4_23 : (Jvm.Cond.code yX4_findLikeliest prog_6_method_15_code (4 : Nat) (Option.none : Option Jvm.ClassFile.FieldType)) ∈ wAll := tm_4 (List.mem_of_getElem? (i := 23) rfl) rfl
theorem tw_4_24 : (Jvm.Cond.methodLink "LadderClubLaw" (87 : Nat) yX11_mean) ∈ wAll := tm_4 (List.mem_of_getElem? (i := 24) rfl) rfl
theorem tw_4_25 : (Jvm.Cond.instanceMethod yX11_mean) ∈ wAll := tm_4 (List.mem_of_getElem? (i := 25) rfl) rfl
theorem tw_4_26 : (Jvm.Cond.selects "LadderClub" yX11_mean yX11_mean) ∈ wAll := tm_4 (List.mem_of_getElem? (i := 26) rfl) rfl
theorem tw_4_27 : (Jvm.Cond.code yX11_mean prog_1_method_18_code (6 : Nat) (Option.some Jvm.ClassFile.FieldType.long)) ∈ wAll := tm_4 (List.mem_of_getElem? (i := 27) rfl) rfl
theorem tw_4_28 : (Jvm.Cond.methodLink "LadderClub" (183 : Nat) yX4_sumOfRungs) ∈ wAll := tm_4 (List.mem_of_getElem? (i := 28) rfl) rfl
theorem tw_4_29 : (Jvm.Cond.instanceMethod yX4_sumOfRungs) ∈ wAll := tm_4 (List.mem_of_getElem? (i := 29) rfl) rfl
theorem tw_4_30 : (Jvm.Cond.selects "LadderClub$Days" yX4_sumOfRungs yX4_sumOfRungs) ∈ wAll := tm_4 (List.mem_of_getElem? (i := 30) rfl) rfl
theorem tw_4_31 : (Jvm.Cond.code yX4_sumOfRungs prog_6_method_13_code (5 : Nat) (Option.some Jvm.ClassFile.FieldType.long)) ∈ wAll := tm_4 (List.mem_of_getElem? (i := 31) rfl) rfl
theorem tw_4_32 : (Jvm.Cond.methodLink "LadderClub$Days" (91 : Nat) yX4_onRung) ∈ wAll := tm_4 (List.mem_of_getElem? (i := 32) rfl) rfl
theorem tw_4_33 : (Jvm.Cond.methodLink "LadderClubLaw" (92 : Nat) yX11_stuck) ∈ wAll := tm_4 (List.mem_of_getElem? (i := 33) rfl) rfl
theorem tw_4_34 : (Jvm.Cond.instanceMethod yX11_stuck) ∈ wAll := tm_4 (List.mem_of_getElem? (i := 34) rfl) rfl
theorem tw_4_35 : (Jvm.Cond.selects "LadderClub" yX11_stuck yX11_stuck) ∈ wAll := tm_4 (List.mem_of_getElem? (i := 35) rfl) rfl
theorem tw_4_36 : (Jvm.Cond.code yX11_stuck prog_1_method_19_code (4 : Nat) (Option.some Jvm.ClassFile.FieldType.int)) ∈ wAll := tm_4 (List.mem_of_getElem? (i := 36) rfl) rfl
theorem tw_4_37 : (Jvm.Cond.methodLink "LadderClub" (187 : Nat) yX11_stuckBits) ∈ wAll := tm_4 (List.mem_of_getElem? (i := 37) rfl) rfl
theorem tw_4_39 : (Jvm.Cond.instanceMethod yX11_stuckBits) ∈ wAll := tm_4 (List.mem_of_getElem? (i := 39) rfl) rfl
theorem tw_4_40 : (Jvm.Cond.code yX11_stuckBits prog_1_method_48_code (8 : Nat) (Option.some Jvm.ClassFile.FieldType.int)) ∈ wAll := tm_4 (List.mem_of_getElem? (i := 40) rfl) rfl
theorem tw_4_41 : (Jvm.Cond.methodLink "LadderClub" (288 : Nat) yX11_askedInWeek) ∈ wAll := tm_4 (List.mem_of_getElem? (i := 41) rfl) rfl
theorem tw_4_43 : (Jvm.Cond.instanceMethod yX11_askedInWeek) ∈ wAll := tm_4 (List.mem_of_getElem? (i := 43) rfl) rfl
theorem tw_4_44 : (Jvm.Cond.code yX11_askedInWeek prog_1_method_47_code (7 : Nat) (Option.some Jvm.ClassFile.FieldType.int)) ∈ wAll := tm_4 (List.mem_of_getElem? (i := 44) rfl) rfl
theorem tw_4_45 : (Jvm.Cond.methodLink "LadderClub" (292 : Nat) yX6_isStronger) ∈ wAll := tm_4 (List.mem_of_getElem? (i := 45) rfl) rfl
theorem tw_4_46 : (Jvm.Cond.methodLink "LadderClub" (191 : Nat) yX11_hangingBits) ∈ wAll := tm_4 (List.mem_of_getElem? (i := 46) rfl) rfl
theorem tw_4_48 : (Jvm.Cond.instanceMethod yX11_hangingBits) ∈ wAll := tm_4 (List.mem_of_getElem? (i := 48) rfl) rfl
theorem tw_4_49 : (Jvm.Cond.code yX11_hangingBits prog_1_method_49_code (7 : Nat) (Option.some Jvm.ClassFile.FieldType.int)) ∈ wAll := tm_4 (List.mem_of_getElem? (i := 49) rfl) rfl
theorem tw_4_50 : (Jvm.Cond.methodLink "LadderClubLaw" (96 : Nat) yX11_ought) ∈ wAll := tm_4 (List.mem_of_getElem? (i := 50) rfl) rfl
theorem tw_4_51 : (Jvm.Cond.instanceMethod yX11_ought) ∈ wAll := tm_4 (List.mem_of_getElem? (i := 51) rfl) rfl
theorem tw_4_52 : (Jvm.Cond.selects "LadderClub" yX11_ought yX11_ought) ∈ wAll := tm_4 (List.mem_of_getElem? (i := 52) rfl) rfl
theorem tw_4_53 : (Jvm.Cond.code yX11_ought prog_1_method_20_code (13 : Nat) (Option.some Jvm.ClassFile.FieldType.int)) ∈ wAll := tm_4 (List.mem_of_getElem? (i := 53) rfl) rfl
theorem tw_4_54 : (Jvm.Cond.methodLink "LadderClub" (194 : Nat) yX6_turn) ∈ wAll := tm_4 (List.mem_of_getElem? (i := 54) rfl) rfl
theorem tw_4_55 : (Jvm.Cond.methodLink "LadderClub" (197 : Nat) yX11_rungsHavingAsked) ∈ wAll := tm_4 (List.mem_of_getElem? (i := 55) rfl) rfl
theorem tw_4_57 : (Jvm.Cond.instanceMethod yX11_rungsHavingAsked) ∈ wAll := tm_4 (List.mem_of_getElem? (i := 57) rfl) rfl
theorem tw_4_58 : (Jvm.Cond.code yX11_rungsHavingAsked prog_1_method_52_code (6 : Nat) (Option.some Jvm.ClassFile.FieldType.long)) ∈ wAll := tm_4 (List.mem_of_getElem? (i := 58) rfl) rfl
theorem tw_4_59 : (Jvm.Cond.methodLink "LadderClub" (302 : Nat) yX4_goOnAsking) ∈ wAll := tm_4 (List.mem_of_getElem? (i := 59) rfl) rfl
theorem tw_4_60 : (Jvm.Cond.instanceMethod yX4_goOnAsking) ∈ wAll := tm_4 (List.mem_of_getElem? (i := 60) rfl) rfl
theorem tw_4_61 : (Jvm.Cond.selects "LadderClub$Days" yX4_goOnAsking yX4_goOnAsking) ∈ wAll := tm_4 (List.mem_of_getElem? (i := 61) rfl) rfl
theorem tw_4_62 : (Jvm.Cond.code yX4_goOnAsking prog_6_method_4_code (4 : Nat) (Option.none : Option Jvm.ClassFile.FieldType)) ∈ wAll := tm_4 (List.mem_of_getElem? (i := 62) rfl) rfl
theorem tw_4_63 : (Jvm.Cond.methodLink "LadderClubLaw" (100 : Nat) yX11_row) ∈ wAll := tm_4 (List.mem_of_getElem? (i := 63) rfl) rfl
theorem tw_4_64 : (Jvm.Cond.instanceMethod yX11_row) ∈ wAll := tm_4 (List.mem_of_getElem? (i := 64) rfl) rfl
theorem tw_4_65 : (Jvm.Cond.selects "LadderClub" yX11_row yX11_row) ∈ wAll := tm_4 (List.mem_of_getElem? (i := 65) rfl) rfl
theorem tw_4_66 : (Jvm.Cond.code yX11_row prog_1_method_21_code (2 : Nat) (Option.some Jvm.ClassFile.FieldType.int)) ∈ wAll := tm_4 (List.mem_of_getElem? (i := 66) rfl) rfl
theorem tw_4_67 : (Jvm.Cond.methodLink "LadderClubLaw" (104 : Nat) yX11_judged) ∈ wAll := tm_4 (List.mem_of_getElem? (i := 67) rfl) rfl
theorem tw_4_68 : (Jvm.Cond.instanceMethod yX11_judged) ∈ wAll := tm_4 (List.mem_of_getElem? (i := 68) rfl) rfl
theorem tw_4_69 : (Jvm.Cond.selects "LadderClub" yX11_judged yX11_judged) ∈ wAll := tm_4 (List.mem_of_getElem? (i := 69) rfl) rfl
theorem tw_4_70 : (Jvm.Cond.code yX11_judged prog_1_method_22_code (6 : Nat) (Option.some Jvm.ClassFile.FieldType.int)) ∈ wAll := tm_4 (List.mem_of_getElem? (i := 70) rfl) rfl
theorem tw_4_71 : (Jvm.Cond.methodLink "LadderClubLaw" (108 : Nat) yX11_refuse) ∈ wAll := tm_4 (List.mem_of_getElem? (i := 71) rfl) rfl
theorem tw_4_72 : (Jvm.Cond.instanceMethod yX11_refuse) ∈ wAll := tm_4 (List.mem_of_getElem? (i := 72) rfl) rfl
theorem tw_4_73 : (Jvm.Cond.selects "LadderClub" yX11_refuse yX11_refuse) ∈ wAll := tm_4 (List.mem_of_getElem? (i := 73) rfl) rfl
theorem tw_4_74 : (Jvm.Cond.code yX11_refuse prog_1_method_23_code (8 : Nat) (Option.some Jvm.ClassFile.FieldType.long)) ∈ wAll := tm_4 (List.mem_of_getElem? (i := 74) rfl) rfl
theorem tw_4_75 : (Jvm.Cond.methodLink "LadderClubLaw" (112 : Nat) yX11_begin) ∈ wAll := tm_4 (List.mem_of_getElem? (i := 75) rfl) rfl
theorem tw_4_76 : (Jvm.Cond.instanceMethod yX11_begin) ∈ wAll := tm_4 (List.mem_of_getElem? (i := 76) rfl) rfl
theorem tw_4_77 : (Jvm.Cond.selects "LadderClub" yX11_begin yX11_begin) ∈ wAll := tm_4 (List.mem_of_getElem? (i := 77) rfl) rfl
theorem tw_4_78 : (Jvm.Cond.code yX11_begin prog_1_method_24_code (10 : Nat) (Option.some Jvm.ClassFile.FieldType.int)) ∈ wAll := tm_4 (List.mem_of_getElem? (i := 78) rfl) rfl
theorem tw_4_79 : (Jvm.Cond.constantLong "LadderClub" (205 : Nat) (-1 : Int64)) ∈ wAll := tm_4 (List.mem_of_getElem? (i := 79) rfl) rfl
theorem tw_4_80 : (Jvm.Cond.methodLink "LadderClub" (207 : Nat) ({ cls := "java/lang/System", name := "arraycopy", desc := "(Ljava/lang/Object;ILjava/lang/Object;II)V" } : Jvm.MethodName)) ∈ wAll := tm_4 (List.mem_of_getElem? (i := 80) rfl) rfl
theorem tw_4_81 : (Jvm.Cond.methodLink "LadderClubLaw" (116 : Nat) yX11_best) ∈ wAll := tm_4 (List.mem_of_getElem? (i := 81) rfl) rfl
theorem tw_4_82 : (Jvm.Cond.instanceMethod yX11_best) ∈ wAll := tm_4 (List.mem_of_getElem? (i := 82) rfl) rfl
theorem tw_4_83 : (Jvm.Cond.selects "LadderClub" yX11_best yX11_best) ∈ wAll := tm_4 (List.mem_of_getElem? (i := 83) rfl) rfl
theorem tw_4_84 : (Jvm.Cond.code yX11_best prog_1_method_25_code (6 : Nat) (Option.some Jvm.ClassFile.FieldType.int)) ∈ wAll := tm_4 (List.mem_of_getElem? (i := 84) rfl) rfl
theorem tw_4_85 : (Jvm.Cond.methodLink "LadderClubLaw" (120 : Nat) yX11_round) ∈ wAll := tm_4 (List.mem_of_getElem? (i := 85) rfl) rfl
theorem tw_4_86 : (Jvm.Cond.instanceMethod yX11_round) ∈ wAll := tm_4 (List.mem_of_getElem? (i := 86) rfl) rfl
theorem tw_4_87 : (Jvm.Cond.selects "LadderClub" yX11_round yX11_round) ∈ wAll := tm_4 (List.mem_of_getElem? (i := 87) rfl) rfl
theorem tw_4_88 : (Jvm.Cond.code yX11_round prog_1_method_26_code (3 : Nat) (Option.some Jvm.ClassFile.FieldType.int)) ∈ wAll := tm_4 (List.mem_of_getElem? (i := 88) rfl) rfl
theorem tw_4_89 : (Jvm.Cond.methodLink "LadderClubLaw" (124 : Nat) yX11_sorts) ∈ wAll := tm_4 (List.mem_of_getElem? (i := 89) rfl) rfl
theorem tw_4_90 : (Jvm.Cond.instanceMethod yX11_sorts) ∈ wAll := tm_4 (List.mem_of_getElem? (i := 90) rfl) rfl
theorem tw_4_91 : (Jvm.Cond.selects "LadderClub" yX11_sorts yX11_sorts) ∈ wAll := tm_4 (List.mem_of_getElem? (i := 91) rfl) rfl
theorem tw_4_92 : (Jvm.Cond.code yX11_sorts prog_1_method_27_code (5 : Nat) (Option.some Jvm.ClassFile.FieldType.int)) ∈ wAll := tm_4 (List.mem_of_getElem? (i := 92) rfl) rfl
theorem tw_4_93 : (Jvm.Cond.methodLink "LadderClub" (222 : Nat) yX6_hasRungsOfRounds) ∈ wAll := tm_4 (List.mem_of_getElem? (i := 93) rfl) rfl
theorem tw_4_94 : (Jvm.Cond.instanceMethod yX6_hasRungsOfRounds) ∈ wAll := tm_4 (List.mem_of_getElem? (i := 94) rfl) rfl
theorem tw_4_95 : (Jvm.Cond.selects "LadderClub$Ladder" yX6_hasRungsOfRounds yX6_hasRungsOfRounds) ∈ wAll := tm_4 (List.mem_of_getElem? (i := 95) rfl) rfl
theorem tw_4_96 : (Jvm.Cond.code yX6_hasRungsOfRounds prog_8_method_10_code (2 : Nat) (Option.some Jvm.ClassFile.FieldType.boolean)) ∈ wAll := tm_4 (List.mem_of_getElem? (i := 96) rfl) rfl
theorem tw_4_97 : (Jvm.Cond.methodLink "LadderClub" (226 : Nat) yX11_ordersOf) ∈ wAll := tm_4 (List.mem_of_getElem? (i := 97) rfl) rfl
theorem tw_4_98 : (Jvm.Cond.static yX11_ordersOf) ∈ wAll := tm_4 (List.mem_of_getElem? (i := 98) rfl) rfl
theorem tw_4_99 : (Jvm.Cond.code yX11_ordersOf prog_1_method_57_code (3 : Nat) (Option.some Jvm.ClassFile.FieldType.int)) ∈ wAll := tm_4 (List.mem_of_getElem? (i := 99) rfl) rfl
theorem tw_4_100 : (Jvm.Cond.methodLink "LadderClub" (229 : Nat) yX11_firstOrder) ∈ wAll := tm_4 (List.mem_of_getElem? (i := 100) rfl) rfl
theorem tw_4_101 : (Jvm.Cond.static yX11_firstOrder) ∈ wAll := tm_4 (List.mem_of_getElem? (i := 101) rfl) rfl
theorem tw_4_102 : (Jvm.Cond.code yX11_firstOrder prog_1_method_58_code (2 : Nat) (Option.none : Option Jvm.ClassFile.FieldType)) ∈ wAll := tm_4 (List.mem_of_getElem? (i := 102) rfl) rfl
theorem tw_4_103 : (Jvm.Cond.methodLink "LadderClub" (232 : Nat) yX6_playRounds) ∈ wAll := tm_4 (List.mem_of_getElem? (i := 103) rfl) rfl
theorem tw_4_104 : (Jvm.Cond.instanceMethod yX6_playRounds) ∈ wAll := tm_4 (List.mem_of_getElem? (i := 104) rfl) rfl
theorem tw_4_105 : (Jvm.Cond.selects "LadderClub$Ladder" yX6_playRounds yX6_playRounds) ∈ wAll := tm_4 (List.mem_of_getElem? (i := 105) rfl) rfl
theorem tw_4_106 : (Jvm.Cond.code yX6_playRounds prog_8_method_11_code (3 : Nat) (Option.none : Option Jvm.ClassFile.FieldType)) ∈ wAll := tm_4 (List.mem_of_getElem? (i := 106) rfl) rfl
theorem tw_4_108 : (Jvm.Cond.methodLink "LadderClub" (235 : Nat) yX6_isSettled) ∈ wAll := tm_4 (List.mem_of_getElem? (i := 108) rfl) rfl
theorem tw_4_109 : (Jvm.Cond.instanceMethod yX6_isSettled) ∈ wAll := tm_4 (List.mem_of_getElem? (i := 109) rfl) rfl
theorem tw_4_110 : (Jvm.Cond.selects "LadderClub$Ladder" yX6_isSettled yX6_isSettled) ∈ wAll := tm_4 (List.mem_of_getElem? (i := 110) rfl) rfl
theorem tw_4_111 : (Jvm.Cond.code yX6_isSettled prog_8_method_12_code (3 : Nat) (Option.some Jvm.ClassFile.FieldType.boolean)) ∈ wAll := tm_4 (List.mem_of_getElem? (i := 111) rfl) rfl
theorem tw_4_112 : (Jvm.Cond.methodLink "LadderClub" (239 : Nat) yX11_nextOrder) ∈ wAll := tm_4 (List.mem_of_getElem? (i := 112) rfl) rfl
theorem tw_4_113 : (Jvm.Cond.static yX11_nextOrder) ∈ wAll := tm_4 (List.mem_of_getElem? (i := 113) rfl) rfl
theorem tw_4_114 : (Jvm.Cond.code yX11_nextOrder prog_1_method_59_code (6 : Nat) (Option.none : Option Jvm.ClassFile.FieldType)) ∈ wAll := tm_4 (List.mem_of_getElem? (i := 114) rfl) rfl
theorem tw_4_115 : (Jvm.Cond.methodLink "LadderClub" (315 : Nat) yX11_swap) ∈ wAll := tm_4 (List.mem_of_getElem? (i := 115) rfl) rfl
theorem tw_4_116 : (Jvm.Cond.methodLink "LadderClubLaw" (128 : Nat) yX11_past) ∈ wAll := tm_4 (List.mem_of_getElem? (i := 116) rfl) rfl
theorem tw_4_117 : (Jvm.Cond.instanceMethod yX11_past) ∈ wAll := tm_4 (List.mem_of_getElem? (i := 117) rfl) rfl
theorem tw_4_118 : (Jvm.Cond.selects "LadderClub" yX11_past yX11_past) ∈ wAll := tm_4 (List.mem_of_getElem? (i := 118) rfl) rfl
theorem tw_4_119 : (Jvm.Cond.code yX11_past prog_1_method_28_code (5 : Nat) (Option.some Jvm.ClassFile.FieldType.int)) ∈ wAll := tm_4 (List.mem_of_getElem? (i := 119) rfl) rfl
theorem tw_4_120 : (Jvm.Cond.methodLink "LadderClubLaw" (132 : Nat) yX11_really) ∈ wAll := tm_4 (List.mem_of_getElem? (i := 120) rfl) rfl
theorem tw_4_121 : (Jvm.Cond.instanceMethod yX11_really) ∈ wAll := tm_4 (List.mem_of_getElem? (i := 121) rfl) rfl
theorem tw_4_122 : (Jvm.Cond.selects "LadderClub" yX11_really yX11_really) ∈ wAll := tm_4 (List.mem_of_getElem? (i := 122) rfl) rfl
theorem tw_4_123 : (Jvm.Cond.code yX11_really prog_1_method_29_code (2 : Nat) (Option.some Jvm.ClassFile.FieldType.int)) ∈ wAll := tm_4 (List.mem_of_getElem? (i := 123) rfl) rfl
theorem tw_4_124 : (Jvm.Cond.methodLink "LadderClub" (246 : Nat) yX6_threes) ∈ wAll := tm_4 (List.mem_of_getElem? (i := 124) rfl) rfl
theorem tw_4_125 : (Jvm.Cond.instanceMethod yX6_threes) ∈ wAll := tm_4 (List.mem_of_getElem? (i := 125) rfl) rfl
theorem tw_4_126 : (Jvm.Cond.selects "LadderClub$Ladder" yX6_threes yX6_threes) ∈ wAll := tm_4 (List.mem_of_getElem? (i := 126) rfl) rfl
theorem tw_4_127 : (Jvm.Cond.code yX6_threes prog_8_method_13_code (5 : Nat) (Option.some Jvm.ClassFile.FieldType.int)) ∈ wAll := tm_4 (List.mem_of_getElem? (i := 127) rfl) rfl
theorem tw_4_128 : (Jvm.Cond.methodLink "LadderClub$Ladder" (106 : Nat) yX6_wonMore) ∈ wAll := tm_4 (List.mem_of_getElem? (i := 128) rfl) rfl
theorem tw_4_130 : (Jvm.Cond.instanceMethod yX6_wonMore) ∈ wAll := tm_4 (List.mem_of_getElem? (i := 130) rfl) rfl
theorem tw_4_131 : (Jvm.Cond.code yX6_wonMore prog_8_method_14_code (3 : Nat) (Option.some Jvm.ClassFile.FieldType.boolean)) ∈ wAll := tm_4 (List.mem_of_getElem? (i := 131) rfl) rfl
theorem tw_4_132 : (Jvm.Cond.methodLink "LadderClub" (249 : Nat) yX6_neverAsked) ∈ wAll := tm_4 (List.mem_of_getElem? (i := 132) rfl) rfl
theorem tw_4_133 : (Jvm.Cond.instanceMethod yX6_neverAsked) ∈ wAll := tm_4 (List.mem_of_getElem? (i := 133) rfl) rfl
theorem tw_4_134 : (Jvm.Cond.selects "LadderClub$Ladder" yX6_neverAsked yX6_neverAsked) ∈ wAll := tm_4 (List.mem_of_getElem? (i := 134) rfl) rfl
theorem tw_4_135 : (Jvm.Cond.code yX6_neverAsked prog_8_method_15_code (4 : Nat) (Option.some Jvm.ClassFile.FieldType.int)) ∈ wAll := tm_4 (List.mem_of_getElem? (i := 135) rfl) rfl
theorem tw_4_136 : (Jvm.Cond.methodLink "LadderClub" (252 : Nat) yX11_findFewest) ∈ wAll := tm_4 (List.mem_of_getElem? (i := 136) rfl) rfl
theorem tw_4_138 : (Jvm.Cond.instanceMethod yX11_findFewest) ∈ wAll := tm_4 (List.mem_of_getElem? (i := 138) rfl) rfl
theorem tw_4_139 : (Jvm.Cond.code yX11_findFewest prog_1_method_60_code (5 : Nat) (Option.some Jvm.ClassFile.FieldType.int)) ∈ wAll := tm_4 (List.mem_of_getElem? (i := 139) rfl) rfl
theorem tw_4_140 : (Jvm.Cond.methodLink "LadderClub" (318 : Nat) yX6_wonFromBelow) ∈ wAll := tm_4 (List.mem_of_getElem? (i := 140) rfl) rfl
theorem tw_4_141 : (Jvm.Cond.instanceMethod yX6_wonFromBelow) ∈ wAll := tm_4 (List.mem_of_getElem? (i := 141) rfl) rfl
theorem tw_4_142 : (Jvm.Cond.selects "LadderClub$Ladder" yX6_wonFromBelow yX6_wonFromBelow) ∈ wAll := tm_4 (List.mem_of_getElem? (i := 142) rfl) rfl
theorem tw_4_143 : (Jvm.Cond.code yX6_wonFromBelow prog_8_method_16_code (5 : Nat) (Option.some Jvm.ClassFile.FieldType.int)) ∈ wAll := tm_4 (List.mem_of_getElem? (i := 143) rfl) rfl
theorem tw_4_144 : (Jvm.Cond.methodLink "LadderClubLaw" (136 : Nat) yX11_order) ∈ wAll := tm_4 (List.mem_of_getElem? (i := 144) rfl) rfl
theorem tw_4_145 : (Jvm.Cond.instanceMethod yX11_order) ∈ wAll := tm_4 (List.mem_of_getElem? (i := 145) rfl) rfl
theorem tw_4_146 : (Jvm.Cond.selects "LadderClub" yX11_order yX11_order) ∈ wAll := tm_4 (List.mem_of_getElem? (i := 146) rfl) rfl
theorem tw_4_147 : (Jvm.Cond.code yX11_order prog_1_method_30_code (2 : Nat) (Option.some Jvm.ClassFile.FieldType.int)) ∈ wAll := tm_4 (List.mem_of_getElem? (i := 147) rfl) rfl
theorem tw_4_148 : (Jvm.Cond.methodLink "LadderClubLaw" (140 : Nat) yX11_run) ∈ wAll := tm_4 (List.mem_of_getElem? (i := 148) rfl) rfl
theorem tw_4_149 : (Jvm.Cond.instanceMethod yX11_run) ∈ wAll := tm_4 (List.mem_of_getElem? (i := 149) rfl) rfl
theorem tw_4_150 : (Jvm.Cond.selects "LadderClub" yX11_run yX11_run) ∈ wAll := tm_4 (List.mem_of_getElem? (i := 150) rfl) rfl
theorem tw_4_151 : (Jvm.Cond.code yX11_run prog_1_method_31_code (6 : Nat) (Option.some Jvm.ClassFile.FieldType.int)) ∈ wAll := tm_4 (List.mem_of_getElem? (i := 151) rfl) rfl
theorem tw_4_152 : (Jvm.Cond.methodLink "LadderClub" (255 : Nat) yX11_runToday) ∈ wAll := tm_4 (List.mem_of_getElem? (i := 152) rfl) rfl
theorem tw_4_154 : (Jvm.Cond.instanceMethod yX11_runToday) ∈ wAll := tm_4 (List.mem_of_getElem? (i := 154) rfl) rfl
theorem tw_4_155 : (Jvm.Cond.code yX11_runToday prog_1_method_50_code (6 : Nat) (Option.none : Option Jvm.ClassFile.FieldType)) ∈ wAll := tm_4 (List.mem_of_getElem? (i := 155) rfl) rfl
theorem tw_4_156 : (Jvm.Cond.methodLink "LadderClub" (259 : Nat) yX11_far) ∈ wAll := tm_4 (List.mem_of_getElem? (i := 156) rfl) rfl
theorem tw_4_157 : (Jvm.Cond.methodLink "LadderClubLaw" (144 : Nat) yX11_act) ∈ wAll := tm_4 (List.mem_of_getElem? (i := 157) rfl) rfl
theorem tw_4_158 : (Jvm.Cond.instanceMethod yX11_act) ∈ wAll := tm_4 (List.mem_of_getElem? (i := 158) rfl) rfl
theorem tw_4_159 : (Jvm.Cond.selects "LadderClub" yX11_act yX11_act) ∈ wAll := tm_4 (List.mem_of_getElem? (i := 159) rfl) rfl
theorem tw_4_160 : (Jvm.Cond.code yX11_act prog_1_method_32_code (5 : Nat) (Option.some Jvm.ClassFile.FieldType.int)) ∈ wAll := tm_4 (List.mem_of_getElem? (i := 160) rfl) rfl
theorem tw_4_161 : (Jvm.Cond.methodLink "LadderClub" (262 : Nat) yX0_asking) ∈ wAll := tm_4 (List.mem_of_getElem? (i := 161) rfl) rfl
theorem tw_4_162 : (Jvm.Cond.instanceMethod yX0_asking) ∈ wAll := tm_4 (List.mem_of_getElem? (i := 162) rfl) rfl
theorem tw_4_163 : (Jvm.Cond.selects "LadderClub$Asker" yX0_asking yX0_asking) ∈ wAll := tm_4 (List.mem_of_getElem? (i := 163) rfl) rfl
theorem tw_4_164 : (Jvm.Cond.sameMethod "LadderClub$Asker" "LadderClub$Asker" "asking" "(I[I)I") ∈ wAll := tm_4 (List.mem_of_getElem? (i := 164) rfl) rfl
theorem tw_4_165 : (Jvm.Cond.selects "LadderClub$Best" yX0_asking yX1_asking) ∈ wAll := tm_4 (List.mem_of_getElem? (i := 165) rfl) rfl
theorem tw_4_166 : (Jvm.Cond.instanceMethod yX1_asking) ∈ wAll := tm_4 (List.mem_of_getElem? (i := 166) rfl) rfl
theorem tw_4_167 : (Jvm.Cond.code yX1_asking prog_3_method_4_code (3 : Nat) (Option.some Jvm.ClassFile.FieldType.int)) ∈ wAll := tm_4 (List.mem_of_getElem? (i := 167) rfl) rfl
theorem tw_4_168 : (Jvm.Cond.methodLink "LadderClub$Best" (21 : Nat) ({ cls := "LadderClub$Best", name := "note", desc := "([II)V" } : Jvm.MethodName)) ∈ wAll := tm_4 (List.mem_of_getElem? (i := 168) rfl) rfl
theorem tw_4_169 : (Jvm.Cond.sameMethod "LadderClub$Best" "LadderClub$Asker" "note" "([II)V") ∈ wAll := tm_4 (List.mem_of_getElem? (i := 169) rfl) rfl
theorem tw_4_170 : (Jvm.Cond.static yX0_note) ∈ wAll := tm_4 (List.mem_of_getElem? (i := 170) rfl) rfl
theorem tw_4_171 : (Jvm.Cond.code yX0_note prog_2_method_9_code (2 : Nat) (Option.none : Option Jvm.ClassFile.FieldType)) ∈ wAll := tm_4 (List.mem_of_getElem? (i := 171) rfl) rfl
theorem tw_4_172 : (Jvm.Cond.methodLink "LadderClub$Best" (25 : Nat) ({ cls := "LadderClub$Far", name := "asking", desc := "(I[I)I" } : Jvm.MethodName)) ∈ wAll := tm_4 (List.mem_of_getElem? (i := 172) rfl) rfl
theorem tw_4_173 : (Jvm.Cond.sameMethod "LadderClub$Far" "LadderClub$Asker" "asking" "(I[I)I") ∈ wAll := tm_4 (List.mem_of_getElem? (i := 173) rfl) rfl
theorem tw_4_175 : (Jvm.Cond.methodLink "LadderClub$Best" (29 : Nat) ({ cls := "LadderClub$Best", name := "number", desc := "()I" } : Jvm.MethodName)) ∈ wAll := tm_4 (List.mem_of_getElem? (i := 175) rfl) rfl
theorem tw_4_176 : (Jvm.Cond.sameMethod "LadderClub$Best" "LadderClub$Asker" "number" "()I") ∈ wAll := tm_4 (List.mem_of_getElem? (i := 176) rfl) rfl
theorem tw_4_178 : (Jvm.Cond.selects "LadderClub$Best" ({ cls := "LadderClub$Best", name := "number", desc := "()I" } : Jvm.MethodName) yX0_number) ∈ wAll := tm_4 (List.mem_of_getElem? (i := 178) rfl) rfl
theorem tw_4_179 : (Jvm.Cond.instanceMethod yX0_number) ∈ wAll := tm_4 (List.mem_of_getElem? (i := 179) rfl) rfl
theorem tw_4_180 : (Jvm.Cond.code yX0_number prog_2_method_2_code (1 : Nat) (Option.some Jvm.ClassFile.FieldType.int)) ∈ wAll := tm_4 (List.mem_of_getElem? (i := 180) rfl) rfl
theorem tw_4_181 : (Jvm.Cond.selects "LadderClub$Far" yX0_asking yX0_asking) ∈ wAll := tm_4 (List.mem_of_getElem? (i := 181) rfl) rfl
theorem tw_4_182 : (Jvm.Cond.selects "LadderClub$Near" yX0_asking yX7_asking) ∈ wAll := tm_4 (List.mem_of_getElem? (i := 182) rfl) rfl
theorem tw_4_183 : (Jvm.Cond.instanceMethod yX7_asking) ∈ wAll := tm_4 (List.mem_of_getElem? (i := 183) rfl) rfl
theorem tw_4_184 : (Jvm.Cond.code yX7_asking prog_9_method_4_code (3 : Nat) (Option.some Jvm.ClassFile.FieldType.int)) ∈ wAll := tm_4 (List.mem_of_getElem? (i := 184) rfl) rfl
theorem tw_4_185 : (Jvm.Cond.methodLink "LadderClub$Near" (15 : Nat) ({ cls := "LadderClub$Near", name := "note", desc := "([II)V" } : Jvm.MethodName)) ∈ wAll := tm_4 (List.mem_of_getElem? (i := 185) rfl) rfl
theorem tw_4_186 : (Jvm.Cond.sameMethod "LadderClub$Near" "LadderClub$Asker" "note" "([II)V") ∈ wAll := tm_4 (List.mem_of_getElem? (i := 186) rfl) rfl
theorem tw_4_187 : (Jvm.Cond.methodLink "LadderClub$Near" (19 : Nat) yX0_asking) ∈ wAll := tm_4 (List.mem_of_getElem? (i := 187) rfl) rfl
theorem tw_4_188 : (Jvm.Cond.selects "LadderClub$Never" yX0_asking yX0_asking) ∈ wAll := tm_4 (List.mem_of_getElem? (i := 188) rfl) rfl
theorem tw_4_189 : (Jvm.Cond.selects "LadderClub$Safe" yX0_asking yX0_asking) ∈ wAll := tm_4 (List.mem_of_getElem? (i := 189) rfl) rfl
theorem tw_4_190 : (Jvm.Cond.selects "LadderClub$Told" yX0_asking yX0_asking) ∈ wAll := tm_4 (List.mem_of_getElem? (i := 190) rfl) rfl
theorem tw_4_191 : (Jvm.Cond.code yX0_asking prog_2_method_6_code (3 : Nat) (Option.some Jvm.ClassFile.FieldType.int)) ∈ wAll := tm_4 (List.mem_of_getElem? (i := 191) rfl) rfl
theorem tw_4_192 : (Jvm.Cond.methodLink "LadderClub$Asker" (22 : Nat) yX0_note) ∈ wAll := tm_4 (List.mem_of_getElem? (i := 192) rfl) rfl
theorem tw_4_193 : (Jvm.Cond.methodLink "LadderClub" (266 : Nat) yX0_taking) ∈ wAll := tm_4 (List.mem_of_getElem? (i := 193) rfl) rfl
theorem tw_4_194 : (Jvm.Cond.instanceMethod yX0_taking) ∈ wAll := tm_4 (List.mem_of_getElem? (i := 194) rfl) rfl
theorem tw_4_195 : (Jvm.Cond.selects "LadderClub$Asker" yX0_taking yX0_taking) ∈ wAll := tm_4 (List.mem_of_getElem? (i := 195) rfl) rfl
theorem tw_4_196 : (Jvm.Cond.sameMethod "LadderClub$Asker" "LadderClub$Asker" "taking" "(I[I)I") ∈ wAll := tm_4 (List.mem_of_getElem? (i := 196) rfl) rfl
theorem tw_4_197 : (Jvm.Cond.selects "LadderClub$Best" yX0_taking yX5_taking) ∈ wAll := tm_4 (List.mem_of_getElem? (i := 197) rfl) rfl
theorem tw_4_198 : (Jvm.Cond.instanceMethod yX5_taking) ∈ wAll := tm_4 (List.mem_of_getElem? (i := 198) rfl) rfl
theorem tw_4_199 : (Jvm.Cond.code yX5_taking prog_7_method_4_code (3 : Nat) (Option.some Jvm.ClassFile.FieldType.int)) ∈ wAll := tm_4 (List.mem_of_getElem? (i := 199) rfl) rfl
theorem tw_4_200 : (Jvm.Cond.methodLink "LadderClub$Far" (15 : Nat) ({ cls := "LadderClub$Far", name := "note", desc := "([II)V" } : Jvm.MethodName)) ∈ wAll := tm_4 (List.mem_of_getElem? (i := 200) rfl) rfl
theorem tw_4_201 : (Jvm.Cond.sameMethod "LadderClub$Far" "LadderClub$Asker" "note" "([II)V") ∈ wAll := tm_4 (List.mem_of_getElem? (i := 201) rfl) rfl
theorem tw_4_202 : (Jvm.Cond.methodLink "LadderClub$Far" (19 : Nat) yX0_taking) ∈ wAll := tm_4 (List.mem_of_getElem? (i := 202) rfl) rfl
theorem tw_4_203 : (Jvm.Cond.selects "LadderClub$Far" yX0_taking yX5_taking) ∈ wAll := tm_4 (List.mem_of_getElem? (i := 203) rfl) rfl
theorem tw_4_204 : (Jvm.Cond.selects "LadderClub$Near" yX0_taking yX0_taking) ∈ wAll := tm_4 (List.mem_of_getElem? (i := 204) rfl) rfl
theorem tw_4_205 : (Jvm.Cond.selects "LadderClub$Never" yX0_taking yX8_taking) ∈ wAll := tm_4 (List.mem_of_getElem? (i := 205) rfl) rfl
theorem tw_4_206 : (Jvm.Cond.instanceMethod yX8_taking) ∈ wAll := tm_4 (List.mem_of_getElem? (i := 206) rfl) rfl
theorem tw_4_207 : (Jvm.Cond.code yX8_taking prog_10_method_4_code (3 : Nat) (Option.some Jvm.ClassFile.FieldType.int)) ∈ wAll := tm_4 (List.mem_of_getElem? (i := 207) rfl) rfl
theorem tw_4_208 : (Jvm.Cond.methodLink "LadderClub$Never" (11 : Nat) ({ cls := "LadderClub$Never", name := "note", desc := "([II)V" } : Jvm.MethodName)) ∈ wAll := tm_4 (List.mem_of_getElem? (i := 208) rfl) rfl
theorem tw_4_209 : (Jvm.Cond.sameMethod "LadderClub$Never" "LadderClub$Asker" "note" "([II)V") ∈ wAll := tm_4 (List.mem_of_getElem? (i := 209) rfl) rfl
theorem tw_4_210 : (Jvm.Cond.methodLink "LadderClub$Never" (15 : Nat) ({ cls := "LadderClub$Told", name := "taking", desc := "(I[I)I" } : Jvm.MethodName)) ∈ wAll := tm_4 (List.mem_of_getElem? (i := 210) rfl) rfl
theorem tw_4_211 : (Jvm.Cond.sameMethod "LadderClub$Told" "LadderClub$Asker" "taking" "(I[I)I") ∈ wAll := tm_4 (List.mem_of_getElem? (i := 211) rfl) rfl
theorem tw_4_213 : (Jvm.Cond.methodLink "LadderClub$Never" (19 : Nat) ({ cls := "LadderClub$Never", name := "v", desc := "()I" } : Jvm.MethodName)) ∈ wAll := tm_4 (List.mem_of_getElem? (i := 213) rfl) rfl
theorem tw_4_214 : (Jvm.Cond.sameMethod "LadderClub$Never" "LadderClub$Asker" "v" "()I") ∈ wAll := tm_4 (List.mem_of_getElem? (i := 214) rfl) rfl
theorem tw_4_215 : (Jvm.Cond.selects "LadderClub$Never" ({ cls := "LadderClub$Never", name := "v", desc := "()I" } : Jvm.MethodName) yX0_v) ∈ wAll := tm_4 (List.mem_of_getElem? (i := 215) rfl) rfl
theorem tw_4_216 : (Jvm.Cond.selects "LadderClub$Safe" yX0_taking yX5_taking) ∈ wAll := tm_4 (List.mem_of_getElem? (i := 216) rfl) rfl
theorem tw_4_217 : (Jvm.Cond.selects "LadderClub$Told" yX0_taking yX0_taking) ∈ wAll := tm_4 (List.mem_of_getElem? (i := 217) rfl) rfl
theorem tw_4_218 : (Jvm.Cond.code yX0_taking prog_2_method_7_code (3 : Nat) (Option.some Jvm.ClassFile.FieldType.int)) ∈ wAll := tm_4 (List.mem_of_getElem? (i := 218) rfl) rfl
theorem tw_4_219 : (Jvm.Cond.methodLink "LadderClub$Asker" (26 : Nat) yX0_asking) ∈ wAll := tm_4 (List.mem_of_getElem? (i := 219) rfl) rfl
theorem tw_4_220 : (Jvm.Cond.methodLink "LadderClub" (269 : Nat) yX0_waiting) ∈ wAll := tm_4 (List.mem_of_getElem? (i := 220) rfl) rfl
theorem tw_4_221 : (Jvm.Cond.instanceMethod yX0_waiting) ∈ wAll := tm_4 (List.mem_of_getElem? (i := 221) rfl) rfl
theorem tw_4_222 : (Jvm.Cond.selects "LadderClub$Asker" yX0_waiting yX0_waiting) ∈ wAll := tm_4 (List.mem_of_getElem? (i := 222) rfl) rfl
theorem tw_4_223 : (Jvm.Cond.sameMethod "LadderClub$Asker" "LadderClub$Asker" "waiting" "(I[I)I") ∈ wAll := tm_4 (List.mem_of_getElem? (i := 223) rfl) rfl
theorem tw_4_224 : (Jvm.Cond.selects "LadderClub$Best" yX0_waiting yX0_waiting) ∈ wAll := tm_4 (List.mem_of_getElem? (i := 224) rfl) rfl
theorem tw_4_225 : (Jvm.Cond.selects "LadderClub$Far" yX0_waiting yX0_waiting) ∈ wAll := tm_4 (List.mem_of_getElem? (i := 225) rfl) rfl
theorem tw_4_226 : (Jvm.Cond.selects "LadderClub$Near" yX0_waiting yX0_waiting) ∈ wAll := tm_4 (List.mem_of_getElem? (i := 226) rfl) rfl
theorem tw_4_227 : (Jvm.Cond.selects "LadderClub$Never" yX0_waiting yX10_waiting) ∈ wAll := tm_4 (List.mem_of_getElem? (i := 227) rfl) rfl
theorem tw_4_228 : (Jvm.Cond.instanceMethod yX10_waiting) ∈ wAll := tm_4 (List.mem_of_getElem? (i := 228) rfl) rfl
theorem tw_4_229 : (Jvm.Cond.code yX10_waiting prog_12_method_4_code (3 : Nat) (Option.some Jvm.ClassFile.FieldType.int)) ∈ wAll := tm_4 (List.mem_of_getElem? (i := 229) rfl) rfl
theorem tw_4_230 : (Jvm.Cond.methodLink "LadderClub$Told" (19 : Nat) ({ cls := "LadderClub$Told", name := "note", desc := "([II)V" } : Jvm.MethodName)) ∈ wAll := tm_4 (List.mem_of_getElem? (i := 230) rfl) rfl
theorem tw_4_231 : (Jvm.Cond.sameMethod "LadderClub$Told" "LadderClub$Asker" "note" "([II)V") ∈ wAll := tm_4 (List.mem_of_getElem? (i := 231) rfl) rfl
theorem tw_4_232 : (Jvm.Cond.methodLink "LadderClub$Told" (23 : Nat) yX0_waiting) ∈ wAll := tm_4 (List.mem_of_getElem? (i := 232) rfl) rfl
theorem tw_4_233 : (Jvm.Cond.selects "LadderClub$Safe" yX0_waiting yX9_waiting) ∈ wAll := tm_4 (List.mem_of_getElem? (i := 233) rfl) rfl
theorem tw_4_234 : (Jvm.Cond.instanceMethod yX9_waiting) ∈ wAll := tm_4 (List.mem_of_getElem? (i := 234) rfl) rfl
theorem tw_4_235 : (Jvm.Cond.code yX9_waiting prog_11_method_4_code (3 : Nat) (Option.some Jvm.ClassFile.FieldType.int)) ∈ wAll := tm_4 (List.mem_of_getElem? (i := 235) rfl) rfl
theorem tw_4_236 : (Jvm.Cond.methodLink "LadderClub$Safe" (19 : Nat) ({ cls := "LadderClub$Safe", name := "note", desc := "([II)V" } : Jvm.MethodName)) ∈ wAll := tm_4 (List.mem_of_getElem? (i := 236) rfl) rfl
theorem tw_4_237 : (Jvm.Cond.sameMethod "LadderClub$Safe" "LadderClub$Asker" "note" "([II)V") ∈ wAll := tm_4 (List.mem_of_getElem? (i := 237) rfl) rfl
theorem tw_4_238 : (Jvm.Cond.methodLink "LadderClub$Safe" (23 : Nat) ({ cls := "LadderClub$Far", name := "waiting", desc := "(I[I)I" } : Jvm.MethodName)) ∈ wAll := tm_4 (List.mem_of_getElem? (i := 238) rfl) rfl
theorem tw_4_239 : (Jvm.Cond.sameMethod "LadderClub$Far" "LadderClub$Asker" "waiting" "(I[I)I") ∈ wAll := tm_4 (List.mem_of_getElem? (i := 239) rfl) rfl
theorem tw_5_1 : (Jvm.Cond.methodLink "LadderClub$Safe" (27 : Nat) ({ cls := "LadderClub$Safe", name := "asking", desc := "(I[I)I" } : Jvm.MethodName)) ∈ wAll := tm_5 (List.mem_of_getElem? (i := 1) rfl) rfl
theorem tw_5_2 : (Jvm.Cond.sameMethod "LadderClub$Safe" "LadderClub$Asker" "asking" "(I[I)I") ∈ wAll := tm_5 (List.mem_of_getElem? (i := 2) rfl) rfl
theorem tw_5_3 : (Jvm.Cond.selects "LadderClub$Safe" ({ cls := "LadderClub$Safe", name := "asking", desc := "(I[I)I" } : Jvm.MethodName) yX0_asking) ∈ wAll := tm_5 (List.mem_of_getElem? (i := 3) rfl) rfl
theorem tw_5_4 : (Jvm.Cond.selects "LadderClub$Told" yX0_waiting yX10_waiting) ∈ wAll := tm_5 (List.mem_of_getElem? (i := 4) rfl) rfl
theorem tw_5_5 : (Jvm.Cond.code yX0_waiting prog_2_method_8_code (3 : Nat) (Option.some Jvm.ClassFile.FieldType.int)) ∈ wAll := tm_5 (List.mem_of_getElem? (i := 5) rfl) rfl
theorem tw_5_6 : (Jvm.Cond.methodLink "LadderClub$Asker" (30 : Nat) yX0_taking) ∈ wAll := tm_5 (List.mem_of_getElem? (i := 6) rfl) rfl
theorem tw_5_7 : (Jvm.Cond.methodLink "LadderClubLaw" (148 : Nat) yX11_trace) ∈ wAll := tm_5 (List.mem_of_getElem? (i := 7) rfl) rfl
theorem tw_5_8 : (Jvm.Cond.instanceMethod yX11_trace) ∈ wAll := tm_5 (List.mem_of_getElem? (i := 8) rfl) rfl
theorem tw_5_9 : (Jvm.Cond.selects "LadderClub" yX11_trace yX11_trace) ∈ wAll := tm_5 (List.mem_of_getElem? (i := 9) rfl) rfl
theorem tw_5_10 : (Jvm.Cond.code yX11_trace prog_1_method_33_code (2 : Nat) (Option.some Jvm.ClassFile.FieldType.int)) ∈ wAll := tm_5 (List.mem_of_getElem? (i := 10) rfl) rfl
theorem tw_5_11 : (Jvm.Cond.methodLink "LadderClubLaw" (152 : Nat) yX11_as) ∈ wAll := tm_5 (List.mem_of_getElem? (i := 11) rfl) rfl
theorem tw_5_12 : (Jvm.Cond.instanceMethod yX11_as) ∈ wAll := tm_5 (List.mem_of_getElem? (i := 12) rfl) rfl
theorem tw_5_13 : (Jvm.Cond.selects "LadderClub" yX11_as yX11_as) ∈ wAll := tm_5 (List.mem_of_getElem? (i := 13) rfl) rfl
theorem tw_5_14 : (Jvm.Cond.code yX11_as prog_1_method_34_code (3 : Nat) (Option.some Jvm.ClassFile.FieldType.int)) ∈ wAll := tm_5 (List.mem_of_getElem? (i := 14) rfl) rfl
theorem tw_5_15 : (Jvm.Cond.methodLink "LadderClub" (272 : Nat) yX11_isOfKind) ∈ wAll := tm_5 (List.mem_of_getElem? (i := 15) rfl) rfl
theorem tw_5_16 : (Jvm.Cond.static yX11_isOfKind) ∈ wAll := tm_5 (List.mem_of_getElem? (i := 16) rfl) rfl
theorem tw_5_17 : (Jvm.Cond.code yX11_isOfKind prog_1_method_62_code (2 : Nat) (Option.some Jvm.ClassFile.FieldType.boolean)) ∈ wAll := tm_5 (List.mem_of_getElem? (i := 17) rfl) rfl
theorem tw_5_18 : (Jvm.Cond.methodLink "LadderClubLaw" (156 : Nat) yX11_image) ∈ wAll := tm_5 (List.mem_of_getElem? (i := 18) rfl) rfl
theorem tw_5_19 : (Jvm.Cond.instanceMethod yX11_image) ∈ wAll := tm_5 (List.mem_of_getElem? (i := 19) rfl) rfl
theorem tw_5_20 : (Jvm.Cond.selects "LadderClub" yX11_image yX11_image) ∈ wAll := tm_5 (List.mem_of_getElem? (i := 20) rfl) rfl
theorem tw_5_21 : (Jvm.Cond.code yX11_image prog_1_method_35_code (1 : Nat) (Option.some Jvm.ClassFile.FieldType.int)) ∈ wAll := tm_5 (List.mem_of_getElem? (i := 21) rfl) rfl
theorem tw_5_22 : (Jvm.Cond.methodLink "LadderClub" (279 : Nat) yX6_copy) ∈ wAll := tm_5 (List.mem_of_getElem? (i := 22) rfl) rfl
theorem tw_5_23 : (Jvm.Cond.instanceMethod yX6_copy) ∈ wAll := tm_5 (List.mem_of_getElem? (i := 23) rfl) rfl
theorem tw_5_24 : (Jvm.Cond.selects "LadderClub$Ladder" yX6_copy yX6_copy) ∈ wAll := tm_5 (List.mem_of_getElem? (i := 24) rfl) rfl
theorem tw_5_25 : (Jvm.Cond.code yX6_copy prog_8_method_2_code (3 : Nat) (Option.none : Option Jvm.ClassFile.FieldType)) ∈ wAll := tm_5 (List.mem_of_getElem? (i := 25) rfl) rfl
theorem tw_5_26 : (Jvm.Cond.methodLink "LadderClub$Ladder" (73 : Nat) ({ cls := "java/lang/System", name := "arraycopy", desc := "(Ljava/lang/Object;ILjava/lang/Object;II)V" } : Jvm.MethodName)) ∈ wAll := tm_5 (List.mem_of_getElem? (i := 26) rfl) rfl
theorem tw_5_27 : (Jvm.Cond.methodLink "LadderClubLaw" (160 : Nat) yX11_undo) ∈ wAll := tm_5 (List.mem_of_getElem? (i := 27) rfl) rfl
theorem tw_5_28 : (Jvm.Cond.instanceMethod yX11_undo) ∈ wAll := tm_5 (List.mem_of_getElem? (i := 28) rfl) rfl
theorem tw_5_29 : (Jvm.Cond.selects "LadderClub" yX11_undo yX11_undo) ∈ wAll := tm_5 (List.mem_of_getElem? (i := 29) rfl) rfl
theorem tw_5_30 : (Jvm.Cond.code yX11_undo prog_1_method_36_code (1 : Nat) (Option.some Jvm.ClassFile.FieldType.int)) ∈ wAll := tm_5 (List.mem_of_getElem? (i := 30) rfl) rfl
theorem tw_5_31 : (Jvm.Cond.methodLink "LadderClubLaw" (164 : Nat) yX11_count) ∈ wAll := tm_5 (List.mem_of_getElem? (i := 31) rfl) rfl
theorem tw_5_32 : (Jvm.Cond.instanceMethod yX11_count) ∈ wAll := tm_5 (List.mem_of_getElem? (i := 32) rfl) rfl
theorem tw_5_33 : (Jvm.Cond.selects "LadderClub" yX11_count yX11_count) ∈ wAll := tm_5 (List.mem_of_getElem? (i := 33) rfl) rfl
theorem tw_5_34 : (Jvm.Cond.code yX11_count prog_1_method_37_code (2 : Nat) (Option.some Jvm.ClassFile.FieldType.int)) ∈ wAll := tm_5 (List.mem_of_getElem? (i := 34) rfl) rfl
theorem tw_5_35 : (Jvm.Cond.classLink "LadderClubLaw" (10 : Nat) "LadderClubModel") ∈ wAll := tm_5 (List.mem_of_getElem? (i := 35) rfl) rfl
theorem tw_5_36 : (Jvm.Cond.instantiable "LadderClubModel" (28 : Nat)) ∈ wAll := tm_5 (List.mem_of_getElem? (i := 36) rfl) rfl
theorem tw_5_37 : (Jvm.Cond.methodLink "LadderClubLaw" (12 : Nat) yX12_init) ∈ wAll := tm_5 (List.mem_of_getElem? (i := 37) rfl) rfl
theorem tw_5_38 : (Jvm.Cond.instanceMethod yX12_init) ∈ wAll := tm_5 (List.mem_of_getElem? (i := 38) rfl) rfl
theorem tw_5_39 : (Jvm.Cond.code yX12_init prog_14_method_1_code (1 : Nat) (Option.none : Option Jvm.ClassFile.FieldType)) ∈ wAll := tm_5 (List.mem_of_getElem? (i := 39) rfl) rfl
theorem tw_5_40 : (Jvm.Cond.methodLink "LadderClubModel" (3 : Nat) ({ cls := "java/lang/Object", name := "<init>", desc := "()V" } : Jvm.MethodName)) ∈ wAll := tm_5 (List.mem_of_getElem? (i := 40) rfl) rfl
theorem tw_5_41 : (Jvm.Cond.fieldLink "LadderClubModel" (9 : Nat) "LadderClubModel" "s" "[I") ∈ wAll := tm_5 (List.mem_of_getElem? (i := 41) rfl) rfl
theorem tw_5_42 : (Jvm.Cond.fieldLink "LadderClubModel" (15 : Nat) "LadderClubModel" "image" "[I") ∈ wAll := tm_5 (List.mem_of_getElem? (i := 42) rfl) rfl
theorem tw_5_43 : (Jvm.Cond.fieldLink "LadderClubModel" (292 : Nat) "LadderClubModel" "hasImage" "Z") ∈ wAll := tm_5 (List.mem_of_getElem? (i := 43) rfl) rfl
theorem tw_5_44 : (Jvm.Cond.fieldLink "LadderClubModel" (103 : Nat) "LadderClubModel" "act" "I") ∈ wAll := tm_5 (List.mem_of_getElem? (i := 44) rfl) rfl
theorem tw_5_45 : (Jvm.Cond.fieldLink "LadderClubModel" (77 : Nat) "LadderClubModel" "spot" "I") ∈ wAll := tm_5 (List.mem_of_getElem? (i := 45) rfl) rfl
theorem tw_5_46 : (Jvm.Cond.fieldLink "LadderClubModel" (80 : Nat) "LadderClubModel" "end" "I") ∈ wAll := tm_5 (List.mem_of_getElem? (i := 46) rfl) rfl
theorem tw_5_47 : (Jvm.Cond.fieldLink "LadderClubModel" (83 : Nat) "LadderClubModel" "isWrong" "Z") ∈ wAll := tm_5 (List.mem_of_getElem? (i := 47) rfl) rfl
theorem tw_5_48 : (Jvm.Cond.fieldLink "LadderClubModel" (106 : Nat) "LadderClubModel" "open" "I") ∈ wAll := tm_5 (List.mem_of_getElem? (i := 48) rfl) rfl
theorem tw_5_49 : (Jvm.Cond.fieldLink "LadderClubModel" (18 : Nat) "LadderClubModel" "truths" "[Z") ∈ wAll := tm_5 (List.mem_of_getElem? (i := 49) rfl) rfl
theorem tw_5_50 : (Jvm.Cond.fieldLink "LadderClubModel" (22 : Nat) "LadderClubModel" "by" "[I") ∈ wAll := tm_5 (List.mem_of_getElem? (i := 50) rfl) rfl
theorem tw_5_51 : (Jvm.Cond.fieldLink "LadderClubModel" (25 : Nat) "LadderClubModel" "refused" "I") ∈ wAll := tm_5 (List.mem_of_getElem? (i := 51) rfl) rfl
theorem tw_5_52 : (Jvm.Cond.fieldLink "LadderClubModel" (29 : Nat) "LadderClubModel" "boards" "[I") ∈ wAll := tm_5 (List.mem_of_getElem? (i := 52) rfl) rfl
theorem tw_5_53 : (Jvm.Cond.fieldLink "LadderClubModel" (32 : Nat) "LadderClubModel" "nextBoards" "[I") ∈ wAll := tm_5 (List.mem_of_getElem? (i := 53) rfl) rfl
theorem tw_5_54 : (Jvm.Cond.fieldLink "LadderClubModel" (35 : Nat) "LadderClubModel" "weights" "[J") ∈ wAll := tm_5 (List.mem_of_getElem? (i := 54) rfl) rfl
theorem tw_5_55 : (Jvm.Cond.fieldLink "LadderClubModel" (39 : Nat) "LadderClubModel" "nextWeights" "[J") ∈ wAll := tm_5 (List.mem_of_getElem? (i := 55) rfl) rfl
theorem tw_5_56 : (Jvm.Cond.fieldLink "LadderClubModel" (178 : Nat) "LadderClubModel" "many" "I") ∈ wAll := tm_5 (List.mem_of_getElem? (i := 56) rfl) rfl
theorem tw_5_57 : (Jvm.Cond.fieldLink "LadderClubModel" (175 : Nat) "LadderClubModel" "nextMany" "I") ∈ wAll := tm_5 (List.mem_of_getElem? (i := 57) rfl) rfl
theorem tw_5_58 : (Jvm.Cond.fieldLink "LadderClubModel" (185 : Nat) "LadderClubModel" "line" "J") ∈ wAll := tm_5 (List.mem_of_getElem? (i := 58) rfl) rfl
theorem tw_5_59 : (Jvm.Cond.fieldLink "LadderClubModel" (225 : Nat) "LadderClubModel" "orders" "I") ∈ wAll := tm_5 (List.mem_of_getElem? (i := 59) rfl) rfl
theorem tw_5_60 : (Jvm.Cond.fieldLink "LadderClubModel" (228 : Nat) "LadderClubModel" "sortedMany" "I") ∈ wAll := tm_5 (List.mem_of_getElem? (i := 60) rfl) rfl
theorem tw_5_61 : (Jvm.Cond.fieldLink "LadderClubModel" (238 : Nat) "LadderClubModel" "fewest" "I") ∈ wAll := tm_5 (List.mem_of_getElem? (i := 61) rfl) rfl
theorem tw_5_62 : (Jvm.Cond.fieldLink "LadderClubModel" (241 : Nat) "LadderClubModel" "bestOrder" "I") ∈ wAll := tm_5 (List.mem_of_getElem? (i := 62) rfl) rfl
theorem tw_5_63 : (Jvm.Cond.fieldLink "LadderClubModel" (42 : Nat) "LadderClubModel" "bodies" "[I") ∈ wAll := tm_5 (List.mem_of_getElem? (i := 63) rfl) rfl
theorem tw_5_64 : (Jvm.Cond.fieldLink "LadderClubModel" (256 : Nat) "LadderClubModel" "ran" "I") ∈ wAll := tm_5 (List.mem_of_getElem? (i := 64) rfl) rfl
theorem tw_5_65 : (Jvm.Cond.fieldLink "LadderClubModel" (265 : Nat) "LadderClubModel" "kind" "I") ∈ wAll := tm_5 (List.mem_of_getElem? (i := 65) rfl) rfl
theorem tw_5_66 : (Jvm.Cond.fieldLink "LadderClubModel" (262 : Nat) "LadderClubModel" "number" "I") ∈ wAll := tm_5 (List.mem_of_getElem? (i := 66) rfl) rfl
theorem tw_5_67 : (Jvm.Cond.fieldLink "LadderClubModel" (274 : Nat) "LadderClubModel" "tellsV" "I") ∈ wAll := tm_5 (List.mem_of_getElem? (i := 67) rfl) rfl
theorem tw_5_68 : (Jvm.Cond.lays "LadderClubModel" "LadderClubModel" "thrown" "I") ∈ wAll := tm_5 (List.mem_of_getElem? (i := 68) rfl) rfl
theorem tw_5_70 : (Jvm.Cond.laysFinal "LadderClubModel" "LadderClubModel" "s" "[I") ∈ wAll := tm_5 (List.mem_of_getElem? (i := 70) rfl) rfl
theorem tw_5_72 : (Jvm.Cond.laysFinal "LadderClubModel" "LadderClubModel" "image" "[I") ∈ wAll := tm_5 (List.mem_of_getElem? (i := 72) rfl) rfl
theorem tw_5_74 : (Jvm.Cond.lays "LadderClubModel" "LadderClubModel" "hasImage" "Z") ∈ wAll := tm_5 (List.mem_of_getElem? (i := 74) rfl) rfl
theorem tw_5_76 : (Jvm.Cond.lays "LadderClubModel" "LadderClubModel" "act" "I") ∈ wAll := tm_5 (List.mem_of_getElem? (i := 76) rfl) rfl
theorem tw_5_78 : (Jvm.Cond.lays "LadderClubModel" "LadderClubModel" "spot" "I") ∈ wAll := tm_5 (List.mem_of_getElem? (i := 78) rfl) rfl
theorem tw_5_80 : (Jvm.Cond.lays "LadderClubModel" "LadderClubModel" "end" "I") ∈ wAll := tm_5 (List.mem_of_getElem? (i := 80) rfl) rfl
theorem tw_5_82 : (Jvm.Cond.lays "LadderClubModel" "LadderClubModel" "isWrong" "Z") ∈ wAll := tm_5 (List.mem_of_getElem? (i := 82) rfl) rfl
theorem tw_5_84 : (Jvm.Cond.lays "LadderClubModel" "LadderClubModel" "open" "I") ∈ wAll := tm_5 (List.mem_of_getElem? (i := 84) rfl) rfl
theorem tw_5_86 : (Jvm.Cond.laysFinal "LadderClubModel" "LadderClubModel" "truths" "[Z") ∈ wAll := tm_5 (List.mem_of_getElem? (i := 86) rfl) rfl
theorem tw_5_88 : (Jvm.Cond.laysFinal "LadderClubModel" "LadderClubModel" "by" "[I") ∈ wAll := tm_5 (List.mem_of_getElem? (i := 88) rfl) rfl
theorem tw_5_90 : (Jvm.Cond.lays "LadderClubModel" "LadderClubModel" "refused" "I") ∈ wAll := tm_5 (List.mem_of_getElem? (i := 90) rfl) rfl
theorem tw_5_92 : (Jvm.Cond.laysFinal "LadderClubModel" "LadderClubModel" "boards" "[I") ∈ wAll := tm_5 (List.mem_of_getElem? (i := 92) rfl) rfl
theorem tw_5_94 : (Jvm.Cond.laysFinal "LadderClubModel" "LadderClubModel" "nextBoards" "[I") ∈ wAll := tm_5 (List.mem_of_getElem? (i := 94) rfl) rfl
theorem tw_5_96 : (Jvm.Cond.laysFinal "LadderClubModel" "LadderClubModel" "weights" "[J") ∈ wAll := tm_5 (List.mem_of_getElem? (i := 96) rfl) rfl
theorem tw_5_98 : (Jvm.Cond.laysFinal "LadderClubModel" "LadderClubModel" "nextWeights" "[J") ∈ wAll := tm_5 (List.mem_of_getElem? (i := 98) rfl) rfl
theorem tw_5_100 : (Jvm.Cond.lays "LadderClubModel" "LadderClubModel" "many" "I") ∈ wAll := tm_5 (List.mem_of_getElem? (i := 100) rfl) rfl
theorem tw_5_102 : (Jvm.Cond.lays "LadderClubModel" "LadderClubModel" "nextMany" "I") ∈ wAll := tm_5 (List.mem_of_getElem? (i := 102) rfl) rfl
theorem tw_5_104 : (Jvm.Cond.lays "LadderClubModel" "LadderClubModel" "line" "J") ∈ wAll := tm_5 (List.mem_of_getElem? (i := 104) rfl) rfl
theorem tw_5_106 : (Jvm.Cond.lays "LadderClubModel" "LadderClubModel" "orders" "I") ∈ wAll := tm_5 (List.mem_of_getElem? (i := 106) rfl) rfl
theorem tw_5_108 : (Jvm.Cond.lays "LadderClubModel" "LadderClubModel" "sortedMany" "I") ∈ wAll := tm_5 (List.mem_of_getElem? (i := 108) rfl) rfl
theorem tw_5_110 : (Jvm.Cond.lays "LadderClubModel" "LadderClubModel" "fewest" "I") ∈ wAll := tm_5 (List.mem_of_getElem? (i := 110) rfl) rfl
theorem tw_5_112 : (Jvm.Cond.lays "LadderClubModel" "LadderClubModel" "bestOrder" "I") ∈ wAll := tm_5 (List.mem_of_getElem? (i := 112) rfl) rfl
theorem tw_5_114 : (Jvm.Cond.laysFinal "LadderClubModel" "LadderClubModel" "bodies" "[I") ∈ wAll := tm_5 (List.mem_of_getElem? (i := 114) rfl) rfl
theorem tw_5_116 : (Jvm.Cond.lays "LadderClubModel" "LadderClubModel" "ran" "I") ∈ wAll := tm_5 (List.mem_of_getElem? (i := 116) rfl) rfl
theorem tw_5_118 : (Jvm.Cond.lays "LadderClubModel" "LadderClubModel" "kind" "I") ∈ wAll := tm_5 (List.mem_of_getElem? (i := 118) rfl) rfl
theorem tw_5_120 : (Jvm.Cond.lays "LadderClubModel" "LadderClubModel" "number" "I") ∈ wAll := tm_5 (List.mem_of_getElem? (i := 120) rfl) rfl
theorem tw_5_122 : (Jvm.Cond.lays "LadderClubModel" "LadderClubModel" "tellsV" "I") ∈ wAll := tm_5 (List.mem_of_getElem? (i := 122) rfl) rfl
theorem tw_5_125 : (Jvm.Cond.arrayClass Jvm.ClassFile.FieldType.boolean) ∈ wAll := tm_5 (List.mem_of_getElem? (i := 125) rfl) rfl
theorem tw_5_126 : (Jvm.Cond.methodLink "LadderClubLaw" (17 : Nat) yX12_name) ∈ wAll := tm_5 (List.mem_of_getElem? (i := 126) rfl) rfl
theorem tw_5_127 : (Jvm.Cond.instanceMethod yX12_name) ∈ wAll := tm_5 (List.mem_of_getElem? (i := 127) rfl) rfl
theorem tw_5_128 : (Jvm.Cond.selects "LadderClubModel" yX12_name yX12_name) ∈ wAll := tm_5 (List.mem_of_getElem? (i := 128) rfl) rfl
theorem tw_5_129 : (Jvm.Cond.code yX12_name prog_14_method_12_code (3 : Nat) (Option.some Jvm.ClassFile.FieldType.int)) ∈ wAll := tm_5 (List.mem_of_getElem? (i := 129) rfl) rfl
theorem tw_5_130 : (Jvm.Cond.methodLink "LadderClubLaw" (22 : Nat) yX12_chance) ∈ wAll := tm_5 (List.mem_of_getElem? (i := 130) rfl) rfl
theorem tw_5_131 : (Jvm.Cond.instanceMethod yX12_chance) ∈ wAll := tm_5 (List.mem_of_getElem? (i := 131) rfl) rfl
theorem tw_5_132 : (Jvm.Cond.selects "LadderClubModel" yX12_chance yX12_chance) ∈ wAll := tm_5 (List.mem_of_getElem? (i := 132) rfl) rfl
theorem tw_5_133 : (Jvm.Cond.code yX12_chance prog_14_method_13_code (5 : Nat) (Option.some Jvm.ClassFile.FieldType.int)) ∈ wAll := tm_5 (List.mem_of_getElem? (i := 133) rfl) rfl
theorem tw_5_134 : (Jvm.Cond.methodLink "LadderClubModel" (60 : Nat) yX12_isName) ∈ wAll := tm_5 (List.mem_of_getElem? (i := 134) rfl) rfl
theorem tw_5_136 : (Jvm.Cond.instanceMethod yX12_isName) ∈ wAll := tm_5 (List.mem_of_getElem? (i := 136) rfl) rfl
theorem tw_5_137 : (Jvm.Cond.code yX12_isName prog_14_method_4_code (2 : Nat) (Option.some Jvm.ClassFile.FieldType.boolean)) ∈ wAll := tm_5 (List.mem_of_getElem? (i := 137) rfl) rfl
theorem tw_5_138 : (Jvm.Cond.methodLink "LadderClubModel" (48 : Nat) yX12_in) ∈ wAll := tm_5 (List.mem_of_getElem? (i := 138) rfl) rfl
theorem tw_5_139 : (Jvm.Cond.static yX12_in) ∈ wAll := tm_5 (List.mem_of_getElem? (i := 139) rfl) rfl
theorem tw_5_140 : (Jvm.Cond.code yX12_in prog_14_method_3_code (3 : Nat) (Option.some Jvm.ClassFile.FieldType.boolean)) ∈ wAll := tm_5 (List.mem_of_getElem? (i := 140) rfl) rfl
theorem tw_5_141 : (Jvm.Cond.methodLink "LadderClubLaw" (27 : Nat) yX12_beats) ∈ wAll := tm_5 (List.mem_of_getElem? (i := 141) rfl) rfl
theorem tw_5_142 : (Jvm.Cond.instanceMethod yX12_beats) ∈ wAll := tm_5 (List.mem_of_getElem? (i := 142) rfl) rfl
theorem tw_5_143 : (Jvm.Cond.selects "LadderClubModel" yX12_beats yX12_beats) ∈ wAll := tm_5 (List.mem_of_getElem? (i := 143) rfl) rfl
theorem tw_5_144 : (Jvm.Cond.code yX12_beats prog_14_method_14_code (3 : Nat) (Option.some Jvm.ClassFile.FieldType.int)) ∈ wAll := tm_5 (List.mem_of_getElem? (i := 144) rfl) rfl
theorem tw_5_145 : (Jvm.Cond.methodLink "LadderClubLaw" (31 : Nat) yX12_board) ∈ wAll := tm_5 (List.mem_of_getElem? (i := 145) rfl) rfl
theorem tw_5_146 : (Jvm.Cond.instanceMethod yX12_board) ∈ wAll := tm_5 (List.mem_of_getElem? (i := 146) rfl) rfl
theorem tw_5_147 : (Jvm.Cond.selects "LadderClubModel" yX12_board yX12_board) ∈ wAll := tm_5 (List.mem_of_getElem? (i := 147) rfl) rfl
theorem tw_5_148 : (Jvm.Cond.code yX12_board prog_14_method_15_code (3 : Nat) (Option.some Jvm.ClassFile.FieldType.int)) ∈ wAll := tm_5 (List.mem_of_getElem? (i := 148) rfl) rfl
theorem tw_5_149 : (Jvm.Cond.methodLink "LadderClubModel" (64 : Nat) yX12_trueBoard) ∈ wAll := tm_5 (List.mem_of_getElem? (i := 149) rfl) rfl
theorem tw_5_151 : (Jvm.Cond.instanceMethod yX12_trueBoard) ∈ wAll := tm_5 (List.mem_of_getElem? (i := 151) rfl) rfl
theorem tw_5_152 : (Jvm.Cond.code yX12_trueBoard prog_14_method_11_code (7 : Nat) (Option.some Jvm.ClassFile.FieldType.int)) ∈ wAll := tm_5 (List.mem_of_getElem? (i := 152) rfl) rfl
theorem tw_5_153 : (Jvm.Cond.methodLink "LadderClubModel" (56 : Nat) yX12_isStronger) ∈ wAll := tm_5 (List.mem_of_getElem? (i := 153) rfl) rfl
theorem tw_5_155 : (Jvm.Cond.instanceMethod yX12_isStronger) ∈ wAll := tm_5 (List.mem_of_getElem? (i := 155) rfl) rfl
theorem tw_5_156 : (Jvm.Cond.code yX12_isStronger prog_14_method_10_code (3 : Nat) (Option.some Jvm.ClassFile.FieldType.boolean)) ∈ wAll := tm_5 (List.mem_of_getElem? (i := 156) rfl) rfl
theorem tw_5_157 : (Jvm.Cond.methodLink "LadderClubModel" (52 : Nat) yX12_nameOn) ∈ wAll := tm_5 (List.mem_of_getElem? (i := 157) rfl) rfl
theorem tw_5_158 : (Jvm.Cond.static yX12_nameOn) ∈ wAll := tm_5 (List.mem_of_getElem? (i := 158) rfl) rfl
theorem tw_5_159 : (Jvm.Cond.code yX12_nameOn prog_14_method_7_code (2 : Nat) (Option.some Jvm.ClassFile.FieldType.int)) ∈ wAll := tm_5 (List.mem_of_getElem? (i := 159) rfl) rfl
theorem tw_5_160 : (Jvm.Cond.methodLink "LadderClubLaw" (35 : Nat) yX12_hang) ∈ wAll := tm_5 (List.mem_of_getElem? (i := 160) rfl) rfl
theorem tw_5_161 : (Jvm.Cond.instanceMethod yX12_hang) ∈ wAll := tm_5 (List.mem_of_getElem? (i := 161) rfl) rfl
theorem tw_5_162 : (Jvm.Cond.selects "LadderClubModel" yX12_hang yX12_hang) ∈ wAll := tm_5 (List.mem_of_getElem? (i := 162) rfl) rfl
theorem tw_5_163 : (Jvm.Cond.code yX12_hang prog_14_method_16_code (4 : Nat) (Option.some Jvm.ClassFile.FieldType.int)) ∈ wAll := tm_5 (List.mem_of_getElem? (i := 163) rfl) rfl
theorem tw_5_164 : (Jvm.Cond.methodLink "LadderClubModel" (68 : Nat) yX12_rungOf) ∈ wAll := tm_5 (List.mem_of_getElem? (i := 164) rfl) rfl
theorem tw_5_166 : (Jvm.Cond.instanceMethod yX12_rungOf) ∈ wAll := tm_5 (List.mem_of_getElem? (i := 166) rfl) rfl
theorem tw_5_167 : (Jvm.Cond.code yX12_rungOf prog_14_method_8_code (4 : Nat) (Option.some Jvm.ClassFile.FieldType.int)) ∈ wAll := tm_5 (List.mem_of_getElem? (i := 167) rfl) rfl
theorem tw_5_168 : (Jvm.Cond.methodLink "LadderClubModel" (71 : Nat) yX12_moved) ∈ wAll := tm_5 (List.mem_of_getElem? (i := 168) rfl) rfl
theorem tw_5_170 : (Jvm.Cond.instanceMethod yX12_moved) ∈ wAll := tm_5 (List.mem_of_getElem? (i := 170) rfl) rfl
theorem tw_5_171 : (Jvm.Cond.code yX12_moved prog_14_method_9_code (8 : Nat) (Option.some Jvm.ClassFile.FieldType.int)) ∈ wAll := tm_5 (List.mem_of_getElem? (i := 171) rfl) rfl
theorem tw_5_172 : (Jvm.Cond.methodLink "LadderClubLaw" (39 : Nat) yX12_far) ∈ wAll := tm_5 (List.mem_of_getElem? (i := 172) rfl) rfl
theorem tw_5_173 : (Jvm.Cond.instanceMethod yX12_far) ∈ wAll := tm_5 (List.mem_of_getElem? (i := 173) rfl) rfl
theorem tw_5_174 : (Jvm.Cond.selects "LadderClubModel" yX12_far yX12_far) ∈ wAll := tm_5 (List.mem_of_getElem? (i := 174) rfl) rfl
theorem tw_5_175 : (Jvm.Cond.code yX12_far prog_14_method_17_code (5 : Nat) (Option.some Jvm.ClassFile.FieldType.int)) ∈ wAll := tm_5 (List.mem_of_getElem? (i := 175) rfl) rfl
theorem tw_5_176 : (Jvm.Cond.methodLink "LadderClubLaw" (46 : Nat) yX12_feed) ∈ wAll := tm_5 (List.mem_of_getElem? (i := 176) rfl) rfl
theorem tw_5_177 : (Jvm.Cond.instanceMethod yX12_feed) ∈ wAll := tm_5 (List.mem_of_getElem? (i := 177) rfl) rfl
theorem tw_5_178 : (Jvm.Cond.selects "LadderClubModel" yX12_feed yX12_feed) ∈ wAll := tm_5 (List.mem_of_getElem? (i := 178) rfl) rfl
theorem tw_5_179 : (Jvm.Cond.code yX12_feed prog_14_method_18_code (5 : Nat) (Option.some Jvm.ClassFile.FieldType.int)) ∈ wAll := tm_5 (List.mem_of_getElem? (i := 179) rfl) rfl
theorem tw_5_180 : (Jvm.Cond.constantLong "LadderClubModel" (75 : Nat) (255 : Int64)) ∈ wAll := tm_5 (List.mem_of_getElem? (i := 180) rfl) rfl
theorem tw_5_181 : (Jvm.Cond.methodLink "LadderClubLaw" (50 : Nat) yX12_club) ∈ wAll := tm_5 (List.mem_of_getElem? (i := 181) rfl) rfl
theorem tw_5_182 : (Jvm.Cond.instanceMethod yX12_club) ∈ wAll := tm_5 (List.mem_of_getElem? (i := 182) rfl) rfl
theorem tw_5_183 : (Jvm.Cond.selects "LadderClubModel" yX12_club yX12_club) ∈ wAll := tm_5 (List.mem_of_getElem? (i := 183) rfl) rfl
theorem tw_5_184 : (Jvm.Cond.code yX12_club prog_14_method_29_code (2 : Nat) (Option.some Jvm.ClassFile.FieldType.int)) ∈ wAll := tm_5 (List.mem_of_getElem? (i := 184) rfl) rfl
theorem tw_5_185 : (Jvm.Cond.methodLink "LadderClubModel" (146 : Nat) yX12_clauseHere) ∈ wAll := tm_5 (List.mem_of_getElem? (i := 185) rfl) rfl
theorem tw_5_187 : (Jvm.Cond.instanceMethod yX12_clauseHere) ∈ wAll := tm_5 (List.mem_of_getElem? (i := 187) rfl) rfl
theorem tw_5_188 : (Jvm.Cond.code yX12_clauseHere prog_14_method_28_code (2 : Nat) (Option.none : Option Jvm.ClassFile.FieldType)) ∈ wAll := tm_5 (List.mem_of_getElem? (i := 188) rfl) rfl
theorem tw_5_189 : (Jvm.Cond.methodLink "LadderClubModel" (87 : Nat) yX12_here) ∈ wAll := tm_5 (List.mem_of_getElem? (i := 189) rfl) rfl
theorem tw_5_191 : (Jvm.Cond.instanceMethod yX12_here) ∈ wAll := tm_5 (List.mem_of_getElem? (i := 191) rfl) rfl
theorem tw_5_192 : (Jvm.Cond.code yX12_here prog_14_method_19_code (1 : Nat) (Option.some Jvm.ClassFile.FieldType.int)) ∈ wAll := tm_5 (List.mem_of_getElem? (i := 192) rfl) rfl
theorem tw_5_194 : (Jvm.Cond.methodLink "LadderClubModel" (134 : Nat) yX12_spells) ∈ wAll := tm_5 (List.mem_of_getElem? (i := 194) rfl) rfl
theorem tw_5_196 : (Jvm.Cond.instanceMethod yX12_spells) ∈ wAll := tm_5 (List.mem_of_getElem? (i := 196) rfl) rfl
theorem tw_5_197 : (Jvm.Cond.code yX12_spells prog_14_method_21_code (3 : Nat) (Option.none : Option Jvm.ClassFile.FieldType)) ∈ wAll := tm_5 (List.mem_of_getElem? (i := 197) rfl) rfl
theorem tw_5_198 : (Jvm.Cond.methodLink "LadderClubModel" (90 : Nat) yJ0_length_8abf5) ∈ wAll := tm_5 (List.mem_of_getElem? (i := 198) rfl) rfl
theorem tw_5_199 : (Jvm.Cond.methodLink "LadderClubModel" (95 : Nat) yJ0_charAt_5068e) ∈ wAll := tm_5 (List.mem_of_getElem? (i := 199) rfl) rfl
theorem tw_5_200 : (Jvm.Cond.methodLink "LadderClubModel" (99 : Nat) yX12_must) ∈ wAll := tm_5 (List.mem_of_getElem? (i := 200) rfl) rfl
theorem tw_5_202 : (Jvm.Cond.instanceMethod yX12_must) ∈ wAll := tm_5 (List.mem_of_getElem? (i := 202) rfl) rfl
theorem tw_5_203 : (Jvm.Cond.code yX12_must prog_14_method_20_code (2 : Nat) (Option.none : Option Jvm.ClassFile.FieldType)) ∈ wAll := tm_5 (List.mem_of_getElem? (i := 203) rfl) rfl
theorem tw_5_204 : (Jvm.Cond.methodLink "LadderClubModel" (126 : Nat) yX12_figures) ∈ wAll := tm_5 (List.mem_of_getElem? (i := 204) rfl) rfl
theorem tw_5_206 : (Jvm.Cond.instanceMethod yX12_figures) ∈ wAll := tm_5 (List.mem_of_getElem? (i := 206) rfl) rfl
theorem tw_5_207 : (Jvm.Cond.code yX12_figures prog_14_method_22_code (3 : Nat) (Option.some Jvm.ClassFile.FieldType.int)) ∈ wAll := tm_5 (List.mem_of_getElem? (i := 207) rfl) rfl
theorem tw_5_210 : (Jvm.Cond.methodLink "LadderClubModel" (120 : Nat) yX12_among) ∈ wAll := tm_5 (List.mem_of_getElem? (i := 210) rfl) rfl
theorem tw_5_212 : (Jvm.Cond.instanceMethod yX12_among) ∈ wAll := tm_5 (List.mem_of_getElem? (i := 212) rfl) rfl
theorem tw_5_213 : (Jvm.Cond.code yX12_among prog_14_method_23_code (3 : Nat) (Option.some Jvm.ClassFile.FieldType.int)) ∈ wAll := tm_5 (List.mem_of_getElem? (i := 213) rfl) rfl
theorem tw_5_215 : (Jvm.Cond.methodLink "LadderClubModel" (115 : Nat) yX12_some) ∈ wAll := tm_5 (List.mem_of_getElem? (i := 215) rfl) rfl
theorem tw_5_217 : (Jvm.Cond.instanceMethod yX12_some) ∈ wAll := tm_5 (List.mem_of_getElem? (i := 217) rfl) rfl
theorem tw_5_218 : (Jvm.Cond.code yX12_some prog_14_method_27_code (1 : Nat) (Option.none : Option Jvm.ClassFile.FieldType)) ∈ wAll := tm_5 (List.mem_of_getElem? (i := 218) rfl) rfl
theorem tw_5_219 : (Jvm.Cond.methodLink "LadderClubModel" (129 : Nat) yX12_every) ∈ wAll := tm_5 (List.mem_of_getElem? (i := 219) rfl) rfl
theorem tw_5_221 : (Jvm.Cond.instanceMethod yX12_every) ∈ wAll := tm_5 (List.mem_of_getElem? (i := 221) rfl) rfl
theorem tw_5_222 : (Jvm.Cond.code yX12_every prog_14_method_26_code (1 : Nat) (Option.none : Option Jvm.ClassFile.FieldType)) ∈ wAll := tm_5 (List.mem_of_getElem? (i := 222) rfl) rfl
theorem tw_5_223 : (Jvm.Cond.methodLink "LadderClubModel" (109 : Nat) yX12_factor) ∈ wAll := tm_5 (List.mem_of_getElem? (i := 223) rfl) rfl
theorem tw_5_225 : (Jvm.Cond.instanceMethod yX12_factor) ∈ wAll := tm_5 (List.mem_of_getElem? (i := 225) rfl) rfl
theorem tw_5_226 : (Jvm.Cond.code yX12_factor prog_14_method_25_code (5 : Nat) (Option.none : Option Jvm.ClassFile.FieldType)) ∈ wAll := tm_5 (List.mem_of_getElem? (i := 226) rfl) rfl
theorem tw_5_227 : (Jvm.Cond.methodLink "LadderClubModel" (112 : Nat) yX12_emits) ∈ wAll := tm_5 (List.mem_of_getElem? (i := 227) rfl) rfl
theorem tw_5_229 : (Jvm.Cond.instanceMethod yX12_emits) ∈ wAll := tm_5 (List.mem_of_getElem? (i := 229) rfl) rfl
theorem tw_5_230 : (Jvm.Cond.code yX12_emits prog_14_method_24_code (2 : Nat) (Option.none : Option Jvm.ClassFile.FieldType)) ∈ wAll := tm_5 (List.mem_of_getElem? (i := 230) rfl) rfl
theorem tw_5_234 : (Jvm.Cond.methodLink "LadderClubLaw" (54 : Nat) yX12_may) ∈ wAll := tm_5 (List.mem_of_getElem? (i := 234) rfl) rfl
theorem tw_5_235 : (Jvm.Cond.instanceMethod yX12_may) ∈ wAll := tm_5 (List.mem_of_getElem? (i := 235) rfl) rfl
theorem tw_5_236 : (Jvm.Cond.selects "LadderClubModel" yX12_may yX12_may) ∈ wAll := tm_5 (List.mem_of_getElem? (i := 236) rfl) rfl
theorem tw_5_237 : (Jvm.Cond.code yX12_may prog_14_method_33_code (4 : Nat) (Option.some Jvm.ClassFile.FieldType.int)) ∈ wAll := tm_5 (List.mem_of_getElem? (i := 237) rfl) rfl
theorem tw_5_238 : (Jvm.Cond.methodLink "LadderClubModel" (156 : Nat) yX12_isClub) ∈ wAll := tm_5 (List.mem_of_getElem? (i := 238) rfl) rfl
theorem tw_6_0 : (Jvm.Cond.instanceMethod yX12_isClub) ∈ wAll := tm_6 (List.mem_of_getElem? (i := 0) rfl) rfl
theorem tw_6_1 : (Jvm.Cond.code yX12_isClub prog_14_method_5_code (2 : Nat) (Option.some Jvm.ClassFile.FieldType.boolean)) ∈ wAll := tm_6 (List.mem_of_getElem? (i := 1) rfl) rfl
theorem tw_6_2 : (Jvm.Cond.methodLink "LadderClubModel" (159 : Nat) yX12_isDay) ∈ wAll := tm_6 (List.mem_of_getElem? (i := 2) rfl) rfl
theorem tw_6_3 : (Jvm.Cond.static yX12_isDay) ∈ wAll := tm_6 (List.mem_of_getElem? (i := 3) rfl) rfl
theorem tw_6_4 : (Jvm.Cond.code yX12_isDay prog_14_method_6_code (1 : Nat) (Option.some Jvm.ClassFile.FieldType.boolean)) ∈ wAll := tm_6 (List.mem_of_getElem? (i := 4) rfl) rfl
theorem tw_6_5 : (Jvm.Cond.methodLink "LadderClubModel" (162 : Nat) yX12_mayAll) ∈ wAll := tm_6 (List.mem_of_getElem? (i := 5) rfl) rfl
theorem tw_6_7 : (Jvm.Cond.instanceMethod yX12_mayAll) ∈ wAll := tm_6 (List.mem_of_getElem? (i := 7) rfl) rfl
theorem tw_6_8 : (Jvm.Cond.code yX12_mayAll prog_14_method_32_code (8 : Nat) (Option.some Jvm.ClassFile.FieldType.int)) ∈ wAll := tm_6 (List.mem_of_getElem? (i := 8) rfl) rfl
theorem tw_6_9 : (Jvm.Cond.methodLink "LadderClubModel" (152 : Nat) yX12_mayAsk) ∈ wAll := tm_6 (List.mem_of_getElem? (i := 9) rfl) rfl
theorem tw_6_11 : (Jvm.Cond.instanceMethod yX12_mayAsk) ∈ wAll := tm_6 (List.mem_of_getElem? (i := 11) rfl) rfl
theorem tw_6_12 : (Jvm.Cond.code yX12_mayAsk prog_14_method_31_code (8 : Nat) (Option.some Jvm.ClassFile.FieldType.boolean)) ∈ wAll := tm_6 (List.mem_of_getElem? (i := 12) rfl) rfl
theorem tw_6_13 : (Jvm.Cond.methodLink "LadderClubModel" (149 : Nat) yX12_isLet) ∈ wAll := tm_6 (List.mem_of_getElem? (i := 13) rfl) rfl
theorem tw_6_15 : (Jvm.Cond.instanceMethod yX12_isLet) ∈ wAll := tm_6 (List.mem_of_getElem? (i := 15) rfl) rfl
theorem tw_6_16 : (Jvm.Cond.code yX12_isLet prog_14_method_30_code (10 : Nat) (Option.some Jvm.ClassFile.FieldType.boolean)) ∈ wAll := tm_6 (List.mem_of_getElem? (i := 16) rfl) rfl
theorem tw_6_17 : (Jvm.Cond.methodLink "LadderClubLaw" (58 : Nat) yX12_asker) ∈ wAll := tm_6 (List.mem_of_getElem? (i := 17) rfl) rfl
theorem tw_6_18 : (Jvm.Cond.instanceMethod yX12_asker) ∈ wAll := tm_6 (List.mem_of_getElem? (i := 18) rfl) rfl
theorem tw_6_19 : (Jvm.Cond.selects "LadderClubModel" yX12_asker yX12_asker) ∈ wAll := tm_6 (List.mem_of_getElem? (i := 19) rfl) rfl
theorem tw_6_20 : (Jvm.Cond.code yX12_asker prog_14_method_34_code (5 : Nat) (Option.some Jvm.ClassFile.FieldType.int)) ∈ wAll := tm_6 (List.mem_of_getElem? (i := 20) rfl) rfl
theorem tw_6_21 : (Jvm.Cond.methodLink "LadderClubLaw" (62 : Nat) yX12_asks) ∈ wAll := tm_6 (List.mem_of_getElem? (i := 21) rfl) rfl
theorem tw_6_22 : (Jvm.Cond.instanceMethod yX12_asks) ∈ wAll := tm_6 (List.mem_of_getElem? (i := 22) rfl) rfl
theorem tw_6_23 : (Jvm.Cond.selects "LadderClubModel" yX12_asks yX12_asks) ∈ wAll := tm_6 (List.mem_of_getElem? (i := 23) rfl) rfl
theorem tw_6_24 : (Jvm.Cond.code yX12_asks prog_14_method_37_code (4 : Nat) (Option.some Jvm.ClassFile.FieldType.int)) ∈ wAll := tm_6 (List.mem_of_getElem? (i := 24) rfl) rfl
theorem tw_6_25 : (Jvm.Cond.methodLink "LadderClubModel" (169 : Nat) yX12_asked) ∈ wAll := tm_6 (List.mem_of_getElem? (i := 25) rfl) rfl
theorem tw_6_27 : (Jvm.Cond.instanceMethod yX12_asked) ∈ wAll := tm_6 (List.mem_of_getElem? (i := 27) rfl) rfl
theorem tw_6_28 : (Jvm.Cond.code yX12_asked prog_14_method_36_code (12 : Nat) (Option.some Jvm.ClassFile.FieldType.int)) ∈ wAll := tm_6 (List.mem_of_getElem? (i := 28) rfl) rfl
theorem tw_6_29 : (Jvm.Cond.methodLink "LadderClubModel" (166 : Nat) yX12_worth) ∈ wAll := tm_6 (List.mem_of_getElem? (i := 29) rfl) rfl
theorem tw_6_31 : (Jvm.Cond.instanceMethod yX12_worth) ∈ wAll := tm_6 (List.mem_of_getElem? (i := 31) rfl) rfl
theorem tw_6_32 : (Jvm.Cond.code yX12_worth prog_14_method_35_code (6 : Nat) (Option.some Jvm.ClassFile.FieldType.int)) ∈ wAll := tm_6 (List.mem_of_getElem? (i := 32) rfl) rfl
theorem tw_6_33 : (Jvm.Cond.methodLink "LadderClubLaw" (67 : Nat) yX12_match) ∈ wAll := tm_6 (List.mem_of_getElem? (i := 33) rfl) rfl
theorem tw_6_34 : (Jvm.Cond.instanceMethod yX12_match) ∈ wAll := tm_6 (List.mem_of_getElem? (i := 34) rfl) rfl
theorem tw_6_35 : (Jvm.Cond.selects "LadderClubModel" yX12_match yX12_match) ∈ wAll := tm_6 (List.mem_of_getElem? (i := 35) rfl) rfl
theorem tw_6_36 : (Jvm.Cond.code yX12_match prog_14_method_39_code (5 : Nat) (Option.some Jvm.ClassFile.FieldType.int)) ∈ wAll := tm_6 (List.mem_of_getElem? (i := 36) rfl) rfl
theorem tw_6_37 : (Jvm.Cond.methodLink "LadderClubModel" (172 : Nat) yX12_won) ∈ wAll := tm_6 (List.mem_of_getElem? (i := 37) rfl) rfl
theorem tw_6_39 : (Jvm.Cond.instanceMethod yX12_won) ∈ wAll := tm_6 (List.mem_of_getElem? (i := 39) rfl) rfl
theorem tw_6_40 : (Jvm.Cond.code yX12_won prog_14_method_38_code (7 : Nat) (Option.some Jvm.ClassFile.FieldType.int)) ∈ wAll := tm_6 (List.mem_of_getElem? (i := 40) rfl) rfl
theorem tw_6_41 : (Jvm.Cond.methodLink "LadderClubLaw" (72 : Nat) yX12_pass) ∈ wAll := tm_6 (List.mem_of_getElem? (i := 41) rfl) rfl
theorem tw_6_42 : (Jvm.Cond.instanceMethod yX12_pass) ∈ wAll := tm_6 (List.mem_of_getElem? (i := 42) rfl) rfl
theorem tw_6_43 : (Jvm.Cond.selects "LadderClubModel" yX12_pass yX12_pass) ∈ wAll := tm_6 (List.mem_of_getElem? (i := 43) rfl) rfl
theorem tw_6_44 : (Jvm.Cond.code yX12_pass prog_14_method_40_code (2 : Nat) (Option.some Jvm.ClassFile.FieldType.int)) ∈ wAll := tm_6 (List.mem_of_getElem? (i := 44) rfl) rfl
theorem tw_6_45 : (Jvm.Cond.methodLink "LadderClubLaw" (77 : Nat) yX12_share) ∈ wAll := tm_6 (List.mem_of_getElem? (i := 45) rfl) rfl
theorem tw_6_46 : (Jvm.Cond.instanceMethod yX12_share) ∈ wAll := tm_6 (List.mem_of_getElem? (i := 46) rfl) rfl
theorem tw_6_47 : (Jvm.Cond.selects "LadderClubModel" yX12_share yX12_share) ∈ wAll := tm_6 (List.mem_of_getElem? (i := 47) rfl) rfl
theorem tw_6_48 : (Jvm.Cond.code yX12_share prog_14_method_46_code (9 : Nat) (Option.some Jvm.ClassFile.FieldType.long)) ∈ wAll := tm_6 (List.mem_of_getElem? (i := 48) rfl) rfl
theorem tw_6_49 : (Jvm.Cond.constantLong "LadderClubModel" (199 : Nat) (-9223372036854775808 : Int64)) ∈ wAll := tm_6 (List.mem_of_getElem? (i := 49) rfl) rfl
theorem tw_6_50 : (Jvm.Cond.methodLink "LadderClubModel" (201 : Nat) yX12_days) ∈ wAll := tm_6 (List.mem_of_getElem? (i := 50) rfl) rfl
theorem tw_6_52 : (Jvm.Cond.instanceMethod yX12_days) ∈ wAll := tm_6 (List.mem_of_getElem? (i := 52) rfl) rfl
theorem tw_6_53 : (Jvm.Cond.code yX12_days prog_14_method_43_code (6 : Nat) (Option.none : Option Jvm.ClassFile.FieldType)) ∈ wAll := tm_6 (List.mem_of_getElem? (i := 53) rfl) rfl
theorem tw_6_54 : (Jvm.Cond.methodLink "LadderClubModel" (191 : Nat) yX12_dayGoes) ∈ wAll := tm_6 (List.mem_of_getElem? (i := 54) rfl) rfl
theorem tw_6_56 : (Jvm.Cond.instanceMethod yX12_dayGoes) ∈ wAll := tm_6 (List.mem_of_getElem? (i := 56) rfl) rfl
theorem tw_6_57 : (Jvm.Cond.code yX12_dayGoes prog_14_method_42_code (8 : Nat) (Option.none : Option Jvm.ClassFile.FieldType)) ∈ wAll := tm_6 (List.mem_of_getElem? (i := 57) rfl) rfl
theorem tw_6_58 : (Jvm.Cond.methodLink "LadderClubModel" (181 : Nat) yX12_gathers) ∈ wAll := tm_6 (List.mem_of_getElem? (i := 58) rfl) rfl
theorem tw_6_60 : (Jvm.Cond.instanceMethod yX12_gathers) ∈ wAll := tm_6 (List.mem_of_getElem? (i := 60) rfl) rfl
theorem tw_6_61 : (Jvm.Cond.code yX12_gathers prog_14_method_41_code (5 : Nat) (Option.none : Option Jvm.ClassFile.FieldType)) ∈ wAll := tm_6 (List.mem_of_getElem? (i := 61) rfl) rfl
theorem tw_6_62 : (Jvm.Cond.constantLong "LadderClubModel" (189 : Nat) (100 : Int64)) ∈ wAll := tm_6 (List.mem_of_getElem? (i := 62) rfl) rfl
theorem tw_6_63 : (Jvm.Cond.methodLink "LadderClubModel" (205 : Nat) yX12_lowest) ∈ wAll := tm_6 (List.mem_of_getElem? (i := 63) rfl) rfl
theorem tw_6_64 : (Jvm.Cond.static yX12_lowest) ∈ wAll := tm_6 (List.mem_of_getElem? (i := 64) rfl) rfl
theorem tw_6_65 : (Jvm.Cond.code yX12_lowest prog_14_method_45_code (5 : Nat) (Option.some Jvm.ClassFile.FieldType.long)) ∈ wAll := tm_6 (List.mem_of_getElem? (i := 65) rfl) rfl
theorem tw_6_66 : (Jvm.Cond.methodLink "LadderClubModel" (195 : Nat) yX12_divisor) ∈ wAll := tm_6 (List.mem_of_getElem? (i := 66) rfl) rfl
theorem tw_6_67 : (Jvm.Cond.static yX12_divisor) ∈ wAll := tm_6 (List.mem_of_getElem? (i := 67) rfl) rfl
theorem tw_6_68 : (Jvm.Cond.code yX12_divisor prog_14_method_44_code (10 : Nat) (Option.some Jvm.ClassFile.FieldType.long)) ∈ wAll := tm_6 (List.mem_of_getElem? (i := 68) rfl) rfl
theorem tw_6_69 : (Jvm.Cond.methodLink "LadderClubLaw" (82 : Nat) yX12_truly) ∈ wAll := tm_6 (List.mem_of_getElem? (i := 69) rfl) rfl
theorem tw_6_70 : (Jvm.Cond.instanceMethod yX12_truly) ∈ wAll := tm_6 (List.mem_of_getElem? (i := 70) rfl) rfl
theorem tw_6_71 : (Jvm.Cond.selects "LadderClubModel" yX12_truly yX12_truly) ∈ wAll := tm_6 (List.mem_of_getElem? (i := 71) rfl) rfl
theorem tw_6_72 : (Jvm.Cond.code yX12_truly prog_14_method_48_code (4 : Nat) (Option.some Jvm.ClassFile.FieldType.long)) ∈ wAll := tm_6 (List.mem_of_getElem? (i := 72) rfl) rfl
theorem tw_6_73 : (Jvm.Cond.methodLink "LadderClubModel" (209 : Nat) yX12_trulyNow) ∈ wAll := tm_6 (List.mem_of_getElem? (i := 73) rfl) rfl
theorem tw_6_75 : (Jvm.Cond.instanceMethod yX12_trulyNow) ∈ wAll := tm_6 (List.mem_of_getElem? (i := 75) rfl) rfl
theorem tw_6_76 : (Jvm.Cond.code yX12_trulyNow prog_14_method_47_code (5 : Nat) (Option.some Jvm.ClassFile.FieldType.long)) ∈ wAll := tm_6 (List.mem_of_getElem? (i := 76) rfl) rfl
theorem tw_6_77 : (Jvm.Cond.methodLink "LadderClubLaw" (86 : Nat) yX12_likely) ∈ wAll := tm_6 (List.mem_of_getElem? (i := 77) rfl) rfl
theorem tw_6_78 : (Jvm.Cond.instanceMethod yX12_likely) ∈ wAll := tm_6 (List.mem_of_getElem? (i := 78) rfl) rfl
theorem tw_6_79 : (Jvm.Cond.selects "LadderClubModel" yX12_likely yX12_likely) ∈ wAll := tm_6 (List.mem_of_getElem? (i := 79) rfl) rfl
theorem tw_6_80 : (Jvm.Cond.code yX12_likely prog_14_method_50_code (6 : Nat) (Option.some Jvm.ClassFile.FieldType.int)) ∈ wAll := tm_6 (List.mem_of_getElem? (i := 80) rfl) rfl
theorem tw_6_81 : (Jvm.Cond.methodLink "LadderClubModel" (213 : Nat) yX12_isAhead) ∈ wAll := tm_6 (List.mem_of_getElem? (i := 81) rfl) rfl
theorem tw_6_83 : (Jvm.Cond.instanceMethod yX12_isAhead) ∈ wAll := tm_6 (List.mem_of_getElem? (i := 83) rfl) rfl
theorem tw_6_84 : (Jvm.Cond.code yX12_isAhead prog_14_method_49_code (4 : Nat) (Option.some Jvm.ClassFile.FieldType.boolean)) ∈ wAll := tm_6 (List.mem_of_getElem? (i := 84) rfl) rfl
theorem tw_6_85 : (Jvm.Cond.methodLink "LadderClubLaw" (91 : Nat) yX12_mean) ∈ wAll := tm_6 (List.mem_of_getElem? (i := 85) rfl) rfl
theorem tw_6_86 : (Jvm.Cond.instanceMethod yX12_mean) ∈ wAll := tm_6 (List.mem_of_getElem? (i := 86) rfl) rfl
theorem tw_6_87 : (Jvm.Cond.selects "LadderClubModel" yX12_mean yX12_mean) ∈ wAll := tm_6 (List.mem_of_getElem? (i := 87) rfl) rfl
theorem tw_6_88 : (Jvm.Cond.code yX12_mean prog_14_method_52_code (5 : Nat) (Option.some Jvm.ClassFile.FieldType.long)) ∈ wAll := tm_6 (List.mem_of_getElem? (i := 88) rfl) rfl
theorem tw_6_89 : (Jvm.Cond.methodLink "LadderClubModel" (216 : Nat) yX12_rungs) ∈ wAll := tm_6 (List.mem_of_getElem? (i := 89) rfl) rfl
theorem tw_6_91 : (Jvm.Cond.instanceMethod yX12_rungs) ∈ wAll := tm_6 (List.mem_of_getElem? (i := 91) rfl) rfl
theorem tw_6_92 : (Jvm.Cond.code yX12_rungs prog_14_method_51_code (5 : Nat) (Option.some Jvm.ClassFile.FieldType.long)) ∈ wAll := tm_6 (List.mem_of_getElem? (i := 92) rfl) rfl
theorem tw_6_93 : (Jvm.Cond.methodLink "LadderClubLaw" (95 : Nat) yX12_stuck) ∈ wAll := tm_6 (List.mem_of_getElem? (i := 93) rfl) rfl
theorem tw_6_94 : (Jvm.Cond.instanceMethod yX12_stuck) ∈ wAll := tm_6 (List.mem_of_getElem? (i := 94) rfl) rfl
theorem tw_6_95 : (Jvm.Cond.selects "LadderClubModel" yX12_stuck yX12_stuck) ∈ wAll := tm_6 (List.mem_of_getElem? (i := 95) rfl) rfl
theorem tw_6_96 : (Jvm.Cond.code yX12_stuck prog_14_method_54_code (10 : Nat) (Option.some Jvm.ClassFile.FieldType.int)) ∈ wAll := tm_6 (List.mem_of_getElem? (i := 96) rfl) rfl
theorem tw_6_97 : (Jvm.Cond.methodLink "LadderClubModel" (220 : Nat) yX12_askedAny) ∈ wAll := tm_6 (List.mem_of_getElem? (i := 97) rfl) rfl
theorem tw_6_99 : (Jvm.Cond.instanceMethod yX12_askedAny) ∈ wAll := tm_6 (List.mem_of_getElem? (i := 99) rfl) rfl
theorem tw_6_100 : (Jvm.Cond.code yX12_askedAny prog_14_method_53_code (6 : Nat) (Option.some Jvm.ClassFile.FieldType.int)) ∈ wAll := tm_6 (List.mem_of_getElem? (i := 100) rfl) rfl
theorem tw_6_101 : (Jvm.Cond.methodLink "LadderClubLaw" (99 : Nat) yX12_ought) ∈ wAll := tm_6 (List.mem_of_getElem? (i := 101) rfl) rfl
theorem tw_6_102 : (Jvm.Cond.instanceMethod yX12_ought) ∈ wAll := tm_6 (List.mem_of_getElem? (i := 102) rfl) rfl
theorem tw_6_103 : (Jvm.Cond.selects "LadderClubModel" yX12_ought yX12_ought) ∈ wAll := tm_6 (List.mem_of_getElem? (i := 103) rfl) rfl
theorem tw_6_104 : (Jvm.Cond.code yX12_ought prog_14_method_55_code (11 : Nat) (Option.some Jvm.ClassFile.FieldType.int)) ∈ wAll := tm_6 (List.mem_of_getElem? (i := 104) rfl) rfl
theorem tw_6_105 : (Jvm.Cond.methodLink "LadderClubLaw" (103 : Nat) yX12_row) ∈ wAll := tm_6 (List.mem_of_getElem? (i := 105) rfl) rfl
theorem tw_6_106 : (Jvm.Cond.instanceMethod yX12_row) ∈ wAll := tm_6 (List.mem_of_getElem? (i := 106) rfl) rfl
theorem tw_6_107 : (Jvm.Cond.selects "LadderClubModel" yX12_row yX12_row) ∈ wAll := tm_6 (List.mem_of_getElem? (i := 107) rfl) rfl
theorem tw_6_108 : (Jvm.Cond.code yX12_row prog_14_method_56_code (2 : Nat) (Option.some Jvm.ClassFile.FieldType.int)) ∈ wAll := tm_6 (List.mem_of_getElem? (i := 108) rfl) rfl
theorem tw_6_109 : (Jvm.Cond.methodLink "LadderClubLaw" (107 : Nat) yX12_judged) ∈ wAll := tm_6 (List.mem_of_getElem? (i := 109) rfl) rfl
theorem tw_6_110 : (Jvm.Cond.instanceMethod yX12_judged) ∈ wAll := tm_6 (List.mem_of_getElem? (i := 110) rfl) rfl
theorem tw_6_111 : (Jvm.Cond.selects "LadderClubModel" yX12_judged yX12_judged) ∈ wAll := tm_6 (List.mem_of_getElem? (i := 111) rfl) rfl
theorem tw_6_112 : (Jvm.Cond.code yX12_judged prog_14_method_57_code (5 : Nat) (Option.some Jvm.ClassFile.FieldType.int)) ∈ wAll := tm_6 (List.mem_of_getElem? (i := 112) rfl) rfl
theorem tw_6_113 : (Jvm.Cond.methodLink "LadderClubLaw" (111 : Nat) yX12_refuse) ∈ wAll := tm_6 (List.mem_of_getElem? (i := 113) rfl) rfl
theorem tw_6_114 : (Jvm.Cond.instanceMethod yX12_refuse) ∈ wAll := tm_6 (List.mem_of_getElem? (i := 114) rfl) rfl
theorem tw_6_115 : (Jvm.Cond.selects "LadderClubModel" yX12_refuse yX12_refuse) ∈ wAll := tm_6 (List.mem_of_getElem? (i := 115) rfl) rfl
theorem tw_6_116 : (Jvm.Cond.code yX12_refuse prog_14_method_58_code (7 : Nat) (Option.some Jvm.ClassFile.FieldType.long)) ∈ wAll := tm_6 (List.mem_of_getElem? (i := 116) rfl) rfl
theorem tw_6_117 : (Jvm.Cond.methodLink "LadderClubLaw" (115 : Nat) yX12_begin) ∈ wAll := tm_6 (List.mem_of_getElem? (i := 117) rfl) rfl
theorem tw_6_118 : (Jvm.Cond.instanceMethod yX12_begin) ∈ wAll := tm_6 (List.mem_of_getElem? (i := 118) rfl) rfl
theorem tw_6_119 : (Jvm.Cond.selects "LadderClubModel" yX12_begin yX12_begin) ∈ wAll := tm_6 (List.mem_of_getElem? (i := 119) rfl) rfl
theorem tw_6_120 : (Jvm.Cond.code yX12_begin prog_14_method_59_code (10 : Nat) (Option.some Jvm.ClassFile.FieldType.int)) ∈ wAll := tm_6 (List.mem_of_getElem? (i := 120) rfl) rfl
theorem tw_6_121 : (Jvm.Cond.constantLong "LadderClubModel" (223 : Nat) (-1 : Int64)) ∈ wAll := tm_6 (List.mem_of_getElem? (i := 121) rfl) rfl
theorem tw_6_122 : (Jvm.Cond.methodLink "LadderClubLaw" (119 : Nat) yX12_best) ∈ wAll := tm_6 (List.mem_of_getElem? (i := 122) rfl) rfl
theorem tw_6_123 : (Jvm.Cond.instanceMethod yX12_best) ∈ wAll := tm_6 (List.mem_of_getElem? (i := 123) rfl) rfl
theorem tw_6_124 : (Jvm.Cond.selects "LadderClubModel" yX12_best yX12_best) ∈ wAll := tm_6 (List.mem_of_getElem? (i := 124) rfl) rfl
theorem tw_6_125 : (Jvm.Cond.code yX12_best prog_14_method_60_code (8 : Nat) (Option.some Jvm.ClassFile.FieldType.int)) ∈ wAll := tm_6 (List.mem_of_getElem? (i := 125) rfl) rfl
theorem tw_6_126 : (Jvm.Cond.methodLink "LadderClubLaw" (123 : Nat) yX12_round) ∈ wAll := tm_6 (List.mem_of_getElem? (i := 126) rfl) rfl
theorem tw_6_127 : (Jvm.Cond.instanceMethod yX12_round) ∈ wAll := tm_6 (List.mem_of_getElem? (i := 127) rfl) rfl
theorem tw_6_128 : (Jvm.Cond.selects "LadderClubModel" yX12_round yX12_round) ∈ wAll := tm_6 (List.mem_of_getElem? (i := 128) rfl) rfl
theorem tw_6_129 : (Jvm.Cond.code yX12_round prog_14_method_61_code (3 : Nat) (Option.some Jvm.ClassFile.FieldType.int)) ∈ wAll := tm_6 (List.mem_of_getElem? (i := 129) rfl) rfl
theorem tw_6_130 : (Jvm.Cond.methodLink "LadderClubLaw" (127 : Nat) yX12_sorts) ∈ wAll := tm_6 (List.mem_of_getElem? (i := 130) rfl) rfl
theorem tw_6_131 : (Jvm.Cond.instanceMethod yX12_sorts) ∈ wAll := tm_6 (List.mem_of_getElem? (i := 131) rfl) rfl
theorem tw_6_132 : (Jvm.Cond.selects "LadderClubModel" yX12_sorts yX12_sorts) ∈ wAll := tm_6 (List.mem_of_getElem? (i := 132) rfl) rfl
theorem tw_6_133 : (Jvm.Cond.code yX12_sorts prog_14_method_66_code (3 : Nat) (Option.some Jvm.ClassFile.FieldType.int)) ∈ wAll := tm_6 (List.mem_of_getElem? (i := 133) rfl) rfl
theorem tw_6_134 : (Jvm.Cond.methodLink "LadderClubModel" (247 : Nat) yX12_allOrders) ∈ wAll := tm_6 (List.mem_of_getElem? (i := 134) rfl) rfl
theorem tw_6_136 : (Jvm.Cond.instanceMethod yX12_allOrders) ∈ wAll := tm_6 (List.mem_of_getElem? (i := 136) rfl) rfl
theorem tw_6_137 : (Jvm.Cond.code yX12_allOrders prog_14_method_65_code (1 : Nat) (Option.none : Option Jvm.ClassFile.FieldType)) ∈ wAll := tm_6 (List.mem_of_getElem? (i := 137) rfl) rfl
theorem tw_6_138 : (Jvm.Cond.methodLink "LadderClubModel" (244 : Nat) yX12_goesThrough) ∈ wAll := tm_6 (List.mem_of_getElem? (i := 138) rfl) rfl
theorem tw_6_140 : (Jvm.Cond.instanceMethod yX12_goesThrough) ∈ wAll := tm_6 (List.mem_of_getElem? (i := 140) rfl) rfl
theorem tw_6_141 : (Jvm.Cond.code yX12_goesThrough prog_14_method_64_code (5 : Nat) (Option.none : Option Jvm.ClassFile.FieldType)) ∈ wAll := tm_6 (List.mem_of_getElem? (i := 141) rfl) rfl
theorem tw_6_142 : (Jvm.Cond.methodLink "LadderClubModel" (231 : Nat) yX12_sorted) ∈ wAll := tm_6 (List.mem_of_getElem? (i := 142) rfl) rfl
theorem tw_6_144 : (Jvm.Cond.instanceMethod yX12_sorted) ∈ wAll := tm_6 (List.mem_of_getElem? (i := 144) rfl) rfl
theorem tw_6_145 : (Jvm.Cond.code yX12_sorted prog_14_method_62_code (8 : Nat) (Option.some Jvm.ClassFile.FieldType.boolean)) ∈ wAll := tm_6 (List.mem_of_getElem? (i := 145) rfl) rfl
theorem tw_6_146 : (Jvm.Cond.methodLink "LadderClubModel" (234 : Nat) yX12_fromBelow) ∈ wAll := tm_6 (List.mem_of_getElem? (i := 146) rfl) rfl
theorem tw_6_148 : (Jvm.Cond.instanceMethod yX12_fromBelow) ∈ wAll := tm_6 (List.mem_of_getElem? (i := 148) rfl) rfl
theorem tw_6_149 : (Jvm.Cond.code yX12_fromBelow prog_14_method_63_code (5 : Nat) (Option.some Jvm.ClassFile.FieldType.int)) ∈ wAll := tm_6 (List.mem_of_getElem? (i := 149) rfl) rfl
theorem tw_6_150 : (Jvm.Cond.methodLink "LadderClubLaw" (131 : Nat) yX12_past) ∈ wAll := tm_6 (List.mem_of_getElem? (i := 150) rfl) rfl
theorem tw_6_151 : (Jvm.Cond.instanceMethod yX12_past) ∈ wAll := tm_6 (List.mem_of_getElem? (i := 151) rfl) rfl
theorem tw_6_152 : (Jvm.Cond.selects "LadderClubModel" yX12_past yX12_past) ∈ wAll := tm_6 (List.mem_of_getElem? (i := 152) rfl) rfl
theorem tw_6_153 : (Jvm.Cond.code yX12_past prog_14_method_67_code (5 : Nat) (Option.some Jvm.ClassFile.FieldType.int)) ∈ wAll := tm_6 (List.mem_of_getElem? (i := 153) rfl) rfl
theorem tw_6_154 : (Jvm.Cond.methodLink "LadderClubLaw" (135 : Nat) yX12_really) ∈ wAll := tm_6 (List.mem_of_getElem? (i := 154) rfl) rfl
theorem tw_6_155 : (Jvm.Cond.instanceMethod yX12_really) ∈ wAll := tm_6 (List.mem_of_getElem? (i := 155) rfl) rfl
theorem tw_6_156 : (Jvm.Cond.selects "LadderClubModel" yX12_really yX12_really) ∈ wAll := tm_6 (List.mem_of_getElem? (i := 156) rfl) rfl
theorem tw_6_157 : (Jvm.Cond.code yX12_really prog_14_method_69_code (7 : Nat) (Option.some Jvm.ClassFile.FieldType.int)) ∈ wAll := tm_6 (List.mem_of_getElem? (i := 157) rfl) rfl
theorem tw_6_158 : (Jvm.Cond.methodLink "LadderClubModel" (250 : Nat) yX12_beatMore) ∈ wAll := tm_6 (List.mem_of_getElem? (i := 158) rfl) rfl
theorem tw_6_160 : (Jvm.Cond.instanceMethod yX12_beatMore) ∈ wAll := tm_6 (List.mem_of_getElem? (i := 160) rfl) rfl
theorem tw_6_161 : (Jvm.Cond.code yX12_beatMore prog_14_method_68_code (3 : Nat) (Option.some Jvm.ClassFile.FieldType.boolean)) ∈ wAll := tm_6 (List.mem_of_getElem? (i := 161) rfl) rfl
theorem tw_6_162 : (Jvm.Cond.methodLink "LadderClubLaw" (139 : Nat) yX12_order) ∈ wAll := tm_6 (List.mem_of_getElem? (i := 162) rfl) rfl
theorem tw_6_163 : (Jvm.Cond.instanceMethod yX12_order) ∈ wAll := tm_6 (List.mem_of_getElem? (i := 163) rfl) rfl
theorem tw_6_164 : (Jvm.Cond.selects "LadderClubModel" yX12_order yX12_order) ∈ wAll := tm_6 (List.mem_of_getElem? (i := 164) rfl) rfl
theorem tw_6_165 : (Jvm.Cond.code yX12_order prog_14_method_70_code (2 : Nat) (Option.some Jvm.ClassFile.FieldType.int)) ∈ wAll := tm_6 (List.mem_of_getElem? (i := 165) rfl) rfl
theorem tw_6_166 : (Jvm.Cond.methodLink "LadderClubLaw" (143 : Nat) yX12_run) ∈ wAll := tm_6 (List.mem_of_getElem? (i := 166) rfl) rfl
theorem tw_6_167 : (Jvm.Cond.instanceMethod yX12_run) ∈ wAll := tm_6 (List.mem_of_getElem? (i := 167) rfl) rfl
theorem tw_6_168 : (Jvm.Cond.selects "LadderClubModel" yX12_run yX12_run) ∈ wAll := tm_6 (List.mem_of_getElem? (i := 168) rfl) rfl
theorem tw_6_169 : (Jvm.Cond.code yX12_run prog_14_method_71_code (9 : Nat) (Option.some Jvm.ClassFile.FieldType.int)) ∈ wAll := tm_6 (List.mem_of_getElem? (i := 169) rfl) rfl
theorem tw_6_170 : (Jvm.Cond.methodLink "LadderClubModel" (253 : Nat) yX12_far) ∈ wAll := tm_6 (List.mem_of_getElem? (i := 170) rfl) rfl
theorem tw_6_171 : (Jvm.Cond.methodLink "LadderClubLaw" (147 : Nat) yX12_act) ∈ wAll := tm_6 (List.mem_of_getElem? (i := 171) rfl) rfl
theorem tw_6_172 : (Jvm.Cond.instanceMethod yX12_act) ∈ wAll := tm_6 (List.mem_of_getElem? (i := 172) rfl) rfl
theorem tw_6_173 : (Jvm.Cond.selects "LadderClubModel" yX12_act yX12_act) ∈ wAll := tm_6 (List.mem_of_getElem? (i := 173) rfl) rfl
theorem tw_6_174 : (Jvm.Cond.code yX12_act prog_14_method_80_code (4 : Nat) (Option.some Jvm.ClassFile.FieldType.int)) ∈ wAll := tm_6 (List.mem_of_getElem? (i := 174) rfl) rfl
theorem tw_6_175 : (Jvm.Cond.methodLink "LadderClubModel" (271 : Nat) yX12_asksActs) ∈ wAll := tm_6 (List.mem_of_getElem? (i := 175) rfl) rfl
theorem tw_6_177 : (Jvm.Cond.instanceMethod yX12_asksActs) ∈ wAll := tm_6 (List.mem_of_getElem? (i := 177) rfl) rfl
theorem tw_6_178 : (Jvm.Cond.code yX12_asksActs prog_14_method_75_code (2 : Nat) (Option.some Jvm.ClassFile.FieldType.int)) ∈ wAll := tm_6 (List.mem_of_getElem? (i := 178) rfl) rfl
theorem tw_6_179 : (Jvm.Cond.methodLink "LadderClubModel" (259 : Nat) yX12_runs) ∈ wAll := tm_6 (List.mem_of_getElem? (i := 179) rfl) rfl
theorem tw_6_181 : (Jvm.Cond.instanceMethod yX12_runs) ∈ wAll := tm_6 (List.mem_of_getElem? (i := 181) rfl) rfl
theorem tw_6_182 : (Jvm.Cond.code yX12_runs prog_14_method_72_code (2 : Nat) (Option.none : Option Jvm.ClassFile.FieldType)) ∈ wAll := tm_6 (List.mem_of_getElem? (i := 182) rfl) rfl
theorem tw_6_183 : (Jvm.Cond.methodLink "LadderClubModel" (268 : Nat) yX12_plainAsks) ∈ wAll := tm_6 (List.mem_of_getElem? (i := 183) rfl) rfl
theorem tw_6_185 : (Jvm.Cond.instanceMethod yX12_plainAsks) ∈ wAll := tm_6 (List.mem_of_getElem? (i := 185) rfl) rfl
theorem tw_6_186 : (Jvm.Cond.code yX12_plainAsks prog_14_method_74_code (2 : Nat) (Option.some Jvm.ClassFile.FieldType.int)) ∈ wAll := tm_6 (List.mem_of_getElem? (i := 186) rfl) rfl
theorem tw_6_187 : (Jvm.Cond.methodLink "LadderClubModel" (283 : Nat) yX12_takesActs) ∈ wAll := tm_6 (List.mem_of_getElem? (i := 187) rfl) rfl
theorem tw_6_189 : (Jvm.Cond.instanceMethod yX12_takesActs) ∈ wAll := tm_6 (List.mem_of_getElem? (i := 189) rfl) rfl
theorem tw_6_190 : (Jvm.Cond.code yX12_takesActs prog_14_method_77_code (2 : Nat) (Option.some Jvm.ClassFile.FieldType.int)) ∈ wAll := tm_6 (List.mem_of_getElem? (i := 190) rfl) rfl
theorem tw_6_191 : (Jvm.Cond.methodLink "LadderClubModel" (277 : Nat) yX12_plainTakes) ∈ wAll := tm_6 (List.mem_of_getElem? (i := 191) rfl) rfl
theorem tw_6_193 : (Jvm.Cond.instanceMethod yX12_plainTakes) ∈ wAll := tm_6 (List.mem_of_getElem? (i := 193) rfl) rfl
theorem tw_6_194 : (Jvm.Cond.code yX12_plainTakes prog_14_method_76_code (2 : Nat) (Option.some Jvm.ClassFile.FieldType.int)) ∈ wAll := tm_6 (List.mem_of_getElem? (i := 194) rfl) rfl
theorem tw_6_195 : (Jvm.Cond.methodLink "LadderClubModel" (280 : Nat) yX12_isUnder) ∈ wAll := tm_6 (List.mem_of_getElem? (i := 195) rfl) rfl
theorem tw_6_196 : (Jvm.Cond.static yX12_isUnder) ∈ wAll := tm_6 (List.mem_of_getElem? (i := 196) rfl) rfl
theorem tw_6_197 : (Jvm.Cond.code yX12_isUnder prog_14_method_73_code (2 : Nat) (Option.some Jvm.ClassFile.FieldType.boolean)) ∈ wAll := tm_6 (List.mem_of_getElem? (i := 197) rfl) rfl
theorem tw_6_198 : (Jvm.Cond.methodLink "LadderClubModel" (289 : Nat) yX12_waitsActs) ∈ wAll := tm_6 (List.mem_of_getElem? (i := 198) rfl) rfl
theorem tw_6_200 : (Jvm.Cond.instanceMethod yX12_waitsActs) ∈ wAll := tm_6 (List.mem_of_getElem? (i := 200) rfl) rfl
theorem tw_6_201 : (Jvm.Cond.code yX12_waitsActs prog_14_method_79_code (3 : Nat) (Option.some Jvm.ClassFile.FieldType.int)) ∈ wAll := tm_6 (List.mem_of_getElem? (i := 201) rfl) rfl
theorem tw_6_202 : (Jvm.Cond.methodLink "LadderClubModel" (286 : Nat) yX12_plainWaits) ∈ wAll := tm_6 (List.mem_of_getElem? (i := 202) rfl) rfl
theorem tw_6_204 : (Jvm.Cond.instanceMethod yX12_plainWaits) ∈ wAll := tm_6 (List.mem_of_getElem? (i := 204) rfl) rfl
theorem tw_6_205 : (Jvm.Cond.code yX12_plainWaits prog_14_method_78_code (2 : Nat) (Option.some Jvm.ClassFile.FieldType.int)) ∈ wAll := tm_6 (List.mem_of_getElem? (i := 205) rfl) rfl
theorem tw_6_206 : (Jvm.Cond.methodLink "LadderClubLaw" (151 : Nat) yX12_trace) ∈ wAll := tm_6 (List.mem_of_getElem? (i := 206) rfl) rfl
theorem tw_6_207 : (Jvm.Cond.instanceMethod yX12_trace) ∈ wAll := tm_6 (List.mem_of_getElem? (i := 207) rfl) rfl
theorem tw_6_208 : (Jvm.Cond.selects "LadderClubModel" yX12_trace yX12_trace) ∈ wAll := tm_6 (List.mem_of_getElem? (i := 208) rfl) rfl
theorem tw_6_209 : (Jvm.Cond.code yX12_trace prog_14_method_81_code (2 : Nat) (Option.some Jvm.ClassFile.FieldType.int)) ∈ wAll := tm_6 (List.mem_of_getElem? (i := 209) rfl) rfl
theorem tw_6_210 : (Jvm.Cond.methodLink "LadderClubLaw" (155 : Nat) yX12_as) ∈ wAll := tm_6 (List.mem_of_getElem? (i := 210) rfl) rfl
theorem tw_6_211 : (Jvm.Cond.instanceMethod yX12_as) ∈ wAll := tm_6 (List.mem_of_getElem? (i := 211) rfl) rfl
theorem tw_6_212 : (Jvm.Cond.selects "LadderClubModel" yX12_as yX12_as) ∈ wAll := tm_6 (List.mem_of_getElem? (i := 212) rfl) rfl
theorem tw_6_213 : (Jvm.Cond.code yX12_as prog_14_method_82_code (3 : Nat) (Option.some Jvm.ClassFile.FieldType.int)) ∈ wAll := tm_6 (List.mem_of_getElem? (i := 213) rfl) rfl
theorem tw_6_214 : (Jvm.Cond.methodLink "LadderClubLaw" (159 : Nat) yX12_image) ∈ wAll := tm_6 (List.mem_of_getElem? (i := 214) rfl) rfl
theorem tw_6_215 : (Jvm.Cond.instanceMethod yX12_image) ∈ wAll := tm_6 (List.mem_of_getElem? (i := 215) rfl) rfl
theorem tw_6_216 : (Jvm.Cond.selects "LadderClubModel" yX12_image yX12_image) ∈ wAll := tm_6 (List.mem_of_getElem? (i := 216) rfl) rfl
theorem tw_6_217 : (Jvm.Cond.code yX12_image prog_14_method_83_code (2 : Nat) (Option.some Jvm.ClassFile.FieldType.int)) ∈ wAll := tm_6 (List.mem_of_getElem? (i := 217) rfl) rfl
theorem tw_6_218 : (Jvm.Cond.methodLink "LadderClubLaw" (163 : Nat) yX12_undo) ∈ wAll := tm_6 (List.mem_of_getElem? (i := 218) rfl) rfl
theorem tw_6_219 : (Jvm.Cond.instanceMethod yX12_undo) ∈ wAll := tm_6 (List.mem_of_getElem? (i := 219) rfl) rfl
theorem tw_6_220 : (Jvm.Cond.selects "LadderClubModel" yX12_undo yX12_undo) ∈ wAll := tm_6 (List.mem_of_getElem? (i := 220) rfl) rfl
theorem tw_6_221 : (Jvm.Cond.code yX12_undo prog_14_method_84_code (2 : Nat) (Option.some Jvm.ClassFile.FieldType.int)) ∈ wAll := tm_6 (List.mem_of_getElem? (i := 221) rfl) rfl
theorem tw_6_222 : (Jvm.Cond.methodLink "LadderClubLaw" (167 : Nat) yX12_count) ∈ wAll := tm_6 (List.mem_of_getElem? (i := 222) rfl) rfl
theorem tw_6_223 : (Jvm.Cond.instanceMethod yX12_count) ∈ wAll := tm_6 (List.mem_of_getElem? (i := 223) rfl) rfl
theorem tw_6_224 : (Jvm.Cond.selects "LadderClubModel" yX12_count yX12_count) ∈ wAll := tm_6 (List.mem_of_getElem? (i := 224) rfl) rfl
theorem tw_6_225 : (Jvm.Cond.code yX12_count prog_14_method_85_code (2 : Nat) (Option.some Jvm.ClassFile.FieldType.int)) ∈ wAll := tm_6 (List.mem_of_getElem? (i := 225) rfl) rfl
theorem tw_6_226 : (Jvm.Cond.constantLong "LadderClubLaw" (40 : Nat) (4294967295 : Int64)) ∈ wAll := tm_6 (List.mem_of_getElem? (i := 226) rfl) rfl
theorem tw_6_236 : (Jvm.Cond.fieldLink "java/lang/String" (15 : Nat) "java/lang/String" "coder" "B") ∈ wAll := tm_6 (List.mem_of_getElem? (i := 236) rfl) rfl
theorem tw_6_237 : (Jvm.Cond.fieldLink "java/lang/String" (9 : Nat) "java/lang/String" "value" "[B") ∈ wAll := tm_6 (List.mem_of_getElem? (i := 237) rfl) rfl
theorem twp_1_0 : (Jvm.Cond.selects "LadderClub" yX11_isName yX11_isName) ∈ wAll := tm_p (q := (yX11_isName, 10)) (have hh : (yX11_isName, 10) ∈ lw_privs_1 := List.mem_of_getElem? (i := 0) rfl; show (yX11_isName, 10) ∈ lw_privs_1 ++ (lw_privs_2 ++ (lw_privs_3 ++ (lw_privs_4 ++ lw_privs_5))) from List.mem_append_left _ hh)
theorem twp_1_1 : (Jvm.Cond.selects "LadderClub" yX11_isRung yX11_isRung) ∈ wAll := tm_p (q := (yX11_isRung, 10)) (have hh : (yX11_isRung, 10) ∈ lw_privs_1 := List.mem_of_getElem? (i := 1) rfl; show (yX11_isRung, 10) ∈ lw_privs_1 ++ (lw_privs_2 ++ (lw_privs_3 ++ (lw_privs_4 ++ lw_privs_5))) from List.mem_append_left _ hh)
theorem twp_1_2 : (Jvm.Cond.selects "LadderClub$Ladder" yX6_weaker yX6_weaker) ∈ wAll := tm_p (q := (yX6_weaker, 16)) (have hh : (yX6_weaker, 16) ∈ lw_privs_1 := List.mem_of_getElem? (i := 2) rfl; show (yX6_weaker, 16) ∈ lw_privs_1 ++ (lw_privs_2 ++ (lw_privs_3 ++ (lw_privs_4 ++ lw_privs_5))) from List.mem_append_left _ hh)
theorem twp_1_3 : (Jvm.Cond.selects "LadderClub$ClubReader" yX3_readClause yX3_readClause) ∈ wAll := tm_p (q := (yX3_readClause, 7)) (have hh : (yX3_readClause, 7) ∈ lw_privs_1 := List.mem_of_getElem? (i := 3) rfl; show (yX3_readClause, 7) ∈ lw_privs_1 ++ (lw_privs_2 ++ (lw_privs_3 ++ (lw_privs_4 ++ lw_privs_5))) from List.mem_append_left _ hh)
theorem twp_1_4 : (Jvm.Cond.selects "LadderClub$ClubReader" yX3_takeOneOf yX3_takeOneOf) ∈ wAll := tm_p (q := (yX3_takeOneOf, 7)) (have hh : (yX3_takeOneOf, 7) ∈ lw_privs_1 := List.mem_of_getElem? (i := 4) rfl; show (yX3_takeOneOf, 7) ∈ lw_privs_1 ++ (lw_privs_2 ++ (lw_privs_3 ++ (lw_privs_4 ++ lw_privs_5))) from List.mem_append_left _ hh)
theorem twp_1_5 : (Jvm.Cond.selects "LadderClub$ClubReader" yX3_takeWord yX3_takeWord) ∈ wAll := tm_p (q := (yX3_takeWord, 7)) (have hh : (yX3_takeWord, 7) ∈ lw_privs_1 := List.mem_of_getElem? (i := 5) rfl; show (yX3_takeWord, 7) ∈ lw_privs_1 ++ (lw_privs_2 ++ (lw_privs_3 ++ (lw_privs_4 ++ lw_privs_5))) from List.mem_append_left _ hh)
theorem twp_1_6 : (Jvm.Cond.selects "LadderClub$ClubReader" yX3_take yX3_take) ∈ wAll := tm_p (q := (yX3_take, 7)) (have hh : (yX3_take, 7) ∈ lw_privs_1 := List.mem_of_getElem? (i := 6) rfl; show (yX3_take, 7) ∈ lw_privs_1 ++ (lw_privs_2 ++ (lw_privs_3 ++ (lw_privs_4 ++ lw_privs_5))) from List.mem_append_left _ hh)
theorem twp_1_7 : (Jvm.Cond.selects "LadderClub$ClubReader" yX3_readUp yX3_readUp) ∈ wAll := tm_p (q := (yX3_readUp, 7)) (have hh : (yX3_readUp, 7) ∈ lw_privs_1 := List.mem_of_getElem? (i := 7) rfl; show (yX3_readUp, 7) ∈ lw_privs_1 ++ (lw_privs_2 ++ (lw_privs_3 ++ (lw_privs_4 ++ lw_privs_5))) from List.mem_append_left _ hh)
theorem twp_1_8 : (Jvm.Cond.selects "LadderClub$ClubReader" yX3_readNumber yX3_readNumber) ∈ wAll := tm_p (q := (yX3_readNumber, 7)) (have hh : (yX3_readNumber, 7) ∈ lw_privs_1 := List.mem_of_getElem? (i := 8) rfl; show (yX3_readNumber, 7) ∈ lw_privs_1 ++ (lw_privs_2 ++ (lw_privs_3 ++ (lw_privs_4 ++ lw_privs_5))) from List.mem_append_left _ hh)
theorem twp_1_9 : (Jvm.Cond.selects "LadderClub$ClubReader" yX3_readWins yX3_readWins) ∈ wAll := tm_p (q := (yX3_readWins, 7)) (have hh : (yX3_readWins, 7) ∈ lw_privs_1 := List.mem_of_getElem? (i := 9) rfl; show (yX3_readWins, 7) ∈ lw_privs_1 ++ (lw_privs_2 ++ (lw_privs_3 ++ (lw_privs_4 ++ lw_privs_5))) from List.mem_append_left _ hh)
theorem twp_1_10 : (Jvm.Cond.selects "LadderClub$ClubReader" yX3_readEither yX3_readEither) ∈ wAll := tm_p (q := (yX3_readEither, 7)) (have hh : (yX3_readEither, 7) ∈ lw_privs_1 := List.mem_of_getElem? (i := 10) rfl; show (yX3_readEither, 7) ∈ lw_privs_1 ++ (lw_privs_2 ++ (lw_privs_3 ++ (lw_privs_4 ++ lw_privs_5))) from List.mem_append_left _ hh)
theorem twp_1_11 : (Jvm.Cond.selects "LadderClub$ClubReader" yX3_readBoth yX3_readBoth) ∈ wAll := tm_p (q := (yX3_readBoth, 7)) (have hh : (yX3_readBoth, 7) ∈ lw_privs_1 := List.mem_of_getElem? (i := 11) rfl; show (yX3_readBoth, 7) ∈ lw_privs_1 ++ (lw_privs_2 ++ (lw_privs_3 ++ (lw_privs_4 ++ lw_privs_5))) from List.mem_append_left _ hh)
theorem twp_1_12 : (Jvm.Cond.selects "LadderClub$ClubReader" yX3_readFactor yX3_readFactor) ∈ wAll := tm_p (q := (yX3_readFactor, 7)) (have hh : (yX3_readFactor, 7) ∈ lw_privs_1 := List.mem_of_getElem? (i := 12) rfl; show (yX3_readFactor, 7) ∈ lw_privs_1 ++ (lw_privs_2 ++ (lw_privs_3 ++ (lw_privs_4 ++ lw_privs_5))) from List.mem_append_left _ hh)
theorem twp_1_13 : (Jvm.Cond.selects "LadderClub$ClubReader" yX3_put yX3_put) ∈ wAll := tm_p (q := (yX3_put, 7)) (have hh : (yX3_put, 7) ∈ lw_privs_1 := List.mem_of_getElem? (i := 13) rfl; show (yX3_put, 7) ∈ lw_privs_1 ++ (lw_privs_2 ++ (lw_privs_3 ++ (lw_privs_4 ++ lw_privs_5))) from List.mem_append_left _ hh)
theorem twp_1_14 : (Jvm.Cond.selects "LadderClub$ClubReader" yX3_ownCode yX3_ownCode) ∈ wAll := tm_p (q := (yX3_ownCode, 7)) (have hh : (yX3_ownCode, 7) ∈ lw_privs_1 := List.mem_of_getElem? (i := 14) rfl; show (yX3_ownCode, 7) ∈ lw_privs_1 ++ (lw_privs_2 ++ (lw_privs_3 ++ (lw_privs_4 ++ lw_privs_5))) from List.mem_append_left _ hh)
theorem twp_1_15 : (Jvm.Cond.selects "LadderClub" yX11_clubAt yX11_clubAt) ∈ wAll := tm_p (q := (yX11_clubAt, 10)) (have hh : (yX11_clubAt, 10) ∈ lw_privs_1 := List.mem_of_getElem? (i := 15) rfl; show (yX11_clubAt, 10) ∈ lw_privs_1 ++ (lw_privs_2 ++ (lw_privs_3 ++ (lw_privs_4 ++ lw_privs_5))) from List.mem_append_left _ hh)
theorem twp_2_0 : (Jvm.Cond.selects "LadderClub" yX11_whomToday yX11_whomToday) ∈ wAll := tm_p (q := (yX11_whomToday, 10)) (have hh : (yX11_whomToday, 10) ∈ lw_privs_2 := List.mem_of_getElem? (i := 0) rfl; show (yX11_whomToday, 10) ∈ lw_privs_1 ++ (lw_privs_2 ++ (lw_privs_3 ++ (lw_privs_4 ++ lw_privs_5))) from List.mem_append_right _ (List.mem_append_left _ hh))
theorem twp_2_1 : (Jvm.Cond.selects "LadderClub" yX11_goBehind yX11_goBehind) ∈ wAll := tm_p (q := (yX11_goBehind, 10)) (have hh : (yX11_goBehind, 10) ∈ lw_privs_2 := List.mem_of_getElem? (i := 1) rfl; show (yX11_goBehind, 10) ∈ lw_privs_1 ++ (lw_privs_2 ++ (lw_privs_3 ++ (lw_privs_4 ++ lw_privs_5))) from List.mem_append_right _ (List.mem_append_left _ hh))
theorem twp_2_2 : (Jvm.Cond.selects "LadderClub$Days" yX4_numberOf yX4_numberOf) ∈ wAll := tm_p (q := (yX4_numberOf, 9)) (have hh : (yX4_numberOf, 9) ∈ lw_privs_2 := List.mem_of_getElem? (i := 2) rfl; show (yX4_numberOf, 9) ∈ lw_privs_1 ++ (lw_privs_2 ++ (lw_privs_3 ++ (lw_privs_4 ++ lw_privs_5))) from List.mem_append_right _ (List.mem_append_left _ hh))
theorem twp_2_3 : (Jvm.Cond.selects "LadderClub$Days" yX4_add yX4_add) ∈ wAll := tm_p (q := (yX4_add, 9)) (have hh : (yX4_add, 9) ∈ lw_privs_2 := List.mem_of_getElem? (i := 3) rfl; show (yX4_add, 9) ∈ lw_privs_1 ++ (lw_privs_2 ++ (lw_privs_3 ++ (lw_privs_4 ++ lw_privs_5))) from List.mem_append_right _ (List.mem_append_left _ hh))
theorem twp_2_4 : (Jvm.Cond.selects "LadderClub$Days" yX4_beginDay yX4_beginDay) ∈ wAll := tm_p (q := (yX4_beginDay, 9)) (have hh : (yX4_beginDay, 9) ∈ lw_privs_2 := List.mem_of_getElem? (i := 4) rfl; show (yX4_beginDay, 9) ∈ lw_privs_1 ++ (lw_privs_2 ++ (lw_privs_3 ++ (lw_privs_4 ++ lw_privs_5))) from List.mem_append_right _ (List.mem_append_left _ hh))
theorem twp_2_5 : (Jvm.Cond.selects "LadderClub$Days" yX4_lay yX4_lay) ∈ wAll := tm_p (q := (yX4_lay, 9)) (have hh : (yX4_lay, 9) ∈ lw_privs_2 := List.mem_of_getElem? (i := 5) rfl; show (yX4_lay, 9) ∈ lw_privs_1 ++ (lw_privs_2 ++ (lw_privs_3 ++ (lw_privs_4 ++ lw_privs_5))) from List.mem_append_right _ (List.mem_append_left _ hh))
theorem twp_2_6 : (Jvm.Cond.selects "LadderClub$Days" yX4_nameOn yX4_nameOn) ∈ wAll := tm_p (q := (yX4_nameOn, 9)) (have hh : (yX4_nameOn, 9) ∈ lw_privs_2 := List.mem_of_getElem? (i := 6) rfl; show (yX4_nameOn, 9) ∈ lw_privs_1 ++ (lw_privs_2 ++ (lw_privs_3 ++ (lw_privs_4 ++ lw_privs_5))) from List.mem_append_right _ (List.mem_append_left _ hh))
theorem twp_2_7 : (Jvm.Cond.selects "LadderClub$Days" yX4_play yX4_play) ∈ wAll := tm_p (q := (yX4_play, 9)) (have hh : (yX4_play, 9) ∈ lw_privs_2 := List.mem_of_getElem? (i := 7) rfl; show (yX4_play, 9) ∈ lw_privs_1 ++ (lw_privs_2 ++ (lw_privs_3 ++ (lw_privs_4 ++ lw_privs_5))) from List.mem_append_right _ (List.mem_append_left _ hh))
theorem twp_2_8 : (Jvm.Cond.selects "LadderClub" yX11_stuckBits yX11_stuckBits) ∈ wAll := tm_p (q := (yX11_stuckBits, 10)) (have hh : (yX11_stuckBits, 10) ∈ lw_privs_2 := List.mem_of_getElem? (i := 8) rfl; show (yX11_stuckBits, 10) ∈ lw_privs_1 ++ (lw_privs_2 ++ (lw_privs_3 ++ (lw_privs_4 ++ lw_privs_5))) from List.mem_append_right _ (List.mem_append_left _ hh))
theorem twp_2_9 : (Jvm.Cond.selects "LadderClub" yX11_askedInWeek yX11_askedInWeek) ∈ wAll := tm_p (q := (yX11_askedInWeek, 10)) (have hh : (yX11_askedInWeek, 10) ∈ lw_privs_2 := List.mem_of_getElem? (i := 9) rfl; show (yX11_askedInWeek, 10) ∈ lw_privs_1 ++ (lw_privs_2 ++ (lw_privs_3 ++ (lw_privs_4 ++ lw_privs_5))) from List.mem_append_right _ (List.mem_append_left _ hh))
theorem twp_2_10 : (Jvm.Cond.selects "LadderClub" yX11_hangingBits yX11_hangingBits) ∈ wAll := tm_p (q := (yX11_hangingBits, 10)) (have hh : (yX11_hangingBits, 10) ∈ lw_privs_2 := List.mem_of_getElem? (i := 10) rfl; show (yX11_hangingBits, 10) ∈ lw_privs_1 ++ (lw_privs_2 ++ (lw_privs_3 ++ (lw_privs_4 ++ lw_privs_5))) from List.mem_append_right _ (List.mem_append_left _ hh))
theorem twp_2_11 : (Jvm.Cond.selects "LadderClub" yX11_rungsHavingAsked yX11_rungsHavingAsked) ∈ wAll := tm_p (q := (yX11_rungsHavingAsked, 10)) (have hh : (yX11_rungsHavingAsked, 10) ∈ lw_privs_2 := List.mem_of_getElem? (i := 11) rfl; show (yX11_rungsHavingAsked, 10) ∈ lw_privs_1 ++ (lw_privs_2 ++ (lw_privs_3 ++ (lw_privs_4 ++ lw_privs_5))) from List.mem_append_right _ (List.mem_append_left _ hh))
theorem twp_2_12 : (Jvm.Cond.selects "LadderClub$Ladder" yX6_wonMore yX6_wonMore) ∈ wAll := tm_p (q := (yX6_wonMore, 16)) (have hh : (yX6_wonMore, 16) ∈ lw_privs_2 := List.mem_of_getElem? (i := 12) rfl; show (yX6_wonMore, 16) ∈ lw_privs_1 ++ (lw_privs_2 ++ (lw_privs_3 ++ (lw_privs_4 ++ lw_privs_5))) from List.mem_append_right _ (List.mem_append_left _ hh))
theorem twp_2_13 : (Jvm.Cond.selects "LadderClub" yX11_findFewest yX11_findFewest) ∈ wAll := tm_p (q := (yX11_findFewest, 10)) (have hh : (yX11_findFewest, 10) ∈ lw_privs_2 := List.mem_of_getElem? (i := 13) rfl; show (yX11_findFewest, 10) ∈ lw_privs_1 ++ (lw_privs_2 ++ (lw_privs_3 ++ (lw_privs_4 ++ lw_privs_5))) from List.mem_append_right _ (List.mem_append_left _ hh))
theorem twp_2_14 : (Jvm.Cond.selects "LadderClub" yX11_runToday yX11_runToday) ∈ wAll := tm_p (q := (yX11_runToday, 10)) (have hh : (yX11_runToday, 10) ∈ lw_privs_2 := List.mem_of_getElem? (i := 14) rfl; show (yX11_runToday, 10) ∈ lw_privs_1 ++ (lw_privs_2 ++ (lw_privs_3 ++ (lw_privs_4 ++ lw_privs_5))) from List.mem_append_right _ (List.mem_append_left _ hh))
theorem twp_2_15 : (Jvm.Cond.selects "LadderClubModel" yX12_isName yX12_isName) ∈ wAll := tm_p (q := (yX12_isName, 28)) (have hh : (yX12_isName, 28) ∈ lw_privs_2 := List.mem_of_getElem? (i := 15) rfl; show (yX12_isName, 28) ∈ lw_privs_1 ++ (lw_privs_2 ++ (lw_privs_3 ++ (lw_privs_4 ++ lw_privs_5))) from List.mem_append_right _ (List.mem_append_left _ hh))
theorem twp_3_0 : (Jvm.Cond.selects "LadderClubModel" yX12_trueBoard yX12_trueBoard) ∈ wAll := tm_p (q := (yX12_trueBoard, 28)) (have hh : (yX12_trueBoard, 28) ∈ lw_privs_3 := List.mem_of_getElem? (i := 0) rfl; show (yX12_trueBoard, 28) ∈ lw_privs_1 ++ (lw_privs_2 ++ (lw_privs_3 ++ (lw_privs_4 ++ lw_privs_5))) from List.mem_append_right _ (List.mem_append_right _ (List.mem_append_left _ hh)))
theorem twp_3_1 : (Jvm.Cond.selects "LadderClubModel" yX12_isStronger yX12_isStronger) ∈ wAll := tm_p (q := (yX12_isStronger, 28)) (have hh : (yX12_isStronger, 28) ∈ lw_privs_3 := List.mem_of_getElem? (i := 1) rfl; show (yX12_isStronger, 28) ∈ lw_privs_1 ++ (lw_privs_2 ++ (lw_privs_3 ++ (lw_privs_4 ++ lw_privs_5))) from List.mem_append_right _ (List.mem_append_right _ (List.mem_append_left _ hh)))
theorem twp_3_2 : (Jvm.Cond.selects "LadderClubModel" yX12_rungOf yX12_rungOf) ∈ wAll := tm_p (q := (yX12_rungOf, 28)) (have hh : (yX12_rungOf, 28) ∈ lw_privs_3 := List.mem_of_getElem? (i := 2) rfl; show (yX12_rungOf, 28) ∈ lw_privs_1 ++ (lw_privs_2 ++ (lw_privs_3 ++ (lw_privs_4 ++ lw_privs_5))) from List.mem_append_right _ (List.mem_append_right _ (List.mem_append_left _ hh)))
theorem twp_3_3 : (Jvm.Cond.selects "LadderClubModel" yX12_moved yX12_moved) ∈ wAll := tm_p (q := (yX12_moved, 28)) (have hh : (yX12_moved, 28) ∈ lw_privs_3 := List.mem_of_getElem? (i := 3) rfl; show (yX12_moved, 28) ∈ lw_privs_1 ++ (lw_privs_2 ++ (lw_privs_3 ++ (lw_privs_4 ++ lw_privs_5))) from List.mem_append_right _ (List.mem_append_right _ (List.mem_append_left _ hh)))
theorem twp_3_4 : (Jvm.Cond.selects "LadderClubModel" yX12_clauseHere yX12_clauseHere) ∈ wAll := tm_p (q := (yX12_clauseHere, 28)) (have hh : (yX12_clauseHere, 28) ∈ lw_privs_3 := List.mem_of_getElem? (i := 4) rfl; show (yX12_clauseHere, 28) ∈ lw_privs_1 ++ (lw_privs_2 ++ (lw_privs_3 ++ (lw_privs_4 ++ lw_privs_5))) from List.mem_append_right _ (List.mem_append_right _ (List.mem_append_left _ hh)))
theorem twp_3_5 : (Jvm.Cond.selects "LadderClubModel" yX12_here yX12_here) ∈ wAll := tm_p (q := (yX12_here, 28)) (have hh : (yX12_here, 28) ∈ lw_privs_3 := List.mem_of_getElem? (i := 5) rfl; show (yX12_here, 28) ∈ lw_privs_1 ++ (lw_privs_2 ++ (lw_privs_3 ++ (lw_privs_4 ++ lw_privs_5))) from List.mem_append_right _ (List.mem_append_right _ (List.mem_append_left _ hh)))
theorem twp_3_6 : (Jvm.Cond.selects "LadderClubModel" yX12_spells yX12_spells) ∈ wAll := tm_p (q := (yX12_spells, 28)) (have hh : (yX12_spells, 28) ∈ lw_privs_3 := List.mem_of_getElem? (i := 6) rfl; show (yX12_spells, 28) ∈ lw_privs_1 ++ (lw_privs_2 ++ (lw_privs_3 ++ (lw_privs_4 ++ lw_privs_5))) from List.mem_append_right _ (List.mem_append_right _ (List.mem_append_left _ hh)))
theorem twp_3_7 : (Jvm.Cond.selects "LadderClubModel" yX12_must yX12_must) ∈ wAll := tm_p (q := (yX12_must, 28)) (have hh : (yX12_must, 28) ∈ lw_privs_3 := List.mem_of_getElem? (i := 7) rfl; show (yX12_must, 28) ∈ lw_privs_1 ++ (lw_privs_2 ++ (lw_privs_3 ++ (lw_privs_4 ++ lw_privs_5))) from List.mem_append_right _ (List.mem_append_right _ (List.mem_append_left _ hh)))
theorem twp_3_8 : (Jvm.Cond.selects "LadderClubModel" yX12_figures yX12_figures) ∈ wAll := tm_p (q := (yX12_figures, 28)) (have hh : (yX12_figures, 28) ∈ lw_privs_3 := List.mem_of_getElem? (i := 8) rfl; show (yX12_figures, 28) ∈ lw_privs_1 ++ (lw_privs_2 ++ (lw_privs_3 ++ (lw_privs_4 ++ lw_privs_5))) from List.mem_append_right _ (List.mem_append_right _ (List.mem_append_left _ hh)))
theorem twp_3_9 : (Jvm.Cond.selects "LadderClubModel" yX12_among yX12_among) ∈ wAll := tm_p (q := (yX12_among, 28)) (have hh : (yX12_among, 28) ∈ lw_privs_3 := List.mem_of_getElem? (i := 9) rfl; show (yX12_among, 28) ∈ lw_privs_1 ++ (lw_privs_2 ++ (lw_privs_3 ++ (lw_privs_4 ++ lw_privs_5))) from List.mem_append_right _ (List.mem_append_right _ (List.mem_append_left _ hh)))
theorem twp_3_10 : (Jvm.Cond.selects "LadderClubModel" yX12_some yX12_some) ∈ wAll := tm_p (q := (yX12_some, 28)) (have hh : (yX12_some, 28) ∈ lw_privs_3 := List.mem_of_getElem? (i := 10) rfl; show (yX12_some, 28) ∈ lw_privs_1 ++ (lw_privs_2 ++ (lw_privs_3 ++ (lw_privs_4 ++ lw_privs_5))) from List.mem_append_right _ (List.mem_append_right _ (List.mem_append_left _ hh)))
theorem twp_3_11 : (Jvm.Cond.selects "LadderClubModel" yX12_every yX12_every) ∈ wAll := tm_p (q := (yX12_every, 28)) (have hh : (yX12_every, 28) ∈ lw_privs_3 := List.mem_of_getElem? (i := 11) rfl; show (yX12_every, 28) ∈ lw_privs_1 ++ (lw_privs_2 ++ (lw_privs_3 ++ (lw_privs_4 ++ lw_privs_5))) from List.mem_append_right _ (List.mem_append_right _ (List.mem_append_left _ hh)))
theorem twp_3_12 : (Jvm.Cond.selects "LadderClubModel" yX12_factor yX12_factor) ∈ wAll := tm_p (q := (yX12_factor, 28)) (have hh : (yX12_factor, 28) ∈ lw_privs_3 := List.mem_of_getElem? (i := 12) rfl; show (yX12_factor, 28) ∈ lw_privs_1 ++ (lw_privs_2 ++ (lw_privs_3 ++ (lw_privs_4 ++ lw_privs_5))) from List.mem_append_right _ (List.mem_append_right _ (List.mem_append_left _ hh)))
theorem twp_3_13 : (Jvm.Cond.selects "LadderClubModel" yX12_emits yX12_emits) ∈ wAll := tm_p (q := (yX12_emits, 28)) (have hh : (yX12_emits, 28) ∈ lw_privs_3 := List.mem_of_getElem? (i := 13) rfl; show (yX12_emits, 28) ∈ lw_privs_1 ++ (lw_privs_2 ++ (lw_privs_3 ++ (lw_privs_4 ++ lw_privs_5))) from List.mem_append_right _ (List.mem_append_right _ (List.mem_append_left _ hh)))
theorem twp_3_14 : (Jvm.Cond.selects "LadderClubModel" yX12_isClub yX12_isClub) ∈ wAll := tm_p (q := (yX12_isClub, 28)) (have hh : (yX12_isClub, 28) ∈ lw_privs_3 := List.mem_of_getElem? (i := 14) rfl; show (yX12_isClub, 28) ∈ lw_privs_1 ++ (lw_privs_2 ++ (lw_privs_3 ++ (lw_privs_4 ++ lw_privs_5))) from List.mem_append_right _ (List.mem_append_right _ (List.mem_append_left _ hh)))
theorem twp_3_15 : (Jvm.Cond.selects "LadderClubModel" yX12_mayAll yX12_mayAll) ∈ wAll := tm_p (q := (yX12_mayAll, 28)) (have hh : (yX12_mayAll, 28) ∈ lw_privs_3 := List.mem_of_getElem? (i := 15) rfl; show (yX12_mayAll, 28) ∈ lw_privs_1 ++ (lw_privs_2 ++ (lw_privs_3 ++ (lw_privs_4 ++ lw_privs_5))) from List.mem_append_right _ (List.mem_append_right _ (List.mem_append_left _ hh)))
theorem twp_4_0 : (Jvm.Cond.selects "LadderClubModel" yX12_mayAsk yX12_mayAsk) ∈ wAll := tm_p (q := (yX12_mayAsk, 28)) (have hh : (yX12_mayAsk, 28) ∈ lw_privs_4 := List.mem_of_getElem? (i := 0) rfl; show (yX12_mayAsk, 28) ∈ lw_privs_1 ++ (lw_privs_2 ++ (lw_privs_3 ++ (lw_privs_4 ++ lw_privs_5))) from List.mem_append_right _ (List.mem_append_right _ (List.mem_append_right _ (List.mem_append_left _ hh))))
theorem twp_4_1 : (Jvm.Cond.selects "LadderClubModel" yX12_isLet yX12_isLet) ∈ wAll := tm_p (q := (yX12_isLet, 28)) (have hh : (yX12_isLet, 28) ∈ lw_privs_4 := List.mem_of_getElem? (i := 1) rfl; show (yX12_isLet, 28) ∈ lw_privs_1 ++ (lw_privs_2 ++ (lw_privs_3 ++ (lw_privs_4 ++ lw_privs_5))) from List.mem_append_right _ (List.mem_append_right _ (List.mem_append_right _ (List.mem_append_left _ hh))))
theorem twp_4_2 : (Jvm.Cond.selects "LadderClubModel" yX12_asked yX12_asked) ∈ wAll := tm_p (q := (yX12_asked, 28)) (have hh : (yX12_asked, 28) ∈ lw_privs_4 := List.mem_of_getElem? (i := 2) rfl; show (yX12_asked, 28) ∈ lw_privs_1 ++ (lw_privs_2 ++ (lw_privs_3 ++ (lw_privs_4 ++ lw_privs_5))) from List.mem_append_right _ (List.mem_append_right _ (List.mem_append_right _ (List.mem_append_left _ hh))))
theorem twp_4_3 : (Jvm.Cond.selects "LadderClubModel" yX12_worth yX12_worth) ∈ wAll := tm_p (q := (yX12_worth, 28)) (have hh : (yX12_worth, 28) ∈ lw_privs_4 := List.mem_of_getElem? (i := 3) rfl; show (yX12_worth, 28) ∈ lw_privs_1 ++ (lw_privs_2 ++ (lw_privs_3 ++ (lw_privs_4 ++ lw_privs_5))) from List.mem_append_right _ (List.mem_append_right _ (List.mem_append_right _ (List.mem_append_left _ hh))))
theorem twp_4_4 : (Jvm.Cond.selects "LadderClubModel" yX12_won yX12_won) ∈ wAll := tm_p (q := (yX12_won, 28)) (have hh : (yX12_won, 28) ∈ lw_privs_4 := List.mem_of_getElem? (i := 4) rfl; show (yX12_won, 28) ∈ lw_privs_1 ++ (lw_privs_2 ++ (lw_privs_3 ++ (lw_privs_4 ++ lw_privs_5))) from List.mem_append_right _ (List.mem_append_right _ (List.mem_append_right _ (List.mem_append_left _ hh))))
theorem twp_4_5 : (Jvm.Cond.selects "LadderClubModel" yX12_days yX12_days) ∈ wAll := tm_p (q := (yX12_days, 28)) (have hh : (yX12_days, 28) ∈ lw_privs_4 := List.mem_of_getElem? (i := 5) rfl; show (yX12_days, 28) ∈ lw_privs_1 ++ (lw_privs_2 ++ (lw_privs_3 ++ (lw_privs_4 ++ lw_privs_5))) from List.mem_append_right _ (List.mem_append_right _ (List.mem_append_right _ (List.mem_append_left _ hh))))
theorem twp_4_6 : (Jvm.Cond.selects "LadderClubModel" yX12_dayGoes yX12_dayGoes) ∈ wAll := tm_p (q := (yX12_dayGoes, 28)) (have hh : (yX12_dayGoes, 28) ∈ lw_privs_4 := List.mem_of_getElem? (i := 6) rfl; show (yX12_dayGoes, 28) ∈ lw_privs_1 ++ (lw_privs_2 ++ (lw_privs_3 ++ (lw_privs_4 ++ lw_privs_5))) from List.mem_append_right _ (List.mem_append_right _ (List.mem_append_right _ (List.mem_append_left _ hh))))
theorem twp_4_7 : (Jvm.Cond.selects "LadderClubModel" yX12_gathers yX12_gathers) ∈ wAll := tm_p (q := (yX12_gathers, 28)) (have hh : (yX12_gathers, 28) ∈ lw_privs_4 := List.mem_of_getElem? (i := 7) rfl; show (yX12_gathers, 28) ∈ lw_privs_1 ++ (lw_privs_2 ++ (lw_privs_3 ++ (lw_privs_4 ++ lw_privs_5))) from List.mem_append_right _ (List.mem_append_right _ (List.mem_append_right _ (List.mem_append_left _ hh))))
theorem twp_4_8 : (Jvm.Cond.selects "LadderClubModel" yX12_trulyNow yX12_trulyNow) ∈ wAll := tm_p (q := (yX12_trulyNow, 28)) (have hh : (yX12_trulyNow, 28) ∈ lw_privs_4 := List.mem_of_getElem? (i := 8) rfl; show (yX12_trulyNow, 28) ∈ lw_privs_1 ++ (lw_privs_2 ++ (lw_privs_3 ++ (lw_privs_4 ++ lw_privs_5))) from List.mem_append_right _ (List.mem_append_right _ (List.mem_append_right _ (List.mem_append_left _ hh))))
theorem twp_4_9 : (Jvm.Cond.selects "LadderClubModel" yX12_isAhead yX12_isAhead) ∈ wAll := tm_p (q := (yX12_isAhead, 28)) (have hh : (yX12_isAhead, 28) ∈ lw_privs_4 := List.mem_of_getElem? (i := 9) rfl; show (yX12_isAhead, 28) ∈ lw_privs_1 ++ (lw_privs_2 ++ (lw_privs_3 ++ (lw_privs_4 ++ lw_privs_5))) from List.mem_append_right _ (List.mem_append_right _ (List.mem_append_right _ (List.mem_append_left _ hh))))
theorem twp_4_10 : (Jvm.Cond.selects "LadderClubModel" yX12_rungs yX12_rungs) ∈ wAll := tm_p (q := (yX12_rungs, 28)) (have hh : (yX12_rungs, 28) ∈ lw_privs_4 := List.mem_of_getElem? (i := 10) rfl; show (yX12_rungs, 28) ∈ lw_privs_1 ++ (lw_privs_2 ++ (lw_privs_3 ++ (lw_privs_4 ++ lw_privs_5))) from List.mem_append_right _ (List.mem_append_right _ (List.mem_append_right _ (List.mem_append_left _ hh))))
theorem twp_4_11 : (Jvm.Cond.selects "LadderClubModel" yX12_askedAny yX12_askedAny) ∈ wAll := tm_p (q := (yX12_askedAny, 28)) (have hh : (yX12_askedAny, 28) ∈ lw_privs_4 := List.mem_of_getElem? (i := 11) rfl; show (yX12_askedAny, 28) ∈ lw_privs_1 ++ (lw_privs_2 ++ (lw_privs_3 ++ (lw_privs_4 ++ lw_privs_5))) from List.mem_append_right _ (List.mem_append_right _ (List.mem_append_right _ (List.mem_append_left _ hh))))
theorem twp_4_12 : (Jvm.Cond.selects "LadderClubModel" yX12_allOrders yX12_allOrders) ∈ wAll := tm_p (q := (yX12_allOrders, 28)) (have hh : (yX12_allOrders, 28) ∈ lw_privs_4 := List.mem_of_getElem? (i := 12) rfl; show (yX12_allOrders, 28) ∈ lw_privs_1 ++ (lw_privs_2 ++ (lw_privs_3 ++ (lw_privs_4 ++ lw_privs_5))) from List.mem_append_right _ (List.mem_append_right _ (List.mem_append_right _ (List.mem_append_left _ hh))))
theorem twp_4_13 : (Jvm.Cond.selects "LadderClubModel" yX12_goesThrough yX12_goesThrough) ∈ wAll := tm_p (q := (yX12_goesThrough, 28)) (have hh : (yX12_goesThrough, 28) ∈ lw_privs_4 := List.mem_of_getElem? (i := 13) rfl; show (yX12_goesThrough, 28) ∈ lw_privs_1 ++ (lw_privs_2 ++ (lw_privs_3 ++ (lw_privs_4 ++ lw_privs_5))) from List.mem_append_right _ (List.mem_append_right _ (List.mem_append_right _ (List.mem_append_left _ hh))))
theorem twp_4_14 : (Jvm.Cond.selects "LadderClubModel" yX12_sorted yX12_sorted) ∈ wAll := tm_p (q := (yX12_sorted, 28)) (have hh : (yX12_sorted, 28) ∈ lw_privs_4 := List.mem_of_getElem? (i := 14) rfl; show (yX12_sorted, 28) ∈ lw_privs_1 ++ (lw_privs_2 ++ (lw_privs_3 ++ (lw_privs_4 ++ lw_privs_5))) from List.mem_append_right _ (List.mem_append_right _ (List.mem_append_right _ (List.mem_append_left _ hh))))
theorem twp_4_15 : (Jvm.Cond.selects "LadderClubModel" yX12_fromBelow yX12_fromBelow) ∈ wAll := tm_p (q := (yX12_fromBelow, 28)) (have hh : (yX12_fromBelow, 28) ∈ lw_privs_4 := List.mem_of_getElem? (i := 15) rfl; show (yX12_fromBelow, 28) ∈ lw_privs_1 ++ (lw_privs_2 ++ (lw_privs_3 ++ (lw_privs_4 ++ lw_privs_5))) from List.mem_append_right _ (List.mem_append_right _ (List.mem_append_right _ (List.mem_append_left _ hh))))
theorem twp_5_0 : (Jvm.Cond.selects "LadderClubModel" yX12_beatMore yX12_beatMore) ∈ wAll := tm_p (q := (yX12_beatMore, 28)) (have hh : (yX12_beatMore, 28) ∈ lw_privs_5 := List.mem_of_getElem? (i := 0) rfl; show (yX12_beatMore, 28) ∈ lw_privs_1 ++ (lw_privs_2 ++ (lw_privs_3 ++ (lw_privs_4 ++ lw_privs_5))) from List.mem_append_right _ (List.mem_append_right _ (List.mem_append_right _ (List.mem_append_right _ (hh)))))
theorem twp_5_1 : (Jvm.Cond.selects "LadderClubModel" yX12_asksActs yX12_asksActs) ∈ wAll := tm_p (q := (yX12_asksActs, 28)) (have hh : (yX12_asksActs, 28) ∈ lw_privs_5 := List.mem_of_getElem? (i := 1) rfl; show (yX12_asksActs, 28) ∈ lw_privs_1 ++ (lw_privs_2 ++ (lw_privs_3 ++ (lw_privs_4 ++ lw_privs_5))) from List.mem_append_right _ (List.mem_append_right _ (List.mem_append_right _ (List.mem_append_right _ (hh)))))
theorem twp_5_2 : (Jvm.Cond.selects "LadderClubModel" yX12_runs yX12_runs) ∈ wAll := tm_p (q := (yX12_runs, 28)) (have hh : (yX12_runs, 28) ∈ lw_privs_5 := List.mem_of_getElem? (i := 2) rfl; show (yX12_runs, 28) ∈ lw_privs_1 ++ (lw_privs_2 ++ (lw_privs_3 ++ (lw_privs_4 ++ lw_privs_5))) from List.mem_append_right _ (List.mem_append_right _ (List.mem_append_right _ (List.mem_append_right _ (hh)))))
theorem twp_5_3 : (Jvm.Cond.selects "LadderClubModel" yX12_plainAsks yX12_plainAsks) ∈ wAll := tm_p (q := (yX12_plainAsks, 28)) (have hh : (yX12_plainAsks, 28) ∈ lw_privs_5 := List.mem_of_getElem? (i := 3) rfl; show (yX12_plainAsks, 28) ∈ lw_privs_1 ++ (lw_privs_2 ++ (lw_privs_3 ++ (lw_privs_4 ++ lw_privs_5))) from List.mem_append_right _ (List.mem_append_right _ (List.mem_append_right _ (List.mem_append_right _ (hh)))))
theorem twp_5_4 : (Jvm.Cond.selects "LadderClubModel" yX12_takesActs yX12_takesActs) ∈ wAll := tm_p (q := (yX12_takesActs, 28)) (have hh : (yX12_takesActs, 28) ∈ lw_privs_5 := List.mem_of_getElem? (i := 4) rfl; show (yX12_takesActs, 28) ∈ lw_privs_1 ++ (lw_privs_2 ++ (lw_privs_3 ++ (lw_privs_4 ++ lw_privs_5))) from List.mem_append_right _ (List.mem_append_right _ (List.mem_append_right _ (List.mem_append_right _ (hh)))))
theorem twp_5_5 : (Jvm.Cond.selects "LadderClubModel" yX12_plainTakes yX12_plainTakes) ∈ wAll := tm_p (q := (yX12_plainTakes, 28)) (have hh : (yX12_plainTakes, 28) ∈ lw_privs_5 := List.mem_of_getElem? (i := 5) rfl; show (yX12_plainTakes, 28) ∈ lw_privs_1 ++ (lw_privs_2 ++ (lw_privs_3 ++ (lw_privs_4 ++ lw_privs_5))) from List.mem_append_right _ (List.mem_append_right _ (List.mem_append_right _ (List.mem_append_right _ (hh)))))
theorem twp_5_6 : (Jvm.Cond.selects "LadderClubModel" yX12_waitsActs yX12_waitsActs) ∈ wAll := tm_p (q := (yX12_waitsActs, 28)) (have hh : (yX12_waitsActs, 28) ∈ lw_privs_5 := List.mem_of_getElem? (i := 6) rfl; show (yX12_waitsActs, 28) ∈ lw_privs_1 ++ (lw_privs_2 ++ (lw_privs_3 ++ (lw_privs_4 ++ lw_privs_5))) from List.mem_append_right _ (List.mem_append_right _ (List.mem_append_right _ (List.mem_append_right _ (hh)))))
theorem twp_5_7 : (Jvm.Cond.selects "LadderClubModel" yX12_plainWaits yX12_plainWaits) ∈ wAll := tm_p (q := (yX12_plainWaits, 28)) (have hh : (yX12_plainWaits, 28) ∈ lw_privs_5 := List.mem_of_getElem? (i := 7) rfl; show (yX12_plainWaits, 28) ∈ lw_privs_1 ++ (lw_privs_2 ++ (lw_privs_3 ++ (lw_privs_4 ++ lw_privs_5))) from List.mem_append_right _ (List.mem_append_right _ (List.mem_append_right _ (List.mem_append_right _ (hh)))))
def nFs : List (String × Nat × String × String × String × String) := [("LadderClub", 276, "LadderClub$Asker", "v", "I", "LadderClub"), ("LadderClub", 57, "LadderClub$Ladder", "names", "I", "LadderClub"), ("LadderClub$Days", 54, "LadderClub$Ladder", "names", "I", "LadderClub"), ("LadderClub", 61, "LadderClub$Ladder", "board", "[I", "LadderClub"), ("LadderClub", 68, "LadderClub$Ladder", "chances", "[[I", "LadderClub"), ("LadderClub$Days", 77, "LadderClub$Ladder", "chances", "[[I", "LadderClub"), ("LadderClub", 143, "LadderClub$Ladder", "today", "I", "LadderClub"), ("LadderClub", 126, "LadderClub$Ladder", "askers", "[LLadderClub$Asker;", "LadderClub"), ("LadderClub", 93, "LadderClub$Ladder", "tape", "[B", "LadderClub"), ("LadderClub", 90, "LadderClub$Ladder", "taped", "I", "LadderClub"), ("LadderClub", 108, "LadderClub$Ladder", "clubs", "[LLadderClub$Club;", "LadderClub"), ("LadderClub", 97, "LadderClub$Ladder", "clubCount", "I", "LadderClub"), ("LadderClub", 204, "LadderClub$Ladder", "row", "[I", "LadderClub"), ("LadderClub", 201, "LadderClub$Ladder", "rowed", "I", "LadderClub"), ("LadderClub", 216, "LadderClub$Ladder", "uppers", "[I", "LadderClub"), ("LadderClub", 219, "LadderClub$Ladder", "lowers", "[I", "LadderClub"), ("LadderClub", 213, "LadderClub$Ladder", "rounds", "I", "LadderClub"), ("LadderClub", 243, "LadderClub$Ladder", "past", "[[I", "LadderClub"), ("LadderClub$Ladder", 87, "LadderClub$Club", "up", "I", "LadderClub")]
def nMs : List (String × Nat × MethodName × String) := [("LadderClub", 31, yX3_init, "LadderClub"), ("LadderClub$Best", 17, yX11_holds, "LadderClub"), ("LadderClub$Far", 11, yX11_holds, "LadderClub"), ("LadderClub$Near", 11, yX11_holds, "LadderClub"), ("LadderClub$Safe", 11, yX11_holds, "LadderClub"), ("LadderClub$Told", 15, yX11_holds, "LadderClub"), ("LadderClub$Asker", 18, yX11_holds, "LadderClub"), ("LadderClub$Club", 24, yX11_swap, "LadderClub"), ("LadderClub$Club", 34, yX11_move, "LadderClub"), ("LadderClub$Ladder", 102, yX11_swap, "LadderClub")]
def nDs : List MethodName := [yX0_v, yX0_asking, yX0_number, yX0_taking, yX0_waiting]
def nRs : List (String × Nat × String × Nat) := [("LadderClub$ClubReader", 58, "uwsb", 0), ("LadderClub$ClubReader", 64, "p ", 1), ("LadderClub$ClubReader", 109, "0123456789", 2), ("LadderClub$ClubReader", 73, "ins ", 3), ("LadderClub$ClubReader", 93, "tco", 4), ("LadderClub$ClubReader", 78, "hy ", 5), ("LadderClub$ClubReader", 101, "abrucd", 6), ("LadderClub$ClubReader", 103, "<=>", 7), ("LadderClub$ClubReader", 87, "old ", 8), ("LadderClubModel", 132, "up ", 9), ("LadderClubModel", 138, "wins ", 10), ("LadderClubModel", 140, "tco", 4), ("LadderClubModel", 142, "shy ", 11), ("LadderClubModel", 118, "abrucd", 6), ("LadderClubModel", 124, "<=>", 7), ("LadderClubModel", 144, "bold ", 12)]
def nST : Nat := 13
def lenST : List Nat := [4, 2, 10, 4, 3, 3, 6, 3, 4, 3, 5, 4, 5]
def bytST : List (List Int32) := [[117, 119, 115, 98], [112, 32], [48, 49, 50, 51, 52, 53, 54, 55, 56, 57], [105, 110, 115, 32], [116, 99, 111], [104, 121, 32], [97, 98, 114, 117, 99, 100], [60, 61, 62], [111, 108, 100, 32], [117, 112, 32], [119, 105, 110, 115, 32], [115, 104, 121, 32], [98, 111, 108, 100, 32]]
