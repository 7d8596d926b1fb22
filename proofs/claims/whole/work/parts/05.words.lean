theorem m0 {w : Cond} (h : w ∈ k2_sels lw_privs) : w ∈ lw_tbl := List.mem_append_left _ h
theorem m1 {w : Cond} (h : w ∈ tables_1_1) : w ∈ lw_tbl := List.mem_append_right _ (show w ∈ tables_1 from List.mem_append_left _ h)
theorem m2 {w : Cond} (h : w ∈ tables_1_2) : w ∈ lw_tbl := List.mem_append_right _ (show w ∈ tables_1 from List.mem_append_right _ (List.mem_append_left _ h))
theorem m3 {w : Cond} (h : w ∈ tables_1_3) : w ∈ lw_tbl := List.mem_append_right _ (show w ∈ tables_1 from List.mem_append_right _ (List.mem_append_right _ (List.mem_append_left _ h)))
theorem m4 {w : Cond} (h : w ∈ tables_1_4) : w ∈ lw_tbl := List.mem_append_right _ (show w ∈ tables_1 from List.mem_append_right _ (List.mem_append_right _ (List.mem_append_right _ (List.mem_append_left _ h))))
theorem m5 {w : Cond} (h : w ∈ tables_1_5) : w ∈ lw_tbl := List.mem_append_right _ (show w ∈ tables_1 from List.mem_append_right _ (List.mem_append_right _ (List.mem_append_right _ (List.mem_append_right _ (List.mem_append_left _ h)))))
theorem m6 {w : Cond} (h : w ∈ tables_1_6) : w ∈ lw_tbl := List.mem_append_right _ (show w ∈ tables_1 from List.mem_append_right _ (List.mem_append_right _ (List.mem_append_right _ (List.mem_append_right _ (List.mem_append_right _ (List.mem_append_left _ h))))))
theorem m7 {w : Cond} (h : w ∈ tables_1_7) : w ∈ lw_tbl := List.mem_append_right _ (show w ∈ tables_1 from List.mem_append_right _ (List.mem_append_right _ (List.mem_append_right _ (List.mem_append_right _ (List.mem_append_right _ (List.mem_append_right _ (h)))))))
theorem u80 : Cond.initialized "SevenSpellsLaw" ∈ T0 := T0_in (m1 (List.mem_of_getElem? (i := 0) rfl)) rfl
theorem u81 : Cond.initialized "SevenSpells" ∈ T0 := T0_in (m1 (List.mem_of_getElem? (i := 1) rfl)) rfl
theorem u82 : Cond.initialized "SevenSpells$Row" ∈ T0 := T0_in (m1 (List.mem_of_getElem? (i := 2) rfl)) rfl
theorem u83 : Cond.initialized "java/lang/Math" ∈ T0 := T0_in (m1 (List.mem_of_getElem? (i := 3) rfl)) rfl
theorem u84 : Cond.initialized "SevenSpells$Told" ∈ T0 := T0_in (m1 (List.mem_of_getElem? (i := 4) rfl)) rfl
theorem u85 : Cond.initialized "SevenSpells$Reader" ∈ T0 := T0_in (m1 (List.mem_of_getElem? (i := 5) rfl)) rfl
theorem u86 : Cond.initialized "SevenSpells$Rules" ∈ T0 := T0_in (m1 (List.mem_of_getElem? (i := 6) rfl)) rfl
theorem u87 : Cond.initialized "SevenSpells$Search" ∈ T0 := T0_in (m1 (List.mem_of_getElem? (i := 7) rfl)) rfl
theorem u88 : Cond.initialized "SevenSpells$Trials" ∈ T0 := T0_in (m1 (List.mem_of_getElem? (i := 8) rfl)) rfl
theorem u89 : Cond.initialized "java/util/Arrays" ∈ T0 := T0_in (m1 (List.mem_of_getElem? (i := 9) rfl)) rfl
theorem u90 : Cond.initialized "SevenSpells$Term" ∈ T0 := T0_in (m1 (List.mem_of_getElem? (i := 10) rfl)) rfl
theorem u91 : Cond.initialized "SevenSpellsModel" ∈ T0 := T0_in (m1 (List.mem_of_getElem? (i := 11) rfl)) rfl
theorem u92 : Cond.initialized "java/lang/System" ∈ T0 := T0_in (m1 (List.mem_of_getElem? (i := 12) rfl)) rfl
theorem u93 : Cond.initialized "java/lang/String" ∈ T0 := T0_in (m1 (List.mem_of_getElem? (i := 13) rfl)) rfl
theorem u94 : Cond.initialized "java/lang/StringLatin1" ∈ T0 := T0_in (m1 (List.mem_of_getElem? (i := 14) rfl)) rfl
theorem u95 : Cond.initialized "jdk/internal/util/Preconditions" ∈ T0 := T0_in (m1 (List.mem_of_getElem? (i := 15) rfl)) rfl
theorem u96 : Cond.initialized "java/lang/StringUTF16" ∈ T0 := T0_in (m1 (List.mem_of_getElem? (i := 16) rfl)) rfl
theorem u97 : Cond.initialized "SevenSpells$State" ∈ T0 := T0_in (m1 (List.mem_of_getElem? (i := 17) rfl)) rfl
theorem u98 : Cond.initialized "SevenSpells$Kind" ∈ T0 := T0_in (m1 (List.mem_of_getElem? (i := 18) rfl)) rfl
theorem u99 : Cond.initialized "java/lang/Integer" ∈ T0 := T0_in (m1 (List.mem_of_getElem? (i := 19) rfl)) rfl
theorem u100 : Cond.classLink "SevenSpellsLaw" 7 "SevenSpells" ∈ T0 := T0_in (m1 (List.mem_of_getElem? (i := 20) rfl)) rfl
theorem u101 : Cond.instantiable "SevenSpells" 14 ∈ T0 := T0_in (m1 (List.mem_of_getElem? (i := 21) rfl)) rfl
theorem u102 : Cond.methodLink "SevenSpellsLaw" 9 ⟨"SevenSpells", "<init>", "()V"⟩ ∈ T0 := T0_in (m1 (List.mem_of_getElem? (i := 22) rfl)) rfl
theorem u103 : Cond.instanceMethod ⟨"SevenSpells", "<init>", "()V"⟩ ∈ T0 := T0_in (m1 (List.mem_of_getElem? (i := 23) rfl)) rfl
theorem u105 : Cond.methodLink "SevenSpells" 1 ⟨"java/lang/Object", "<init>", "()V"⟩ ∈ T0 := T0_in (m1 (List.mem_of_getElem? (i := 25) rfl)) rfl
theorem u106 : Cond.instanceMethod ⟨"java/lang/Object", "<init>", "()V"⟩ ∈ T0 := T0_in (m1 (List.mem_of_getElem? (i := 26) rfl)) rfl
theorem u107 : Cond.code ⟨"java/lang/Object", "<init>", "()V"⟩ object_method_1_code 1 (Option.none : Option Jvm.ClassFile.FieldType) ∈ T0 := T0_in (m1 (List.mem_of_getElem? (i := 27) rfl)) rfl
theorem u108 : Cond.classLink "SevenSpells" 7 "SevenSpells$Row" ∈ T0 := T0_in (m1 (List.mem_of_getElem? (i := 28) rfl)) rfl
theorem u109 : Cond.instantiable "SevenSpells$Row" 2 ∈ T0 := T0_in (m1 (List.mem_of_getElem? (i := 29) rfl)) rfl
theorem u110 : Cond.methodLink "SevenSpells" 11 ⟨"SevenSpells$Row", "<init>", "(I)V"⟩ ∈ T0 := T0_in (m1 (List.mem_of_getElem? (i := 30) rfl)) rfl
theorem u111 : Cond.instanceMethod ⟨"SevenSpells$Row", "<init>", "(I)V"⟩ ∈ T0 := T0_in (m1 (List.mem_of_getElem? (i := 31) rfl)) rfl
theorem u113 : Cond.methodLink "SevenSpells$Row" 3 ⟨"java/lang/Object", "<init>", "()V"⟩ ∈ T0 := T0_in (m1 (List.mem_of_getElem? (i := 33) rfl)) rfl
theorem u114 : Cond.methodLink "SevenSpells$Row" 9 ⟨"java/lang/Math", "max", "(II)I"⟩ ∈ T0 := T0_in (m1 (List.mem_of_getElem? (i := 34) rfl)) rfl
theorem u115 : Cond.static ⟨"java/lang/Math", "max", "(II)I"⟩ ∈ T0 := T0_in (m1 (List.mem_of_getElem? (i := 35) rfl)) rfl
theorem u116 : Cond.code ⟨"java/lang/Math", "max", "(II)I"⟩ prog_15_method_65_code 2 (Option.some .int) ∈ T0 := T0_in (m1 (List.mem_of_getElem? (i := 36) rfl)) rfl
theorem u117 : Cond.fieldLink "SevenSpells$Row" 15 "SevenSpells$Row" "items" "[I" ∈ T0 := T0_in (m1 (List.mem_of_getElem? (i := 37) rfl)) rfl
theorem u118 : Cond.fieldLink "SevenSpells$Row" 21 "SevenSpells$Row" "size" "I" ∈ T0 := T0_in (m1 (List.mem_of_getElem? (i := 38) rfl)) rfl
theorem u124 : Cond.arrayClass .int ∈ T0 := T0_in (m1 (List.mem_of_getElem? (i := 44) rfl)) rfl
theorem u125 : Cond.classLink "SevenSpells" 18 "SevenSpells$Told" ∈ T0 := T0_in (m1 (List.mem_of_getElem? (i := 45) rfl)) rfl
theorem u126 : Cond.instantiable "SevenSpells$Told" 10 ∈ T0 := T0_in (m1 (List.mem_of_getElem? (i := 46) rfl)) rfl
theorem u128 : Cond.instanceMethod ⟨"SevenSpells$Told", "<init>", "()V"⟩ ∈ T0 := T0_in (m1 (List.mem_of_getElem? (i := 48) rfl)) rfl
theorem u130 : Cond.methodLink "SevenSpells$Told" 3 ⟨"java/lang/Object", "<init>", "()V"⟩ ∈ T0 := T0_in (m1 (List.mem_of_getElem? (i := 50) rfl)) rfl
theorem u131 : Cond.fieldLink "SevenSpells$Told" 9 "SevenSpells$Told" "people" "I" ∈ T0 := T0_in (m1 (List.mem_of_getElem? (i := 51) rfl)) rfl
theorem u132 : Cond.fieldLink "SevenSpells$Told" 34 "SevenSpells$Told" "spells" "I" ∈ T0 := T0_in (m1 (List.mem_of_getElem? (i := 52) rfl)) rfl
theorem u133 : Cond.fieldLink "SevenSpells$Told" 37 "SevenSpells$Told" "day" "I" ∈ T0 := T0_in (m1 (List.mem_of_getElem? (i := 53) rfl)) rfl
theorem u134 : Cond.fieldLink "SevenSpells$Told" 40 "SevenSpells$Told" "broken" "I" ∈ T0 := T0_in (m1 (List.mem_of_getElem? (i := 54) rfl)) rfl
theorem u135 : Cond.fieldLink "SevenSpells$Told" 15 "SevenSpells$Told" "kinds" "[I" ∈ T0 := T0_in (m1 (List.mem_of_getElem? (i := 55) rfl)) rfl
theorem u136 : Cond.fieldLink "SevenSpells$Told" 19 "SevenSpells$Told" "targets" "[I" ∈ T0 := T0_in (m1 (List.mem_of_getElem? (i := 56) rfl)) rfl
theorem u137 : Cond.fieldLink "SevenSpells$Told" 22 "SevenSpells$Told" "wakes" "[I" ∈ T0 := T0_in (m1 (List.mem_of_getElem? (i := 57) rfl)) rfl
theorem u138 : Cond.fieldLink "SevenSpells$Told" 25 "SevenSpells$Told" "terms" "[I" ∈ T0 := T0_in (m1 (List.mem_of_getElem? (i := 58) rfl)) rfl
theorem u139 : Cond.fieldLink "SevenSpells$Told" 28 "SevenSpells$Told" "sorts" "[I" ∈ T0 := T0_in (m1 (List.mem_of_getElem? (i := 59) rfl)) rfl
theorem u140 : Cond.fieldLink "SevenSpells$Told" 31 "SevenSpells$Told" "numbers" "[I" ∈ T0 := T0_in (m1 (List.mem_of_getElem? (i := 60) rfl)) rfl
theorem u162 : Cond.classLink "SevenSpells" 25 "SevenSpells$Reader" ∈ T0 := T0_in (m1 (List.mem_of_getElem? (i := 82) rfl)) rfl
theorem u163 : Cond.instantiable "SevenSpells$Reader" 6 ∈ T0 := T0_in (m1 (List.mem_of_getElem? (i := 83) rfl)) rfl
theorem u164 : Cond.methodLink "SevenSpells" 27 ⟨"SevenSpells$Reader", "<init>", "(LSevenSpells$Row;)V"⟩ ∈ T0 := T0_in (m1 (List.mem_of_getElem? (i := 84) rfl)) rfl
theorem u165 : Cond.instanceMethod ⟨"SevenSpells$Reader", "<init>", "(LSevenSpells$Row;)V"⟩ ∈ T0 := T0_in (m1 (List.mem_of_getElem? (i := 85) rfl)) rfl
theorem u167 : Cond.methodLink "SevenSpells$Reader" 3 ⟨"java/lang/Object", "<init>", "()V"⟩ ∈ T0 := T0_in (m1 (List.mem_of_getElem? (i := 87) rfl)) rfl
theorem u168 : Cond.classLink "SevenSpells$Reader" 9 "SevenSpells$Row" ∈ T0 := T0_in (m1 (List.mem_of_getElem? (i := 88) rfl)) rfl
theorem u169 : Cond.methodLink "SevenSpells$Reader" 11 ⟨"SevenSpells$Row", "<init>", "(I)V"⟩ ∈ T0 := T0_in (m1 (List.mem_of_getElem? (i := 89) rfl)) rfl
theorem u170 : Cond.classLink "SevenSpells$Reader" 23 "SevenSpells$Told" ∈ T0 := T0_in (m1 (List.mem_of_getElem? (i := 90) rfl)) rfl
theorem u172 : Cond.fieldLink "SevenSpells$Reader" 30 "SevenSpells$Reader" "text" "LSevenSpells$Row;" ∈ T0 := T0_in (m1 (List.mem_of_getElem? (i := 92) rfl)) rfl
theorem u173 : Cond.fieldLink "SevenSpells$Reader" 14 "SevenSpells$Reader" "codes" "LSevenSpells$Row;" ∈ T0 := T0_in (m1 (List.mem_of_getElem? (i := 93) rfl)) rfl
theorem u174 : Cond.fieldLink "SevenSpells$Reader" 20 "SevenSpells$Reader" "places" "LSevenSpells$Row;" ∈ T0 := T0_in (m1 (List.mem_of_getElem? (i := 94) rfl)) rfl
theorem u175 : Cond.fieldLink "SevenSpells$Reader" 26 "SevenSpells$Reader" "draft" "LSevenSpells$Told;" ∈ T0 := T0_in (m1 (List.mem_of_getElem? (i := 95) rfl)) rfl
theorem u176 : Cond.fieldLink "SevenSpells$Reader" 44 "SevenSpells$Reader" "at" "I" ∈ T0 := T0_in (m1 (List.mem_of_getElem? (i := 96) rfl)) rfl
theorem u177 : Cond.fieldLink "SevenSpells$Reader" 33 "SevenSpells$Reader" "lines" "I" ∈ T0 := T0_in (m1 (List.mem_of_getElem? (i := 97) rfl)) rfl
theorem u191 : Cond.classLink "SevenSpells" 34 "SevenSpells$Rules" ∈ T0 := T0_in (m1 (List.mem_of_getElem? (i := 111) rfl)) rfl
theorem u192 : Cond.instantiable "SevenSpells$Rules" 16 ∈ T0 := T0_in (m1 (List.mem_of_getElem? (i := 112) rfl)) rfl
theorem u194 : Cond.instanceMethod ⟨"SevenSpells$Rules", "<init>", "()V"⟩ ∈ T0 := T0_in (m1 (List.mem_of_getElem? (i := 114) rfl)) rfl
theorem u196 : Cond.methodLink "SevenSpells$Rules" 3 ⟨"java/lang/Object", "<init>", "()V"⟩ ∈ T0 := T0_in (m1 (List.mem_of_getElem? (i := 116) rfl)) rfl
theorem u197 : Cond.fieldLink "SevenSpells$Rules" 61 "SevenSpells$Rules" "people" "I" ∈ T0 := T0_in (m1 (List.mem_of_getElem? (i := 117) rfl)) rfl
theorem u198 : Cond.fieldLink "SevenSpells$Rules" 73 "SevenSpells$Rules" "spells" "I" ∈ T0 := T0_in (m1 (List.mem_of_getElem? (i := 118) rfl)) rfl
theorem u199 : Cond.fieldLink "SevenSpells$Rules" 137 "SevenSpells$Rules" "deedCount" "I" ∈ T0 := T0_in (m1 (List.mem_of_getElem? (i := 119) rfl)) rfl
theorem u200 : Cond.fieldLink "SevenSpells$Rules" 9 "SevenSpells$Rules" "masks" "[I" ∈ T0 := T0_in (m1 (List.mem_of_getElem? (i := 120) rfl)) rfl
theorem u201 : Cond.fieldLink "SevenSpells$Rules" 15 "SevenSpells$Rules" "values" "[I" ∈ T0 := T0_in (m1 (List.mem_of_getElem? (i := 121) rfl)) rfl
theorem u202 : Cond.fieldLink "SevenSpells$Rules" 18 "SevenSpells$Rules" "askings" "[I" ∈ T0 := T0_in (m1 (List.mem_of_getElem? (i := 122) rfl)) rfl
theorem u203 : Cond.fieldLink "SevenSpells$Rules" 21 "SevenSpells$Rules" "kissesNeeded" "[I" ∈ T0 := T0_in (m1 (List.mem_of_getElem? (i := 123) rfl)) rfl
theorem u204 : Cond.fieldLink "SevenSpells$Rules" 24 "SevenSpells$Rules" "wakings" "[I" ∈ T0 := T0_in (m1 (List.mem_of_getElem? (i := 124) rfl)) rfl
theorem u205 : Cond.fieldLink "SevenSpells$Rules" 27 "SevenSpells$Rules" "binders" "[I" ∈ T0 := T0_in (m1 (List.mem_of_getElem? (i := 125) rfl)) rfl
theorem u206 : Cond.fieldLink "SevenSpells$Rules" 32 "SevenSpells$Rules" "curses" "[I" ∈ T0 := T0_in (m1 (List.mem_of_getElem? (i := 126) rfl)) rfl
theorem u207 : Cond.fieldLink "SevenSpells$Rules" 37 "SevenSpells$Rules" "doers" "[I" ∈ T0 := T0_in (m1 (List.mem_of_getElem? (i := 127) rfl)) rfl
theorem u208 : Cond.fieldLink "SevenSpells$Rules" 40 "SevenSpells$Rules" "sorts" "[I" ∈ T0 := T0_in (m1 (List.mem_of_getElem? (i := 128) rfl)) rfl
theorem u209 : Cond.fieldLink "SevenSpells$Rules" 43 "SevenSpells$Rules" "whichs" "[I" ∈ T0 := T0_in (m1 (List.mem_of_getElem? (i := 129) rfl)) rfl
theorem u210 : Cond.fieldLink "SevenSpells$Rules" 46 "SevenSpells$Rules" "bars" "[I" ∈ T0 := T0_in (m1 (List.mem_of_getElem? (i := 130) rfl)) rfl
theorem u211 : Cond.fieldLink "SevenSpells$Rules" 49 "SevenSpells$Rules" "bits" "[I" ∈ T0 := T0_in (m1 (List.mem_of_getElem? (i := 131) rfl)) rfl
theorem u212 : Cond.fieldLink "SevenSpells$Rules" 52 "SevenSpells$Rules" "kisses" "[I" ∈ T0 := T0_in (m1 (List.mem_of_getElem? (i := 132) rfl)) rfl
theorem u246 : Cond.classLink "SevenSpells" 41 "SevenSpells$Search" ∈ T0 := T0_in (m1 (List.mem_of_getElem? (i := 166) rfl)) rfl
theorem u247 : Cond.instantiable "SevenSpells$Search" 9 ∈ T0 := T0_in (m1 (List.mem_of_getElem? (i := 167) rfl)) rfl
theorem u248 : Cond.methodLink "SevenSpells" 43 ⟨"SevenSpells$Search", "<init>", "(LSevenSpells$Rules;)V"⟩ ∈ T0 := T0_in (m1 (List.mem_of_getElem? (i := 168) rfl)) rfl
theorem u249 : Cond.instanceMethod ⟨"SevenSpells$Search", "<init>", "(LSevenSpells$Rules;)V"⟩ ∈ T0 := T0_in (m1 (List.mem_of_getElem? (i := 169) rfl)) rfl
theorem u251 : Cond.methodLink "SevenSpells$Search" 3 ⟨"java/lang/Object", "<init>", "()V"⟩ ∈ T0 := T0_in (m1 (List.mem_of_getElem? (i := 171) rfl)) rfl
theorem u252 : Cond.fieldLink "SevenSpells$Search" 24 "SevenSpells$Search" "rules" "LSevenSpells$Rules;" ∈ T0 := T0_in (m1 (List.mem_of_getElem? (i := 172) rfl)) rfl
theorem u253 : Cond.fieldLink "SevenSpells$Search" 11 "SevenSpells$Search" "seen" "[J" ∈ T0 := T0_in (m1 (List.mem_of_getElem? (i := 173) rfl)) rfl
theorem u254 : Cond.fieldLink "SevenSpells$Search" 17 "SevenSpells$Search" "found" "[J" ∈ T0 := T0_in (m1 (List.mem_of_getElem? (i := 174) rfl)) rfl
theorem u255 : Cond.fieldLink "SevenSpells$Search" 50 "SevenSpells$Search" "size" "I" ∈ T0 := T0_in (m1 (List.mem_of_getElem? (i := 175) rfl)) rfl
theorem u256 : Cond.fieldLink "SevenSpells$Search" 53 "SevenSpells$Search" "opened" "I" ∈ T0 := T0_in (m1 (List.mem_of_getElem? (i := 176) rfl)) rfl
theorem u257 : Cond.fieldLink "SevenSpells$Search" 20 "SevenSpells$Search" "start" "I" ∈ T0 := T0_in (m1 (List.mem_of_getElem? (i := 177) rfl)) rfl
theorem u258 : Cond.fieldLink "SevenSpells$Search" 28 "SevenSpells$Search" "doers" "I" ∈ T0 := T0_in (m1 (List.mem_of_getElem? (i := 178) rfl)) rfl
theorem u259 : Cond.fieldLink "SevenSpells$Search" 31 "SevenSpells$Search" "unlifted" "I" ∈ T0 := T0_in (m1 (List.mem_of_getElem? (i := 179) rfl)) rfl
theorem u260 : Cond.fieldLink "SevenSpells$Search" 60 "SevenSpells$Search" "deedsAllowed" "I" ∈ T0 := T0_in (m1 (List.mem_of_getElem? (i := 180) rfl)) rfl
theorem u280 : Cond.arrayClass .long ∈ T0 := T0_in (m1 (List.mem_of_getElem? (i := 200) rfl)) rfl
theorem u281 : Cond.classLink "SevenSpells" 53 "SevenSpells$Trials" ∈ T0 := T0_in (m1 (List.mem_of_getElem? (i := 201) rfl)) rfl
theorem u282 : Cond.instantiable "SevenSpells$Trials" 4 ∈ T0 := T0_in (m1 (List.mem_of_getElem? (i := 202) rfl)) rfl
theorem u284 : Cond.instanceMethod ⟨"SevenSpells$Trials", "<init>", "()V"⟩ ∈ T0 := T0_in (m1 (List.mem_of_getElem? (i := 204) rfl)) rfl
theorem u286 : Cond.methodLink "SevenSpells$Trials" 5 ⟨"java/lang/Object", "<init>", "()V"⟩ ∈ T0 := T0_in (m1 (List.mem_of_getElem? (i := 206) rfl)) rfl
theorem u287 : Cond.classLink "SevenSpells$Trials" 11 "SevenSpells$Row" ∈ T0 := T0_in (m1 (List.mem_of_getElem? (i := 207) rfl)) rfl
theorem u288 : Cond.methodLink "SevenSpells$Trials" 13 ⟨"SevenSpells$Row", "<init>", "(I)V"⟩ ∈ T0 := T0_in (m1 (List.mem_of_getElem? (i := 208) rfl)) rfl
theorem u289 : Cond.fieldLink "SevenSpells$Trials" 16 "SevenSpells$Trials" "trials" "LSevenSpells$Row;" ∈ T0 := T0_in (m1 (List.mem_of_getElem? (i := 209) rfl)) rfl
theorem u290 : Cond.fieldLink "SevenSpells$Trials" 28 "SevenSpells$Trials" "lifted" "I" ∈ T0 := T0_in (m1 (List.mem_of_getElem? (i := 210) rfl)) rfl
theorem u291 : Cond.fieldLink "SevenSpells$Trials" 20 "SevenSpells$Trials" "so" "[I" ∈ T0 := T0_in (m1 (List.mem_of_getElem? (i := 211) rfl)) rfl
theorem u292 : Cond.fieldLink "SevenSpells$Trials" 39 "SevenSpells$Trials" "people" "I" ∈ T0 := T0_in (m1 (List.mem_of_getElem? (i := 212) rfl)) rfl
theorem u302 : Cond.methodLink "SevenSpells" 76 ⟨"SevenSpells", "beginAsTold", "()V"⟩ ∈ T0 := T0_in (m1 (List.mem_of_getElem? (i := 222) rfl)) rfl
theorem u304 : Cond.instanceMethod ⟨"SevenSpells", "beginAsTold", "()V"⟩ ∈ T0 := T0_in (m1 (List.mem_of_getElem? (i := 224) rfl)) rfl
theorem u306 : Cond.methodLink "SevenSpells" 105 ⟨"SevenSpells$Rules", "learn", "(LSevenSpells$Told;)V"⟩ ∈ T0 := T0_in (m1 (List.mem_of_getElem? (i := 226) rfl)) rfl
theorem u307 : Cond.instanceMethod ⟨"SevenSpells$Rules", "learn", "(LSevenSpells$Told;)V"⟩ ∈ T0 := T0_in (m1 (List.mem_of_getElem? (i := 227) rfl)) rfl
theorem u310 : Cond.methodLink "SevenSpells$Rules" 55 ⟨"SevenSpells$Told", "people", "()I"⟩ ∈ T0 := T0_in (m1 (List.mem_of_getElem? (i := 230) rfl)) rfl
theorem u311 : Cond.instanceMethod ⟨"SevenSpells$Told", "people", "()I"⟩ ∈ T0 := T0_in (m1 (List.mem_of_getElem? (i := 231) rfl)) rfl
theorem u314 : Cond.methodLink "SevenSpells$Rules" 64 ⟨"SevenSpells$Told", "spells", "()I"⟩ ∈ T0 := T0_in (m1 (List.mem_of_getElem? (i := 234) rfl)) rfl
theorem u315 : Cond.instanceMethod ⟨"SevenSpells$Told", "spells", "()I"⟩ ∈ T0 := T0_in (m1 (List.mem_of_getElem? (i := 235) rfl)) rfl
theorem u318 : Cond.methodLink "SevenSpells$Rules" 67 ⟨"java/lang/Math", "min", "(II)I"⟩ ∈ T0 := T0_in (m1 (List.mem_of_getElem? (i := 238) rfl)) rfl
theorem u319 : Cond.static ⟨"java/lang/Math", "min", "(II)I"⟩ ∈ T0 := T0_in (m1 (List.mem_of_getElem? (i := 239) rfl)) rfl
theorem u320 : Cond.code ⟨"java/lang/Math", "min", "(II)I"⟩ prog_15_method_69_code 2 (Option.some .int) ∈ T0 := T0_in (m2 (List.mem_of_getElem? (i := 0) rfl)) rfl
theorem u321 : Cond.methodLink "SevenSpells$Rules" 75 ⟨"SevenSpells$Rules", "learnTargets", "(LSevenSpells$Told;)V"⟩ ∈ T0 := T0_in (m2 (List.mem_of_getElem? (i := 1) rfl)) rfl
theorem u323 : Cond.instanceMethod ⟨"SevenSpells$Rules", "learnTargets", "(LSevenSpells$Told;)V"⟩ ∈ T0 := T0_in (m2 (List.mem_of_getElem? (i := 3) rfl)) rfl
theorem u325 : Cond.methodLink "SevenSpells$Rules" 86 ⟨"java/util/Arrays", "fill", "([II)V"⟩ ∈ T0 := T0_in (m2 (List.mem_of_getElem? (i := 5) rfl)) rfl
theorem u326 : Cond.static ⟨"java/util/Arrays", "fill", "([II)V"⟩ ∈ T0 := T0_in (m2 (List.mem_of_getElem? (i := 6) rfl)) rfl
theorem u327 : Cond.code ⟨"java/util/Arrays", "fill", "([II)V"⟩ prog_20_method_103_code 4 (Option.none : Option Jvm.ClassFile.FieldType) ∈ T0 := T0_in (m2 (List.mem_of_getElem? (i := 7) rfl)) rfl
theorem u328 : Cond.methodLink "SevenSpells$Rules" 92 ⟨"SevenSpells$Told", "kindOf", "(I)I"⟩ ∈ T0 := T0_in (m2 (List.mem_of_getElem? (i := 8) rfl)) rfl
theorem u329 : Cond.instanceMethod ⟨"SevenSpells$Told", "kindOf", "(I)I"⟩ ∈ T0 := T0_in (m2 (List.mem_of_getElem? (i := 9) rfl)) rfl
theorem u332 : Cond.methodLink "SevenSpells$Told" 53 ⟨"SevenSpells$Told", "hasSpell", "(I)Z"⟩ ∈ T0 := T0_in (m2 (List.mem_of_getElem? (i := 12) rfl)) rfl
theorem u333 : Cond.instanceMethod ⟨"SevenSpells$Told", "hasSpell", "(I)Z"⟩ ∈ T0 := T0_in (m2 (List.mem_of_getElem? (i := 13) rfl)) rfl
theorem u336 : Cond.methodLink "SevenSpells$Rules" 96 ⟨"SevenSpells$Told", "targetOf", "(I)I"⟩ ∈ T0 := T0_in (m2 (List.mem_of_getElem? (i := 16) rfl)) rfl
theorem u337 : Cond.instanceMethod ⟨"SevenSpells$Told", "targetOf", "(I)I"⟩ ∈ T0 := T0_in (m2 (List.mem_of_getElem? (i := 17) rfl)) rfl
theorem u340 : Cond.methodLink "SevenSpells$Rules" 99 ⟨"SevenSpells$Rules", "isCurse", "(II)Z"⟩ ∈ T0 := T0_in (m2 (List.mem_of_getElem? (i := 20) rfl)) rfl
theorem u341 : Cond.static ⟨"SevenSpells$Rules", "isCurse", "(II)Z"⟩ ∈ T0 := T0_in (m2 (List.mem_of_getElem? (i := 21) rfl)) rfl
theorem u343 : Cond.methodLink "SevenSpells$Rules" 79 ⟨"SevenSpells$Rules", "learnSpell", "(LSevenSpells$Told;I)V"⟩ ∈ T0 := T0_in (m2 (List.mem_of_getElem? (i := 23) rfl)) rfl
theorem u345 : Cond.instanceMethod ⟨"SevenSpells$Rules", "learnSpell", "(LSevenSpells$Told;I)V"⟩ ∈ T0 := T0_in (m2 (List.mem_of_getElem? (i := 25) rfl)) rfl
theorem u347 : Cond.methodLink "SevenSpells$Rules" 103 ⟨"SevenSpells$Told", "wakenedBy", "(I)I"⟩ ∈ T0 := T0_in (m2 (List.mem_of_getElem? (i := 27) rfl)) rfl
theorem u348 : Cond.instanceMethod ⟨"SevenSpells$Told", "wakenedBy", "(I)I"⟩ ∈ T0 := T0_in (m2 (List.mem_of_getElem? (i := 28) rfl)) rfl
theorem u351 : Cond.methodLink "SevenSpells$Rules" 106 ⟨"SevenSpells$Told", "termsOf", "(I)I"⟩ ∈ T0 := T0_in (m2 (List.mem_of_getElem? (i := 31) rfl)) rfl
theorem u352 : Cond.instanceMethod ⟨"SevenSpells$Told", "termsOf", "(I)I"⟩ ∈ T0 := T0_in (m2 (List.mem_of_getElem? (i := 32) rfl)) rfl
theorem u355 : Cond.methodLink "SevenSpells$Rules" 109 ⟨"SevenSpells$Told", "sortOf", "(II)I"⟩ ∈ T0 := T0_in (m2 (List.mem_of_getElem? (i := 35) rfl)) rfl
theorem u356 : Cond.instanceMethod ⟨"SevenSpells$Told", "sortOf", "(II)I"⟩ ∈ T0 := T0_in (m2 (List.mem_of_getElem? (i := 36) rfl)) rfl
theorem u359 : Cond.methodLink "SevenSpells$Told" 57 ⟨"SevenSpells$Told", "hasTerm", "(II)Z"⟩ ∈ T0 := T0_in (m2 (List.mem_of_getElem? (i := 39) rfl)) rfl
theorem u361 : Cond.instanceMethod ⟨"SevenSpells$Told", "hasTerm", "(II)Z"⟩ ∈ T0 := T0_in (m2 (List.mem_of_getElem? (i := 41) rfl)) rfl
theorem u363 : Cond.methodLink "SevenSpells$Rules" 112 ⟨"SevenSpells$Told", "numberOf", "(II)I"⟩ ∈ T0 := T0_in (m2 (List.mem_of_getElem? (i := 43) rfl)) rfl
theorem u364 : Cond.instanceMethod ⟨"SevenSpells$Told", "numberOf", "(II)I"⟩ ∈ T0 := T0_in (m2 (List.mem_of_getElem? (i := 44) rfl)) rfl
theorem u367 : Cond.methodLink "SevenSpells$Rules" 115 ⟨"SevenSpells$Rules", "kissOf", "(II)I"⟩ ∈ T0 := T0_in (m2 (List.mem_of_getElem? (i := 47) rfl)) rfl
theorem u368 : Cond.static ⟨"SevenSpells$Rules", "kissOf", "(II)I"⟩ ∈ T0 := T0_in (m2 (List.mem_of_getElem? (i := 48) rfl)) rfl
theorem u370 : Cond.methodLink "SevenSpells$Rules" 118 ⟨"SevenSpells$Rules", "needKiss", "(II)V"⟩ ∈ T0 := T0_in (m2 (List.mem_of_getElem? (i := 50) rfl)) rfl
theorem u372 : Cond.instanceMethod ⟨"SevenSpells$Rules", "needKiss", "(II)V"⟩ ∈ T0 := T0_in (m2 (List.mem_of_getElem? (i := 52) rfl)) rfl
theorem u374 : Cond.methodLink "SevenSpells$Rules" 124 ⟨"java/lang/Math", "max", "(II)I"⟩ ∈ T0 := T0_in (m2 (List.mem_of_getElem? (i := 54) rfl)) rfl
theorem u375 : Cond.methodLink "SevenSpells$Rules" 127 ⟨"SevenSpells$Term", "maskOf", "(II)I"⟩ ∈ T0 := T0_in (m2 (List.mem_of_getElem? (i := 55) rfl)) rfl
theorem u376 : Cond.static ⟨"SevenSpells$Term", "maskOf", "(II)I"⟩ ∈ T0 := T0_in (m2 (List.mem_of_getElem? (i := 56) rfl)) rfl
theorem u378 : Cond.constant "SevenSpells$Term" 22 (57344 : Int32) ∈ T0 := T0_in (m2 (List.mem_of_getElem? (i := 58) rfl)) rfl
theorem u379 : Cond.methodLink "SevenSpells$Rules" 130 ⟨"SevenSpells$Term", "valueOf", "(II)I"⟩ ∈ T0 := T0_in (m2 (List.mem_of_getElem? (i := 59) rfl)) rfl
theorem u380 : Cond.static ⟨"SevenSpells$Term", "valueOf", "(II)I"⟩ ∈ T0 := T0_in (m2 (List.mem_of_getElem? (i := 60) rfl)) rfl
theorem u382 : Cond.methodLink "SevenSpells$Term" 15 ⟨"SevenSpells$Term", "maskOf", "(II)I"⟩ ∈ T0 := T0_in (m2 (List.mem_of_getElem? (i := 62) rfl)) rfl
theorem u383 : Cond.methodLink "SevenSpells$Rules" 133 ⟨"SevenSpells$Rules", "needBits", "(III)V"⟩ ∈ T0 := T0_in (m2 (List.mem_of_getElem? (i := 63) rfl)) rfl
theorem u385 : Cond.instanceMethod ⟨"SevenSpells$Rules", "needBits", "(III)V"⟩ ∈ T0 := T0_in (m2 (List.mem_of_getElem? (i := 65) rfl)) rfl
theorem u387 : Cond.methodLink "SevenSpells$Rules" 83 ⟨"SevenSpells$Rules", "learnDeeds", "()V"⟩ ∈ T0 := T0_in (m2 (List.mem_of_getElem? (i := 67) rfl)) rfl
theorem u389 : Cond.instanceMethod ⟨"SevenSpells$Rules", "learnDeeds", "()V"⟩ ∈ T0 := T0_in (m2 (List.mem_of_getElem? (i := 69) rfl)) rfl
theorem u391 : Cond.methodLink "SevenSpells$Rules" 140 ⟨"SevenSpells$Rules", "cursesOn", "(II)I"⟩ ∈ T0 := T0_in (m2 (List.mem_of_getElem? (i := 71) rfl)) rfl
theorem u392 : Cond.instanceMethod ⟨"SevenSpells$Rules", "cursesOn", "(II)I"⟩ ∈ T0 := T0_in (m2 (List.mem_of_getElem? (i := 72) rfl)) rfl
theorem u395 : Cond.methodLink "SevenSpells$Rules" 143 ⟨"SevenSpells$Rules", "addDeed", "(IIIII)V"⟩ ∈ T0 := T0_in (m2 (List.mem_of_getElem? (i := 75) rfl)) rfl
theorem u397 : Cond.instanceMethod ⟨"SevenSpells$Rules", "addDeed", "(IIIII)V"⟩ ∈ T0 := T0_in (m2 (List.mem_of_getElem? (i := 77) rfl)) rfl
theorem u399 : Cond.methodLink "SevenSpells" 108 ⟨"SevenSpells$Search", "stale", "()V"⟩ ∈ T0 := T0_in (m2 (List.mem_of_getElem? (i := 79) rfl)) rfl
theorem u400 : Cond.instanceMethod ⟨"SevenSpells$Search", "stale", "()V"⟩ ∈ T0 := T0_in (m2 (List.mem_of_getElem? (i := 80) rfl)) rfl
theorem u403 : Cond.methodLink "SevenSpells" 111 ⟨"SevenSpells$Told", "firstState", "()I"⟩ ∈ T0 := T0_in (m2 (List.mem_of_getElem? (i := 83) rfl)) rfl
theorem u404 : Cond.instanceMethod ⟨"SevenSpells$Told", "firstState", "()I"⟩ ∈ T0 := T0_in (m2 (List.mem_of_getElem? (i := 84) rfl)) rfl
theorem u407 : Cond.methodLink "SevenSpells" 87 ⟨"SevenSpells$Row", "empty", "()I"⟩ ∈ T0 := T0_in (m2 (List.mem_of_getElem? (i := 87) rfl)) rfl
theorem u408 : Cond.instanceMethod ⟨"SevenSpells$Row", "empty", "()I"⟩ ∈ T0 := T0_in (m2 (List.mem_of_getElem? (i := 88) rfl)) rfl
theorem u411 : Cond.methodLink "SevenSpells" 121 ⟨"java/util/Arrays", "fill", "([II)V"⟩ ∈ T0 := T0_in (m2 (List.mem_of_getElem? (i := 91) rfl)) rfl
theorem u412 : Cond.methodLink "SevenSpells" 127 ⟨"SevenSpells$Trials", "empty", "()I"⟩ ∈ T0 := T0_in (m2 (List.mem_of_getElem? (i := 92) rfl)) rfl
theorem u413 : Cond.instanceMethod ⟨"SevenSpells$Trials", "empty", "()I"⟩ ∈ T0 := T0_in (m2 (List.mem_of_getElem? (i := 93) rfl)) rfl
theorem u416 : Cond.methodLink "SevenSpells$Trials" 36 ⟨"SevenSpells$Row", "empty", "()I"⟩ ∈ T0 := T0_in (m2 (List.mem_of_getElem? (i := 96) rfl)) rfl
theorem u417 : Cond.fieldLink "SevenSpells" 14 "SevenSpells" "text" "LSevenSpells$Row;" ∈ T0 := T0_in (m2 (List.mem_of_getElem? (i := 97) rfl)) rfl
theorem u418 : Cond.fieldLink "SevenSpells" 21 "SevenSpells" "told" "LSevenSpells$Told;" ∈ T0 := T0_in (m2 (List.mem_of_getElem? (i := 98) rfl)) rfl
theorem u419 : Cond.fieldLink "SevenSpells" 30 "SevenSpells" "reader" "LSevenSpells$Reader;" ∈ T0 := T0_in (m2 (List.mem_of_getElem? (i := 99) rfl)) rfl
theorem u420 : Cond.fieldLink "SevenSpells" 37 "SevenSpells" "rules" "LSevenSpells$Rules;" ∈ T0 := T0_in (m2 (List.mem_of_getElem? (i := 100) rfl)) rfl
theorem u421 : Cond.fieldLink "SevenSpells" 46 "SevenSpells" "fromNow" "LSevenSpells$Search;" ∈ T0 := T0_in (m2 (List.mem_of_getElem? (i := 101) rfl)) rfl
theorem u422 : Cond.fieldLink "SevenSpells" 50 "SevenSpells" "whatIf" "LSevenSpells$Search;" ∈ T0 := T0_in (m2 (List.mem_of_getElem? (i := 102) rfl)) rfl
theorem u423 : Cond.fieldLink "SevenSpells" 56 "SevenSpells" "trials" "LSevenSpells$Trials;" ∈ T0 := T0_in (m2 (List.mem_of_getElem? (i := 103) rfl)) rfl
theorem u424 : Cond.fieldLink "SevenSpells" 60 "SevenSpells" "undoable" "LSevenSpells$Row;" ∈ T0 := T0_in (m2 (List.mem_of_getElem? (i := 104) rfl)) rfl
theorem u425 : Cond.fieldLink "SevenSpells" 63 "SevenSpells" "keptStates" "[I" ∈ T0 := T0_in (m2 (List.mem_of_getElem? (i := 105) rfl)) rfl
theorem u426 : Cond.fieldLink "SevenSpells" 67 "SevenSpells" "keptDeeds" "[I" ∈ T0 := T0_in (m2 (List.mem_of_getElem? (i := 106) rfl)) rfl
theorem u427 : Cond.fieldLink "SevenSpells" 70 "SevenSpells" "row" "LSevenSpells$Row;" ∈ T0 := T0_in (m2 (List.mem_of_getElem? (i := 107) rfl)) rfl
theorem u428 : Cond.fieldLink "SevenSpells" 73 "SevenSpells" "princes" "LSevenSpells$Row;" ∈ T0 := T0_in (m2 (List.mem_of_getElem? (i := 108) rfl)) rfl
theorem u429 : Cond.fieldLink "SevenSpells" 114 "SevenSpells" "state" "I" ∈ T0 := T0_in (m2 (List.mem_of_getElem? (i := 109) rfl)) rfl
theorem u430 : Cond.fieldLink "SevenSpells" 118 "SevenSpells" "deeds" "I" ∈ T0 := T0_in (m2 (List.mem_of_getElem? (i := 110) rfl)) rfl
theorem u460 : Cond.methodLink "SevenSpellsLaw" 13 ⟨"SevenSpells", "write", "(I)I"⟩ ∈ T0 := T0_in (m2 (List.mem_of_getElem? (i := 140) rfl)) rfl
theorem u461 : Cond.instanceMethod ⟨"SevenSpells", "write", "(I)I"⟩ ∈ T0 := T0_in (m2 (List.mem_of_getElem? (i := 141) rfl)) rfl
theorem u464 : Cond.methodLink "SevenSpells" 79 ⟨"SevenSpells$Row", "add", "(I)Z"⟩ ∈ T0 := T0_in (m2 (List.mem_of_getElem? (i := 144) rfl)) rfl
theorem u465 : Cond.instanceMethod ⟨"SevenSpells$Row", "add", "(I)Z"⟩ ∈ T0 := T0_in (m2 (List.mem_of_getElem? (i := 145) rfl)) rfl
theorem u468 : Cond.methodLink "SevenSpells" 83 ⟨"SevenSpells$Row", "size", "()I"⟩ ∈ T0 := T0_in (m2 (List.mem_of_getElem? (i := 148) rfl)) rfl
theorem u469 : Cond.instanceMethod ⟨"SevenSpells$Row", "size", "()I"⟩ ∈ T0 := T0_in (m2 (List.mem_of_getElem? (i := 149) rfl)) rfl
theorem u472 : Cond.methodLink "SevenSpellsLaw" 18 ⟨"SevenSpells", "erase", "()I"⟩ ∈ T0 := T0_in (m2 (List.mem_of_getElem? (i := 152) rfl)) rfl
theorem u473 : Cond.instanceMethod ⟨"SevenSpells", "erase", "()I"⟩ ∈ T0 := T0_in (m2 (List.mem_of_getElem? (i := 153) rfl)) rfl
theorem u476 : Cond.methodLink "SevenSpellsLaw" 23 ⟨"SevenSpells", "fault", "()I"⟩ ∈ T0 := T0_in (m2 (List.mem_of_getElem? (i := 156) rfl)) rfl
theorem u477 : Cond.instanceMethod ⟨"SevenSpells", "fault", "()I"⟩ ∈ T0 := T0_in (m2 (List.mem_of_getElem? (i := 157) rfl)) rfl
theorem u480 : Cond.methodLink "SevenSpells" 90 ⟨"SevenSpells$Reader", "firstFault", "(LSevenSpells$Told;)I"⟩ ∈ T0 := T0_in (m2 (List.mem_of_getElem? (i := 160) rfl)) rfl
theorem u481 : Cond.instanceMethod ⟨"SevenSpells$Reader", "firstFault", "(LSevenSpells$Told;)I"⟩ ∈ T0 := T0_in (m2 (List.mem_of_getElem? (i := 161) rfl)) rfl
theorem u484 : Cond.methodLink "SevenSpells$Reader" 37 ⟨"SevenSpells$Told", "takeOver", "(LSevenSpells$Told;)V"⟩ ∈ T0 := T0_in (m2 (List.mem_of_getElem? (i := 164) rfl)) rfl
theorem u485 : Cond.instanceMethod ⟨"SevenSpells$Told", "takeOver", "(LSevenSpells$Told;)V"⟩ ∈ T0 := T0_in (m2 (List.mem_of_getElem? (i := 165) rfl)) rfl
theorem u488 : Cond.methodLink "SevenSpells$Told" 43 ⟨"java/lang/System", "arraycopy", "(Ljava/lang/Object;ILjava/lang/Object;II)V"⟩ ∈ T0 := T0_in (m2 (List.mem_of_getElem? (i := 168) rfl)) rfl
theorem u489 : Cond.static ⟨"java/lang/System", "arraycopy", "(Ljava/lang/Object;ILjava/lang/Object;II)V"⟩ ∈ T0 := T0_in (m2 (List.mem_of_getElem? (i := 169) rfl)) rfl
theorem u490 : Cond.native ⟨"java/lang/System", "arraycopy", "(Ljava/lang/Object;ILjava/lang/Object;II)V"⟩ ∈ T0 := T0_in (m2 (List.mem_of_getElem? (i := 170) rfl)) rfl
theorem u491 : Cond.methodLink "SevenSpells$Reader" 41 ⟨"SevenSpells$Reader", "cutIntoTokens", "()V"⟩ ∈ T0 := T0_in (m2 (List.mem_of_getElem? (i := 171) rfl)) rfl
theorem u493 : Cond.instanceMethod ⟨"SevenSpells$Reader", "cutIntoTokens", "()V"⟩ ∈ T0 := T0_in (m2 (List.mem_of_getElem? (i := 173) rfl)) rfl
theorem u495 : Cond.methodLink "SevenSpells$Reader" 58 ⟨"SevenSpells$Row", "empty", "()I"⟩ ∈ T0 := T0_in (m2 (List.mem_of_getElem? (i := 175) rfl)) rfl
theorem u496 : Cond.methodLink "SevenSpells$Reader" 62 ⟨"SevenSpells$Row", "size", "()I"⟩ ∈ T0 := T0_in (m2 (List.mem_of_getElem? (i := 176) rfl)) rfl
theorem u497 : Cond.methodLink "SevenSpells$Reader" 65 ⟨"SevenSpells$Reader", "beginsToken", "(I)Z"⟩ ∈ T0 := T0_in (m2 (List.mem_of_getElem? (i := 177) rfl)) rfl
theorem u499 : Cond.instanceMethod ⟨"SevenSpells$Reader", "beginsToken", "(I)Z"⟩ ∈ T0 := T0_in (m2 (List.mem_of_getElem? (i := 179) rfl)) rfl
theorem u501 : Cond.methodLink "SevenSpells$Reader" 51 ⟨"SevenSpells$Row", "at", "(I)I"⟩ ∈ T0 := T0_in (m2 (List.mem_of_getElem? (i := 181) rfl)) rfl
theorem u502 : Cond.instanceMethod ⟨"SevenSpells$Row", "at", "(I)I"⟩ ∈ T0 := T0_in (m2 (List.mem_of_getElem? (i := 182) rfl)) rfl
theorem u505 : Cond.methodLink "SevenSpells$Reader" 78 ⟨"SevenSpells$Reader", "isSmall", "(I)Z"⟩ ∈ T0 := T0_in (m2 (List.mem_of_getElem? (i := 185) rfl)) rfl
theorem u506 : Cond.static ⟨"SevenSpells$Reader", "isSmall", "(I)Z"⟩ ∈ T0 := T0_in (m2 (List.mem_of_getElem? (i := 186) rfl)) rfl
theorem u508 : Cond.methodLink "SevenSpells$Reader" 81 ⟨"SevenSpells$Reader", "isDigit", "(I)Z"⟩ ∈ T0 := T0_in (m2 (List.mem_of_getElem? (i := 188) rfl)) rfl
theorem u509 : Cond.static ⟨"SevenSpells$Reader", "isDigit", "(I)Z"⟩ ∈ T0 := T0_in (m2 (List.mem_of_getElem? (i := 189) rfl)) rfl
theorem u511 : Cond.methodLink "SevenSpells$Reader" 68 ⟨"SevenSpells$Reader", "endOfToken", "(I)I"⟩ ∈ T0 := T0_in (m2 (List.mem_of_getElem? (i := 191) rfl)) rfl
theorem u513 : Cond.instanceMethod ⟨"SevenSpells$Reader", "endOfToken", "(I)I"⟩ ∈ T0 := T0_in (m2 (List.mem_of_getElem? (i := 193) rfl)) rfl
theorem u515 : Cond.methodLink "SevenSpells$Reader" 71 ⟨"SevenSpells$Reader", "codeOf", "(II)I"⟩ ∈ T0 := T0_in (m2 (List.mem_of_getElem? (i := 195) rfl)) rfl
theorem u517 : Cond.instanceMethod ⟨"SevenSpells$Reader", "codeOf", "(II)I"⟩ ∈ T0 := T0_in (m2 (List.mem_of_getElem? (i := 197) rfl)) rfl
theorem u519 : Cond.methodLink "SevenSpells$Reader" 84 ⟨"SevenSpells$Reader", "wordCode", "(II)I"⟩ ∈ T0 := T0_in (m2 (List.mem_of_getElem? (i := 199) rfl)) rfl
theorem u521 : Cond.instanceMethod ⟨"SevenSpells$Reader", "wordCode", "(II)I"⟩ ∈ T0 := T0_in (m2 (List.mem_of_getElem? (i := 201) rfl)) rfl
theorem u524 : Cond.methodLink "SevenSpells$Reader" 89 ⟨"java/lang/String", "length", "()I"⟩ ∈ T0 := T0_in (m2 (List.mem_of_getElem? (i := 204) rfl)) rfl
theorem u525 : Cond.instanceMethod ⟨"java/lang/String", "length", "()I"⟩ ∈ T0 := T0_in (m2 (List.mem_of_getElem? (i := 205) rfl)) rfl
theorem u527 : Cond.code ⟨"java/lang/String", "length", "()I"⟩ prog_16_method_54_code 1 (Option.some .int) ∈ T0 := T0_in (m2 (List.mem_of_getElem? (i := 207) rfl)) rfl
theorem u528 : Cond.methodLink "java/lang/String" 335 ⟨"java/lang/String", "coder", "()B"⟩ ∈ T0 := T0_in (m2 (List.mem_of_getElem? (i := 208) rfl)) rfl
theorem u529 : Cond.instanceMethod ⟨"java/lang/String", "coder", "()B"⟩ ∈ T0 := T0_in (m2 (List.mem_of_getElem? (i := 209) rfl)) rfl
theorem u531 : Cond.code ⟨"java/lang/String", "coder", "()B"⟩ prog_16_method_152_code 1 (Option.some .byte) ∈ T0 := T0_in (m2 (List.mem_of_getElem? (i := 211) rfl)) rfl
theorem u532 : Cond.fieldLink "java/lang/String" 38 "java/lang/String" "COMPACT_STRINGS" "Z" ∈ T0 := T0_in (m2 (List.mem_of_getElem? (i := 212) rfl)) rfl
theorem u534 : Cond.methodLink "SevenSpells$Reader" 94 ⟨"java/lang/String", "charAt", "(I)C"⟩ ∈ T0 := T0_in (m2 (List.mem_of_getElem? (i := 214) rfl)) rfl
theorem u535 : Cond.instanceMethod ⟨"java/lang/String", "charAt", "(I)C"⟩ ∈ T0 := T0_in (m2 (List.mem_of_getElem? (i := 215) rfl)) rfl
theorem u537 : Cond.code ⟨"java/lang/String", "charAt", "(I)C"⟩ prog_16_method_56_code 2 (Option.some .char) ∈ T0 := T0_in (m2 (List.mem_of_getElem? (i := 217) rfl)) rfl
theorem u538 : Cond.methodLink "java/lang/String" 492 ⟨"java/lang/String", "isLatin1", "()Z"⟩ ∈ T0 := T0_in (m2 (List.mem_of_getElem? (i := 218) rfl)) rfl
theorem u539 : Cond.instanceMethod ⟨"java/lang/String", "isLatin1", "()Z"⟩ ∈ T0 := T0_in (m2 (List.mem_of_getElem? (i := 219) rfl)) rfl
theorem u541 : Cond.code ⟨"java/lang/String", "isLatin1", "()Z"⟩ prog_16_method_154_code 1 (Option.some .boolean) ∈ T0 := T0_in (m2 (List.mem_of_getElem? (i := 221) rfl)) rfl
theorem u542 : Cond.methodLink "java/lang/String" 495 ⟨"java/lang/StringLatin1", "charAt", "([BI)C"⟩ ∈ T0 := T0_in (m2 (List.mem_of_getElem? (i := 222) rfl)) rfl
theorem u543 : Cond.static ⟨"java/lang/StringLatin1", "charAt", "([BI)C"⟩ ∈ T0 := T0_in (m2 (List.mem_of_getElem? (i := 223) rfl)) rfl
theorem u544 : Cond.code ⟨"java/lang/StringLatin1", "charAt", "([BI)C"⟩ prog_17_method_2_code 2 (Option.some .char) ∈ T0 := T0_in (m2 (List.mem_of_getElem? (i := 224) rfl)) rfl
theorem u545 : Cond.methodLink "java/lang/StringLatin1" 9 ⟨"java/lang/String", "checkIndex", "(II)V"⟩ ∈ T0 := T0_in (m2 (List.mem_of_getElem? (i := 225) rfl)) rfl
theorem u546 : Cond.static ⟨"java/lang/String", "checkIndex", "(II)V"⟩ ∈ T0 := T0_in (m2 (List.mem_of_getElem? (i := 226) rfl)) rfl
theorem u547 : Cond.code ⟨"java/lang/String", "checkIndex", "(II)V"⟩ prog_16_method_155_code 2 (Option.none : Option Jvm.ClassFile.FieldType) ∈ T0 := T0_in (m2 (List.mem_of_getElem? (i := 227) rfl)) rfl
theorem u548 : Cond.fieldLink "java/lang/String" 1053 "jdk/internal/util/Preconditions" "SIOOBE_FORMATTER" "Ljava/util/function/BiFunction;" ∈ T0 := T0_in (m2 (List.mem_of_getElem? (i := 228) rfl)) rfl
theorem u550 : Cond.methodLink "java/lang/String" 1059 ⟨"jdk/internal/util/Preconditions", "checkIndex", "(IILjava/util/function/BiFunction;)I"⟩ ∈ T0 := T0_in (m2 (List.mem_of_getElem? (i := 230) rfl)) rfl
theorem u551 : Cond.static ⟨"jdk/internal/util/Preconditions", "checkIndex", "(IILjava/util/function/BiFunction;)I"⟩ ∈ T0 := T0_in (m2 (List.mem_of_getElem? (i := 231) rfl)) rfl
theorem u553 : Cond.methodLink "java/lang/String" 498 ⟨"java/lang/StringUTF16", "charAt", "([BI)C"⟩ ∈ T0 := T0_in (m2 (List.mem_of_getElem? (i := 233) rfl)) rfl
theorem u554 : Cond.static ⟨"java/lang/StringUTF16", "charAt", "([BI)C"⟩ ∈ T0 := T0_in (m2 (List.mem_of_getElem? (i := 234) rfl)) rfl
theorem u555 : Cond.code ⟨"java/lang/StringUTF16", "charAt", "([BI)C"⟩ prog_18_method_83_code 2 (Option.some .char) ∈ T0 := T0_in (m2 (List.mem_of_getElem? (i := 235) rfl)) rfl
theorem u556 : Cond.methodLink "java/lang/StringUTF16" 67 ⟨"java/lang/StringUTF16", "checkIndex", "(I[B)V"⟩ ∈ T0 := T0_in (m2 (List.mem_of_getElem? (i := 236) rfl)) rfl
theorem u557 : Cond.static ⟨"java/lang/StringUTF16", "checkIndex", "(I[B)V"⟩ ∈ T0 := T0_in (m2 (List.mem_of_getElem? (i := 237) rfl)) rfl
theorem u558 : Cond.code ⟨"java/lang/StringUTF16", "checkIndex", "(I[B)V"⟩ prog_18_method_91_code 2 (Option.none : Option Jvm.ClassFile.FieldType) ∈ T0 := T0_in (m2 (List.mem_of_getElem? (i := 238) rfl)) rfl
theorem u559 : Cond.methodLink "java/lang/StringUTF16" 48 ⟨"java/lang/StringUTF16", "length", "([B)I"⟩ ∈ T0 := T0_in (m2 (List.mem_of_getElem? (i := 239) rfl)) rfl
theorem u560 : Cond.static ⟨"java/lang/StringUTF16", "length", "([B)I"⟩ ∈ T0 := T0_in (m3 (List.mem_of_getElem? (i := 0) rfl)) rfl
theorem u561 : Cond.code ⟨"java/lang/StringUTF16", "length", "([B)I"⟩ prog_18_method_6_code 1 (Option.some .int) ∈ T0 := T0_in (m3 (List.mem_of_getElem? (i := 1) rfl)) rfl
theorem u562 : Cond.methodLink "java/lang/StringUTF16" 414 ⟨"java/lang/String", "checkIndex", "(II)V"⟩ ∈ T0 := T0_in (m3 (List.mem_of_getElem? (i := 2) rfl)) rfl
theorem u563 : Cond.methodLink "java/lang/StringUTF16" 71 ⟨"java/lang/StringUTF16", "getChar", "([BI)C"⟩ ∈ T0 := T0_in (m3 (List.mem_of_getElem? (i := 3) rfl)) rfl
theorem u564 : Cond.static ⟨"java/lang/StringUTF16", "getChar", "([BI)C"⟩ ∈ T0 := T0_in (m3 (List.mem_of_getElem? (i := 4) rfl)) rfl
theorem u565 : Cond.code ⟨"java/lang/StringUTF16", "getChar", "([BI)C"⟩ prog_18_method_5_code 2 (Option.some .char) ∈ T0 := T0_in (m3 (List.mem_of_getElem? (i := 5) rfl)) rfl
theorem u566 : Cond.fieldLink "java/lang/StringUTF16" 44 "java/lang/StringUTF16" "$assertionsDisabled" "Z" ∈ T0 := T0_in (m3 (List.mem_of_getElem? (i := 6) rfl)) rfl
theorem u568 : Cond.fieldLink "java/lang/StringUTF16" 59 "java/lang/StringUTF16" "HI_BYTE_SHIFT" "I" ∈ T0 := T0_in (m3 (List.mem_of_getElem? (i := 8) rfl)) rfl
theorem u570 : Cond.fieldLink "java/lang/StringUTF16" 63 "java/lang/StringUTF16" "LO_BYTE_SHIFT" "I" ∈ T0 := T0_in (m3 (List.mem_of_getElem? (i := 10) rfl)) rfl
theorem u572 : Cond.methodLink "SevenSpells$Reader" 98 ⟨"SevenSpells$Reader", "isSpelled", "(III)Z"⟩ ∈ T0 := T0_in (m3 (List.mem_of_getElem? (i := 12) rfl)) rfl
theorem u574 : Cond.instanceMethod ⟨"SevenSpells$Reader", "isSpelled", "(III)Z"⟩ ∈ T0 := T0_in (m3 (List.mem_of_getElem? (i := 14) rfl)) rfl
theorem u576 : Cond.methodLink "SevenSpells$Reader" 75 ⟨"SevenSpells$Row", "add", "(I)Z"⟩ ∈ T0 := T0_in (m3 (List.mem_of_getElem? (i := 16) rfl)) rfl
theorem u577 : Cond.methodLink "SevenSpells$Reader" 47 ⟨"SevenSpells$Reader", "readLine", "()Z"⟩ ∈ T0 := T0_in (m3 (List.mem_of_getElem? (i := 17) rfl)) rfl
theorem u579 : Cond.instanceMethod ⟨"SevenSpells$Reader", "readLine", "()Z"⟩ ∈ T0 := T0_in (m3 (List.mem_of_getElem? (i := 19) rfl)) rfl
theorem u581 : Cond.methodLink "SevenSpells$Reader" 102 ⟨"SevenSpells$Reader", "readSpell", "(I)Z"⟩ ∈ T0 := T0_in (m3 (List.mem_of_getElem? (i := 21) rfl)) rfl
theorem u583 : Cond.instanceMethod ⟨"SevenSpells$Reader", "readSpell", "(I)Z"⟩ ∈ T0 := T0_in (m3 (List.mem_of_getElem? (i := 23) rfl)) rfl
theorem u585 : Cond.methodLink "SevenSpells$Reader" 120 ⟨"SevenSpells$Told", "isFull", "()Z"⟩ ∈ T0 := T0_in (m3 (List.mem_of_getElem? (i := 25) rfl)) rfl
theorem u586 : Cond.instanceMethod ⟨"SevenSpells$Told", "isFull", "()Z"⟩ ∈ T0 := T0_in (m3 (List.mem_of_getElem? (i := 26) rfl)) rfl
theorem u589 : Cond.methodLink "SevenSpells$Reader" 108 ⟨"SevenSpells$Reader", "takeNumberBehind", "(I)I"⟩ ∈ T0 := T0_in (m3 (List.mem_of_getElem? (i := 29) rfl)) rfl
theorem u591 : Cond.instanceMethod ⟨"SevenSpells$Reader", "takeNumberBehind", "(I)I"⟩ ∈ T0 := T0_in (m3 (List.mem_of_getElem? (i := 31) rfl)) rfl
theorem u593 : Cond.methodLink "SevenSpells$Reader" 136 ⟨"SevenSpells$Reader", "lastNumberBehind", "(I)I"⟩ ∈ T0 := T0_in (m3 (List.mem_of_getElem? (i := 33) rfl)) rfl
theorem u595 : Cond.instanceMethod ⟨"SevenSpells$Reader", "lastNumberBehind", "(I)I"⟩ ∈ T0 := T0_in (m3 (List.mem_of_getElem? (i := 35) rfl)) rfl
theorem u597 : Cond.methodLink "SevenSpells$Reader" 139 ⟨"SevenSpells$Told", "people", "()I"⟩ ∈ T0 := T0_in (m3 (List.mem_of_getElem? (i := 37) rfl)) rfl
theorem u598 : Cond.methodLink "SevenSpells$Reader" 142 ⟨"SevenSpells$Told", "spells", "()I"⟩ ∈ T0 := T0_in (m3 (List.mem_of_getElem? (i := 38) rfl)) rfl
theorem u599 : Cond.methodLink "SevenSpells$Reader" 54 ⟨"SevenSpells$Reader", "takes", "(I)Z"⟩ ∈ T0 := T0_in (m3 (List.mem_of_getElem? (i := 39) rfl)) rfl
theorem u601 : Cond.instanceMethod ⟨"SevenSpells$Reader", "takes", "(I)Z"⟩ ∈ T0 := T0_in (m3 (List.mem_of_getElem? (i := 41) rfl)) rfl
theorem u603 : Cond.methodLink "SevenSpells$Reader" 123 ⟨"SevenSpells$Told", "beginSpell", "(II)V"⟩ ∈ T0 := T0_in (m3 (List.mem_of_getElem? (i := 43) rfl)) rfl
theorem u604 : Cond.instanceMethod ⟨"SevenSpells$Told", "beginSpell", "(II)V"⟩ ∈ T0 := T0_in (m3 (List.mem_of_getElem? (i := 44) rfl)) rfl
theorem u607 : Cond.methodLink "SevenSpells$Told" 49 ⟨"SevenSpells$Told", "isFull", "()Z"⟩ ∈ T0 := T0_in (m3 (List.mem_of_getElem? (i := 47) rfl)) rfl
theorem u608 : Cond.methodLink "SevenSpells$Reader" 127 ⟨"SevenSpells$Reader", "readTerm", "()Z"⟩ ∈ T0 := T0_in (m3 (List.mem_of_getElem? (i := 48) rfl)) rfl
theorem u610 : Cond.instanceMethod ⟨"SevenSpells$Reader", "readTerm", "()Z"⟩ ∈ T0 := T0_in (m3 (List.mem_of_getElem? (i := 50) rfl)) rfl
theorem u612 : Cond.methodLink "SevenSpells$Reader" 133 ⟨"SevenSpells$Told", "addTerm", "(II)V"⟩ ∈ T0 := T0_in (m3 (List.mem_of_getElem? (i := 52) rfl)) rfl
theorem u613 : Cond.instanceMethod ⟨"SevenSpells$Told", "addTerm", "(II)V"⟩ ∈ T0 := T0_in (m3 (List.mem_of_getElem? (i := 53) rfl)) rfl
theorem u616 : Cond.methodLink "SevenSpells$Reader" 130 ⟨"SevenSpells$Told", "endSpell", "(I)V"⟩ ∈ T0 := T0_in (m3 (List.mem_of_getElem? (i := 56) rfl)) rfl
theorem u617 : Cond.instanceMethod ⟨"SevenSpells$Told", "endSpell", "(I)V"⟩ ∈ T0 := T0_in (m3 (List.mem_of_getElem? (i := 57) rfl)) rfl
theorem u620 : Cond.methodLink "SevenSpells$Reader" 105 ⟨"SevenSpells$Told", "tellBare", "()V"⟩ ∈ T0 := T0_in (m3 (List.mem_of_getElem? (i := 60) rfl)) rfl
theorem u621 : Cond.instanceMethod ⟨"SevenSpells$Told", "tellBare", "()V"⟩ ∈ T0 := T0_in (m3 (List.mem_of_getElem? (i := 61) rfl)) rfl
theorem u624 : Cond.methodLink "SevenSpells$Reader" 111 ⟨"SevenSpells$Told", "tellPeople", "(I)V"⟩ ∈ T0 := T0_in (m3 (List.mem_of_getElem? (i := 64) rfl)) rfl
theorem u625 : Cond.instanceMethod ⟨"SevenSpells$Told", "tellPeople", "(I)V"⟩ ∈ T0 := T0_in (m3 (List.mem_of_getElem? (i := 65) rfl)) rfl
theorem u628 : Cond.methodLink "SevenSpells$Reader" 114 ⟨"SevenSpells$Told", "tellDay", "(I)V"⟩ ∈ T0 := T0_in (m3 (List.mem_of_getElem? (i := 68) rfl)) rfl
theorem u629 : Cond.instanceMethod ⟨"SevenSpells$Told", "tellDay", "(I)V"⟩ ∈ T0 := T0_in (m3 (List.mem_of_getElem? (i := 69) rfl)) rfl
theorem u632 : Cond.methodLink "SevenSpells$Reader" 117 ⟨"SevenSpells$Told", "tellBroken", "(I)V"⟩ ∈ T0 := T0_in (m3 (List.mem_of_getElem? (i := 72) rfl)) rfl
theorem u633 : Cond.instanceMethod ⟨"SevenSpells$Told", "tellBroken", "(I)V"⟩ ∈ T0 := T0_in (m3 (List.mem_of_getElem? (i := 73) rfl)) rfl
theorem u636 : Cond.arrayClass .byte ∈ T0 := T0_in (m3 (List.mem_of_getElem? (i := 76) rfl)) rfl
theorem u637 : Cond.methodLink "SevenSpellsLaw" 27 ⟨"SevenSpells", "land", "()I"⟩ ∈ T0 := T0_in (m3 (List.mem_of_getElem? (i := 77) rfl)) rfl
theorem u638 : Cond.instanceMethod ⟨"SevenSpells", "land", "()I"⟩ ∈ T0 := T0_in (m3 (List.mem_of_getElem? (i := 78) rfl)) rfl
theorem u641 : Cond.methodLink "SevenSpells" 94 ⟨"SevenSpells$Reader", "draft", "()LSevenSpells$Told;"⟩ ∈ T0 := T0_in (m3 (List.mem_of_getElem? (i := 81) rfl)) rfl
theorem u642 : Cond.instanceMethod ⟨"SevenSpells$Reader", "draft", "()LSevenSpells$Told;"⟩ ∈ T0 := T0_in (m3 (List.mem_of_getElem? (i := 82) rfl)) rfl
theorem u645 : Cond.methodLink "SevenSpells" 98 ⟨"SevenSpells$Told", "takeOver", "(LSevenSpells$Told;)V"⟩ ∈ T0 := T0_in (m3 (List.mem_of_getElem? (i := 85) rfl)) rfl
theorem u646 : Cond.methodLink "SevenSpells" 102 ⟨"SevenSpells$Reader", "lines", "()I"⟩ ∈ T0 := T0_in (m3 (List.mem_of_getElem? (i := 86) rfl)) rfl
theorem u647 : Cond.instanceMethod ⟨"SevenSpells$Reader", "lines", "()I"⟩ ∈ T0 := T0_in (m3 (List.mem_of_getElem? (i := 87) rfl)) rfl
theorem u650 : Cond.methodLink "SevenSpellsLaw" 31 ⟨"SevenSpells", "person", "(II)I"⟩ ∈ T0 := T0_in (m3 (List.mem_of_getElem? (i := 90) rfl)) rfl
theorem u651 : Cond.instanceMethod ⟨"SevenSpells", "person", "(II)I"⟩ ∈ T0 := T0_in (m3 (List.mem_of_getElem? (i := 91) rfl)) rfl
theorem u654 : Cond.methodLink "SevenSpells" 128 ⟨"SevenSpells$Told", "hasPerson", "(I)Z"⟩ ∈ T0 := T0_in (m3 (List.mem_of_getElem? (i := 94) rfl)) rfl
theorem u655 : Cond.instanceMethod ⟨"SevenSpells$Told", "hasPerson", "(I)Z"⟩ ∈ T0 := T0_in (m3 (List.mem_of_getElem? (i := 95) rfl)) rfl
theorem u658 : Cond.methodLink "SevenSpells" 131 ⟨"SevenSpells$State", "weepers", "(I)I"⟩ ∈ T0 := T0_in (m3 (List.mem_of_getElem? (i := 98) rfl)) rfl
theorem u659 : Cond.static ⟨"SevenSpells$State", "weepers", "(I)I"⟩ ∈ T0 := T0_in (m3 (List.mem_of_getElem? (i := 99) rfl)) rfl
theorem u661 : Cond.methodLink "SevenSpells" 137 ⟨"SevenSpells$Rules", "cursesOn", "(II)I"⟩ ∈ T0 := T0_in (m3 (List.mem_of_getElem? (i := 101) rfl)) rfl
theorem u662 : Cond.methodLink "SevenSpells" 141 ⟨"SevenSpells", "oneIf", "(Z)I"⟩ ∈ T0 := T0_in (m3 (List.mem_of_getElem? (i := 102) rfl)) rfl
theorem u663 : Cond.static ⟨"SevenSpells", "oneIf", "(Z)I"⟩ ∈ T0 := T0_in (m3 (List.mem_of_getElem? (i := 103) rfl)) rfl
theorem u665 : Cond.methodLink "SevenSpellsLaw" 36 ⟨"SevenSpells", "spell", "(II)I"⟩ ∈ T0 := T0_in (m3 (List.mem_of_getElem? (i := 105) rfl)) rfl
theorem u666 : Cond.instanceMethod ⟨"SevenSpells", "spell", "(II)I"⟩ ∈ T0 := T0_in (m3 (List.mem_of_getElem? (i := 106) rfl)) rfl
theorem u669 : Cond.methodLink "SevenSpells" 145 ⟨"SevenSpells$Told", "hasSpell", "(I)Z"⟩ ∈ T0 := T0_in (m3 (List.mem_of_getElem? (i := 109) rfl)) rfl
theorem u670 : Cond.methodLink "SevenSpells" 148 ⟨"SevenSpells$Told", "kindOf", "(I)I"⟩ ∈ T0 := T0_in (m3 (List.mem_of_getElem? (i := 110) rfl)) rfl
theorem u671 : Cond.methodLink "SevenSpells" 151 ⟨"SevenSpells$Told", "targetOf", "(I)I"⟩ ∈ T0 := T0_in (m3 (List.mem_of_getElem? (i := 111) rfl)) rfl
theorem u672 : Cond.methodLink "SevenSpells" 154 ⟨"SevenSpells$Rules", "bindersOf", "(I)I"⟩ ∈ T0 := T0_in (m3 (List.mem_of_getElem? (i := 112) rfl)) rfl
theorem u673 : Cond.instanceMethod ⟨"SevenSpells$Rules", "bindersOf", "(I)I"⟩ ∈ T0 := T0_in (m3 (List.mem_of_getElem? (i := 113) rfl)) rfl
theorem u676 : Cond.methodLink "SevenSpells" 157 ⟨"SevenSpells$Told", "termsOf", "(I)I"⟩ ∈ T0 := T0_in (m3 (List.mem_of_getElem? (i := 116) rfl)) rfl
theorem u677 : Cond.methodLink "SevenSpells" 160 ⟨"SevenSpells$Told", "wakenedBy", "(I)I"⟩ ∈ T0 := T0_in (m3 (List.mem_of_getElem? (i := 117) rfl)) rfl
theorem u678 : Cond.methodLink "SevenSpellsLaw" 40 ⟨"SevenSpells", "term", "(III)I"⟩ ∈ T0 := T0_in (m3 (List.mem_of_getElem? (i := 118) rfl)) rfl
theorem u679 : Cond.instanceMethod ⟨"SevenSpells", "term", "(III)I"⟩ ∈ T0 := T0_in (m3 (List.mem_of_getElem? (i := 119) rfl)) rfl
theorem u682 : Cond.methodLink "SevenSpells" 163 ⟨"SevenSpells$Told", "sortOf", "(II)I"⟩ ∈ T0 := T0_in (m3 (List.mem_of_getElem? (i := 122) rfl)) rfl
theorem u683 : Cond.methodLink "SevenSpells" 166 ⟨"SevenSpells$Told", "numberOf", "(II)I"⟩ ∈ T0 := T0_in (m3 (List.mem_of_getElem? (i := 123) rfl)) rfl
theorem u684 : Cond.methodLink "SevenSpells" 169 ⟨"SevenSpells", "isSoNow", "(II)Z"⟩ ∈ T0 := T0_in (m3 (List.mem_of_getElem? (i := 124) rfl)) rfl
theorem u686 : Cond.instanceMethod ⟨"SevenSpells", "isSoNow", "(II)Z"⟩ ∈ T0 := T0_in (m3 (List.mem_of_getElem? (i := 126) rfl)) rfl
theorem u688 : Cond.methodLink "SevenSpells" 181 ⟨"SevenSpells$Term", "isSo", "(III)Z"⟩ ∈ T0 := T0_in (m3 (List.mem_of_getElem? (i := 128) rfl)) rfl
theorem u689 : Cond.static ⟨"SevenSpells$Term", "isSo", "(III)Z"⟩ ∈ T0 := T0_in (m3 (List.mem_of_getElem? (i := 129) rfl)) rfl
theorem u691 : Cond.methodLink "SevenSpells$Term" 9 ⟨"SevenSpells$State", "asked", "(I)I"⟩ ∈ T0 := T0_in (m3 (List.mem_of_getElem? (i := 131) rfl)) rfl
theorem u692 : Cond.static ⟨"SevenSpells$State", "asked", "(I)I"⟩ ∈ T0 := T0_in (m3 (List.mem_of_getElem? (i := 132) rfl)) rfl
theorem u694 : Cond.methodLink "SevenSpells$Term" 19 ⟨"SevenSpells$Term", "valueOf", "(II)I"⟩ ∈ T0 := T0_in (m3 (List.mem_of_getElem? (i := 134) rfl)) rfl
theorem u695 : Cond.methodLink "SevenSpellsLaw" 45 ⟨"SevenSpells", "as", "(II)I"⟩ ∈ T0 := T0_in (m3 (List.mem_of_getElem? (i := 135) rfl)) rfl
theorem u696 : Cond.instanceMethod ⟨"SevenSpells", "as", "(II)I"⟩ ∈ T0 := T0_in (m3 (List.mem_of_getElem? (i := 136) rfl)) rfl
theorem u699 : Cond.methodLink "SevenSpells" 175 ⟨"SevenSpells$Kind", "isA", "(II)Z"⟩ ∈ T0 := T0_in (m3 (List.mem_of_getElem? (i := 139) rfl)) rfl
theorem u700 : Cond.static ⟨"SevenSpells$Kind", "isA", "(II)Z"⟩ ∈ T0 := T0_in (m3 (List.mem_of_getElem? (i := 140) rfl)) rfl
theorem u702 : Cond.fieldLink "SevenSpells$Kind" 11 "SevenSpells$Kind" "OVER" "[I" ∈ T0 := T0_in (m3 (List.mem_of_getElem? (i := 142) rfl)) rfl
theorem u704 : Cond.methodLink "SevenSpells" 178 ⟨"SevenSpells", "termsSoNow", "(I)I"⟩ ∈ T0 := T0_in (m3 (List.mem_of_getElem? (i := 144) rfl)) rfl
theorem u706 : Cond.instanceMethod ⟨"SevenSpells", "termsSoNow", "(I)I"⟩ ∈ T0 := T0_in (m3 (List.mem_of_getElem? (i := 146) rfl)) rfl
theorem u708 : Cond.methodLink "SevenSpellsLaw" 49 ⟨"SevenSpells", "laidBy", "(I)I"⟩ ∈ T0 := T0_in (m3 (List.mem_of_getElem? (i := 148) rfl)) rfl
theorem u709 : Cond.instanceMethod ⟨"SevenSpells", "laidBy", "(I)I"⟩ ∈ T0 := T0_in (m3 (List.mem_of_getElem? (i := 149) rfl)) rfl
theorem u712 : Cond.methodLink "SevenSpells" 187 ⟨"SevenSpells", "wordsLovedBy", "(II)I"⟩ ∈ T0 := T0_in (m3 (List.mem_of_getElem? (i := 152) rfl)) rfl
theorem u714 : Cond.instanceMethod ⟨"SevenSpells", "wordsLovedBy", "(II)I"⟩ ∈ T0 := T0_in (m3 (List.mem_of_getElem? (i := 154) rfl)) rfl
theorem u716 : Cond.methodLink "SevenSpells" 190 ⟨"SevenSpells$Term", "lover", "(I)I"⟩ ∈ T0 := T0_in (m3 (List.mem_of_getElem? (i := 156) rfl)) rfl
theorem u717 : Cond.static ⟨"SevenSpells$Term", "lover", "(I)I"⟩ ∈ T0 := T0_in (m3 (List.mem_of_getElem? (i := 157) rfl)) rfl
theorem u719 : Cond.methodLink "SevenSpellsLaw" 53 ⟨"SevenSpells", "can", "(III)I"⟩ ∈ T0 := T0_in (m3 (List.mem_of_getElem? (i := 159) rfl)) rfl
theorem u720 : Cond.instanceMethod ⟨"SevenSpells", "can", "(III)I"⟩ ∈ T0 := T0_in (m3 (List.mem_of_getElem? (i := 160) rfl)) rfl
theorem u723 : Cond.methodLink "SevenSpells" 193 ⟨"SevenSpells", "refusal", "(III)I"⟩ ∈ T0 := T0_in (m3 (List.mem_of_getElem? (i := 163) rfl)) rfl
theorem u725 : Cond.instanceMethod ⟨"SevenSpells", "refusal", "(III)I"⟩ ∈ T0 := T0_in (m3 (List.mem_of_getElem? (i := 165) rfl)) rfl
theorem u727 : Cond.methodLink "SevenSpells" 203 ⟨"SevenSpells", "isAnother", "(II)Z"⟩ ∈ T0 := T0_in (m3 (List.mem_of_getElem? (i := 167) rfl)) rfl
theorem u729 : Cond.instanceMethod ⟨"SevenSpells", "isAnother", "(II)Z"⟩ ∈ T0 := T0_in (m3 (List.mem_of_getElem? (i := 169) rfl)) rfl
theorem u731 : Cond.methodLink "SevenSpells" 197 ⟨"SevenSpells$Rules", "deedOf", "(III)I"⟩ ∈ T0 := T0_in (m3 (List.mem_of_getElem? (i := 171) rfl)) rfl
theorem u732 : Cond.instanceMethod ⟨"SevenSpells$Rules", "deedOf", "(III)I"⟩ ∈ T0 := T0_in (m3 (List.mem_of_getElem? (i := 172) rfl)) rfl
theorem u735 : Cond.methodLink "SevenSpells" 200 ⟨"SevenSpells$Rules", "after", "(II)I"⟩ ∈ T0 := T0_in (m3 (List.mem_of_getElem? (i := 175) rfl)) rfl
theorem u736 : Cond.instanceMethod ⟨"SevenSpells$Rules", "after", "(II)I"⟩ ∈ T0 := T0_in (m3 (List.mem_of_getElem? (i := 176) rfl)) rfl
theorem u739 : Cond.methodLink "SevenSpells$Rules" 154 ⟨"SevenSpells$State", "asked", "(I)I"⟩ ∈ T0 := T0_in (m3 (List.mem_of_getElem? (i := 179) rfl)) rfl
theorem u740 : Cond.methodLink "SevenSpells$Rules" 157 ⟨"SevenSpells$State", "nextDay", "(I)I"⟩ ∈ T0 := T0_in (m3 (List.mem_of_getElem? (i := 180) rfl)) rfl
theorem u741 : Cond.static ⟨"SevenSpells$State", "nextDay", "(I)I"⟩ ∈ T0 := T0_in (m3 (List.mem_of_getElem? (i := 181) rfl)) rfl
theorem u743 : Cond.constant "SevenSpells$State" 11 (-58241 : Int32) ∈ T0 := T0_in (m3 (List.mem_of_getElem? (i := 183) rfl)) rfl
theorem u744 : Cond.methodLink "SevenSpellsLaw" 57 ⟨"SevenSpells", "act", "(III)I"⟩ ∈ T0 := T0_in (m3 (List.mem_of_getElem? (i := 184) rfl)) rfl
theorem u745 : Cond.instanceMethod ⟨"SevenSpells", "act", "(III)I"⟩ ∈ T0 := T0_in (m3 (List.mem_of_getElem? (i := 185) rfl)) rfl
theorem u748 : Cond.methodLink "SevenSpells" 208 ⟨"SevenSpells$Row", "isFull", "()Z"⟩ ∈ T0 := T0_in (m3 (List.mem_of_getElem? (i := 188) rfl)) rfl
theorem u749 : Cond.instanceMethod ⟨"SevenSpells$Row", "isFull", "()Z"⟩ ∈ T0 := T0_in (m3 (List.mem_of_getElem? (i := 189) rfl)) rfl
theorem u752 : Cond.methodLink "SevenSpells" 212 ⟨"SevenSpells$Row", "dropFirst", "()V"⟩ ∈ T0 := T0_in (m3 (List.mem_of_getElem? (i := 192) rfl)) rfl
theorem u753 : Cond.instanceMethod ⟨"SevenSpells$Row", "dropFirst", "()V"⟩ ∈ T0 := T0_in (m3 (List.mem_of_getElem? (i := 193) rfl)) rfl
theorem u756 : Cond.methodLink "SevenSpells$Row" 25 ⟨"SevenSpells$Row", "dropLast", "()V"⟩ ∈ T0 := T0_in (m3 (List.mem_of_getElem? (i := 196) rfl)) rfl
theorem u757 : Cond.instanceMethod ⟨"SevenSpells$Row", "dropLast", "()V"⟩ ∈ T0 := T0_in (m3 (List.mem_of_getElem? (i := 197) rfl)) rfl
theorem u760 : Cond.methodLink "SevenSpells" 215 ⟨"SevenSpells$State", "of", "(I)I"⟩ ∈ T0 := T0_in (m3 (List.mem_of_getElem? (i := 200) rfl)) rfl
theorem u761 : Cond.static ⟨"SevenSpells$State", "of", "(I)I"⟩ ∈ T0 := T0_in (m3 (List.mem_of_getElem? (i := 201) rfl)) rfl
theorem u763 : Cond.constant "SevenSpells$State" 12 (65535 : Int32) ∈ T0 := T0_in (m3 (List.mem_of_getElem? (i := 203) rfl)) rfl
theorem u764 : Cond.methodLink "SevenSpells" 218 ⟨"SevenSpells$State", "lifted", "(I)I"⟩ ∈ T0 := T0_in (m3 (List.mem_of_getElem? (i := 204) rfl)) rfl
theorem u765 : Cond.static ⟨"SevenSpells$State", "lifted", "(I)I"⟩ ∈ T0 := T0_in (m3 (List.mem_of_getElem? (i := 205) rfl)) rfl
theorem u767 : Cond.methodLink "SevenSpellsLaw" 61 ⟨"SevenSpells", "undo", "()I"⟩ ∈ T0 := T0_in (m3 (List.mem_of_getElem? (i := 207) rfl)) rfl
theorem u768 : Cond.instanceMethod ⟨"SevenSpells", "undo", "()I"⟩ ∈ T0 := T0_in (m3 (List.mem_of_getElem? (i := 208) rfl)) rfl
theorem u771 : Cond.methodLink "SevenSpells" 221 ⟨"SevenSpells$Row", "at", "(I)I"⟩ ∈ T0 := T0_in (m3 (List.mem_of_getElem? (i := 211) rfl)) rfl
theorem u772 : Cond.methodLink "SevenSpells" 224 ⟨"SevenSpells$Row", "dropLast", "()V"⟩ ∈ T0 := T0_in (m3 (List.mem_of_getElem? (i := 212) rfl)) rfl
theorem u773 : Cond.methodLink "SevenSpellsLaw" 65 ⟨"SevenSpells", "keep", "(I)I"⟩ ∈ T0 := T0_in (m3 (List.mem_of_getElem? (i := 213) rfl)) rfl
theorem u774 : Cond.instanceMethod ⟨"SevenSpells", "keep", "(I)I"⟩ ∈ T0 := T0_in (m3 (List.mem_of_getElem? (i := 214) rfl)) rfl
theorem u777 : Cond.methodLink "SevenSpellsLaw" 69 ⟨"SevenSpells", "back", "(I)I"⟩ ∈ T0 := T0_in (m3 (List.mem_of_getElem? (i := 217) rfl)) rfl
theorem u778 : Cond.instanceMethod ⟨"SevenSpells", "back", "(I)I"⟩ ∈ T0 := T0_in (m3 (List.mem_of_getElem? (i := 218) rfl)) rfl
theorem u781 : Cond.methodLink "SevenSpellsLaw" 73 ⟨"SevenSpells", "fewest", "(I)I"⟩ ∈ T0 := T0_in (m3 (List.mem_of_getElem? (i := 221) rfl)) rfl
theorem u782 : Cond.instanceMethod ⟨"SevenSpells", "fewest", "(I)I"⟩ ∈ T0 := T0_in (m3 (List.mem_of_getElem? (i := 222) rfl)) rfl
theorem u785 : Cond.methodLink "SevenSpells" 227 ⟨"SevenSpells$Told", "hasAll", "(I)Z"⟩ ∈ T0 := T0_in (m3 (List.mem_of_getElem? (i := 225) rfl)) rfl
theorem u786 : Cond.instanceMethod ⟨"SevenSpells$Told", "hasAll", "(I)Z"⟩ ∈ T0 := T0_in (m3 (List.mem_of_getElem? (i := 226) rfl)) rfl
theorem u789 : Cond.methodLink "SevenSpells" 230 ⟨"SevenSpells", "fromNow", "()LSevenSpells$Search;"⟩ ∈ T0 := T0_in (m3 (List.mem_of_getElem? (i := 229) rfl)) rfl
theorem u791 : Cond.instanceMethod ⟨"SevenSpells", "fromNow", "()LSevenSpells$Search;"⟩ ∈ T0 := T0_in (m3 (List.mem_of_getElem? (i := 231) rfl)) rfl
theorem u793 : Cond.methodLink "SevenSpells" 236 ⟨"SevenSpells$Told", "everybody", "()I"⟩ ∈ T0 := T0_in (m3 (List.mem_of_getElem? (i := 233) rfl)) rfl
theorem u794 : Cond.instanceMethod ⟨"SevenSpells$Told", "everybody", "()I"⟩ ∈ T0 := T0_in (m3 (List.mem_of_getElem? (i := 234) rfl)) rfl
theorem u797 : Cond.methodLink "SevenSpells" 239 ⟨"SevenSpells$Search", "ask", "(III)V"⟩ ∈ T0 := T0_in (m3 (List.mem_of_getElem? (i := 237) rfl)) rfl
theorem u798 : Cond.instanceMethod ⟨"SevenSpells$Search", "ask", "(III)V"⟩ ∈ T0 := T0_in (m3 (List.mem_of_getElem? (i := 238) rfl)) rfl
theorem u801 : Cond.methodLink "SevenSpells$Search" 34 ⟨"SevenSpells$Search", "begin", "(III)V"⟩ ∈ T0 := T0_in (m4 (List.mem_of_getElem? (i := 1) rfl)) rfl
theorem u803 : Cond.instanceMethod ⟨"SevenSpells$Search", "begin", "(III)V"⟩ ∈ T0 := T0_in (m4 (List.mem_of_getElem? (i := 3) rfl)) rfl
theorem u805 : Cond.methodLink "SevenSpells$Search" 38 ⟨"SevenSpells$Rules", "mostStates", "()I"⟩ ∈ T0 := T0_in (m4 (List.mem_of_getElem? (i := 5) rfl)) rfl
theorem u806 : Cond.instanceMethod ⟨"SevenSpells$Rules", "mostStates", "()I"⟩ ∈ T0 := T0_in (m4 (List.mem_of_getElem? (i := 6) rfl)) rfl
theorem u809 : Cond.constant "SevenSpells$Rules" 149 (57344 : Int32) ∈ T0 := T0_in (m4 (List.mem_of_getElem? (i := 9) rfl)) rfl
theorem u810 : Cond.methodLink "SevenSpells$Search" 44 ⟨"java/util/Arrays", "fill", "([JJ)V"⟩ ∈ T0 := T0_in (m4 (List.mem_of_getElem? (i := 10) rfl)) rfl
theorem u811 : Cond.static ⟨"java/util/Arrays", "fill", "([JJ)V"⟩ ∈ T0 := T0_in (m4 (List.mem_of_getElem? (i := 11) rfl)) rfl
theorem u812 : Cond.code ⟨"java/util/Arrays", "fill", "([JJ)V"⟩ prog_20_method_101_code 5 (Option.none : Option Jvm.ClassFile.FieldType) ∈ T0 := T0_in (m4 (List.mem_of_getElem? (i := 12) rfl)) rfl
theorem u813 : Cond.methodLink "SevenSpells$Search" 56 ⟨"SevenSpells$Rules", "deedsBy", "(I)I"⟩ ∈ T0 := T0_in (m4 (List.mem_of_getElem? (i := 13) rfl)) rfl
theorem u814 : Cond.instanceMethod ⟨"SevenSpells$Rules", "deedsBy", "(I)I"⟩ ∈ T0 := T0_in (m4 (List.mem_of_getElem? (i := 14) rfl)) rfl
theorem u817 : Cond.methodLink "SevenSpells$Search" 63 ⟨"SevenSpells$Search", "add", "(IIII)V"⟩ ∈ T0 := T0_in (m4 (List.mem_of_getElem? (i := 17) rfl)) rfl
theorem u819 : Cond.instanceMethod ⟨"SevenSpells$Search", "add", "(IIII)V"⟩ ∈ T0 := T0_in (m4 (List.mem_of_getElem? (i := 19) rfl)) rfl
theorem u821 : Cond.methodLink "SevenSpells" 233 ⟨"SevenSpells$Search", "fewestWithout", "(I)I"⟩ ∈ T0 := T0_in (m4 (List.mem_of_getElem? (i := 21) rfl)) rfl
theorem u822 : Cond.instanceMethod ⟨"SevenSpells$Search", "fewestWithout", "(I)I"⟩ ∈ T0 := T0_in (m4 (List.mem_of_getElem? (i := 22) rfl)) rfl
theorem u825 : Cond.methodLink "SevenSpells$Search" 93 ⟨"SevenSpells$Search", "firstWithout", "(I)I"⟩ ∈ T0 := T0_in (m4 (List.mem_of_getElem? (i := 25) rfl)) rfl
theorem u827 : Cond.instanceMethod ⟨"SevenSpells$Search", "firstWithout", "(I)I"⟩ ∈ T0 := T0_in (m4 (List.mem_of_getElem? (i := 27) rfl)) rfl
theorem u829 : Cond.constant "SevenSpells$Search" 86 (57344 : Int32) ∈ T0 := T0_in (m4 (List.mem_of_getElem? (i := 29) rfl)) rfl
theorem u830 : Cond.methodLink "SevenSpells$Search" 71 ⟨"SevenSpells$Search", "stateAt", "(I)I"⟩ ∈ T0 := T0_in (m4 (List.mem_of_getElem? (i := 30) rfl)) rfl
theorem u832 : Cond.instanceMethod ⟨"SevenSpells$Search", "stateAt", "(I)I"⟩ ∈ T0 := T0_in (m4 (List.mem_of_getElem? (i := 32) rfl)) rfl
theorem u834 : Cond.methodLink "SevenSpells$Search" 67 ⟨"SevenSpells$State", "of", "(I)I"⟩ ∈ T0 := T0_in (m4 (List.mem_of_getElem? (i := 34) rfl)) rfl
theorem u835 : Cond.methodLink "SevenSpells$Search" 87 ⟨"SevenSpells$Rules", "nightDeed", "()I"⟩ ∈ T0 := T0_in (m4 (List.mem_of_getElem? (i := 35) rfl)) rfl
theorem u836 : Cond.instanceMethod ⟨"SevenSpells$Rules", "nightDeed", "()I"⟩ ∈ T0 := T0_in (m4 (List.mem_of_getElem? (i := 36) rfl)) rfl
theorem u839 : Cond.methodLink "SevenSpells$Search" 90 ⟨"SevenSpells$Search", "open", "(III)V"⟩ ∈ T0 := T0_in (m4 (List.mem_of_getElem? (i := 39) rfl)) rfl
theorem u841 : Cond.instanceMethod ⟨"SevenSpells$Search", "open", "(III)V"⟩ ∈ T0 := T0_in (m4 (List.mem_of_getElem? (i := 41) rfl)) rfl
theorem u843 : Cond.methodLink "SevenSpells$Search" 74 ⟨"SevenSpells$Search", "distanceAt", "(I)I"⟩ ∈ T0 := T0_in (m4 (List.mem_of_getElem? (i := 43) rfl)) rfl
theorem u845 : Cond.instanceMethod ⟨"SevenSpells$Search", "distanceAt", "(I)I"⟩ ∈ T0 := T0_in (m4 (List.mem_of_getElem? (i := 45) rfl)) rfl
theorem u847 : Cond.constant "SevenSpells$Search" 70 (65535 : Int32) ∈ T0 := T0_in (m4 (List.mem_of_getElem? (i := 47) rfl)) rfl
theorem u848 : Cond.methodLink "SevenSpells$Search" 79 ⟨"SevenSpells$Rules", "after", "(II)I"⟩ ∈ T0 := T0_in (m4 (List.mem_of_getElem? (i := 48) rfl)) rfl
theorem u849 : Cond.methodLink "SevenSpells$Search" 83 ⟨"SevenSpells$State", "lifted", "(I)I"⟩ ∈ T0 := T0_in (m4 (List.mem_of_getElem? (i := 49) rfl)) rfl
theorem u850 : Cond.methodLink "SevenSpellsLaw" 77 ⟨"SevenSpells", "way", "(III)I"⟩ ∈ T0 := T0_in (m4 (List.mem_of_getElem? (i := 50) rfl)) rfl
theorem u851 : Cond.instanceMethod ⟨"SevenSpells", "way", "(III)I"⟩ ∈ T0 := T0_in (m4 (List.mem_of_getElem? (i := 51) rfl)) rfl
theorem u854 : Cond.methodLink "SevenSpells" 243 ⟨"SevenSpells$Search", "deedTo", "(II)I"⟩ ∈ T0 := T0_in (m4 (List.mem_of_getElem? (i := 54) rfl)) rfl
theorem u855 : Cond.instanceMethod ⟨"SevenSpells$Search", "deedTo", "(II)I"⟩ ∈ T0 := T0_in (m4 (List.mem_of_getElem? (i := 55) rfl)) rfl
theorem u858 : Cond.methodLink "SevenSpells$Search" 96 ⟨"SevenSpells$Search", "fromAt", "(I)I"⟩ ∈ T0 := T0_in (m4 (List.mem_of_getElem? (i := 58) rfl)) rfl
theorem u860 : Cond.instanceMethod ⟨"SevenSpells$Search", "fromAt", "(I)I"⟩ ∈ T0 := T0_in (m4 (List.mem_of_getElem? (i := 60) rfl)) rfl
theorem u862 : Cond.methodLink "SevenSpells$Search" 99 ⟨"SevenSpells$Search", "deedAt", "(I)I"⟩ ∈ T0 := T0_in (m4 (List.mem_of_getElem? (i := 62) rfl)) rfl
theorem u864 : Cond.instanceMethod ⟨"SevenSpells$Search", "deedAt", "(I)I"⟩ ∈ T0 := T0_in (m4 (List.mem_of_getElem? (i := 64) rfl)) rfl
theorem u866 : Cond.methodLink "SevenSpells" 246 ⟨"SevenSpells$Rules", "doerOf", "(I)I"⟩ ∈ T0 := T0_in (m4 (List.mem_of_getElem? (i := 66) rfl)) rfl
theorem u867 : Cond.instanceMethod ⟨"SevenSpells$Rules", "doerOf", "(I)I"⟩ ∈ T0 := T0_in (m4 (List.mem_of_getElem? (i := 67) rfl)) rfl
theorem u870 : Cond.methodLink "SevenSpells$Rules" 150 ⟨"SevenSpells$Rules", "isDeed", "(I)Z"⟩ ∈ T0 := T0_in (m4 (List.mem_of_getElem? (i := 70) rfl)) rfl
theorem u872 : Cond.instanceMethod ⟨"SevenSpells$Rules", "isDeed", "(I)Z"⟩ ∈ T0 := T0_in (m4 (List.mem_of_getElem? (i := 72) rfl)) rfl
theorem u874 : Cond.methodLink "SevenSpells" 249 ⟨"SevenSpells$Rules", "sortOf", "(I)I"⟩ ∈ T0 := T0_in (m4 (List.mem_of_getElem? (i := 74) rfl)) rfl
theorem u875 : Cond.instanceMethod ⟨"SevenSpells$Rules", "sortOf", "(I)I"⟩ ∈ T0 := T0_in (m4 (List.mem_of_getElem? (i := 75) rfl)) rfl
theorem u878 : Cond.methodLink "SevenSpells" 251 ⟨"SevenSpells$Rules", "whichOf", "(I)I"⟩ ∈ T0 := T0_in (m4 (List.mem_of_getElem? (i := 78) rfl)) rfl
theorem u879 : Cond.instanceMethod ⟨"SevenSpells$Rules", "whichOf", "(I)I"⟩ ∈ T0 := T0_in (m4 (List.mem_of_getElem? (i := 79) rfl)) rfl
theorem u882 : Cond.methodLink "SevenSpellsLaw" 81 ⟨"SevenSpells", "helpers", "(II)I"⟩ ∈ T0 := T0_in (m4 (List.mem_of_getElem? (i := 82) rfl)) rfl
theorem u883 : Cond.instanceMethod ⟨"SevenSpells", "helpers", "(II)I"⟩ ∈ T0 := T0_in (m4 (List.mem_of_getElem? (i := 83) rfl)) rfl
theorem u886 : Cond.methodLink "SevenSpells" 254 ⟨"SevenSpells", "fewestHelpers", "(I)I"⟩ ∈ T0 := T0_in (m4 (List.mem_of_getElem? (i := 86) rfl)) rfl
theorem u888 : Cond.instanceMethod ⟨"SevenSpells", "fewestHelpers", "(I)I"⟩ ∈ T0 := T0_in (m4 (List.mem_of_getElem? (i := 88) rfl)) rfl
theorem u890 : Cond.methodLink "SevenSpells" 257 ⟨"java/lang/Integer", "bitCount", "(I)I"⟩ ∈ T0 := T0_in (m4 (List.mem_of_getElem? (i := 90) rfl)) rfl
theorem u891 : Cond.static ⟨"java/lang/Integer", "bitCount", "(I)I"⟩ ∈ T0 := T0_in (m4 (List.mem_of_getElem? (i := 91) rfl)) rfl
theorem u892 : Cond.code ⟨"java/lang/Integer", "bitCount", "(I)I"⟩ prog_14_method_49_code 1 (Option.some .int) ∈ T0 := T0_in (m4 (List.mem_of_getElem? (i := 92) rfl)) rfl
theorem u893 : Cond.constant "java/lang/Integer" 265 (1431655765 : Int32) ∈ T0 := T0_in (m4 (List.mem_of_getElem? (i := 93) rfl)) rfl
theorem u894 : Cond.constant "java/lang/Integer" 266 (858993459 : Int32) ∈ T0 := T0_in (m4 (List.mem_of_getElem? (i := 94) rfl)) rfl
theorem u895 : Cond.constant "java/lang/Integer" 267 (252645135 : Int32) ∈ T0 := T0_in (m4 (List.mem_of_getElem? (i := 95) rfl)) rfl
theorem u896 : Cond.methodLink "SevenSpells" 262 ⟨"SevenSpells", "whatIf", "(III)LSevenSpells$Search;"⟩ ∈ T0 := T0_in (m4 (List.mem_of_getElem? (i := 96) rfl)) rfl
theorem u898 : Cond.instanceMethod ⟨"SevenSpells", "whatIf", "(III)LSevenSpells$Search;"⟩ ∈ T0 := T0_in (m4 (List.mem_of_getElem? (i := 98) rfl)) rfl
theorem u900 : Cond.methodLink "SevenSpellsLaw" 85 ⟨"SevenSpells", "nights", "(I)I"⟩ ∈ T0 := T0_in (m4 (List.mem_of_getElem? (i := 100) rfl)) rfl
theorem u901 : Cond.instanceMethod ⟨"SevenSpells", "nights", "(I)I"⟩ ∈ T0 := T0_in (m4 (List.mem_of_getElem? (i := 101) rfl)) rfl
theorem u904 : Cond.methodLink "SevenSpells" 265 ⟨"SevenSpells$Search", "fewestNightsWithout", "(III)I"⟩ ∈ T0 := T0_in (m4 (List.mem_of_getElem? (i := 104) rfl)) rfl
theorem u905 : Cond.instanceMethod ⟨"SevenSpells$Search", "fewestNightsWithout", "(III)I"⟩ ∈ T0 := T0_in (m4 (List.mem_of_getElem? (i := 105) rfl)) rfl
theorem u908 : Cond.methodLink "SevenSpells$Search" 102 ⟨"SevenSpells$Search", "stale", "()V"⟩ ∈ T0 := T0_in (m4 (List.mem_of_getElem? (i := 108) rfl)) rfl
theorem u909 : Cond.methodLink "SevenSpellsLaw" 89 ⟨"SevenSpells", "never", "()I"⟩ ∈ T0 := T0_in (m4 (List.mem_of_getElem? (i := 109) rfl)) rfl
theorem u910 : Cond.instanceMethod ⟨"SevenSpells", "never", "()I"⟩ ∈ T0 := T0_in (m4 (List.mem_of_getElem? (i := 110) rfl)) rfl
theorem u913 : Cond.methodLink "SevenSpells" 268 ⟨"SevenSpells$Search", "heldEverywhere", "()I"⟩ ∈ T0 := T0_in (m4 (List.mem_of_getElem? (i := 113) rfl)) rfl
theorem u914 : Cond.instanceMethod ⟨"SevenSpells$Search", "heldEverywhere", "()I"⟩ ∈ T0 := T0_in (m4 (List.mem_of_getElem? (i := 114) rfl)) rfl
theorem u917 : Cond.methodLink "SevenSpells$Search" 105 ⟨"SevenSpells$State", "holding", "(I)I"⟩ ∈ T0 := T0_in (m4 (List.mem_of_getElem? (i := 117) rfl)) rfl
theorem u918 : Cond.static ⟨"SevenSpells$State", "holding", "(I)I"⟩ ∈ T0 := T0_in (m4 (List.mem_of_getElem? (i := 118) rfl)) rfl
theorem u920 : Cond.methodLink "SevenSpellsLaw" 93 ⟨"SevenSpells", "ahead", "(I)I"⟩ ∈ T0 := T0_in (m4 (List.mem_of_getElem? (i := 120) rfl)) rfl
theorem u921 : Cond.instanceMethod ⟨"SevenSpells", "ahead", "(I)I"⟩ ∈ T0 := T0_in (m4 (List.mem_of_getElem? (i := 121) rfl)) rfl
theorem u924 : Cond.methodLink "SevenSpells" 271 ⟨"SevenSpells$State", "holding", "(I)I"⟩ ∈ T0 := T0_in (m4 (List.mem_of_getElem? (i := 124) rfl)) rfl
theorem u925 : Cond.methodLink "SevenSpellsLaw" 97 ⟨"SevenSpells", "props", "()I"⟩ ∈ T0 := T0_in (m4 (List.mem_of_getElem? (i := 125) rfl)) rfl
theorem u926 : Cond.instanceMethod ⟨"SevenSpells", "props", "()I"⟩ ∈ T0 := T0_in (m4 (List.mem_of_getElem? (i := 126) rfl)) rfl
theorem u929 : Cond.methodLink "SevenSpells" 274 ⟨"SevenSpells", "isPropped", "(II)Z"⟩ ∈ T0 := T0_in (m4 (List.mem_of_getElem? (i := 129) rfl)) rfl
theorem u931 : Cond.instanceMethod ⟨"SevenSpells", "isPropped", "(II)Z"⟩ ∈ T0 := T0_in (m4 (List.mem_of_getElem? (i := 131) rfl)) rfl
theorem u933 : Cond.methodLink "SevenSpellsLaw" 101 ⟨"SevenSpells", "gone", "(II)I"⟩ ∈ T0 := T0_in (m4 (List.mem_of_getElem? (i := 133) rfl)) rfl
theorem u934 : Cond.instanceMethod ⟨"SevenSpells", "gone", "(II)I"⟩ ∈ T0 := T0_in (m4 (List.mem_of_getElem? (i := 134) rfl)) rfl
theorem u937 : Cond.methodLink "SevenSpellsLaw" 105 ⟨"SevenSpells", "many", "(I)I"⟩ ∈ T0 := T0_in (m4 (List.mem_of_getElem? (i := 137) rfl)) rfl
theorem u938 : Cond.instanceMethod ⟨"SevenSpells", "many", "(I)I"⟩ ∈ T0 := T0_in (m4 (List.mem_of_getElem? (i := 138) rfl)) rfl
theorem u941 : Cond.methodLink "SevenSpells" 277 ⟨"SevenSpells$Search", "statesAt", "(I)I"⟩ ∈ T0 := T0_in (m4 (List.mem_of_getElem? (i := 141) rfl)) rfl
theorem u942 : Cond.instanceMethod ⟨"SevenSpells$Search", "statesAt", "(I)I"⟩ ∈ T0 := T0_in (m4 (List.mem_of_getElem? (i := 142) rfl)) rfl
theorem u945 : Cond.methodLink "SevenSpells$Search" 108 ⟨"SevenSpells$Search", "openAll", "()V"⟩ ∈ T0 := T0_in (m4 (List.mem_of_getElem? (i := 145) rfl)) rfl
theorem u947 : Cond.instanceMethod ⟨"SevenSpells$Search", "openAll", "()V"⟩ ∈ T0 := T0_in (m4 (List.mem_of_getElem? (i := 147) rfl)) rfl
theorem u949 : Cond.methodLink "SevenSpellsLaw" 109 ⟨"SevenSpells", "farthest", "()I"⟩ ∈ T0 := T0_in (m4 (List.mem_of_getElem? (i := 149) rfl)) rfl
theorem u950 : Cond.instanceMethod ⟨"SevenSpells", "farthest", "()I"⟩ ∈ T0 := T0_in (m4 (List.mem_of_getElem? (i := 150) rfl)) rfl
theorem u953 : Cond.methodLink "SevenSpells" 280 ⟨"SevenSpells$Search", "greatestDistance", "()I"⟩ ∈ T0 := T0_in (m4 (List.mem_of_getElem? (i := 153) rfl)) rfl
theorem u954 : Cond.instanceMethod ⟨"SevenSpells$Search", "greatestDistance", "()I"⟩ ∈ T0 := T0_in (m4 (List.mem_of_getElem? (i := 154) rfl)) rfl
theorem u957 : Cond.methodLink "SevenSpellsLaw" 113 ⟨"SevenSpells", "row", "(III)I"⟩ ∈ T0 := T0_in (m4 (List.mem_of_getElem? (i := 157) rfl)) rfl
theorem u958 : Cond.instanceMethod ⟨"SevenSpells", "row", "(III)I"⟩ ∈ T0 := T0_in (m4 (List.mem_of_getElem? (i := 158) rfl)) rfl
theorem u961 : Cond.methodLink "SevenSpellsLaw" 117 ⟨"SevenSpells", "burn", "()I"⟩ ∈ T0 := T0_in (m4 (List.mem_of_getElem? (i := 161) rfl)) rfl
theorem u962 : Cond.instanceMethod ⟨"SevenSpells", "burn", "()I"⟩ ∈ T0 := T0_in (m4 (List.mem_of_getElem? (i := 162) rfl)) rfl
theorem u965 : Cond.methodLink "SevenSpellsLaw" 121 ⟨"SevenSpells", "judge", "(I)I"⟩ ∈ T0 := T0_in (m4 (List.mem_of_getElem? (i := 165) rfl)) rfl
theorem u966 : Cond.instanceMethod ⟨"SevenSpells", "judge", "(I)I"⟩ ∈ T0 := T0_in (m4 (List.mem_of_getElem? (i := 166) rfl)) rfl
theorem u969 : Cond.methodLink "SevenSpellsLaw" 125 ⟨"SevenSpells", "prince", "(III)I"⟩ ∈ T0 := T0_in (m4 (List.mem_of_getElem? (i := 169) rfl)) rfl
theorem u970 : Cond.instanceMethod ⟨"SevenSpells", "prince", "(III)I"⟩ ∈ T0 := T0_in (m4 (List.mem_of_getElem? (i := 170) rfl)) rfl
theorem u973 : Cond.methodLink "SevenSpellsLaw" 129 ⟨"SevenSpells", "dismiss", "()I"⟩ ∈ T0 := T0_in (m4 (List.mem_of_getElem? (i := 173) rfl)) rfl
theorem u974 : Cond.instanceMethod ⟨"SevenSpells", "dismiss", "()I"⟩ ∈ T0 := T0_in (m4 (List.mem_of_getElem? (i := 174) rfl)) rfl
theorem u977 : Cond.methodLink "SevenSpellsLaw" 133 ⟨"SevenSpells", "inLine", "(I)I"⟩ ∈ T0 := T0_in (m4 (List.mem_of_getElem? (i := 177) rfl)) rfl
theorem u978 : Cond.instanceMethod ⟨"SevenSpells", "inLine", "(I)I"⟩ ∈ T0 := T0_in (m4 (List.mem_of_getElem? (i := 178) rfl)) rfl
theorem u981 : Cond.methodLink "SevenSpells" 283 ⟨"SevenSpells$State", "day", "(I)I"⟩ ∈ T0 := T0_in (m4 (List.mem_of_getElem? (i := 181) rfl)) rfl
theorem u982 : Cond.static ⟨"SevenSpells$State", "day", "(I)I"⟩ ∈ T0 := T0_in (m4 (List.mem_of_getElem? (i := 182) rfl)) rfl
theorem u984 : Cond.methodLink "SevenSpells" 286 ⟨"SevenSpells$Rules", "nightDeed", "()I"⟩ ∈ T0 := T0_in (m4 (List.mem_of_getElem? (i := 184) rfl)) rfl
theorem u985 : Cond.methodLink "SevenSpellsLaw" 137 ⟨"SevenSpells", "tried", "(IIIII)I"⟩ ∈ T0 := T0_in (m4 (List.mem_of_getElem? (i := 185) rfl)) rfl
theorem u986 : Cond.instanceMethod ⟨"SevenSpells", "tried", "(IIIII)I"⟩ ∈ T0 := T0_in (m4 (List.mem_of_getElem? (i := 186) rfl)) rfl
theorem u989 : Cond.methodLink "SevenSpells" 289 ⟨"SevenSpells$Trials", "packed", "(IIII)I"⟩ ∈ T0 := T0_in (m4 (List.mem_of_getElem? (i := 189) rfl)) rfl
theorem u990 : Cond.static ⟨"SevenSpells$Trials", "packed", "(IIII)I"⟩ ∈ T0 := T0_in (m4 (List.mem_of_getElem? (i := 190) rfl)) rfl
theorem u992 : Cond.methodLink "SevenSpells" 293 ⟨"SevenSpells$Trials", "add", "(II)Z"⟩ ∈ T0 := T0_in (m4 (List.mem_of_getElem? (i := 192) rfl)) rfl
theorem u993 : Cond.instanceMethod ⟨"SevenSpells$Trials", "add", "(II)Z"⟩ ∈ T0 := T0_in (m4 (List.mem_of_getElem? (i := 193) rfl)) rfl
theorem u996 : Cond.methodLink "SevenSpells$Trials" 24 ⟨"SevenSpells$Row", "add", "(I)Z"⟩ ∈ T0 := T0_in (m4 (List.mem_of_getElem? (i := 196) rfl)) rfl
theorem u997 : Cond.methodLink "SevenSpells$Trials" 32 ⟨"SevenSpells$Row", "size", "()I"⟩ ∈ T0 := T0_in (m4 (List.mem_of_getElem? (i := 197) rfl)) rfl
theorem u998 : Cond.methodLink "SevenSpells" 295 ⟨"SevenSpells$Trials", "size", "()I"⟩ ∈ T0 := T0_in (m4 (List.mem_of_getElem? (i := 198) rfl)) rfl
theorem u999 : Cond.instanceMethod ⟨"SevenSpells$Trials", "size", "()I"⟩ ∈ T0 := T0_in (m4 (List.mem_of_getElem? (i := 199) rfl)) rfl
theorem u1002 : Cond.methodLink "SevenSpellsLaw" 142 ⟨"SevenSpells", "forget", "()I"⟩ ∈ T0 := T0_in (m4 (List.mem_of_getElem? (i := 202) rfl)) rfl
theorem u1003 : Cond.instanceMethod ⟨"SevenSpells", "forget", "()I"⟩ ∈ T0 := T0_in (m4 (List.mem_of_getElem? (i := 203) rfl)) rfl
theorem u1006 : Cond.methodLink "SevenSpellsLaw" 146 ⟨"SevenSpells", "mayBe", "(I)I"⟩ ∈ T0 := T0_in (m4 (List.mem_of_getElem? (i := 206) rfl)) rfl
theorem u1007 : Cond.instanceMethod ⟨"SevenSpells", "mayBe", "(I)I"⟩ ∈ T0 := T0_in (m4 (List.mem_of_getElem? (i := 207) rfl)) rfl
theorem u1010 : Cond.methodLink "SevenSpells" 296 ⟨"SevenSpells$Told", "people", "()I"⟩ ∈ T0 := T0_in (m4 (List.mem_of_getElem? (i := 210) rfl)) rfl
theorem u1011 : Cond.methodLink "SevenSpells" 299 ⟨"SevenSpells$Trials", "weigh", "(I)V"⟩ ∈ T0 := T0_in (m4 (List.mem_of_getElem? (i := 211) rfl)) rfl
theorem u1012 : Cond.instanceMethod ⟨"SevenSpells$Trials", "weigh", "(I)V"⟩ ∈ T0 := T0_in (m4 (List.mem_of_getElem? (i := 212) rfl)) rfl
theorem u1015 : Cond.methodLink "SevenSpells$Trials" 57 ⟨"SevenSpells$Trials", "candidates", "()I"⟩ ∈ T0 := T0_in (m4 (List.mem_of_getElem? (i := 215) rfl)) rfl
theorem u1017 : Cond.instanceMethod ⟨"SevenSpells$Trials", "candidates", "()I"⟩ ∈ T0 := T0_in (m4 (List.mem_of_getElem? (i := 217) rfl)) rfl
theorem u1019 : Cond.methodLink "SevenSpells$Trials" 42 ⟨"java/lang/Math", "min", "(II)I"⟩ ∈ T0 := T0_in (m4 (List.mem_of_getElem? (i := 219) rfl)) rfl
theorem u1020 : Cond.methodLink "SevenSpells$Trials" 60 ⟨"SevenSpells$Row", "at", "(I)I"⟩ ∈ T0 := T0_in (m4 (List.mem_of_getElem? (i := 220) rfl)) rfl
theorem u1021 : Cond.methodLink "SevenSpells$Trials" 63 ⟨"SevenSpells$Trials", "isSoIn", "(II)Z"⟩ ∈ T0 := T0_in (m4 (List.mem_of_getElem? (i := 221) rfl)) rfl
theorem u1023 : Cond.instanceMethod ⟨"SevenSpells$Trials", "isSoIn", "(II)Z"⟩ ∈ T0 := T0_in (m4 (List.mem_of_getElem? (i := 223) rfl)) rfl
theorem u1025 : Cond.methodLink "SevenSpells$Trials" 54 ⟨"SevenSpells$Trials", "numberOf", "(I)I"⟩ ∈ T0 := T0_in (m4 (List.mem_of_getElem? (i := 225) rfl)) rfl
theorem u1026 : Cond.instanceMethod ⟨"SevenSpells$Trials", "numberOf", "(I)I"⟩ ∈ T0 := T0_in (m4 (List.mem_of_getElem? (i := 226) rfl)) rfl
theorem u1029 : Cond.methodLink "SevenSpells$Trials" 50 ⟨"SevenSpells$Trials", "sortOf", "(I)I"⟩ ∈ T0 := T0_in (m4 (List.mem_of_getElem? (i := 229) rfl)) rfl
theorem u1030 : Cond.instanceMethod ⟨"SevenSpells$Trials", "sortOf", "(I)I"⟩ ∈ T0 := T0_in (m4 (List.mem_of_getElem? (i := 230) rfl)) rfl
theorem u1034 : Cond.methodLink "SevenSpells" 302 ⟨"SevenSpells$Trials", "howMany", "()I"⟩ ∈ T0 := T0_in (m4 (List.mem_of_getElem? (i := 234) rfl)) rfl
theorem u1035 : Cond.instanceMethod ⟨"SevenSpells$Trials", "howMany", "()I"⟩ ∈ T0 := T0_in (m4 (List.mem_of_getElem? (i := 235) rfl)) rfl
theorem u1038 : Cond.methodLink "SevenSpells$Trials" 71 ⟨"SevenSpells$Trials", "fits", "(II)Z"⟩ ∈ T0 := T0_in (m4 (List.mem_of_getElem? (i := 238) rfl)) rfl
theorem u1040 : Cond.instanceMethod ⟨"SevenSpells$Trials", "fits", "(II)Z"⟩ ∈ T0 := T0_in (m5 (List.mem_of_getElem? (i := 0) rfl)) rfl
theorem u1042 : Cond.methodLink "SevenSpells" 305 ⟨"SevenSpells$Trials", "firstTerm", "()I"⟩ ∈ T0 := T0_in (m5 (List.mem_of_getElem? (i := 2) rfl)) rfl
theorem u1043 : Cond.instanceMethod ⟨"SevenSpells$Trials", "firstTerm", "()I"⟩ ∈ T0 := T0_in (m5 (List.mem_of_getElem? (i := 3) rfl)) rfl
theorem u1046 : Cond.methodLink "SevenSpells$Trials" 74 ⟨"SevenSpells$Trials", "partnerOf", "(I)I"⟩ ∈ T0 := T0_in (m5 (List.mem_of_getElem? (i := 6) rfl)) rfl
theorem u1048 : Cond.instanceMethod ⟨"SevenSpells$Trials", "partnerOf", "(I)I"⟩ ∈ T0 := T0_in (m5 (List.mem_of_getElem? (i := 8) rfl)) rfl
theorem u1050 : Cond.methodLink "SevenSpells" 308 ⟨"SevenSpells$Trials", "secondTerm", "(I)I"⟩ ∈ T0 := T0_in (m5 (List.mem_of_getElem? (i := 10) rfl)) rfl
theorem u1051 : Cond.instanceMethod ⟨"SevenSpells$Trials", "secondTerm", "(I)I"⟩ ∈ T0 := T0_in (m5 (List.mem_of_getElem? (i := 11) rfl)) rfl
theorem u1054 : Cond.methodLink "SevenSpells" 311 ⟨"SevenSpells$Trials", "sortOf", "(I)I"⟩ ∈ T0 := T0_in (m5 (List.mem_of_getElem? (i := 14) rfl)) rfl
theorem u1055 : Cond.methodLink "SevenSpells" 312 ⟨"SevenSpells$Trials", "numberOf", "(I)I"⟩ ∈ T0 := T0_in (m5 (List.mem_of_getElem? (i := 15) rfl)) rfl
theorem u1056 : Cond.methodLink "SevenSpellsLaw" 150 ⟨"SevenSpells", "next", "()I"⟩ ∈ T0 := T0_in (m5 (List.mem_of_getElem? (i := 16) rfl)) rfl
theorem u1057 : Cond.instanceMethod ⟨"SevenSpells", "next", "()I"⟩ ∈ T0 := T0_in (m5 (List.mem_of_getElem? (i := 17) rfl)) rfl
theorem u1060 : Cond.methodLink "SevenSpells" 314 ⟨"SevenSpells$Trials", "bestDay", "()I"⟩ ∈ T0 := T0_in (m5 (List.mem_of_getElem? (i := 20) rfl)) rfl
theorem u1061 : Cond.instanceMethod ⟨"SevenSpells$Trials", "bestDay", "()I"⟩ ∈ T0 := T0_in (m5 (List.mem_of_getElem? (i := 21) rfl)) rfl
theorem u1064 : Cond.methodLink "SevenSpells$Trials" 77 ⟨"SevenSpells$Trials", "howMany", "()I"⟩ ∈ T0 := T0_in (m5 (List.mem_of_getElem? (i := 24) rfl)) rfl
theorem u1065 : Cond.methodLink "SevenSpells$Trials" 80 ⟨"SevenSpells$Trials", "packed", "(IIII)I"⟩ ∈ T0 := T0_in (m5 (List.mem_of_getElem? (i := 25) rfl)) rfl
theorem u1066 : Cond.methodLink "SevenSpells$Trials" 84 ⟨"SevenSpells$Trials", "liftedBy", "(I)I"⟩ ∈ T0 := T0_in (m5 (List.mem_of_getElem? (i := 26) rfl)) rfl
theorem u1068 : Cond.instanceMethod ⟨"SevenSpells$Trials", "liftedBy", "(I)I"⟩ ∈ T0 := T0_in (m5 (List.mem_of_getElem? (i := 28) rfl)) rfl
theorem u1070 : Cond.methodLink "SevenSpells$Trials" 87 ⟨"java/lang/Math", "max", "(II)I"⟩ ∈ T0 := T0_in (m5 (List.mem_of_getElem? (i := 30) rfl)) rfl
theorem u1071 : Cond.methodLink "SevenSpellsLaw" 154 ⟨"SevenSpells", "count", "(I)I"⟩ ∈ T0 := T0_in (m5 (List.mem_of_getElem? (i := 31) rfl)) rfl
theorem u1072 : Cond.instanceMethod ⟨"SevenSpells", "count", "(I)I"⟩ ∈ T0 := T0_in (m5 (List.mem_of_getElem? (i := 32) rfl)) rfl
theorem u1075 : Cond.methodLink "SevenSpells" 317 ⟨"SevenSpells$Told", "spells", "()I"⟩ ∈ T0 := T0_in (m5 (List.mem_of_getElem? (i := 35) rfl)) rfl
theorem u1076 : Cond.methodLink "SevenSpells" 320 ⟨"SevenSpells$State", "broken", "(I)I"⟩ ∈ T0 := T0_in (m5 (List.mem_of_getElem? (i := 36) rfl)) rfl
theorem u1077 : Cond.static ⟨"SevenSpells$State", "broken", "(I)I"⟩ ∈ T0 := T0_in (m5 (List.mem_of_getElem? (i := 37) rfl)) rfl
theorem u1079 : Cond.methodLink "SevenSpells" 323 ⟨"SevenSpells$State", "asked", "(I)I"⟩ ∈ T0 := T0_in (m5 (List.mem_of_getElem? (i := 39) rfl)) rfl
theorem u1080 : Cond.classLink "SevenSpellsLaw" 10 "SevenSpellsModel" ∈ T0 := T0_in (m5 (List.mem_of_getElem? (i := 40) rfl)) rfl
theorem u1081 : Cond.instantiable "SevenSpellsModel" 34 ∈ T0 := T0_in (m5 (List.mem_of_getElem? (i := 41) rfl)) rfl
theorem u1082 : Cond.methodLink "SevenSpellsLaw" 12 ⟨"SevenSpellsModel", "<init>", "()V"⟩ ∈ T0 := T0_in (m5 (List.mem_of_getElem? (i := 42) rfl)) rfl
theorem u1083 : Cond.instanceMethod ⟨"SevenSpellsModel", "<init>", "()V"⟩ ∈ T0 := T0_in (m5 (List.mem_of_getElem? (i := 43) rfl)) rfl
theorem u1085 : Cond.methodLink "SevenSpellsModel" 1 ⟨"java/lang/Object", "<init>", "()V"⟩ ∈ T0 := T0_in (m5 (List.mem_of_getElem? (i := 45) rfl)) rfl
theorem u1086 : Cond.constant "SevenSpellsModel" 36 (57344 : Int32) ∈ T0 := T0_in (m5 (List.mem_of_getElem? (i := 46) rfl)) rfl
theorem u1087 : Cond.fieldLink "SevenSpellsModel" 7 "SevenSpellsModel" "text" "[I" ∈ T0 := T0_in (m5 (List.mem_of_getElem? (i := 47) rfl)) rfl
theorem u1088 : Cond.fieldLink "SevenSpellsModel" 64 "SevenSpellsModel" "length" "I" ∈ T0 := T0_in (m5 (List.mem_of_getElem? (i := 48) rfl)) rfl
theorem u1089 : Cond.fieldLink "SevenSpellsModel" 13 "SevenSpellsModel" "read" "[I" ∈ T0 := T0_in (m5 (List.mem_of_getElem? (i := 49) rfl)) rfl
theorem u1090 : Cond.fieldLink "SevenSpellsModel" 101 "SevenSpellsModel" "readMany" "I" ∈ T0 := T0_in (m5 (List.mem_of_getElem? (i := 50) rfl)) rfl
theorem u1091 : Cond.fieldLink "SevenSpellsModel" 16 "SevenSpellsModel" "people" "I" ∈ T0 := T0_in (m5 (List.mem_of_getElem? (i := 51) rfl)) rfl
theorem u1092 : Cond.fieldLink "SevenSpellsModel" 143 "SevenSpellsModel" "toldDay" "I" ∈ T0 := T0_in (m5 (List.mem_of_getElem? (i := 52) rfl)) rfl
theorem u1093 : Cond.fieldLink "SevenSpellsModel" 146 "SevenSpellsModel" "toldBroken" "I" ∈ T0 := T0_in (m5 (List.mem_of_getElem? (i := 53) rfl)) rfl
theorem u1094 : Cond.fieldLink "SevenSpellsModel" 20 "SevenSpellsModel" "spells" "[I" ∈ T0 := T0_in (m5 (List.mem_of_getElem? (i := 54) rfl)) rfl
theorem u1095 : Cond.fieldLink "SevenSpellsModel" 136 "SevenSpellsModel" "many" "I" ∈ T0 := T0_in (m5 (List.mem_of_getElem? (i := 55) rfl)) rfl
theorem u1096 : Cond.fieldLink "SevenSpellsModel" 156 "SevenSpellsModel" "now" "I" ∈ T0 := T0_in (m5 (List.mem_of_getElem? (i := 56) rfl)) rfl
theorem u1097 : Cond.fieldLink "SevenSpellsModel" 159 "SevenSpellsModel" "deeds" "I" ∈ T0 := T0_in (m5 (List.mem_of_getElem? (i := 57) rfl)) rfl
theorem u1098 : Cond.fieldLink "SevenSpellsModel" 23 "SevenSpellsModel" "pasts" "[I" ∈ T0 := T0_in (m5 (List.mem_of_getElem? (i := 58) rfl)) rfl
theorem u1099 : Cond.fieldLink "SevenSpellsModel" 162 "SevenSpellsModel" "pastMany" "I" ∈ T0 := T0_in (m5 (List.mem_of_getElem? (i := 59) rfl)) rfl
theorem u1100 : Cond.fieldLink "SevenSpellsModel" 26 "SevenSpellsModel" "keptStates" "[I" ∈ T0 := T0_in (m5 (List.mem_of_getElem? (i := 60) rfl)) rfl
theorem u1101 : Cond.fieldLink "SevenSpellsModel" 29 "SevenSpellsModel" "keptDeeds" "[I" ∈ T0 := T0_in (m5 (List.mem_of_getElem? (i := 61) rfl)) rfl
theorem u1102 : Cond.fieldLink "SevenSpellsModel" 32 "SevenSpellsModel" "isKept" "[Z" ∈ T0 := T0_in (m5 (List.mem_of_getElem? (i := 62) rfl)) rfl
theorem u1103 : Cond.fieldLink "SevenSpellsModel" 67 "SevenSpellsModel" "at" "I" ∈ T0 := T0_in (m5 (List.mem_of_getElem? (i := 63) rfl)) rfl
theorem u1104 : Cond.fieldLink "SevenSpellsModel" 70 "SevenSpellsModel" "place" "I" ∈ T0 := T0_in (m5 (List.mem_of_getElem? (i := 64) rfl)) rfl
theorem u1105 : Cond.fieldLink "SevenSpellsModel" 77 "SevenSpellsModel" "end" "I" ∈ T0 := T0_in (m5 (List.mem_of_getElem? (i := 65) rfl)) rfl
theorem u1106 : Cond.fieldLink "SevenSpellsModel" 110 "SevenSpellsModel" "readPeople" "I" ∈ T0 := T0_in (m5 (List.mem_of_getElem? (i := 66) rfl)) rfl
theorem u1107 : Cond.fieldLink "SevenSpellsModel" 113 "SevenSpellsModel" "readSpells" "I" ∈ T0 := T0_in (m5 (List.mem_of_getElem? (i := 67) rfl)) rfl
theorem u1108 : Cond.fieldLink "SevenSpellsModel" 200 "SevenSpellsModel" "lifted" "I" ∈ T0 := T0_in (m5 (List.mem_of_getElem? (i := 68) rfl)) rfl
theorem u1109 : Cond.fieldLink "SevenSpellsModel" 37 "SevenSpellsModel" "fars" "[I" ∈ T0 := T0_in (m5 (List.mem_of_getElem? (i := 69) rfl)) rfl
theorem u1110 : Cond.fieldLink "SevenSpellsModel" 40 "SevenSpellsModel" "queue" "[I" ∈ T0 := T0_in (m5 (List.mem_of_getElem? (i := 70) rfl)) rfl
theorem u1111 : Cond.fieldLink "SevenSpellsModel" 233 "SevenSpellsModel" "queued" "I" ∈ T0 := T0_in (m5 (List.mem_of_getElem? (i := 71) rfl)) rfl
theorem u1112 : Cond.fieldLink "SevenSpellsModel" 43 "SevenSpellsModel" "later" "[I" ∈ T0 := T0_in (m5 (List.mem_of_getElem? (i := 72) rfl)) rfl
theorem u1113 : Cond.fieldLink "SevenSpellsModel" 268 "SevenSpellsModel" "laterMany" "I" ∈ T0 := T0_in (m5 (List.mem_of_getElem? (i := 73) rfl)) rfl
theorem u1114 : Cond.fieldLink "SevenSpellsModel" 46 "SevenSpellsModel" "onWay" "[Z" ∈ T0 := T0_in (m5 (List.mem_of_getElem? (i := 74) rfl)) rfl
theorem u1115 : Cond.fieldLink "SevenSpellsModel" 49 "SevenSpellsModel" "row" "[I" ∈ T0 := T0_in (m5 (List.mem_of_getElem? (i := 75) rfl)) rfl
theorem u1116 : Cond.fieldLink "SevenSpellsModel" 165 "SevenSpellsModel" "rowMany" "I" ∈ T0 := T0_in (m5 (List.mem_of_getElem? (i := 76) rfl)) rfl
theorem u1117 : Cond.fieldLink "SevenSpellsModel" 52 "SevenSpellsModel" "princes" "[I" ∈ T0 := T0_in (m5 (List.mem_of_getElem? (i := 77) rfl)) rfl
theorem u1118 : Cond.fieldLink "SevenSpellsModel" 168 "SevenSpellsModel" "princeMany" "I" ∈ T0 := T0_in (m5 (List.mem_of_getElem? (i := 78) rfl)) rfl
theorem u1119 : Cond.fieldLink "SevenSpellsModel" 55 "SevenSpellsModel" "tries" "[I" ∈ T0 := T0_in (m5 (List.mem_of_getElem? (i := 79) rfl)) rfl
theorem u1120 : Cond.fieldLink "SevenSpellsModel" 171 "SevenSpellsModel" "triedMany" "I" ∈ T0 := T0_in (m5 (List.mem_of_getElem? (i := 80) rfl)) rfl
theorem u1190 : Cond.arrayClass .boolean ∈ T0 := T0_in (m5 (List.mem_of_getElem? (i := 150) rfl)) rfl
theorem u1191 : Cond.methodLink "SevenSpellsLaw" 17 ⟨"SevenSpellsModel", "write", "(I)I"⟩ ∈ T0 := T0_in (m5 (List.mem_of_getElem? (i := 151) rfl)) rfl
theorem u1192 : Cond.instanceMethod ⟨"SevenSpellsModel", "write", "(I)I"⟩ ∈ T0 := T0_in (m5 (List.mem_of_getElem? (i := 152) rfl)) rfl
theorem u1195 : Cond.constantLong "SevenSpellsModel" 58 (255 : Int64) ∈ T0 := T0_in (m5 (List.mem_of_getElem? (i := 155) rfl)) rfl
theorem u1196 : Cond.methodLink "SevenSpellsModel" 60 ⟨"SevenSpellsModel", "in", "(JJJ)Z"⟩ ∈ T0 := T0_in (m5 (List.mem_of_getElem? (i := 156) rfl)) rfl
theorem u1197 : Cond.static ⟨"SevenSpellsModel", "in", "(JJJ)Z"⟩ ∈ T0 := T0_in (m5 (List.mem_of_getElem? (i := 157) rfl)) rfl
theorem u1199 : Cond.methodLink "SevenSpellsLaw" 22 ⟨"SevenSpellsModel", "erase", "()I"⟩ ∈ T0 := T0_in (m5 (List.mem_of_getElem? (i := 159) rfl)) rfl
theorem u1200 : Cond.instanceMethod ⟨"SevenSpellsModel", "erase", "()I"⟩ ∈ T0 := T0_in (m5 (List.mem_of_getElem? (i := 160) rfl)) rfl
theorem u1203 : Cond.methodLink "SevenSpellsLaw" 26 ⟨"SevenSpellsModel", "fault", "()I"⟩ ∈ T0 := T0_in (m5 (List.mem_of_getElem? (i := 163) rfl)) rfl
theorem u1204 : Cond.instanceMethod ⟨"SevenSpellsModel", "fault", "()I"⟩ ∈ T0 := T0_in (m5 (List.mem_of_getElem? (i := 164) rfl)) rfl
theorem u1207 : Cond.methodLink "SevenSpellsModel" 104 ⟨"SevenSpellsModel", "token", "()V"⟩ ∈ T0 := T0_in (m5 (List.mem_of_getElem? (i := 167) rfl)) rfl
theorem u1209 : Cond.instanceMethod ⟨"SevenSpellsModel", "token", "()V"⟩ ∈ T0 := T0_in (m5 (List.mem_of_getElem? (i := 169) rfl)) rfl
theorem u1211 : Cond.methodLink "SevenSpellsModel" 73 ⟨"SevenSpellsModel", "sort", "(I)I"⟩ ∈ T0 := T0_in (m5 (List.mem_of_getElem? (i := 171) rfl)) rfl
theorem u1212 : Cond.static ⟨"SevenSpellsModel", "sort", "(I)I"⟩ ∈ T0 := T0_in (m5 (List.mem_of_getElem? (i := 172) rfl)) rfl
theorem u1214 : Cond.methodLink "SevenSpellsModel" 139 ⟨"SevenSpellsModel", "readsLine", "()Z"⟩ ∈ T0 := T0_in (m5 (List.mem_of_getElem? (i := 174) rfl)) rfl
theorem u1216 : Cond.instanceMethod ⟨"SevenSpellsModel", "readsLine", "()Z"⟩ ∈ T0 := T0_in (m5 (List.mem_of_getElem? (i := 176) rfl)) rfl
theorem u1218 : Cond.methodLink "SevenSpellsModel" 128 ⟨"SevenSpellsModel", "wordOf", "()I"⟩ ∈ T0 := T0_in (m5 (List.mem_of_getElem? (i := 178) rfl)) rfl
theorem u1220 : Cond.instanceMethod ⟨"SevenSpellsModel", "wordOf", "()I"⟩ ∈ T0 := T0_in (m5 (List.mem_of_getElem? (i := 180) rfl)) rfl
theorem u1222 : Cond.methodLink "SevenSpellsModel" 88 ⟨"SevenSpellsModel", "spellWord", "()I"⟩ ∈ T0 := T0_in (m5 (List.mem_of_getElem? (i := 182) rfl)) rfl
theorem u1224 : Cond.instanceMethod ⟨"SevenSpellsModel", "spellWord", "()I"⟩ ∈ T0 := T0_in (m5 (List.mem_of_getElem? (i := 184) rfl)) rfl
theorem u1226 : Cond.constant "SevenSpellsModel" 80 (16946579 : Int32) ∈ T0 := T0_in (m5 (List.mem_of_getElem? (i := 186) rfl)) rfl
theorem u1227 : Cond.methodLink "SevenSpellsModel" 81 ⟨"SevenSpellsModel", "isWord", "(II)Z"⟩ ∈ T0 := T0_in (m5 (List.mem_of_getElem? (i := 187) rfl)) rfl
theorem u1229 : Cond.instanceMethod ⟨"SevenSpellsModel", "isWord", "(II)Z"⟩ ∈ T0 := T0_in (m5 (List.mem_of_getElem? (i := 189) rfl)) rfl
theorem u1231 : Cond.constant "SevenSpellsModel" 85 (245318 : Int32) ∈ T0 := T0_in (m5 (List.mem_of_getElem? (i := 191) rfl)) rfl
theorem u1232 : Cond.constant "SevenSpellsModel" 86 (185005 : Int32) ∈ T0 := T0_in (m5 (List.mem_of_getElem? (i := 192) rfl)) rfl
theorem u1233 : Cond.constant "SevenSpellsModel" 87 (145698 : Int32) ∈ T0 := T0_in (m5 (List.mem_of_getElem? (i := 193) rfl)) rfl
theorem u1234 : Cond.constant "SevenSpellsModel" 92 (145452 : Int32) ∈ T0 := T0_in (m5 (List.mem_of_getElem? (i := 194) rfl)) rfl
theorem u1235 : Cond.constant "SevenSpellsModel" 93 (475381314 : Int32) ∈ T0 := T0_in (m5 (List.mem_of_getElem? (i := 195) rfl)) rfl
theorem u1236 : Cond.constant "SevenSpellsModel" 94 (182306 : Int32) ∈ T0 := T0_in (m5 (List.mem_of_getElem? (i := 196) rfl)) rfl
theorem u1237 : Cond.constantLong "SevenSpellsModel" 131 (4 : Int64) ∈ T0 := T0_in (m5 (List.mem_of_getElem? (i := 197) rfl)) rfl
theorem u1238 : Cond.methodLink "SevenSpellsModel" 133 ⟨"SevenSpellsModel", "readsRest", "(I)Z"⟩ ∈ T0 := T0_in (m5 (List.mem_of_getElem? (i := 198) rfl)) rfl
theorem u1240 : Cond.instanceMethod ⟨"SevenSpellsModel", "readsRest", "(I)Z"⟩ ∈ T0 := T0_in (m5 (List.mem_of_getElem? (i := 200) rfl)) rfl
theorem u1242 : Cond.methodLink "SevenSpellsModel" 116 ⟨"SevenSpellsModel", "reads", "(III)Z"⟩ ∈ T0 := T0_in (m5 (List.mem_of_getElem? (i := 202) rfl)) rfl
theorem u1244 : Cond.instanceMethod ⟨"SevenSpellsModel", "reads", "(III)Z"⟩ ∈ T0 := T0_in (m5 (List.mem_of_getElem? (i := 204) rfl)) rfl
theorem u1246 : Cond.methodLink "SevenSpellsModel" 125 ⟨"SevenSpellsModel", "readsSpell", "(I)Z"⟩ ∈ T0 := T0_in (m5 (List.mem_of_getElem? (i := 206) rfl)) rfl
theorem u1248 : Cond.instanceMethod ⟨"SevenSpellsModel", "readsSpell", "(I)Z"⟩ ∈ T0 := T0_in (m5 (List.mem_of_getElem? (i := 208) rfl)) rfl
theorem u1250 : Cond.methodLink "SevenSpellsModel" 120 ⟨"SevenSpellsModel", "readsTerm", "(I)Z"⟩ ∈ T0 := T0_in (m5 (List.mem_of_getElem? (i := 210) rfl)) rfl
theorem u1252 : Cond.instanceMethod ⟨"SevenSpellsModel", "readsTerm", "(I)Z"⟩ ∈ T0 := T0_in (m5 (List.mem_of_getElem? (i := 212) rfl)) rfl
theorem u1254 : Cond.methodLink "SevenSpellsModel" 107 ⟨"SevenSpellsModel", "termWord", "()I"⟩ ∈ T0 := T0_in (m5 (List.mem_of_getElem? (i := 214) rfl)) rfl
theorem u1256 : Cond.instanceMethod ⟨"SevenSpellsModel", "termWord", "()I"⟩ ∈ T0 := T0_in (m5 (List.mem_of_getElem? (i := 216) rfl)) rfl
theorem u1258 : Cond.constant "SevenSpellsModel" 95 (642347 : Int32) ∈ T0 := T0_in (m5 (List.mem_of_getElem? (i := 218) rfl)) rfl
theorem u1259 : Cond.constant "SevenSpellsModel" 96 (529591 : Int32) ∈ T0 := T0_in (m5 (List.mem_of_getElem? (i := 219) rfl)) rfl
theorem u1260 : Cond.constant "SevenSpellsModel" 97 (20066792 : Int32) ∈ T0 := T0_in (m5 (List.mem_of_getElem? (i := 220) rfl)) rfl
theorem u1261 : Cond.constant "SevenSpellsModel" 98 (178663 : Int32) ∈ T0 := T0_in (m5 (List.mem_of_getElem? (i := 221) rfl)) rfl
theorem u1262 : Cond.constant "SevenSpellsModel" 99 (5651735 : Int32) ∈ T0 := T0_in (m5 (List.mem_of_getElem? (i := 222) rfl)) rfl
theorem u1263 : Cond.constant "SevenSpellsModel" 100 (4370017 : Int32) ∈ T0 := T0_in (m5 (List.mem_of_getElem? (i := 223) rfl)) rfl
theorem u1264 : Cond.constant "SevenSpellsModel" 124 (20098103 : Int32) ∈ T0 := T0_in (m5 (List.mem_of_getElem? (i := 224) rfl)) rfl
theorem u1265 : Cond.methodLink "SevenSpellsLaw" 30 ⟨"SevenSpellsModel", "land", "()I"⟩ ∈ T0 := T0_in (m5 (List.mem_of_getElem? (i := 225) rfl)) rfl
theorem u1266 : Cond.instanceMethod ⟨"SevenSpellsModel", "land", "()I"⟩ ∈ T0 := T0_in (m5 (List.mem_of_getElem? (i := 226) rfl)) rfl
theorem u1269 : Cond.methodLink "SevenSpellsModel" 149 ⟨"SevenSpellsModel", "fault", "()I"⟩ ∈ T0 := T0_in (m5 (List.mem_of_getElem? (i := 229) rfl)) rfl
theorem u1270 : Cond.methodLink "SevenSpellsModel" 152 ⟨"SevenSpellsModel", "tell", "(I)V"⟩ ∈ T0 := T0_in (m5 (List.mem_of_getElem? (i := 230) rfl)) rfl
theorem u1272 : Cond.instanceMethod ⟨"SevenSpellsModel", "tell", "(I)V"⟩ ∈ T0 := T0_in (m5 (List.mem_of_getElem? (i := 232) rfl)) rfl
theorem u1274 : Cond.methodLink "SevenSpellsLaw" 35 ⟨"SevenSpellsModel", "person", "(II)I"⟩ ∈ T0 := T0_in (m5 (List.mem_of_getElem? (i := 234) rfl)) rfl
theorem u1275 : Cond.instanceMethod ⟨"SevenSpellsModel", "person", "(II)I"⟩ ∈ T0 := T0_in (m5 (List.mem_of_getElem? (i := 235) rfl)) rfl
theorem u1278 : Cond.methodLink "SevenSpellsModel" 210 ⟨"SevenSpellsModel", "isPerson", "(I)Z"⟩ ∈ T0 := T0_in (m5 (List.mem_of_getElem? (i := 238) rfl)) rfl
theorem u1280 : Cond.instanceMethod ⟨"SevenSpellsModel", "isPerson", "(I)Z"⟩ ∈ T0 := T0_in (m6 (List.mem_of_getElem? (i := 0) rfl)) rfl
theorem u1282 : Cond.constantLong "SevenSpellsModel" 213 (2 : Int64) ∈ T0 := T0_in (m6 (List.mem_of_getElem? (i := 2) rfl)) rfl
theorem u1283 : Cond.methodLink "SevenSpellsModel" 193 ⟨"SevenSpellsModel", "isUnder", "(III)Z"⟩ ∈ T0 := T0_in (m6 (List.mem_of_getElem? (i := 3) rfl)) rfl
theorem u1285 : Cond.instanceMethod ⟨"SevenSpellsModel", "isUnder", "(III)Z"⟩ ∈ T0 := T0_in (m6 (List.mem_of_getElem? (i := 5) rfl)) rfl
theorem u1287 : Cond.methodLink "SevenSpellsModel" 174 ⟨"SevenSpellsModel", "has", "(II)Z"⟩ ∈ T0 := T0_in (m6 (List.mem_of_getElem? (i := 7) rfl)) rfl
theorem u1288 : Cond.static ⟨"SevenSpellsModel", "has", "(II)Z"⟩ ∈ T0 := T0_in (m6 (List.mem_of_getElem? (i := 8) rfl)) rfl
theorem u1290 : Cond.methodLink "SevenSpellsModel" 177 ⟨"SevenSpellsModel", "weepersOf", "(I)I"⟩ ∈ T0 := T0_in (m6 (List.mem_of_getElem? (i := 10) rfl)) rfl
theorem u1291 : Cond.static ⟨"SevenSpellsModel", "weepersOf", "(I)I"⟩ ∈ T0 := T0_in (m6 (List.mem_of_getElem? (i := 11) rfl)) rfl
theorem u1293 : Cond.methodLink "SevenSpellsLaw" 39 ⟨"SevenSpellsModel", "spell", "(II)I"⟩ ∈ T0 := T0_in (m6 (List.mem_of_getElem? (i := 13) rfl)) rfl
theorem u1294 : Cond.instanceMethod ⟨"SevenSpellsModel", "spell", "(II)I"⟩ ∈ T0 := T0_in (m6 (List.mem_of_getElem? (i := 14) rfl)) rfl
theorem u1297 : Cond.methodLink "SevenSpellsModel" 215 ⟨"SevenSpellsModel", "isSpell", "(I)Z"⟩ ∈ T0 := T0_in (m6 (List.mem_of_getElem? (i := 17) rfl)) rfl
theorem u1299 : Cond.instanceMethod ⟨"SevenSpellsModel", "isSpell", "(I)Z"⟩ ∈ T0 := T0_in (m6 (List.mem_of_getElem? (i := 19) rfl)) rfl
theorem u1301 : Cond.methodLink "SevenSpellsModel" 203 ⟨"SevenSpellsModel", "isBound", "(II)Z"⟩ ∈ T0 := T0_in (m6 (List.mem_of_getElem? (i := 21) rfl)) rfl
theorem u1303 : Cond.instanceMethod ⟨"SevenSpellsModel", "isBound", "(II)Z"⟩ ∈ T0 := T0_in (m6 (List.mem_of_getElem? (i := 23) rfl)) rfl
theorem u1305 : Cond.methodLink "SevenSpellsLaw" 44 ⟨"SevenSpellsModel", "term", "(III)I"⟩ ∈ T0 := T0_in (m6 (List.mem_of_getElem? (i := 25) rfl)) rfl
theorem u1306 : Cond.instanceMethod ⟨"SevenSpellsModel", "term", "(III)I"⟩ ∈ T0 := T0_in (m6 (List.mem_of_getElem? (i := 26) rfl)) rfl
theorem u1309 : Cond.methodLink "SevenSpellsModel" 189 ⟨"SevenSpellsModel", "isSo", "(IIII)Z"⟩ ∈ T0 := T0_in (m6 (List.mem_of_getElem? (i := 29) rfl)) rfl
theorem u1311 : Cond.instanceMethod ⟨"SevenSpellsModel", "isSo", "(IIII)Z"⟩ ∈ T0 := T0_in (m6 (List.mem_of_getElem? (i := 31) rfl)) rfl
theorem u1313 : Cond.methodLink "SevenSpellsModel" 180 ⟨"SevenSpellsModel", "dayOf", "(I)I"⟩ ∈ T0 := T0_in (m6 (List.mem_of_getElem? (i := 33) rfl)) rfl
theorem u1314 : Cond.static ⟨"SevenSpellsModel", "dayOf", "(I)I"⟩ ∈ T0 := T0_in (m6 (List.mem_of_getElem? (i := 34) rfl)) rfl
theorem u1316 : Cond.methodLink "SevenSpellsModel" 183 ⟨"SevenSpellsModel", "brokenOf", "(I)I"⟩ ∈ T0 := T0_in (m6 (List.mem_of_getElem? (i := 36) rfl)) rfl
theorem u1317 : Cond.static ⟨"SevenSpellsModel", "brokenOf", "(I)I"⟩ ∈ T0 := T0_in (m6 (List.mem_of_getElem? (i := 37) rfl)) rfl
theorem u1319 : Cond.methodLink "SevenSpellsModel" 186 ⟨"SevenSpellsModel", "askedOf", "(I)I"⟩ ∈ T0 := T0_in (m6 (List.mem_of_getElem? (i := 39) rfl)) rfl
theorem u1320 : Cond.static ⟨"SevenSpellsModel", "askedOf", "(I)I"⟩ ∈ T0 := T0_in (m6 (List.mem_of_getElem? (i := 40) rfl)) rfl
theorem u1322 : Cond.methodLink "SevenSpellsLaw" 48 ⟨"SevenSpellsModel", "as", "(II)I"⟩ ∈ T0 := T0_in (m6 (List.mem_of_getElem? (i := 42) rfl)) rfl
theorem u1323 : Cond.instanceMethod ⟨"SevenSpellsModel", "as", "(II)I"⟩ ∈ T0 := T0_in (m6 (List.mem_of_getElem? (i := 43) rfl)) rfl
theorem u1326 : Cond.constantLong "SevenSpellsModel" 218 (5 : Int64) ∈ T0 := T0_in (m6 (List.mem_of_getElem? (i := 46) rfl)) rfl
theorem u1327 : Cond.methodLink "SevenSpellsModel" 206 ⟨"SevenSpellsModel", "soMany", "(III)I"⟩ ∈ T0 := T0_in (m6 (List.mem_of_getElem? (i := 47) rfl)) rfl
theorem u1329 : Cond.instanceMethod ⟨"SevenSpellsModel", "soMany", "(III)I"⟩ ∈ T0 := T0_in (m6 (List.mem_of_getElem? (i := 49) rfl)) rfl
theorem u1331 : Cond.methodLink "SevenSpellsLaw" 52 ⟨"SevenSpellsModel", "laidBy", "(I)I"⟩ ∈ T0 := T0_in (m6 (List.mem_of_getElem? (i := 51) rfl)) rfl
theorem u1332 : Cond.instanceMethod ⟨"SevenSpellsModel", "laidBy", "(I)I"⟩ ∈ T0 := T0_in (m6 (List.mem_of_getElem? (i := 52) rfl)) rfl
theorem u1335 : Cond.constantLong "SevenSpellsModel" 220 (3 : Int64) ∈ T0 := T0_in (m6 (List.mem_of_getElem? (i := 55) rfl)) rfl
theorem u1336 : Cond.constantLong "SevenSpellsModel" 222 (6 : Int64) ∈ T0 := T0_in (m6 (List.mem_of_getElem? (i := 56) rfl)) rfl
theorem u1337 : Cond.methodLink "SevenSpellsLaw" 56 ⟨"SevenSpellsModel", "can", "(III)I"⟩ ∈ T0 := T0_in (m6 (List.mem_of_getElem? (i := 57) rfl)) rfl
theorem u1338 : Cond.instanceMethod ⟨"SevenSpellsModel", "can", "(III)I"⟩ ∈ T0 := T0_in (m6 (List.mem_of_getElem? (i := 58) rfl)) rfl
theorem u1341 : Cond.methodLink "SevenSpellsModel" 224 ⟨"SevenSpellsModel", "deedOf", "(III)I"⟩ ∈ T0 := T0_in (m6 (List.mem_of_getElem? (i := 61) rfl)) rfl
theorem u1343 : Cond.instanceMethod ⟨"SevenSpellsModel", "deedOf", "(III)I"⟩ ∈ T0 := T0_in (m6 (List.mem_of_getElem? (i := 63) rfl)) rfl
theorem u1345 : Cond.methodLink "SevenSpellsModel" 227 ⟨"SevenSpellsModel", "canDo", "(II)Z"⟩ ∈ T0 := T0_in (m6 (List.mem_of_getElem? (i := 65) rfl)) rfl
theorem u1347 : Cond.instanceMethod ⟨"SevenSpellsModel", "canDo", "(II)Z"⟩ ∈ T0 := T0_in (m6 (List.mem_of_getElem? (i := 67) rfl)) rfl
theorem u1349 : Cond.methodLink "SevenSpellsLaw" 60 ⟨"SevenSpellsModel", "act", "(III)I"⟩ ∈ T0 := T0_in (m6 (List.mem_of_getElem? (i := 69) rfl)) rfl
theorem u1350 : Cond.instanceMethod ⟨"SevenSpellsModel", "act", "(III)I"⟩ ∈ T0 := T0_in (m6 (List.mem_of_getElem? (i := 70) rfl)) rfl
theorem u1353 : Cond.methodLink "SevenSpellsModel" 230 ⟨"SevenSpellsModel", "behind", "(II)I"⟩ ∈ T0 := T0_in (m6 (List.mem_of_getElem? (i := 73) rfl)) rfl
theorem u1355 : Cond.instanceMethod ⟨"SevenSpellsModel", "behind", "(II)I"⟩ ∈ T0 := T0_in (m6 (List.mem_of_getElem? (i := 75) rfl)) rfl
theorem u1357 : Cond.methodLink "SevenSpellsModel" 196 ⟨"SevenSpellsModel", "doOnly", "(II)I"⟩ ∈ T0 := T0_in (m6 (List.mem_of_getElem? (i := 77) rfl)) rfl
theorem u1359 : Cond.instanceMethod ⟨"SevenSpellsModel", "doOnly", "(II)I"⟩ ∈ T0 := T0_in (m6 (List.mem_of_getElem? (i := 79) rfl)) rfl
theorem u1361 : Cond.methodLink "SevenSpellsLaw" 64 ⟨"SevenSpellsModel", "undo", "()I"⟩ ∈ T0 := T0_in (m6 (List.mem_of_getElem? (i := 81) rfl)) rfl
theorem u1362 : Cond.instanceMethod ⟨"SevenSpellsModel", "undo", "()I"⟩ ∈ T0 := T0_in (m6 (List.mem_of_getElem? (i := 82) rfl)) rfl
theorem u1365 : Cond.methodLink "SevenSpellsLaw" 68 ⟨"SevenSpellsModel", "keep", "(I)I"⟩ ∈ T0 := T0_in (m6 (List.mem_of_getElem? (i := 85) rfl)) rfl
theorem u1366 : Cond.instanceMethod ⟨"SevenSpellsModel", "keep", "(I)I"⟩ ∈ T0 := T0_in (m6 (List.mem_of_getElem? (i := 86) rfl)) rfl
theorem u1369 : Cond.methodLink "SevenSpellsLaw" 72 ⟨"SevenSpellsModel", "back", "(I)I"⟩ ∈ T0 := T0_in (m6 (List.mem_of_getElem? (i := 89) rfl)) rfl
theorem u1370 : Cond.instanceMethod ⟨"SevenSpellsModel", "back", "(I)I"⟩ ∈ T0 := T0_in (m6 (List.mem_of_getElem? (i := 90) rfl)) rfl
theorem u1373 : Cond.methodLink "SevenSpellsLaw" 76 ⟨"SevenSpellsModel", "fewest", "(I)I"⟩ ∈ T0 := T0_in (m6 (List.mem_of_getElem? (i := 93) rfl)) rfl
theorem u1374 : Cond.instanceMethod ⟨"SevenSpellsModel", "fewest", "(I)I"⟩ ∈ T0 := T0_in (m6 (List.mem_of_getElem? (i := 94) rfl)) rfl
theorem u1377 : Cond.methodLink "SevenSpellsModel" 250 ⟨"SevenSpellsModel", "isSet", "(I)Z"⟩ ∈ T0 := T0_in (m6 (List.mem_of_getElem? (i := 97) rfl)) rfl
theorem u1379 : Cond.instanceMethod ⟨"SevenSpellsModel", "isSet", "(I)Z"⟩ ∈ T0 := T0_in (m6 (List.mem_of_getElem? (i := 99) rfl)) rfl
theorem u1381 : Cond.methodLink "SevenSpellsModel" 253 ⟨"SevenSpellsModel", "layAll", "(I)V"⟩ ∈ T0 := T0_in (m6 (List.mem_of_getElem? (i := 101) rfl)) rfl
theorem u1383 : Cond.instanceMethod ⟨"SevenSpellsModel", "layAll", "(I)V"⟩ ∈ T0 := T0_in (m6 (List.mem_of_getElem? (i := 103) rfl)) rfl
theorem u1385 : Cond.methodLink "SevenSpellsModel" 246 ⟨"SevenSpellsModel", "layFars", "(III)V"⟩ ∈ T0 := T0_in (m6 (List.mem_of_getElem? (i := 105) rfl)) rfl
theorem u1387 : Cond.instanceMethod ⟨"SevenSpellsModel", "layFars", "(III)V"⟩ ∈ T0 := T0_in (m6 (List.mem_of_getElem? (i := 107) rfl)) rfl
theorem u1389 : Cond.methodLink "SevenSpellsModel" 236 ⟨"SevenSpellsModel", "clearFars", "()V"⟩ ∈ T0 := T0_in (m6 (List.mem_of_getElem? (i := 109) rfl)) rfl
theorem u1391 : Cond.instanceMethod ⟨"SevenSpellsModel", "clearFars", "()V"⟩ ∈ T0 := T0_in (m6 (List.mem_of_getElem? (i := 111) rfl)) rfl
theorem u1393 : Cond.methodLink "SevenSpellsModel" 239 ⟨"SevenSpellsModel", "put", "(II)V"⟩ ∈ T0 := T0_in (m6 (List.mem_of_getElem? (i := 113) rfl)) rfl
theorem u1395 : Cond.instanceMethod ⟨"SevenSpellsModel", "put", "(II)V"⟩ ∈ T0 := T0_in (m6 (List.mem_of_getElem? (i := 115) rfl)) rfl
theorem u1397 : Cond.methodLink "SevenSpellsModel" 243 ⟨"SevenSpellsModel", "isBy", "(II)Z"⟩ ∈ T0 := T0_in (m6 (List.mem_of_getElem? (i := 117) rfl)) rfl
theorem u1398 : Cond.static ⟨"SevenSpellsModel", "isBy", "(II)Z"⟩ ∈ T0 := T0_in (m6 (List.mem_of_getElem? (i := 118) rfl)) rfl
theorem u1400 : Cond.methodLink "SevenSpellsModel" 256 ⟨"SevenSpellsModel", "fewestTo", "(I)I"⟩ ∈ T0 := T0_in (m6 (List.mem_of_getElem? (i := 120) rfl)) rfl
theorem u1402 : Cond.instanceMethod ⟨"SevenSpellsModel", "fewestTo", "(I)I"⟩ ∈ T0 := T0_in (m6 (List.mem_of_getElem? (i := 122) rfl)) rfl
theorem u1404 : Cond.methodLink "SevenSpellsLaw" 80 ⟨"SevenSpellsModel", "way", "(III)I"⟩ ∈ T0 := T0_in (m6 (List.mem_of_getElem? (i := 124) rfl)) rfl
theorem u1405 : Cond.instanceMethod ⟨"SevenSpellsModel", "way", "(III)I"⟩ ∈ T0 := T0_in (m6 (List.mem_of_getElem? (i := 125) rfl)) rfl
theorem u1408 : Cond.methodLink "SevenSpellsModel" 262 ⟨"SevenSpellsModel", "layWays", "(II)V"⟩ ∈ T0 := T0_in (m6 (List.mem_of_getElem? (i := 128) rfl)) rfl
theorem u1410 : Cond.instanceMethod ⟨"SevenSpellsModel", "layWays", "(II)V"⟩ ∈ T0 := T0_in (m6 (List.mem_of_getElem? (i := 130) rfl)) rfl
theorem u1412 : Cond.methodLink "SevenSpellsModel" 259 ⟨"SevenSpellsModel", "leads", "(II)Z"⟩ ∈ T0 := T0_in (m6 (List.mem_of_getElem? (i := 132) rfl)) rfl
theorem u1414 : Cond.instanceMethod ⟨"SevenSpellsModel", "leads", "(II)Z"⟩ ∈ T0 := T0_in (m6 (List.mem_of_getElem? (i := 134) rfl)) rfl
theorem u1416 : Cond.methodLink "SevenSpellsLaw" 84 ⟨"SevenSpellsModel", "helpers", "(II)I"⟩ ∈ T0 := T0_in (m6 (List.mem_of_getElem? (i := 136) rfl)) rfl
theorem u1417 : Cond.instanceMethod ⟨"SevenSpellsModel", "helpers", "(II)I"⟩ ∈ T0 := T0_in (m6 (List.mem_of_getElem? (i := 137) rfl)) rfl
theorem u1420 : Cond.methodLink "SevenSpellsModel" 265 ⟨"SevenSpellsModel", "bits", "(I)I"⟩ ∈ T0 := T0_in (m6 (List.mem_of_getElem? (i := 140) rfl)) rfl
theorem u1421 : Cond.static ⟨"SevenSpellsModel", "bits", "(I)I"⟩ ∈ T0 := T0_in (m6 (List.mem_of_getElem? (i := 141) rfl)) rfl
theorem u1423 : Cond.methodLink "SevenSpellsLaw" 88 ⟨"SevenSpellsModel", "nights", "(I)I"⟩ ∈ T0 := T0_in (m6 (List.mem_of_getElem? (i := 143) rfl)) rfl
theorem u1424 : Cond.instanceMethod ⟨"SevenSpellsModel", "nights", "(I)I"⟩ ∈ T0 := T0_in (m6 (List.mem_of_getElem? (i := 144) rfl)) rfl
theorem u1427 : Cond.methodLink "SevenSpellsLaw" 92 ⟨"SevenSpellsModel", "never", "()I"⟩ ∈ T0 := T0_in (m6 (List.mem_of_getElem? (i := 147) rfl)) rfl
theorem u1428 : Cond.instanceMethod ⟨"SevenSpellsModel", "never", "()I"⟩ ∈ T0 := T0_in (m6 (List.mem_of_getElem? (i := 148) rfl)) rfl
theorem u1431 : Cond.methodLink "SevenSpellsModel" 274 ⟨"SevenSpellsModel", "neverOf", "()I"⟩ ∈ T0 := T0_in (m6 (List.mem_of_getElem? (i := 151) rfl)) rfl
theorem u1433 : Cond.instanceMethod ⟨"SevenSpellsModel", "neverOf", "()I"⟩ ∈ T0 := T0_in (m6 (List.mem_of_getElem? (i := 153) rfl)) rfl
theorem u1435 : Cond.methodLink "SevenSpellsModel" 271 ⟨"SevenSpellsModel", "everHeld", "()I"⟩ ∈ T0 := T0_in (m6 (List.mem_of_getElem? (i := 155) rfl)) rfl
theorem u1437 : Cond.instanceMethod ⟨"SevenSpellsModel", "everHeld", "()I"⟩ ∈ T0 := T0_in (m6 (List.mem_of_getElem? (i := 157) rfl)) rfl
theorem u1439 : Cond.methodLink "SevenSpellsLaw" 96 ⟨"SevenSpellsModel", "ahead", "(I)I"⟩ ∈ T0 := T0_in (m6 (List.mem_of_getElem? (i := 159) rfl)) rfl
theorem u1440 : Cond.instanceMethod ⟨"SevenSpellsModel", "ahead", "(I)I"⟩ ∈ T0 := T0_in (m6 (List.mem_of_getElem? (i := 160) rfl)) rfl
theorem u1443 : Cond.methodLink "SevenSpellsLaw" 100 ⟨"SevenSpellsModel", "props", "()I"⟩ ∈ T0 := T0_in (m6 (List.mem_of_getElem? (i := 163) rfl)) rfl
theorem u1444 : Cond.instanceMethod ⟨"SevenSpellsModel", "props", "()I"⟩ ∈ T0 := T0_in (m6 (List.mem_of_getElem? (i := 164) rfl)) rfl
theorem u1447 : Cond.methodLink "SevenSpellsLaw" 104 ⟨"SevenSpellsModel", "gone", "(II)I"⟩ ∈ T0 := T0_in (m6 (List.mem_of_getElem? (i := 167) rfl)) rfl
theorem u1448 : Cond.instanceMethod ⟨"SevenSpellsModel", "gone", "(II)I"⟩ ∈ T0 := T0_in (m6 (List.mem_of_getElem? (i := 168) rfl)) rfl
theorem u1451 : Cond.methodLink "SevenSpellsLaw" 108 ⟨"SevenSpellsModel", "many", "(I)I"⟩ ∈ T0 := T0_in (m6 (List.mem_of_getElem? (i := 171) rfl)) rfl
theorem u1452 : Cond.instanceMethod ⟨"SevenSpellsModel", "many", "(I)I"⟩ ∈ T0 := T0_in (m6 (List.mem_of_getElem? (i := 172) rfl)) rfl
theorem u1455 : Cond.methodLink "SevenSpellsLaw" 112 ⟨"SevenSpellsModel", "farthest", "()I"⟩ ∈ T0 := T0_in (m6 (List.mem_of_getElem? (i := 175) rfl)) rfl
theorem u1456 : Cond.instanceMethod ⟨"SevenSpellsModel", "farthest", "()I"⟩ ∈ T0 := T0_in (m6 (List.mem_of_getElem? (i := 176) rfl)) rfl
theorem u1459 : Cond.methodLink "SevenSpellsLaw" 116 ⟨"SevenSpellsModel", "row", "(III)I"⟩ ∈ T0 := T0_in (m6 (List.mem_of_getElem? (i := 179) rfl)) rfl
theorem u1460 : Cond.instanceMethod ⟨"SevenSpellsModel", "row", "(III)I"⟩ ∈ T0 := T0_in (m6 (List.mem_of_getElem? (i := 180) rfl)) rfl
theorem u1463 : Cond.methodLink "SevenSpellsLaw" 120 ⟨"SevenSpellsModel", "burn", "()I"⟩ ∈ T0 := T0_in (m6 (List.mem_of_getElem? (i := 183) rfl)) rfl
theorem u1464 : Cond.instanceMethod ⟨"SevenSpellsModel", "burn", "()I"⟩ ∈ T0 := T0_in (m6 (List.mem_of_getElem? (i := 184) rfl)) rfl
theorem u1467 : Cond.methodLink "SevenSpellsLaw" 124 ⟨"SevenSpellsModel", "judge", "(I)I"⟩ ∈ T0 := T0_in (m6 (List.mem_of_getElem? (i := 187) rfl)) rfl
theorem u1468 : Cond.instanceMethod ⟨"SevenSpellsModel", "judge", "(I)I"⟩ ∈ T0 := T0_in (m6 (List.mem_of_getElem? (i := 188) rfl)) rfl
theorem u1471 : Cond.methodLink "SevenSpellsModel" 277 ⟨"SevenSpellsModel", "holdsOf", "(I)I"⟩ ∈ T0 := T0_in (m6 (List.mem_of_getElem? (i := 191) rfl)) rfl
theorem u1472 : Cond.static ⟨"SevenSpellsModel", "holdsOf", "(I)I"⟩ ∈ T0 := T0_in (m6 (List.mem_of_getElem? (i := 192) rfl)) rfl
theorem u1474 : Cond.methodLink "SevenSpellsLaw" 128 ⟨"SevenSpellsModel", "prince", "(III)I"⟩ ∈ T0 := T0_in (m6 (List.mem_of_getElem? (i := 194) rfl)) rfl
theorem u1475 : Cond.instanceMethod ⟨"SevenSpellsModel", "prince", "(III)I"⟩ ∈ T0 := T0_in (m6 (List.mem_of_getElem? (i := 195) rfl)) rfl
theorem u1478 : Cond.methodLink "SevenSpellsLaw" 132 ⟨"SevenSpellsModel", "dismiss", "()I"⟩ ∈ T0 := T0_in (m6 (List.mem_of_getElem? (i := 198) rfl)) rfl
theorem u1479 : Cond.instanceMethod ⟨"SevenSpellsModel", "dismiss", "()I"⟩ ∈ T0 := T0_in (m6 (List.mem_of_getElem? (i := 199) rfl)) rfl
theorem u1482 : Cond.methodLink "SevenSpellsLaw" 136 ⟨"SevenSpellsModel", "inLine", "(I)I"⟩ ∈ T0 := T0_in (m6 (List.mem_of_getElem? (i := 202) rfl)) rfl
theorem u1483 : Cond.instanceMethod ⟨"SevenSpellsModel", "inLine", "(I)I"⟩ ∈ T0 := T0_in (m6 (List.mem_of_getElem? (i := 203) rfl)) rfl
theorem u1486 : Cond.methodLink "SevenSpellsLaw" 141 ⟨"SevenSpellsModel", "tried", "(IIIII)I"⟩ ∈ T0 := T0_in (m6 (List.mem_of_getElem? (i := 206) rfl)) rfl
theorem u1487 : Cond.instanceMethod ⟨"SevenSpellsModel", "tried", "(IIIII)I"⟩ ∈ T0 := T0_in (m6 (List.mem_of_getElem? (i := 207) rfl)) rfl
theorem u1490 : Cond.methodLink "SevenSpellsLaw" 145 ⟨"SevenSpellsModel", "forget", "()I"⟩ ∈ T0 := T0_in (m6 (List.mem_of_getElem? (i := 210) rfl)) rfl
theorem u1491 : Cond.instanceMethod ⟨"SevenSpellsModel", "forget", "()I"⟩ ∈ T0 := T0_in (m6 (List.mem_of_getElem? (i := 211) rfl)) rfl
theorem u1494 : Cond.methodLink "SevenSpellsLaw" 149 ⟨"SevenSpellsModel", "mayBe", "(I)I"⟩ ∈ T0 := T0_in (m6 (List.mem_of_getElem? (i := 214) rfl)) rfl
theorem u1495 : Cond.instanceMethod ⟨"SevenSpellsModel", "mayBe", "(I)I"⟩ ∈ T0 := T0_in (m6 (List.mem_of_getElem? (i := 215) rfl)) rfl
theorem u1498 : Cond.methodLink "SevenSpellsModel" 290 ⟨"SevenSpellsModel", "termMany", "()I"⟩ ∈ T0 := T0_in (m6 (List.mem_of_getElem? (i := 218) rfl)) rfl
theorem u1500 : Cond.instanceMethod ⟨"SevenSpellsModel", "termMany", "()I"⟩ ∈ T0 := T0_in (m6 (List.mem_of_getElem? (i := 220) rfl)) rfl
theorem u1502 : Cond.methodLink "SevenSpellsModel" 293 ⟨"SevenSpellsModel", "fits", "(II)Z"⟩ ∈ T0 := T0_in (m6 (List.mem_of_getElem? (i := 222) rfl)) rfl
theorem u1504 : Cond.instanceMethod ⟨"SevenSpellsModel", "fits", "(II)Z"⟩ ∈ T0 := T0_in (m6 (List.mem_of_getElem? (i := 224) rfl)) rfl
theorem u1506 : Cond.methodLink "SevenSpellsModel" 286 ⟨"SevenSpellsModel", "wasSo", "(IIIII)Z"⟩ ∈ T0 := T0_in (m6 (List.mem_of_getElem? (i := 226) rfl)) rfl
theorem u1508 : Cond.instanceMethod ⟨"SevenSpellsModel", "wasSo", "(IIIII)Z"⟩ ∈ T0 := T0_in (m6 (List.mem_of_getElem? (i := 228) rfl)) rfl
theorem u1510 : Cond.methodLink "SevenSpellsModel" 280 ⟨"SevenSpellsModel", "numberOf", "(I)I"⟩ ∈ T0 := T0_in (m6 (List.mem_of_getElem? (i := 230) rfl)) rfl
theorem u1512 : Cond.instanceMethod ⟨"SevenSpellsModel", "numberOf", "(I)I"⟩ ∈ T0 := T0_in (m6 (List.mem_of_getElem? (i := 232) rfl)) rfl
theorem u1514 : Cond.methodLink "SevenSpellsModel" 283 ⟨"SevenSpellsModel", "termOf", "(I)I"⟩ ∈ T0 := T0_in (m6 (List.mem_of_getElem? (i := 234) rfl)) rfl
theorem u1516 : Cond.instanceMethod ⟨"SevenSpellsModel", "termOf", "(I)I"⟩ ∈ T0 := T0_in (m6 (List.mem_of_getElem? (i := 236) rfl)) rfl
theorem u1518 : Cond.methodLink "SevenSpellsLaw" 153 ⟨"SevenSpellsModel", "next", "()I"⟩ ∈ T0 := T0_in (m6 (List.mem_of_getElem? (i := 238) rfl)) rfl
theorem u1519 : Cond.instanceMethod ⟨"SevenSpellsModel", "next", "()I"⟩ ∈ T0 := T0_in (m6 (List.mem_of_getElem? (i := 239) rfl)) rfl
theorem u1522 : Cond.methodLink "SevenSpellsLaw" 157 ⟨"SevenSpellsModel", "count", "(I)I"⟩ ∈ T0 := T0_in (m7 (List.mem_of_getElem? (i := 2) rfl)) rfl
theorem u1523 : Cond.instanceMethod ⟨"SevenSpellsModel", "count", "(I)I"⟩ ∈ T0 := T0_in (m7 (List.mem_of_getElem? (i := 3) rfl)) rfl
theorem u1526 : Cond.fieldLink "java/lang/String" 9 "java/lang/String" "value" "[B" ∈ T0 := T0_in (m7 (List.mem_of_getElem? (i := 6) rfl)) rfl
theorem u1527 : Cond.fieldLink "java/lang/String" 15 "java/lang/String" "coder" "B" ∈ T0 := T0_in (m7 (List.mem_of_getElem? (i := 7) rfl)) rfl
theorem K_X3_init : CalI yX3_init cX3_init 2 1 := ⟨T0_in (m1 (List.mem_of_getElem? (i := 32) rfl)) rfl, T0_in (m1 (List.mem_of_getElem? (i := 31) rfl)) rfl, T0_in (m1 (List.mem_of_getElem? (i := 2) rfl)) rfl, rfl, ⟨by decide +kernel, by decide +kernel, by decide +kernel⟩, by decide⟩
theorem K_X8_init : CalI yX8_init cX8_init 1 0 := ⟨T0_in (m1 (List.mem_of_getElem? (i := 49) rfl)) rfl, T0_in (m1 (List.mem_of_getElem? (i := 48) rfl)) rfl, T0_in (m1 (List.mem_of_getElem? (i := 4) rfl)) rfl, rfl, ⟨by decide +kernel, by decide +kernel, by decide +kernel⟩, by decide⟩
theorem K_X2_init : CalI yX2_init cX2_init 2 1 := ⟨T0_in (m1 (List.mem_of_getElem? (i := 86) rfl)) rfl, T0_in (m1 (List.mem_of_getElem? (i := 85) rfl)) rfl, T0_in (m1 (List.mem_of_getElem? (i := 5) rfl)) rfl, rfl, ⟨by decide +kernel, by decide +kernel, by decide +kernel⟩, by decide⟩
theorem K_X4_init : CalI yX4_init cX4_init 1 0 := ⟨T0_in (m1 (List.mem_of_getElem? (i := 115) rfl)) rfl, T0_in (m1 (List.mem_of_getElem? (i := 114) rfl)) rfl, T0_in (m1 (List.mem_of_getElem? (i := 6) rfl)) rfl, rfl, ⟨by decide +kernel, by decide +kernel, by decide +kernel⟩, by decide⟩
theorem K_X5_init : CalI yX5_init cX5_init 2 1 := ⟨T0_in (m1 (List.mem_of_getElem? (i := 170) rfl)) rfl, T0_in (m1 (List.mem_of_getElem? (i := 169) rfl)) rfl, T0_in (m1 (List.mem_of_getElem? (i := 7) rfl)) rfl, rfl, ⟨by decide +kernel, by decide +kernel, by decide +kernel⟩, by decide⟩
theorem K_X9_init : CalI yX9_init cX9_init 1 0 := ⟨T0_in (m1 (List.mem_of_getElem? (i := 205) rfl)) rfl, T0_in (m1 (List.mem_of_getElem? (i := 204) rfl)) rfl, T0_in (m1 (List.mem_of_getElem? (i := 8) rfl)) rfl, rfl, ⟨by decide +kernel, by decide +kernel, by decide +kernel⟩, by decide⟩
theorem K_X8_people : CalV yX8_people cX8_people 1 (some .int) 0 := ⟨T0_in (m1 (List.mem_of_getElem? (i := 233) rfl)) rfl, T0_in (m1 (List.mem_of_getElem? (i := 231) rfl)) rfl, T0_in (m1 (List.mem_of_getElem? (i := 232) rfl)) rfl, T0_in (m1 (List.mem_of_getElem? (i := 4) rfl)) rfl, ⟨by decide +kernel, by decide +kernel, by decide +kernel⟩, by decide⟩
theorem K_X8_spells : CalV yX8_spells cX8_spells 1 (some .int) 0 := ⟨T0_in (m1 (List.mem_of_getElem? (i := 237) rfl)) rfl, T0_in (m1 (List.mem_of_getElem? (i := 235) rfl)) rfl, T0_in (m1 (List.mem_of_getElem? (i := 236) rfl)) rfl, T0_in (m1 (List.mem_of_getElem? (i := 4) rfl)) rfl, ⟨by decide +kernel, by decide +kernel, by decide +kernel⟩, by decide⟩
theorem K_X8_hasSpell : CalV yX8_hasSpell cX8_hasSpell 2 (some .boolean) 1 := ⟨T0_in (m2 (List.mem_of_getElem? (i := 15) rfl)) rfl, T0_in (m2 (List.mem_of_getElem? (i := 13) rfl)) rfl, T0_in (m2 (List.mem_of_getElem? (i := 14) rfl)) rfl, T0_in (m1 (List.mem_of_getElem? (i := 4) rfl)) rfl, ⟨by decide +kernel, by decide +kernel, by decide +kernel⟩, by decide⟩
theorem K_X8_kindOf : CalV yX8_kindOf cX8_kindOf 2 (some .int) 1 := ⟨T0_in (m2 (List.mem_of_getElem? (i := 11) rfl)) rfl, T0_in (m2 (List.mem_of_getElem? (i := 9) rfl)) rfl, T0_in (m2 (List.mem_of_getElem? (i := 10) rfl)) rfl, T0_in (m1 (List.mem_of_getElem? (i := 4) rfl)) rfl, ⟨by decide +kernel, by decide +kernel, by decide +kernel⟩, by decide⟩
theorem K_X8_targetOf : CalV yX8_targetOf cX8_targetOf 2 (some .int) 1 := ⟨T0_in (m2 (List.mem_of_getElem? (i := 19) rfl)) rfl, T0_in (m2 (List.mem_of_getElem? (i := 17) rfl)) rfl, T0_in (m2 (List.mem_of_getElem? (i := 18) rfl)) rfl, T0_in (m1 (List.mem_of_getElem? (i := 4) rfl)) rfl, ⟨by decide +kernel, by decide +kernel, by decide +kernel⟩, by decide⟩
theorem K_X4_isCurse : CalS yX4_isCurse cX4_isCurse 2 (some .boolean) 2 := ⟨T0_in (m2 (List.mem_of_getElem? (i := 22) rfl)) rfl, T0_in (m2 (List.mem_of_getElem? (i := 21) rfl)) rfl, T0_in (m1 (List.mem_of_getElem? (i := 6) rfl)) rfl, ⟨by decide +kernel, by decide +kernel, by decide +kernel⟩, by decide⟩
theorem K_X4_learnTargets : CalV yX4_learnTargets cX4_learnTargets 5 none 1 := ⟨T0_in (m2 (List.mem_of_getElem? (i := 4) rfl)) rfl, T0_in (m2 (List.mem_of_getElem? (i := 3) rfl)) rfl, T0_in (m0 (List.mem_of_getElem? (i := 1) rfl)) rfl, T0_in (m1 (List.mem_of_getElem? (i := 6) rfl)) rfl, ⟨by decide +kernel, by decide +kernel, by decide +kernel⟩, by decide⟩
theorem K_X8_wakenedBy : CalV yX8_wakenedBy cX8_wakenedBy 2 (some .int) 1 := ⟨T0_in (m2 (List.mem_of_getElem? (i := 30) rfl)) rfl, T0_in (m2 (List.mem_of_getElem? (i := 28) rfl)) rfl, T0_in (m2 (List.mem_of_getElem? (i := 29) rfl)) rfl, T0_in (m1 (List.mem_of_getElem? (i := 4) rfl)) rfl, ⟨by decide +kernel, by decide +kernel, by decide +kernel⟩, by decide⟩
theorem K_X8_termsOf : CalV yX8_termsOf cX8_termsOf 2 (some .int) 1 := ⟨T0_in (m2 (List.mem_of_getElem? (i := 34) rfl)) rfl, T0_in (m2 (List.mem_of_getElem? (i := 32) rfl)) rfl, T0_in (m2 (List.mem_of_getElem? (i := 33) rfl)) rfl, T0_in (m1 (List.mem_of_getElem? (i := 4) rfl)) rfl, ⟨by decide +kernel, by decide +kernel, by decide +kernel⟩, by decide⟩
theorem K_X8_hasTerm : CalV yX8_hasTerm cX8_hasTerm 3 (some .boolean) 2 := ⟨T0_in (m2 (List.mem_of_getElem? (i := 42) rfl)) rfl, T0_in (m2 (List.mem_of_getElem? (i := 41) rfl)) rfl, T0_in (m0 (List.mem_of_getElem? (i := 3) rfl)) rfl, T0_in (m1 (List.mem_of_getElem? (i := 4) rfl)) rfl, ⟨by decide +kernel, by decide +kernel, by decide +kernel⟩, by decide⟩
theorem K_X8_sortOf : CalV yX8_sortOf cX8_sortOf 3 (some .int) 2 := ⟨T0_in (m2 (List.mem_of_getElem? (i := 38) rfl)) rfl, T0_in (m2 (List.mem_of_getElem? (i := 36) rfl)) rfl, T0_in (m2 (List.mem_of_getElem? (i := 37) rfl)) rfl, T0_in (m1 (List.mem_of_getElem? (i := 4) rfl)) rfl, ⟨by decide +kernel, by decide +kernel, by decide +kernel⟩, by decide⟩
theorem K_X8_numberOf : CalV yX8_numberOf cX8_numberOf 3 (some .int) 2 := ⟨T0_in (m2 (List.mem_of_getElem? (i := 46) rfl)) rfl, T0_in (m2 (List.mem_of_getElem? (i := 44) rfl)) rfl, T0_in (m2 (List.mem_of_getElem? (i := 45) rfl)) rfl, T0_in (m1 (List.mem_of_getElem? (i := 4) rfl)) rfl, ⟨by decide +kernel, by decide +kernel, by decide +kernel⟩, by decide⟩
theorem K_X4_kissOf : CalS yX4_kissOf cX4_kissOf 2 (some .int) 2 := ⟨T0_in (m2 (List.mem_of_getElem? (i := 49) rfl)) rfl, T0_in (m2 (List.mem_of_getElem? (i := 48) rfl)) rfl, T0_in (m1 (List.mem_of_getElem? (i := 6) rfl)) rfl, ⟨by decide +kernel, by decide +kernel, by decide +kernel⟩, by decide⟩
theorem K_X4_needKiss : CalV yX4_needKiss cX4_needKiss 4 none 2 := ⟨T0_in (m2 (List.mem_of_getElem? (i := 53) rfl)) rfl, T0_in (m2 (List.mem_of_getElem? (i := 52) rfl)) rfl, T0_in (m0 (List.mem_of_getElem? (i := 4) rfl)) rfl, T0_in (m1 (List.mem_of_getElem? (i := 6) rfl)) rfl, ⟨by decide +kernel, by decide +kernel, by decide +kernel⟩, by decide⟩
theorem K_X7_maskOf : CalS yX7_maskOf cX7_maskOf 2 (some .int) 2 := ⟨T0_in (m2 (List.mem_of_getElem? (i := 57) rfl)) rfl, T0_in (m2 (List.mem_of_getElem? (i := 56) rfl)) rfl, T0_in (m1 (List.mem_of_getElem? (i := 10) rfl)) rfl, ⟨by decide +kernel, by decide +kernel, by decide +kernel⟩, by decide⟩
theorem K_X7_valueOf : CalS yX7_valueOf cX7_valueOf 2 (some .int) 2 := ⟨T0_in (m2 (List.mem_of_getElem? (i := 61) rfl)) rfl, T0_in (m2 (List.mem_of_getElem? (i := 60) rfl)) rfl, T0_in (m1 (List.mem_of_getElem? (i := 10) rfl)) rfl, ⟨by decide +kernel, by decide +kernel, by decide +kernel⟩, by decide⟩
theorem K_X4_needBits : CalV yX4_needBits cX4_needBits 4 none 3 := ⟨T0_in (m2 (List.mem_of_getElem? (i := 66) rfl)) rfl, T0_in (m2 (List.mem_of_getElem? (i := 65) rfl)) rfl, T0_in (m0 (List.mem_of_getElem? (i := 5) rfl)) rfl, T0_in (m1 (List.mem_of_getElem? (i := 6) rfl)) rfl, ⟨by decide +kernel, by decide +kernel, by decide +kernel⟩, by decide⟩
theorem K_X4_learnSpell : CalV yX4_learnSpell cX4_learnSpell 7 none 2 := ⟨T0_in (m2 (List.mem_of_getElem? (i := 26) rfl)) rfl, T0_in (m2 (List.mem_of_getElem? (i := 25) rfl)) rfl, T0_in (m0 (List.mem_of_getElem? (i := 2) rfl)) rfl, T0_in (m1 (List.mem_of_getElem? (i := 6) rfl)) rfl, ⟨by decide +kernel, by decide +kernel, by decide +kernel⟩, by decide⟩
theorem K_X4_cursesOn : CalV yX4_cursesOn cX4_cursesOn 3 (some .int) 2 := ⟨T0_in (m2 (List.mem_of_getElem? (i := 74) rfl)) rfl, T0_in (m2 (List.mem_of_getElem? (i := 72) rfl)) rfl, T0_in (m2 (List.mem_of_getElem? (i := 73) rfl)) rfl, T0_in (m1 (List.mem_of_getElem? (i := 6) rfl)) rfl, ⟨by decide +kernel, by decide +kernel, by decide +kernel⟩, by decide⟩
theorem K_X4_addDeed : CalV yX4_addDeed cX4_addDeed 6 none 5 := ⟨T0_in (m2 (List.mem_of_getElem? (i := 78) rfl)) rfl, T0_in (m2 (List.mem_of_getElem? (i := 77) rfl)) rfl, T0_in (m0 (List.mem_of_getElem? (i := 7) rfl)) rfl, T0_in (m1 (List.mem_of_getElem? (i := 6) rfl)) rfl, ⟨by decide +kernel, by decide +kernel, by decide +kernel⟩, by decide⟩
theorem K_X4_learnDeeds : CalV yX4_learnDeeds cX4_learnDeeds 6 none 0 := ⟨T0_in (m2 (List.mem_of_getElem? (i := 70) rfl)) rfl, T0_in (m2 (List.mem_of_getElem? (i := 69) rfl)) rfl, T0_in (m0 (List.mem_of_getElem? (i := 6) rfl)) rfl, T0_in (m1 (List.mem_of_getElem? (i := 6) rfl)) rfl, ⟨by decide +kernel, by decide +kernel, by decide +kernel⟩, by decide⟩
theorem K_X4_learn : CalV yX4_learn cX4_learn 3 none 1 := ⟨T0_in (m1 (List.mem_of_getElem? (i := 229) rfl)) rfl, T0_in (m1 (List.mem_of_getElem? (i := 227) rfl)) rfl, T0_in (m1 (List.mem_of_getElem? (i := 228) rfl)) rfl, T0_in (m1 (List.mem_of_getElem? (i := 6) rfl)) rfl, ⟨by decide +kernel, by decide +kernel, by decide +kernel⟩, by decide⟩
theorem K_X5_stale : CalV yX5_stale cX5_stale 1 none 0 := ⟨T0_in (m2 (List.mem_of_getElem? (i := 82) rfl)) rfl, T0_in (m2 (List.mem_of_getElem? (i := 80) rfl)) rfl, T0_in (m2 (List.mem_of_getElem? (i := 81) rfl)) rfl, T0_in (m1 (List.mem_of_getElem? (i := 7) rfl)) rfl, ⟨by decide +kernel, by decide +kernel, by decide +kernel⟩, by decide⟩
theorem K_X8_firstState : CalV yX8_firstState cX8_firstState 1 (some .int) 0 := ⟨T0_in (m2 (List.mem_of_getElem? (i := 86) rfl)) rfl, T0_in (m2 (List.mem_of_getElem? (i := 84) rfl)) rfl, T0_in (m2 (List.mem_of_getElem? (i := 85) rfl)) rfl, T0_in (m1 (List.mem_of_getElem? (i := 4) rfl)) rfl, ⟨by decide +kernel, by decide +kernel, by decide +kernel⟩, by decide⟩
theorem K_X3_empty : CalV yX3_empty cX3_empty 2 (some .int) 0 := ⟨T0_in (m2 (List.mem_of_getElem? (i := 90) rfl)) rfl, T0_in (m2 (List.mem_of_getElem? (i := 88) rfl)) rfl, T0_in (m2 (List.mem_of_getElem? (i := 89) rfl)) rfl, T0_in (m1 (List.mem_of_getElem? (i := 2) rfl)) rfl, ⟨by decide +kernel, by decide +kernel, by decide +kernel⟩, by decide⟩
theorem K_X9_empty : CalV yX9_empty cX9_empty 1 (some .int) 0 := ⟨T0_in (m2 (List.mem_of_getElem? (i := 95) rfl)) rfl, T0_in (m2 (List.mem_of_getElem? (i := 93) rfl)) rfl, T0_in (m2 (List.mem_of_getElem? (i := 94) rfl)) rfl, T0_in (m1 (List.mem_of_getElem? (i := 8) rfl)) rfl, ⟨by decide +kernel, by decide +kernel, by decide +kernel⟩, by decide⟩
theorem K_X10_beginAsTold : CalV yX10_beginAsTold cX10_beginAsTold 1 none 0 := ⟨T0_in (m1 (List.mem_of_getElem? (i := 225) rfl)) rfl, T0_in (m1 (List.mem_of_getElem? (i := 224) rfl)) rfl, T0_in (m0 (List.mem_of_getElem? (i := 0) rfl)) rfl, T0_in (m1 (List.mem_of_getElem? (i := 1) rfl)) rfl, ⟨by decide +kernel, by decide +kernel, by decide +kernel⟩, by decide⟩
theorem K_X10_init : CalI yX10_init cX10_init 1 0 := ⟨T0_in (m1 (List.mem_of_getElem? (i := 24) rfl)) rfl, T0_in (m1 (List.mem_of_getElem? (i := 23) rfl)) rfl, T0_in (m1 (List.mem_of_getElem? (i := 1) rfl)) rfl, rfl, ⟨by decide +kernel, by decide +kernel, by decide +kernel⟩, by decide⟩
theorem K_X3_add : CalV yX3_add cX3_add 2 (some .boolean) 1 := ⟨T0_in (m2 (List.mem_of_getElem? (i := 147) rfl)) rfl, T0_in (m2 (List.mem_of_getElem? (i := 145) rfl)) rfl, T0_in (m2 (List.mem_of_getElem? (i := 146) rfl)) rfl, T0_in (m1 (List.mem_of_getElem? (i := 2) rfl)) rfl, ⟨by decide +kernel, by decide +kernel, by decide +kernel⟩, by decide⟩
theorem K_X3_size : CalV yX3_size cX3_size 1 (some .int) 0 := ⟨T0_in (m2 (List.mem_of_getElem? (i := 151) rfl)) rfl, T0_in (m2 (List.mem_of_getElem? (i := 149) rfl)) rfl, T0_in (m2 (List.mem_of_getElem? (i := 150) rfl)) rfl, T0_in (m1 (List.mem_of_getElem? (i := 2) rfl)) rfl, ⟨by decide +kernel, by decide +kernel, by decide +kernel⟩, by decide⟩
theorem K_X10_write : CalV yX10_write cX10_write 2 (some .int) 1 := ⟨T0_in (m2 (List.mem_of_getElem? (i := 143) rfl)) rfl, T0_in (m2 (List.mem_of_getElem? (i := 141) rfl)) rfl, T0_in (m2 (List.mem_of_getElem? (i := 142) rfl)) rfl, T0_in (m1 (List.mem_of_getElem? (i := 1) rfl)) rfl, ⟨by decide +kernel, by decide +kernel, by decide +kernel⟩, by decide⟩
theorem K_X10_erase : CalV yX10_erase cX10_erase 1 (some .int) 0 := ⟨T0_in (m2 (List.mem_of_getElem? (i := 155) rfl)) rfl, T0_in (m2 (List.mem_of_getElem? (i := 153) rfl)) rfl, T0_in (m2 (List.mem_of_getElem? (i := 154) rfl)) rfl, T0_in (m1 (List.mem_of_getElem? (i := 1) rfl)) rfl, ⟨by decide +kernel, by decide +kernel, by decide +kernel⟩, by decide⟩
theorem K_X8_takeOver : CalV yX8_takeOver cX8_takeOver 2 none 1 := ⟨T0_in (m2 (List.mem_of_getElem? (i := 167) rfl)) rfl, T0_in (m2 (List.mem_of_getElem? (i := 165) rfl)) rfl, T0_in (m2 (List.mem_of_getElem? (i := 166) rfl)) rfl, T0_in (m1 (List.mem_of_getElem? (i := 4) rfl)) rfl, ⟨by decide +kernel, by decide +kernel, by decide +kernel⟩, by decide⟩
theorem K_X3_at : CalV yX3_at cX3_at 2 (some .int) 1 := ⟨T0_in (m2 (List.mem_of_getElem? (i := 184) rfl)) rfl, T0_in (m2 (List.mem_of_getElem? (i := 182) rfl)) rfl, T0_in (m2 (List.mem_of_getElem? (i := 183) rfl)) rfl, T0_in (m1 (List.mem_of_getElem? (i := 2) rfl)) rfl, ⟨by decide +kernel, by decide +kernel, by decide +kernel⟩, by decide⟩
theorem K_X2_isSmall : CalS yX2_isSmall cX2_isSmall 1 (some .boolean) 1 := ⟨T0_in (m2 (List.mem_of_getElem? (i := 187) rfl)) rfl, T0_in (m2 (List.mem_of_getElem? (i := 186) rfl)) rfl, T0_in (m1 (List.mem_of_getElem? (i := 5) rfl)) rfl, ⟨by decide +kernel, by decide +kernel, by decide +kernel⟩, by decide⟩
theorem K_X2_isDigit : CalS yX2_isDigit cX2_isDigit 1 (some .boolean) 1 := ⟨T0_in (m2 (List.mem_of_getElem? (i := 190) rfl)) rfl, T0_in (m2 (List.mem_of_getElem? (i := 189) rfl)) rfl, T0_in (m1 (List.mem_of_getElem? (i := 5) rfl)) rfl, ⟨by decide +kernel, by decide +kernel, by decide +kernel⟩, by decide⟩
theorem K_X2_beginsToken : CalV yX2_beginsToken cX2_beginsToken 5 (some .boolean) 1 := ⟨T0_in (m2 (List.mem_of_getElem? (i := 180) rfl)) rfl, T0_in (m2 (List.mem_of_getElem? (i := 179) rfl)) rfl, T0_in (m0 (List.mem_of_getElem? (i := 9) rfl)) rfl, T0_in (m1 (List.mem_of_getElem? (i := 5) rfl)) rfl, ⟨by decide +kernel, by decide +kernel, by decide +kernel⟩, by decide⟩
theorem K_X2_endOfToken : CalV yX2_endOfToken cX2_endOfToken 3 (some .int) 1 := ⟨T0_in (m2 (List.mem_of_getElem? (i := 194) rfl)) rfl, T0_in (m2 (List.mem_of_getElem? (i := 193) rfl)) rfl, T0_in (m0 (List.mem_of_getElem? (i := 10) rfl)) rfl, T0_in (m1 (List.mem_of_getElem? (i := 5) rfl)) rfl, ⟨by decide +kernel, by decide +kernel, by decide +kernel⟩, by decide⟩
theorem K_X2_isSpelled : CalV yX2_isSpelled cX2_isSpelled 5 (some .boolean) 3 := ⟨T0_in (m3 (List.mem_of_getElem? (i := 15) rfl)) rfl, T0_in (m3 (List.mem_of_getElem? (i := 14) rfl)) rfl, T0_in (m0 (List.mem_of_getElem? (i := 13) rfl)) rfl, T0_in (m1 (List.mem_of_getElem? (i := 5) rfl)) rfl, ⟨by decide +kernel, by decide +kernel, by decide +kernel⟩, by decide⟩
theorem K_X2_wordCode : CalV yX2_wordCode cX2_wordCode 6 (some .int) 2 := ⟨T0_in (m2 (List.mem_of_getElem? (i := 202) rfl)) rfl, T0_in (m2 (List.mem_of_getElem? (i := 201) rfl)) rfl, T0_in (m0 (List.mem_of_getElem? (i := 12) rfl)) rfl, T0_in (m1 (List.mem_of_getElem? (i := 5) rfl)) rfl, ⟨by decide +kernel, by decide +kernel, by decide +kernel⟩, by decide⟩
theorem K_X2_codeOf : CalV yX2_codeOf cX2_codeOf 4 (some .int) 2 := ⟨T0_in (m2 (List.mem_of_getElem? (i := 198) rfl)) rfl, T0_in (m2 (List.mem_of_getElem? (i := 197) rfl)) rfl, T0_in (m0 (List.mem_of_getElem? (i := 11) rfl)) rfl, T0_in (m1 (List.mem_of_getElem? (i := 5) rfl)) rfl, ⟨by decide +kernel, by decide +kernel, by decide +kernel⟩, by decide⟩
theorem K_X2_cutIntoTokens : CalV yX2_cutIntoTokens cX2_cutIntoTokens 2 none 0 := ⟨T0_in (m2 (List.mem_of_getElem? (i := 174) rfl)) rfl, T0_in (m2 (List.mem_of_getElem? (i := 173) rfl)) rfl, T0_in (m0 (List.mem_of_getElem? (i := 8) rfl)) rfl, T0_in (m1 (List.mem_of_getElem? (i := 5) rfl)) rfl, ⟨by decide +kernel, by decide +kernel, by decide +kernel⟩, by decide⟩
theorem K_X8_isFull : CalV yX8_isFull cX8_isFull 1 (some .boolean) 0 := ⟨T0_in (m3 (List.mem_of_getElem? (i := 28) rfl)) rfl, T0_in (m3 (List.mem_of_getElem? (i := 26) rfl)) rfl, T0_in (m3 (List.mem_of_getElem? (i := 27) rfl)) rfl, T0_in (m1 (List.mem_of_getElem? (i := 4) rfl)) rfl, ⟨by decide +kernel, by decide +kernel, by decide +kernel⟩, by decide⟩
theorem K_X2_lastNumberBehind : CalV yX2_lastNumberBehind cX2_lastNumberBehind 2 (some .int) 1 := ⟨T0_in (m3 (List.mem_of_getElem? (i := 36) rfl)) rfl, T0_in (m3 (List.mem_of_getElem? (i := 35) rfl)) rfl, T0_in (m0 (List.mem_of_getElem? (i := 17) rfl)) rfl, T0_in (m1 (List.mem_of_getElem? (i := 5) rfl)) rfl, ⟨by decide +kernel, by decide +kernel, by decide +kernel⟩, by decide⟩
theorem K_X2_takeNumberBehind : CalV yX2_takeNumberBehind cX2_takeNumberBehind 4 (some .int) 1 := ⟨T0_in (m3 (List.mem_of_getElem? (i := 32) rfl)) rfl, T0_in (m3 (List.mem_of_getElem? (i := 31) rfl)) rfl, T0_in (m0 (List.mem_of_getElem? (i := 16) rfl)) rfl, T0_in (m1 (List.mem_of_getElem? (i := 5) rfl)) rfl, ⟨by decide +kernel, by decide +kernel, by decide +kernel⟩, by decide⟩
theorem K_X2_takes : CalV yX2_takes cX2_takes 2 (some .boolean) 1 := ⟨T0_in (m3 (List.mem_of_getElem? (i := 42) rfl)) rfl, T0_in (m3 (List.mem_of_getElem? (i := 41) rfl)) rfl, T0_in (m0 (List.mem_of_getElem? (i := 18) rfl)) rfl, T0_in (m1 (List.mem_of_getElem? (i := 5) rfl)) rfl, ⟨by decide +kernel, by decide +kernel, by decide +kernel⟩, by decide⟩
theorem K_X8_beginSpell : CalV yX8_beginSpell cX8_beginSpell 3 none 2 := ⟨T0_in (m3 (List.mem_of_getElem? (i := 46) rfl)) rfl, T0_in (m3 (List.mem_of_getElem? (i := 44) rfl)) rfl, T0_in (m3 (List.mem_of_getElem? (i := 45) rfl)) rfl, T0_in (m1 (List.mem_of_getElem? (i := 4) rfl)) rfl, ⟨by decide +kernel, by decide +kernel, by decide +kernel⟩, by decide⟩
theorem K_X8_addTerm : CalV yX8_addTerm cX8_addTerm 4 none 2 := ⟨T0_in (m3 (List.mem_of_getElem? (i := 55) rfl)) rfl, T0_in (m3 (List.mem_of_getElem? (i := 53) rfl)) rfl, T0_in (m3 (List.mem_of_getElem? (i := 54) rfl)) rfl, T0_in (m1 (List.mem_of_getElem? (i := 4) rfl)) rfl, ⟨by decide +kernel, by decide +kernel, by decide +kernel⟩, by decide⟩
theorem K_X2_readTerm : CalV yX2_readTerm cX2_readTerm 3 (some .boolean) 0 := ⟨T0_in (m3 (List.mem_of_getElem? (i := 51) rfl)) rfl, T0_in (m3 (List.mem_of_getElem? (i := 50) rfl)) rfl, T0_in (m0 (List.mem_of_getElem? (i := 19) rfl)) rfl, T0_in (m1 (List.mem_of_getElem? (i := 5) rfl)) rfl, ⟨by decide +kernel, by decide +kernel, by decide +kernel⟩, by decide⟩
theorem K_X8_endSpell : CalV yX8_endSpell cX8_endSpell 2 none 1 := ⟨T0_in (m3 (List.mem_of_getElem? (i := 59) rfl)) rfl, T0_in (m3 (List.mem_of_getElem? (i := 57) rfl)) rfl, T0_in (m3 (List.mem_of_getElem? (i := 58) rfl)) rfl, T0_in (m1 (List.mem_of_getElem? (i := 4) rfl)) rfl, ⟨by decide +kernel, by decide +kernel, by decide +kernel⟩, by decide⟩
theorem K_X2_readSpell : CalV yX2_readSpell cX2_readSpell 4 (some .boolean) 1 := ⟨T0_in (m3 (List.mem_of_getElem? (i := 24) rfl)) rfl, T0_in (m3 (List.mem_of_getElem? (i := 23) rfl)) rfl, T0_in (m0 (List.mem_of_getElem? (i := 15) rfl)) rfl, T0_in (m1 (List.mem_of_getElem? (i := 5) rfl)) rfl, ⟨by decide +kernel, by decide +kernel, by decide +kernel⟩, by decide⟩
theorem K_X8_tellBare : CalV yX8_tellBare cX8_tellBare 1 none 0 := ⟨T0_in (m3 (List.mem_of_getElem? (i := 63) rfl)) rfl, T0_in (m3 (List.mem_of_getElem? (i := 61) rfl)) rfl, T0_in (m3 (List.mem_of_getElem? (i := 62) rfl)) rfl, T0_in (m1 (List.mem_of_getElem? (i := 4) rfl)) rfl, ⟨by decide +kernel, by decide +kernel, by decide +kernel⟩, by decide⟩
theorem K_X8_tellPeople : CalV yX8_tellPeople cX8_tellPeople 2 none 1 := ⟨T0_in (m3 (List.mem_of_getElem? (i := 67) rfl)) rfl, T0_in (m3 (List.mem_of_getElem? (i := 65) rfl)) rfl, T0_in (m3 (List.mem_of_getElem? (i := 66) rfl)) rfl, T0_in (m1 (List.mem_of_getElem? (i := 4) rfl)) rfl, ⟨by decide +kernel, by decide +kernel, by decide +kernel⟩, by decide⟩
theorem K_X8_tellDay : CalV yX8_tellDay cX8_tellDay 2 none 1 := ⟨T0_in (m3 (List.mem_of_getElem? (i := 71) rfl)) rfl, T0_in (m3 (List.mem_of_getElem? (i := 69) rfl)) rfl, T0_in (m3 (List.mem_of_getElem? (i := 70) rfl)) rfl, T0_in (m1 (List.mem_of_getElem? (i := 4) rfl)) rfl, ⟨by decide +kernel, by decide +kernel, by decide +kernel⟩, by decide⟩
theorem K_X8_tellBroken : CalV yX8_tellBroken cX8_tellBroken 2 none 1 := ⟨T0_in (m3 (List.mem_of_getElem? (i := 75) rfl)) rfl, T0_in (m3 (List.mem_of_getElem? (i := 73) rfl)) rfl, T0_in (m3 (List.mem_of_getElem? (i := 74) rfl)) rfl, T0_in (m1 (List.mem_of_getElem? (i := 4) rfl)) rfl, ⟨by decide +kernel, by decide +kernel, by decide +kernel⟩, by decide⟩
theorem K_X2_readLine : CalV yX2_readLine cX2_readLine 3 (some .boolean) 0 := ⟨T0_in (m3 (List.mem_of_getElem? (i := 20) rfl)) rfl, T0_in (m3 (List.mem_of_getElem? (i := 19) rfl)) rfl, T0_in (m0 (List.mem_of_getElem? (i := 14) rfl)) rfl, T0_in (m1 (List.mem_of_getElem? (i := 5) rfl)) rfl, ⟨by decide +kernel, by decide +kernel, by decide +kernel⟩, by decide⟩
theorem K_X2_firstFault : CalV yX2_firstFault cX2_firstFault 2 (some .int) 1 := ⟨T0_in (m2 (List.mem_of_getElem? (i := 163) rfl)) rfl, T0_in (m2 (List.mem_of_getElem? (i := 161) rfl)) rfl, T0_in (m2 (List.mem_of_getElem? (i := 162) rfl)) rfl, T0_in (m1 (List.mem_of_getElem? (i := 5) rfl)) rfl, ⟨by decide +kernel, by decide +kernel, by decide +kernel⟩, by decide⟩
theorem K_X10_fault : CalV yX10_fault cX10_fault 1 (some .int) 0 := ⟨T0_in (m2 (List.mem_of_getElem? (i := 159) rfl)) rfl, T0_in (m2 (List.mem_of_getElem? (i := 157) rfl)) rfl, T0_in (m2 (List.mem_of_getElem? (i := 158) rfl)) rfl, T0_in (m1 (List.mem_of_getElem? (i := 1) rfl)) rfl, ⟨by decide +kernel, by decide +kernel, by decide +kernel⟩, by decide⟩
theorem K_X2_draft : CalV yX2_draft cX2_draft 1 (some (.object "SevenSpells$Told")) 0 := ⟨T0_in (m3 (List.mem_of_getElem? (i := 84) rfl)) rfl, T0_in (m3 (List.mem_of_getElem? (i := 82) rfl)) rfl, T0_in (m3 (List.mem_of_getElem? (i := 83) rfl)) rfl, T0_in (m1 (List.mem_of_getElem? (i := 5) rfl)) rfl, ⟨by decide +kernel, by decide +kernel, by decide +kernel⟩, by decide⟩
theorem K_X2_lines : CalV yX2_lines cX2_lines 1 (some .int) 0 := ⟨T0_in (m3 (List.mem_of_getElem? (i := 89) rfl)) rfl, T0_in (m3 (List.mem_of_getElem? (i := 87) rfl)) rfl, T0_in (m3 (List.mem_of_getElem? (i := 88) rfl)) rfl, T0_in (m1 (List.mem_of_getElem? (i := 5) rfl)) rfl, ⟨by decide +kernel, by decide +kernel, by decide +kernel⟩, by decide⟩
theorem K_X10_land : CalV yX10_land cX10_land 1 (some .int) 0 := ⟨T0_in (m3 (List.mem_of_getElem? (i := 80) rfl)) rfl, T0_in (m3 (List.mem_of_getElem? (i := 78) rfl)) rfl, T0_in (m3 (List.mem_of_getElem? (i := 79) rfl)) rfl, T0_in (m1 (List.mem_of_getElem? (i := 1) rfl)) rfl, ⟨by decide +kernel, by decide +kernel, by decide +kernel⟩, by decide⟩
theorem K_X8_hasPerson : CalV yX8_hasPerson cX8_hasPerson 2 (some .boolean) 1 := ⟨T0_in (m3 (List.mem_of_getElem? (i := 97) rfl)) rfl, T0_in (m3 (List.mem_of_getElem? (i := 95) rfl)) rfl, T0_in (m3 (List.mem_of_getElem? (i := 96) rfl)) rfl, T0_in (m1 (List.mem_of_getElem? (i := 4) rfl)) rfl, ⟨by decide +kernel, by decide +kernel, by decide +kernel⟩, by decide⟩
theorem K_X6_weepers : CalS yX6_weepers cX6_weepers 1 (some .int) 1 := ⟨T0_in (m3 (List.mem_of_getElem? (i := 100) rfl)) rfl, T0_in (m3 (List.mem_of_getElem? (i := 99) rfl)) rfl, T0_in (m1 (List.mem_of_getElem? (i := 17) rfl)) rfl, ⟨by decide +kernel, by decide +kernel, by decide +kernel⟩, by decide⟩
theorem K_X10_oneIf : CalS yX10_oneIf cX10_oneIf 1 (some .int) 1 := ⟨T0_in (m3 (List.mem_of_getElem? (i := 104) rfl)) rfl, T0_in (m3 (List.mem_of_getElem? (i := 103) rfl)) rfl, T0_in (m1 (List.mem_of_getElem? (i := 1) rfl)) rfl, ⟨by decide +kernel, by decide +kernel, by decide +kernel⟩, by decide⟩
theorem K_X10_person : CalV yX10_person cX10_person 3 (some .int) 2 := ⟨T0_in (m3 (List.mem_of_getElem? (i := 93) rfl)) rfl, T0_in (m3 (List.mem_of_getElem? (i := 91) rfl)) rfl, T0_in (m3 (List.mem_of_getElem? (i := 92) rfl)) rfl, T0_in (m1 (List.mem_of_getElem? (i := 1) rfl)) rfl, ⟨by decide +kernel, by decide +kernel, by decide +kernel⟩, by decide⟩
theorem K_X4_bindersOf : CalV yX4_bindersOf cX4_bindersOf 2 (some .int) 1 := ⟨T0_in (m3 (List.mem_of_getElem? (i := 115) rfl)) rfl, T0_in (m3 (List.mem_of_getElem? (i := 113) rfl)) rfl, T0_in (m3 (List.mem_of_getElem? (i := 114) rfl)) rfl, T0_in (m1 (List.mem_of_getElem? (i := 6) rfl)) rfl, ⟨by decide +kernel, by decide +kernel, by decide +kernel⟩, by decide⟩
theorem K_X10_spell : CalV yX10_spell cX10_spell 3 (some .int) 2 := ⟨T0_in (m3 (List.mem_of_getElem? (i := 108) rfl)) rfl, T0_in (m3 (List.mem_of_getElem? (i := 106) rfl)) rfl, T0_in (m3 (List.mem_of_getElem? (i := 107) rfl)) rfl, T0_in (m1 (List.mem_of_getElem? (i := 1) rfl)) rfl, ⟨by decide +kernel, by decide +kernel, by decide +kernel⟩, by decide⟩
theorem K_X6_asked : CalS yX6_asked cX6_asked 1 (some .int) 1 := ⟨T0_in (m3 (List.mem_of_getElem? (i := 133) rfl)) rfl, T0_in (m3 (List.mem_of_getElem? (i := 132) rfl)) rfl, T0_in (m1 (List.mem_of_getElem? (i := 17) rfl)) rfl, ⟨by decide +kernel, by decide +kernel, by decide +kernel⟩, by decide⟩
theorem K_X7_isSo : CalS yX7_isSo cX7_isSo 3 (some .boolean) 3 := ⟨T0_in (m3 (List.mem_of_getElem? (i := 130) rfl)) rfl, T0_in (m3 (List.mem_of_getElem? (i := 129) rfl)) rfl, T0_in (m1 (List.mem_of_getElem? (i := 10) rfl)) rfl, ⟨by decide +kernel, by decide +kernel, by decide +kernel⟩, by decide⟩
theorem K_X10_isSoNow : CalV yX10_isSoNow cX10_isSoNow 3 (some .boolean) 2 := ⟨T0_in (m3 (List.mem_of_getElem? (i := 127) rfl)) rfl, T0_in (m3 (List.mem_of_getElem? (i := 126) rfl)) rfl, T0_in (m0 (List.mem_of_getElem? (i := 20) rfl)) rfl, T0_in (m1 (List.mem_of_getElem? (i := 1) rfl)) rfl, ⟨by decide +kernel, by decide +kernel, by decide +kernel⟩, by decide⟩
theorem K_X10_term : CalV yX10_term cX10_term 4 (some .int) 3 := ⟨T0_in (m3 (List.mem_of_getElem? (i := 121) rfl)) rfl, T0_in (m3 (List.mem_of_getElem? (i := 119) rfl)) rfl, T0_in (m3 (List.mem_of_getElem? (i := 120) rfl)) rfl, T0_in (m1 (List.mem_of_getElem? (i := 1) rfl)) rfl, ⟨by decide +kernel, by decide +kernel, by decide +kernel⟩, by decide⟩
theorem K_X1_isA : CalS yX1_isA cX1_isA 4 (some .boolean) 2 := ⟨T0_in (m3 (List.mem_of_getElem? (i := 141) rfl)) rfl, T0_in (m3 (List.mem_of_getElem? (i := 140) rfl)) rfl, T0_in (m1 (List.mem_of_getElem? (i := 18) rfl)) rfl, ⟨by decide +kernel, by decide +kernel, by decide +kernel⟩, by decide⟩
theorem K_X10_termsSoNow : CalV yX10_termsSoNow cX10_termsSoNow 4 (some .int) 1 := ⟨T0_in (m3 (List.mem_of_getElem? (i := 147) rfl)) rfl, T0_in (m3 (List.mem_of_getElem? (i := 146) rfl)) rfl, T0_in (m0 (List.mem_of_getElem? (i := 21) rfl)) rfl, T0_in (m1 (List.mem_of_getElem? (i := 1) rfl)) rfl, ⟨by decide +kernel, by decide +kernel, by decide +kernel⟩, by decide⟩
theorem K_X10_as : CalV yX10_as cX10_as 3 (some .int) 2 := ⟨T0_in (m3 (List.mem_of_getElem? (i := 138) rfl)) rfl, T0_in (m3 (List.mem_of_getElem? (i := 136) rfl)) rfl, T0_in (m3 (List.mem_of_getElem? (i := 137) rfl)) rfl, T0_in (m1 (List.mem_of_getElem? (i := 1) rfl)) rfl, ⟨by decide +kernel, by decide +kernel, by decide +kernel⟩, by decide⟩
theorem K_X7_lover : CalS yX7_lover cX7_lover 1 (some .int) 1 := ⟨T0_in (m3 (List.mem_of_getElem? (i := 158) rfl)) rfl, T0_in (m3 (List.mem_of_getElem? (i := 157) rfl)) rfl, T0_in (m1 (List.mem_of_getElem? (i := 10) rfl)) rfl, ⟨by decide +kernel, by decide +kernel, by decide +kernel⟩, by decide⟩
theorem K_X10_wordsLovedBy : CalV yX10_wordsLovedBy cX10_wordsLovedBy 5 (some .int) 2 := ⟨T0_in (m3 (List.mem_of_getElem? (i := 155) rfl)) rfl, T0_in (m3 (List.mem_of_getElem? (i := 154) rfl)) rfl, T0_in (m0 (List.mem_of_getElem? (i := 22) rfl)) rfl, T0_in (m1 (List.mem_of_getElem? (i := 1) rfl)) rfl, ⟨by decide +kernel, by decide +kernel, by decide +kernel⟩, by decide⟩
theorem K_X10_laidBy : CalV yX10_laidBy cX10_laidBy 6 (some .int) 1 := ⟨T0_in (m3 (List.mem_of_getElem? (i := 151) rfl)) rfl, T0_in (m3 (List.mem_of_getElem? (i := 149) rfl)) rfl, T0_in (m3 (List.mem_of_getElem? (i := 150) rfl)) rfl, T0_in (m1 (List.mem_of_getElem? (i := 1) rfl)) rfl, ⟨by decide +kernel, by decide +kernel, by decide +kernel⟩, by decide⟩
theorem K_X10_isAnother : CalV yX10_isAnother cX10_isAnother 3 (some .boolean) 2 := ⟨T0_in (m3 (List.mem_of_getElem? (i := 170) rfl)) rfl, T0_in (m3 (List.mem_of_getElem? (i := 169) rfl)) rfl, T0_in (m0 (List.mem_of_getElem? (i := 24) rfl)) rfl, T0_in (m1 (List.mem_of_getElem? (i := 1) rfl)) rfl, ⟨by decide +kernel, by decide +kernel, by decide +kernel⟩, by decide⟩
theorem K_X10_refusal : CalV yX10_refusal cX10_refusal 4 (some .int) 3 := ⟨T0_in (m3 (List.mem_of_getElem? (i := 166) rfl)) rfl, T0_in (m3 (List.mem_of_getElem? (i := 165) rfl)) rfl, T0_in (m0 (List.mem_of_getElem? (i := 23) rfl)) rfl, T0_in (m1 (List.mem_of_getElem? (i := 1) rfl)) rfl, ⟨by decide +kernel, by decide +kernel, by decide +kernel⟩, by decide⟩
theorem K_X4_deedOf : CalV yX4_deedOf cX4_deedOf 7 (some .int) 3 := ⟨T0_in (m3 (List.mem_of_getElem? (i := 174) rfl)) rfl, T0_in (m3 (List.mem_of_getElem? (i := 172) rfl)) rfl, T0_in (m3 (List.mem_of_getElem? (i := 173) rfl)) rfl, T0_in (m1 (List.mem_of_getElem? (i := 6) rfl)) rfl, ⟨by decide +kernel, by decide +kernel, by decide +kernel⟩, by decide⟩
theorem K_X6_nextDay : CalS yX6_nextDay cX6_nextDay 3 (some .int) 1 := ⟨T0_in (m3 (List.mem_of_getElem? (i := 182) rfl)) rfl, T0_in (m3 (List.mem_of_getElem? (i := 181) rfl)) rfl, T0_in (m1 (List.mem_of_getElem? (i := 17) rfl)) rfl, ⟨by decide +kernel, by decide +kernel, by decide +kernel⟩, by decide⟩
theorem K_X4_after : CalV yX4_after cX4_after 8 (some .int) 2 := ⟨T0_in (m3 (List.mem_of_getElem? (i := 178) rfl)) rfl, T0_in (m3 (List.mem_of_getElem? (i := 176) rfl)) rfl, T0_in (m3 (List.mem_of_getElem? (i := 177) rfl)) rfl, T0_in (m1 (List.mem_of_getElem? (i := 6) rfl)) rfl, ⟨by decide +kernel, by decide +kernel, by decide +kernel⟩, by decide⟩
theorem K_X10_can : CalV yX10_can cX10_can 5 (some .int) 3 := ⟨T0_in (m3 (List.mem_of_getElem? (i := 162) rfl)) rfl, T0_in (m3 (List.mem_of_getElem? (i := 160) rfl)) rfl, T0_in (m3 (List.mem_of_getElem? (i := 161) rfl)) rfl, T0_in (m1 (List.mem_of_getElem? (i := 1) rfl)) rfl, ⟨by decide +kernel, by decide +kernel, by decide +kernel⟩, by decide⟩
theorem K_X3_isFull : CalV yX3_isFull cX3_isFull 1 (some .boolean) 0 := ⟨T0_in (m3 (List.mem_of_getElem? (i := 191) rfl)) rfl, T0_in (m3 (List.mem_of_getElem? (i := 189) rfl)) rfl, T0_in (m3 (List.mem_of_getElem? (i := 190) rfl)) rfl, T0_in (m1 (List.mem_of_getElem? (i := 2) rfl)) rfl, ⟨by decide +kernel, by decide +kernel, by decide +kernel⟩, by decide⟩
theorem K_X3_dropLast : CalV yX3_dropLast cX3_dropLast 1 none 0 := ⟨T0_in (m3 (List.mem_of_getElem? (i := 199) rfl)) rfl, T0_in (m3 (List.mem_of_getElem? (i := 197) rfl)) rfl, T0_in (m3 (List.mem_of_getElem? (i := 198) rfl)) rfl, T0_in (m1 (List.mem_of_getElem? (i := 2) rfl)) rfl, ⟨by decide +kernel, by decide +kernel, by decide +kernel⟩, by decide⟩
theorem K_X3_dropFirst : CalV yX3_dropFirst cX3_dropFirst 2 none 0 := ⟨T0_in (m3 (List.mem_of_getElem? (i := 195) rfl)) rfl, T0_in (m3 (List.mem_of_getElem? (i := 193) rfl)) rfl, T0_in (m3 (List.mem_of_getElem? (i := 194) rfl)) rfl, T0_in (m1 (List.mem_of_getElem? (i := 2) rfl)) rfl, ⟨by decide +kernel, by decide +kernel, by decide +kernel⟩, by decide⟩
theorem K_X6_of : CalS yX6_of cX6_of 1 (some .int) 1 := ⟨T0_in (m3 (List.mem_of_getElem? (i := 202) rfl)) rfl, T0_in (m3 (List.mem_of_getElem? (i := 201) rfl)) rfl, T0_in (m1 (List.mem_of_getElem? (i := 17) rfl)) rfl, ⟨by decide +kernel, by decide +kernel, by decide +kernel⟩, by decide⟩
theorem K_X6_lifted : CalS yX6_lifted cX6_lifted 1 (some .int) 1 := ⟨T0_in (m3 (List.mem_of_getElem? (i := 206) rfl)) rfl, T0_in (m3 (List.mem_of_getElem? (i := 205) rfl)) rfl, T0_in (m1 (List.mem_of_getElem? (i := 17) rfl)) rfl, ⟨by decide +kernel, by decide +kernel, by decide +kernel⟩, by decide⟩
theorem K_X10_act : CalV yX10_act cX10_act 6 (some .int) 3 := ⟨T0_in (m3 (List.mem_of_getElem? (i := 187) rfl)) rfl, T0_in (m3 (List.mem_of_getElem? (i := 185) rfl)) rfl, T0_in (m3 (List.mem_of_getElem? (i := 186) rfl)) rfl, T0_in (m1 (List.mem_of_getElem? (i := 1) rfl)) rfl, ⟨by decide +kernel, by decide +kernel, by decide +kernel⟩, by decide⟩
theorem K_X10_undo : CalV yX10_undo cX10_undo 1 (some .int) 0 := ⟨T0_in (m3 (List.mem_of_getElem? (i := 210) rfl)) rfl, T0_in (m3 (List.mem_of_getElem? (i := 208) rfl)) rfl, T0_in (m3 (List.mem_of_getElem? (i := 209) rfl)) rfl, T0_in (m1 (List.mem_of_getElem? (i := 1) rfl)) rfl, ⟨by decide +kernel, by decide +kernel, by decide +kernel⟩, by decide⟩
theorem K_X10_keep : CalV yX10_keep cX10_keep 2 (some .int) 1 := ⟨T0_in (m3 (List.mem_of_getElem? (i := 216) rfl)) rfl, T0_in (m3 (List.mem_of_getElem? (i := 214) rfl)) rfl, T0_in (m3 (List.mem_of_getElem? (i := 215) rfl)) rfl, T0_in (m1 (List.mem_of_getElem? (i := 1) rfl)) rfl, ⟨by decide +kernel, by decide +kernel, by decide +kernel⟩, by decide⟩
theorem K_X10_back : CalV yX10_back cX10_back 2 (some .int) 1 := ⟨T0_in (m3 (List.mem_of_getElem? (i := 220) rfl)) rfl, T0_in (m3 (List.mem_of_getElem? (i := 218) rfl)) rfl, T0_in (m3 (List.mem_of_getElem? (i := 219) rfl)) rfl, T0_in (m1 (List.mem_of_getElem? (i := 1) rfl)) rfl, ⟨by decide +kernel, by decide +kernel, by decide +kernel⟩, by decide⟩
theorem K_X8_hasAll : CalV yX8_hasAll cX8_hasAll 2 (some .boolean) 1 := ⟨T0_in (m3 (List.mem_of_getElem? (i := 228) rfl)) rfl, T0_in (m3 (List.mem_of_getElem? (i := 226) rfl)) rfl, T0_in (m3 (List.mem_of_getElem? (i := 227) rfl)) rfl, T0_in (m1 (List.mem_of_getElem? (i := 4) rfl)) rfl, ⟨by decide +kernel, by decide +kernel, by decide +kernel⟩, by decide⟩
theorem K_X8_everybody : CalV yX8_everybody cX8_everybody 1 (some .int) 0 := ⟨T0_in (m3 (List.mem_of_getElem? (i := 236) rfl)) rfl, T0_in (m3 (List.mem_of_getElem? (i := 234) rfl)) rfl, T0_in (m3 (List.mem_of_getElem? (i := 235) rfl)) rfl, T0_in (m1 (List.mem_of_getElem? (i := 4) rfl)) rfl, ⟨by decide +kernel, by decide +kernel, by decide +kernel⟩, by decide⟩
theorem K_X4_mostStates : CalV yX4_mostStates cX4_mostStates 2 (some .int) 0 := ⟨T0_in (m4 (List.mem_of_getElem? (i := 8) rfl)) rfl, T0_in (m4 (List.mem_of_getElem? (i := 6) rfl)) rfl, T0_in (m4 (List.mem_of_getElem? (i := 7) rfl)) rfl, T0_in (m1 (List.mem_of_getElem? (i := 6) rfl)) rfl, ⟨by decide +kernel, by decide +kernel, by decide +kernel⟩, by decide⟩
theorem K_X4_deedsBy : CalV yX4_deedsBy cX4_deedsBy 4 (some .int) 1 := ⟨T0_in (m4 (List.mem_of_getElem? (i := 16) rfl)) rfl, T0_in (m4 (List.mem_of_getElem? (i := 14) rfl)) rfl, T0_in (m4 (List.mem_of_getElem? (i := 15) rfl)) rfl, T0_in (m1 (List.mem_of_getElem? (i := 6) rfl)) rfl, ⟨by decide +kernel, by decide +kernel, by decide +kernel⟩, by decide⟩
theorem K_X5_add : CalV yX5_add cX5_add 8 none 4 := ⟨T0_in (m4 (List.mem_of_getElem? (i := 20) rfl)) rfl, T0_in (m4 (List.mem_of_getElem? (i := 19) rfl)) rfl, T0_in (m0 (List.mem_of_getElem? (i := 27) rfl)) rfl, T0_in (m1 (List.mem_of_getElem? (i := 7) rfl)) rfl, ⟨by decide +kernel, by decide +kernel, by decide +kernel⟩, by decide⟩
theorem K_X5_begin : CalV yX5_begin cX5_begin 4 none 3 := ⟨T0_in (m4 (List.mem_of_getElem? (i := 4) rfl)) rfl, T0_in (m4 (List.mem_of_getElem? (i := 3) rfl)) rfl, T0_in (m0 (List.mem_of_getElem? (i := 26) rfl)) rfl, T0_in (m1 (List.mem_of_getElem? (i := 7) rfl)) rfl, ⟨by decide +kernel, by decide +kernel, by decide +kernel⟩, by decide⟩
theorem K_X5_ask : CalV yX5_ask cX5_ask 4 none 3 := ⟨T0_in (m4 (List.mem_of_getElem? (i := 0) rfl)) rfl, T0_in (m3 (List.mem_of_getElem? (i := 238) rfl)) rfl, T0_in (m3 (List.mem_of_getElem? (i := 239) rfl)) rfl, T0_in (m1 (List.mem_of_getElem? (i := 7) rfl)) rfl, ⟨by decide +kernel, by decide +kernel, by decide +kernel⟩, by decide⟩
theorem K_X10_fromNow : CalV yX10_fromNow cX10_fromNow 1 (some (.object "SevenSpells$Search")) 0 := ⟨T0_in (m3 (List.mem_of_getElem? (i := 232) rfl)) rfl, T0_in (m3 (List.mem_of_getElem? (i := 231) rfl)) rfl, T0_in (m0 (List.mem_of_getElem? (i := 25) rfl)) rfl, T0_in (m1 (List.mem_of_getElem? (i := 1) rfl)) rfl, ⟨by decide +kernel, by decide +kernel, by decide +kernel⟩, by decide⟩
theorem K_X5_stateAt : CalV yX5_stateAt cX5_stateAt 2 (some .int) 1 := ⟨T0_in (m4 (List.mem_of_getElem? (i := 33) rfl)) rfl, T0_in (m4 (List.mem_of_getElem? (i := 32) rfl)) rfl, T0_in (m0 (List.mem_of_getElem? (i := 29) rfl)) rfl, T0_in (m1 (List.mem_of_getElem? (i := 7) rfl)) rfl, ⟨by decide +kernel, by decide +kernel, by decide +kernel⟩, by decide⟩
theorem K_X4_nightDeed : CalV yX4_nightDeed cX4_nightDeed 1 (some .int) 0 := ⟨T0_in (m4 (List.mem_of_getElem? (i := 38) rfl)) rfl, T0_in (m4 (List.mem_of_getElem? (i := 36) rfl)) rfl, T0_in (m4 (List.mem_of_getElem? (i := 37) rfl)) rfl, T0_in (m1 (List.mem_of_getElem? (i := 6) rfl)) rfl, ⟨by decide +kernel, by decide +kernel, by decide +kernel⟩, by decide⟩
theorem K_X5_distanceAt : CalV yX5_distanceAt cX5_distanceAt 2 (some .int) 1 := ⟨T0_in (m4 (List.mem_of_getElem? (i := 46) rfl)) rfl, T0_in (m4 (List.mem_of_getElem? (i := 45) rfl)) rfl, T0_in (m0 (List.mem_of_getElem? (i := 31) rfl)) rfl, T0_in (m1 (List.mem_of_getElem? (i := 7) rfl)) rfl, ⟨by decide +kernel, by decide +kernel, by decide +kernel⟩, by decide⟩
theorem K_X5_open : CalV yX5_open cX5_open 8 none 3 := ⟨T0_in (m4 (List.mem_of_getElem? (i := 42) rfl)) rfl, T0_in (m4 (List.mem_of_getElem? (i := 41) rfl)) rfl, T0_in (m0 (List.mem_of_getElem? (i := 30) rfl)) rfl, T0_in (m1 (List.mem_of_getElem? (i := 7) rfl)) rfl, ⟨by decide +kernel, by decide +kernel, by decide +kernel⟩, by decide⟩
theorem K_X5_firstWithout : CalV yX5_firstWithout cX5_firstWithout 3 (some .int) 1 := ⟨T0_in (m4 (List.mem_of_getElem? (i := 28) rfl)) rfl, T0_in (m4 (List.mem_of_getElem? (i := 27) rfl)) rfl, T0_in (m0 (List.mem_of_getElem? (i := 28) rfl)) rfl, T0_in (m1 (List.mem_of_getElem? (i := 7) rfl)) rfl, ⟨by decide +kernel, by decide +kernel, by decide +kernel⟩, by decide⟩
theorem K_X5_fewestWithout : CalV yX5_fewestWithout cX5_fewestWithout 3 (some .int) 1 := ⟨T0_in (m4 (List.mem_of_getElem? (i := 24) rfl)) rfl, T0_in (m4 (List.mem_of_getElem? (i := 22) rfl)) rfl, T0_in (m4 (List.mem_of_getElem? (i := 23) rfl)) rfl, T0_in (m1 (List.mem_of_getElem? (i := 7) rfl)) rfl, ⟨by decide +kernel, by decide +kernel, by decide +kernel⟩, by decide⟩
theorem K_X10_fewest : CalV yX10_fewest cX10_fewest 2 (some .int) 1 := ⟨T0_in (m3 (List.mem_of_getElem? (i := 224) rfl)) rfl, T0_in (m3 (List.mem_of_getElem? (i := 222) rfl)) rfl, T0_in (m3 (List.mem_of_getElem? (i := 223) rfl)) rfl, T0_in (m1 (List.mem_of_getElem? (i := 1) rfl)) rfl, ⟨by decide +kernel, by decide +kernel, by decide +kernel⟩, by decide⟩
theorem K_X10_whatIf : CalV yX10_whatIf cX10_whatIf 4 (some (.object "SevenSpells$Search")) 3 := ⟨T0_in (m4 (List.mem_of_getElem? (i := 99) rfl)) rfl, T0_in (m4 (List.mem_of_getElem? (i := 98) rfl)) rfl, T0_in (m0 (List.mem_of_getElem? (i := 36) rfl)) rfl, T0_in (m1 (List.mem_of_getElem? (i := 1) rfl)) rfl, ⟨by decide +kernel, by decide +kernel, by decide +kernel⟩, by decide⟩
theorem K_X5_fromAt : CalV yX5_fromAt cX5_fromAt 2 (some .int) 1 := ⟨T0_in (m4 (List.mem_of_getElem? (i := 61) rfl)) rfl, T0_in (m4 (List.mem_of_getElem? (i := 60) rfl)) rfl, T0_in (m0 (List.mem_of_getElem? (i := 32) rfl)) rfl, T0_in (m1 (List.mem_of_getElem? (i := 7) rfl)) rfl, ⟨by decide +kernel, by decide +kernel, by decide +kernel⟩, by decide⟩
theorem K_X5_deedAt : CalV yX5_deedAt cX5_deedAt 2 (some .int) 1 := ⟨T0_in (m4 (List.mem_of_getElem? (i := 65) rfl)) rfl, T0_in (m4 (List.mem_of_getElem? (i := 64) rfl)) rfl, T0_in (m0 (List.mem_of_getElem? (i := 33) rfl)) rfl, T0_in (m1 (List.mem_of_getElem? (i := 7) rfl)) rfl, ⟨by decide +kernel, by decide +kernel, by decide +kernel⟩, by decide⟩
theorem K_X5_deedTo : CalV yX5_deedTo cX5_deedTo 5 (some .int) 2 := ⟨T0_in (m4 (List.mem_of_getElem? (i := 57) rfl)) rfl, T0_in (m4 (List.mem_of_getElem? (i := 55) rfl)) rfl, T0_in (m4 (List.mem_of_getElem? (i := 56) rfl)) rfl, T0_in (m1 (List.mem_of_getElem? (i := 7) rfl)) rfl, ⟨by decide +kernel, by decide +kernel, by decide +kernel⟩, by decide⟩
theorem K_X4_isDeed : CalV yX4_isDeed cX4_isDeed 2 (some .boolean) 1 := ⟨T0_in (m4 (List.mem_of_getElem? (i := 73) rfl)) rfl, T0_in (m4 (List.mem_of_getElem? (i := 72) rfl)) rfl, T0_in (m0 (List.mem_of_getElem? (i := 34) rfl)) rfl, T0_in (m1 (List.mem_of_getElem? (i := 6) rfl)) rfl, ⟨by decide +kernel, by decide +kernel, by decide +kernel⟩, by decide⟩
theorem K_X4_doerOf : CalV yX4_doerOf cX4_doerOf 2 (some .int) 1 := ⟨T0_in (m4 (List.mem_of_getElem? (i := 69) rfl)) rfl, T0_in (m4 (List.mem_of_getElem? (i := 67) rfl)) rfl, T0_in (m4 (List.mem_of_getElem? (i := 68) rfl)) rfl, T0_in (m1 (List.mem_of_getElem? (i := 6) rfl)) rfl, ⟨by decide +kernel, by decide +kernel, by decide +kernel⟩, by decide⟩
theorem K_X4_sortOf : CalV yX4_sortOf cX4_sortOf 2 (some .int) 1 := ⟨T0_in (m4 (List.mem_of_getElem? (i := 77) rfl)) rfl, T0_in (m4 (List.mem_of_getElem? (i := 75) rfl)) rfl, T0_in (m4 (List.mem_of_getElem? (i := 76) rfl)) rfl, T0_in (m1 (List.mem_of_getElem? (i := 6) rfl)) rfl, ⟨by decide +kernel, by decide +kernel, by decide +kernel⟩, by decide⟩
theorem K_X4_whichOf : CalV yX4_whichOf cX4_whichOf 2 (some .int) 1 := ⟨T0_in (m4 (List.mem_of_getElem? (i := 81) rfl)) rfl, T0_in (m4 (List.mem_of_getElem? (i := 79) rfl)) rfl, T0_in (m4 (List.mem_of_getElem? (i := 80) rfl)) rfl, T0_in (m1 (List.mem_of_getElem? (i := 6) rfl)) rfl, ⟨by decide +kernel, by decide +kernel, by decide +kernel⟩, by decide⟩
theorem K_X10_way : CalV yX10_way cX10_way 5 (some .int) 3 := ⟨T0_in (m4 (List.mem_of_getElem? (i := 53) rfl)) rfl, T0_in (m4 (List.mem_of_getElem? (i := 51) rfl)) rfl, T0_in (m4 (List.mem_of_getElem? (i := 52) rfl)) rfl, T0_in (m1 (List.mem_of_getElem? (i := 1) rfl)) rfl, ⟨by decide +kernel, by decide +kernel, by decide +kernel⟩, by decide⟩
theorem K_X10_fewestHelpers : CalV yX10_fewestHelpers cX10_fewestHelpers 5 (some .int) 1 := ⟨T0_in (m4 (List.mem_of_getElem? (i := 89) rfl)) rfl, T0_in (m4 (List.mem_of_getElem? (i := 88) rfl)) rfl, T0_in (m0 (List.mem_of_getElem? (i := 35) rfl)) rfl, T0_in (m1 (List.mem_of_getElem? (i := 1) rfl)) rfl, ⟨by decide +kernel, by decide +kernel, by decide +kernel⟩, by decide⟩
theorem K_X10_helpers : CalV yX10_helpers cX10_helpers 4 (some .int) 2 := ⟨T0_in (m4 (List.mem_of_getElem? (i := 85) rfl)) rfl, T0_in (m4 (List.mem_of_getElem? (i := 83) rfl)) rfl, T0_in (m4 (List.mem_of_getElem? (i := 84) rfl)) rfl, T0_in (m1 (List.mem_of_getElem? (i := 1) rfl)) rfl, ⟨by decide +kernel, by decide +kernel, by decide +kernel⟩, by decide⟩
theorem K_X5_fewestNightsWithout : CalV yX5_fewestNightsWithout cX5_fewestNightsWithout 8 (some .int) 3 := ⟨T0_in (m4 (List.mem_of_getElem? (i := 107) rfl)) rfl, T0_in (m4 (List.mem_of_getElem? (i := 105) rfl)) rfl, T0_in (m4 (List.mem_of_getElem? (i := 106) rfl)) rfl, T0_in (m1 (List.mem_of_getElem? (i := 7) rfl)) rfl, ⟨by decide +kernel, by decide +kernel, by decide +kernel⟩, by decide⟩
theorem K_X10_nights : CalV yX10_nights cX10_nights 2 (some .int) 1 := ⟨T0_in (m4 (List.mem_of_getElem? (i := 103) rfl)) rfl, T0_in (m4 (List.mem_of_getElem? (i := 101) rfl)) rfl, T0_in (m4 (List.mem_of_getElem? (i := 102) rfl)) rfl, T0_in (m1 (List.mem_of_getElem? (i := 1) rfl)) rfl, ⟨by decide +kernel, by decide +kernel, by decide +kernel⟩, by decide⟩
theorem K_X6_holding : CalS yX6_holding cX6_holding 1 (some .int) 1 := ⟨T0_in (m4 (List.mem_of_getElem? (i := 119) rfl)) rfl, T0_in (m4 (List.mem_of_getElem? (i := 118) rfl)) rfl, T0_in (m1 (List.mem_of_getElem? (i := 17) rfl)) rfl, ⟨by decide +kernel, by decide +kernel, by decide +kernel⟩, by decide⟩
theorem K_X5_heldEverywhere : CalV yX5_heldEverywhere cX5_heldEverywhere 3 (some .int) 0 := ⟨T0_in (m4 (List.mem_of_getElem? (i := 116) rfl)) rfl, T0_in (m4 (List.mem_of_getElem? (i := 114) rfl)) rfl, T0_in (m4 (List.mem_of_getElem? (i := 115) rfl)) rfl, T0_in (m1 (List.mem_of_getElem? (i := 7) rfl)) rfl, ⟨by decide +kernel, by decide +kernel, by decide +kernel⟩, by decide⟩
theorem K_X10_never : CalV yX10_never cX10_never 1 (some .int) 0 := ⟨T0_in (m4 (List.mem_of_getElem? (i := 112) rfl)) rfl, T0_in (m4 (List.mem_of_getElem? (i := 110) rfl)) rfl, T0_in (m4 (List.mem_of_getElem? (i := 111) rfl)) rfl, T0_in (m1 (List.mem_of_getElem? (i := 1) rfl)) rfl, ⟨by decide +kernel, by decide +kernel, by decide +kernel⟩, by decide⟩
theorem K_X10_ahead : CalV yX10_ahead cX10_ahead 6 (some .int) 1 := ⟨T0_in (m4 (List.mem_of_getElem? (i := 123) rfl)) rfl, T0_in (m4 (List.mem_of_getElem? (i := 121) rfl)) rfl, T0_in (m4 (List.mem_of_getElem? (i := 122) rfl)) rfl, T0_in (m1 (List.mem_of_getElem? (i := 1) rfl)) rfl, ⟨by decide +kernel, by decide +kernel, by decide +kernel⟩, by decide⟩
theorem K_X10_isPropped : CalV yX10_isPropped cX10_isPropped 5 (some .boolean) 2 := ⟨T0_in (m4 (List.mem_of_getElem? (i := 132) rfl)) rfl, T0_in (m4 (List.mem_of_getElem? (i := 131) rfl)) rfl, T0_in (m0 (List.mem_of_getElem? (i := 37) rfl)) rfl, T0_in (m1 (List.mem_of_getElem? (i := 1) rfl)) rfl, ⟨by decide +kernel, by decide +kernel, by decide +kernel⟩, by decide⟩
theorem K_X10_props : CalV yX10_props cX10_props 4 (some .int) 0 := ⟨T0_in (m4 (List.mem_of_getElem? (i := 128) rfl)) rfl, T0_in (m4 (List.mem_of_getElem? (i := 126) rfl)) rfl, T0_in (m4 (List.mem_of_getElem? (i := 127) rfl)) rfl, T0_in (m1 (List.mem_of_getElem? (i := 1) rfl)) rfl, ⟨by decide +kernel, by decide +kernel, by decide +kernel⟩, by decide⟩
theorem K_X10_gone : CalV yX10_gone cX10_gone 8 (some .int) 2 := ⟨T0_in (m4 (List.mem_of_getElem? (i := 136) rfl)) rfl, T0_in (m4 (List.mem_of_getElem? (i := 134) rfl)) rfl, T0_in (m4 (List.mem_of_getElem? (i := 135) rfl)) rfl, T0_in (m1 (List.mem_of_getElem? (i := 1) rfl)) rfl, ⟨by decide +kernel, by decide +kernel, by decide +kernel⟩, by decide⟩
theorem K_X5_openAll : CalV yX5_openAll cX5_openAll 2 none 0 := ⟨T0_in (m4 (List.mem_of_getElem? (i := 148) rfl)) rfl, T0_in (m4 (List.mem_of_getElem? (i := 147) rfl)) rfl, T0_in (m0 (List.mem_of_getElem? (i := 38) rfl)) rfl, T0_in (m1 (List.mem_of_getElem? (i := 7) rfl)) rfl, ⟨by decide +kernel, by decide +kernel, by decide +kernel⟩, by decide⟩
theorem K_X5_statesAt : CalV yX5_statesAt cX5_statesAt 4 (some .int) 1 := ⟨T0_in (m4 (List.mem_of_getElem? (i := 144) rfl)) rfl, T0_in (m4 (List.mem_of_getElem? (i := 142) rfl)) rfl, T0_in (m4 (List.mem_of_getElem? (i := 143) rfl)) rfl, T0_in (m1 (List.mem_of_getElem? (i := 7) rfl)) rfl, ⟨by decide +kernel, by decide +kernel, by decide +kernel⟩, by decide⟩
theorem K_X10_many : CalV yX10_many cX10_many 2 (some .int) 1 := ⟨T0_in (m4 (List.mem_of_getElem? (i := 140) rfl)) rfl, T0_in (m4 (List.mem_of_getElem? (i := 138) rfl)) rfl, T0_in (m4 (List.mem_of_getElem? (i := 139) rfl)) rfl, T0_in (m1 (List.mem_of_getElem? (i := 1) rfl)) rfl, ⟨by decide +kernel, by decide +kernel, by decide +kernel⟩, by decide⟩
theorem K_X5_greatestDistance : CalV yX5_greatestDistance cX5_greatestDistance 1 (some .int) 0 := ⟨T0_in (m4 (List.mem_of_getElem? (i := 156) rfl)) rfl, T0_in (m4 (List.mem_of_getElem? (i := 154) rfl)) rfl, T0_in (m4 (List.mem_of_getElem? (i := 155) rfl)) rfl, T0_in (m1 (List.mem_of_getElem? (i := 7) rfl)) rfl, ⟨by decide +kernel, by decide +kernel, by decide +kernel⟩, by decide⟩
theorem K_X10_farthest : CalV yX10_farthest cX10_farthest 1 (some .int) 0 := ⟨T0_in (m4 (List.mem_of_getElem? (i := 152) rfl)) rfl, T0_in (m4 (List.mem_of_getElem? (i := 150) rfl)) rfl, T0_in (m4 (List.mem_of_getElem? (i := 151) rfl)) rfl, T0_in (m1 (List.mem_of_getElem? (i := 1) rfl)) rfl, ⟨by decide +kernel, by decide +kernel, by decide +kernel⟩, by decide⟩
theorem K_X10_row : CalV yX10_row cX10_row 5 (some .int) 3 := ⟨T0_in (m4 (List.mem_of_getElem? (i := 160) rfl)) rfl, T0_in (m4 (List.mem_of_getElem? (i := 158) rfl)) rfl, T0_in (m4 (List.mem_of_getElem? (i := 159) rfl)) rfl, T0_in (m1 (List.mem_of_getElem? (i := 1) rfl)) rfl, ⟨by decide +kernel, by decide +kernel, by decide +kernel⟩, by decide⟩
theorem K_X10_burn : CalV yX10_burn cX10_burn 1 (some .int) 0 := ⟨T0_in (m4 (List.mem_of_getElem? (i := 164) rfl)) rfl, T0_in (m4 (List.mem_of_getElem? (i := 162) rfl)) rfl, T0_in (m4 (List.mem_of_getElem? (i := 163) rfl)) rfl, T0_in (m1 (List.mem_of_getElem? (i := 1) rfl)) rfl, ⟨by decide +kernel, by decide +kernel, by decide +kernel⟩, by decide⟩
theorem K_X10_judge : CalV yX10_judge cX10_judge 6 (some .int) 1 := ⟨T0_in (m4 (List.mem_of_getElem? (i := 168) rfl)) rfl, T0_in (m4 (List.mem_of_getElem? (i := 166) rfl)) rfl, T0_in (m4 (List.mem_of_getElem? (i := 167) rfl)) rfl, T0_in (m1 (List.mem_of_getElem? (i := 1) rfl)) rfl, ⟨by decide +kernel, by decide +kernel, by decide +kernel⟩, by decide⟩
theorem K_X10_prince : CalV yX10_prince cX10_prince 5 (some .int) 3 := ⟨T0_in (m4 (List.mem_of_getElem? (i := 172) rfl)) rfl, T0_in (m4 (List.mem_of_getElem? (i := 170) rfl)) rfl, T0_in (m4 (List.mem_of_getElem? (i := 171) rfl)) rfl, T0_in (m1 (List.mem_of_getElem? (i := 1) rfl)) rfl, ⟨by decide +kernel, by decide +kernel, by decide +kernel⟩, by decide⟩
theorem K_X10_dismiss : CalV yX10_dismiss cX10_dismiss 1 (some .int) 0 := ⟨T0_in (m4 (List.mem_of_getElem? (i := 176) rfl)) rfl, T0_in (m4 (List.mem_of_getElem? (i := 174) rfl)) rfl, T0_in (m4 (List.mem_of_getElem? (i := 175) rfl)) rfl, T0_in (m1 (List.mem_of_getElem? (i := 1) rfl)) rfl, ⟨by decide +kernel, by decide +kernel, by decide +kernel⟩, by decide⟩
theorem K_X6_day : CalS yX6_day cX6_day 1 (some .int) 1 := ⟨T0_in (m4 (List.mem_of_getElem? (i := 183) rfl)) rfl, T0_in (m4 (List.mem_of_getElem? (i := 182) rfl)) rfl, T0_in (m1 (List.mem_of_getElem? (i := 17) rfl)) rfl, ⟨by decide +kernel, by decide +kernel, by decide +kernel⟩, by decide⟩
theorem K_X10_inLine : CalV yX10_inLine cX10_inLine 9 (some .int) 1 := ⟨T0_in (m4 (List.mem_of_getElem? (i := 180) rfl)) rfl, T0_in (m4 (List.mem_of_getElem? (i := 178) rfl)) rfl, T0_in (m4 (List.mem_of_getElem? (i := 179) rfl)) rfl, T0_in (m1 (List.mem_of_getElem? (i := 1) rfl)) rfl, ⟨by decide +kernel, by decide +kernel, by decide +kernel⟩, by decide⟩
theorem K_X9_packed : CalS yX9_packed cX9_packed 4 (some .int) 4 := ⟨T0_in (m4 (List.mem_of_getElem? (i := 191) rfl)) rfl, T0_in (m4 (List.mem_of_getElem? (i := 190) rfl)) rfl, T0_in (m1 (List.mem_of_getElem? (i := 8) rfl)) rfl, ⟨by decide +kernel, by decide +kernel, by decide +kernel⟩, by decide⟩
theorem K_X9_add : CalV yX9_add cX9_add 3 (some .boolean) 2 := ⟨T0_in (m4 (List.mem_of_getElem? (i := 195) rfl)) rfl, T0_in (m4 (List.mem_of_getElem? (i := 193) rfl)) rfl, T0_in (m4 (List.mem_of_getElem? (i := 194) rfl)) rfl, T0_in (m1 (List.mem_of_getElem? (i := 8) rfl)) rfl, ⟨by decide +kernel, by decide +kernel, by decide +kernel⟩, by decide⟩
theorem K_X9_size : CalV yX9_size cX9_size 1 (some .int) 0 := ⟨T0_in (m4 (List.mem_of_getElem? (i := 201) rfl)) rfl, T0_in (m4 (List.mem_of_getElem? (i := 199) rfl)) rfl, T0_in (m4 (List.mem_of_getElem? (i := 200) rfl)) rfl, T0_in (m1 (List.mem_of_getElem? (i := 8) rfl)) rfl, ⟨by decide +kernel, by decide +kernel, by decide +kernel⟩, by decide⟩
theorem K_X10_tried : CalV yX10_tried cX10_tried 7 (some .int) 5 := ⟨T0_in (m4 (List.mem_of_getElem? (i := 188) rfl)) rfl, T0_in (m4 (List.mem_of_getElem? (i := 186) rfl)) rfl, T0_in (m4 (List.mem_of_getElem? (i := 187) rfl)) rfl, T0_in (m1 (List.mem_of_getElem? (i := 1) rfl)) rfl, ⟨by decide +kernel, by decide +kernel, by decide +kernel⟩, by decide⟩
theorem K_X10_forget : CalV yX10_forget cX10_forget 1 (some .int) 0 := ⟨T0_in (m4 (List.mem_of_getElem? (i := 205) rfl)) rfl, T0_in (m4 (List.mem_of_getElem? (i := 203) rfl)) rfl, T0_in (m4 (List.mem_of_getElem? (i := 204) rfl)) rfl, T0_in (m1 (List.mem_of_getElem? (i := 1) rfl)) rfl, ⟨by decide +kernel, by decide +kernel, by decide +kernel⟩, by decide⟩
theorem K_X9_candidates : CalV yX9_candidates cX9_candidates 1 (some .int) 0 := ⟨T0_in (m4 (List.mem_of_getElem? (i := 218) rfl)) rfl, T0_in (m4 (List.mem_of_getElem? (i := 217) rfl)) rfl, T0_in (m0 (List.mem_of_getElem? (i := 39) rfl)) rfl, T0_in (m1 (List.mem_of_getElem? (i := 8) rfl)) rfl, ⟨by decide +kernel, by decide +kernel, by decide +kernel⟩, by decide⟩
theorem K_X9_sortOf : CalV yX9_sortOf cX9_sortOf 2 (some .int) 1 := ⟨T0_in (m4 (List.mem_of_getElem? (i := 232) rfl)) rfl, T0_in (m4 (List.mem_of_getElem? (i := 230) rfl)) rfl, T0_in (m4 (List.mem_of_getElem? (i := 231) rfl)) rfl, T0_in (m1 (List.mem_of_getElem? (i := 8) rfl)) rfl, ⟨by decide +kernel, by decide +kernel, by decide +kernel⟩, by decide⟩
theorem K_X9_numberOf : CalV yX9_numberOf cX9_numberOf 2 (some .int) 1 := ⟨T0_in (m4 (List.mem_of_getElem? (i := 228) rfl)) rfl, T0_in (m4 (List.mem_of_getElem? (i := 226) rfl)) rfl, T0_in (m4 (List.mem_of_getElem? (i := 227) rfl)) rfl, T0_in (m1 (List.mem_of_getElem? (i := 8) rfl)) rfl, ⟨by decide +kernel, by decide +kernel, by decide +kernel⟩, by decide⟩
theorem K_X9_isSoIn : CalV yX9_isSoIn cX9_isSoIn 4 (some .boolean) 2 := ⟨T0_in (m4 (List.mem_of_getElem? (i := 224) rfl)) rfl, T0_in (m4 (List.mem_of_getElem? (i := 223) rfl)) rfl, T0_in (m0 (List.mem_of_getElem? (i := 40) rfl)) rfl, T0_in (m1 (List.mem_of_getElem? (i := 8) rfl)) rfl, ⟨by decide +kernel, by decide +kernel, by decide +kernel⟩, by decide⟩
theorem K_X9_weigh : CalV yX9_weigh cX9_weigh 4 none 1 := ⟨T0_in (m4 (List.mem_of_getElem? (i := 214) rfl)) rfl, T0_in (m4 (List.mem_of_getElem? (i := 212) rfl)) rfl, T0_in (m4 (List.mem_of_getElem? (i := 213) rfl)) rfl, T0_in (m1 (List.mem_of_getElem? (i := 8) rfl)) rfl, ⟨by decide +kernel, by decide +kernel, by decide +kernel⟩, by decide⟩
theorem K_X9_fits : CalV yX9_fits cX9_fits 3 (some .boolean) 2 := ⟨T0_in (m5 (List.mem_of_getElem? (i := 1) rfl)) rfl, T0_in (m5 (List.mem_of_getElem? (i := 0) rfl)) rfl, T0_in (m0 (List.mem_of_getElem? (i := 41) rfl)) rfl, T0_in (m1 (List.mem_of_getElem? (i := 8) rfl)) rfl, ⟨by decide +kernel, by decide +kernel, by decide +kernel⟩, by decide⟩
theorem K_X9_howMany : CalV yX9_howMany cX9_howMany 4 (some .int) 0 := ⟨T0_in (m4 (List.mem_of_getElem? (i := 237) rfl)) rfl, T0_in (m4 (List.mem_of_getElem? (i := 235) rfl)) rfl, T0_in (m4 (List.mem_of_getElem? (i := 236) rfl)) rfl, T0_in (m1 (List.mem_of_getElem? (i := 8) rfl)) rfl, ⟨by decide +kernel, by decide +kernel, by decide +kernel⟩, by decide⟩
theorem K_X9_partnerOf : CalV yX9_partnerOf cX9_partnerOf 3 (some .int) 1 := ⟨T0_in (m5 (List.mem_of_getElem? (i := 9) rfl)) rfl, T0_in (m5 (List.mem_of_getElem? (i := 8) rfl)) rfl, T0_in (m0 (List.mem_of_getElem? (i := 42) rfl)) rfl, T0_in (m1 (List.mem_of_getElem? (i := 8) rfl)) rfl, ⟨by decide +kernel, by decide +kernel, by decide +kernel⟩, by decide⟩
theorem K_X9_firstTerm : CalV yX9_firstTerm cX9_firstTerm 2 (some .int) 0 := ⟨T0_in (m5 (List.mem_of_getElem? (i := 5) rfl)) rfl, T0_in (m5 (List.mem_of_getElem? (i := 3) rfl)) rfl, T0_in (m5 (List.mem_of_getElem? (i := 4) rfl)) rfl, T0_in (m1 (List.mem_of_getElem? (i := 8) rfl)) rfl, ⟨by decide +kernel, by decide +kernel, by decide +kernel⟩, by decide⟩
theorem K_X9_secondTerm : CalV yX9_secondTerm cX9_secondTerm 2 (some .int) 1 := ⟨T0_in (m5 (List.mem_of_getElem? (i := 13) rfl)) rfl, T0_in (m5 (List.mem_of_getElem? (i := 11) rfl)) rfl, T0_in (m5 (List.mem_of_getElem? (i := 12) rfl)) rfl, T0_in (m1 (List.mem_of_getElem? (i := 8) rfl)) rfl, ⟨by decide +kernel, by decide +kernel, by decide +kernel⟩, by decide⟩
theorem K_X10_mayBe : CalV yX10_mayBe cX10_mayBe 4 (some .int) 1 := ⟨T0_in (m4 (List.mem_of_getElem? (i := 209) rfl)) rfl, T0_in (m4 (List.mem_of_getElem? (i := 207) rfl)) rfl, T0_in (m4 (List.mem_of_getElem? (i := 208) rfl)) rfl, T0_in (m1 (List.mem_of_getElem? (i := 1) rfl)) rfl, ⟨by decide +kernel, by decide +kernel, by decide +kernel⟩, by decide⟩
theorem K_X9_liftedBy : CalV yX9_liftedBy cX9_liftedBy 5 (some .int) 1 := ⟨T0_in (m5 (List.mem_of_getElem? (i := 29) rfl)) rfl, T0_in (m5 (List.mem_of_getElem? (i := 28) rfl)) rfl, T0_in (m0 (List.mem_of_getElem? (i := 43) rfl)) rfl, T0_in (m1 (List.mem_of_getElem? (i := 8) rfl)) rfl, ⟨by decide +kernel, by decide +kernel, by decide +kernel⟩, by decide⟩
theorem K_X9_bestDay : CalV yX9_bestDay cX9_bestDay 7 (some .int) 0 := ⟨T0_in (m5 (List.mem_of_getElem? (i := 23) rfl)) rfl, T0_in (m5 (List.mem_of_getElem? (i := 21) rfl)) rfl, T0_in (m5 (List.mem_of_getElem? (i := 22) rfl)) rfl, T0_in (m1 (List.mem_of_getElem? (i := 8) rfl)) rfl, ⟨by decide +kernel, by decide +kernel, by decide +kernel⟩, by decide⟩
theorem K_X10_next : CalV yX10_next cX10_next 1 (some .int) 0 := ⟨T0_in (m5 (List.mem_of_getElem? (i := 19) rfl)) rfl, T0_in (m5 (List.mem_of_getElem? (i := 17) rfl)) rfl, T0_in (m5 (List.mem_of_getElem? (i := 18) rfl)) rfl, T0_in (m1 (List.mem_of_getElem? (i := 1) rfl)) rfl, ⟨by decide +kernel, by decide +kernel, by decide +kernel⟩, by decide⟩
theorem K_X6_broken : CalS yX6_broken cX6_broken 1 (some .int) 1 := ⟨T0_in (m5 (List.mem_of_getElem? (i := 38) rfl)) rfl, T0_in (m5 (List.mem_of_getElem? (i := 37) rfl)) rfl, T0_in (m1 (List.mem_of_getElem? (i := 17) rfl)) rfl, ⟨by decide +kernel, by decide +kernel, by decide +kernel⟩, by decide⟩
theorem K_X10_count : CalV yX10_count cX10_count 2 (some .int) 1 := ⟨T0_in (m5 (List.mem_of_getElem? (i := 34) rfl)) rfl, T0_in (m5 (List.mem_of_getElem? (i := 32) rfl)) rfl, T0_in (m5 (List.mem_of_getElem? (i := 33) rfl)) rfl, T0_in (m1 (List.mem_of_getElem? (i := 1) rfl)) rfl, ⟨by decide +kernel, by decide +kernel, by decide +kernel⟩, by decide⟩
theorem K_X11_init : CalI yX11_init cX11_init 1 0 := ⟨T0_in (m5 (List.mem_of_getElem? (i := 44) rfl)) rfl, T0_in (m5 (List.mem_of_getElem? (i := 43) rfl)) rfl, T0_in (m1 (List.mem_of_getElem? (i := 11) rfl)) rfl, rfl, ⟨by decide +kernel, by decide +kernel, by decide +kernel⟩, by decide⟩
theorem K_X11_in : CalS yX11_in cX11_in 6 (some .boolean) 3 := ⟨T0_in (m5 (List.mem_of_getElem? (i := 158) rfl)) rfl, T0_in (m5 (List.mem_of_getElem? (i := 157) rfl)) rfl, T0_in (m1 (List.mem_of_getElem? (i := 11) rfl)) rfl, ⟨by decide +kernel, by decide +kernel, by decide +kernel⟩, by decide⟩
theorem K_X11_has : CalS yX11_has cX11_has 2 (some .boolean) 2 := ⟨T0_in (m6 (List.mem_of_getElem? (i := 9) rfl)) rfl, T0_in (m6 (List.mem_of_getElem? (i := 8) rfl)) rfl, T0_in (m1 (List.mem_of_getElem? (i := 11) rfl)) rfl, ⟨by decide +kernel, by decide +kernel, by decide +kernel⟩, by decide⟩
theorem K_X11_bits : CalS yX11_bits cX11_bits 3 (some .int) 1 := ⟨T0_in (m6 (List.mem_of_getElem? (i := 142) rfl)) rfl, T0_in (m6 (List.mem_of_getElem? (i := 141) rfl)) rfl, T0_in (m1 (List.mem_of_getElem? (i := 11) rfl)) rfl, ⟨by decide +kernel, by decide +kernel, by decide +kernel⟩, by decide⟩
theorem K_X11_write : CalV yX11_write cX11_write 2 (some .int) 1 := ⟨T0_in (m5 (List.mem_of_getElem? (i := 154) rfl)) rfl, T0_in (m5 (List.mem_of_getElem? (i := 152) rfl)) rfl, T0_in (m5 (List.mem_of_getElem? (i := 153) rfl)) rfl, T0_in (m1 (List.mem_of_getElem? (i := 11) rfl)) rfl, ⟨by decide +kernel, by decide +kernel, by decide +kernel⟩, by decide⟩
theorem K_X11_erase : CalV yX11_erase cX11_erase 2 (some .int) 0 := ⟨T0_in (m5 (List.mem_of_getElem? (i := 162) rfl)) rfl, T0_in (m5 (List.mem_of_getElem? (i := 160) rfl)) rfl, T0_in (m5 (List.mem_of_getElem? (i := 161) rfl)) rfl, T0_in (m1 (List.mem_of_getElem? (i := 11) rfl)) rfl, ⟨by decide +kernel, by decide +kernel, by decide +kernel⟩, by decide⟩
theorem K_X11_sort : CalS yX11_sort cX11_sort 1 (some .int) 1 := ⟨T0_in (m5 (List.mem_of_getElem? (i := 173) rfl)) rfl, T0_in (m5 (List.mem_of_getElem? (i := 172) rfl)) rfl, T0_in (m1 (List.mem_of_getElem? (i := 11) rfl)) rfl, ⟨by decide +kernel, by decide +kernel, by decide +kernel⟩, by decide⟩
theorem K_X11_token : CalV yX11_token cX11_token 1 none 0 := ⟨T0_in (m5 (List.mem_of_getElem? (i := 170) rfl)) rfl, T0_in (m5 (List.mem_of_getElem? (i := 169) rfl)) rfl, T0_in (m0 (List.mem_of_getElem? (i := 44) rfl)) rfl, T0_in (m1 (List.mem_of_getElem? (i := 11) rfl)) rfl, ⟨by decide +kernel, by decide +kernel, by decide +kernel⟩, by decide⟩
theorem K_X11_isWord : CalV yX11_isWord cX11_isWord 5 (some .boolean) 2 := ⟨T0_in (m5 (List.mem_of_getElem? (i := 190) rfl)) rfl, T0_in (m5 (List.mem_of_getElem? (i := 189) rfl)) rfl, T0_in (m0 (List.mem_of_getElem? (i := 48) rfl)) rfl, T0_in (m1 (List.mem_of_getElem? (i := 11) rfl)) rfl, ⟨by decide +kernel, by decide +kernel, by decide +kernel⟩, by decide⟩
theorem K_X11_spellWord : CalV yX11_spellWord cX11_spellWord 1 (some .int) 0 := ⟨T0_in (m5 (List.mem_of_getElem? (i := 185) rfl)) rfl, T0_in (m5 (List.mem_of_getElem? (i := 184) rfl)) rfl, T0_in (m0 (List.mem_of_getElem? (i := 47) rfl)) rfl, T0_in (m1 (List.mem_of_getElem? (i := 11) rfl)) rfl, ⟨by decide +kernel, by decide +kernel, by decide +kernel⟩, by decide⟩
theorem K_X11_wordOf : CalV yX11_wordOf cX11_wordOf 2 (some .int) 0 := ⟨T0_in (m5 (List.mem_of_getElem? (i := 181) rfl)) rfl, T0_in (m5 (List.mem_of_getElem? (i := 180) rfl)) rfl, T0_in (m0 (List.mem_of_getElem? (i := 46) rfl)) rfl, T0_in (m1 (List.mem_of_getElem? (i := 11) rfl)) rfl, ⟨by decide +kernel, by decide +kernel, by decide +kernel⟩, by decide⟩
theorem K_X11_termWord : CalV yX11_termWord cX11_termWord 1 (some .int) 0 := ⟨T0_in (m5 (List.mem_of_getElem? (i := 217) rfl)) rfl, T0_in (m5 (List.mem_of_getElem? (i := 216) rfl)) rfl, T0_in (m0 (List.mem_of_getElem? (i := 53) rfl)) rfl, T0_in (m1 (List.mem_of_getElem? (i := 11) rfl)) rfl, ⟨by decide +kernel, by decide +kernel, by decide +kernel⟩, by decide⟩
theorem K_X11_reads : CalV yX11_reads cX11_reads 6 (some .boolean) 3 := ⟨T0_in (m5 (List.mem_of_getElem? (i := 205) rfl)) rfl, T0_in (m5 (List.mem_of_getElem? (i := 204) rfl)) rfl, T0_in (m0 (List.mem_of_getElem? (i := 50) rfl)) rfl, T0_in (m1 (List.mem_of_getElem? (i := 11) rfl)) rfl, ⟨by decide +kernel, by decide +kernel, by decide +kernel⟩, by decide⟩
theorem K_X11_readsTerm : CalV yX11_readsTerm cX11_readsTerm 5 (some .boolean) 1 := ⟨T0_in (m5 (List.mem_of_getElem? (i := 213) rfl)) rfl, T0_in (m5 (List.mem_of_getElem? (i := 212) rfl)) rfl, T0_in (m0 (List.mem_of_getElem? (i := 52) rfl)) rfl, T0_in (m1 (List.mem_of_getElem? (i := 11) rfl)) rfl, ⟨by decide +kernel, by decide +kernel, by decide +kernel⟩, by decide⟩
theorem K_X11_readsSpell : CalV yX11_readsSpell cX11_readsSpell 4 (some .boolean) 1 := ⟨T0_in (m5 (List.mem_of_getElem? (i := 209) rfl)) rfl, T0_in (m5 (List.mem_of_getElem? (i := 208) rfl)) rfl, T0_in (m0 (List.mem_of_getElem? (i := 51) rfl)) rfl, T0_in (m1 (List.mem_of_getElem? (i := 11) rfl)) rfl, ⟨by decide +kernel, by decide +kernel, by decide +kernel⟩, by decide⟩
theorem K_X11_readsRest : CalV yX11_readsRest cX11_readsRest 2 (some .boolean) 1 := ⟨T0_in (m5 (List.mem_of_getElem? (i := 201) rfl)) rfl, T0_in (m5 (List.mem_of_getElem? (i := 200) rfl)) rfl, T0_in (m0 (List.mem_of_getElem? (i := 49) rfl)) rfl, T0_in (m1 (List.mem_of_getElem? (i := 11) rfl)) rfl, ⟨by decide +kernel, by decide +kernel, by decide +kernel⟩, by decide⟩
theorem K_X11_readsLine : CalV yX11_readsLine cX11_readsLine 3 (some .boolean) 0 := ⟨T0_in (m5 (List.mem_of_getElem? (i := 177) rfl)) rfl, T0_in (m5 (List.mem_of_getElem? (i := 176) rfl)) rfl, T0_in (m0 (List.mem_of_getElem? (i := 45) rfl)) rfl, T0_in (m1 (List.mem_of_getElem? (i := 11) rfl)) rfl, ⟨by decide +kernel, by decide +kernel, by decide +kernel⟩, by decide⟩
theorem K_X11_fault : CalV yX11_fault cX11_fault 2 (some .int) 0 := ⟨T0_in (m5 (List.mem_of_getElem? (i := 166) rfl)) rfl, T0_in (m5 (List.mem_of_getElem? (i := 164) rfl)) rfl, T0_in (m5 (List.mem_of_getElem? (i := 165) rfl)) rfl, T0_in (m1 (List.mem_of_getElem? (i := 11) rfl)) rfl, ⟨by decide +kernel, by decide +kernel, by decide +kernel⟩, by decide⟩
theorem K_X11_tell : CalV yX11_tell cX11_tell 4 none 1 := ⟨T0_in (m5 (List.mem_of_getElem? (i := 233) rfl)) rfl, T0_in (m5 (List.mem_of_getElem? (i := 232) rfl)) rfl, T0_in (m0 (List.mem_of_getElem? (i := 54) rfl)) rfl, T0_in (m1 (List.mem_of_getElem? (i := 11) rfl)) rfl, ⟨by decide +kernel, by decide +kernel, by decide +kernel⟩, by decide⟩
theorem K_X11_land : CalV yX11_land cX11_land 2 (some .int) 0 := ⟨T0_in (m5 (List.mem_of_getElem? (i := 228) rfl)) rfl, T0_in (m5 (List.mem_of_getElem? (i := 226) rfl)) rfl, T0_in (m5 (List.mem_of_getElem? (i := 227) rfl)) rfl, T0_in (m1 (List.mem_of_getElem? (i := 11) rfl)) rfl, ⟨by decide +kernel, by decide +kernel, by decide +kernel⟩, by decide⟩
theorem K_X11_holdsOf : CalS yX11_holdsOf cX11_holdsOf 1 (some .int) 1 := ⟨T0_in (m6 (List.mem_of_getElem? (i := 193) rfl)) rfl, T0_in (m6 (List.mem_of_getElem? (i := 192) rfl)) rfl, T0_in (m1 (List.mem_of_getElem? (i := 11) rfl)) rfl, ⟨by decide +kernel, by decide +kernel, by decide +kernel⟩, by decide⟩
theorem K_X11_brokenOf : CalS yX11_brokenOf cX11_brokenOf 1 (some .int) 1 := ⟨T0_in (m6 (List.mem_of_getElem? (i := 38) rfl)) rfl, T0_in (m6 (List.mem_of_getElem? (i := 37) rfl)) rfl, T0_in (m1 (List.mem_of_getElem? (i := 11) rfl)) rfl, ⟨by decide +kernel, by decide +kernel, by decide +kernel⟩, by decide⟩
theorem K_X11_weepersOf : CalS yX11_weepersOf cX11_weepersOf 1 (some .int) 1 := ⟨T0_in (m6 (List.mem_of_getElem? (i := 12) rfl)) rfl, T0_in (m6 (List.mem_of_getElem? (i := 11) rfl)) rfl, T0_in (m1 (List.mem_of_getElem? (i := 11) rfl)) rfl, ⟨by decide +kernel, by decide +kernel, by decide +kernel⟩, by decide⟩
theorem K_X11_askedOf : CalS yX11_askedOf cX11_askedOf 1 (some .int) 1 := ⟨T0_in (m6 (List.mem_of_getElem? (i := 41) rfl)) rfl, T0_in (m6 (List.mem_of_getElem? (i := 40) rfl)) rfl, T0_in (m1 (List.mem_of_getElem? (i := 11) rfl)) rfl, ⟨by decide +kernel, by decide +kernel, by decide +kernel⟩, by decide⟩
theorem K_X11_dayOf : CalS yX11_dayOf cX11_dayOf 1 (some .int) 1 := ⟨T0_in (m6 (List.mem_of_getElem? (i := 35) rfl)) rfl, T0_in (m6 (List.mem_of_getElem? (i := 34) rfl)) rfl, T0_in (m1 (List.mem_of_getElem? (i := 11) rfl)) rfl, ⟨by decide +kernel, by decide +kernel, by decide +kernel⟩, by decide⟩
theorem K_X11_isUnder : CalV yX11_isUnder cX11_isUnder 6 (some .boolean) 3 := ⟨T0_in (m6 (List.mem_of_getElem? (i := 6) rfl)) rfl, T0_in (m6 (List.mem_of_getElem? (i := 5) rfl)) rfl, T0_in (m0 (List.mem_of_getElem? (i := 56) rfl)) rfl, T0_in (m1 (List.mem_of_getElem? (i := 11) rfl)) rfl, ⟨by decide +kernel, by decide +kernel, by decide +kernel⟩, by decide⟩
theorem K_X11_isBound : CalV yX11_isBound cX11_isBound 5 (some .boolean) 2 := ⟨T0_in (m6 (List.mem_of_getElem? (i := 24) rfl)) rfl, T0_in (m6 (List.mem_of_getElem? (i := 23) rfl)) rfl, T0_in (m0 (List.mem_of_getElem? (i := 58) rfl)) rfl, T0_in (m1 (List.mem_of_getElem? (i := 11) rfl)) rfl, ⟨by decide +kernel, by decide +kernel, by decide +kernel⟩, by decide⟩
theorem K_X11_isSo : CalV yX11_isSo cX11_isSo 7 (some .boolean) 4 := ⟨T0_in (m6 (List.mem_of_getElem? (i := 32) rfl)) rfl, T0_in (m6 (List.mem_of_getElem? (i := 31) rfl)) rfl, T0_in (m0 (List.mem_of_getElem? (i := 59) rfl)) rfl, T0_in (m1 (List.mem_of_getElem? (i := 11) rfl)) rfl, ⟨by decide +kernel, by decide +kernel, by decide +kernel⟩, by decide⟩
theorem K_X11_soMany : CalV yX11_soMany cX11_soMany 6 (some .int) 3 := ⟨T0_in (m6 (List.mem_of_getElem? (i := 50) rfl)) rfl, T0_in (m6 (List.mem_of_getElem? (i := 49) rfl)) rfl, T0_in (m0 (List.mem_of_getElem? (i := 60) rfl)) rfl, T0_in (m1 (List.mem_of_getElem? (i := 11) rfl)) rfl, ⟨by decide +kernel, by decide +kernel, by decide +kernel⟩, by decide⟩
theorem K_X11_canDo : CalV yX11_canDo cX11_canDo 5 (some .boolean) 2 := ⟨T0_in (m6 (List.mem_of_getElem? (i := 68) rfl)) rfl, T0_in (m6 (List.mem_of_getElem? (i := 67) rfl)) rfl, T0_in (m0 (List.mem_of_getElem? (i := 62) rfl)) rfl, T0_in (m1 (List.mem_of_getElem? (i := 11) rfl)) rfl, ⟨by decide +kernel, by decide +kernel, by decide +kernel⟩, by decide⟩
theorem K_X11_doOnly : CalV yX11_doOnly cX11_doOnly 5 (some .int) 2 := ⟨T0_in (m6 (List.mem_of_getElem? (i := 80) rfl)) rfl, T0_in (m6 (List.mem_of_getElem? (i := 79) rfl)) rfl, T0_in (m0 (List.mem_of_getElem? (i := 64) rfl)) rfl, T0_in (m1 (List.mem_of_getElem? (i := 11) rfl)) rfl, ⟨by decide +kernel, by decide +kernel, by decide +kernel⟩, by decide⟩
theorem K_X11_behind : CalV yX11_behind cX11_behind 6 (some .int) 2 := ⟨T0_in (m6 (List.mem_of_getElem? (i := 76) rfl)) rfl, T0_in (m6 (List.mem_of_getElem? (i := 75) rfl)) rfl, T0_in (m0 (List.mem_of_getElem? (i := 63) rfl)) rfl, T0_in (m1 (List.mem_of_getElem? (i := 11) rfl)) rfl, ⟨by decide +kernel, by decide +kernel, by decide +kernel⟩, by decide⟩
theorem K_X11_isPerson : CalV yX11_isPerson cX11_isPerson 2 (some .boolean) 1 := ⟨T0_in (m6 (List.mem_of_getElem? (i := 1) rfl)) rfl, T0_in (m6 (List.mem_of_getElem? (i := 0) rfl)) rfl, T0_in (m0 (List.mem_of_getElem? (i := 55) rfl)) rfl, T0_in (m1 (List.mem_of_getElem? (i := 11) rfl)) rfl, ⟨by decide +kernel, by decide +kernel, by decide +kernel⟩, by decide⟩
theorem K_X11_isSpell : CalV yX11_isSpell cX11_isSpell 2 (some .boolean) 1 := ⟨T0_in (m6 (List.mem_of_getElem? (i := 20) rfl)) rfl, T0_in (m6 (List.mem_of_getElem? (i := 19) rfl)) rfl, T0_in (m0 (List.mem_of_getElem? (i := 57) rfl)) rfl, T0_in (m1 (List.mem_of_getElem? (i := 11) rfl)) rfl, ⟨by decide +kernel, by decide +kernel, by decide +kernel⟩, by decide⟩
theorem K_X11_person : CalV yX11_person cX11_person 3 (some .int) 2 := ⟨T0_in (m5 (List.mem_of_getElem? (i := 237) rfl)) rfl, T0_in (m5 (List.mem_of_getElem? (i := 235) rfl)) rfl, T0_in (m5 (List.mem_of_getElem? (i := 236) rfl)) rfl, T0_in (m1 (List.mem_of_getElem? (i := 11) rfl)) rfl, ⟨by decide +kernel, by decide +kernel, by decide +kernel⟩, by decide⟩
theorem K_X11_spell : CalV yX11_spell cX11_spell 3 (some .int) 2 := ⟨T0_in (m6 (List.mem_of_getElem? (i := 16) rfl)) rfl, T0_in (m6 (List.mem_of_getElem? (i := 14) rfl)) rfl, T0_in (m6 (List.mem_of_getElem? (i := 15) rfl)) rfl, T0_in (m1 (List.mem_of_getElem? (i := 11) rfl)) rfl, ⟨by decide +kernel, by decide +kernel, by decide +kernel⟩, by decide⟩
theorem K_X11_term : CalV yX11_term cX11_term 4 (some .int) 3 := ⟨T0_in (m6 (List.mem_of_getElem? (i := 28) rfl)) rfl, T0_in (m6 (List.mem_of_getElem? (i := 26) rfl)) rfl, T0_in (m6 (List.mem_of_getElem? (i := 27) rfl)) rfl, T0_in (m1 (List.mem_of_getElem? (i := 11) rfl)) rfl, ⟨by decide +kernel, by decide +kernel, by decide +kernel⟩, by decide⟩
theorem K_X11_as : CalV yX11_as cX11_as 5 (some .int) 2 := ⟨T0_in (m6 (List.mem_of_getElem? (i := 45) rfl)) rfl, T0_in (m6 (List.mem_of_getElem? (i := 43) rfl)) rfl, T0_in (m6 (List.mem_of_getElem? (i := 44) rfl)) rfl, T0_in (m1 (List.mem_of_getElem? (i := 11) rfl)) rfl, ⟨by decide +kernel, by decide +kernel, by decide +kernel⟩, by decide⟩
theorem K_X11_laidBy : CalV yX11_laidBy cX11_laidBy 7 (some .int) 1 := ⟨T0_in (m6 (List.mem_of_getElem? (i := 54) rfl)) rfl, T0_in (m6 (List.mem_of_getElem? (i := 52) rfl)) rfl, T0_in (m6 (List.mem_of_getElem? (i := 53) rfl)) rfl, T0_in (m1 (List.mem_of_getElem? (i := 11) rfl)) rfl, ⟨by decide +kernel, by decide +kernel, by decide +kernel⟩, by decide⟩
theorem K_X11_deedOf : CalV yX11_deedOf cX11_deedOf 4 (some .int) 3 := ⟨T0_in (m6 (List.mem_of_getElem? (i := 64) rfl)) rfl, T0_in (m6 (List.mem_of_getElem? (i := 63) rfl)) rfl, T0_in (m0 (List.mem_of_getElem? (i := 61) rfl)) rfl, T0_in (m1 (List.mem_of_getElem? (i := 11) rfl)) rfl, ⟨by decide +kernel, by decide +kernel, by decide +kernel⟩, by decide⟩
theorem K_X11_can : CalV yX11_can cX11_can 5 (some .int) 3 := ⟨T0_in (m6 (List.mem_of_getElem? (i := 60) rfl)) rfl, T0_in (m6 (List.mem_of_getElem? (i := 58) rfl)) rfl, T0_in (m6 (List.mem_of_getElem? (i := 59) rfl)) rfl, T0_in (m1 (List.mem_of_getElem? (i := 11) rfl)) rfl, ⟨by decide +kernel, by decide +kernel, by decide +kernel⟩, by decide⟩
theorem K_X11_act : CalV yX11_act cX11_act 6 (some .int) 3 := ⟨T0_in (m6 (List.mem_of_getElem? (i := 72) rfl)) rfl, T0_in (m6 (List.mem_of_getElem? (i := 70) rfl)) rfl, T0_in (m6 (List.mem_of_getElem? (i := 71) rfl)) rfl, T0_in (m1 (List.mem_of_getElem? (i := 11) rfl)) rfl, ⟨by decide +kernel, by decide +kernel, by decide +kernel⟩, by decide⟩
theorem K_X11_undo : CalV yX11_undo cX11_undo 1 (some .int) 0 := ⟨T0_in (m6 (List.mem_of_getElem? (i := 84) rfl)) rfl, T0_in (m6 (List.mem_of_getElem? (i := 82) rfl)) rfl, T0_in (m6 (List.mem_of_getElem? (i := 83) rfl)) rfl, T0_in (m1 (List.mem_of_getElem? (i := 11) rfl)) rfl, ⟨by decide +kernel, by decide +kernel, by decide +kernel⟩, by decide⟩
theorem K_X11_keep : CalV yX11_keep cX11_keep 2 (some .int) 1 := ⟨T0_in (m6 (List.mem_of_getElem? (i := 88) rfl)) rfl, T0_in (m6 (List.mem_of_getElem? (i := 86) rfl)) rfl, T0_in (m6 (List.mem_of_getElem? (i := 87) rfl)) rfl, T0_in (m1 (List.mem_of_getElem? (i := 11) rfl)) rfl, ⟨by decide +kernel, by decide +kernel, by decide +kernel⟩, by decide⟩
theorem K_X11_back : CalV yX11_back cX11_back 2 (some .int) 1 := ⟨T0_in (m6 (List.mem_of_getElem? (i := 92) rfl)) rfl, T0_in (m6 (List.mem_of_getElem? (i := 90) rfl)) rfl, T0_in (m6 (List.mem_of_getElem? (i := 91) rfl)) rfl, T0_in (m1 (List.mem_of_getElem? (i := 11) rfl)) rfl, ⟨by decide +kernel, by decide +kernel, by decide +kernel⟩, by decide⟩
theorem K_X11_put : CalV yX11_put cX11_put 3 none 2 := ⟨T0_in (m6 (List.mem_of_getElem? (i := 116) rfl)) rfl, T0_in (m6 (List.mem_of_getElem? (i := 115) rfl)) rfl, T0_in (m0 (List.mem_of_getElem? (i := 69) rfl)) rfl, T0_in (m1 (List.mem_of_getElem? (i := 11) rfl)) rfl, ⟨by decide +kernel, by decide +kernel, by decide +kernel⟩, by decide⟩
theorem K_X11_clearFars : CalV yX11_clearFars cX11_clearFars 2 none 0 := ⟨T0_in (m6 (List.mem_of_getElem? (i := 112) rfl)) rfl, T0_in (m6 (List.mem_of_getElem? (i := 111) rfl)) rfl, T0_in (m0 (List.mem_of_getElem? (i := 68) rfl)) rfl, T0_in (m1 (List.mem_of_getElem? (i := 11) rfl)) rfl, ⟨by decide +kernel, by decide +kernel, by decide +kernel⟩, by decide⟩
theorem K_X11_isBy : CalS yX11_isBy cX11_isBy 2 (some .boolean) 2 := ⟨T0_in (m6 (List.mem_of_getElem? (i := 119) rfl)) rfl, T0_in (m6 (List.mem_of_getElem? (i := 118) rfl)) rfl, T0_in (m1 (List.mem_of_getElem? (i := 11) rfl)) rfl, ⟨by decide +kernel, by decide +kernel, by decide +kernel⟩, by decide⟩
theorem K_X11_layFars : CalV yX11_layFars cX11_layFars 8 none 3 := ⟨T0_in (m6 (List.mem_of_getElem? (i := 108) rfl)) rfl, T0_in (m6 (List.mem_of_getElem? (i := 107) rfl)) rfl, T0_in (m0 (List.mem_of_getElem? (i := 67) rfl)) rfl, T0_in (m1 (List.mem_of_getElem? (i := 11) rfl)) rfl, ⟨by decide +kernel, by decide +kernel, by decide +kernel⟩, by decide⟩
theorem K_X11_layAll : CalV yX11_layAll cX11_layAll 2 none 1 := ⟨T0_in (m6 (List.mem_of_getElem? (i := 104) rfl)) rfl, T0_in (m6 (List.mem_of_getElem? (i := 103) rfl)) rfl, T0_in (m0 (List.mem_of_getElem? (i := 66) rfl)) rfl, T0_in (m1 (List.mem_of_getElem? (i := 11) rfl)) rfl, ⟨by decide +kernel, by decide +kernel, by decide +kernel⟩, by decide⟩
theorem K_X11_fewestTo : CalV yX11_fewestTo cX11_fewestTo 3 (some .int) 1 := ⟨T0_in (m6 (List.mem_of_getElem? (i := 123) rfl)) rfl, T0_in (m6 (List.mem_of_getElem? (i := 122) rfl)) rfl, T0_in (m0 (List.mem_of_getElem? (i := 70) rfl)) rfl, T0_in (m1 (List.mem_of_getElem? (i := 11) rfl)) rfl, ⟨by decide +kernel, by decide +kernel, by decide +kernel⟩, by decide⟩
theorem K_X11_isSet : CalV yX11_isSet cX11_isSet 2 (some .boolean) 1 := ⟨T0_in (m6 (List.mem_of_getElem? (i := 100) rfl)) rfl, T0_in (m6 (List.mem_of_getElem? (i := 99) rfl)) rfl, T0_in (m0 (List.mem_of_getElem? (i := 65) rfl)) rfl, T0_in (m1 (List.mem_of_getElem? (i := 11) rfl)) rfl, ⟨by decide +kernel, by decide +kernel, by decide +kernel⟩, by decide⟩
theorem K_X11_fewest : CalV yX11_fewest cX11_fewest 2 (some .int) 1 := ⟨T0_in (m6 (List.mem_of_getElem? (i := 96) rfl)) rfl, T0_in (m6 (List.mem_of_getElem? (i := 94) rfl)) rfl, T0_in (m6 (List.mem_of_getElem? (i := 95) rfl)) rfl, T0_in (m1 (List.mem_of_getElem? (i := 11) rfl)) rfl, ⟨by decide +kernel, by decide +kernel, by decide +kernel⟩, by decide⟩
theorem K_X11_leads : CalV yX11_leads cX11_leads 4 (some .boolean) 2 := ⟨T0_in (m6 (List.mem_of_getElem? (i := 135) rfl)) rfl, T0_in (m6 (List.mem_of_getElem? (i := 134) rfl)) rfl, T0_in (m0 (List.mem_of_getElem? (i := 72) rfl)) rfl, T0_in (m1 (List.mem_of_getElem? (i := 11) rfl)) rfl, ⟨by decide +kernel, by decide +kernel, by decide +kernel⟩, by decide⟩
theorem K_X11_layWays : CalV yX11_layWays cX11_layWays 7 none 2 := ⟨T0_in (m6 (List.mem_of_getElem? (i := 131) rfl)) rfl, T0_in (m6 (List.mem_of_getElem? (i := 130) rfl)) rfl, T0_in (m0 (List.mem_of_getElem? (i := 71) rfl)) rfl, T0_in (m1 (List.mem_of_getElem? (i := 11) rfl)) rfl, ⟨by decide +kernel, by decide +kernel, by decide +kernel⟩, by decide⟩
theorem K_X11_way : CalV yX11_way cX11_way 9 (some .int) 3 := ⟨T0_in (m6 (List.mem_of_getElem? (i := 127) rfl)) rfl, T0_in (m6 (List.mem_of_getElem? (i := 125) rfl)) rfl, T0_in (m6 (List.mem_of_getElem? (i := 126) rfl)) rfl, T0_in (m1 (List.mem_of_getElem? (i := 11) rfl)) rfl, ⟨by decide +kernel, by decide +kernel, by decide +kernel⟩, by decide⟩
theorem K_X11_helpers : CalV yX11_helpers cX11_helpers 5 (some .int) 2 := ⟨T0_in (m6 (List.mem_of_getElem? (i := 139) rfl)) rfl, T0_in (m6 (List.mem_of_getElem? (i := 137) rfl)) rfl, T0_in (m6 (List.mem_of_getElem? (i := 138) rfl)) rfl, T0_in (m1 (List.mem_of_getElem? (i := 11) rfl)) rfl, ⟨by decide +kernel, by decide +kernel, by decide +kernel⟩, by decide⟩
theorem K_X11_nights : CalV yX11_nights cX11_nights 7 (some .int) 1 := ⟨T0_in (m6 (List.mem_of_getElem? (i := 146) rfl)) rfl, T0_in (m6 (List.mem_of_getElem? (i := 144) rfl)) rfl, T0_in (m6 (List.mem_of_getElem? (i := 145) rfl)) rfl, T0_in (m1 (List.mem_of_getElem? (i := 11) rfl)) rfl, ⟨by decide +kernel, by decide +kernel, by decide +kernel⟩, by decide⟩
theorem K_X11_everHeld : CalV yX11_everHeld cX11_everHeld 3 (some .int) 0 := ⟨T0_in (m6 (List.mem_of_getElem? (i := 158) rfl)) rfl, T0_in (m6 (List.mem_of_getElem? (i := 157) rfl)) rfl, T0_in (m0 (List.mem_of_getElem? (i := 74) rfl)) rfl, T0_in (m1 (List.mem_of_getElem? (i := 11) rfl)) rfl, ⟨by decide +kernel, by decide +kernel, by decide +kernel⟩, by decide⟩
theorem K_X11_neverOf : CalV yX11_neverOf cX11_neverOf 1 (some .int) 0 := ⟨T0_in (m6 (List.mem_of_getElem? (i := 154) rfl)) rfl, T0_in (m6 (List.mem_of_getElem? (i := 153) rfl)) rfl, T0_in (m0 (List.mem_of_getElem? (i := 73) rfl)) rfl, T0_in (m1 (List.mem_of_getElem? (i := 11) rfl)) rfl, ⟨by decide +kernel, by decide +kernel, by decide +kernel⟩, by decide⟩
theorem K_X11_never : CalV yX11_never cX11_never 1 (some .int) 0 := ⟨T0_in (m6 (List.mem_of_getElem? (i := 150) rfl)) rfl, T0_in (m6 (List.mem_of_getElem? (i := 148) rfl)) rfl, T0_in (m6 (List.mem_of_getElem? (i := 149) rfl)) rfl, T0_in (m1 (List.mem_of_getElem? (i := 11) rfl)) rfl, ⟨by decide +kernel, by decide +kernel, by decide +kernel⟩, by decide⟩
theorem K_X11_ahead : CalV yX11_ahead cX11_ahead 4 (some .int) 1 := ⟨T0_in (m6 (List.mem_of_getElem? (i := 162) rfl)) rfl, T0_in (m6 (List.mem_of_getElem? (i := 160) rfl)) rfl, T0_in (m6 (List.mem_of_getElem? (i := 161) rfl)) rfl, T0_in (m1 (List.mem_of_getElem? (i := 11) rfl)) rfl, ⟨by decide +kernel, by decide +kernel, by decide +kernel⟩, by decide⟩
theorem K_X11_props : CalV yX11_props cX11_props 8 (some .int) 0 := ⟨T0_in (m6 (List.mem_of_getElem? (i := 166) rfl)) rfl, T0_in (m6 (List.mem_of_getElem? (i := 164) rfl)) rfl, T0_in (m6 (List.mem_of_getElem? (i := 165) rfl)) rfl, T0_in (m1 (List.mem_of_getElem? (i := 11) rfl)) rfl, ⟨by decide +kernel, by decide +kernel, by decide +kernel⟩, by decide⟩
theorem K_X11_gone : CalV yX11_gone cX11_gone 7 (some .int) 2 := ⟨T0_in (m6 (List.mem_of_getElem? (i := 170) rfl)) rfl, T0_in (m6 (List.mem_of_getElem? (i := 168) rfl)) rfl, T0_in (m6 (List.mem_of_getElem? (i := 169) rfl)) rfl, T0_in (m1 (List.mem_of_getElem? (i := 11) rfl)) rfl, ⟨by decide +kernel, by decide +kernel, by decide +kernel⟩, by decide⟩
theorem K_X11_many : CalV yX11_many cX11_many 4 (some .int) 1 := ⟨T0_in (m6 (List.mem_of_getElem? (i := 174) rfl)) rfl, T0_in (m6 (List.mem_of_getElem? (i := 172) rfl)) rfl, T0_in (m6 (List.mem_of_getElem? (i := 173) rfl)) rfl, T0_in (m1 (List.mem_of_getElem? (i := 11) rfl)) rfl, ⟨by decide +kernel, by decide +kernel, by decide +kernel⟩, by decide⟩
theorem K_X11_farthest : CalV yX11_farthest cX11_farthest 1 (some .int) 0 := ⟨T0_in (m6 (List.mem_of_getElem? (i := 178) rfl)) rfl, T0_in (m6 (List.mem_of_getElem? (i := 176) rfl)) rfl, T0_in (m6 (List.mem_of_getElem? (i := 177) rfl)) rfl, T0_in (m1 (List.mem_of_getElem? (i := 11) rfl)) rfl, ⟨by decide +kernel, by decide +kernel, by decide +kernel⟩, by decide⟩
theorem K_X11_row : CalV yX11_row cX11_row 5 (some .int) 3 := ⟨T0_in (m6 (List.mem_of_getElem? (i := 182) rfl)) rfl, T0_in (m6 (List.mem_of_getElem? (i := 180) rfl)) rfl, T0_in (m6 (List.mem_of_getElem? (i := 181) rfl)) rfl, T0_in (m1 (List.mem_of_getElem? (i := 11) rfl)) rfl, ⟨by decide +kernel, by decide +kernel, by decide +kernel⟩, by decide⟩
theorem K_X11_burn : CalV yX11_burn cX11_burn 2 (some .int) 0 := ⟨T0_in (m6 (List.mem_of_getElem? (i := 186) rfl)) rfl, T0_in (m6 (List.mem_of_getElem? (i := 184) rfl)) rfl, T0_in (m6 (List.mem_of_getElem? (i := 185) rfl)) rfl, T0_in (m1 (List.mem_of_getElem? (i := 11) rfl)) rfl, ⟨by decide +kernel, by decide +kernel, by decide +kernel⟩, by decide⟩
theorem K_X11_judge : CalV yX11_judge cX11_judge 4 (some .int) 1 := ⟨T0_in (m6 (List.mem_of_getElem? (i := 190) rfl)) rfl, T0_in (m6 (List.mem_of_getElem? (i := 188) rfl)) rfl, T0_in (m6 (List.mem_of_getElem? (i := 189) rfl)) rfl, T0_in (m1 (List.mem_of_getElem? (i := 11) rfl)) rfl, ⟨by decide +kernel, by decide +kernel, by decide +kernel⟩, by decide⟩
theorem K_X11_prince : CalV yX11_prince cX11_prince 4 (some .int) 3 := ⟨T0_in (m6 (List.mem_of_getElem? (i := 197) rfl)) rfl, T0_in (m6 (List.mem_of_getElem? (i := 195) rfl)) rfl, T0_in (m6 (List.mem_of_getElem? (i := 196) rfl)) rfl, T0_in (m1 (List.mem_of_getElem? (i := 11) rfl)) rfl, ⟨by decide +kernel, by decide +kernel, by decide +kernel⟩, by decide⟩
theorem K_X11_dismiss : CalV yX11_dismiss cX11_dismiss 2 (some .int) 0 := ⟨T0_in (m6 (List.mem_of_getElem? (i := 201) rfl)) rfl, T0_in (m6 (List.mem_of_getElem? (i := 199) rfl)) rfl, T0_in (m6 (List.mem_of_getElem? (i := 200) rfl)) rfl, T0_in (m1 (List.mem_of_getElem? (i := 11) rfl)) rfl, ⟨by decide +kernel, by decide +kernel, by decide +kernel⟩, by decide⟩
theorem K_X11_inLine : CalV yX11_inLine cX11_inLine 7 (some .int) 1 := ⟨T0_in (m6 (List.mem_of_getElem? (i := 205) rfl)) rfl, T0_in (m6 (List.mem_of_getElem? (i := 203) rfl)) rfl, T0_in (m6 (List.mem_of_getElem? (i := 204) rfl)) rfl, T0_in (m1 (List.mem_of_getElem? (i := 11) rfl)) rfl, ⟨by decide +kernel, by decide +kernel, by decide +kernel⟩, by decide⟩
theorem K_X11_tried : CalV yX11_tried cX11_tried 7 (some .int) 5 := ⟨T0_in (m6 (List.mem_of_getElem? (i := 209) rfl)) rfl, T0_in (m6 (List.mem_of_getElem? (i := 207) rfl)) rfl, T0_in (m6 (List.mem_of_getElem? (i := 208) rfl)) rfl, T0_in (m1 (List.mem_of_getElem? (i := 11) rfl)) rfl, ⟨by decide +kernel, by decide +kernel, by decide +kernel⟩, by decide⟩
theorem K_X11_forget : CalV yX11_forget cX11_forget 2 (some .int) 0 := ⟨T0_in (m6 (List.mem_of_getElem? (i := 213) rfl)) rfl, T0_in (m6 (List.mem_of_getElem? (i := 211) rfl)) rfl, T0_in (m6 (List.mem_of_getElem? (i := 212) rfl)) rfl, T0_in (m1 (List.mem_of_getElem? (i := 11) rfl)) rfl, ⟨by decide +kernel, by decide +kernel, by decide +kernel⟩, by decide⟩
theorem K_X11_termMany : CalV yX11_termMany cX11_termMany 1 (some .int) 0 := ⟨T0_in (m6 (List.mem_of_getElem? (i := 221) rfl)) rfl, T0_in (m6 (List.mem_of_getElem? (i := 220) rfl)) rfl, T0_in (m0 (List.mem_of_getElem? (i := 75) rfl)) rfl, T0_in (m1 (List.mem_of_getElem? (i := 11) rfl)) rfl, ⟨by decide +kernel, by decide +kernel, by decide +kernel⟩, by decide⟩
theorem K_X11_termOf : CalV yX11_termOf cX11_termOf 3 (some .int) 1 := ⟨T0_in (m6 (List.mem_of_getElem? (i := 237) rfl)) rfl, T0_in (m6 (List.mem_of_getElem? (i := 236) rfl)) rfl, T0_in (m0 (List.mem_of_getElem? (i := 79) rfl)) rfl, T0_in (m1 (List.mem_of_getElem? (i := 11) rfl)) rfl, ⟨by decide +kernel, by decide +kernel, by decide +kernel⟩, by decide⟩
theorem K_X11_numberOf : CalV yX11_numberOf cX11_numberOf 3 (some .int) 1 := ⟨T0_in (m6 (List.mem_of_getElem? (i := 233) rfl)) rfl, T0_in (m6 (List.mem_of_getElem? (i := 232) rfl)) rfl, T0_in (m0 (List.mem_of_getElem? (i := 78) rfl)) rfl, T0_in (m1 (List.mem_of_getElem? (i := 11) rfl)) rfl, ⟨by decide +kernel, by decide +kernel, by decide +kernel⟩, by decide⟩
theorem K_X11_wasSo : CalV yX11_wasSo cX11_wasSo 7 (some .boolean) 5 := ⟨T0_in (m6 (List.mem_of_getElem? (i := 229) rfl)) rfl, T0_in (m6 (List.mem_of_getElem? (i := 228) rfl)) rfl, T0_in (m0 (List.mem_of_getElem? (i := 77) rfl)) rfl, T0_in (m1 (List.mem_of_getElem? (i := 11) rfl)) rfl, ⟨by decide +kernel, by decide +kernel, by decide +kernel⟩, by decide⟩
theorem K_X11_fits : CalV yX11_fits cX11_fits 7 (some .boolean) 2 := ⟨T0_in (m6 (List.mem_of_getElem? (i := 225) rfl)) rfl, T0_in (m6 (List.mem_of_getElem? (i := 224) rfl)) rfl, T0_in (m0 (List.mem_of_getElem? (i := 76) rfl)) rfl, T0_in (m1 (List.mem_of_getElem? (i := 11) rfl)) rfl, ⟨by decide +kernel, by decide +kernel, by decide +kernel⟩, by decide⟩
theorem K_X11_mayBe : CalV yX11_mayBe cX11_mayBe 7 (some .int) 1 := ⟨T0_in (m6 (List.mem_of_getElem? (i := 217) rfl)) rfl, T0_in (m6 (List.mem_of_getElem? (i := 215) rfl)) rfl, T0_in (m6 (List.mem_of_getElem? (i := 216) rfl)) rfl, T0_in (m1 (List.mem_of_getElem? (i := 11) rfl)) rfl, ⟨by decide +kernel, by decide +kernel, by decide +kernel⟩, by decide⟩
theorem K_X11_next : CalV yX11_next cX11_next 10 (some .int) 0 := ⟨T0_in (m7 (List.mem_of_getElem? (i := 1) rfl)) rfl, T0_in (m6 (List.mem_of_getElem? (i := 239) rfl)) rfl, T0_in (m7 (List.mem_of_getElem? (i := 0) rfl)) rfl, T0_in (m1 (List.mem_of_getElem? (i := 11) rfl)) rfl, ⟨by decide +kernel, by decide +kernel, by decide +kernel⟩, by decide⟩
theorem K_X11_count : CalV yX11_count cX11_count 2 (some .int) 1 := ⟨T0_in (m7 (List.mem_of_getElem? (i := 5) rfl)) rfl, T0_in (m7 (List.mem_of_getElem? (i := 3) rfl)) rfl, T0_in (m7 (List.mem_of_getElem? (i := 4) rfl)) rfl, T0_in (m1 (List.mem_of_getElem? (i := 11) rfl)) rfl, ⟨by decide +kernel, by decide +kernel, by decide +kernel⟩, by decide⟩
theorem inT2 : ∀ w ∈ u_ws RX2 TX2 6, w ∈ T0 := by
  intro w h
  have h : w ∈ [178, 180, 182, 184, 186, 188].filterMap (fun i => lw_tbl[i]?) := by
    rw [show [178, 180, 182, 184, 186, 188].filterMap (fun i => lw_tbl[i]?) = u_ws RX2 TX2 6 by decide +kernel]; exact h
  obtain ⟨i, hi, hw⟩ := List.mem_filterMap.mp h
  refine T0_in (List.mem_of_getElem? hw) ?_
  have hg : (([178, 180, 182, 184, 186, 188].filterMap (fun i => lw_tbl[i]?)).all goodWord) = true := by decide +kernel
  exact List.all_eq_true.mp hg w h
theorem inT3 : ∀ w ∈ u_ws RX3 TX3 2, w ∈ T0 := by
  intro w h
  have h : w ∈ [119, 121].filterMap (fun i => lw_tbl[i]?) := by
    rw [show [119, 121].filterMap (fun i => lw_tbl[i]?) = u_ws RX3 TX3 2 by decide +kernel]; exact h
  obtain ⟨i, hi, hw⟩ := List.mem_filterMap.mp h
  refine T0_in (List.mem_of_getElem? hw) ?_
  have hg : (([119, 121].filterMap (fun i => lw_tbl[i]?)).all goodWord) = true := by decide +kernel
  exact List.all_eq_true.mp hg w h
theorem inT4 : ∀ w ∈ u_ws RX4 TX4 16, w ∈ T0 := by
  intro w h
  have h : w ∈ [213, 215, 217, 219, 221, 223, 225, 227, 229, 231, 233, 235, 237, 239, 241, 243].filterMap (fun i => lw_tbl[i]?) := by
    rw [show [213, 215, 217, 219, 221, 223, 225, 227, 229, 231, 233, 235, 237, 239, 241, 243].filterMap (fun i => lw_tbl[i]?) = u_ws RX4 TX4 16 by decide +kernel]; exact h
  obtain ⟨i, hi, hw⟩ := List.mem_filterMap.mp h
  refine T0_in (List.mem_of_getElem? hw) ?_
  have hg : (([213, 215, 217, 219, 221, 223, 225, 227, 229, 231, 233, 235, 237, 239, 241, 243].filterMap (fun i => lw_tbl[i]?)).all goodWord) = true := by decide +kernel
  exact List.all_eq_true.mp hg w h
theorem inT5 : ∀ w ∈ u_ws RX5 TX5 9, w ∈ T0 := by
  intro w h
  have h : w ∈ [261, 263, 265, 267, 269, 271, 273, 275, 277].filterMap (fun i => lw_tbl[i]?) := by
    rw [show [261, 263, 265, 267, 269, 271, 273, 275, 277].filterMap (fun i => lw_tbl[i]?) = u_ws RX5 TX5 9 by decide +kernel]; exact h
  obtain ⟨i, hi, hw⟩ := List.mem_filterMap.mp h
  refine T0_in (List.mem_of_getElem? hw) ?_
  have hg : (([261, 263, 265, 267, 269, 271, 273, 275, 277].filterMap (fun i => lw_tbl[i]?)).all goodWord) = true := by decide +kernel
  exact List.all_eq_true.mp hg w h
theorem inT8 : ∀ w ∈ u_ws RX8 TX8 10, w ∈ T0 := by
  intro w h
  have h : w ∈ [141, 143, 145, 147, 149, 151, 153, 155, 157, 159].filterMap (fun i => lw_tbl[i]?) := by
    rw [show [141, 143, 145, 147, 149, 151, 153, 155, 157, 159].filterMap (fun i => lw_tbl[i]?) = u_ws RX8 TX8 10 by decide +kernel]; exact h
  obtain ⟨i, hi, hw⟩ := List.mem_filterMap.mp h
  refine T0_in (List.mem_of_getElem? hw) ?_
  have hg : (([141, 143, 145, 147, 149, 151, 153, 155, 157, 159].filterMap (fun i => lw_tbl[i]?)).all goodWord) = true := by decide +kernel
  exact List.all_eq_true.mp hg w h
theorem inT9 : ∀ w ∈ u_ws RX9 TX9 4, w ∈ T0 := by
  intro w h
  have h : w ∈ [293, 295, 297, 299].filterMap (fun i => lw_tbl[i]?) := by
    rw [show [293, 295, 297, 299].filterMap (fun i => lw_tbl[i]?) = u_ws RX9 TX9 4 by decide +kernel]; exact h
  obtain ⟨i, hi, hw⟩ := List.mem_filterMap.mp h
  refine T0_in (List.mem_of_getElem? hw) ?_
  have hg : (([293, 295, 297, 299].filterMap (fun i => lw_tbl[i]?)).all goodWord) = true := by decide +kernel
  exact List.all_eq_true.mp hg w h
theorem inT10 : ∀ w ∈ u_ws RX10 TX10 14, w ∈ T0 := by
  intro w h
  have h : w ∈ [431, 433, 435, 437, 439, 441, 443, 445, 447, 449, 451, 453, 455, 457].filterMap (fun i => lw_tbl[i]?) := by
    rw [show [431, 433, 435, 437, 439, 441, 443, 445, 447, 449, 451, 453, 455, 457].filterMap (fun i => lw_tbl[i]?) = u_ws RX10 TX10 14 by decide +kernel]; exact h
  obtain ⟨i, hi, hw⟩ := List.mem_filterMap.mp h
  refine T0_in (List.mem_of_getElem? hw) ?_
  have hg : (([431, 433, 435, 437, 439, 441, 443, 445, 447, 449, 451, 453, 455, 457].filterMap (fun i => lw_tbl[i]?)).all goodWord) = true := by decide +kernel
  exact List.all_eq_true.mp hg w h
theorem inT11 : ∀ w ∈ u_ws RX11 TX11 34, w ∈ T0 := by
  intro w h
  have h : w ∈ [1121, 1123, 1125, 1127, 1129, 1131, 1133, 1135, 1137, 1139, 1141, 1143, 1145, 1147, 1149, 1151, 1153, 1155, 1157, 1159, 1161, 1163, 1165, 1167, 1169, 1171, 1173, 1175, 1177, 1179, 1181, 1183, 1185, 1187].filterMap (fun i => lw_tbl[i]?) := by
    rw [show [1121, 1123, 1125, 1127, 1129, 1131, 1133, 1135, 1137, 1139, 1141, 1143, 1145, 1147, 1149, 1151, 1153, 1155, 1157, 1159, 1161, 1163, 1165, 1167, 1169, 1171, 1173, 1175, 1177, 1179, 1181, 1183, 1185, 1187].filterMap (fun i => lw_tbl[i]?) = u_ws RX11 TX11 34 by decide +kernel]; exact h
  obtain ⟨i, hi, hw⟩ := List.mem_filterMap.mp h
  refine T0_in (List.mem_of_getElem? hw) ?_
  have hg : (([1121, 1123, 1125, 1127, 1129, 1131, 1133, 1135, 1137, 1139, 1141, 1143, 1145, 1147, 1149, 1151, 1153, 1155, 1157, 1159, 1161, 1163, 1165, 1167, 1169, 1171, 1173, 1175, 1177, 1179, 1181, 1183, 1185, 1187].filterMap (fun i => lw_tbl[i]?)).all goodWord) = true := by decide +kernel
  exact List.all_eq_true.mp hg w h
