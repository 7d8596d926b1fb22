theorem u82 : Cond.initialized "java/lang/Math" ∈ T0 := T0_at 82 (by decide +kernel) (by decide +kernel)
theorem u113 : Cond.methodLink "SevenSpells$Row" 9 ⟨"java/lang/Math", "max", "(II)I"⟩ ∈ T0 := T0_at 113 (by decide +kernel) (by decide +kernel)
theorem u114 : Cond.static ⟨"java/lang/Math", "max", "(II)I"⟩ ∈ T0 := T0_at 114 (by decide +kernel) (by decide +kernel)
theorem u115 : Cond.code ⟨"java/lang/Math", "max", "(II)I"⟩ prog_15_method_65_code 2 (Option.some .int) ∈ T0 := T0_at 115 (by decide +kernel) (by decide +kernel)
theorem u116 : Cond.fieldLink "SevenSpells$Row" 15 "SevenSpells$Row" "items" "[I" ∈ T0 := T0_at 116 (by decide +kernel) (by decide +kernel)
theorem u117 : Cond.fieldLink "SevenSpells$Row" 21 "SevenSpells$Row" "size" "I" ∈ T0 := T0_at 117 (by decide +kernel) (by decide +kernel)
theorem u130 : Cond.fieldLink "SevenSpells$Told" 9 "SevenSpells$Told" "people" "I" ∈ T0 := T0_at 130 (by decide +kernel) (by decide +kernel)
theorem u131 : Cond.fieldLink "SevenSpells$Told" 34 "SevenSpells$Told" "spells" "I" ∈ T0 := T0_at 131 (by decide +kernel) (by decide +kernel)
theorem u132 : Cond.fieldLink "SevenSpells$Told" 37 "SevenSpells$Told" "day" "I" ∈ T0 := T0_at 132 (by decide +kernel) (by decide +kernel)
theorem u133 : Cond.fieldLink "SevenSpells$Told" 40 "SevenSpells$Told" "broken" "I" ∈ T0 := T0_at 133 (by decide +kernel) (by decide +kernel)
theorem u134 : Cond.fieldLink "SevenSpells$Told" 15 "SevenSpells$Told" "kinds" "[I" ∈ T0 := T0_at 134 (by decide +kernel) (by decide +kernel)
theorem u135 : Cond.fieldLink "SevenSpells$Told" 19 "SevenSpells$Told" "targets" "[I" ∈ T0 := T0_at 135 (by decide +kernel) (by decide +kernel)
theorem u136 : Cond.fieldLink "SevenSpells$Told" 22 "SevenSpells$Told" "wakes" "[I" ∈ T0 := T0_at 136 (by decide +kernel) (by decide +kernel)
theorem u137 : Cond.fieldLink "SevenSpells$Told" 25 "SevenSpells$Told" "terms" "[I" ∈ T0 := T0_at 137 (by decide +kernel) (by decide +kernel)
theorem u138 : Cond.fieldLink "SevenSpells$Told" 28 "SevenSpells$Told" "sorts" "[I" ∈ T0 := T0_at 138 (by decide +kernel) (by decide +kernel)
theorem u139 : Cond.fieldLink "SevenSpells$Told" 31 "SevenSpells$Told" "numbers" "[I" ∈ T0 := T0_at 139 (by decide +kernel) (by decide +kernel)
theorem u171 : Cond.fieldLink "SevenSpells$Reader" 30 "SevenSpells$Reader" "text" "LSevenSpells$Row;" ∈ T0 := T0_at 171 (by decide +kernel) (by decide +kernel)
theorem u172 : Cond.fieldLink "SevenSpells$Reader" 14 "SevenSpells$Reader" "codes" "LSevenSpells$Row;" ∈ T0 := T0_at 172 (by decide +kernel) (by decide +kernel)
theorem u174 : Cond.fieldLink "SevenSpells$Reader" 26 "SevenSpells$Reader" "draft" "LSevenSpells$Told;" ∈ T0 := T0_at 174 (by decide +kernel) (by decide +kernel)
theorem u175 : Cond.fieldLink "SevenSpells$Reader" 44 "SevenSpells$Reader" "at" "I" ∈ T0 := T0_at 175 (by decide +kernel) (by decide +kernel)
theorem u176 : Cond.fieldLink "SevenSpells$Reader" 33 "SevenSpells$Reader" "lines" "I" ∈ T0 := T0_at 176 (by decide +kernel) (by decide +kernel)
theorem u196 : Cond.fieldLink "SevenSpells$Rules" 61 "SevenSpells$Rules" "people" "I" ∈ T0 := T0_at 196 (by decide +kernel) (by decide +kernel)
theorem u197 : Cond.fieldLink "SevenSpells$Rules" 73 "SevenSpells$Rules" "spells" "I" ∈ T0 := T0_at 197 (by decide +kernel) (by decide +kernel)
theorem u198 : Cond.fieldLink "SevenSpells$Rules" 137 "SevenSpells$Rules" "deedCount" "I" ∈ T0 := T0_at 198 (by decide +kernel) (by decide +kernel)
theorem u199 : Cond.fieldLink "SevenSpells$Rules" 9 "SevenSpells$Rules" "masks" "[I" ∈ T0 := T0_at 199 (by decide +kernel) (by decide +kernel)
theorem u200 : Cond.fieldLink "SevenSpells$Rules" 15 "SevenSpells$Rules" "values" "[I" ∈ T0 := T0_at 200 (by decide +kernel) (by decide +kernel)
theorem u201 : Cond.fieldLink "SevenSpells$Rules" 18 "SevenSpells$Rules" "askings" "[I" ∈ T0 := T0_at 201 (by decide +kernel) (by decide +kernel)
theorem u202 : Cond.fieldLink "SevenSpells$Rules" 21 "SevenSpells$Rules" "kissesNeeded" "[I" ∈ T0 := T0_at 202 (by decide +kernel) (by decide +kernel)
theorem u203 : Cond.fieldLink "SevenSpells$Rules" 24 "SevenSpells$Rules" "wakings" "[I" ∈ T0 := T0_at 203 (by decide +kernel) (by decide +kernel)
theorem u204 : Cond.fieldLink "SevenSpells$Rules" 27 "SevenSpells$Rules" "binders" "[I" ∈ T0 := T0_at 204 (by decide +kernel) (by decide +kernel)
theorem u205 : Cond.fieldLink "SevenSpells$Rules" 32 "SevenSpells$Rules" "curses" "[I" ∈ T0 := T0_at 205 (by decide +kernel) (by decide +kernel)
theorem u206 : Cond.fieldLink "SevenSpells$Rules" 37 "SevenSpells$Rules" "doers" "[I" ∈ T0 := T0_at 206 (by decide +kernel) (by decide +kernel)
theorem u207 : Cond.fieldLink "SevenSpells$Rules" 40 "SevenSpells$Rules" "sorts" "[I" ∈ T0 := T0_at 207 (by decide +kernel) (by decide +kernel)
theorem u208 : Cond.fieldLink "SevenSpells$Rules" 43 "SevenSpells$Rules" "whichs" "[I" ∈ T0 := T0_at 208 (by decide +kernel) (by decide +kernel)
theorem u209 : Cond.fieldLink "SevenSpells$Rules" 46 "SevenSpells$Rules" "bars" "[I" ∈ T0 := T0_at 209 (by decide +kernel) (by decide +kernel)
theorem u210 : Cond.fieldLink "SevenSpells$Rules" 49 "SevenSpells$Rules" "bits" "[I" ∈ T0 := T0_at 210 (by decide +kernel) (by decide +kernel)
theorem u211 : Cond.fieldLink "SevenSpells$Rules" 52 "SevenSpells$Rules" "kisses" "[I" ∈ T0 := T0_at 211 (by decide +kernel) (by decide +kernel)
theorem u251 : Cond.fieldLink "SevenSpells$Search" 24 "SevenSpells$Search" "rules" "LSevenSpells$Rules;" ∈ T0 := T0_at 251 (by decide +kernel) (by decide +kernel)
theorem u252 : Cond.fieldLink "SevenSpells$Search" 11 "SevenSpells$Search" "seen" "[J" ∈ T0 := T0_at 252 (by decide +kernel) (by decide +kernel)
theorem u253 : Cond.fieldLink "SevenSpells$Search" 17 "SevenSpells$Search" "found" "[J" ∈ T0 := T0_at 253 (by decide +kernel) (by decide +kernel)
theorem u254 : Cond.fieldLink "SevenSpells$Search" 50 "SevenSpells$Search" "size" "I" ∈ T0 := T0_at 254 (by decide +kernel) (by decide +kernel)
theorem u255 : Cond.fieldLink "SevenSpells$Search" 53 "SevenSpells$Search" "opened" "I" ∈ T0 := T0_at 255 (by decide +kernel) (by decide +kernel)
theorem u256 : Cond.fieldLink "SevenSpells$Search" 20 "SevenSpells$Search" "start" "I" ∈ T0 := T0_at 256 (by decide +kernel) (by decide +kernel)
theorem u258 : Cond.fieldLink "SevenSpells$Search" 31 "SevenSpells$Search" "unlifted" "I" ∈ T0 := T0_at 258 (by decide +kernel) (by decide +kernel)
theorem u259 : Cond.fieldLink "SevenSpells$Search" 60 "SevenSpells$Search" "deedsAllowed" "I" ∈ T0 := T0_at 259 (by decide +kernel) (by decide +kernel)
theorem u288 : Cond.fieldLink "SevenSpells$Trials" 16 "SevenSpells$Trials" "trials" "LSevenSpells$Row;" ∈ T0 := T0_at 288 (by decide +kernel) (by decide +kernel)
theorem u289 : Cond.fieldLink "SevenSpells$Trials" 28 "SevenSpells$Trials" "lifted" "I" ∈ T0 := T0_at 289 (by decide +kernel) (by decide +kernel)
theorem u290 : Cond.fieldLink "SevenSpells$Trials" 20 "SevenSpells$Trials" "so" "[I" ∈ T0 := T0_at 290 (by decide +kernel) (by decide +kernel)
theorem u291 : Cond.fieldLink "SevenSpells$Trials" 39 "SevenSpells$Trials" "people" "I" ∈ T0 := T0_at 291 (by decide +kernel) (by decide +kernel)
theorem u318 : Cond.static ⟨"java/lang/Math", "min", "(II)I"⟩ ∈ T0 := T0_at 318 (by decide +kernel) (by decide +kernel)
theorem u319 : Cond.code ⟨"java/lang/Math", "min", "(II)I"⟩ prog_15_method_69_code 2 (Option.some .int) ∈ T0 := T0_at 319 (by decide +kernel) (by decide +kernel)
theorem u327 : Cond.methodLink "SevenSpells$Rules" 92 ⟨"SevenSpells$Told", "kindOf", "(I)I"⟩ ∈ T0 := T0_at 327 (by decide +kernel) (by decide +kernel)
theorem u331 : Cond.methodLink "SevenSpells$Told" 53 ⟨"SevenSpells$Told", "hasSpell", "(I)Z"⟩ ∈ T0 := T0_at 331 (by decide +kernel) (by decide +kernel)
theorem u335 : Cond.methodLink "SevenSpells$Rules" 96 ⟨"SevenSpells$Told", "targetOf", "(I)I"⟩ ∈ T0 := T0_at 335 (by decide +kernel) (by decide +kernel)
theorem u339 : Cond.methodLink "SevenSpells$Rules" 99 ⟨"SevenSpells$Rules", "isCurse", "(II)Z"⟩ ∈ T0 := T0_at 339 (by decide +kernel) (by decide +kernel)
theorem u346 : Cond.methodLink "SevenSpells$Rules" 103 ⟨"SevenSpells$Told", "wakenedBy", "(I)I"⟩ ∈ T0 := T0_at 346 (by decide +kernel) (by decide +kernel)
theorem u350 : Cond.methodLink "SevenSpells$Rules" 106 ⟨"SevenSpells$Told", "termsOf", "(I)I"⟩ ∈ T0 := T0_at 350 (by decide +kernel) (by decide +kernel)
theorem u354 : Cond.methodLink "SevenSpells$Rules" 109 ⟨"SevenSpells$Told", "sortOf", "(II)I"⟩ ∈ T0 := T0_at 354 (by decide +kernel) (by decide +kernel)
theorem u358 : Cond.methodLink "SevenSpells$Told" 57 ⟨"SevenSpells$Told", "hasTerm", "(II)Z"⟩ ∈ T0 := T0_at 358 (by decide +kernel) (by decide +kernel)
theorem u362 : Cond.methodLink "SevenSpells$Rules" 112 ⟨"SevenSpells$Told", "numberOf", "(II)I"⟩ ∈ T0 := T0_at 362 (by decide +kernel) (by decide +kernel)
theorem u366 : Cond.methodLink "SevenSpells$Rules" 115 ⟨"SevenSpells$Rules", "kissOf", "(II)I"⟩ ∈ T0 := T0_at 366 (by decide +kernel) (by decide +kernel)
theorem u369 : Cond.methodLink "SevenSpells$Rules" 118 ⟨"SevenSpells$Rules", "needKiss", "(II)V"⟩ ∈ T0 := T0_at 369 (by decide +kernel) (by decide +kernel)
theorem u373 : Cond.methodLink "SevenSpells$Rules" 124 ⟨"java/lang/Math", "max", "(II)I"⟩ ∈ T0 := T0_at 373 (by decide +kernel) (by decide +kernel)
theorem u374 : Cond.methodLink "SevenSpells$Rules" 127 ⟨"SevenSpells$Term", "maskOf", "(II)I"⟩ ∈ T0 := T0_at 374 (by decide +kernel) (by decide +kernel)
theorem u377 : Cond.constant "SevenSpells$Term" 22 (57344 : Int32) ∈ T0 := T0_at 377 (by decide +kernel) (by decide +kernel)
theorem u378 : Cond.methodLink "SevenSpells$Rules" 130 ⟨"SevenSpells$Term", "valueOf", "(II)I"⟩ ∈ T0 := T0_at 378 (by decide +kernel) (by decide +kernel)
theorem u381 : Cond.methodLink "SevenSpells$Term" 15 ⟨"SevenSpells$Term", "maskOf", "(II)I"⟩ ∈ T0 := T0_at 381 (by decide +kernel) (by decide +kernel)
theorem u382 : Cond.methodLink "SevenSpells$Rules" 133 ⟨"SevenSpells$Rules", "needBits", "(III)V"⟩ ∈ T0 := T0_at 382 (by decide +kernel) (by decide +kernel)
theorem u390 : Cond.methodLink "SevenSpells$Rules" 140 ⟨"SevenSpells$Rules", "cursesOn", "(II)I"⟩ ∈ T0 := T0_at 390 (by decide +kernel) (by decide +kernel)
theorem u394 : Cond.methodLink "SevenSpells$Rules" 143 ⟨"SevenSpells$Rules", "addDeed", "(IIIII)V"⟩ ∈ T0 := T0_at 394 (by decide +kernel) (by decide +kernel)
theorem u406 : Cond.methodLink "SevenSpells" 87 ⟨"SevenSpells$Row", "empty", "()I"⟩ ∈ T0 := T0_at 406 (by decide +kernel) (by decide +kernel)
theorem u411 : Cond.methodLink "SevenSpells" 127 ⟨"SevenSpells$Trials", "empty", "()I"⟩ ∈ T0 := T0_at 411 (by decide +kernel) (by decide +kernel)
theorem u415 : Cond.methodLink "SevenSpells$Trials" 36 ⟨"SevenSpells$Row", "empty", "()I"⟩ ∈ T0 := T0_at 415 (by decide +kernel) (by decide +kernel)
theorem u416 : Cond.fieldLink "SevenSpells" 14 "SevenSpells" "text" "LSevenSpells$Row;" ∈ T0 := T0_at 416 (by decide +kernel) (by decide +kernel)
theorem u417 : Cond.fieldLink "SevenSpells" 21 "SevenSpells" "told" "LSevenSpells$Told;" ∈ T0 := T0_at 417 (by decide +kernel) (by decide +kernel)
theorem u419 : Cond.fieldLink "SevenSpells" 37 "SevenSpells" "rules" "LSevenSpells$Rules;" ∈ T0 := T0_at 419 (by decide +kernel) (by decide +kernel)
theorem u422 : Cond.fieldLink "SevenSpells" 56 "SevenSpells" "trials" "LSevenSpells$Trials;" ∈ T0 := T0_at 422 (by decide +kernel) (by decide +kernel)
theorem u423 : Cond.fieldLink "SevenSpells" 60 "SevenSpells" "undoable" "LSevenSpells$Row;" ∈ T0 := T0_at 423 (by decide +kernel) (by decide +kernel)
theorem u424 : Cond.fieldLink "SevenSpells" 63 "SevenSpells" "keptStates" "[I" ∈ T0 := T0_at 424 (by decide +kernel) (by decide +kernel)
theorem u425 : Cond.fieldLink "SevenSpells" 67 "SevenSpells" "keptDeeds" "[I" ∈ T0 := T0_at 425 (by decide +kernel) (by decide +kernel)
theorem u426 : Cond.fieldLink "SevenSpells" 70 "SevenSpells" "row" "LSevenSpells$Row;" ∈ T0 := T0_at 426 (by decide +kernel) (by decide +kernel)
theorem u427 : Cond.fieldLink "SevenSpells" 73 "SevenSpells" "princes" "LSevenSpells$Row;" ∈ T0 := T0_at 427 (by decide +kernel) (by decide +kernel)
theorem u428 : Cond.fieldLink "SevenSpells" 114 "SevenSpells" "state" "I" ∈ T0 := T0_at 428 (by decide +kernel) (by decide +kernel)
theorem u429 : Cond.fieldLink "SevenSpells" 118 "SevenSpells" "deeds" "I" ∈ T0 := T0_at 429 (by decide +kernel) (by decide +kernel)
theorem u463 : Cond.methodLink "SevenSpells" 79 ⟨"SevenSpells$Row", "add", "(I)Z"⟩ ∈ T0 := T0_at 463 (by decide +kernel) (by decide +kernel)
theorem u467 : Cond.methodLink "SevenSpells" 83 ⟨"SevenSpells$Row", "size", "()I"⟩ ∈ T0 := T0_at 467 (by decide +kernel) (by decide +kernel)
theorem u495 : Cond.methodLink "SevenSpells$Reader" 62 ⟨"SevenSpells$Row", "size", "()I"⟩ ∈ T0 := T0_at 495 (by decide +kernel) (by decide +kernel)
theorem u500 : Cond.methodLink "SevenSpells$Reader" 51 ⟨"SevenSpells$Row", "at", "(I)I"⟩ ∈ T0 := T0_at 500 (by decide +kernel) (by decide +kernel)
theorem u504 : Cond.methodLink "SevenSpells$Reader" 75 ⟨"SevenSpells$Reader", "isSmall", "(I)Z"⟩ ∈ T0 := T0_at 504 (by decide +kernel) (by decide +kernel)
theorem u507 : Cond.methodLink "SevenSpells$Reader" 78 ⟨"SevenSpells$Reader", "isDigit", "(I)Z"⟩ ∈ T0 := T0_at 507 (by decide +kernel) (by decide +kernel)
theorem u576 : Cond.methodLink "SevenSpells$Reader" 99 ⟨"SevenSpells$Reader", "readSpell", "(I)Z"⟩ ∈ T0 := T0_at 576 (by decide +kernel) (by decide +kernel)
theorem u580 : Cond.methodLink "SevenSpells$Reader" 117 ⟨"SevenSpells$Told", "isFull", "()Z"⟩ ∈ T0 := T0_at 580 (by decide +kernel) (by decide +kernel)
theorem u584 : Cond.methodLink "SevenSpells$Reader" 105 ⟨"SevenSpells$Reader", "takeNumberBehind", "(I)I"⟩ ∈ T0 := T0_at 584 (by decide +kernel) (by decide +kernel)
theorem u588 : Cond.methodLink "SevenSpells$Reader" 133 ⟨"SevenSpells$Reader", "lastNumberBehind", "(I)I"⟩ ∈ T0 := T0_at 588 (by decide +kernel) (by decide +kernel)
theorem u592 : Cond.methodLink "SevenSpells$Reader" 136 ⟨"SevenSpells$Told", "people", "()I"⟩ ∈ T0 := T0_at 592 (by decide +kernel) (by decide +kernel)
theorem u593 : Cond.methodLink "SevenSpells$Reader" 139 ⟨"SevenSpells$Told", "spells", "()I"⟩ ∈ T0 := T0_at 593 (by decide +kernel) (by decide +kernel)
theorem u594 : Cond.methodLink "SevenSpells$Reader" 54 ⟨"SevenSpells$Reader", "takes", "(I)Z"⟩ ∈ T0 := T0_at 594 (by decide +kernel) (by decide +kernel)
theorem u598 : Cond.methodLink "SevenSpells$Reader" 120 ⟨"SevenSpells$Told", "beginSpell", "(II)V"⟩ ∈ T0 := T0_at 598 (by decide +kernel) (by decide +kernel)
theorem u602 : Cond.methodLink "SevenSpells$Told" 49 ⟨"SevenSpells$Told", "isFull", "()Z"⟩ ∈ T0 := T0_at 602 (by decide +kernel) (by decide +kernel)
theorem u603 : Cond.methodLink "SevenSpells$Reader" 124 ⟨"SevenSpells$Reader", "readTerm", "()Z"⟩ ∈ T0 := T0_at 603 (by decide +kernel) (by decide +kernel)
theorem u607 : Cond.methodLink "SevenSpells$Reader" 130 ⟨"SevenSpells$Told", "addTerm", "(II)V"⟩ ∈ T0 := T0_at 607 (by decide +kernel) (by decide +kernel)
theorem u611 : Cond.methodLink "SevenSpells$Reader" 127 ⟨"SevenSpells$Told", "endSpell", "(I)V"⟩ ∈ T0 := T0_at 611 (by decide +kernel) (by decide +kernel)
theorem u615 : Cond.methodLink "SevenSpells$Reader" 102 ⟨"SevenSpells$Told", "tellBare", "()V"⟩ ∈ T0 := T0_at 615 (by decide +kernel) (by decide +kernel)
theorem u619 : Cond.methodLink "SevenSpells$Reader" 108 ⟨"SevenSpells$Told", "tellPeople", "(I)V"⟩ ∈ T0 := T0_at 619 (by decide +kernel) (by decide +kernel)
theorem u623 : Cond.methodLink "SevenSpells$Reader" 111 ⟨"SevenSpells$Told", "tellDay", "(I)V"⟩ ∈ T0 := T0_at 623 (by decide +kernel) (by decide +kernel)
theorem u627 : Cond.methodLink "SevenSpells$Reader" 114 ⟨"SevenSpells$Told", "tellBroken", "(I)V"⟩ ∈ T0 := T0_at 627 (by decide +kernel) (by decide +kernel)
theorem u649 : Cond.methodLink "SevenSpells" 128 ⟨"SevenSpells$Told", "hasPerson", "(I)Z"⟩ ∈ T0 := T0_at 649 (by decide +kernel) (by decide +kernel)
theorem u653 : Cond.methodLink "SevenSpells" 131 ⟨"SevenSpells$State", "weepers", "(I)I"⟩ ∈ T0 := T0_at 653 (by decide +kernel) (by decide +kernel)
theorem u656 : Cond.methodLink "SevenSpells" 137 ⟨"SevenSpells$Rules", "cursesOn", "(II)I"⟩ ∈ T0 := T0_at 656 (by decide +kernel) (by decide +kernel)
theorem u657 : Cond.methodLink "SevenSpells" 141 ⟨"SevenSpells", "oneIf", "(Z)I"⟩ ∈ T0 := T0_at 657 (by decide +kernel) (by decide +kernel)
theorem u664 : Cond.methodLink "SevenSpells" 145 ⟨"SevenSpells$Told", "hasSpell", "(I)Z"⟩ ∈ T0 := T0_at 664 (by decide +kernel) (by decide +kernel)
theorem u665 : Cond.methodLink "SevenSpells" 148 ⟨"SevenSpells$Told", "kindOf", "(I)I"⟩ ∈ T0 := T0_at 665 (by decide +kernel) (by decide +kernel)
theorem u666 : Cond.methodLink "SevenSpells" 151 ⟨"SevenSpells$Told", "targetOf", "(I)I"⟩ ∈ T0 := T0_at 666 (by decide +kernel) (by decide +kernel)
theorem u667 : Cond.methodLink "SevenSpells" 154 ⟨"SevenSpells$Rules", "bindersOf", "(I)I"⟩ ∈ T0 := T0_at 667 (by decide +kernel) (by decide +kernel)
theorem u671 : Cond.methodLink "SevenSpells" 157 ⟨"SevenSpells$Told", "termsOf", "(I)I"⟩ ∈ T0 := T0_at 671 (by decide +kernel) (by decide +kernel)
theorem u672 : Cond.methodLink "SevenSpells" 160 ⟨"SevenSpells$Told", "wakenedBy", "(I)I"⟩ ∈ T0 := T0_at 672 (by decide +kernel) (by decide +kernel)
theorem u677 : Cond.methodLink "SevenSpells" 163 ⟨"SevenSpells$Told", "sortOf", "(II)I"⟩ ∈ T0 := T0_at 677 (by decide +kernel) (by decide +kernel)
theorem u678 : Cond.methodLink "SevenSpells" 166 ⟨"SevenSpells$Told", "numberOf", "(II)I"⟩ ∈ T0 := T0_at 678 (by decide +kernel) (by decide +kernel)
theorem u679 : Cond.methodLink "SevenSpells" 169 ⟨"SevenSpells", "isSoNow", "(II)Z"⟩ ∈ T0 := T0_at 679 (by decide +kernel) (by decide +kernel)
theorem u683 : Cond.methodLink "SevenSpells" 181 ⟨"SevenSpells$Term", "isSo", "(III)Z"⟩ ∈ T0 := T0_at 683 (by decide +kernel) (by decide +kernel)
theorem u686 : Cond.methodLink "SevenSpells$Term" 9 ⟨"SevenSpells$State", "asked", "(I)I"⟩ ∈ T0 := T0_at 686 (by decide +kernel) (by decide +kernel)
theorem u689 : Cond.methodLink "SevenSpells$Term" 19 ⟨"SevenSpells$Term", "valueOf", "(II)I"⟩ ∈ T0 := T0_at 689 (by decide +kernel) (by decide +kernel)
theorem u699 : Cond.methodLink "SevenSpells" 178 ⟨"SevenSpells", "termsSoNow", "(I)I"⟩ ∈ T0 := T0_at 699 (by decide +kernel) (by decide +kernel)
theorem u707 : Cond.methodLink "SevenSpells" 187 ⟨"SevenSpells", "wordsLovedBy", "(II)I"⟩ ∈ T0 := T0_at 707 (by decide +kernel) (by decide +kernel)
theorem u711 : Cond.methodLink "SevenSpells" 190 ⟨"SevenSpells$Term", "lover", "(I)I"⟩ ∈ T0 := T0_at 711 (by decide +kernel) (by decide +kernel)
theorem u718 : Cond.methodLink "SevenSpells" 193 ⟨"SevenSpells", "refusal", "(III)I"⟩ ∈ T0 := T0_at 718 (by decide +kernel) (by decide +kernel)
theorem u722 : Cond.methodLink "SevenSpells" 203 ⟨"SevenSpells", "isAnother", "(II)Z"⟩ ∈ T0 := T0_at 722 (by decide +kernel) (by decide +kernel)
theorem u726 : Cond.methodLink "SevenSpells" 197 ⟨"SevenSpells$Rules", "deedOf", "(III)I"⟩ ∈ T0 := T0_at 726 (by decide +kernel) (by decide +kernel)
theorem u730 : Cond.methodLink "SevenSpells" 200 ⟨"SevenSpells$Rules", "after", "(II)I"⟩ ∈ T0 := T0_at 730 (by decide +kernel) (by decide +kernel)
theorem u734 : Cond.methodLink "SevenSpells$Rules" 154 ⟨"SevenSpells$State", "asked", "(I)I"⟩ ∈ T0 := T0_at 734 (by decide +kernel) (by decide +kernel)
theorem u735 : Cond.methodLink "SevenSpells$Rules" 157 ⟨"SevenSpells$State", "nextDay", "(I)I"⟩ ∈ T0 := T0_at 735 (by decide +kernel) (by decide +kernel)
theorem u738 : Cond.constant "SevenSpells$State" 11 (-58241 : Int32) ∈ T0 := T0_at 738 (by decide +kernel) (by decide +kernel)
theorem u743 : Cond.methodLink "SevenSpells" 208 ⟨"SevenSpells$Row", "isFull", "()Z"⟩ ∈ T0 := T0_at 743 (by decide +kernel) (by decide +kernel)
theorem u747 : Cond.methodLink "SevenSpells" 212 ⟨"SevenSpells$Row", "dropFirst", "()V"⟩ ∈ T0 := T0_at 747 (by decide +kernel) (by decide +kernel)
theorem u751 : Cond.methodLink "SevenSpells$Row" 25 ⟨"SevenSpells$Row", "dropLast", "()V"⟩ ∈ T0 := T0_at 751 (by decide +kernel) (by decide +kernel)
theorem u755 : Cond.methodLink "SevenSpells" 215 ⟨"SevenSpells$State", "of", "(I)I"⟩ ∈ T0 := T0_at 755 (by decide +kernel) (by decide +kernel)
theorem u758 : Cond.constant "SevenSpells$State" 12 (65535 : Int32) ∈ T0 := T0_at 758 (by decide +kernel) (by decide +kernel)
theorem u759 : Cond.methodLink "SevenSpells" 218 ⟨"SevenSpells$State", "lifted", "(I)I"⟩ ∈ T0 := T0_at 759 (by decide +kernel) (by decide +kernel)
theorem u766 : Cond.methodLink "SevenSpells" 221 ⟨"SevenSpells$Row", "at", "(I)I"⟩ ∈ T0 := T0_at 766 (by decide +kernel) (by decide +kernel)
theorem u767 : Cond.methodLink "SevenSpells" 224 ⟨"SevenSpells$Row", "dropLast", "()V"⟩ ∈ T0 := T0_at 767 (by decide +kernel) (by decide +kernel)
theorem u788 : Cond.methodLink "SevenSpells" 236 ⟨"SevenSpells$Told", "everybody", "()I"⟩ ∈ T0 := T0_at 788 (by decide +kernel) (by decide +kernel)
theorem u804 : Cond.constant "SevenSpells$Rules" 149 (57344 : Int32) ∈ T0 := T0_at 804 (by decide +kernel) (by decide +kernel)
theorem u812 : Cond.methodLink "SevenSpells$Search" 63 ⟨"SevenSpells$Search", "add", "(IIII)V"⟩ ∈ T0 := T0_at 812 (by decide +kernel) (by decide +kernel)
theorem u820 : Cond.methodLink "SevenSpells$Search" 93 ⟨"SevenSpells$Search", "firstWithout", "(I)I"⟩ ∈ T0 := T0_at 820 (by decide +kernel) (by decide +kernel)
theorem u824 : Cond.constant "SevenSpells$Search" 86 (57344 : Int32) ∈ T0 := T0_at 824 (by decide +kernel) (by decide +kernel)
theorem u825 : Cond.methodLink "SevenSpells$Search" 71 ⟨"SevenSpells$Search", "stateAt", "(I)I"⟩ ∈ T0 := T0_at 825 (by decide +kernel) (by decide +kernel)
theorem u829 : Cond.methodLink "SevenSpells$Search" 67 ⟨"SevenSpells$State", "of", "(I)I"⟩ ∈ T0 := T0_at 829 (by decide +kernel) (by decide +kernel)
theorem u830 : Cond.methodLink "SevenSpells$Search" 87 ⟨"SevenSpells$Rules", "nightDeed", "()I"⟩ ∈ T0 := T0_at 830 (by decide +kernel) (by decide +kernel)
theorem u834 : Cond.methodLink "SevenSpells$Search" 90 ⟨"SevenSpells$Search", "open", "(III)V"⟩ ∈ T0 := T0_at 834 (by decide +kernel) (by decide +kernel)
theorem u838 : Cond.methodLink "SevenSpells$Search" 74 ⟨"SevenSpells$Search", "distanceAt", "(I)I"⟩ ∈ T0 := T0_at 838 (by decide +kernel) (by decide +kernel)
theorem u842 : Cond.constant "SevenSpells$Search" 70 (65535 : Int32) ∈ T0 := T0_at 842 (by decide +kernel) (by decide +kernel)
theorem u843 : Cond.methodLink "SevenSpells$Search" 79 ⟨"SevenSpells$Rules", "after", "(II)I"⟩ ∈ T0 := T0_at 843 (by decide +kernel) (by decide +kernel)
theorem u844 : Cond.methodLink "SevenSpells$Search" 83 ⟨"SevenSpells$State", "lifted", "(I)I"⟩ ∈ T0 := T0_at 844 (by decide +kernel) (by decide +kernel)
theorem u853 : Cond.methodLink "SevenSpells$Search" 96 ⟨"SevenSpells$Search", "fromAt", "(I)I"⟩ ∈ T0 := T0_at 853 (by decide +kernel) (by decide +kernel)
theorem u857 : Cond.methodLink "SevenSpells$Search" 99 ⟨"SevenSpells$Search", "deedAt", "(I)I"⟩ ∈ T0 := T0_at 857 (by decide +kernel) (by decide +kernel)
theorem u865 : Cond.methodLink "SevenSpells$Rules" 150 ⟨"SevenSpells$Rules", "isDeed", "(I)Z"⟩ ∈ T0 := T0_at 865 (by decide +kernel) (by decide +kernel)
theorem u885 : Cond.methodLink "SevenSpells" 257 ⟨"java/lang/Integer", "bitCount", "(I)I"⟩ ∈ T0 := T0_at 885 (by decide +kernel) (by decide +kernel)
theorem u912 : Cond.methodLink "SevenSpells$Search" 105 ⟨"SevenSpells$State", "holding", "(I)I"⟩ ∈ T0 := T0_at 912 (by decide +kernel) (by decide +kernel)
theorem u919 : Cond.methodLink "SevenSpells" 271 ⟨"SevenSpells$State", "holding", "(I)I"⟩ ∈ T0 := T0_at 919 (by decide +kernel) (by decide +kernel)
theorem u940 : Cond.methodLink "SevenSpells$Search" 108 ⟨"SevenSpells$Search", "openAll", "()V"⟩ ∈ T0 := T0_at 940 (by decide +kernel) (by decide +kernel)
theorem u976 : Cond.methodLink "SevenSpells" 283 ⟨"SevenSpells$State", "day", "(I)I"⟩ ∈ T0 := T0_at 976 (by decide +kernel) (by decide +kernel)
theorem u979 : Cond.methodLink "SevenSpells" 286 ⟨"SevenSpells$Rules", "nightDeed", "()I"⟩ ∈ T0 := T0_at 979 (by decide +kernel) (by decide +kernel)
theorem u984 : Cond.methodLink "SevenSpells" 289 ⟨"SevenSpells$Trials", "packed", "(IIII)I"⟩ ∈ T0 := T0_at 984 (by decide +kernel) (by decide +kernel)
theorem u987 : Cond.methodLink "SevenSpells" 293 ⟨"SevenSpells$Trials", "add", "(II)Z"⟩ ∈ T0 := T0_at 987 (by decide +kernel) (by decide +kernel)
theorem u991 : Cond.methodLink "SevenSpells$Trials" 24 ⟨"SevenSpells$Row", "add", "(I)Z"⟩ ∈ T0 := T0_at 991 (by decide +kernel) (by decide +kernel)
theorem u992 : Cond.methodLink "SevenSpells$Trials" 32 ⟨"SevenSpells$Row", "size", "()I"⟩ ∈ T0 := T0_at 992 (by decide +kernel) (by decide +kernel)
theorem u993 : Cond.methodLink "SevenSpells" 295 ⟨"SevenSpells$Trials", "size", "()I"⟩ ∈ T0 := T0_at 993 (by decide +kernel) (by decide +kernel)
theorem u1005 : Cond.methodLink "SevenSpells" 296 ⟨"SevenSpells$Told", "people", "()I"⟩ ∈ T0 := T0_at 1005 (by decide +kernel) (by decide +kernel)
theorem u1006 : Cond.methodLink "SevenSpells" 299 ⟨"SevenSpells$Trials", "weigh", "(I)V"⟩ ∈ T0 := T0_at 1006 (by decide +kernel) (by decide +kernel)
theorem u1010 : Cond.methodLink "SevenSpells$Trials" 57 ⟨"SevenSpells$Trials", "candidates", "()I"⟩ ∈ T0 := T0_at 1010 (by decide +kernel) (by decide +kernel)
theorem u1014 : Cond.methodLink "SevenSpells$Trials" 42 ⟨"java/lang/Math", "min", "(II)I"⟩ ∈ T0 := T0_at 1014 (by decide +kernel) (by decide +kernel)
theorem u1015 : Cond.methodLink "SevenSpells$Trials" 60 ⟨"SevenSpells$Row", "at", "(I)I"⟩ ∈ T0 := T0_at 1015 (by decide +kernel) (by decide +kernel)
theorem u1016 : Cond.methodLink "SevenSpells$Trials" 63 ⟨"SevenSpells$Trials", "isSoIn", "(II)Z"⟩ ∈ T0 := T0_at 1016 (by decide +kernel) (by decide +kernel)
theorem u1020 : Cond.methodLink "SevenSpells$Trials" 54 ⟨"SevenSpells$Trials", "numberOf", "(I)I"⟩ ∈ T0 := T0_at 1020 (by decide +kernel) (by decide +kernel)
theorem u1024 : Cond.methodLink "SevenSpells$Trials" 50 ⟨"SevenSpells$Trials", "sortOf", "(I)I"⟩ ∈ T0 := T0_at 1024 (by decide +kernel) (by decide +kernel)
theorem u1029 : Cond.methodLink "SevenSpells" 302 ⟨"SevenSpells$Trials", "howMany", "()I"⟩ ∈ T0 := T0_at 1029 (by decide +kernel) (by decide +kernel)
theorem u1033 : Cond.methodLink "SevenSpells$Trials" 71 ⟨"SevenSpells$Trials", "fits", "(II)Z"⟩ ∈ T0 := T0_at 1033 (by decide +kernel) (by decide +kernel)
theorem u1037 : Cond.methodLink "SevenSpells" 305 ⟨"SevenSpells$Trials", "firstTerm", "()I"⟩ ∈ T0 := T0_at 1037 (by decide +kernel) (by decide +kernel)
theorem u1041 : Cond.methodLink "SevenSpells$Trials" 74 ⟨"SevenSpells$Trials", "partnerOf", "(I)I"⟩ ∈ T0 := T0_at 1041 (by decide +kernel) (by decide +kernel)
theorem u1045 : Cond.methodLink "SevenSpells" 308 ⟨"SevenSpells$Trials", "secondTerm", "(I)I"⟩ ∈ T0 := T0_at 1045 (by decide +kernel) (by decide +kernel)
theorem u1049 : Cond.methodLink "SevenSpells" 311 ⟨"SevenSpells$Trials", "sortOf", "(I)I"⟩ ∈ T0 := T0_at 1049 (by decide +kernel) (by decide +kernel)
theorem u1050 : Cond.methodLink "SevenSpells" 312 ⟨"SevenSpells$Trials", "numberOf", "(I)I"⟩ ∈ T0 := T0_at 1050 (by decide +kernel) (by decide +kernel)
theorem u1055 : Cond.methodLink "SevenSpells" 314 ⟨"SevenSpells$Trials", "bestDay", "()I"⟩ ∈ T0 := T0_at 1055 (by decide +kernel) (by decide +kernel)
theorem u1059 : Cond.methodLink "SevenSpells$Trials" 77 ⟨"SevenSpells$Trials", "howMany", "()I"⟩ ∈ T0 := T0_at 1059 (by decide +kernel) (by decide +kernel)
theorem u1060 : Cond.methodLink "SevenSpells$Trials" 80 ⟨"SevenSpells$Trials", "packed", "(IIII)I"⟩ ∈ T0 := T0_at 1060 (by decide +kernel) (by decide +kernel)
theorem u1061 : Cond.methodLink "SevenSpells$Trials" 84 ⟨"SevenSpells$Trials", "liftedBy", "(I)I"⟩ ∈ T0 := T0_at 1061 (by decide +kernel) (by decide +kernel)
theorem u1065 : Cond.methodLink "SevenSpells$Trials" 87 ⟨"java/lang/Math", "max", "(II)I"⟩ ∈ T0 := T0_at 1065 (by decide +kernel) (by decide +kernel)
theorem u1070 : Cond.methodLink "SevenSpells" 317 ⟨"SevenSpells$Told", "spells", "()I"⟩ ∈ T0 := T0_at 1070 (by decide +kernel) (by decide +kernel)
theorem u1071 : Cond.methodLink "SevenSpells" 320 ⟨"SevenSpells$State", "broken", "(I)I"⟩ ∈ T0 := T0_at 1071 (by decide +kernel) (by decide +kernel)
theorem u1074 : Cond.methodLink "SevenSpells" 323 ⟨"SevenSpells$State", "asked", "(I)I"⟩ ∈ T0 := T0_at 1074 (by decide +kernel) (by decide +kernel)
theorem u1081 : Cond.constant "SevenSpellsModel" 36 (57344 : Int32) ∈ T0 := T0_at 1081 (by decide +kernel) (by decide +kernel)
theorem u1082 : Cond.fieldLink "SevenSpellsModel" 7 "SevenSpellsModel" "text" "[I" ∈ T0 := T0_at 1082 (by decide +kernel) (by decide +kernel)
theorem u1083 : Cond.fieldLink "SevenSpellsModel" 64 "SevenSpellsModel" "length" "I" ∈ T0 := T0_at 1083 (by decide +kernel) (by decide +kernel)
theorem u1084 : Cond.fieldLink "SevenSpellsModel" 13 "SevenSpellsModel" "read" "[I" ∈ T0 := T0_at 1084 (by decide +kernel) (by decide +kernel)
theorem u1085 : Cond.fieldLink "SevenSpellsModel" 101 "SevenSpellsModel" "readMany" "I" ∈ T0 := T0_at 1085 (by decide +kernel) (by decide +kernel)
theorem u1086 : Cond.fieldLink "SevenSpellsModel" 16 "SevenSpellsModel" "people" "I" ∈ T0 := T0_at 1086 (by decide +kernel) (by decide +kernel)
theorem u1087 : Cond.fieldLink "SevenSpellsModel" 143 "SevenSpellsModel" "toldDay" "I" ∈ T0 := T0_at 1087 (by decide +kernel) (by decide +kernel)
theorem u1088 : Cond.fieldLink "SevenSpellsModel" 146 "SevenSpellsModel" "toldBroken" "I" ∈ T0 := T0_at 1088 (by decide +kernel) (by decide +kernel)
theorem u1089 : Cond.fieldLink "SevenSpellsModel" 20 "SevenSpellsModel" "spells" "[I" ∈ T0 := T0_at 1089 (by decide +kernel) (by decide +kernel)
theorem u1090 : Cond.fieldLink "SevenSpellsModel" 136 "SevenSpellsModel" "many" "I" ∈ T0 := T0_at 1090 (by decide +kernel) (by decide +kernel)
theorem u1091 : Cond.fieldLink "SevenSpellsModel" 156 "SevenSpellsModel" "now" "I" ∈ T0 := T0_at 1091 (by decide +kernel) (by decide +kernel)
theorem u1092 : Cond.fieldLink "SevenSpellsModel" 159 "SevenSpellsModel" "deeds" "I" ∈ T0 := T0_at 1092 (by decide +kernel) (by decide +kernel)
theorem u1093 : Cond.fieldLink "SevenSpellsModel" 23 "SevenSpellsModel" "pasts" "[I" ∈ T0 := T0_at 1093 (by decide +kernel) (by decide +kernel)
theorem u1094 : Cond.fieldLink "SevenSpellsModel" 162 "SevenSpellsModel" "pastMany" "I" ∈ T0 := T0_at 1094 (by decide +kernel) (by decide +kernel)
theorem u1095 : Cond.fieldLink "SevenSpellsModel" 26 "SevenSpellsModel" "keptStates" "[I" ∈ T0 := T0_at 1095 (by decide +kernel) (by decide +kernel)
theorem u1096 : Cond.fieldLink "SevenSpellsModel" 29 "SevenSpellsModel" "keptDeeds" "[I" ∈ T0 := T0_at 1096 (by decide +kernel) (by decide +kernel)
theorem u1097 : Cond.fieldLink "SevenSpellsModel" 32 "SevenSpellsModel" "isKept" "[Z" ∈ T0 := T0_at 1097 (by decide +kernel) (by decide +kernel)
theorem u1098 : Cond.fieldLink "SevenSpellsModel" 67 "SevenSpellsModel" "at" "I" ∈ T0 := T0_at 1098 (by decide +kernel) (by decide +kernel)
theorem u1099 : Cond.fieldLink "SevenSpellsModel" 70 "SevenSpellsModel" "place" "I" ∈ T0 := T0_at 1099 (by decide +kernel) (by decide +kernel)
theorem u1100 : Cond.fieldLink "SevenSpellsModel" 77 "SevenSpellsModel" "end" "I" ∈ T0 := T0_at 1100 (by decide +kernel) (by decide +kernel)
theorem u1101 : Cond.fieldLink "SevenSpellsModel" 110 "SevenSpellsModel" "readPeople" "I" ∈ T0 := T0_at 1101 (by decide +kernel) (by decide +kernel)
theorem u1102 : Cond.fieldLink "SevenSpellsModel" 113 "SevenSpellsModel" "readSpells" "I" ∈ T0 := T0_at 1102 (by decide +kernel) (by decide +kernel)
theorem u1103 : Cond.fieldLink "SevenSpellsModel" 200 "SevenSpellsModel" "lifted" "I" ∈ T0 := T0_at 1103 (by decide +kernel) (by decide +kernel)
theorem u1104 : Cond.fieldLink "SevenSpellsModel" 37 "SevenSpellsModel" "fars" "[I" ∈ T0 := T0_at 1104 (by decide +kernel) (by decide +kernel)
theorem u1105 : Cond.fieldLink "SevenSpellsModel" 40 "SevenSpellsModel" "queue" "[I" ∈ T0 := T0_at 1105 (by decide +kernel) (by decide +kernel)
theorem u1106 : Cond.fieldLink "SevenSpellsModel" 233 "SevenSpellsModel" "queued" "I" ∈ T0 := T0_at 1106 (by decide +kernel) (by decide +kernel)
theorem u1107 : Cond.fieldLink "SevenSpellsModel" 43 "SevenSpellsModel" "later" "[I" ∈ T0 := T0_at 1107 (by decide +kernel) (by decide +kernel)
theorem u1108 : Cond.fieldLink "SevenSpellsModel" 268 "SevenSpellsModel" "laterMany" "I" ∈ T0 := T0_at 1108 (by decide +kernel) (by decide +kernel)
theorem u1109 : Cond.fieldLink "SevenSpellsModel" 46 "SevenSpellsModel" "onWay" "[Z" ∈ T0 := T0_at 1109 (by decide +kernel) (by decide +kernel)
theorem u1110 : Cond.fieldLink "SevenSpellsModel" 49 "SevenSpellsModel" "row" "[I" ∈ T0 := T0_at 1110 (by decide +kernel) (by decide +kernel)
theorem u1111 : Cond.fieldLink "SevenSpellsModel" 165 "SevenSpellsModel" "rowMany" "I" ∈ T0 := T0_at 1111 (by decide +kernel) (by decide +kernel)
theorem u1112 : Cond.fieldLink "SevenSpellsModel" 52 "SevenSpellsModel" "princes" "[I" ∈ T0 := T0_at 1112 (by decide +kernel) (by decide +kernel)
theorem u1113 : Cond.fieldLink "SevenSpellsModel" 168 "SevenSpellsModel" "princeMany" "I" ∈ T0 := T0_at 1113 (by decide +kernel) (by decide +kernel)
theorem u1114 : Cond.fieldLink "SevenSpellsModel" 55 "SevenSpellsModel" "tries" "[I" ∈ T0 := T0_at 1114 (by decide +kernel) (by decide +kernel)
theorem u1115 : Cond.fieldLink "SevenSpellsModel" 171 "SevenSpellsModel" "triedMany" "I" ∈ T0 := T0_at 1115 (by decide +kernel) (by decide +kernel)
theorem u1190 : Cond.constantLong "SevenSpellsModel" 58 (255 : Int64) ∈ T0 := T0_at 1190 (by decide +kernel) (by decide +kernel)
theorem u1191 : Cond.methodLink "SevenSpellsModel" 60 ⟨"SevenSpellsModel", "in", "(JJJ)Z"⟩ ∈ T0 := T0_at 1191 (by decide +kernel) (by decide +kernel)
theorem u1202 : Cond.methodLink "SevenSpellsModel" 104 ⟨"SevenSpellsModel", "token", "()V"⟩ ∈ T0 := T0_at 1202 (by decide +kernel) (by decide +kernel)
theorem u1206 : Cond.methodLink "SevenSpellsModel" 73 ⟨"SevenSpellsModel", "sort", "(I)I"⟩ ∈ T0 := T0_at 1206 (by decide +kernel) (by decide +kernel)
theorem u1209 : Cond.methodLink "SevenSpellsModel" 139 ⟨"SevenSpellsModel", "readsLine", "()Z"⟩ ∈ T0 := T0_at 1209 (by decide +kernel) (by decide +kernel)
theorem u1213 : Cond.methodLink "SevenSpellsModel" 128 ⟨"SevenSpellsModel", "wordOf", "()I"⟩ ∈ T0 := T0_at 1213 (by decide +kernel) (by decide +kernel)
theorem u1217 : Cond.methodLink "SevenSpellsModel" 88 ⟨"SevenSpellsModel", "spellWord", "()I"⟩ ∈ T0 := T0_at 1217 (by decide +kernel) (by decide +kernel)
theorem u1221 : Cond.constant "SevenSpellsModel" 80 (16946579 : Int32) ∈ T0 := T0_at 1221 (by decide +kernel) (by decide +kernel)
theorem u1222 : Cond.methodLink "SevenSpellsModel" 81 ⟨"SevenSpellsModel", "isWord", "(II)Z"⟩ ∈ T0 := T0_at 1222 (by decide +kernel) (by decide +kernel)
theorem u1226 : Cond.constant "SevenSpellsModel" 85 (245318 : Int32) ∈ T0 := T0_at 1226 (by decide +kernel) (by decide +kernel)
theorem u1227 : Cond.constant "SevenSpellsModel" 86 (185005 : Int32) ∈ T0 := T0_at 1227 (by decide +kernel) (by decide +kernel)
theorem u1228 : Cond.constant "SevenSpellsModel" 87 (145698 : Int32) ∈ T0 := T0_at 1228 (by decide +kernel) (by decide +kernel)
theorem u1229 : Cond.constant "SevenSpellsModel" 92 (145452 : Int32) ∈ T0 := T0_at 1229 (by decide +kernel) (by decide +kernel)
theorem u1230 : Cond.constant "SevenSpellsModel" 93 (475381314 : Int32) ∈ T0 := T0_at 1230 (by decide +kernel) (by decide +kernel)
theorem u1231 : Cond.constant "SevenSpellsModel" 94 (182306 : Int32) ∈ T0 := T0_at 1231 (by decide +kernel) (by decide +kernel)
theorem u1232 : Cond.constantLong "SevenSpellsModel" 131 (4 : Int64) ∈ T0 := T0_at 1232 (by decide +kernel) (by decide +kernel)
theorem u1233 : Cond.methodLink "SevenSpellsModel" 133 ⟨"SevenSpellsModel", "readsRest", "(I)Z"⟩ ∈ T0 := T0_at 1233 (by decide +kernel) (by decide +kernel)
theorem u1237 : Cond.methodLink "SevenSpellsModel" 116 ⟨"SevenSpellsModel", "reads", "(III)Z"⟩ ∈ T0 := T0_at 1237 (by decide +kernel) (by decide +kernel)
theorem u1241 : Cond.methodLink "SevenSpellsModel" 125 ⟨"SevenSpellsModel", "readsSpell", "(I)Z"⟩ ∈ T0 := T0_at 1241 (by decide +kernel) (by decide +kernel)
theorem u1245 : Cond.methodLink "SevenSpellsModel" 120 ⟨"SevenSpellsModel", "readsTerm", "(I)Z"⟩ ∈ T0 := T0_at 1245 (by decide +kernel) (by decide +kernel)
theorem u1249 : Cond.methodLink "SevenSpellsModel" 107 ⟨"SevenSpellsModel", "termWord", "()I"⟩ ∈ T0 := T0_at 1249 (by decide +kernel) (by decide +kernel)
theorem u1253 : Cond.constant "SevenSpellsModel" 95 (642347 : Int32) ∈ T0 := T0_at 1253 (by decide +kernel) (by decide +kernel)
theorem u1254 : Cond.constant "SevenSpellsModel" 96 (529591 : Int32) ∈ T0 := T0_at 1254 (by decide +kernel) (by decide +kernel)
theorem u1255 : Cond.constant "SevenSpellsModel" 97 (20066792 : Int32) ∈ T0 := T0_at 1255 (by decide +kernel) (by decide +kernel)
theorem u1256 : Cond.constant "SevenSpellsModel" 98 (178663 : Int32) ∈ T0 := T0_at 1256 (by decide +kernel) (by decide +kernel)
theorem u1257 : Cond.constant "SevenSpellsModel" 99 (5651735 : Int32) ∈ T0 := T0_at 1257 (by decide +kernel) (by decide +kernel)
theorem u1258 : Cond.constant "SevenSpellsModel" 100 (4370017 : Int32) ∈ T0 := T0_at 1258 (by decide +kernel) (by decide +kernel)
theorem u1259 : Cond.constant "SevenSpellsModel" 124 (20098103 : Int32) ∈ T0 := T0_at 1259 (by decide +kernel) (by decide +kernel)
theorem u1264 : Cond.methodLink "SevenSpellsModel" 149 ⟨"SevenSpellsModel", "fault", "()I"⟩ ∈ T0 := T0_at 1264 (by decide +kernel) (by decide +kernel)
theorem u1265 : Cond.methodLink "SevenSpellsModel" 152 ⟨"SevenSpellsModel", "tell", "(I)V"⟩ ∈ T0 := T0_at 1265 (by decide +kernel) (by decide +kernel)
theorem u1273 : Cond.methodLink "SevenSpellsModel" 210 ⟨"SevenSpellsModel", "isPerson", "(I)Z"⟩ ∈ T0 := T0_at 1273 (by decide +kernel) (by decide +kernel)
theorem u1277 : Cond.constantLong "SevenSpellsModel" 213 (2 : Int64) ∈ T0 := T0_at 1277 (by decide +kernel) (by decide +kernel)
theorem u1278 : Cond.methodLink "SevenSpellsModel" 193 ⟨"SevenSpellsModel", "isUnder", "(III)Z"⟩ ∈ T0 := T0_at 1278 (by decide +kernel) (by decide +kernel)
theorem u1282 : Cond.methodLink "SevenSpellsModel" 174 ⟨"SevenSpellsModel", "has", "(II)Z"⟩ ∈ T0 := T0_at 1282 (by decide +kernel) (by decide +kernel)
theorem u1285 : Cond.methodLink "SevenSpellsModel" 177 ⟨"SevenSpellsModel", "weepersOf", "(I)I"⟩ ∈ T0 := T0_at 1285 (by decide +kernel) (by decide +kernel)
theorem u1292 : Cond.methodLink "SevenSpellsModel" 215 ⟨"SevenSpellsModel", "isSpell", "(I)Z"⟩ ∈ T0 := T0_at 1292 (by decide +kernel) (by decide +kernel)
theorem u1296 : Cond.methodLink "SevenSpellsModel" 203 ⟨"SevenSpellsModel", "isBound", "(II)Z"⟩ ∈ T0 := T0_at 1296 (by decide +kernel) (by decide +kernel)
theorem u1304 : Cond.methodLink "SevenSpellsModel" 189 ⟨"SevenSpellsModel", "isSo", "(IIII)Z"⟩ ∈ T0 := T0_at 1304 (by decide +kernel) (by decide +kernel)
theorem u1308 : Cond.methodLink "SevenSpellsModel" 180 ⟨"SevenSpellsModel", "dayOf", "(I)I"⟩ ∈ T0 := T0_at 1308 (by decide +kernel) (by decide +kernel)
theorem u1311 : Cond.methodLink "SevenSpellsModel" 183 ⟨"SevenSpellsModel", "brokenOf", "(I)I"⟩ ∈ T0 := T0_at 1311 (by decide +kernel) (by decide +kernel)
theorem u1314 : Cond.methodLink "SevenSpellsModel" 186 ⟨"SevenSpellsModel", "askedOf", "(I)I"⟩ ∈ T0 := T0_at 1314 (by decide +kernel) (by decide +kernel)
theorem u1321 : Cond.constantLong "SevenSpellsModel" 218 (5 : Int64) ∈ T0 := T0_at 1321 (by decide +kernel) (by decide +kernel)
theorem u1322 : Cond.methodLink "SevenSpellsModel" 206 ⟨"SevenSpellsModel", "soMany", "(III)I"⟩ ∈ T0 := T0_at 1322 (by decide +kernel) (by decide +kernel)
theorem u1330 : Cond.constantLong "SevenSpellsModel" 220 (3 : Int64) ∈ T0 := T0_at 1330 (by decide +kernel) (by decide +kernel)
theorem u1331 : Cond.constantLong "SevenSpellsModel" 222 (6 : Int64) ∈ T0 := T0_at 1331 (by decide +kernel) (by decide +kernel)
theorem u1336 : Cond.methodLink "SevenSpellsModel" 224 ⟨"SevenSpellsModel", "deedOf", "(III)I"⟩ ∈ T0 := T0_at 1336 (by decide +kernel) (by decide +kernel)
theorem u1340 : Cond.methodLink "SevenSpellsModel" 227 ⟨"SevenSpellsModel", "canDo", "(II)Z"⟩ ∈ T0 := T0_at 1340 (by decide +kernel) (by decide +kernel)
theorem u1348 : Cond.methodLink "SevenSpellsModel" 230 ⟨"SevenSpellsModel", "behind", "(II)I"⟩ ∈ T0 := T0_at 1348 (by decide +kernel) (by decide +kernel)
theorem u1352 : Cond.methodLink "SevenSpellsModel" 196 ⟨"SevenSpellsModel", "doOnly", "(II)I"⟩ ∈ T0 := T0_at 1352 (by decide +kernel) (by decide +kernel)
theorem u1372 : Cond.methodLink "SevenSpellsModel" 250 ⟨"SevenSpellsModel", "isSet", "(I)Z"⟩ ∈ T0 := T0_at 1372 (by decide +kernel) (by decide +kernel)
theorem u1376 : Cond.methodLink "SevenSpellsModel" 253 ⟨"SevenSpellsModel", "layAll", "(I)V"⟩ ∈ T0 := T0_at 1376 (by decide +kernel) (by decide +kernel)
theorem u1380 : Cond.methodLink "SevenSpellsModel" 246 ⟨"SevenSpellsModel", "layFars", "(III)V"⟩ ∈ T0 := T0_at 1380 (by decide +kernel) (by decide +kernel)
theorem u1384 : Cond.methodLink "SevenSpellsModel" 236 ⟨"SevenSpellsModel", "clearFars", "()V"⟩ ∈ T0 := T0_at 1384 (by decide +kernel) (by decide +kernel)
theorem u1388 : Cond.methodLink "SevenSpellsModel" 239 ⟨"SevenSpellsModel", "put", "(II)V"⟩ ∈ T0 := T0_at 1388 (by decide +kernel) (by decide +kernel)
theorem u1392 : Cond.methodLink "SevenSpellsModel" 243 ⟨"SevenSpellsModel", "isBy", "(II)Z"⟩ ∈ T0 := T0_at 1392 (by decide +kernel) (by decide +kernel)
theorem u1395 : Cond.methodLink "SevenSpellsModel" 256 ⟨"SevenSpellsModel", "fewestTo", "(I)I"⟩ ∈ T0 := T0_at 1395 (by decide +kernel) (by decide +kernel)
theorem u1403 : Cond.methodLink "SevenSpellsModel" 262 ⟨"SevenSpellsModel", "layWays", "(II)V"⟩ ∈ T0 := T0_at 1403 (by decide +kernel) (by decide +kernel)
theorem u1407 : Cond.methodLink "SevenSpellsModel" 259 ⟨"SevenSpellsModel", "leads", "(II)Z"⟩ ∈ T0 := T0_at 1407 (by decide +kernel) (by decide +kernel)
theorem u1415 : Cond.methodLink "SevenSpellsModel" 265 ⟨"SevenSpellsModel", "bits", "(I)I"⟩ ∈ T0 := T0_at 1415 (by decide +kernel) (by decide +kernel)
theorem u1426 : Cond.methodLink "SevenSpellsModel" 274 ⟨"SevenSpellsModel", "neverOf", "()I"⟩ ∈ T0 := T0_at 1426 (by decide +kernel) (by decide +kernel)
theorem u1430 : Cond.methodLink "SevenSpellsModel" 271 ⟨"SevenSpellsModel", "everHeld", "()I"⟩ ∈ T0 := T0_at 1430 (by decide +kernel) (by decide +kernel)
theorem u1466 : Cond.methodLink "SevenSpellsModel" 277 ⟨"SevenSpellsModel", "holdsOf", "(I)I"⟩ ∈ T0 := T0_at 1466 (by decide +kernel) (by decide +kernel)
theorem u1493 : Cond.methodLink "SevenSpellsModel" 290 ⟨"SevenSpellsModel", "termMany", "()I"⟩ ∈ T0 := T0_at 1493 (by decide +kernel) (by decide +kernel)
theorem u1497 : Cond.methodLink "SevenSpellsModel" 293 ⟨"SevenSpellsModel", "fits", "(II)Z"⟩ ∈ T0 := T0_at 1497 (by decide +kernel) (by decide +kernel)
theorem u1501 : Cond.methodLink "SevenSpellsModel" 286 ⟨"SevenSpellsModel", "wasSo", "(IIIII)Z"⟩ ∈ T0 := T0_at 1501 (by decide +kernel) (by decide +kernel)
theorem u1505 : Cond.methodLink "SevenSpellsModel" 280 ⟨"SevenSpellsModel", "numberOf", "(I)I"⟩ ∈ T0 := T0_at 1505 (by decide +kernel) (by decide +kernel)
theorem u1509 : Cond.methodLink "SevenSpellsModel" 283 ⟨"SevenSpellsModel", "termOf", "(I)I"⟩ ∈ T0 := T0_at 1509 (by decide +kernel) (by decide +kernel)
theorem K_X6_weepers : CalS yX6_weepers cX6_weepers 1 (some .int) 1 := ⟨T0_at 655 (by decide +kernel) (by decide +kernel), T0_at 654 (by decide +kernel) (by decide +kernel), T0_at 96 (by decide +kernel) (by decide +kernel), ⟨by decide +kernel, by decide +kernel, by decide +kernel⟩, by decide⟩
theorem K_X6_asked : CalS yX6_asked cX6_asked 1 (some .int) 1 := ⟨T0_at 688 (by decide +kernel) (by decide +kernel), T0_at 687 (by decide +kernel) (by decide +kernel), T0_at 96 (by decide +kernel) (by decide +kernel), ⟨by decide +kernel, by decide +kernel, by decide +kernel⟩, by decide⟩
theorem K_X6_nextDay : CalS yX6_nextDay cX6_nextDay 3 (some .int) 1 := ⟨T0_at 737 (by decide +kernel) (by decide +kernel), T0_at 736 (by decide +kernel) (by decide +kernel), T0_at 96 (by decide +kernel) (by decide +kernel), ⟨by decide +kernel, by decide +kernel, by decide +kernel⟩, by decide⟩
theorem K_X6_of : CalS yX6_of cX6_of 1 (some .int) 1 := ⟨T0_at 757 (by decide +kernel) (by decide +kernel), T0_at 756 (by decide +kernel) (by decide +kernel), T0_at 96 (by decide +kernel) (by decide +kernel), ⟨by decide +kernel, by decide +kernel, by decide +kernel⟩, by decide⟩
theorem K_X6_lifted : CalS yX6_lifted cX6_lifted 1 (some .int) 1 := ⟨T0_at 761 (by decide +kernel) (by decide +kernel), T0_at 760 (by decide +kernel) (by decide +kernel), T0_at 96 (by decide +kernel) (by decide +kernel), ⟨by decide +kernel, by decide +kernel, by decide +kernel⟩, by decide⟩
theorem K_X6_holding : CalS yX6_holding cX6_holding 1 (some .int) 1 := ⟨T0_at 914 (by decide +kernel) (by decide +kernel), T0_at 913 (by decide +kernel) (by decide +kernel), T0_at 96 (by decide +kernel) (by decide +kernel), ⟨by decide +kernel, by decide +kernel, by decide +kernel⟩, by decide⟩
theorem K_X6_day : CalS yX6_day cX6_day 1 (some .int) 1 := ⟨T0_at 978 (by decide +kernel) (by decide +kernel), T0_at 977 (by decide +kernel) (by decide +kernel), T0_at 96 (by decide +kernel) (by decide +kernel), ⟨by decide +kernel, by decide +kernel, by decide +kernel⟩, by decide⟩
theorem K_X6_broken : CalS yX6_broken cX6_broken 1 (some .int) 1 := ⟨T0_at 1073 (by decide +kernel) (by decide +kernel), T0_at 1072 (by decide +kernel) (by decide +kernel), T0_at 96 (by decide +kernel) (by decide +kernel), ⟨by decide +kernel, by decide +kernel, by decide +kernel⟩, by decide⟩
theorem K_X3_empty : CalV yX3_empty cX3_empty 2 (some .int) 0 := ⟨T0_at 409 (by decide +kernel) (by decide +kernel), T0_at 407 (by decide +kernel) (by decide +kernel), T0_at 408 (by decide +kernel) (by decide +kernel), T0_at 81 (by decide +kernel) (by decide +kernel), ⟨by decide +kernel, by decide +kernel, by decide +kernel⟩, by decide⟩
theorem K_X3_add : CalV yX3_add cX3_add 2 (some .boolean) 1 := ⟨T0_at 466 (by decide +kernel) (by decide +kernel), T0_at 464 (by decide +kernel) (by decide +kernel), T0_at 465 (by decide +kernel) (by decide +kernel), T0_at 81 (by decide +kernel) (by decide +kernel), ⟨by decide +kernel, by decide +kernel, by decide +kernel⟩, by decide⟩
theorem K_X3_size : CalV yX3_size cX3_size 1 (some .int) 0 := ⟨T0_at 470 (by decide +kernel) (by decide +kernel), T0_at 468 (by decide +kernel) (by decide +kernel), T0_at 469 (by decide +kernel) (by decide +kernel), T0_at 81 (by decide +kernel) (by decide +kernel), ⟨by decide +kernel, by decide +kernel, by decide +kernel⟩, by decide⟩
theorem K_X3_at : CalV yX3_at cX3_at 2 (some .int) 1 := ⟨T0_at 503 (by decide +kernel) (by decide +kernel), T0_at 501 (by decide +kernel) (by decide +kernel), T0_at 502 (by decide +kernel) (by decide +kernel), T0_at 81 (by decide +kernel) (by decide +kernel), ⟨by decide +kernel, by decide +kernel, by decide +kernel⟩, by decide⟩
theorem K_X3_isFull : CalV yX3_isFull cX3_isFull 1 (some .boolean) 0 := ⟨T0_at 746 (by decide +kernel) (by decide +kernel), T0_at 744 (by decide +kernel) (by decide +kernel), T0_at 745 (by decide +kernel) (by decide +kernel), T0_at 81 (by decide +kernel) (by decide +kernel), ⟨by decide +kernel, by decide +kernel, by decide +kernel⟩, by decide⟩
theorem K_X3_dropLast : CalV yX3_dropLast cX3_dropLast 1 none 0 := ⟨T0_at 754 (by decide +kernel) (by decide +kernel), T0_at 752 (by decide +kernel) (by decide +kernel), T0_at 753 (by decide +kernel) (by decide +kernel), T0_at 81 (by decide +kernel) (by decide +kernel), ⟨by decide +kernel, by decide +kernel, by decide +kernel⟩, by decide⟩
theorem K_X3_dropFirst : CalV yX3_dropFirst cX3_dropFirst 2 none 0 := ⟨T0_at 750 (by decide +kernel) (by decide +kernel), T0_at 748 (by decide +kernel) (by decide +kernel), T0_at 749 (by decide +kernel) (by decide +kernel), T0_at 81 (by decide +kernel) (by decide +kernel), ⟨by decide +kernel, by decide +kernel, by decide +kernel⟩, by decide⟩
theorem inT2 : ∀ w ∈ u_ws RX2 TX2 6, w ∈ T0 := by
  intro w h
  have h : w ∈ [177, 179, 181, 183, 185, 187].filterMap (fun i => lw_tbl[i]?) := by
    rw [show [177, 179, 181, 183, 185, 187].filterMap (fun i => lw_tbl[i]?) = u_ws RX2 TX2 6 by decide +kernel]; exact h
  obtain ⟨i, hi, hw⟩ := List.mem_filterMap.mp h
  refine T0_in (List.mem_of_getElem? hw) ?_
  have hg : (([177, 179, 181, 183, 185, 187].filterMap (fun i => lw_tbl[i]?)).all goodWord) = true := by decide +kernel
  exact List.all_eq_true.mp hg w h
theorem inT3 : ∀ w ∈ u_ws RX3 TX3 2, w ∈ T0 := by
  intro w h
  have h : w ∈ [118, 120].filterMap (fun i => lw_tbl[i]?) := by
    rw [show [118, 120].filterMap (fun i => lw_tbl[i]?) = u_ws RX3 TX3 2 by decide +kernel]; exact h
  obtain ⟨i, hi, hw⟩ := List.mem_filterMap.mp h
  refine T0_in (List.mem_of_getElem? hw) ?_
  have hg : (([118, 120].filterMap (fun i => lw_tbl[i]?)).all goodWord) = true := by decide +kernel
  exact List.all_eq_true.mp hg w h
theorem inT4 : ∀ w ∈ u_ws RX4 TX4 16, w ∈ T0 := by
  intro w h
  have h : w ∈ [212, 214, 216, 218, 220, 222, 224, 226, 228, 230, 232, 234, 236, 238, 240, 242].filterMap (fun i => lw_tbl[i]?) := by
    rw [show [212, 214, 216, 218, 220, 222, 224, 226, 228, 230, 232, 234, 236, 238, 240, 242].filterMap (fun i => lw_tbl[i]?) = u_ws RX4 TX4 16 by decide +kernel]; exact h
  obtain ⟨i, hi, hw⟩ := List.mem_filterMap.mp h
  refine T0_in (List.mem_of_getElem? hw) ?_
  have hg : (([212, 214, 216, 218, 220, 222, 224, 226, 228, 230, 232, 234, 236, 238, 240, 242].filterMap (fun i => lw_tbl[i]?)).all goodWord) = true := by decide +kernel
  exact List.all_eq_true.mp hg w h
theorem inT5 : ∀ w ∈ u_ws RX5 TX5 9, w ∈ T0 := by
  intro w h
  have h : w ∈ [260, 262, 264, 266, 268, 270, 272, 274, 276].filterMap (fun i => lw_tbl[i]?) := by
    rw [show [260, 262, 264, 266, 268, 270, 272, 274, 276].filterMap (fun i => lw_tbl[i]?) = u_ws RX5 TX5 9 by decide +kernel]; exact h
  obtain ⟨i, hi, hw⟩ := List.mem_filterMap.mp h
  refine T0_in (List.mem_of_getElem? hw) ?_
  have hg : (([260, 262, 264, 266, 268, 270, 272, 274, 276].filterMap (fun i => lw_tbl[i]?)).all goodWord) = true := by decide +kernel
  exact List.all_eq_true.mp hg w h
theorem inT8 : ∀ w ∈ u_ws RX8 TX8 10, w ∈ T0 := by
  intro w h
  have h : w ∈ [140, 142, 144, 146, 148, 150, 152, 154, 156, 158].filterMap (fun i => lw_tbl[i]?) := by
    rw [show [140, 142, 144, 146, 148, 150, 152, 154, 156, 158].filterMap (fun i => lw_tbl[i]?) = u_ws RX8 TX8 10 by decide +kernel]; exact h
  obtain ⟨i, hi, hw⟩ := List.mem_filterMap.mp h
  refine T0_in (List.mem_of_getElem? hw) ?_
  have hg : (([140, 142, 144, 146, 148, 150, 152, 154, 156, 158].filterMap (fun i => lw_tbl[i]?)).all goodWord) = true := by decide +kernel
  exact List.all_eq_true.mp hg w h
theorem inT9 : ∀ w ∈ u_ws RX9 TX9 4, w ∈ T0 := by
  intro w h
  have h : w ∈ [292, 294, 296, 298].filterMap (fun i => lw_tbl[i]?) := by
    rw [show [292, 294, 296, 298].filterMap (fun i => lw_tbl[i]?) = u_ws RX9 TX9 4 by decide +kernel]; exact h
  obtain ⟨i, hi, hw⟩ := List.mem_filterMap.mp h
  refine T0_in (List.mem_of_getElem? hw) ?_
  have hg : (([292, 294, 296, 298].filterMap (fun i => lw_tbl[i]?)).all goodWord) = true := by decide +kernel
  exact List.all_eq_true.mp hg w h
theorem inT10 : ∀ w ∈ u_ws RX10 TX10 14, w ∈ T0 := by
  intro w h
  have h : w ∈ [430, 432, 434, 436, 438, 440, 442, 444, 446, 448, 450, 452, 454, 456].filterMap (fun i => lw_tbl[i]?) := by
    rw [show [430, 432, 434, 436, 438, 440, 442, 444, 446, 448, 450, 452, 454, 456].filterMap (fun i => lw_tbl[i]?) = u_ws RX10 TX10 14 by decide +kernel]; exact h
  obtain ⟨i, hi, hw⟩ := List.mem_filterMap.mp h
  refine T0_in (List.mem_of_getElem? hw) ?_
  have hg : (([430, 432, 434, 436, 438, 440, 442, 444, 446, 448, 450, 452, 454, 456].filterMap (fun i => lw_tbl[i]?)).all goodWord) = true := by decide +kernel
  exact List.all_eq_true.mp hg w h
theorem inT11 : ∀ w ∈ u_ws RX11 TX11 34, w ∈ T0 := by
  intro w h
  have h : w ∈ [1116, 1118, 1120, 1122, 1124, 1126, 1128, 1130, 1132, 1134, 1136, 1138, 1140, 1142, 1144, 1146, 1148, 1150, 1152, 1154, 1156, 1158, 1160, 1162, 1164, 1166, 1168, 1170, 1172, 1174, 1176, 1178, 1180, 1182].filterMap (fun i => lw_tbl[i]?) := by
    rw [show [1116, 1118, 1120, 1122, 1124, 1126, 1128, 1130, 1132, 1134, 1136, 1138, 1140, 1142, 1144, 1146, 1148, 1150, 1152, 1154, 1156, 1158, 1160, 1162, 1164, 1166, 1168, 1170, 1172, 1174, 1176, 1178, 1180, 1182].filterMap (fun i => lw_tbl[i]?) = u_ws RX11 TX11 34 by decide +kernel]; exact h
  obtain ⟨i, hi, hw⟩ := List.mem_filterMap.mp h
  refine T0_in (List.mem_of_getElem? hw) ?_
  have hg : (([1116, 1118, 1120, 1122, 1124, 1126, 1128, 1130, 1132, 1134, 1136, 1138, 1140, 1142, 1144, 1146, 1148, 1150, 1152, 1154, 1156, 1158, 1160, 1162, 1164, 1166, 1168, 1170, 1172, 1174, 1176, 1178, 1180, 1182].filterMap (fun i => lw_tbl[i]?)).all goodWord) = true := by decide +kernel
  exact List.all_eq_true.mp hg w h
