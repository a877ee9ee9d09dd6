theorem wd_1_0 : hp_ok (Cond.initialized "HallPhoneLaw") := ⟨hp_m1 (List.mem_of_getElem? (i := 0) (by decide +kernel)), rfl⟩
theorem wd_1_8 : hp_ok (Cond.initialized "java/lang/AbstractStringBuilder") := ⟨hp_m1 (List.mem_of_getElem? (i := 8) (by decide +kernel)), rfl⟩
theorem wd_1_9 : hp_ok (Cond.initialized "java/lang/StringBuilder") := ⟨hp_m1 (List.mem_of_getElem? (i := 9) (by decide +kernel)), rfl⟩
theorem wd_1_10 : hp_ok (Cond.initialized "java/lang/String") := ⟨hp_m1 (List.mem_of_getElem? (i := 10) (by decide +kernel)), rfl⟩
theorem wd_1_11 : hp_ok (Cond.initialized "java/lang/StringUTF16") := ⟨hp_m1 (List.mem_of_getElem? (i := 11) (by decide +kernel)), rfl⟩
theorem wd_1_12 : hp_ok (Cond.initialized "java/lang/StringLatin1") := ⟨hp_m1 (List.mem_of_getElem? (i := 12) (by decide +kernel)), rfl⟩
theorem wd_1_13 : hp_ok (Cond.initialized "jdk/internal/util/Preconditions") := ⟨hp_m1 (List.mem_of_getElem? (i := 13) (by decide +kernel)), rfl⟩
theorem wd_1_14 : hp_ok (Cond.initialized "java/lang/Math") := ⟨hp_m1 (List.mem_of_getElem? (i := 14) (by decide +kernel)), rfl⟩
theorem wd_1_15 : hp_ok (Cond.initialized "java/lang/System") := ⟨hp_m1 (List.mem_of_getElem? (i := 15) (by decide +kernel)), rfl⟩
theorem wd_1_16 : hp_ok (Cond.initialized "java/util/Arrays") := ⟨hp_m1 (List.mem_of_getElem? (i := 16) (by decide +kernel)), rfl⟩
theorem wd_1_17 : hp_ok (Cond.initialized "java/lang/Enum") := ⟨hp_m1 (List.mem_of_getElem? (i := 17) (by decide +kernel)), rfl⟩
theorem wd_1_19 : hp_ok (Cond.initialized "HallPhone$1") := ⟨hp_m1 (List.mem_of_getElem? (i := 19) (by decide +kernel)), rfl⟩
theorem wd_1_20 : hp_ok (Cond.initialized "java/lang/Throwable") := ⟨hp_m1 (List.mem_of_getElem? (i := 20) (by decide +kernel)), rfl⟩
theorem wd_1_21 : hp_ok (Cond.initialized "java/lang/Exception") := ⟨hp_m1 (List.mem_of_getElem? (i := 21) (by decide +kernel)), rfl⟩
theorem wd_1_22 : hp_ok (Cond.initialized "java/lang/RuntimeException") := ⟨hp_m1 (List.mem_of_getElem? (i := 22) (by decide +kernel)), rfl⟩
theorem wd_1_23 : hp_ok (Cond.initialized "java/lang/IllegalArgumentException") := ⟨hp_m1 (List.mem_of_getElem? (i := 23) (by decide +kernel)), rfl⟩
theorem wd_1_24 : hp_ok (Cond.initialized "java/lang/Integer") := ⟨hp_m1 (List.mem_of_getElem? (i := 24) (by decide +kernel)), rfl⟩
theorem wd_1_25 : hp_ok (Cond.initialized "java/lang/IndexOutOfBoundsException") := ⟨hp_m1 (List.mem_of_getElem? (i := 25) (by decide +kernel)), rfl⟩
theorem wd_1_26 : hp_ok (Cond.initialized "java/util/NoSuchElementException") := ⟨hp_m1 (List.mem_of_getElem? (i := 26) (by decide +kernel)), rfl⟩
theorem wd_1_29 : hp_ok (Cond.methodLink "HallPhoneLaw" 38 ⟨"HallPhone", "<init>", "()V"⟩) := ⟨hp_m1 (List.mem_of_getElem? (i := 29) (by decide +kernel)), rfl⟩
theorem wd_1_201 : hp_ok (Cond.methodLink "java/lang/StringBuilder" 1 ⟨"java/lang/AbstractStringBuilder", "<init>", "(I)V"⟩) := ⟨hp_m1 (List.mem_of_getElem? (i := 201) (by decide +kernel)), rfl⟩
theorem wd_1_204 : hp_ok (Cond.methodLink "java/lang/AbstractStringBuilder" 3 ⟨"java/lang/Object", "<init>", "()V"⟩) := ⟨hp_m1 (List.mem_of_getElem? (i := 204) (by decide +kernel)), rfl⟩
theorem wd_1_205 : hp_ok (Cond.fieldLink "java/lang/AbstractStringBuilder" 18 "java/lang/String" "COMPACT_STRINGS" "Z") := ⟨hp_m1 (List.mem_of_getElem? (i := 205) (by decide +kernel)), rfl⟩
theorem wd_1_206 : Cond.laysStatic "java/lang/String" "COMPACT_STRINGS" "Z" ∈ lw_tbl := hp_m1 (List.mem_of_getElem? (i := 206) (by decide +kernel))
theorem wd_1_207 : hp_ok (Cond.methodLink "java/lang/AbstractStringBuilder" 26 ⟨"java/lang/StringUTF16", "newBytesFor", "(I)[B"⟩) := ⟨hp_m1 (List.mem_of_getElem? (i := 207) (by decide +kernel)), rfl⟩
theorem wd_1_210 : hp_ok (Cond.methodLink "java/lang/StringUTF16" 11 ⟨"java/lang/StringUTF16", "newBytesLength", "(I)I"⟩) := ⟨hp_m1 (List.mem_of_getElem? (i := 210) (by decide +kernel)), rfl⟩
theorem wd_1_213 : hp_ok (Cond.constant "java/lang/StringUTF16" 20 (1073741823 : Int32)) := ⟨hp_m1 (List.mem_of_getElem? (i := 213) (by decide +kernel)), rfl⟩
theorem wd_1_214 : hp_ok (Cond.fieldLink "java/lang/AbstractStringBuilder" 15 "java/lang/AbstractStringBuilder" "value" "[B") := ⟨hp_m1 (List.mem_of_getElem? (i := 214) (by decide +kernel)), rfl⟩
theorem wd_1_215 : hp_ok (Cond.fieldLink "java/lang/AbstractStringBuilder" 22 "java/lang/AbstractStringBuilder" "coder" "B") := ⟨hp_m1 (List.mem_of_getElem? (i := 215) (by decide +kernel)), rfl⟩
theorem wd_1_216 : hp_ok (Cond.fieldLink "java/lang/AbstractStringBuilder" 79 "java/lang/AbstractStringBuilder" "count" "I") := ⟨hp_m1 (List.mem_of_getElem? (i := 216) (by decide +kernel)), rfl⟩
theorem wd_1_227 : Cond.stringRef "HallPhone" 57 "house 0 curious 1 3 2 curious 4; limit 6; ring 4 5; want 1 8; want 3 4; pass 3; want 0 10;" ∈ lw_tbl := hp_m1 (List.mem_of_getElem? (i := 227) (by decide +kernel))
theorem wd_1_236 : hp_ok (Cond.methodLink "java/lang/String" 335 ⟨"java/lang/String", "coder", "()B"⟩) := ⟨hp_m1 (List.mem_of_getElem? (i := 236) (by decide +kernel)), rfl⟩
theorem wd_2_0 : hp_ok (Cond.fieldLink "java/lang/String" 38 "java/lang/String" "COMPACT_STRINGS" "Z") := ⟨hp_m2 (List.mem_of_getElem? (i := 0) (by decide +kernel)), rfl⟩
theorem wd_2_5 : hp_ok (Cond.methodLink "java/lang/String" 492 ⟨"java/lang/String", "isLatin1", "()Z"⟩) := ⟨hp_m2 (List.mem_of_getElem? (i := 5) (by decide +kernel)), rfl⟩
theorem wd_2_9 : hp_ok (Cond.methodLink "java/lang/String" 495 ⟨"java/lang/StringLatin1", "charAt", "([BI)C"⟩) := ⟨hp_m2 (List.mem_of_getElem? (i := 9) (by decide +kernel)), rfl⟩
theorem wd_2_12 : hp_ok (Cond.methodLink "java/lang/StringLatin1" 9 ⟨"java/lang/String", "checkIndex", "(II)V"⟩) := ⟨hp_m2 (List.mem_of_getElem? (i := 12) (by decide +kernel)), rfl⟩
theorem wd_2_15 : hp_ok (Cond.fieldLink "java/lang/String" 1053 "jdk/internal/util/Preconditions" "SIOOBE_FORMATTER" "Ljava/util/function/BiFunction;") := ⟨hp_m2 (List.mem_of_getElem? (i := 15) (by decide +kernel)), rfl⟩
theorem wd_2_16 : Cond.laysStatic "jdk/internal/util/Preconditions" "SIOOBE_FORMATTER" "Ljava/util/function/BiFunction;" ∈ lw_tbl := hp_m2 (List.mem_of_getElem? (i := 16) (by decide +kernel))
theorem wd_2_17 : hp_ok (Cond.methodLink "java/lang/String" 1059 ⟨"jdk/internal/util/Preconditions", "checkIndex", "(IILjava/util/function/BiFunction;)I"⟩) := ⟨hp_m2 (List.mem_of_getElem? (i := 17) (by decide +kernel)), rfl⟩
theorem wd_2_20 : hp_ok (Cond.methodLink "java/lang/String" 498 ⟨"java/lang/StringUTF16", "charAt", "([BI)C"⟩) := ⟨hp_m2 (List.mem_of_getElem? (i := 20) (by decide +kernel)), rfl⟩
theorem wd_2_23 : hp_ok (Cond.methodLink "java/lang/StringUTF16" 67 ⟨"java/lang/StringUTF16", "checkIndex", "(I[B)V"⟩) := ⟨hp_m2 (List.mem_of_getElem? (i := 23) (by decide +kernel)), rfl⟩
theorem wd_2_26 : hp_ok (Cond.methodLink "java/lang/StringUTF16" 48 ⟨"java/lang/StringUTF16", "length", "([B)I"⟩) := ⟨hp_m2 (List.mem_of_getElem? (i := 26) (by decide +kernel)), rfl⟩
theorem wd_2_29 : hp_ok (Cond.methodLink "java/lang/StringUTF16" 414 ⟨"java/lang/String", "checkIndex", "(II)V"⟩) := ⟨hp_m2 (List.mem_of_getElem? (i := 29) (by decide +kernel)), rfl⟩
theorem wd_2_30 : hp_ok (Cond.methodLink "java/lang/StringUTF16" 71 ⟨"java/lang/StringUTF16", "getChar", "([BI)C"⟩) := ⟨hp_m2 (List.mem_of_getElem? (i := 30) (by decide +kernel)), rfl⟩
theorem wd_2_33 : hp_ok (Cond.fieldLink "java/lang/StringUTF16" 44 "java/lang/StringUTF16" "$assertionsDisabled" "Z") := ⟨hp_m2 (List.mem_of_getElem? (i := 33) (by decide +kernel)), rfl⟩
theorem wd_2_34 : Cond.laysStatic "java/lang/StringUTF16" "$assertionsDisabled" "Z" ∈ lw_tbl := hp_m2 (List.mem_of_getElem? (i := 34) (by decide +kernel))
theorem wd_2_35 : hp_ok (Cond.fieldLink "java/lang/StringUTF16" 59 "java/lang/StringUTF16" "HI_BYTE_SHIFT" "I") := ⟨hp_m2 (List.mem_of_getElem? (i := 35) (by decide +kernel)), rfl⟩
theorem wd_2_36 : Cond.laysStatic "java/lang/StringUTF16" "HI_BYTE_SHIFT" "I" ∈ lw_tbl := hp_m2 (List.mem_of_getElem? (i := 36) (by decide +kernel))
theorem wd_2_37 : hp_ok (Cond.fieldLink "java/lang/StringUTF16" 63 "java/lang/StringUTF16" "LO_BYTE_SHIFT" "I") := ⟨hp_m2 (List.mem_of_getElem? (i := 37) (by decide +kernel)), rfl⟩
theorem wd_2_38 : Cond.laysStatic "java/lang/StringUTF16" "LO_BYTE_SHIFT" "I" ∈ lw_tbl := hp_m2 (List.mem_of_getElem? (i := 38) (by decide +kernel))
theorem wd_2_55 : Cond.laysStatic "HallPhone" "FIRST_SETTINGS" "[I" ∈ lw_tbl := hp_m2 (List.mem_of_getElem? (i := 55) (by decide +kernel))
theorem wd_2_62 : hp_ok (Cond.native ⟨"java/lang/System", "arraycopy", "(Ljava/lang/Object;ILjava/lang/Object;II)V"⟩) := ⟨hp_m2 (List.mem_of_getElem? (i := 62) (by decide +kernel)), rfl⟩
theorem wd_2_95 : Cond.stringRef "HallPhone$Reader" 70 "house" ∈ lw_tbl := hp_m2 (List.mem_of_getElem? (i := 95) (by decide +kernel))
theorem wd_2_112 : Cond.stringRef "HallPhone$Reader" 85 "curious" ∈ lw_tbl := hp_m2 (List.mem_of_getElem? (i := 112) (by decide +kernel))
theorem wd_2_123 : Cond.laysStatic "HallPhone$Verb" "ALL" "[LHallPhone$Verb;" ∈ lw_tbl := hp_m2 (List.mem_of_getElem? (i := 123) (by decide +kernel))
theorem wd_2_142 : Cond.laysStatic "HallPhone$1" "$SwitchMap$HallPhone$Verb" "[I" ∈ lw_tbl := hp_m2 (List.mem_of_getElem? (i := 142) (by decide +kernel))
theorem wd_2_144 : hp_ok (Cond.sameMethod "HallPhone$Verb" "java/lang/Enum" "ordinal" "()I") := ⟨hp_m2 (List.mem_of_getElem? (i := 144) (by decide +kernel)), rfl⟩
theorem wd_3_75 : hp_ok (Cond.methodLink "HallPhoneLaw" 44 ⟨"HallPhone", "load", "(I)I"⟩) := ⟨hp_m3 (List.mem_of_getElem? (i := 75) (by decide +kernel)), rfl⟩
theorem wd_3_109 : Cond.laysStatic "java/lang/Throwable" "UNASSIGNED_STACK" "[Ljava/lang/StackTraceElement;" ∈ lw_tbl := hp_m3 (List.mem_of_getElem? (i := 109) (by decide +kernel))
theorem wd_3_111 : Cond.laysStatic "java/lang/Throwable" "SUPPRESSED_SENTINEL" "Ljava/util/List;" ∈ lw_tbl := hp_m3 (List.mem_of_getElem? (i := 111) (by decide +kernel))
theorem wd_3_114 : hp_ok (Cond.sameMethod "java/lang/Throwable" "java/lang/Throwable" "fillInStackTrace" "()Ljava/lang/Throwable;") := ⟨hp_m3 (List.mem_of_getElem? (i := 114) (by decide +kernel)), rfl⟩
theorem wd_3_122 : hp_ok (Cond.native ⟨"java/lang/Throwable", "fillInStackTrace", "(I)Ljava/lang/Throwable;"⟩) := ⟨hp_m3 (List.mem_of_getElem? (i := 122) (by decide +kernel)), rfl⟩
theorem wd_3_123 : Cond.stringRef "HallPhone" 295 "out of range" ∈ lw_tbl := hp_m3 (List.mem_of_getElem? (i := 123) (by decide +kernel))
theorem wd_3_149 : Cond.stringRef "HallPhone" 79 "house 1 curious 1 curious 5 0; unit 2; rate 10; secret 3; patience 2; want 2 9; ring 1 4; pass 8; want 3 30; pass 2; limit 6; pass 3; hang 3; ring 2 3; ring 3 5; pass 1; pay 2 12;" ∈ lw_tbl := hp_m3 (List.mem_of_getElem? (i := 149) (by decide +kernel))
theorem wd_3_150 : Cond.stringRef "HallPhone" 81 "house 9; rate 0; ear 0; patience 0; want 0 99; pass 20;" ∈ lw_tbl := hp_m3 (List.mem_of_getElem? (i := 150) (by decide +kernel))
theorem wd_3_151 : hp_ok (Cond.methodLink "HallPhoneLaw" 7 ⟨"HallPhone", "size", "(I)I"⟩) := ⟨hp_m3 (List.mem_of_getElem? (i := 151) (by decide +kernel)), rfl⟩
theorem wd_3_159 : hp_ok (Cond.methodLink "java/lang/StringBuilder" 343 ⟨"java/lang/AbstractStringBuilder", "length", "()I"⟩) := ⟨hp_m3 (List.mem_of_getElem? (i := 159) (by decide +kernel)), rfl⟩
theorem wd_3_169 : hp_ok (Cond.constant "java/lang/Integer" 265 (1431655765 : Int32)) := ⟨hp_m3 (List.mem_of_getElem? (i := 169) (by decide +kernel)), rfl⟩
theorem wd_3_170 : hp_ok (Cond.constant "java/lang/Integer" 266 (858993459 : Int32)) := ⟨hp_m3 (List.mem_of_getElem? (i := 170) (by decide +kernel)), rfl⟩
theorem wd_3_171 : hp_ok (Cond.constant "java/lang/Integer" 267 (252645135 : Int32)) := ⟨hp_m3 (List.mem_of_getElem? (i := 171) (by decide +kernel)), rfl⟩
theorem wd_3_176 : hp_ok (Cond.methodLink "HallPhoneLaw" 79 ⟨"HallPhone", "setting", "(I)I"⟩) := ⟨hp_m3 (List.mem_of_getElem? (i := 176) (by decide +kernel)), rfl⟩
theorem wd_3_181 : hp_ok (Cond.methodLink "HallPhoneLaw" 13 ⟨"HallPhone", "flat", "(II)I"⟩) := ⟨hp_m3 (List.mem_of_getElem? (i := 181) (by decide +kernel)), rfl⟩
theorem wd_3_198 : Cond.stringRef "HallPhone" 292 "no such flat" ∈ lw_tbl := hp_m3 (List.mem_of_getElem? (i := 198) (by decide +kernel))
theorem wd_3_221 : hp_ok (Cond.methodLink "HallPhoneLaw" 60 ⟨"HallPhone", "cost", "(I)I"⟩) := ⟨hp_m3 (List.mem_of_getElem? (i := 221) (by decide +kernel)), rfl⟩
theorem wd_3_226 : hp_ok (Cond.methodLink "HallPhoneLaw" 66 ⟨"HallPhone", "ifRung", "(I)I"⟩) := ⟨hp_m3 (List.mem_of_getElem? (i := 226) (by decide +kernel)), rfl⟩
theorem wd_3_231 : Cond.laysStatic "HallPhone$Verb" "RING" "LHallPhone$Verb;" ∈ lw_tbl := hp_m3 (List.mem_of_getElem? (i := 231) (by decide +kernel))
theorem wd_3_233 : hp_ok (Cond.methodLink "HallPhoneLaw" 26 ⟨"HallPhone", "account", "(I)I"⟩) := ⟨hp_m3 (List.mem_of_getElem? (i := 233) (by decide +kernel)), rfl⟩
theorem wd_4_1 : hp_ok (Cond.methodLink "HallPhoneLaw" 54 ⟨"HallPhone", "want", "(II)I"⟩) := ⟨hp_m4 (List.mem_of_getElem? (i := 1) (by decide +kernel)), rfl⟩
theorem wd_4_6 : Cond.laysStatic "HallPhone$Verb" "WANT" "LHallPhone$Verb;" ∈ lw_tbl := hp_m4 (List.mem_of_getElem? (i := 6) (by decide +kernel))
theorem wd_4_17 : hp_ok (Cond.methodLink "HallPhoneLaw" 57 ⟨"HallPhone", "drop", "(I)I"⟩) := ⟨hp_m4 (List.mem_of_getElem? (i := 17) (by decide +kernel)), rfl⟩
theorem wd_4_22 : Cond.laysStatic "HallPhone$Verb" "DROP" "LHallPhone$Verb;" ∈ lw_tbl := hp_m4 (List.mem_of_getElem? (i := 22) (by decide +kernel))
theorem wd_4_23 : hp_ok (Cond.methodLink "HallPhoneLaw" 63 ⟨"HallPhone", "hang", "(I)I"⟩) := ⟨hp_m4 (List.mem_of_getElem? (i := 23) (by decide +kernel)), rfl⟩
theorem wd_4_28 : Cond.laysStatic "HallPhone$Verb" "HANG" "LHallPhone$Verb;" ∈ lw_tbl := hp_m4 (List.mem_of_getElem? (i := 28) (by decide +kernel))
theorem wd_4_29 : hp_ok (Cond.methodLink "HallPhoneLaw" 69 ⟨"HallPhone", "ring", "(II)I"⟩) := ⟨hp_m4 (List.mem_of_getElem? (i := 29) (by decide +kernel)), rfl⟩
theorem wd_4_33 : hp_ok (Cond.methodLink "HallPhoneLaw" 72 ⟨"HallPhone", "pay", "(II)I"⟩) := ⟨hp_m4 (List.mem_of_getElem? (i := 33) (by decide +kernel)), rfl⟩
theorem wd_4_38 : Cond.laysStatic "HallPhone$Verb" "PAY" "LHallPhone$Verb;" ∈ lw_tbl := hp_m4 (List.mem_of_getElem? (i := 38) (by decide +kernel))
theorem wd_4_39 : hp_ok (Cond.methodLink "HallPhoneLaw" 75 ⟨"HallPhone", "setCurious", "(IZ)Z"⟩) := ⟨hp_m4 (List.mem_of_getElem? (i := 39) (by decide +kernel)), rfl⟩
theorem wd_4_45 : hp_ok (Cond.methodLink "HallPhoneLaw" 82 ⟨"HallPhone", "set", "(II)I"⟩) := ⟨hp_m4 (List.mem_of_getElem? (i := 45) (by decide +kernel)), rfl⟩
theorem wd_4_53 : Cond.stringRef "HallPhone" 253 "no such setting" ∈ lw_tbl := hp_m4 (List.mem_of_getElem? (i := 53) (by decide +kernel))
theorem wd_4_54 : hp_ok (Cond.methodLink "HallPhoneLaw" 85 ⟨"HallPhone", "pass", "(I)I"⟩) := ⟨hp_m4 (List.mem_of_getElem? (i := 54) (by decide +kernel)), rfl⟩
theorem wd_4_59 : Cond.laysStatic "HallPhone$Verb" "PASS" "LHallPhone$Verb;" ∈ lw_tbl := hp_m4 (List.mem_of_getElem? (i := 59) (by decide +kernel))
theorem wd_4_60 : hp_ok (Cond.methodLink "HallPhoneLaw" 93 ⟨"HallPhone", "undo", "()I"⟩) := ⟨hp_m4 (List.mem_of_getElem? (i := 60) (by decide +kernel)), rfl⟩
theorem wd_4_68 : hp_ok (Cond.methodLink "HallPhoneLaw" 50 ⟨"HallPhone", "checksum", "()J"⟩) := ⟨hp_m4 (List.mem_of_getElem? (i := 68) (by decide +kernel)), rfl⟩
theorem wd_4_86 : hp_ok (Cond.methodLink "HallPhoneLaw" 39 ⟨"HallPhoneLaw", "cell", "([II)I"⟩) := ⟨hp_m4 (List.mem_of_getElem? (i := 86) (by decide +kernel)), rfl⟩
theorem wd_4_89 : hp_ok (Cond.methodLink "HallPhoneLaw" 47 ⟨"HallPhoneLaw", "holds", "(LHallPhone;)Z"⟩) := ⟨hp_m4 (List.mem_of_getElem? (i := 89) (by decide +kernel)), rfl⟩
theorem wd_4_92 : hp_ok (Cond.methodLink "HallPhoneLaw" 29 ⟨"HallPhoneLaw", "hasPhone", "(LHallPhone;)Z"⟩) := ⟨hp_m4 (List.mem_of_getElem? (i := 92) (by decide +kernel)), rfl⟩
theorem wd_4_95 : hp_ok (Cond.methodLink "HallPhoneLaw" 17 ⟨"HallPhone", "queued", "(I)I"⟩) := ⟨hp_m4 (List.mem_of_getElem? (i := 95) (by decide +kernel)), rfl⟩
theorem wd_4_100 : hp_ok (Cond.methodLink "HallPhoneLaw" 35 ⟨"HallPhoneLaw", "hasFlats", "(LHallPhone;)Z"⟩) := ⟨hp_m4 (List.mem_of_getElem? (i := 100) (by decide +kernel)), rfl⟩
theorem wd_4_103 : hp_ok (Cond.methodLink "HallPhoneLaw" 20 ⟨"HallPhone", "heard", "(II)I"⟩) := ⟨hp_m4 (List.mem_of_getElem? (i := 103) (by decide +kernel)), rfl⟩
theorem wd_4_107 : hp_ok (Cond.methodLink "HallPhoneLaw" 23 ⟨"HallPhone", "message", "(II)I"⟩) := ⟨hp_m4 (List.mem_of_getElem? (i := 107) (by decide +kernel)), rfl⟩
theorem wd_4_120 : Cond.stringRef "HallPhone" 122 "no such message" ∈ lw_tbl := hp_m4 (List.mem_of_getElem? (i := 120) (by decide +kernel))
theorem wd_4_127 : hp_ok (Cond.methodLink "HallPhoneLaw" 88 ⟨"java/lang/Math", "min", "(II)I"⟩) := ⟨hp_m4 (List.mem_of_getElem? (i := 127) (by decide +kernel)), rfl⟩
theorem wd_4_128 : hp_ok (Cond.constant "HallPhoneLaw" 43 (2147483647 : Int32)) := ⟨hp_m4 (List.mem_of_getElem? (i := 128) (by decide +kernel)), rfl⟩
theorem wd_4_129 : hp_ok (Cond.sameMethod "java/lang/Throwable" "java/lang/Throwable" "fillInStackTrace" "(I)Ljava/lang/Throwable;") := ⟨hp_m4 (List.mem_of_getElem? (i := 129) (by decide +kernel)), rfl⟩
theorem wd_4_130 : hp_ok (Cond.sameMethod "java/lang/AbstractStringBuilder" "java/lang/AbstractStringBuilder" "length" "()I") := ⟨hp_m4 (List.mem_of_getElem? (i := 130) (by decide +kernel)), rfl⟩
theorem wd_4_145 : hp_ok (Cond.fieldLink "java/lang/String" 9 "java/lang/String" "value" "[B") := ⟨hp_m4 (List.mem_of_getElem? (i := 145) (by decide +kernel)), rfl⟩
theorem wd_4_146 : hp_ok (Cond.fieldLink "java/lang/String" 15 "java/lang/String" "coder" "B") := ⟨hp_m4 (List.mem_of_getElem? (i := 146) (by decide +kernel)), rfl⟩
theorem wd_4_152 : hp_ok (Cond.fieldLink "java/lang/Enum" 7 "java/lang/Enum" "ordinal" "I") := ⟨hp_m4 (List.mem_of_getElem? (i := 152) (by decide +kernel)), rfl⟩
theorem wd_4_157 : Cond.laysStatic "HallPhone$Verb" "LIMIT" "LHallPhone$Verb;" ∈ lw_tbl := hp_m4 (List.mem_of_getElem? (i := 157) (by decide +kernel))
theorem wd_4_158 : Cond.laysStatic "HallPhone$Verb" "UNIT" "LHallPhone$Verb;" ∈ lw_tbl := hp_m4 (List.mem_of_getElem? (i := 158) (by decide +kernel))
theorem wd_4_159 : Cond.laysStatic "HallPhone$Verb" "RATE" "LHallPhone$Verb;" ∈ lw_tbl := hp_m4 (List.mem_of_getElem? (i := 159) (by decide +kernel))
theorem wd_4_160 : Cond.laysStatic "HallPhone$Verb" "EAR" "LHallPhone$Verb;" ∈ lw_tbl := hp_m4 (List.mem_of_getElem? (i := 160) (by decide +kernel))
theorem wd_4_161 : Cond.laysStatic "HallPhone$Verb" "SECRET" "LHallPhone$Verb;" ∈ lw_tbl := hp_m4 (List.mem_of_getElem? (i := 161) (by decide +kernel))
theorem wd_4_162 : Cond.laysStatic "HallPhone$Verb" "PATIENCE" "LHallPhone$Verb;" ∈ lw_tbl := hp_m4 (List.mem_of_getElem? (i := 162) (by decide +kernel))
theorem wd_4_163 : Cond.stringRef "HallPhone$Verb" 113 "ring" ∈ lw_tbl := hp_m4 (List.mem_of_getElem? (i := 163) (by decide +kernel))
theorem wd_4_164 : Cond.stringRef "HallPhone$Verb" 104 "want" ∈ lw_tbl := hp_m4 (List.mem_of_getElem? (i := 164) (by decide +kernel))
theorem wd_4_165 : Cond.stringRef "HallPhone$Verb" 107 "drop" ∈ lw_tbl := hp_m4 (List.mem_of_getElem? (i := 165) (by decide +kernel))
theorem wd_4_166 : Cond.stringRef "HallPhone$Verb" 110 "hang" ∈ lw_tbl := hp_m4 (List.mem_of_getElem? (i := 166) (by decide +kernel))
theorem wd_4_167 : Cond.stringRef "HallPhone$Verb" 116 "pay" ∈ lw_tbl := hp_m4 (List.mem_of_getElem? (i := 167) (by decide +kernel))
theorem wd_4_168 : Cond.stringRef "HallPhone$Verb" 119 "pass" ∈ lw_tbl := hp_m4 (List.mem_of_getElem? (i := 168) (by decide +kernel))
theorem wd_4_169 : Cond.stringRef "HallPhone$Verb" 83 "limit" ∈ lw_tbl := hp_m4 (List.mem_of_getElem? (i := 169) (by decide +kernel))
theorem wd_4_170 : Cond.stringRef "HallPhone$Verb" 89 "unit" ∈ lw_tbl := hp_m4 (List.mem_of_getElem? (i := 170) (by decide +kernel))
theorem wd_4_171 : Cond.stringRef "HallPhone$Verb" 92 "rate" ∈ lw_tbl := hp_m4 (List.mem_of_getElem? (i := 171) (by decide +kernel))
theorem wd_4_172 : Cond.stringRef "HallPhone$Verb" 95 "ear" ∈ lw_tbl := hp_m4 (List.mem_of_getElem? (i := 172) (by decide +kernel))
theorem wd_4_173 : Cond.stringRef "HallPhone$Verb" 98 "secret" ∈ lw_tbl := hp_m4 (List.mem_of_getElem? (i := 173) (by decide +kernel))
theorem wd_4_174 : Cond.stringRef "HallPhone$Verb" 101 "patience" ∈ lw_tbl := hp_m4 (List.mem_of_getElem? (i := 174) (by decide +kernel))
theorem wd_1_235 : hp_ok (Cond.code ⟨"java/lang/String", "length", "()I"⟩ prog_24_method_54_code 1 (some .int)) := ⟨hp_m1 (List.mem_of_getElem? (i := 235) (by decide +kernel)), rfl⟩
theorem wd_1_233 : hp_ok (Cond.instanceMethod ⟨"java/lang/String", "length", "()I"⟩) := ⟨hp_m1 (List.mem_of_getElem? (i := 233) (by decide +kernel)), rfl⟩
theorem wd_1_234 : hp_ok (Cond.selects "java/lang/String" ⟨"java/lang/String", "length", "()I"⟩ ⟨"java/lang/String", "length", "()I"⟩) := ⟨hp_m1 (List.mem_of_getElem? (i := 234) (by decide +kernel)), rfl⟩
theorem kv_J0_length_8abf5 : hp_Kv yJ0_length_8abf5 cJ0_length_8abf5 1 (some .int) 0 := ⟨wd_1_233, wd_1_234, wd_1_10, wd_1_235, ⟨by decide, by decide, by decide +kernel⟩, by decide⟩
theorem wd_1_239 : hp_ok (Cond.code ⟨"java/lang/String", "coder", "()B"⟩ prog_24_method_152_code 1 (some .byte)) := ⟨hp_m1 (List.mem_of_getElem? (i := 239) (by decide +kernel)), rfl⟩
theorem wd_1_237 : hp_ok (Cond.instanceMethod ⟨"java/lang/String", "coder", "()B"⟩) := ⟨hp_m1 (List.mem_of_getElem? (i := 237) (by decide +kernel)), rfl⟩
theorem wd_1_238 : hp_ok (Cond.selects "java/lang/String" ⟨"java/lang/String", "coder", "()B"⟩ ⟨"java/lang/String", "coder", "()B"⟩) := ⟨hp_m1 (List.mem_of_getElem? (i := 238) (by decide +kernel)), rfl⟩
theorem kv_J0_coder_7d493 : hp_Kv yJ0_coder_7d493 cJ0_coder_7d493 1 (some .byte) 0 := ⟨wd_1_237, wd_1_238, wd_1_10, wd_1_239, ⟨by decide, by decide, by decide +kernel⟩, by decide⟩
theorem wd_2_4 : hp_ok (Cond.code ⟨"java/lang/String", "charAt", "(I)C"⟩ prog_24_method_56_code 2 (some .char)) := ⟨hp_m2 (List.mem_of_getElem? (i := 4) (by decide +kernel)), rfl⟩
theorem wd_2_2 : hp_ok (Cond.instanceMethod ⟨"java/lang/String", "charAt", "(I)C"⟩) := ⟨hp_m2 (List.mem_of_getElem? (i := 2) (by decide +kernel)), rfl⟩
theorem wd_2_3 : hp_ok (Cond.selects "java/lang/String" ⟨"java/lang/String", "charAt", "(I)C"⟩ ⟨"java/lang/String", "charAt", "(I)C"⟩) := ⟨hp_m2 (List.mem_of_getElem? (i := 3) (by decide +kernel)), rfl⟩
theorem kv_J0_charAt_5068e : hp_Kv yJ0_charAt_5068e cJ0_charAt_5068e 2 (some .char) 1 := ⟨wd_2_2, wd_2_3, wd_1_10, wd_2_4, ⟨by decide, by decide, by decide +kernel⟩, by decide⟩
theorem wd_2_8 : hp_ok (Cond.code ⟨"java/lang/String", "isLatin1", "()Z"⟩ prog_24_method_154_code 1 (some .boolean)) := ⟨hp_m2 (List.mem_of_getElem? (i := 8) (by decide +kernel)), rfl⟩
theorem wd_2_6 : hp_ok (Cond.instanceMethod ⟨"java/lang/String", "isLatin1", "()Z"⟩) := ⟨hp_m2 (List.mem_of_getElem? (i := 6) (by decide +kernel)), rfl⟩
theorem wd_2_7 : hp_ok (Cond.selects "java/lang/String" ⟨"java/lang/String", "isLatin1", "()Z"⟩ ⟨"java/lang/String", "isLatin1", "()Z"⟩) := ⟨hp_m2 (List.mem_of_getElem? (i := 7) (by decide +kernel)), rfl⟩
theorem kv_J0_isLatin1_aae02 : hp_Kv yJ0_isLatin1_aae02 cJ0_isLatin1_aae02 1 (some .boolean) 0 := ⟨wd_2_6, wd_2_7, wd_1_10, wd_2_8, ⟨by decide, by decide, by decide +kernel⟩, by decide⟩
theorem wd_2_14 : hp_ok (Cond.code ⟨"java/lang/String", "checkIndex", "(II)V"⟩ prog_24_method_155_code 2 none) := ⟨hp_m2 (List.mem_of_getElem? (i := 14) (by decide +kernel)), rfl⟩
theorem wd_2_13 : hp_ok (Cond.static ⟨"java/lang/String", "checkIndex", "(II)V"⟩) := ⟨hp_m2 (List.mem_of_getElem? (i := 13) (by decide +kernel)), rfl⟩
theorem ks_J0_checkIndex_df160 : hp_Ks yJ0_checkIndex_df160 cJ0_checkIndex_df160 2 none 2 := ⟨wd_2_13, wd_1_10, wd_2_14, ⟨by decide, by decide, by decide +kernel⟩, by decide⟩
theorem wd_2_11 : hp_ok (Cond.code ⟨"java/lang/StringLatin1", "charAt", "([BI)C"⟩ prog_26_method_2_code 2 (some .char)) := ⟨hp_m2 (List.mem_of_getElem? (i := 11) (by decide +kernel)), rfl⟩
theorem wd_2_10 : hp_ok (Cond.static ⟨"java/lang/StringLatin1", "charAt", "([BI)C"⟩) := ⟨hp_m2 (List.mem_of_getElem? (i := 10) (by decide +kernel)), rfl⟩
theorem ks_J1_charAt_3b067 : hp_Ks yJ1_charAt_3b067 cJ1_charAt_3b067 2 (some .char) 2 := ⟨wd_2_10, wd_1_12, wd_2_11, ⟨by decide, by decide, by decide +kernel⟩, by decide⟩
theorem wd_2_19 : hp_ok (Cond.code ⟨"jdk/internal/util/Preconditions", "checkIndex", "(IILjava/util/function/BiFunction;)I"⟩ prog_34_method_11_code 3 (some .int)) := ⟨hp_m2 (List.mem_of_getElem? (i := 19) (by decide +kernel)), rfl⟩
theorem wd_2_18 : hp_ok (Cond.static ⟨"jdk/internal/util/Preconditions", "checkIndex", "(IILjava/util/function/BiFunction;)I"⟩) := ⟨hp_m2 (List.mem_of_getElem? (i := 18) (by decide +kernel)), rfl⟩
theorem ks_J3_checkIndex_8e157 : hp_Ks yJ3_checkIndex_8e157 cJ3_checkIndex_8e157 3 (some .int) 3 := ⟨wd_2_18, wd_1_13, wd_2_19, ⟨by decide, by decide, by decide +kernel⟩, by decide⟩
theorem wd_3_168 : hp_ok (Cond.code ⟨"java/lang/Integer", "bitCount", "(I)I"⟩ prog_21_method_49_code 1 (some .int)) := ⟨hp_m3 (List.mem_of_getElem? (i := 168) (by decide +kernel)), rfl⟩
theorem wd_3_167 : hp_ok (Cond.static ⟨"java/lang/Integer", "bitCount", "(I)I"⟩) := ⟨hp_m3 (List.mem_of_getElem? (i := 167) (by decide +kernel)), rfl⟩
theorem ks_J6_bitCount_0f7a4 : hp_Ks yJ6_bitCount_0f7a4 cJ6_bitCount_0f7a4 1 (some .int) 1 := ⟨wd_3_167, wd_1_24, wd_3_168, ⟨by decide, by decide, by decide +kernel⟩, by decide⟩
theorem wd_2_65 : hp_ok (Cond.code ⟨"java/util/Arrays", "fill", "([II)V"⟩ prog_32_method_103_code 4 none) := ⟨hp_m2 (List.mem_of_getElem? (i := 65) (by decide +kernel)), rfl⟩
theorem wd_2_64 : hp_ok (Cond.static ⟨"java/util/Arrays", "fill", "([II)V"⟩) := ⟨hp_m2 (List.mem_of_getElem? (i := 64) (by decide +kernel)), rfl⟩
theorem ks_J7_fill_53178 : hp_Ks yJ7_fill_53178 cJ7_fill_53178 4 none 2 := ⟨wd_2_64, wd_1_16, wd_2_65, ⟨by decide, by decide, by decide +kernel⟩, by decide⟩
theorem wd_4_88 : hp_ok (Cond.code ⟨"HallPhoneLaw", "cell", "([II)I"⟩ method_2_code 2 (some .int)) := ⟨hp_m4 (List.mem_of_getElem? (i := 88) (by decide +kernel)), rfl⟩
theorem wd_4_87 : hp_ok (Cond.static ⟨"HallPhoneLaw", "cell", "([II)I"⟩) := ⟨hp_m4 (List.mem_of_getElem? (i := 87) (by decide +kernel)), rfl⟩
theorem ks_L_cell : hp_Ks yL_cell cL_cell 2 (some .int) 2 := ⟨wd_4_87, wd_1_0, wd_4_88, ⟨by decide, by decide, by decide +kernel⟩, by decide⟩
theorem wd_4_94 : hp_ok (Cond.code ⟨"HallPhoneLaw", "hasPhone", "(LHallPhone;)Z"⟩ method_3_code 9 (some .boolean)) := ⟨hp_m4 (List.mem_of_getElem? (i := 94) (by decide +kernel)), rfl⟩
theorem wd_4_93 : hp_ok (Cond.static ⟨"HallPhoneLaw", "hasPhone", "(LHallPhone;)Z"⟩) := ⟨hp_m4 (List.mem_of_getElem? (i := 93) (by decide +kernel)), rfl⟩
theorem ks_L_hasPhone : hp_Ks yL_hasPhone cL_hasPhone 9 (some .boolean) 1 := ⟨wd_4_93, wd_1_0, wd_4_94, ⟨by decide, by decide, by decide +kernel⟩, by decide⟩
theorem wd_4_102 : hp_ok (Cond.code ⟨"HallPhoneLaw", "hasFlats", "(LHallPhone;)Z"⟩ method_4_code 8 (some .boolean)) := ⟨hp_m4 (List.mem_of_getElem? (i := 102) (by decide +kernel)), rfl⟩
theorem wd_4_101 : hp_ok (Cond.static ⟨"HallPhoneLaw", "hasFlats", "(LHallPhone;)Z"⟩) := ⟨hp_m4 (List.mem_of_getElem? (i := 101) (by decide +kernel)), rfl⟩
theorem ks_L_hasFlats : hp_Ks yL_hasFlats cL_hasFlats 8 (some .boolean) 1 := ⟨wd_4_101, wd_1_0, wd_4_102, ⟨by decide, by decide, by decide +kernel⟩, by decide⟩
theorem wd_4_91 : hp_ok (Cond.code ⟨"HallPhoneLaw", "holds", "(LHallPhone;)Z"⟩ method_5_code 1 (some .boolean)) := ⟨hp_m4 (List.mem_of_getElem? (i := 91) (by decide +kernel)), rfl⟩
theorem wd_4_90 : hp_ok (Cond.static ⟨"HallPhoneLaw", "holds", "(LHallPhone;)Z"⟩) := ⟨hp_m4 (List.mem_of_getElem? (i := 90) (by decide +kernel)), rfl⟩
theorem ks_L_holds : hp_Ks yL_holds cL_holds 1 (some .boolean) 1 := ⟨wd_4_90, wd_1_0, wd_4_91, ⟨by decide, by decide, by decide +kernel⟩, by decide⟩
theorem wd_2_146 : hp_ok (Cond.selects "HallPhone$Verb" ⟨"HallPhone$Verb", "ordinal", "()I"⟩ ⟨"java/lang/Enum", "ordinal", "()I"⟩) := ⟨hp_m2 (List.mem_of_getElem? (i := 146) (by decide +kernel)), rfl⟩
theorem wd_2_147 : hp_ok (Cond.instanceMethod ⟨"java/lang/Enum", "ordinal", "()I"⟩) := ⟨hp_m2 (List.mem_of_getElem? (i := 147) (by decide +kernel)), rfl⟩
theorem wd_2_148 : hp_ok (Cond.code ⟨"java/lang/Enum", "ordinal", "()I"⟩ prog_17_method_2_code 1 (some .int)) := ⟨hp_m2 (List.mem_of_getElem? (i := 148) (by decide +kernel)), rfl⟩
theorem hp_ordw : hp_ok (.methodLink "HallPhone$House" 193 ⟨"HallPhone$Verb", "ordinal", "()I"⟩) ∧ hp_ok (.sameMethod "HallPhone$Verb" "java/lang/Enum" "ordinal" "()I") ∧ hp_ok (.selects "HallPhone$Verb" ⟨"HallPhone$Verb", "ordinal", "()I"⟩ yJx29ce0_ordinal_8abf5) ∧ hp_ok (.instanceMethod yJx29ce0_ordinal_8abf5) ∧ hp_ok (.initialized "java/lang/Enum") ∧ hp_ok (.code yJx29ce0_ordinal_8abf5 cJx29ce0_ordinal_8abf5 1 (some .int)) := ⟨wd_2_143, wd_2_144, wd_2_146, wd_2_147, wd_1_17, wd_2_148⟩
theorem wd_2_44 : hp_ok (Cond.static ⟨"java/lang/Math", "min", "(II)I"⟩) := ⟨hp_m2 (List.mem_of_getElem? (i := 44) (by decide +kernel)), rfl⟩
theorem hp_minw : hp_ok (.static Lib.Math.min.name) ∧ hp_ok (.initialized "java/lang/Math") ∧ hp_ok (.code Lib.Math.min.name Lib.Math.min.code 2 (some .int)) := ⟨wd_2_44, wd_1_14, ⟨hp_m2 (List.mem_of_getElem? (i := 45) (by decide +kernel)), rfl⟩⟩
theorem wd_2_61 : hp_ok (Cond.static ⟨"java/lang/System", "arraycopy", "(Ljava/lang/Object;ILjava/lang/Object;II)V"⟩) := ⟨hp_m2 (List.mem_of_getElem? (i := 61) (by decide +kernel)), rfl⟩
theorem hp_acwo : hp_ok (.native arraycopyName) ∧ hp_ok (.static arraycopyName) ∧ hp_ok (.initialized "java/lang/System") := ⟨wd_2_62, wd_2_61, wd_1_15⟩
theorem hp_cs : hp_is (Cond.eq (.static "java/lang/String" "COMPACT_STRINGS" "Z") (.int 1)) := ⟨3585, by decide +kernel⟩
theorem hp_sioobe : hp_is (Cond.isRef (.static "jdk/internal/util/Preconditions" "SIOOBE_FORMATTER" "Ljava/util/function/BiFunction;")) := ⟨2305, by decide +kernel⟩
theorem hp_lk {x k : Int32} {ps : List (Int × Int)} {dflt off : Int} (h : x = k) (e : Op.lookupswitch.offset ps dflt k.toInt = off) : Op.lookupswitch.offset ps dflt x.toInt = off := by rw [h]; exact e
theorem hp_lk2 {x k1 k2 : Int32} {ps : List (Int × Int)} {dflt : Int} (h1 : ¬ x = k1) (h2 : ¬ x = k2) (e : ps.map Prod.fst = [k1.toInt, k2.toInt]) : Op.lookupswitch.offset ps dflt x.toInt = dflt := by
  match ps, e with
  | [(a, b), (c, d)], e =>
    simp only [List.map_cons, List.map_nil, List.cons.injEq, and_true] at e
    rw [Op.lookupswitch.offset_cons, if_neg (fun q => h1 (Int32.toInt_inj.mp (q.symm.trans e.1))), Op.lookupswitch.offset_cons, if_neg (fun q => h2 (Int32.toInt_inj.mp (q.symm.trans e.2)))]
    rfl
theorem dJx29ce0_ordinal_8abf5_0 : decode cJx29ce0_ordinal_8abf5 0 = .ok (.aload_n 0, 1) := by decide +kernel
theorem dJx29ce0_ordinal_8abf5_1 : decode cJx29ce0_ordinal_8abf5 1 = .ok (.getfield 7, 3) := by decide +kernel
theorem dJx29ce0_ordinal_8abf5_4 : decode cJx29ce0_ordinal_8abf5 4 = .ok (.ireturn, 1) := by decide +kernel
theorem dJ6_bitCount_0f7a4_0 : decode cJ6_bitCount_0f7a4 0 = .ok (.iload_n 0, 1) := by decide +kernel
theorem dJ6_bitCount_0f7a4_1 : decode cJ6_bitCount_0f7a4 1 = .ok (.iload_n 0, 1) := by decide +kernel
theorem dJ6_bitCount_0f7a4_2 : decode cJ6_bitCount_0f7a4 2 = .ok (.iconst 1, 1) := by decide +kernel
theorem dJ6_bitCount_0f7a4_3 : decode cJ6_bitCount_0f7a4 3 = .ok (.iushr, 1) := by decide +kernel
theorem dJ6_bitCount_0f7a4_4 : decode cJ6_bitCount_0f7a4 4 = .ok (.ldc_w 265, 3) := by decide +kernel
theorem dJ6_bitCount_0f7a4_7 : decode cJ6_bitCount_0f7a4 7 = .ok (.iand, 1) := by decide +kernel
theorem dJ6_bitCount_0f7a4_8 : decode cJ6_bitCount_0f7a4 8 = .ok (.isub, 1) := by decide +kernel
theorem dJ6_bitCount_0f7a4_9 : decode cJ6_bitCount_0f7a4 9 = .ok (.istore_n 0, 1) := by decide +kernel
theorem dJ6_bitCount_0f7a4_10 : decode cJ6_bitCount_0f7a4 10 = .ok (.iload_n 0, 1) := by decide +kernel
theorem dJ6_bitCount_0f7a4_11 : decode cJ6_bitCount_0f7a4 11 = .ok (.ldc_w 266, 3) := by decide +kernel
theorem dJ6_bitCount_0f7a4_14 : decode cJ6_bitCount_0f7a4 14 = .ok (.iand, 1) := by decide +kernel
theorem dJ6_bitCount_0f7a4_15 : decode cJ6_bitCount_0f7a4 15 = .ok (.iload_n 0, 1) := by decide +kernel
theorem dJ6_bitCount_0f7a4_16 : decode cJ6_bitCount_0f7a4 16 = .ok (.iconst 2, 1) := by decide +kernel
theorem dJ6_bitCount_0f7a4_17 : decode cJ6_bitCount_0f7a4 17 = .ok (.iushr, 1) := by decide +kernel
theorem dJ6_bitCount_0f7a4_18 : decode cJ6_bitCount_0f7a4 18 = .ok (.ldc_w 266, 3) := by decide +kernel
theorem dJ6_bitCount_0f7a4_21 : decode cJ6_bitCount_0f7a4 21 = .ok (.iand, 1) := by decide +kernel
theorem dJ6_bitCount_0f7a4_22 : decode cJ6_bitCount_0f7a4 22 = .ok (.iadd, 1) := by decide +kernel
theorem dJ6_bitCount_0f7a4_23 : decode cJ6_bitCount_0f7a4 23 = .ok (.istore_n 0, 1) := by decide +kernel
theorem dJ6_bitCount_0f7a4_24 : decode cJ6_bitCount_0f7a4 24 = .ok (.iload_n 0, 1) := by decide +kernel
theorem dJ6_bitCount_0f7a4_25 : decode cJ6_bitCount_0f7a4 25 = .ok (.iload_n 0, 1) := by decide +kernel
theorem dJ6_bitCount_0f7a4_26 : decode cJ6_bitCount_0f7a4 26 = .ok (.iconst 4, 1) := by decide +kernel
theorem dJ6_bitCount_0f7a4_27 : decode cJ6_bitCount_0f7a4 27 = .ok (.iushr, 1) := by decide +kernel
theorem dJ6_bitCount_0f7a4_28 : decode cJ6_bitCount_0f7a4 28 = .ok (.iadd, 1) := by decide +kernel
theorem dJ6_bitCount_0f7a4_29 : decode cJ6_bitCount_0f7a4 29 = .ok (.ldc_w 267, 3) := by decide +kernel
theorem dJ6_bitCount_0f7a4_32 : decode cJ6_bitCount_0f7a4 32 = .ok (.iand, 1) := by decide +kernel
theorem dJ6_bitCount_0f7a4_33 : decode cJ6_bitCount_0f7a4 33 = .ok (.istore_n 0, 1) := by decide +kernel
theorem dJ6_bitCount_0f7a4_34 : decode cJ6_bitCount_0f7a4 34 = .ok (.iload_n 0, 1) := by decide +kernel
theorem dJ6_bitCount_0f7a4_35 : decode cJ6_bitCount_0f7a4 35 = .ok (.iload_n 0, 1) := by decide +kernel
theorem dJ6_bitCount_0f7a4_36 : decode cJ6_bitCount_0f7a4 36 = .ok (.bipush 8, 2) := by decide +kernel
theorem dJ6_bitCount_0f7a4_38 : decode cJ6_bitCount_0f7a4 38 = .ok (.iushr, 1) := by decide +kernel
theorem dJ6_bitCount_0f7a4_39 : decode cJ6_bitCount_0f7a4 39 = .ok (.iadd, 1) := by decide +kernel
theorem dJ6_bitCount_0f7a4_40 : decode cJ6_bitCount_0f7a4 40 = .ok (.istore_n 0, 1) := by decide +kernel
theorem dJ6_bitCount_0f7a4_41 : decode cJ6_bitCount_0f7a4 41 = .ok (.iload_n 0, 1) := by decide +kernel
theorem dJ6_bitCount_0f7a4_42 : decode cJ6_bitCount_0f7a4 42 = .ok (.iload_n 0, 1) := by decide +kernel
theorem dJ6_bitCount_0f7a4_43 : decode cJ6_bitCount_0f7a4 43 = .ok (.bipush 16, 2) := by decide +kernel
theorem dJ6_bitCount_0f7a4_45 : decode cJ6_bitCount_0f7a4 45 = .ok (.iushr, 1) := by decide +kernel
theorem dJ6_bitCount_0f7a4_46 : decode cJ6_bitCount_0f7a4 46 = .ok (.iadd, 1) := by decide +kernel
theorem dJ6_bitCount_0f7a4_47 : decode cJ6_bitCount_0f7a4 47 = .ok (.istore_n 0, 1) := by decide +kernel
theorem dJ6_bitCount_0f7a4_48 : decode cJ6_bitCount_0f7a4 48 = .ok (.iload_n 0, 1) := by decide +kernel
theorem dJ6_bitCount_0f7a4_49 : decode cJ6_bitCount_0f7a4 49 = .ok (.bipush 63, 2) := by decide +kernel
theorem dJ6_bitCount_0f7a4_51 : decode cJ6_bitCount_0f7a4 51 = .ok (.iand, 1) := by decide +kernel
theorem dJ6_bitCount_0f7a4_52 : decode cJ6_bitCount_0f7a4 52 = .ok (.ireturn, 1) := by decide +kernel
theorem dJ0_length_8abf5_0 : decode cJ0_length_8abf5 0 = .ok (.aload_n 0, 1) := by decide +kernel
theorem dJ0_length_8abf5_1 : decode cJ0_length_8abf5 1 = .ok (.getfield 9, 3) := by decide +kernel
theorem dJ0_length_8abf5_4 : decode cJ0_length_8abf5 4 = .ok (.arraylength, 1) := by decide +kernel
theorem dJ0_length_8abf5_5 : decode cJ0_length_8abf5 5 = .ok (.aload_n 0, 1) := by decide +kernel
theorem dJ0_length_8abf5_6 : decode cJ0_length_8abf5 6 = .ok (.invokevirtual 335, 3) := by decide +kernel
theorem dJ0_length_8abf5_9 : decode cJ0_length_8abf5 9 = .ok (.ishr, 1) := by decide +kernel
theorem dJ0_length_8abf5_10 : decode cJ0_length_8abf5 10 = .ok (.ireturn, 1) := by decide +kernel
theorem dJ0_charAt_5068e_0 : decode cJ0_charAt_5068e 0 = .ok (.aload_n 0, 1) := by decide +kernel
theorem dJ0_charAt_5068e_1 : decode cJ0_charAt_5068e 1 = .ok (.invokevirtual 492, 3) := by decide +kernel
theorem dJ0_charAt_5068e_4 : decode cJ0_charAt_5068e 4 = .ok (.ifCond .eq 12, 3) := by decide +kernel
theorem dJ0_charAt_5068e_7 : decode cJ0_charAt_5068e 7 = .ok (.aload_n 0, 1) := by decide +kernel
theorem dJ0_charAt_5068e_8 : decode cJ0_charAt_5068e 8 = .ok (.getfield 9, 3) := by decide +kernel
theorem dJ0_charAt_5068e_11 : decode cJ0_charAt_5068e 11 = .ok (.iload_n 1, 1) := by decide +kernel
theorem dJ0_charAt_5068e_12 : decode cJ0_charAt_5068e 12 = .ok (.invokestatic 495, 3) := by decide +kernel
theorem dJ0_charAt_5068e_15 : decode cJ0_charAt_5068e 15 = .ok (.ireturn, 1) := by decide +kernel
theorem dJ0_charAt_5068e_16 : decode cJ0_charAt_5068e 16 = .ok (.aload_n 0, 1) := by decide +kernel
theorem dJ0_charAt_5068e_17 : decode cJ0_charAt_5068e 17 = .ok (.getfield 9, 3) := by decide +kernel
theorem dJ0_charAt_5068e_20 : decode cJ0_charAt_5068e 20 = .ok (.iload_n 1, 1) := by decide +kernel
theorem dJ0_charAt_5068e_21 : decode cJ0_charAt_5068e 21 = .ok (.invokestatic 498, 3) := by decide +kernel
theorem dJ0_charAt_5068e_24 : decode cJ0_charAt_5068e 24 = .ok (.ireturn, 1) := by decide +kernel
theorem dJ0_coder_7d493_0 : decode cJ0_coder_7d493 0 = .ok (.getstatic 38, 3) := by decide +kernel
theorem dJ0_coder_7d493_3 : decode cJ0_coder_7d493 3 = .ok (.ifCond .eq 10, 3) := by decide +kernel
theorem dJ0_coder_7d493_6 : decode cJ0_coder_7d493 6 = .ok (.aload_n 0, 1) := by decide +kernel
theorem dJ0_coder_7d493_7 : decode cJ0_coder_7d493 7 = .ok (.getfield 15, 3) := by decide +kernel
theorem dJ0_coder_7d493_10 : decode cJ0_coder_7d493 10 = .ok (.goto 4, 3) := by decide +kernel
theorem dJ0_coder_7d493_13 : decode cJ0_coder_7d493 13 = .ok (.iconst 1, 1) := by decide +kernel
theorem dJ0_coder_7d493_14 : decode cJ0_coder_7d493 14 = .ok (.ireturn, 1) := by decide +kernel
theorem dJ0_isLatin1_aae02_0 : decode cJ0_isLatin1_aae02 0 = .ok (.getstatic 38, 3) := by decide +kernel
theorem dJ0_isLatin1_aae02_3 : decode cJ0_isLatin1_aae02 3 = .ok (.ifCond .eq 14, 3) := by decide +kernel
theorem dJ0_isLatin1_aae02_6 : decode cJ0_isLatin1_aae02 6 = .ok (.aload_n 0, 1) := by decide +kernel
theorem dJ0_isLatin1_aae02_7 : decode cJ0_isLatin1_aae02 7 = .ok (.getfield 15, 3) := by decide +kernel
theorem dJ0_isLatin1_aae02_10 : decode cJ0_isLatin1_aae02 10 = .ok (.ifCond .ne 7, 3) := by decide +kernel
theorem dJ0_isLatin1_aae02_13 : decode cJ0_isLatin1_aae02 13 = .ok (.iconst 1, 1) := by decide +kernel
theorem dJ0_isLatin1_aae02_14 : decode cJ0_isLatin1_aae02 14 = .ok (.goto 4, 3) := by decide +kernel
theorem dJ0_isLatin1_aae02_17 : decode cJ0_isLatin1_aae02 17 = .ok (.iconst 0, 1) := by decide +kernel
theorem dJ0_isLatin1_aae02_18 : decode cJ0_isLatin1_aae02 18 = .ok (.ireturn, 1) := by decide +kernel
theorem dJ0_checkIndex_df160_0 : decode cJ0_checkIndex_df160 0 = .ok (.iload_n 0, 1) := by decide +kernel
theorem dJ0_checkIndex_df160_1 : decode cJ0_checkIndex_df160 1 = .ok (.iload_n 1, 1) := by decide +kernel
theorem dJ0_checkIndex_df160_2 : decode cJ0_checkIndex_df160 2 = .ok (.getstatic 1053, 3) := by decide +kernel
theorem dJ0_checkIndex_df160_5 : decode cJ0_checkIndex_df160 5 = .ok (.invokestatic 1059, 3) := by decide +kernel
theorem dJ0_checkIndex_df160_8 : decode cJ0_checkIndex_df160 8 = .ok (.pop, 1) := by decide +kernel
theorem dJ0_checkIndex_df160_9 : decode cJ0_checkIndex_df160 9 = .ok (.return_, 1) := by decide +kernel
theorem dJ1_charAt_3b067_0 : decode cJ1_charAt_3b067 0 = .ok (.iload_n 1, 1) := by decide +kernel
theorem dJ1_charAt_3b067_1 : decode cJ1_charAt_3b067 1 = .ok (.aload_n 0, 1) := by decide +kernel
theorem dJ1_charAt_3b067_2 : decode cJ1_charAt_3b067 2 = .ok (.arraylength, 1) := by decide +kernel
theorem dJ1_charAt_3b067_3 : decode cJ1_charAt_3b067 3 = .ok (.invokestatic 9, 3) := by decide +kernel
theorem dJ1_charAt_3b067_6 : decode cJ1_charAt_3b067 6 = .ok (.aload_n 0, 1) := by decide +kernel
theorem dJ1_charAt_3b067_7 : decode cJ1_charAt_3b067 7 = .ok (.iload_n 1, 1) := by decide +kernel
theorem dJ1_charAt_3b067_8 : decode cJ1_charAt_3b067 8 = .ok (.baload, 1) := by decide +kernel
theorem dJ1_charAt_3b067_9 : decode cJ1_charAt_3b067 9 = .ok (.sipush 255, 3) := by decide +kernel
theorem dJ1_charAt_3b067_12 : decode cJ1_charAt_3b067 12 = .ok (.iand, 1) := by decide +kernel
theorem dJ1_charAt_3b067_13 : decode cJ1_charAt_3b067 13 = .ok (.i2c, 1) := by decide +kernel
theorem dJ1_charAt_3b067_14 : decode cJ1_charAt_3b067 14 = .ok (.ireturn, 1) := by decide +kernel
theorem dJ7_fill_53178_0 : decode cJ7_fill_53178 0 = .ok (.iconst 0, 1) := by decide +kernel
theorem dJ7_fill_53178_1 : decode cJ7_fill_53178 1 = .ok (.istore_n 2, 1) := by decide +kernel
theorem dJ7_fill_53178_2 : decode cJ7_fill_53178 2 = .ok (.aload_n 0, 1) := by decide +kernel
theorem dJ7_fill_53178_3 : decode cJ7_fill_53178 3 = .ok (.arraylength, 1) := by decide +kernel
theorem dJ7_fill_53178_4 : decode cJ7_fill_53178 4 = .ok (.istore_n 3, 1) := by decide +kernel
theorem dJ7_fill_53178_5 : decode cJ7_fill_53178 5 = .ok (.iload_n 2, 1) := by decide +kernel
theorem dJ7_fill_53178_6 : decode cJ7_fill_53178 6 = .ok (.iload_n 3, 1) := by decide +kernel
theorem dJ7_fill_53178_7 : decode cJ7_fill_53178 7 = .ok (.if_icmp .ge 13, 3) := by decide +kernel
theorem dJ7_fill_53178_10 : decode cJ7_fill_53178 10 = .ok (.aload_n 0, 1) := by decide +kernel
theorem dJ7_fill_53178_11 : decode cJ7_fill_53178 11 = .ok (.iload_n 2, 1) := by decide +kernel
theorem dJ7_fill_53178_12 : decode cJ7_fill_53178 12 = .ok (.iload_n 1, 1) := by decide +kernel
theorem dJ7_fill_53178_13 : decode cJ7_fill_53178 13 = .ok (.iastore, 1) := by decide +kernel
theorem dJ7_fill_53178_14 : decode cJ7_fill_53178 14 = .ok (.iinc 2 1, 3) := by decide +kernel
theorem dJ7_fill_53178_17 : decode cJ7_fill_53178 17 = .ok (.goto (-12), 3) := by decide +kernel
theorem dJ7_fill_53178_20 : decode cJ7_fill_53178 20 = .ok (.return_, 1) := by decide +kernel
theorem dJ3_checkIndex_8e157_0 : decode cJ3_checkIndex_8e157 0 = .ok (.iload_n 0, 1) := by decide +kernel
theorem dJ3_checkIndex_8e157_1 : decode cJ3_checkIndex_8e157 1 = .ok (.ifCond .lt 8, 3) := by decide +kernel
theorem dJ3_checkIndex_8e157_4 : decode cJ3_checkIndex_8e157 4 = .ok (.iload_n 0, 1) := by decide +kernel
theorem dJ3_checkIndex_8e157_5 : decode cJ3_checkIndex_8e157 5 = .ok (.iload_n 1, 1) := by decide +kernel
theorem dJ3_checkIndex_8e157_6 : decode cJ3_checkIndex_8e157 6 = .ok (.if_icmp .lt 10, 3) := by decide +kernel
theorem dJ3_checkIndex_8e157_9 : decode cJ3_checkIndex_8e157 9 = .ok (.aload_n 2, 1) := by decide +kernel
theorem dJ3_checkIndex_8e157_10 : decode cJ3_checkIndex_8e157 10 = .ok (.iload_n 0, 1) := by decide +kernel
theorem dJ3_checkIndex_8e157_11 : decode cJ3_checkIndex_8e157 11 = .ok (.iload_n 1, 1) := by decide +kernel
theorem dJ3_checkIndex_8e157_12 : decode cJ3_checkIndex_8e157 12 = .ok (.invokestatic 95, 3) := by decide +kernel
theorem dJ3_checkIndex_8e157_15 : decode cJ3_checkIndex_8e157 15 = .ok (.athrow, 1) := by decide +kernel
theorem dJ3_checkIndex_8e157_16 : decode cJ3_checkIndex_8e157 16 = .ok (.iload_n 0, 1) := by decide +kernel
theorem dJ3_checkIndex_8e157_17 : decode cJ3_checkIndex_8e157 17 = .ok (.ireturn, 1) := by decide +kernel
