theorem wd_1_0 : hp_ok (Cond.initialized "HallPhoneLaw") := ⟨hp_m1 (List.mem_of_getElem? (i := 0) (by decide +kernel)), rfl⟩
theorem wd_1_8 : hp_ok (Cond.initialized "java/lang/AbstractStringBuilder") := ⟨hp_m1 (List.mem_of_getElem? (i := 8) (by decide +kernel)), rfl⟩
theorem wd_1_9 : hp_ok (Cond.initialized "java/lang/StringBuilder") := ⟨hp_m1 (List.mem_of_getElem? (i := 9) (by decide +kernel)), rfl⟩
theorem wd_1_10 : hp_ok (Cond.initialized "java/lang/String") := ⟨hp_m1 (List.mem_of_getElem? (i := 10) (by decide +kernel)), rfl⟩
theorem wd_1_11 : hp_ok (Cond.initialized "java/lang/StringUTF16") := ⟨hp_m1 (List.mem_of_getElem? (i := 11) (by decide +kernel)), rfl⟩
theorem wd_1_12 : hp_ok (Cond.initialized "java/lang/StringLatin1") := ⟨hp_m1 (List.mem_of_getElem? (i := 12) (by decide +kernel)), rfl⟩
theorem wd_1_13 : hp_ok (Cond.initialized "jdk/internal/util/Preconditions") := ⟨hp_m1 (List.mem_of_getElem? (i := 13) (by decide +kernel)), rfl⟩
theorem wd_1_14 : hp_ok (Cond.initialized "java/lang/Math") := ⟨hp_m1 (List.mem_of_getElem? (i := 14) (by decide +kernel)), rfl⟩
theorem wd_1_15 : hp_ok (Cond.initialized "java/lang/System") := ⟨hp_m1 (List.mem_of_getElem? (i := 15) (by decide +kernel)), rfl⟩
theorem wd_1_16 : hp_ok (Cond.initialized "java/util/Arrays") := ⟨hp_m1 (List.mem_of_getElem? (i := 16) (by decide +kernel)), rfl⟩
theorem wd_1_17 : hp_ok (Cond.initialized "java/lang/Enum") := ⟨hp_m1 (List.mem_of_getElem? (i := 17) (by decide +kernel)), rfl⟩
theorem wd_1_19 : hp_ok (Cond.initialized "HallPhone$1") := ⟨hp_m1 (List.mem_of_getElem? (i := 19) (by decide +kernel)), rfl⟩
theorem wd_1_21 : hp_ok (Cond.initialized "java/lang/Throwable") := ⟨hp_m1 (List.mem_of_getElem? (i := 21) (by decide +kernel)), rfl⟩
theorem wd_1_22 : hp_ok (Cond.initialized "java/lang/Exception") := ⟨hp_m1 (List.mem_of_getElem? (i := 22) (by decide +kernel)), rfl⟩
theorem wd_1_23 : hp_ok (Cond.initialized "java/lang/RuntimeException") := ⟨hp_m1 (List.mem_of_getElem? (i := 23) (by decide +kernel)), rfl⟩
theorem wd_1_24 : hp_ok (Cond.initialized "java/lang/IllegalArgumentException") := ⟨hp_m1 (List.mem_of_getElem? (i := 24) (by decide +kernel)), rfl⟩
theorem wd_1_25 : hp_ok (Cond.initialized "java/lang/Number") := ⟨hp_m1 (List.mem_of_getElem? (i := 25) (by decide +kernel)), rfl⟩
theorem wd_1_26 : hp_ok (Cond.initialized "java/lang/Integer") := ⟨hp_m1 (List.mem_of_getElem? (i := 26) (by decide +kernel)), rfl⟩
theorem wd_1_27 : hp_ok (Cond.initialized "java/lang/IndexOutOfBoundsException") := ⟨hp_m1 (List.mem_of_getElem? (i := 27) (by decide +kernel)), rfl⟩
theorem wd_1_28 : hp_ok (Cond.initialized "java/util/NoSuchElementException") := ⟨hp_m1 (List.mem_of_getElem? (i := 28) (by decide +kernel)), rfl⟩
theorem wd_1_29 : hp_ok (Cond.initialized "java/lang/StringIndexOutOfBoundsException") := ⟨hp_m1 (List.mem_of_getElem? (i := 29) (by decide +kernel)), rfl⟩
theorem wd_1_30 : hp_ok (Cond.initialized "jdk/internal/util/ArraysSupport") := ⟨hp_m1 (List.mem_of_getElem? (i := 30) (by decide +kernel)), rfl⟩
theorem wd_1_31 : hp_ok (Cond.initialized "java/lang/ArrayIndexOutOfBoundsException") := ⟨hp_m1 (List.mem_of_getElem? (i := 31) (by decide +kernel)), rfl⟩
theorem wd_1_34 : hp_ok (Cond.methodLink "HallPhoneLaw" 103 ⟨"HallPhone", "<init>", "()V"⟩) := ⟨hp_m1 (List.mem_of_getElem? (i := 34) (by decide +kernel)), rfl⟩
theorem wd_1_210 : hp_ok (Cond.methodLink "java/lang/StringBuilder" 1 ⟨"java/lang/AbstractStringBuilder", "<init>", "(I)V"⟩) := ⟨hp_m1 (List.mem_of_getElem? (i := 210) (by decide +kernel)), rfl⟩
theorem wd_1_213 : hp_ok (Cond.methodLink "java/lang/AbstractStringBuilder" 3 ⟨"java/lang/Object", "<init>", "()V"⟩) := ⟨hp_m1 (List.mem_of_getElem? (i := 213) (by decide +kernel)), rfl⟩
theorem wd_1_214 : hp_ok (Cond.fieldLink "java/lang/AbstractStringBuilder" 18 "java/lang/String" "COMPACT_STRINGS" "Z") := ⟨hp_m1 (List.mem_of_getElem? (i := 214) (by decide +kernel)), rfl⟩
theorem wd_1_215 : Cond.laysStatic "java/lang/String" "COMPACT_STRINGS" "Z" ∈ lw_tbl := hp_m1 (List.mem_of_getElem? (i := 215) (by decide +kernel))
theorem wd_1_216 : hp_ok (Cond.methodLink "java/lang/AbstractStringBuilder" 26 ⟨"java/lang/StringUTF16", "newBytesFor", "(I)[B"⟩) := ⟨hp_m1 (List.mem_of_getElem? (i := 216) (by decide +kernel)), rfl⟩
theorem wd_1_219 : hp_ok (Cond.methodLink "java/lang/StringUTF16" 11 ⟨"java/lang/StringUTF16", "newBytesLength", "(I)I"⟩) := ⟨hp_m1 (List.mem_of_getElem? (i := 219) (by decide +kernel)), rfl⟩
theorem wd_1_222 : hp_ok (Cond.constant "java/lang/StringUTF16" 20 (1073741823 : Int32)) := ⟨hp_m1 (List.mem_of_getElem? (i := 222) (by decide +kernel)), rfl⟩
theorem wd_1_223 : hp_ok (Cond.fieldLink "java/lang/AbstractStringBuilder" 15 "java/lang/AbstractStringBuilder" "value" "[B") := ⟨hp_m1 (List.mem_of_getElem? (i := 223) (by decide +kernel)), rfl⟩
theorem wd_1_224 : hp_ok (Cond.fieldLink "java/lang/AbstractStringBuilder" 22 "java/lang/AbstractStringBuilder" "coder" "B") := ⟨hp_m1 (List.mem_of_getElem? (i := 224) (by decide +kernel)), rfl⟩
theorem wd_1_225 : hp_ok (Cond.fieldLink "java/lang/AbstractStringBuilder" 73 "java/lang/AbstractStringBuilder" "maybeLatin1" "Z") := ⟨hp_m1 (List.mem_of_getElem? (i := 225) (by decide +kernel)), rfl⟩
theorem wd_1_226 : hp_ok (Cond.fieldLink "java/lang/String" 1048 "java/lang/AbstractStringBuilder" "maybeLatin1" "Z") := ⟨hp_m1 (List.mem_of_getElem? (i := 226) (by decide +kernel)), rfl⟩
theorem wd_1_227 : hp_ok (Cond.fieldLink "java/lang/AbstractStringBuilder" 79 "java/lang/AbstractStringBuilder" "count" "I") := ⟨hp_m1 (List.mem_of_getElem? (i := 227) (by decide +kernel)), rfl⟩
theorem wd_1_238 : Cond.stringRef "HallPhone" 57 "house 0 curious 1 3 2 curious 4; limit 6; ring 4 5; want 1 8; want 3 4; pass 3; want 0 10;" ∈ lw_tbl := hp_m1 (List.mem_of_getElem? (i := 238) (by decide +kernel))
theorem wd_2_7 : hp_ok (Cond.methodLink "java/lang/String" 335 ⟨"java/lang/String", "coder", "()B"⟩) := ⟨hp_m2 (List.mem_of_getElem? (i := 7) (by decide +kernel)), rfl⟩
theorem wd_2_11 : hp_ok (Cond.fieldLink "java/lang/String" 38 "java/lang/String" "COMPACT_STRINGS" "Z") := ⟨hp_m2 (List.mem_of_getElem? (i := 11) (by decide +kernel)), rfl⟩
theorem wd_2_16 : hp_ok (Cond.methodLink "java/lang/String" 492 ⟨"java/lang/String", "isLatin1", "()Z"⟩) := ⟨hp_m2 (List.mem_of_getElem? (i := 16) (by decide +kernel)), rfl⟩
theorem wd_2_20 : hp_ok (Cond.methodLink "java/lang/String" 495 ⟨"java/lang/StringLatin1", "charAt", "([BI)C"⟩) := ⟨hp_m2 (List.mem_of_getElem? (i := 20) (by decide +kernel)), rfl⟩
theorem wd_2_23 : hp_ok (Cond.methodLink "java/lang/StringLatin1" 9 ⟨"java/lang/String", "checkIndex", "(II)V"⟩) := ⟨hp_m2 (List.mem_of_getElem? (i := 23) (by decide +kernel)), rfl⟩
theorem wd_2_26 : hp_ok (Cond.fieldLink "java/lang/String" 1053 "jdk/internal/util/Preconditions" "SIOOBE_FORMATTER" "Ljava/util/function/BiFunction;") := ⟨hp_m2 (List.mem_of_getElem? (i := 26) (by decide +kernel)), rfl⟩
theorem wd_2_27 : Cond.laysStatic "jdk/internal/util/Preconditions" "SIOOBE_FORMATTER" "Ljava/util/function/BiFunction;" ∈ lw_tbl := hp_m2 (List.mem_of_getElem? (i := 27) (by decide +kernel))
theorem wd_2_28 : hp_ok (Cond.methodLink "java/lang/String" 1059 ⟨"jdk/internal/util/Preconditions", "checkIndex", "(IILjava/util/function/BiFunction;)I"⟩) := ⟨hp_m2 (List.mem_of_getElem? (i := 28) (by decide +kernel)), rfl⟩
theorem wd_2_31 : hp_ok (Cond.methodLink "java/lang/String" 498 ⟨"java/lang/StringUTF16", "charAt", "([BI)C"⟩) := ⟨hp_m2 (List.mem_of_getElem? (i := 31) (by decide +kernel)), rfl⟩
theorem wd_2_34 : hp_ok (Cond.methodLink "java/lang/StringUTF16" 67 ⟨"java/lang/StringUTF16", "checkIndex", "(I[B)V"⟩) := ⟨hp_m2 (List.mem_of_getElem? (i := 34) (by decide +kernel)), rfl⟩
theorem wd_2_37 : hp_ok (Cond.methodLink "java/lang/StringUTF16" 48 ⟨"java/lang/StringUTF16", "length", "([B)I"⟩) := ⟨hp_m2 (List.mem_of_getElem? (i := 37) (by decide +kernel)), rfl⟩
theorem wd_2_40 : hp_ok (Cond.methodLink "java/lang/StringUTF16" 414 ⟨"java/lang/String", "checkIndex", "(II)V"⟩) := ⟨hp_m2 (List.mem_of_getElem? (i := 40) (by decide +kernel)), rfl⟩
theorem wd_2_41 : hp_ok (Cond.methodLink "java/lang/StringUTF16" 71 ⟨"java/lang/StringUTF16", "getChar", "([BI)C"⟩) := ⟨hp_m2 (List.mem_of_getElem? (i := 41) (by decide +kernel)), rfl⟩
theorem wd_2_44 : hp_ok (Cond.fieldLink "java/lang/StringUTF16" 44 "java/lang/StringUTF16" "$assertionsDisabled" "Z") := ⟨hp_m2 (List.mem_of_getElem? (i := 44) (by decide +kernel)), rfl⟩
theorem wd_2_45 : Cond.laysStatic "java/lang/StringUTF16" "$assertionsDisabled" "Z" ∈ lw_tbl := hp_m2 (List.mem_of_getElem? (i := 45) (by decide +kernel))
theorem wd_2_46 : hp_ok (Cond.fieldLink "java/lang/StringUTF16" 59 "java/lang/StringUTF16" "HI_BYTE_SHIFT" "I") := ⟨hp_m2 (List.mem_of_getElem? (i := 46) (by decide +kernel)), rfl⟩
theorem wd_2_47 : Cond.laysStatic "java/lang/StringUTF16" "HI_BYTE_SHIFT" "I" ∈ lw_tbl := hp_m2 (List.mem_of_getElem? (i := 47) (by decide +kernel))
theorem wd_2_48 : hp_ok (Cond.fieldLink "java/lang/StringUTF16" 63 "java/lang/StringUTF16" "LO_BYTE_SHIFT" "I") := ⟨hp_m2 (List.mem_of_getElem? (i := 48) (by decide +kernel)), rfl⟩
theorem wd_2_49 : Cond.laysStatic "java/lang/StringUTF16" "LO_BYTE_SHIFT" "I" ∈ lw_tbl := hp_m2 (List.mem_of_getElem? (i := 49) (by decide +kernel))
theorem wd_2_66 : Cond.laysStatic "HallPhone" "FIRST_SETTINGS" "[I" ∈ lw_tbl := hp_m2 (List.mem_of_getElem? (i := 66) (by decide +kernel))
theorem wd_2_73 : hp_ok (Cond.native ⟨"java/lang/System", "arraycopy", "(Ljava/lang/Object;ILjava/lang/Object;II)V"⟩) := ⟨hp_m2 (List.mem_of_getElem? (i := 73) (by decide +kernel)), rfl⟩
theorem wd_2_106 : Cond.stringRef "HallPhone$Reader" 70 "house" ∈ lw_tbl := hp_m2 (List.mem_of_getElem? (i := 106) (by decide +kernel))
theorem wd_2_123 : Cond.stringRef "HallPhone$Reader" 85 "curious" ∈ lw_tbl := hp_m2 (List.mem_of_getElem? (i := 123) (by decide +kernel))
theorem wd_2_134 : Cond.laysStatic "HallPhone$Verb" "ALL" "[LHallPhone$Verb;" ∈ lw_tbl := hp_m2 (List.mem_of_getElem? (i := 134) (by decide +kernel))
theorem wd_2_153 : Cond.laysStatic "HallPhone$1" "$SwitchMap$HallPhone$Verb" "[I" ∈ lw_tbl := hp_m2 (List.mem_of_getElem? (i := 153) (by decide +kernel))
theorem wd_2_155 : hp_ok (Cond.sameMethod "HallPhone$Verb" "java/lang/Enum" "ordinal" "()I") := ⟨hp_m2 (List.mem_of_getElem? (i := 155) (by decide +kernel)), rfl⟩
theorem wd_3_86 : hp_ok (Cond.methodLink "HallPhoneLaw" 107 ⟨"HallPhone", "append", "(IIIII)I"⟩) := ⟨hp_m3 (List.mem_of_getElem? (i := 86) (by decide +kernel)), rfl⟩
theorem wd_3_94 : hp_ok (Cond.methodLink "HallPhoneLaw" 135 ⟨"HallPhone", "queued", "(I)I"⟩) := ⟨hp_m3 (List.mem_of_getElem? (i := 94) (by decide +kernel)), rfl⟩
theorem wd_3_99 : hp_ok (Cond.methodLink "HallPhoneLaw" 151 ⟨"HallPhone", "mostKnown", "()I"⟩) := ⟨hp_m3 (List.mem_of_getElem? (i := 99) (by decide +kernel)), rfl⟩
theorem wd_3_114 : hp_ok (Cond.constant "java/lang/Integer" 265 (1431655765 : Int32)) := ⟨hp_m3 (List.mem_of_getElem? (i := 114) (by decide +kernel)), rfl⟩
theorem wd_3_115 : hp_ok (Cond.constant "java/lang/Integer" 266 (858993459 : Int32)) := ⟨hp_m3 (List.mem_of_getElem? (i := 115) (by decide +kernel)), rfl⟩
theorem wd_3_116 : hp_ok (Cond.constant "java/lang/Integer" 267 (252645135 : Int32)) := ⟨hp_m3 (List.mem_of_getElem? (i := 116) (by decide +kernel)), rfl⟩
theorem wd_3_117 : hp_ok (Cond.methodLink "HallPhoneLaw" 164 ⟨"HallPhone", "freeIn", "()I"⟩) := ⟨hp_m3 (List.mem_of_getElem? (i := 117) (by decide +kernel)), rfl⟩
theorem wd_3_125 : hp_ok (Cond.methodLink "HallPhoneLaw" 177 ⟨"HallPhone", "bestLimit", "()I"⟩) := ⟨hp_m3 (List.mem_of_getElem? (i := 125) (by decide +kernel)), rfl⟩
theorem wd_3_135 : hp_ok (Cond.methodLink "HallPhoneLaw" 190 ⟨"HallPhone", "meanCall", "()D"⟩) := ⟨hp_m3 (List.mem_of_getElem? (i := 135) (by decide +kernel)), rfl⟩
theorem wd_3_147 : hp_ok (Cond.methodLink "HallPhoneLaw" 195 ⟨"HallPhone", "busyShare", "()F"⟩) := ⟨hp_m3 (List.mem_of_getElem? (i := 147) (by decide +kernel)), rfl⟩
theorem wd_3_151 : hp_ok (Cond.methodLink "HallPhoneLaw" 200 ⟨"HallPhone", "writeHouse", "()I"⟩) := ⟨hp_m3 (List.mem_of_getElem? (i := 151) (by decide +kernel)), rfl⟩
theorem wd_3_159 : hp_ok (Cond.methodLink "java/lang/StringBuilder" 333 ⟨"java/lang/AbstractStringBuilder", "setLength", "(I)V"⟩) := ⟨hp_m3 (List.mem_of_getElem? (i := 159) (by decide +kernel)), rfl⟩
theorem wd_3_164 : hp_ok (Cond.methodLink "java/lang/AbstractStringBuilder" 131 ⟨"java/lang/StringIndexOutOfBoundsException", "<init>", "(I)V"⟩) := ⟨hp_m3 (List.mem_of_getElem? (i := 164) (by decide +kernel)), rfl⟩
theorem wd_3_169 : Cond.stringRef "java/lang/StringIndexOutOfBoundsException" 13 "String index out of range: " ∈ lw_tbl := hp_m3 (List.mem_of_getElem? (i := 169) (by decide +kernel))
theorem wd_3_174 : hp_ok (Cond.methodLink "java/lang/StringBuilder" 29 ⟨"java/lang/AbstractStringBuilder", "append", "(Ljava/lang/String;)Ljava/lang/AbstractStringBuilder;"⟩) := ⟨hp_m3 (List.mem_of_getElem? (i := 174) (by decide +kernel)), rfl⟩
theorem wd_3_177 : hp_ok (Cond.methodLink "java/lang/AbstractStringBuilder" 204 ⟨"java/lang/AbstractStringBuilder", "appendNull", "()Ljava/lang/AbstractStringBuilder;"⟩) := ⟨hp_m3 (List.mem_of_getElem? (i := 177) (by decide +kernel)), rfl⟩
theorem wd_3_181 : hp_ok (Cond.methodLink "java/lang/AbstractStringBuilder" 100 ⟨"java/lang/AbstractStringBuilder", "ensureCapacityInternal", "(I)V"⟩) := ⟨hp_m3 (List.mem_of_getElem? (i := 181) (by decide +kernel)), rfl⟩
theorem wd_3_185 : hp_ok (Cond.methodLink "java/lang/AbstractStringBuilder" 104 ⟨"java/lang/AbstractStringBuilder", "newCapacity", "(I)I"⟩) := ⟨hp_m3 (List.mem_of_getElem? (i := 185) (by decide +kernel)), rfl⟩
theorem wd_3_189 : hp_ok (Cond.methodLink "java/lang/AbstractStringBuilder" 114 ⟨"jdk/internal/util/ArraysSupport", "newLength", "(III)I"⟩) := ⟨hp_m3 (List.mem_of_getElem? (i := 189) (by decide +kernel)), rfl⟩
theorem wd_3_195 : hp_ok (Cond.constant "jdk/internal/util/ArraysSupport" 200 (2147483639 : Int32)) := ⟨hp_m3 (List.mem_of_getElem? (i := 195) (by decide +kernel)), rfl⟩
theorem wd_3_199 : hp_ok (Cond.constant "java/lang/AbstractStringBuilder" 39 (2147483647 : Int32)) := ⟨hp_m3 (List.mem_of_getElem? (i := 199) (by decide +kernel)), rfl⟩
theorem wd_3_200 : hp_ok (Cond.methodLink "java/lang/AbstractStringBuilder" 108 ⟨"java/util/Arrays", "copyOf", "([BI)[B"⟩) := ⟨hp_m3 (List.mem_of_getElem? (i := 200) (by decide +kernel)), rfl⟩
theorem wd_3_203 : hp_ok (Cond.methodLink "java/util/Arrays" 310 ⟨"[B", "clone", "()Ljava/lang/Object;"⟩) := ⟨hp_m3 (List.mem_of_getElem? (i := 203) (by decide +kernel)), rfl⟩
theorem wd_3_204 : hp_ok (Cond.sameMethod "[B" "java/lang/Object" "clone" "()Ljava/lang/Object;") := ⟨hp_m3 (List.mem_of_getElem? (i := 204) (by decide +kernel)), rfl⟩
theorem wd_3_205 : hp_ok (Cond.native ⟨"java/lang/Object", "clone", "()Ljava/lang/Object;"⟩) := ⟨hp_m3 (List.mem_of_getElem? (i := 205) (by decide +kernel)), rfl⟩
theorem wd_3_210 : hp_ok (Cond.methodLink "java/util/Arrays" 304 ⟨"java/lang/Math", "min", "(II)I"⟩) := ⟨hp_m3 (List.mem_of_getElem? (i := 210) (by decide +kernel)), rfl⟩
theorem wd_3_211 : hp_ok (Cond.methodLink "java/util/Arrays" 150 ⟨"java/lang/System", "arraycopy", "(Ljava/lang/Object;ILjava/lang/Object;II)V"⟩) := ⟨hp_m3 (List.mem_of_getElem? (i := 211) (by decide +kernel)), rfl⟩
theorem wd_3_212 : hp_ok (Cond.methodLink "java/lang/AbstractStringBuilder" 83 ⟨"java/lang/AbstractStringBuilder", "isLatin1", "()Z"⟩) := ⟨hp_m3 (List.mem_of_getElem? (i := 212) (by decide +kernel)), rfl⟩
theorem wd_3_214 : hp_ok (Cond.sameMethod "java/lang/AbstractStringBuilder" "java/lang/AbstractStringBuilder" "isLatin1" "()Z") := ⟨hp_m3 (List.mem_of_getElem? (i := 214) (by decide +kernel)), rfl⟩
theorem wd_3_217 : hp_ok (Cond.methodLink "java/lang/AbstractStringBuilder" 226 ⟨"java/lang/StringUTF16", "putCharsAt", "([BICCCC)I"⟩) := ⟨hp_m3 (List.mem_of_getElem? (i := 217) (by decide +kernel)), rfl⟩
theorem wd_3_220 : hp_ok (Cond.methodLink "java/lang/StringUTF16" 96 ⟨"java/lang/StringUTF16", "checkBoundsBeginEnd", "(II[B)V"⟩) := ⟨hp_m3 (List.mem_of_getElem? (i := 220) (by decide +kernel)), rfl⟩
theorem wd_3_223 : hp_ok (Cond.methodLink "java/lang/StringUTF16" 241 ⟨"java/lang/String", "checkBoundsBeginEnd", "(III)V"⟩) := ⟨hp_m3 (List.mem_of_getElem? (i := 223) (by decide +kernel)), rfl⟩
theorem wd_3_226 : hp_ok (Cond.methodLink "java/lang/String" 1062 ⟨"jdk/internal/util/Preconditions", "checkFromToIndex", "(IIILjava/util/function/BiFunction;)I"⟩) := ⟨hp_m3 (List.mem_of_getElem? (i := 226) (by decide +kernel)), rfl⟩
theorem wd_3_229 : hp_ok (Cond.methodLink "java/lang/StringUTF16" 111 ⟨"java/lang/StringUTF16", "putChar", "([BII)V"⟩) := ⟨hp_m3 (List.mem_of_getElem? (i := 229) (by decide +kernel)), rfl⟩
theorem wd_3_232 : hp_ok (Cond.methodLink "java/lang/AbstractStringBuilder" 32 ⟨"java/lang/String", "length", "()I"⟩) := ⟨hp_m3 (List.mem_of_getElem? (i := 232) (by decide +kernel)), rfl⟩
theorem wd_3_233 : hp_ok (Cond.methodLink "java/lang/AbstractStringBuilder" 208 ⟨"java/lang/AbstractStringBuilder", "putStringAt", "(ILjava/lang/String;)V"⟩) := ⟨hp_m3 (List.mem_of_getElem? (i := 233) (by decide +kernel)), rfl⟩
theorem wd_3_237 : hp_ok (Cond.methodLink "java/lang/AbstractStringBuilder" 397 ⟨"java/lang/AbstractStringBuilder", "inflateIfNeededFor", "(Ljava/lang/String;)V"⟩) := ⟨hp_m3 (List.mem_of_getElem? (i := 237) (by decide +kernel)), rfl⟩
theorem wd_4_1 : hp_ok (Cond.methodLink "java/lang/AbstractStringBuilder" 40 ⟨"java/lang/String", "coder", "()B"⟩) := ⟨hp_m4 (List.mem_of_getElem? (i := 1) (by decide +kernel)), rfl⟩
theorem wd_4_2 : hp_ok (Cond.methodLink "java/lang/AbstractStringBuilder" 195 ⟨"java/lang/AbstractStringBuilder", "inflate", "()V"⟩) := ⟨hp_m4 (List.mem_of_getElem? (i := 2) (by decide +kernel)), rfl⟩
theorem wd_4_6 : hp_ok (Cond.methodLink "java/lang/AbstractStringBuilder" 125 ⟨"java/lang/StringLatin1", "inflate", "([BI[BII)V"⟩) := ⟨hp_m4 (List.mem_of_getElem? (i := 6) (by decide +kernel)), rfl⟩
theorem wd_4_9 : hp_ok (Cond.methodLink "java/lang/StringLatin1" 240 ⟨"java/lang/StringUTF16", "inflate", "([BI[BII)V"⟩) := ⟨hp_m4 (List.mem_of_getElem? (i := 9) (by decide +kernel)), rfl⟩
theorem wd_4_12 : hp_ok (Cond.methodLink "java/lang/StringUTF16" 173 ⟨"java/lang/StringUTF16", "checkBoundsOffCount", "(II[B)V"⟩) := ⟨hp_m4 (List.mem_of_getElem? (i := 12) (by decide +kernel)), rfl⟩
theorem wd_4_15 : hp_ok (Cond.methodLink "java/lang/StringUTF16" 419 ⟨"java/lang/String", "checkBoundsOffCount", "(III)I"⟩) := ⟨hp_m4 (List.mem_of_getElem? (i := 15) (by decide +kernel)), rfl⟩
theorem wd_4_18 : hp_ok (Cond.methodLink "java/lang/String" 1065 ⟨"jdk/internal/util/Preconditions", "checkFromIndexSize", "(IIILjava/util/function/BiFunction;)I"⟩) := ⟨hp_m4 (List.mem_of_getElem? (i := 18) (by decide +kernel)), rfl⟩
theorem wd_4_21 : hp_ok (Cond.methodLink "java/lang/AbstractStringBuilder" 399 ⟨"java/lang/String", "getBytes", "([BIB)V"⟩) := ⟨hp_m4 (List.mem_of_getElem? (i := 21) (by decide +kernel)), rfl⟩
theorem wd_4_25 : hp_ok (Cond.methodLink "java/lang/String" 212 ⟨"java/lang/System", "arraycopy", "(Ljava/lang/Object;ILjava/lang/Object;II)V"⟩) := ⟨hp_m4 (List.mem_of_getElem? (i := 25) (by decide +kernel)), rfl⟩
theorem wd_4_26 : hp_ok (Cond.methodLink "java/lang/String" 106 ⟨"java/lang/StringLatin1", "inflate", "([BI[BII)V"⟩) := ⟨hp_m4 (List.mem_of_getElem? (i := 26) (by decide +kernel)), rfl⟩
theorem wd_4_31 : hp_ok (Cond.methodLink "java/lang/StringBuilder" 53 ⟨"java/lang/AbstractStringBuilder", "append", "(I)Ljava/lang/AbstractStringBuilder;"⟩) := ⟨hp_m4 (List.mem_of_getElem? (i := 31) (by decide +kernel)), rfl⟩
theorem wd_4_34 : hp_ok (Cond.methodLink "java/lang/AbstractStringBuilder" 245 ⟨"java/lang/Integer", "stringSize", "(I)I"⟩) := ⟨hp_m4 (List.mem_of_getElem? (i := 34) (by decide +kernel)), rfl⟩
theorem wd_4_37 : hp_ok (Cond.methodLink "java/lang/AbstractStringBuilder" 248 ⟨"java/lang/Integer", "getChars", "(II[B)I"⟩) := ⟨hp_m4 (List.mem_of_getElem? (i := 37) (by decide +kernel)), rfl⟩
theorem wd_4_40 : hp_ok (Cond.fieldLink "java/lang/Integer" 83 "java/lang/Integer" "DigitOnes" "[B") := ⟨hp_m4 (List.mem_of_getElem? (i := 40) (by decide +kernel)), rfl⟩
theorem wd_4_41 : Cond.laysStatic "java/lang/Integer" "DigitOnes" "[B" ∈ lw_tbl := hp_m4 (List.mem_of_getElem? (i := 41) (by decide +kernel))
theorem wd_4_42 : hp_ok (Cond.fieldLink "java/lang/Integer" 87 "java/lang/Integer" "DigitTens" "[B") := ⟨hp_m4 (List.mem_of_getElem? (i := 42) (by decide +kernel)), rfl⟩
theorem wd_4_43 : Cond.laysStatic "java/lang/Integer" "DigitTens" "[B" ∈ lw_tbl := hp_m4 (List.mem_of_getElem? (i := 43) (by decide +kernel))
theorem wd_4_44 : hp_ok (Cond.methodLink "java/lang/AbstractStringBuilder" 251 ⟨"java/lang/StringUTF16", "getChars", "(III[B)I"⟩) := ⟨hp_m4 (List.mem_of_getElem? (i := 44) (by decide +kernel)), rfl⟩
theorem wd_4_47 : hp_ok (Cond.methodLink "java/lang/StringUTF16" 393 ⟨"java/lang/StringUTF16", "getChars", "(II[B)I"⟩) := ⟨hp_m4 (List.mem_of_getElem? (i := 47) (by decide +kernel)), rfl⟩
theorem wd_4_50 : hp_ok (Cond.fieldLink "java/lang/StringUTF16" 403 "java/lang/Integer" "DigitOnes" "[B") := ⟨hp_m4 (List.mem_of_getElem? (i := 50) (by decide +kernel)), rfl⟩
theorem wd_4_51 : hp_ok (Cond.fieldLink "java/lang/StringUTF16" 407 "java/lang/Integer" "DigitTens" "[B") := ⟨hp_m4 (List.mem_of_getElem? (i := 51) (by decide +kernel)), rfl⟩
theorem wd_4_58 : hp_ok (Cond.methodLink "java/lang/StringBuilder" 137 ⟨"java/lang/String", "<init>", "(Ljava/lang/StringBuilder;)V"⟩) := ⟨hp_m4 (List.mem_of_getElem? (i := 58) (by decide +kernel)), rfl⟩
theorem wd_4_61 : hp_ok (Cond.methodLink "java/lang/String" 489 ⟨"java/lang/String", "<init>", "(Ljava/lang/AbstractStringBuilder;Ljava/lang/Void;)V"⟩) := ⟨hp_m4 (List.mem_of_getElem? (i := 61) (by decide +kernel)), rfl⟩
theorem wd_4_64 : hp_ok (Cond.methodLink "java/lang/String" 1 ⟨"java/lang/Object", "<init>", "()V"⟩) := ⟨hp_m4 (List.mem_of_getElem? (i := 64) (by decide +kernel)), rfl⟩
theorem wd_4_65 : hp_ok (Cond.methodLink "java/lang/String" 552 ⟨"java/lang/AbstractStringBuilder", "getValue", "()[B"⟩) := ⟨hp_m4 (List.mem_of_getElem? (i := 65) (by decide +kernel)), rfl⟩
theorem wd_4_67 : hp_ok (Cond.sameMethod "java/lang/AbstractStringBuilder" "java/lang/AbstractStringBuilder" "getValue" "()[B") := ⟨hp_m4 (List.mem_of_getElem? (i := 67) (by decide +kernel)), rfl⟩
theorem wd_4_70 : hp_ok (Cond.methodLink "java/lang/String" 549 ⟨"java/lang/AbstractStringBuilder", "length", "()I"⟩) := ⟨hp_m4 (List.mem_of_getElem? (i := 70) (by decide +kernel)), rfl⟩
theorem wd_4_72 : hp_ok (Cond.sameMethod "java/lang/AbstractStringBuilder" "java/lang/AbstractStringBuilder" "length" "()I") := ⟨hp_m4 (List.mem_of_getElem? (i := 72) (by decide +kernel)), rfl⟩
theorem wd_4_76 : hp_ok (Cond.methodLink "java/lang/StringBuilder" 343 ⟨"java/lang/AbstractStringBuilder", "length", "()I"⟩) := ⟨hp_m4 (List.mem_of_getElem? (i := 76) (by decide +kernel)), rfl⟩
theorem wd_4_78 : hp_ok (Cond.methodLink "java/lang/String" 1047 ⟨"java/lang/AbstractStringBuilder", "isLatin1", "()Z"⟩) := ⟨hp_m4 (List.mem_of_getElem? (i := 78) (by decide +kernel)), rfl⟩
theorem wd_4_79 : hp_ok (Cond.methodLink "java/lang/String" 54 ⟨"java/util/Arrays", "copyOfRange", "([BII)[B"⟩) := ⟨hp_m4 (List.mem_of_getElem? (i := 79) (by decide +kernel)), rfl⟩
theorem wd_4_82 : hp_ok (Cond.methodLink "java/util/Arrays" 339 ⟨"java/util/Arrays", "copyOfRangeByte", "([BII)[B"⟩) := ⟨hp_m4 (List.mem_of_getElem? (i := 82) (by decide +kernel)), rfl⟩
theorem wd_4_85 : hp_ok (Cond.methodLink "java/util/Arrays" 343 ⟨"java/util/Arrays", "checkLength", "(II)V"⟩) := ⟨hp_m4 (List.mem_of_getElem? (i := 85) (by decide +kernel)), rfl⟩
theorem wd_4_115 : Cond.laysStatic "java/lang/Throwable" "UNASSIGNED_STACK" "[Ljava/lang/StackTraceElement;" ∈ lw_tbl := hp_m4 (List.mem_of_getElem? (i := 115) (by decide +kernel))
theorem wd_4_117 : Cond.laysStatic "java/lang/Throwable" "SUPPRESSED_SENTINEL" "Ljava/util/List;" ∈ lw_tbl := hp_m4 (List.mem_of_getElem? (i := 117) (by decide +kernel))
theorem wd_4_120 : hp_ok (Cond.sameMethod "java/lang/Throwable" "java/lang/Throwable" "fillInStackTrace" "()Ljava/lang/Throwable;") := ⟨hp_m4 (List.mem_of_getElem? (i := 120) (by decide +kernel)), rfl⟩
theorem wd_4_130 : hp_ok (Cond.native ⟨"java/lang/Throwable", "fillInStackTrace", "(I)Ljava/lang/Throwable;"⟩) := ⟨hp_m4 (List.mem_of_getElem? (i := 130) (by decide +kernel)), rfl⟩
theorem wd_4_132 : hp_ok (Cond.methodLink "java/util/Arrays" 47 ⟨"java/lang/StringBuilder", "<init>", "()V"⟩) := ⟨hp_m4 (List.mem_of_getElem? (i := 132) (by decide +kernel)), rfl⟩
theorem wd_4_133 : hp_ok (Cond.methodLink "java/util/Arrays" 54 ⟨"java/lang/StringBuilder", "append", "(I)Ljava/lang/StringBuilder;"⟩) := ⟨hp_m4 (List.mem_of_getElem? (i := 133) (by decide +kernel)), rfl⟩
theorem wd_4_134 : Cond.stringRef "java/util/Arrays" 337 " > " ∈ lw_tbl := hp_m4 (List.mem_of_getElem? (i := 134) (by decide +kernel))
theorem wd_4_135 : hp_ok (Cond.methodLink "java/util/Arrays" 50 ⟨"java/lang/StringBuilder", "append", "(Ljava/lang/String;)Ljava/lang/StringBuilder;"⟩) := ⟨hp_m4 (List.mem_of_getElem? (i := 135) (by decide +kernel)), rfl⟩
theorem wd_4_136 : hp_ok (Cond.methodLink "java/util/Arrays" 61 ⟨"java/lang/StringBuilder", "toString", "()Ljava/lang/String;"⟩) := ⟨hp_m4 (List.mem_of_getElem? (i := 136) (by decide +kernel)), rfl⟩
theorem wd_4_137 : hp_ok (Cond.methodLink "java/util/Arrays" 65 ⟨"java/lang/IllegalArgumentException", "<init>", "(Ljava/lang/String;)V"⟩) := ⟨hp_m4 (List.mem_of_getElem? (i := 137) (by decide +kernel)), rfl⟩
theorem wd_4_162 : hp_ok (Cond.methodLink "java/lang/String" 1051 ⟨"java/lang/StringUTF16", "compress", "([BII)[B"⟩) := ⟨hp_m4 (List.mem_of_getElem? (i := 162) (by decide +kernel)), rfl⟩
theorem wd_4_165 : hp_ok (Cond.methodLink "java/lang/StringUTF16" 123 ⟨"java/lang/StringUTF16", "compress", "([BI[BII)I"⟩) := ⟨hp_m4 (List.mem_of_getElem? (i := 165) (by decide +kernel)), rfl⟩
theorem wd_4_168 : hp_ok (Cond.methodLink "java/lang/StringUTF16" 126 ⟨"java/util/Arrays", "copyOfRange", "([BII)[B"⟩) := ⟨hp_m4 (List.mem_of_getElem? (i := 168) (by decide +kernel)), rfl⟩
theorem wd_4_169 : hp_ok (Cond.methodLink "java/lang/String" 47 ⟨"java/lang/StringUTF16", "coderFromArrayLen", "([BI)B"⟩) := ⟨hp_m4 (List.mem_of_getElem? (i := 169) (by decide +kernel)), rfl⟩
theorem wd_4_172 : hp_ok (Cond.fieldLink "java/lang/String" 9 "java/lang/String" "value" "[B") := ⟨hp_m4 (List.mem_of_getElem? (i := 172) (by decide +kernel)), rfl⟩
theorem wd_4_173 : hp_ok (Cond.fieldLink "java/lang/String" 15 "java/lang/String" "coder" "B") := ⟨hp_m4 (List.mem_of_getElem? (i := 173) (by decide +kernel)), rfl⟩
theorem wd_4_194 : hp_ok (Cond.methodLink "java/lang/AbstractStringBuilder" 133 ⟨"java/lang/StringLatin1", "fillNull", "([BII)V"⟩) := ⟨hp_m4 (List.mem_of_getElem? (i := 194) (by decide +kernel)), rfl⟩
theorem wd_4_197 : hp_ok (Cond.methodLink "java/lang/StringLatin1" 236 ⟨"java/util/Arrays", "fill", "([BIIB)V"⟩) := ⟨hp_m4 (List.mem_of_getElem? (i := 197) (by decide +kernel)), rfl⟩
theorem wd_4_200 : hp_ok (Cond.methodLink "java/util/Arrays" 13 ⟨"java/util/Arrays", "rangeCheck", "(III)V"⟩) := ⟨hp_m4 (List.mem_of_getElem? (i := 200) (by decide +kernel)), rfl⟩
theorem wd_4_203 : Cond.stringRef "java/util/Arrays" 48 "fromIndex(" ∈ lw_tbl := hp_m4 (List.mem_of_getElem? (i := 203) (by decide +kernel))
theorem wd_4_204 : Cond.stringRef "java/util/Arrays" 57 ") > toIndex(" ∈ lw_tbl := hp_m4 (List.mem_of_getElem? (i := 204) (by decide +kernel))
theorem wd_4_205 : Cond.stringRef "java/util/Arrays" 59 ")" ∈ lw_tbl := hp_m4 (List.mem_of_getElem? (i := 205) (by decide +kernel))
theorem wd_4_217 : hp_ok (Cond.methodLink "java/util/Arrays" 70 ⟨"java/lang/ArrayIndexOutOfBoundsException", "<init>", "(I)V"⟩) := ⟨hp_m4 (List.mem_of_getElem? (i := 217) (by decide +kernel)), rfl⟩
theorem wd_4_222 : Cond.stringRef "java/lang/ArrayIndexOutOfBoundsException" 13 "Array index out of range: " ∈ lw_tbl := hp_m4 (List.mem_of_getElem? (i := 222) (by decide +kernel))
theorem wd_4_229 : hp_ok (Cond.methodLink "java/lang/AbstractStringBuilder" 137 ⟨"java/lang/StringUTF16", "fillNull", "([BII)V"⟩) := ⟨hp_m4 (List.mem_of_getElem? (i := 229) (by decide +kernel)), rfl⟩
theorem wd_4_232 : hp_ok (Cond.methodLink "java/lang/StringUTF16" 380 ⟨"java/util/Arrays", "fill", "([BIIB)V"⟩) := ⟨hp_m4 (List.mem_of_getElem? (i := 232) (by decide +kernel)), rfl⟩
theorem wd_4_237 : hp_ok (Cond.methodLink "java/lang/StringBuilder" 50 ⟨"java/lang/AbstractStringBuilder", "append", "(C)Ljava/lang/AbstractStringBuilder;"⟩) := ⟨hp_m4 (List.mem_of_getElem? (i := 237) (by decide +kernel)), rfl⟩
theorem wd_5_0 : hp_ok (Cond.methodLink "java/lang/AbstractStringBuilder" 191 ⟨"java/lang/StringLatin1", "canEncode", "(C)Z"⟩) := ⟨hp_m5 (List.mem_of_getElem? (i := 0) (by decide +kernel)), rfl⟩
theorem wd_5_3 : hp_ok (Cond.methodLink "java/lang/AbstractStringBuilder" 197 ⟨"java/lang/StringUTF16", "putCharSB", "([BII)V"⟩) := ⟨hp_m5 (List.mem_of_getElem? (i := 3) (by decide +kernel)), rfl⟩
theorem wd_5_17 : hp_ok (Cond.methodLink "HallPhoneLaw" 204 ⟨"HallPhone", "writeSlate", "()I"⟩) := ⟨hp_m5 (List.mem_of_getElem? (i := 17) (by decide +kernel)), rfl⟩
theorem wd_5_29 : hp_ok (Cond.methodLink "HallPhoneLaw" 208 ⟨"HallPhone", "reportAt", "(I)C"⟩) := ⟨hp_m5 (List.mem_of_getElem? (i := 29) (by decide +kernel)), rfl⟩
theorem wd_5_37 : hp_ok (Cond.methodLink "java/lang/StringBuilder" 329 ⟨"java/lang/AbstractStringBuilder", "charAt", "(I)C"⟩) := ⟨hp_m5 (List.mem_of_getElem? (i := 37) (by decide +kernel)), rfl⟩
theorem wd_5_40 : hp_ok (Cond.methodLink "java/lang/AbstractStringBuilder" 138 ⟨"java/lang/Math", "min", "(II)I"⟩) := ⟨hp_m5 (List.mem_of_getElem? (i := 40) (by decide +kernel)), rfl⟩
theorem wd_5_41 : hp_ok (Cond.methodLink "java/lang/AbstractStringBuilder" 144 ⟨"java/lang/String", "checkIndex", "(II)V"⟩) := ⟨hp_m5 (List.mem_of_getElem? (i := 41) (by decide +kernel)), rfl⟩
theorem wd_5_42 : hp_ok (Cond.methodLink "java/lang/AbstractStringBuilder" 148 ⟨"java/lang/StringUTF16", "getChar", "([BI)C"⟩) := ⟨hp_m5 (List.mem_of_getElem? (i := 42) (by decide +kernel)), rfl⟩
theorem wd_5_43 : hp_ok (Cond.methodLink "HallPhoneLaw" 238 ⟨"HallPhone", "undo", "()I"⟩) := ⟨hp_m5 (List.mem_of_getElem? (i := 43) (by decide +kernel)), rfl⟩
theorem wd_5_52 : hp_ok (Cond.methodLink "HallPhoneLaw" 248 ⟨"HallPhone", "checksum", "()J"⟩) := ⟨hp_m5 (List.mem_of_getElem? (i := 52) (by decide +kernel)), rfl⟩
theorem wd_5_78 : hp_ok (Cond.methodLink "HallPhoneLaw" 112 ⟨"HallPhoneLaw", "parse", "(LHallPhone;I[J)I"⟩) := ⟨hp_m5 (List.mem_of_getElem? (i := 78) (by decide +kernel)), rfl⟩
theorem wd_5_82 : hp_ok (Cond.methodLink "HallPhoneLaw" 7 ⟨"HallPhone", "parse", "(I)I"⟩) := ⟨hp_m5 (List.mem_of_getElem? (i := 82) (by decide +kernel)), rfl⟩
theorem wd_5_90 : Cond.stringRef "HallPhone" 295 "out of range" ∈ lw_tbl := hp_m5 (List.mem_of_getElem? (i := 90) (by decide +kernel))
theorem wd_5_97 : hp_ok (Cond.methodLink "HallPhoneLaw" 122 ⟨"HallPhoneLaw", "load", "(LHallPhone;I[J)I"⟩) := ⟨hp_m5 (List.mem_of_getElem? (i := 97) (by decide +kernel)), rfl⟩
theorem wd_5_100 : hp_ok (Cond.methodLink "HallPhoneLaw" 15 ⟨"HallPhone", "load", "(I)I"⟩) := ⟨hp_m5 (List.mem_of_getElem? (i := 100) (by decide +kernel)), rfl⟩
theorem wd_5_104 : Cond.stringRef "HallPhone" 79 "house 1 curious 1 curious 5 0; unit 2; rate 10; secret 3; patience 2; want 2 9; ring 1 4; pass 8; want 3 30; pass 2; limit 6; pass 3; hang 3; ring 2 3; ring 3 5; pass 1; pay 2 12;" ∈ lw_tbl := hp_m5 (List.mem_of_getElem? (i := 104) (by decide +kernel))
theorem wd_5_105 : Cond.stringRef "HallPhone" 81 "house 9; rate 0; ear 0; patience 0; want 0 99; pass 20;" ∈ lw_tbl := hp_m5 (List.mem_of_getElem? (i := 105) (by decide +kernel))
theorem wd_5_106 : hp_ok (Cond.methodLink "HallPhoneLaw" 125 ⟨"HallPhoneLaw", "size", "(LHallPhone;I[J)I"⟩) := ⟨hp_m5 (List.mem_of_getElem? (i := 106) (by decide +kernel)), rfl⟩
theorem wd_5_109 : hp_ok (Cond.methodLink "HallPhoneLaw" 18 ⟨"HallPhone", "size", "(I)I"⟩) := ⟨hp_m5 (List.mem_of_getElem? (i := 109) (by decide +kernel)), rfl⟩
theorem wd_5_113 : hp_ok (Cond.methodLink "HallPhoneLaw" 128 ⟨"HallPhoneLaw", "setting", "(LHallPhone;I[J)I"⟩) := ⟨hp_m5 (List.mem_of_getElem? (i := 113) (by decide +kernel)), rfl⟩
theorem wd_5_116 : hp_ok (Cond.methodLink "HallPhoneLaw" 21 ⟨"HallPhone", "setting", "(I)I"⟩) := ⟨hp_m5 (List.mem_of_getElem? (i := 116) (by decide +kernel)), rfl⟩
theorem wd_5_120 : hp_ok (Cond.methodLink "HallPhoneLaw" 131 ⟨"HallPhoneLaw", "flat", "(LHallPhone;II[J)I"⟩) := ⟨hp_m5 (List.mem_of_getElem? (i := 120) (by decide +kernel)), rfl⟩
theorem wd_5_124 : hp_ok (Cond.methodLink "HallPhoneLaw" 24 ⟨"HallPhone", "flat", "(II)I"⟩) := ⟨hp_m5 (List.mem_of_getElem? (i := 124) (by decide +kernel)), rfl⟩
theorem wd_5_141 : Cond.stringRef "HallPhone" 292 "no such flat" ∈ lw_tbl := hp_m5 (List.mem_of_getElem? (i := 141) (by decide +kernel))
theorem wd_5_145 : hp_ok (Cond.methodLink "HallPhoneLaw" 139 ⟨"HallPhoneLaw", "message", "(LHallPhone;II[J)I"⟩) := ⟨hp_m5 (List.mem_of_getElem? (i := 145) (by decide +kernel)), rfl⟩
theorem wd_5_149 : hp_ok (Cond.methodLink "HallPhoneLaw" 30 ⟨"HallPhone", "message", "(II)I"⟩) := ⟨hp_m5 (List.mem_of_getElem? (i := 149) (by decide +kernel)), rfl⟩
theorem wd_5_162 : Cond.stringRef "HallPhone" 122 "no such message" ∈ lw_tbl := hp_m5 (List.mem_of_getElem? (i := 162) (by decide +kernel))
theorem wd_5_169 : hp_ok (Cond.methodLink "HallPhoneLaw" 142 ⟨"HallPhoneLaw", "heard", "(LHallPhone;II[J)I"⟩) := ⟨hp_m5 (List.mem_of_getElem? (i := 169) (by decide +kernel)), rfl⟩
theorem wd_5_172 : hp_ok (Cond.methodLink "HallPhoneLaw" 35 ⟨"HallPhone", "heard", "(II)I"⟩) := ⟨hp_m5 (List.mem_of_getElem? (i := 172) (by decide +kernel)), rfl⟩
theorem wd_5_176 : hp_ok (Cond.methodLink "HallPhoneLaw" 145 ⟨"HallPhoneLaw", "knowing", "(LHallPhone;I[J)I"⟩) := ⟨hp_m5 (List.mem_of_getElem? (i := 176) (by decide +kernel)), rfl⟩
theorem wd_5_179 : hp_ok (Cond.methodLink "HallPhoneLaw" 38 ⟨"HallPhone", "knowing", "(I)I"⟩) := ⟨hp_m5 (List.mem_of_getElem? (i := 179) (by decide +kernel)), rfl⟩
theorem wd_5_183 : hp_ok (Cond.methodLink "HallPhoneLaw" 148 ⟨"HallPhoneLaw", "listening", "(LHallPhone;I[J)I"⟩) := ⟨hp_m5 (List.mem_of_getElem? (i := 183) (by decide +kernel)), rfl⟩
theorem wd_5_186 : hp_ok (Cond.methodLink "HallPhoneLaw" 41 ⟨"HallPhone", "listening", "(I)I"⟩) := ⟨hp_m5 (List.mem_of_getElem? (i := 186) (by decide +kernel)), rfl⟩
theorem wd_5_194 : hp_ok (Cond.methodLink "HallPhoneLaw" 155 ⟨"HallPhoneLaw", "cost", "(LHallPhone;I[J)I"⟩) := ⟨hp_m5 (List.mem_of_getElem? (i := 194) (by decide +kernel)), rfl⟩
theorem wd_5_197 : hp_ok (Cond.methodLink "HallPhoneLaw" 44 ⟨"HallPhone", "cost", "(I)I"⟩) := ⟨hp_m5 (List.mem_of_getElem? (i := 197) (by decide +kernel)), rfl⟩
theorem wd_5_202 : hp_ok (Cond.methodLink "HallPhoneLaw" 158 ⟨"HallPhoneLaw", "why", "(LHallPhone;II[J)I"⟩) := ⟨hp_m5 (List.mem_of_getElem? (i := 202) (by decide +kernel)), rfl⟩
theorem wd_5_205 : hp_ok (Cond.methodLink "HallPhoneLaw" 47 ⟨"HallPhone", "why", "(II)I"⟩) := ⟨hp_m5 (List.mem_of_getElem? (i := 205) (by decide +kernel)), rfl⟩
theorem wd_5_217 : hp_ok (Cond.methodLink "HallPhoneLaw" 161 ⟨"HallPhoneLaw", "speaksIn", "(LHallPhone;I[J)I"⟩) := ⟨hp_m5 (List.mem_of_getElem? (i := 217) (by decide +kernel)), rfl⟩
theorem wd_5_220 : hp_ok (Cond.methodLink "HallPhoneLaw" 50 ⟨"HallPhone", "speaksIn", "(I)I"⟩) := ⟨hp_m5 (List.mem_of_getElem? (i := 220) (by decide +kernel)), rfl⟩
theorem wd_5_228 : hp_ok (Cond.methodLink "HallPhoneLaw" 168 ⟨"HallPhoneLaw", "flatIn", "(LHallPhone;II[J)I"⟩) := ⟨hp_m5 (List.mem_of_getElem? (i := 228) (by decide +kernel)), rfl⟩
theorem wd_5_231 : hp_ok (Cond.methodLink "HallPhoneLaw" 53 ⟨"HallPhone", "flatIn", "(II)I"⟩) := ⟨hp_m5 (List.mem_of_getElem? (i := 231) (by decide +kernel)), rfl⟩
theorem wd_6_0 : hp_ok (Cond.methodLink "HallPhoneLaw" 171 ⟨"HallPhoneLaw", "debtIn", "(LHallPhone;II[J)I"⟩) := ⟨hp_m6 (List.mem_of_getElem? (i := 0) (by decide +kernel)), rfl⟩
theorem wd_6_3 : hp_ok (Cond.methodLink "HallPhoneLaw" 56 ⟨"HallPhone", "debtIn", "(II)I"⟩) := ⟨hp_m6 (List.mem_of_getElem? (i := 3) (by decide +kernel)), rfl⟩
theorem wd_6_7 : hp_ok (Cond.methodLink "HallPhoneLaw" 174 ⟨"HallPhoneLaw", "waitIf", "(LHallPhone;I[J)I"⟩) := ⟨hp_m6 (List.mem_of_getElem? (i := 7) (by decide +kernel)), rfl⟩
theorem wd_6_10 : hp_ok (Cond.methodLink "HallPhoneLaw" 59 ⟨"HallPhone", "waitIf", "(I)I"⟩) := ⟨hp_m6 (List.mem_of_getElem? (i := 10) (by decide +kernel)), rfl⟩
theorem wd_6_15 : Cond.laysStatic "HallPhone$Verb" "WANT" "LHallPhone$Verb;" ∈ lw_tbl := hp_m6 (List.mem_of_getElem? (i := 15) (by decide +kernel))
theorem wd_6_16 : hp_ok (Cond.methodLink "HallPhoneLaw" 181 ⟨"HallPhoneLaw", "learnsIn", "(LHallPhone;II[J)I"⟩) := ⟨hp_m6 (List.mem_of_getElem? (i := 16) (by decide +kernel)), rfl⟩
theorem wd_6_19 : hp_ok (Cond.methodLink "HallPhoneLaw" 62 ⟨"HallPhone", "learnsIn", "(II)I"⟩) := ⟨hp_m6 (List.mem_of_getElem? (i := 19) (by decide +kernel)), rfl⟩
theorem wd_6_27 : hp_ok (Cond.methodLink "HallPhoneLaw" 184 ⟨"HallPhoneLaw", "ifRung", "(LHallPhone;I[J)I"⟩) := ⟨hp_m6 (List.mem_of_getElem? (i := 27) (by decide +kernel)), rfl⟩
theorem wd_6_30 : hp_ok (Cond.methodLink "HallPhoneLaw" 65 ⟨"HallPhone", "ifRung", "(I)I"⟩) := ⟨hp_m6 (List.mem_of_getElem? (i := 30) (by decide +kernel)), rfl⟩
theorem wd_6_35 : Cond.laysStatic "HallPhone$Verb" "RING" "LHallPhone$Verb;" ∈ lw_tbl := hp_m6 (List.mem_of_getElem? (i := 35) (by decide +kernel))
theorem wd_6_37 : hp_ok (Cond.methodLink "HallPhoneLaw" 187 ⟨"HallPhoneLaw", "account", "(LHallPhone;I[J)I"⟩) := ⟨hp_m6 (List.mem_of_getElem? (i := 37) (by decide +kernel)), rfl⟩
theorem wd_6_40 : hp_ok (Cond.methodLink "HallPhoneLaw" 68 ⟨"HallPhone", "account", "(I)I"⟩) := ⟨hp_m6 (List.mem_of_getElem? (i := 40) (by decide +kernel)), rfl⟩
theorem wd_6_44 : hp_ok (Cond.methodLink "HallPhoneLaw" 213 ⟨"HallPhoneLaw", "want", "(LHallPhone;II[J)I"⟩) := ⟨hp_m6 (List.mem_of_getElem? (i := 44) (by decide +kernel)), rfl⟩
theorem wd_6_47 : hp_ok (Cond.methodLink "HallPhoneLaw" 71 ⟨"HallPhone", "want", "(II)I"⟩) := ⟨hp_m6 (List.mem_of_getElem? (i := 47) (by decide +kernel)), rfl⟩
theorem wd_6_60 : hp_ok (Cond.methodLink "HallPhoneLaw" 216 ⟨"HallPhoneLaw", "drop", "(LHallPhone;I[J)I"⟩) := ⟨hp_m6 (List.mem_of_getElem? (i := 60) (by decide +kernel)), rfl⟩
theorem wd_6_63 : hp_ok (Cond.methodLink "HallPhoneLaw" 74 ⟨"HallPhone", "drop", "(I)I"⟩) := ⟨hp_m6 (List.mem_of_getElem? (i := 63) (by decide +kernel)), rfl⟩
theorem wd_6_68 : Cond.laysStatic "HallPhone$Verb" "DROP" "LHallPhone$Verb;" ∈ lw_tbl := hp_m6 (List.mem_of_getElem? (i := 68) (by decide +kernel))
theorem wd_6_69 : hp_ok (Cond.methodLink "HallPhoneLaw" 219 ⟨"HallPhoneLaw", "hang", "(LHallPhone;I[J)I"⟩) := ⟨hp_m6 (List.mem_of_getElem? (i := 69) (by decide +kernel)), rfl⟩
theorem wd_6_72 : hp_ok (Cond.methodLink "HallPhoneLaw" 77 ⟨"HallPhone", "hang", "(I)I"⟩) := ⟨hp_m6 (List.mem_of_getElem? (i := 72) (by decide +kernel)), rfl⟩
theorem wd_6_77 : Cond.laysStatic "HallPhone$Verb" "HANG" "LHallPhone$Verb;" ∈ lw_tbl := hp_m6 (List.mem_of_getElem? (i := 77) (by decide +kernel))
theorem wd_6_78 : hp_ok (Cond.methodLink "HallPhoneLaw" 222 ⟨"HallPhoneLaw", "ring", "(LHallPhone;II[J)I"⟩) := ⟨hp_m6 (List.mem_of_getElem? (i := 78) (by decide +kernel)), rfl⟩
theorem wd_6_81 : hp_ok (Cond.methodLink "HallPhoneLaw" 80 ⟨"HallPhone", "ring", "(II)I"⟩) := ⟨hp_m6 (List.mem_of_getElem? (i := 81) (by decide +kernel)), rfl⟩
theorem wd_6_85 : hp_ok (Cond.methodLink "HallPhoneLaw" 225 ⟨"HallPhoneLaw", "pay", "(LHallPhone;II[J)I"⟩) := ⟨hp_m6 (List.mem_of_getElem? (i := 85) (by decide +kernel)), rfl⟩
theorem wd_6_88 : hp_ok (Cond.methodLink "HallPhoneLaw" 83 ⟨"HallPhone", "pay", "(II)I"⟩) := ⟨hp_m6 (List.mem_of_getElem? (i := 88) (by decide +kernel)), rfl⟩
theorem wd_6_93 : Cond.laysStatic "HallPhone$Verb" "PAY" "LHallPhone$Verb;" ∈ lw_tbl := hp_m6 (List.mem_of_getElem? (i := 93) (by decide +kernel))
theorem wd_6_94 : hp_ok (Cond.methodLink "HallPhoneLaw" 228 ⟨"HallPhoneLaw", "setCurious", "(LHallPhone;IZ[J)I"⟩) := ⟨hp_m6 (List.mem_of_getElem? (i := 94) (by decide +kernel)), rfl⟩
theorem wd_6_97 : hp_ok (Cond.methodLink "HallPhoneLaw" 86 ⟨"HallPhone", "setCurious", "(IZ)Z"⟩) := ⟨hp_m6 (List.mem_of_getElem? (i := 97) (by decide +kernel)), rfl⟩
theorem wd_6_102 : hp_ok (Cond.methodLink "HallPhoneLaw" 232 ⟨"HallPhoneLaw", "set", "(LHallPhone;II[J)I"⟩) := ⟨hp_m6 (List.mem_of_getElem? (i := 102) (by decide +kernel)), rfl⟩
theorem wd_6_105 : hp_ok (Cond.methodLink "HallPhoneLaw" 90 ⟨"HallPhone", "set", "(II)I"⟩) := ⟨hp_m6 (List.mem_of_getElem? (i := 105) (by decide +kernel)), rfl⟩
theorem wd_6_113 : Cond.stringRef "HallPhone" 253 "no such setting" ∈ lw_tbl := hp_m6 (List.mem_of_getElem? (i := 113) (by decide +kernel))
theorem wd_6_114 : hp_ok (Cond.methodLink "HallPhoneLaw" 235 ⟨"HallPhoneLaw", "pass", "(LHallPhone;I[J)I"⟩) := ⟨hp_m6 (List.mem_of_getElem? (i := 114) (by decide +kernel)), rfl⟩
theorem wd_6_117 : hp_ok (Cond.methodLink "HallPhoneLaw" 93 ⟨"HallPhone", "pass", "(I)I"⟩) := ⟨hp_m6 (List.mem_of_getElem? (i := 117) (by decide +kernel)), rfl⟩
theorem wd_6_122 : Cond.laysStatic "HallPhone$Verb" "PASS" "LHallPhone$Verb;" ∈ lw_tbl := hp_m6 (List.mem_of_getElem? (i := 122) (by decide +kernel))
theorem wd_6_123 : hp_ok (Cond.methodLink "HallPhoneLaw" 242 ⟨"HallPhoneLaw", "saveSnapshot", "(LHallPhone;I[J)I"⟩) := ⟨hp_m6 (List.mem_of_getElem? (i := 123) (by decide +kernel)), rfl⟩
theorem wd_6_126 : hp_ok (Cond.methodLink "HallPhoneLaw" 96 ⟨"HallPhone", "saveSnapshot", "(I)Z"⟩) := ⟨hp_m6 (List.mem_of_getElem? (i := 126) (by decide +kernel)), rfl⟩
theorem wd_6_138 : hp_ok (Cond.methodLink "HallPhoneLaw" 245 ⟨"HallPhoneLaw", "restoreSnapshot", "(LHallPhone;I[J)I"⟩) := ⟨hp_m6 (List.mem_of_getElem? (i := 138) (by decide +kernel)), rfl⟩
theorem wd_6_141 : hp_ok (Cond.methodLink "HallPhoneLaw" 100 ⟨"HallPhone", "restoreSnapshot", "(I)I"⟩) := ⟨hp_m6 (List.mem_of_getElem? (i := 141) (by decide +kernel)), rfl⟩
theorem wd_6_145 : Cond.stringRef "HallPhone" 276 "the slot is empty" ∈ lw_tbl := hp_m6 (List.mem_of_getElem? (i := 145) (by decide +kernel))
theorem wd_6_148 : hp_ok (Cond.methodLink "HallPhoneLaw" 106 ⟨"HallPhoneModel", "<init>", "()V"⟩) := ⟨hp_m6 (List.mem_of_getElem? (i := 148) (by decide +kernel)), rfl⟩
theorem wd_6_156 : Cond.stringRef "HallPhoneModel" 121 "house 0 curious 1 3 2 curious 4; limit 6; ring 4 5; want 1 8; want 3 4; pass 3; want 0 10;" ∈ lw_tbl := hp_m6 (List.mem_of_getElem? (i := 156) (by decide +kernel))
theorem wd_6_163 : Cond.stringRef "HallPhoneModel" 127 "house 1 curious 1 curious 5 0; unit 2; rate 10; secret 3; patience 2; want 2 9; ring 1 4; pass 8; want 3 30; pass 2; limit 6; " ∈ lw_tbl := hp_m6 (List.mem_of_getElem? (i := 163) (by decide +kernel))
theorem wd_6_164 : Cond.stringRef "HallPhoneModel" 129 "pass 3; hang 3; ring 2 3; ring 3 5; pass 1; pay 2 12;" ∈ lw_tbl := hp_m6 (List.mem_of_getElem? (i := 164) (by decide +kernel))
theorem wd_6_165 : Cond.stringRef "HallPhoneModel" 131 "house 9; rate 0; ear 0; patience 0; want 0 99; pass 20;" ∈ lw_tbl := hp_m6 (List.mem_of_getElem? (i := 165) (by decide +kernel))
theorem wd_6_185 : Cond.stringRef "HallPhoneModel" 170 "house" ∈ lw_tbl := hp_m6 (List.mem_of_getElem? (i := 185) (by decide +kernel))
theorem wd_6_205 : Cond.stringRef "HallPhoneModel" 176 "curious" ∈ lw_tbl := hp_m6 (List.mem_of_getElem? (i := 205) (by decide +kernel))
theorem wd_6_214 : Cond.stringRef "HallPhoneModel" 178 "limit" ∈ lw_tbl := hp_m6 (List.mem_of_getElem? (i := 214) (by decide +kernel))
theorem wd_6_215 : Cond.stringRef "HallPhoneModel" 180 "unit" ∈ lw_tbl := hp_m6 (List.mem_of_getElem? (i := 215) (by decide +kernel))
theorem wd_6_216 : Cond.stringRef "HallPhoneModel" 182 "rate" ∈ lw_tbl := hp_m6 (List.mem_of_getElem? (i := 216) (by decide +kernel))
theorem wd_6_217 : Cond.stringRef "HallPhoneModel" 184 "ear" ∈ lw_tbl := hp_m6 (List.mem_of_getElem? (i := 217) (by decide +kernel))
theorem wd_6_218 : Cond.stringRef "HallPhoneModel" 186 "secret" ∈ lw_tbl := hp_m6 (List.mem_of_getElem? (i := 218) (by decide +kernel))
theorem wd_6_219 : Cond.stringRef "HallPhoneModel" 188 "patience" ∈ lw_tbl := hp_m6 (List.mem_of_getElem? (i := 219) (by decide +kernel))
theorem wd_6_234 : Cond.stringRef "HallPhoneModel" 202 "want" ∈ lw_tbl := hp_m6 (List.mem_of_getElem? (i := 234) (by decide +kernel))
theorem wd_7_15 : Cond.stringRef "HallPhoneModel" 216 "drop" ∈ lw_tbl := hp_m7 (List.mem_of_getElem? (i := 15) (by decide +kernel))
theorem wd_7_32 : Cond.stringRef "HallPhoneModel" 221 "hang" ∈ lw_tbl := hp_m7 (List.mem_of_getElem? (i := 32) (by decide +kernel))
theorem wd_7_57 : Cond.stringRef "HallPhoneModel" 226 "ring" ∈ lw_tbl := hp_m7 (List.mem_of_getElem? (i := 57) (by decide +kernel))
theorem wd_7_70 : Cond.stringRef "HallPhoneModel" 231 "pay" ∈ lw_tbl := hp_m7 (List.mem_of_getElem? (i := 70) (by decide +kernel))
theorem wd_7_75 : Cond.stringRef "HallPhoneModel" 236 "pass" ∈ lw_tbl := hp_m7 (List.mem_of_getElem? (i := 75) (by decide +kernel))
theorem wd_7_165 : hp_ok (Cond.methodLink "HallPhoneLaw" 118 ⟨"HallPhoneModel", "thrown", "()I"⟩) := ⟨hp_m7 (List.mem_of_getElem? (i := 165) (by decide +kernel)), rfl⟩
theorem wd_7_169 : hp_ok (Cond.methodLink "HallPhoneLaw" 111 ⟨"HallPhoneModel", "append", "(IIIII)I"⟩) := ⟨hp_m7 (List.mem_of_getElem? (i := 169) (by decide +kernel)), rfl⟩
theorem wd_7_177 : hp_ok (Cond.methodLink "HallPhoneLaw" 117 ⟨"HallPhoneModel", "parse", "(I)I"⟩) := ⟨hp_m7 (List.mem_of_getElem? (i := 177) (by decide +kernel)), rfl⟩
theorem wd_7_185 : hp_ok (Cond.methodLink "HallPhoneLaw" 124 ⟨"HallPhoneModel", "load", "(I)I"⟩) := ⟨hp_m7 (List.mem_of_getElem? (i := 185) (by decide +kernel)), rfl⟩
theorem wd_7_189 : hp_ok (Cond.methodLink "HallPhoneLaw" 127 ⟨"HallPhoneModel", "size", "(I)I"⟩) := ⟨hp_m7 (List.mem_of_getElem? (i := 189) (by decide +kernel)), rfl⟩
theorem wd_7_205 : hp_ok (Cond.methodLink "HallPhoneLaw" 130 ⟨"HallPhoneModel", "setting", "(I)I"⟩) := ⟨hp_m7 (List.mem_of_getElem? (i := 205) (by decide +kernel)), rfl⟩
theorem wd_7_209 : hp_ok (Cond.methodLink "HallPhoneLaw" 134 ⟨"HallPhoneModel", "flat", "(II)I"⟩) := ⟨hp_m7 (List.mem_of_getElem? (i := 209) (by decide +kernel)), rfl⟩
theorem wd_7_229 : hp_ok (Cond.methodLink "HallPhoneLaw" 138 ⟨"HallPhoneModel", "queued", "(I)I"⟩) := ⟨hp_m7 (List.mem_of_getElem? (i := 229) (by decide +kernel)), rfl⟩
theorem wd_7_233 : hp_ok (Cond.methodLink "HallPhoneLaw" 141 ⟨"HallPhoneModel", "message", "(II)I"⟩) := ⟨hp_m7 (List.mem_of_getElem? (i := 233) (by decide +kernel)), rfl⟩
theorem wd_7_237 : hp_ok (Cond.methodLink "HallPhoneLaw" 144 ⟨"HallPhoneModel", "heard", "(II)I"⟩) := ⟨hp_m7 (List.mem_of_getElem? (i := 237) (by decide +kernel)), rfl⟩
theorem wd_8_5 : hp_ok (Cond.methodLink "HallPhoneLaw" 147 ⟨"HallPhoneModel", "knowing", "(I)I"⟩) := ⟨hp_m8 (List.mem_of_getElem? (i := 5) (by decide +kernel)), rfl⟩
theorem wd_8_13 : hp_ok (Cond.methodLink "HallPhoneLaw" 150 ⟨"HallPhoneModel", "listening", "(I)I"⟩) := ⟨hp_m8 (List.mem_of_getElem? (i := 13) (by decide +kernel)), rfl⟩
theorem wd_8_17 : hp_ok (Cond.methodLink "HallPhoneLaw" 154 ⟨"HallPhoneModel", "mostKnown", "()I"⟩) := ⟨hp_m8 (List.mem_of_getElem? (i := 17) (by decide +kernel)), rfl⟩
theorem wd_8_24 : hp_ok (Cond.methodLink "HallPhoneLaw" 157 ⟨"HallPhoneModel", "cost", "(I)I"⟩) := ⟨hp_m8 (List.mem_of_getElem? (i := 24) (by decide +kernel)), rfl⟩
theorem wd_8_28 : hp_ok (Cond.methodLink "HallPhoneLaw" 160 ⟨"HallPhoneModel", "why", "(II)I"⟩) := ⟨hp_m8 (List.mem_of_getElem? (i := 28) (by decide +kernel)), rfl⟩
theorem wd_8_36 : hp_ok (Cond.methodLink "HallPhoneLaw" 163 ⟨"HallPhoneModel", "speaksIn", "(I)I"⟩) := ⟨hp_m8 (List.mem_of_getElem? (i := 36) (by decide +kernel)), rfl⟩
theorem wd_8_52 : hp_ok (Cond.methodLink "HallPhoneLaw" 167 ⟨"HallPhoneModel", "freeIn", "()I"⟩) := ⟨hp_m8 (List.mem_of_getElem? (i := 52) (by decide +kernel)), rfl⟩
theorem wd_8_56 : hp_ok (Cond.methodLink "HallPhoneLaw" 170 ⟨"HallPhoneModel", "flatIn", "(II)I"⟩) := ⟨hp_m8 (List.mem_of_getElem? (i := 56) (by decide +kernel)), rfl⟩
theorem wd_8_60 : hp_ok (Cond.methodLink "HallPhoneLaw" 173 ⟨"HallPhoneModel", "debtIn", "(II)I"⟩) := ⟨hp_m8 (List.mem_of_getElem? (i := 60) (by decide +kernel)), rfl⟩
theorem wd_8_64 : hp_ok (Cond.methodLink "HallPhoneLaw" 176 ⟨"HallPhoneModel", "waitIf", "(I)I"⟩) := ⟨hp_m8 (List.mem_of_getElem? (i := 64) (by decide +kernel)), rfl⟩
theorem wd_8_68 : hp_ok (Cond.methodLink "HallPhoneLaw" 180 ⟨"HallPhoneModel", "bestLimit", "()I"⟩) := ⟨hp_m8 (List.mem_of_getElem? (i := 68) (by decide +kernel)), rfl⟩
theorem wd_8_80 : hp_ok (Cond.methodLink "HallPhoneLaw" 183 ⟨"HallPhoneModel", "learnsIn", "(II)I"⟩) := ⟨hp_m8 (List.mem_of_getElem? (i := 80) (by decide +kernel)), rfl⟩
theorem wd_8_88 : hp_ok (Cond.methodLink "HallPhoneLaw" 186 ⟨"HallPhoneModel", "ifRung", "(I)I"⟩) := ⟨hp_m8 (List.mem_of_getElem? (i := 88) (by decide +kernel)), rfl⟩
theorem wd_8_92 : hp_ok (Cond.methodLink "HallPhoneLaw" 189 ⟨"HallPhoneModel", "account", "(I)I"⟩) := ⟨hp_m8 (List.mem_of_getElem? (i := 92) (by decide +kernel)), rfl⟩
theorem wd_8_100 : hp_ok (Cond.methodLink "HallPhoneLaw" 194 ⟨"HallPhoneModel", "meanCall", "()D"⟩) := ⟨hp_m8 (List.mem_of_getElem? (i := 100) (by decide +kernel)), rfl⟩
theorem wd_8_104 : hp_ok (Cond.methodLink "HallPhoneLaw" 199 ⟨"HallPhoneModel", "busyShare", "()F"⟩) := ⟨hp_m8 (List.mem_of_getElem? (i := 104) (by decide +kernel)), rfl⟩
theorem wd_8_108 : hp_ok (Cond.methodLink "HallPhoneLaw" 203 ⟨"HallPhoneModel", "writeHouse", "()I"⟩) := ⟨hp_m8 (List.mem_of_getElem? (i := 108) (by decide +kernel)), rfl⟩
theorem wd_8_124 : hp_ok (Cond.methodLink "HallPhoneLaw" 207 ⟨"HallPhoneModel", "writeSlate", "()I"⟩) := ⟨hp_m8 (List.mem_of_getElem? (i := 124) (by decide +kernel)), rfl⟩
theorem wd_8_128 : hp_ok (Cond.methodLink "HallPhoneLaw" 212 ⟨"HallPhoneModel", "reportAt", "(I)C"⟩) := ⟨hp_m8 (List.mem_of_getElem? (i := 128) (by decide +kernel)), rfl⟩
theorem wd_8_132 : hp_ok (Cond.methodLink "HallPhoneLaw" 215 ⟨"HallPhoneModel", "want", "(II)I"⟩) := ⟨hp_m8 (List.mem_of_getElem? (i := 132) (by decide +kernel)), rfl⟩
theorem wd_8_144 : hp_ok (Cond.methodLink "HallPhoneLaw" 218 ⟨"HallPhoneModel", "drop", "(I)I"⟩) := ⟨hp_m8 (List.mem_of_getElem? (i := 144) (by decide +kernel)), rfl⟩
theorem wd_8_148 : hp_ok (Cond.methodLink "HallPhoneLaw" 221 ⟨"HallPhoneModel", "hang", "(I)I"⟩) := ⟨hp_m8 (List.mem_of_getElem? (i := 148) (by decide +kernel)), rfl⟩
theorem wd_8_152 : hp_ok (Cond.methodLink "HallPhoneLaw" 224 ⟨"HallPhoneModel", "ring", "(II)I"⟩) := ⟨hp_m8 (List.mem_of_getElem? (i := 152) (by decide +kernel)), rfl⟩
theorem wd_8_156 : hp_ok (Cond.methodLink "HallPhoneLaw" 227 ⟨"HallPhoneModel", "pay", "(II)I"⟩) := ⟨hp_m8 (List.mem_of_getElem? (i := 156) (by decide +kernel)), rfl⟩
theorem wd_8_160 : hp_ok (Cond.methodLink "HallPhoneLaw" 231 ⟨"HallPhoneModel", "setCurious", "(IZ)Z"⟩) := ⟨hp_m8 (List.mem_of_getElem? (i := 160) (by decide +kernel)), rfl⟩
theorem wd_8_164 : hp_ok (Cond.methodLink "HallPhoneLaw" 234 ⟨"HallPhoneModel", "set", "(II)I"⟩) := ⟨hp_m8 (List.mem_of_getElem? (i := 164) (by decide +kernel)), rfl⟩
theorem wd_8_168 : hp_ok (Cond.methodLink "HallPhoneLaw" 237 ⟨"HallPhoneModel", "pass", "(I)I"⟩) := ⟨hp_m8 (List.mem_of_getElem? (i := 168) (by decide +kernel)), rfl⟩
theorem wd_8_172 : hp_ok (Cond.methodLink "HallPhoneLaw" 241 ⟨"HallPhoneModel", "undo", "()I"⟩) := ⟨hp_m8 (List.mem_of_getElem? (i := 172) (by decide +kernel)), rfl⟩
theorem wd_8_176 : hp_ok (Cond.methodLink "HallPhoneLaw" 244 ⟨"HallPhoneModel", "saveSnapshot", "(I)Z"⟩) := ⟨hp_m8 (List.mem_of_getElem? (i := 176) (by decide +kernel)), rfl⟩
theorem wd_8_180 : hp_ok (Cond.methodLink "HallPhoneLaw" 247 ⟨"HallPhoneModel", "restoreSnapshot", "(I)I"⟩) := ⟨hp_m8 (List.mem_of_getElem? (i := 180) (by decide +kernel)), rfl⟩
theorem wd_8_184 : hp_ok (Cond.methodLink "HallPhoneLaw" 252 ⟨"HallPhoneModel", "checksum", "()J"⟩) := ⟨hp_m8 (List.mem_of_getElem? (i := 184) (by decide +kernel)), rfl⟩
theorem wd_8_194 : hp_ok (Cond.sameMethod "java/lang/AbstractStringBuilder" "java/lang/AbstractStringBuilder" "setLength" "(I)V") := ⟨hp_m8 (List.mem_of_getElem? (i := 194) (by decide +kernel)), rfl⟩
theorem wd_8_195 : hp_ok (Cond.sameMethod "java/lang/AbstractStringBuilder" "java/lang/AbstractStringBuilder" "append" "(Ljava/lang/String;)Ljava/lang/AbstractStringBuilder;") := ⟨hp_m8 (List.mem_of_getElem? (i := 195) (by decide +kernel)), rfl⟩
theorem wd_8_196 : hp_ok (Cond.sameMethod "java/lang/AbstractStringBuilder" "java/lang/AbstractStringBuilder" "appendNull" "()Ljava/lang/AbstractStringBuilder;") := ⟨hp_m8 (List.mem_of_getElem? (i := 196) (by decide +kernel)), rfl⟩
theorem wd_8_197 : hp_ok (Cond.sameMethod "java/lang/AbstractStringBuilder" "java/lang/AbstractStringBuilder" "ensureCapacityInternal" "(I)V") := ⟨hp_m8 (List.mem_of_getElem? (i := 197) (by decide +kernel)), rfl⟩
theorem wd_8_198 : hp_ok (Cond.sameMethod "java/lang/AbstractStringBuilder" "java/lang/AbstractStringBuilder" "newCapacity" "(I)I") := ⟨hp_m8 (List.mem_of_getElem? (i := 198) (by decide +kernel)), rfl⟩
theorem wd_8_199 : hp_ok (Cond.sameMethod "java/lang/AbstractStringBuilder" "java/lang/AbstractStringBuilder" "putStringAt" "(ILjava/lang/String;)V") := ⟨hp_m8 (List.mem_of_getElem? (i := 199) (by decide +kernel)), rfl⟩
theorem wd_8_200 : hp_ok (Cond.sameMethod "java/lang/AbstractStringBuilder" "java/lang/AbstractStringBuilder" "inflateIfNeededFor" "(Ljava/lang/String;)V") := ⟨hp_m8 (List.mem_of_getElem? (i := 200) (by decide +kernel)), rfl⟩
theorem wd_8_201 : hp_ok (Cond.sameMethod "java/lang/AbstractStringBuilder" "java/lang/AbstractStringBuilder" "inflate" "()V") := ⟨hp_m8 (List.mem_of_getElem? (i := 201) (by decide +kernel)), rfl⟩
theorem wd_8_202 : hp_ok (Cond.sameMethod "java/lang/AbstractStringBuilder" "java/lang/AbstractStringBuilder" "append" "(I)Ljava/lang/AbstractStringBuilder;") := ⟨hp_m8 (List.mem_of_getElem? (i := 202) (by decide +kernel)), rfl⟩
theorem wd_8_203 : hp_ok (Cond.sameMethod "java/lang/Throwable" "java/lang/Throwable" "fillInStackTrace" "(I)Ljava/lang/Throwable;") := ⟨hp_m8 (List.mem_of_getElem? (i := 203) (by decide +kernel)), rfl⟩
theorem wd_8_204 : hp_ok (Cond.sameMethod "java/lang/AbstractStringBuilder" "java/lang/AbstractStringBuilder" "append" "(C)Ljava/lang/AbstractStringBuilder;") := ⟨hp_m8 (List.mem_of_getElem? (i := 204) (by decide +kernel)), rfl⟩
theorem wd_8_206 : hp_ok (Cond.sameMethod "java/lang/AbstractStringBuilder" "java/lang/AbstractStringBuilder" "charAt" "(I)C") := ⟨hp_m8 (List.mem_of_getElem? (i := 206) (by decide +kernel)), rfl⟩
theorem wd_8_231 : hp_ok (Cond.fieldLink "java/lang/Enum" 7 "java/lang/Enum" "ordinal" "I") := ⟨hp_m8 (List.mem_of_getElem? (i := 231) (by decide +kernel)), rfl⟩
theorem wd_8_236 : Cond.laysStatic "HallPhone$Verb" "LIMIT" "LHallPhone$Verb;" ∈ lw_tbl := hp_m8 (List.mem_of_getElem? (i := 236) (by decide +kernel))
theorem wd_8_237 : Cond.laysStatic "HallPhone$Verb" "UNIT" "LHallPhone$Verb;" ∈ lw_tbl := hp_m8 (List.mem_of_getElem? (i := 237) (by decide +kernel))
theorem wd_8_238 : Cond.laysStatic "HallPhone$Verb" "RATE" "LHallPhone$Verb;" ∈ lw_tbl := hp_m8 (List.mem_of_getElem? (i := 238) (by decide +kernel))
theorem wd_8_239 : Cond.laysStatic "HallPhone$Verb" "EAR" "LHallPhone$Verb;" ∈ lw_tbl := hp_m8 (List.mem_of_getElem? (i := 239) (by decide +kernel))
theorem wd_9_0 : Cond.laysStatic "HallPhone$Verb" "SECRET" "LHallPhone$Verb;" ∈ lw_tbl := hp_m9 (List.mem_of_getElem? (i := 0) (by decide +kernel))
theorem wd_9_1 : Cond.laysStatic "HallPhone$Verb" "PATIENCE" "LHallPhone$Verb;" ∈ lw_tbl := hp_m9 (List.mem_of_getElem? (i := 1) (by decide +kernel))
theorem wd_9_2 : Cond.stringRef "HallPhone$Verb" 104 "want" ∈ lw_tbl := hp_m9 (List.mem_of_getElem? (i := 2) (by decide +kernel))
theorem wd_9_3 : Cond.stringRef "HallPhone$Verb" 113 "ring" ∈ lw_tbl := hp_m9 (List.mem_of_getElem? (i := 3) (by decide +kernel))
theorem wd_9_4 : Cond.stringRef "HallPhone$Verb" 107 "drop" ∈ lw_tbl := hp_m9 (List.mem_of_getElem? (i := 4) (by decide +kernel))
theorem wd_9_5 : Cond.stringRef "HallPhone$Verb" 110 "hang" ∈ lw_tbl := hp_m9 (List.mem_of_getElem? (i := 5) (by decide +kernel))
theorem wd_9_6 : Cond.stringRef "HallPhone$Verb" 116 "pay" ∈ lw_tbl := hp_m9 (List.mem_of_getElem? (i := 6) (by decide +kernel))
theorem wd_9_7 : Cond.stringRef "HallPhone$Verb" 119 "pass" ∈ lw_tbl := hp_m9 (List.mem_of_getElem? (i := 7) (by decide +kernel))
theorem wd_9_8 : Cond.stringRef "HallPhone$Verb" 83 "limit" ∈ lw_tbl := hp_m9 (List.mem_of_getElem? (i := 8) (by decide +kernel))
theorem wd_9_9 : Cond.stringRef "HallPhone$Verb" 89 "unit" ∈ lw_tbl := hp_m9 (List.mem_of_getElem? (i := 9) (by decide +kernel))
theorem wd_9_10 : Cond.stringRef "HallPhone$Verb" 92 "rate" ∈ lw_tbl := hp_m9 (List.mem_of_getElem? (i := 10) (by decide +kernel))
theorem wd_9_11 : Cond.stringRef "HallPhone$Verb" 95 "ear" ∈ lw_tbl := hp_m9 (List.mem_of_getElem? (i := 11) (by decide +kernel))
theorem wd_9_12 : Cond.stringRef "HallPhone$Verb" 98 "secret" ∈ lw_tbl := hp_m9 (List.mem_of_getElem? (i := 12) (by decide +kernel))
theorem wd_9_13 : Cond.stringRef "HallPhone$Verb" 101 "patience" ∈ lw_tbl := hp_m9 (List.mem_of_getElem? (i := 13) (by decide +kernel))
theorem wd_2_6 : hp_ok (Cond.code ⟨"java/lang/String", "length", "()I"⟩ prog_27_method_54_code 1 (some .int)) := ⟨hp_m2 (List.mem_of_getElem? (i := 6) (by decide +kernel)), rfl⟩
theorem wd_2_4 : hp_ok (Cond.instanceMethod ⟨"java/lang/String", "length", "()I"⟩) := ⟨hp_m2 (List.mem_of_getElem? (i := 4) (by decide +kernel)), rfl⟩
theorem wd_2_5 : hp_ok (Cond.selects "java/lang/String" ⟨"java/lang/String", "length", "()I"⟩ ⟨"java/lang/String", "length", "()I"⟩) := ⟨hp_m2 (List.mem_of_getElem? (i := 5) (by decide +kernel)), rfl⟩
theorem kv_J0_length_8abf5 : hp_Kv yJ0_length_8abf5 cJ0_length_8abf5 1 (some .int) 0 := ⟨wd_2_4, wd_2_5, wd_1_10, wd_2_6, ⟨by decide, by decide, by decide +kernel⟩, by decide⟩
theorem wd_2_10 : hp_ok (Cond.code ⟨"java/lang/String", "coder", "()B"⟩ prog_27_method_152_code 1 (some .byte)) := ⟨hp_m2 (List.mem_of_getElem? (i := 10) (by decide +kernel)), rfl⟩
theorem wd_2_8 : hp_ok (Cond.instanceMethod ⟨"java/lang/String", "coder", "()B"⟩) := ⟨hp_m2 (List.mem_of_getElem? (i := 8) (by decide +kernel)), rfl⟩
theorem wd_2_9 : hp_ok (Cond.selects "java/lang/String" ⟨"java/lang/String", "coder", "()B"⟩ ⟨"java/lang/String", "coder", "()B"⟩) := ⟨hp_m2 (List.mem_of_getElem? (i := 9) (by decide +kernel)), rfl⟩
theorem kv_J0_coder_7d493 : hp_Kv yJ0_coder_7d493 cJ0_coder_7d493 1 (some .byte) 0 := ⟨wd_2_8, wd_2_9, wd_1_10, wd_2_10, ⟨by decide, by decide, by decide +kernel⟩, by decide⟩
theorem wd_2_15 : hp_ok (Cond.code ⟨"java/lang/String", "charAt", "(I)C"⟩ prog_27_method_56_code 2 (some .char)) := ⟨hp_m2 (List.mem_of_getElem? (i := 15) (by decide +kernel)), rfl⟩
theorem wd_2_13 : hp_ok (Cond.instanceMethod ⟨"java/lang/String", "charAt", "(I)C"⟩) := ⟨hp_m2 (List.mem_of_getElem? (i := 13) (by decide +kernel)), rfl⟩
theorem wd_2_14 : hp_ok (Cond.selects "java/lang/String" ⟨"java/lang/String", "charAt", "(I)C"⟩ ⟨"java/lang/String", "charAt", "(I)C"⟩) := ⟨hp_m2 (List.mem_of_getElem? (i := 14) (by decide +kernel)), rfl⟩
theorem kv_J0_charAt_5068e : hp_Kv yJ0_charAt_5068e cJ0_charAt_5068e 2 (some .char) 1 := ⟨wd_2_13, wd_2_14, wd_1_10, wd_2_15, ⟨by decide, by decide, by decide +kernel⟩, by decide⟩
theorem wd_2_19 : hp_ok (Cond.code ⟨"java/lang/String", "isLatin1", "()Z"⟩ prog_27_method_154_code 1 (some .boolean)) := ⟨hp_m2 (List.mem_of_getElem? (i := 19) (by decide +kernel)), rfl⟩
theorem wd_2_17 : hp_ok (Cond.instanceMethod ⟨"java/lang/String", "isLatin1", "()Z"⟩) := ⟨hp_m2 (List.mem_of_getElem? (i := 17) (by decide +kernel)), rfl⟩
theorem wd_2_18 : hp_ok (Cond.selects "java/lang/String" ⟨"java/lang/String", "isLatin1", "()Z"⟩ ⟨"java/lang/String", "isLatin1", "()Z"⟩) := ⟨hp_m2 (List.mem_of_getElem? (i := 18) (by decide +kernel)), rfl⟩
theorem kv_J0_isLatin1_aae02 : hp_Kv yJ0_isLatin1_aae02 cJ0_isLatin1_aae02 1 (some .boolean) 0 := ⟨wd_2_17, wd_2_18, wd_1_10, wd_2_19, ⟨by decide, by decide, by decide +kernel⟩, by decide⟩
theorem wd_2_25 : hp_ok (Cond.code ⟨"java/lang/String", "checkIndex", "(II)V"⟩ prog_27_method_155_code 2 none) := ⟨hp_m2 (List.mem_of_getElem? (i := 25) (by decide +kernel)), rfl⟩
theorem wd_2_24 : hp_ok (Cond.static ⟨"java/lang/String", "checkIndex", "(II)V"⟩) := ⟨hp_m2 (List.mem_of_getElem? (i := 24) (by decide +kernel)), rfl⟩
theorem ks_J0_checkIndex_df160 : hp_Ks yJ0_checkIndex_df160 cJ0_checkIndex_df160 2 none 2 := ⟨wd_2_24, wd_1_10, wd_2_25, ⟨by decide, by decide, by decide +kernel⟩, by decide⟩
theorem wd_2_22 : hp_ok (Cond.code ⟨"java/lang/StringLatin1", "charAt", "([BI)C"⟩ prog_30_method_2_code 2 (some .char)) := ⟨hp_m2 (List.mem_of_getElem? (i := 22) (by decide +kernel)), rfl⟩
theorem wd_2_21 : hp_ok (Cond.static ⟨"java/lang/StringLatin1", "charAt", "([BI)C"⟩) := ⟨hp_m2 (List.mem_of_getElem? (i := 21) (by decide +kernel)), rfl⟩
theorem ks_J1_charAt_3b067 : hp_Ks yJ1_charAt_3b067 cJ1_charAt_3b067 2 (some .char) 2 := ⟨wd_2_21, wd_1_12, wd_2_22, ⟨by decide, by decide, by decide +kernel⟩, by decide⟩
theorem wd_2_30 : hp_ok (Cond.code ⟨"jdk/internal/util/Preconditions", "checkIndex", "(IILjava/util/function/BiFunction;)I"⟩ prog_39_method_11_code 3 (some .int)) := ⟨hp_m2 (List.mem_of_getElem? (i := 30) (by decide +kernel)), rfl⟩
theorem wd_2_29 : hp_ok (Cond.static ⟨"jdk/internal/util/Preconditions", "checkIndex", "(IILjava/util/function/BiFunction;)I"⟩) := ⟨hp_m2 (List.mem_of_getElem? (i := 29) (by decide +kernel)), rfl⟩
theorem ks_J3_checkIndex_8e157 : hp_Ks yJ3_checkIndex_8e157 cJ3_checkIndex_8e157 3 (some .int) 3 := ⟨wd_2_29, wd_1_13, wd_2_30, ⟨by decide, by decide, by decide +kernel⟩, by decide⟩
theorem wd_3_113 : hp_ok (Cond.code ⟨"java/lang/Integer", "bitCount", "(I)I"⟩ prog_23_method_49_code 1 (some .int)) := ⟨hp_m3 (List.mem_of_getElem? (i := 113) (by decide +kernel)), rfl⟩
theorem wd_3_112 : hp_ok (Cond.static ⟨"java/lang/Integer", "bitCount", "(I)I"⟩) := ⟨hp_m3 (List.mem_of_getElem? (i := 112) (by decide +kernel)), rfl⟩
theorem ks_J6_bitCount_0f7a4 : hp_Ks yJ6_bitCount_0f7a4 cJ6_bitCount_0f7a4 1 (some .int) 1 := ⟨wd_3_112, wd_1_26, wd_3_113, ⟨by decide, by decide, by decide +kernel⟩, by decide⟩
theorem wd_2_76 : hp_ok (Cond.code ⟨"java/util/Arrays", "fill", "([II)V"⟩ prog_36_method_103_code 4 none) := ⟨hp_m2 (List.mem_of_getElem? (i := 76) (by decide +kernel)), rfl⟩
theorem wd_2_75 : hp_ok (Cond.static ⟨"java/util/Arrays", "fill", "([II)V"⟩) := ⟨hp_m2 (List.mem_of_getElem? (i := 75) (by decide +kernel)), rfl⟩
theorem ks_J7_fill_53178 : hp_Ks yJ7_fill_53178 cJ7_fill_53178 4 none 2 := ⟨wd_2_75, wd_1_16, wd_2_76, ⟨by decide, by decide, by decide +kernel⟩, by decide⟩
theorem wd_4_36 : hp_ok (Cond.code ⟨"java/lang/Integer", "stringSize", "(I)I"⟩ prog_23_method_13_code 4 (some .int)) := ⟨hp_m4 (List.mem_of_getElem? (i := 36) (by decide +kernel)), rfl⟩
theorem wd_4_35 : hp_ok (Cond.static ⟨"java/lang/Integer", "stringSize", "(I)I"⟩) := ⟨hp_m4 (List.mem_of_getElem? (i := 35) (by decide +kernel)), rfl⟩
theorem ks_J6_stringSize_0f7a4 : hp_Ks yJ6_stringSize_0f7a4 cJ6_stringSize_0f7a4 4 (some .int) 1 := ⟨wd_4_35, wd_1_26, wd_4_36, ⟨by decide, by decide, by decide +kernel⟩, by decide⟩
theorem wd_5_2 : hp_ok (Cond.code ⟨"java/lang/StringLatin1", "canEncode", "(C)Z"⟩ prog_30_method_3_code 1 (some .boolean)) := ⟨hp_m5 (List.mem_of_getElem? (i := 2) (by decide +kernel)), rfl⟩
theorem wd_5_1 : hp_ok (Cond.static ⟨"java/lang/StringLatin1", "canEncode", "(C)Z"⟩) := ⟨hp_m5 (List.mem_of_getElem? (i := 1) (by decide +kernel)), rfl⟩
theorem ks_J1_canEncode_fc78d : hp_Ks yJ1_canEncode_fc78d cJ1_canEncode_fc78d 1 (some .boolean) 1 := ⟨wd_5_1, wd_1_12, wd_5_2, ⟨by decide, by decide, by decide +kernel⟩, by decide⟩
theorem wd_2_157 : hp_ok (Cond.selects "HallPhone$Verb" ⟨"HallPhone$Verb", "ordinal", "()I"⟩ ⟨"java/lang/Enum", "ordinal", "()I"⟩) := ⟨hp_m2 (List.mem_of_getElem? (i := 157) (by decide +kernel)), rfl⟩
theorem wd_2_158 : hp_ok (Cond.instanceMethod ⟨"java/lang/Enum", "ordinal", "()I"⟩) := ⟨hp_m2 (List.mem_of_getElem? (i := 158) (by decide +kernel)), rfl⟩
theorem wd_2_159 : hp_ok (Cond.code ⟨"java/lang/Enum", "ordinal", "()I"⟩ prog_19_method_2_code 1 (some .int)) := ⟨hp_m2 (List.mem_of_getElem? (i := 159) (by decide +kernel)), rfl⟩
theorem hp_ordw : hp_ok (.methodLink "HallPhone$House" 193 ⟨"HallPhone$Verb", "ordinal", "()I"⟩) ∧ hp_ok (.sameMethod "HallPhone$Verb" "java/lang/Enum" "ordinal" "()I") ∧ hp_ok (.selects "HallPhone$Verb" ⟨"HallPhone$Verb", "ordinal", "()I"⟩ yJx29ce0_ordinal_8abf5) ∧ hp_ok (.instanceMethod yJx29ce0_ordinal_8abf5) ∧ hp_ok (.initialized "java/lang/Enum") ∧ hp_ok (.code yJx29ce0_ordinal_8abf5 cJx29ce0_ordinal_8abf5 1 (some .int)) := ⟨wd_2_154, wd_2_155, wd_2_157, wd_2_158, wd_1_17, wd_2_159⟩
theorem wd_2_55 : hp_ok (Cond.static ⟨"java/lang/Math", "min", "(II)I"⟩) := ⟨hp_m2 (List.mem_of_getElem? (i := 55) (by decide +kernel)), rfl⟩
theorem hp_minw : hp_ok (.static Lib.Math.min.name) ∧ hp_ok (.initialized "java/lang/Math") ∧ hp_ok (.code Lib.Math.min.name Lib.Math.min.code 2 (some .int)) := ⟨wd_2_55, wd_1_14, ⟨hp_m2 (List.mem_of_getElem? (i := 56) (by decide +kernel)), rfl⟩⟩
theorem wd_2_72 : hp_ok (Cond.static ⟨"java/lang/System", "arraycopy", "(Ljava/lang/Object;ILjava/lang/Object;II)V"⟩) := ⟨hp_m2 (List.mem_of_getElem? (i := 72) (by decide +kernel)), rfl⟩
theorem hp_acwo : hp_ok (.native arraycopyName) ∧ hp_ok (.static arraycopyName) ∧ hp_ok (.initialized "java/lang/System") := ⟨wd_2_73, wd_2_72, wd_1_15⟩
theorem hp_cs : hp_is (Cond.eq (.static "java/lang/String" "COMPACT_STRINGS" "Z") (.int 1)) := ⟨7169, by decide +kernel⟩
theorem hp_sioobe : hp_is (Cond.isRef (.static "jdk/internal/util/Preconditions" "SIOOBE_FORMATTER" "Ljava/util/function/BiFunction;")) := ⟨2561, by decide +kernel⟩
theorem hp_lk {x k : Int32} {ps : List (Int × Int)} {dflt off : Int} (h : x = k) (e : Op.lookupswitch.offset ps dflt k.toInt = off) : Op.lookupswitch.offset ps dflt x.toInt = off := by rw [h]; exact e
theorem hp_lk2 {x k1 k2 : Int32} {ps : List (Int × Int)} {dflt : Int} (h1 : ¬ x = k1) (h2 : ¬ x = k2) (e : ps.map Prod.fst = [k1.toInt, k2.toInt]) : Op.lookupswitch.offset ps dflt x.toInt = dflt := by
  match ps, e with
  | [(a, b), (c, d)], e =>
    simp only [List.map_cons, List.map_nil, List.cons.injEq, and_true] at e
    rw [Op.lookupswitch.offset_cons, if_neg (fun q => h1 (Int32.toInt_inj.mp (q.symm.trans e.1))), Op.lookupswitch.offset_cons, if_neg (fun q => h2 (Int32.toInt_inj.mp (q.symm.trans e.2)))]
    rfl
theorem dJx29ce0_ordinal_8abf5_0 : decode cJx29ce0_ordinal_8abf5 0 = .ok (.aload_n 0, 1) := by decide +kernel
theorem dJx29ce0_ordinal_8abf5_1 : decode cJx29ce0_ordinal_8abf5 1 = .ok (.getfield 7, 3) := by decide +kernel
theorem dJx29ce0_ordinal_8abf5_4 : decode cJx29ce0_ordinal_8abf5 4 = .ok (.ireturn, 1) := by decide +kernel
theorem dJ6_stringSize_0f7a4_0 : decode cJ6_stringSize_0f7a4 0 = .ok (.iconst 1, 1) := by decide +kernel
theorem dJ6_stringSize_0f7a4_1 : decode cJ6_stringSize_0f7a4 1 = .ok (.istore_n 1, 1) := by decide +kernel
theorem dJ6_stringSize_0f7a4_2 : decode cJ6_stringSize_0f7a4 2 = .ok (.iload_n 0, 1) := by decide +kernel
theorem dJ6_stringSize_0f7a4_3 : decode cJ6_stringSize_0f7a4 3 = .ok (.ifCond .lt 8, 3) := by decide +kernel
theorem dJ6_stringSize_0f7a4_6 : decode cJ6_stringSize_0f7a4 6 = .ok (.iconst 0, 1) := by decide +kernel
theorem dJ6_stringSize_0f7a4_7 : decode cJ6_stringSize_0f7a4 7 = .ok (.istore_n 1, 1) := by decide +kernel
theorem dJ6_stringSize_0f7a4_8 : decode cJ6_stringSize_0f7a4 8 = .ok (.iload_n 0, 1) := by decide +kernel
theorem dJ6_stringSize_0f7a4_9 : decode cJ6_stringSize_0f7a4 9 = .ok (.ineg, 1) := by decide +kernel
theorem dJ6_stringSize_0f7a4_10 : decode cJ6_stringSize_0f7a4 10 = .ok (.istore_n 0, 1) := by decide +kernel
theorem dJ6_stringSize_0f7a4_11 : decode cJ6_stringSize_0f7a4 11 = .ok (.bipush (-10), 2) := by decide +kernel
theorem dJ6_stringSize_0f7a4_13 : decode cJ6_stringSize_0f7a4 13 = .ok (.istore_n 2, 1) := by decide +kernel
theorem dJ6_stringSize_0f7a4_14 : decode cJ6_stringSize_0f7a4 14 = .ok (.iconst 1, 1) := by decide +kernel
theorem dJ6_stringSize_0f7a4_15 : decode cJ6_stringSize_0f7a4 15 = .ok (.istore_n 3, 1) := by decide +kernel
theorem dJ6_stringSize_0f7a4_16 : decode cJ6_stringSize_0f7a4 16 = .ok (.iload_n 3, 1) := by decide +kernel
theorem dJ6_stringSize_0f7a4_17 : decode cJ6_stringSize_0f7a4 17 = .ok (.bipush 10, 2) := by decide +kernel
theorem dJ6_stringSize_0f7a4_19 : decode cJ6_stringSize_0f7a4 19 = .ok (.if_icmp .ge 23, 3) := by decide +kernel
theorem dJ6_stringSize_0f7a4_22 : decode cJ6_stringSize_0f7a4 22 = .ok (.iload_n 0, 1) := by decide +kernel
theorem dJ6_stringSize_0f7a4_23 : decode cJ6_stringSize_0f7a4 23 = .ok (.iload_n 2, 1) := by decide +kernel
theorem dJ6_stringSize_0f7a4_24 : decode cJ6_stringSize_0f7a4 24 = .ok (.if_icmp .le 7, 3) := by decide +kernel
theorem dJ6_stringSize_0f7a4_27 : decode cJ6_stringSize_0f7a4 27 = .ok (.iload_n 3, 1) := by decide +kernel
theorem dJ6_stringSize_0f7a4_28 : decode cJ6_stringSize_0f7a4 28 = .ok (.iload_n 1, 1) := by decide +kernel
theorem dJ6_stringSize_0f7a4_29 : decode cJ6_stringSize_0f7a4 29 = .ok (.iadd, 1) := by decide +kernel
theorem dJ6_stringSize_0f7a4_30 : decode cJ6_stringSize_0f7a4 30 = .ok (.ireturn, 1) := by decide +kernel
theorem dJ6_stringSize_0f7a4_31 : decode cJ6_stringSize_0f7a4 31 = .ok (.bipush 10, 2) := by decide +kernel
theorem dJ6_stringSize_0f7a4_33 : decode cJ6_stringSize_0f7a4 33 = .ok (.iload_n 2, 1) := by decide +kernel
theorem dJ6_stringSize_0f7a4_34 : decode cJ6_stringSize_0f7a4 34 = .ok (.imul, 1) := by decide +kernel
theorem dJ6_stringSize_0f7a4_35 : decode cJ6_stringSize_0f7a4 35 = .ok (.istore_n 2, 1) := by decide +kernel
theorem dJ6_stringSize_0f7a4_36 : decode cJ6_stringSize_0f7a4 36 = .ok (.iinc 3 1, 3) := by decide +kernel
theorem dJ6_stringSize_0f7a4_39 : decode cJ6_stringSize_0f7a4 39 = .ok (.goto (-23), 3) := by decide +kernel
theorem dJ6_stringSize_0f7a4_42 : decode cJ6_stringSize_0f7a4 42 = .ok (.bipush 10, 2) := by decide +kernel
theorem dJ6_stringSize_0f7a4_44 : decode cJ6_stringSize_0f7a4 44 = .ok (.iload_n 1, 1) := by decide +kernel
theorem dJ6_stringSize_0f7a4_45 : decode cJ6_stringSize_0f7a4 45 = .ok (.iadd, 1) := by decide +kernel
theorem dJ6_stringSize_0f7a4_46 : decode cJ6_stringSize_0f7a4 46 = .ok (.ireturn, 1) := by decide +kernel
theorem dJ6_bitCount_0f7a4_0 : decode cJ6_bitCount_0f7a4 0 = .ok (.iload_n 0, 1) := by decide +kernel
theorem dJ6_bitCount_0f7a4_1 : decode cJ6_bitCount_0f7a4 1 = .ok (.iload_n 0, 1) := by decide +kernel
theorem dJ6_bitCount_0f7a4_2 : decode cJ6_bitCount_0f7a4 2 = .ok (.iconst 1, 1) := by decide +kernel
theorem dJ6_bitCount_0f7a4_3 : decode cJ6_bitCount_0f7a4 3 = .ok (.iushr, 1) := by decide +kernel
theorem dJ6_bitCount_0f7a4_4 : decode cJ6_bitCount_0f7a4 4 = .ok (.ldc_w 265, 3) := by decide +kernel
theorem dJ6_bitCount_0f7a4_7 : decode cJ6_bitCount_0f7a4 7 = .ok (.iand, 1) := by decide +kernel
theorem dJ6_bitCount_0f7a4_8 : decode cJ6_bitCount_0f7a4 8 = .ok (.isub, 1) := by decide +kernel
theorem dJ6_bitCount_0f7a4_9 : decode cJ6_bitCount_0f7a4 9 = .ok (.istore_n 0, 1) := by decide +kernel
theorem dJ6_bitCount_0f7a4_10 : decode cJ6_bitCount_0f7a4 10 = .ok (.iload_n 0, 1) := by decide +kernel
theorem dJ6_bitCount_0f7a4_11 : decode cJ6_bitCount_0f7a4 11 = .ok (.ldc_w 266, 3) := by decide +kernel
theorem dJ6_bitCount_0f7a4_14 : decode cJ6_bitCount_0f7a4 14 = .ok (.iand, 1) := by decide +kernel
theorem dJ6_bitCount_0f7a4_15 : decode cJ6_bitCount_0f7a4 15 = .ok (.iload_n 0, 1) := by decide +kernel
theorem dJ6_bitCount_0f7a4_16 : decode cJ6_bitCount_0f7a4 16 = .ok (.iconst 2, 1) := by decide +kernel
theorem dJ6_bitCount_0f7a4_17 : decode cJ6_bitCount_0f7a4 17 = .ok (.iushr, 1) := by decide +kernel
theorem dJ6_bitCount_0f7a4_18 : decode cJ6_bitCount_0f7a4 18 = .ok (.ldc_w 266, 3) := by decide +kernel
theorem dJ6_bitCount_0f7a4_21 : decode cJ6_bitCount_0f7a4 21 = .ok (.iand, 1) := by decide +kernel
theorem dJ6_bitCount_0f7a4_22 : decode cJ6_bitCount_0f7a4 22 = .ok (.iadd, 1) := by decide +kernel
theorem dJ6_bitCount_0f7a4_23 : decode cJ6_bitCount_0f7a4 23 = .ok (.istore_n 0, 1) := by decide +kernel
theorem dJ6_bitCount_0f7a4_24 : decode cJ6_bitCount_0f7a4 24 = .ok (.iload_n 0, 1) := by decide +kernel
theorem dJ6_bitCount_0f7a4_25 : decode cJ6_bitCount_0f7a4 25 = .ok (.iload_n 0, 1) := by decide +kernel
theorem dJ6_bitCount_0f7a4_26 : decode cJ6_bitCount_0f7a4 26 = .ok (.iconst 4, 1) := by decide +kernel
theorem dJ6_bitCount_0f7a4_27 : decode cJ6_bitCount_0f7a4 27 = .ok (.iushr, 1) := by decide +kernel
theorem dJ6_bitCount_0f7a4_28 : decode cJ6_bitCount_0f7a4 28 = .ok (.iadd, 1) := by decide +kernel
theorem dJ6_bitCount_0f7a4_29 : decode cJ6_bitCount_0f7a4 29 = .ok (.ldc_w 267, 3) := by decide +kernel
theorem dJ6_bitCount_0f7a4_32 : decode cJ6_bitCount_0f7a4 32 = .ok (.iand, 1) := by decide +kernel
theorem dJ6_bitCount_0f7a4_33 : decode cJ6_bitCount_0f7a4 33 = .ok (.istore_n 0, 1) := by decide +kernel
theorem dJ6_bitCount_0f7a4_34 : decode cJ6_bitCount_0f7a4 34 = .ok (.iload_n 0, 1) := by decide +kernel
theorem dJ6_bitCount_0f7a4_35 : decode cJ6_bitCount_0f7a4 35 = .ok (.iload_n 0, 1) := by decide +kernel
theorem dJ6_bitCount_0f7a4_36 : decode cJ6_bitCount_0f7a4 36 = .ok (.bipush 8, 2) := by decide +kernel
theorem dJ6_bitCount_0f7a4_38 : decode cJ6_bitCount_0f7a4 38 = .ok (.iushr, 1) := by decide +kernel
theorem dJ6_bitCount_0f7a4_39 : decode cJ6_bitCount_0f7a4 39 = .ok (.iadd, 1) := by decide +kernel
theorem dJ6_bitCount_0f7a4_40 : decode cJ6_bitCount_0f7a4 40 = .ok (.istore_n 0, 1) := by decide +kernel
theorem dJ6_bitCount_0f7a4_41 : decode cJ6_bitCount_0f7a4 41 = .ok (.iload_n 0, 1) := by decide +kernel
theorem dJ6_bitCount_0f7a4_42 : decode cJ6_bitCount_0f7a4 42 = .ok (.iload_n 0, 1) := by decide +kernel
theorem dJ6_bitCount_0f7a4_43 : decode cJ6_bitCount_0f7a4 43 = .ok (.bipush 16, 2) := by decide +kernel
theorem dJ6_bitCount_0f7a4_45 : decode cJ6_bitCount_0f7a4 45 = .ok (.iushr, 1) := by decide +kernel
theorem dJ6_bitCount_0f7a4_46 : decode cJ6_bitCount_0f7a4 46 = .ok (.iadd, 1) := by decide +kernel
theorem dJ6_bitCount_0f7a4_47 : decode cJ6_bitCount_0f7a4 47 = .ok (.istore_n 0, 1) := by decide +kernel
theorem dJ6_bitCount_0f7a4_48 : decode cJ6_bitCount_0f7a4 48 = .ok (.iload_n 0, 1) := by decide +kernel
theorem dJ6_bitCount_0f7a4_49 : decode cJ6_bitCount_0f7a4 49 = .ok (.bipush 63, 2) := by decide +kernel
theorem dJ6_bitCount_0f7a4_51 : decode cJ6_bitCount_0f7a4 51 = .ok (.iand, 1) := by decide +kernel
theorem dJ6_bitCount_0f7a4_52 : decode cJ6_bitCount_0f7a4 52 = .ok (.ireturn, 1) := by decide +kernel
theorem dJ0_length_8abf5_0 : decode cJ0_length_8abf5 0 = .ok (.aload_n 0, 1) := by decide +kernel
theorem dJ0_length_8abf5_1 : decode cJ0_length_8abf5 1 = .ok (.getfield 9, 3) := by decide +kernel
theorem dJ0_length_8abf5_4 : decode cJ0_length_8abf5 4 = .ok (.arraylength, 1) := by decide +kernel
theorem dJ0_length_8abf5_5 : decode cJ0_length_8abf5 5 = .ok (.aload_n 0, 1) := by decide +kernel
theorem dJ0_length_8abf5_6 : decode cJ0_length_8abf5 6 = .ok (.invokevirtual 335, 3) := by decide +kernel
theorem dJ0_length_8abf5_9 : decode cJ0_length_8abf5 9 = .ok (.ishr, 1) := by decide +kernel
theorem dJ0_length_8abf5_10 : decode cJ0_length_8abf5 10 = .ok (.ireturn, 1) := by decide +kernel
theorem dJ0_charAt_5068e_0 : decode cJ0_charAt_5068e 0 = .ok (.aload_n 0, 1) := by decide +kernel
theorem dJ0_charAt_5068e_1 : decode cJ0_charAt_5068e 1 = .ok (.invokevirtual 492, 3) := by decide +kernel
theorem dJ0_charAt_5068e_4 : decode cJ0_charAt_5068e 4 = .ok (.ifCond .eq 12, 3) := by decide +kernel
theorem dJ0_charAt_5068e_7 : decode cJ0_charAt_5068e 7 = .ok (.aload_n 0, 1) := by decide +kernel
theorem dJ0_charAt_5068e_8 : decode cJ0_charAt_5068e 8 = .ok (.getfield 9, 3) := by decide +kernel
theorem dJ0_charAt_5068e_11 : decode cJ0_charAt_5068e 11 = .ok (.iload_n 1, 1) := by decide +kernel
theorem dJ0_charAt_5068e_12 : decode cJ0_charAt_5068e 12 = .ok (.invokestatic 495, 3) := by decide +kernel
theorem dJ0_charAt_5068e_15 : decode cJ0_charAt_5068e 15 = .ok (.ireturn, 1) := by decide +kernel
theorem dJ0_charAt_5068e_16 : decode cJ0_charAt_5068e 16 = .ok (.aload_n 0, 1) := by decide +kernel
theorem dJ0_charAt_5068e_17 : decode cJ0_charAt_5068e 17 = .ok (.getfield 9, 3) := by decide +kernel
theorem dJ0_charAt_5068e_20 : decode cJ0_charAt_5068e 20 = .ok (.iload_n 1, 1) := by decide +kernel
theorem dJ0_charAt_5068e_21 : decode cJ0_charAt_5068e 21 = .ok (.invokestatic 498, 3) := by decide +kernel
theorem dJ0_charAt_5068e_24 : decode cJ0_charAt_5068e 24 = .ok (.ireturn, 1) := by decide +kernel
theorem dJ0_coder_7d493_0 : decode cJ0_coder_7d493 0 = .ok (.getstatic 38, 3) := by decide +kernel
theorem dJ0_coder_7d493_3 : decode cJ0_coder_7d493 3 = .ok (.ifCond .eq 10, 3) := by decide +kernel
theorem dJ0_coder_7d493_6 : decode cJ0_coder_7d493 6 = .ok (.aload_n 0, 1) := by decide +kernel
theorem dJ0_coder_7d493_7 : decode cJ0_coder_7d493 7 = .ok (.getfield 15, 3) := by decide +kernel
theorem dJ0_coder_7d493_10 : decode cJ0_coder_7d493 10 = .ok (.goto 4, 3) := by decide +kernel
theorem dJ0_coder_7d493_13 : decode cJ0_coder_7d493 13 = .ok (.iconst 1, 1) := by decide +kernel
theorem dJ0_coder_7d493_14 : decode cJ0_coder_7d493 14 = .ok (.ireturn, 1) := by decide +kernel
theorem dJ0_isLatin1_aae02_0 : decode cJ0_isLatin1_aae02 0 = .ok (.getstatic 38, 3) := by decide +kernel
theorem dJ0_isLatin1_aae02_3 : decode cJ0_isLatin1_aae02 3 = .ok (.ifCond .eq 14, 3) := by decide +kernel
theorem dJ0_isLatin1_aae02_6 : decode cJ0_isLatin1_aae02 6 = .ok (.aload_n 0, 1) := by decide +kernel
theorem dJ0_isLatin1_aae02_7 : decode cJ0_isLatin1_aae02 7 = .ok (.getfield 15, 3) := by decide +kernel
theorem dJ0_isLatin1_aae02_10 : decode cJ0_isLatin1_aae02 10 = .ok (.ifCond .ne 7, 3) := by decide +kernel
theorem dJ0_isLatin1_aae02_13 : decode cJ0_isLatin1_aae02 13 = .ok (.iconst 1, 1) := by decide +kernel
theorem dJ0_isLatin1_aae02_14 : decode cJ0_isLatin1_aae02 14 = .ok (.goto 4, 3) := by decide +kernel
theorem dJ0_isLatin1_aae02_17 : decode cJ0_isLatin1_aae02 17 = .ok (.iconst 0, 1) := by decide +kernel
theorem dJ0_isLatin1_aae02_18 : decode cJ0_isLatin1_aae02 18 = .ok (.ireturn, 1) := by decide +kernel
theorem dJ0_checkIndex_df160_0 : decode cJ0_checkIndex_df160 0 = .ok (.iload_n 0, 1) := by decide +kernel
theorem dJ0_checkIndex_df160_1 : decode cJ0_checkIndex_df160 1 = .ok (.iload_n 1, 1) := by decide +kernel
theorem dJ0_checkIndex_df160_2 : decode cJ0_checkIndex_df160 2 = .ok (.getstatic 1053, 3) := by decide +kernel
theorem dJ0_checkIndex_df160_5 : decode cJ0_checkIndex_df160 5 = .ok (.invokestatic 1059, 3) := by decide +kernel
theorem dJ0_checkIndex_df160_8 : decode cJ0_checkIndex_df160 8 = .ok (.pop, 1) := by decide +kernel
theorem dJ0_checkIndex_df160_9 : decode cJ0_checkIndex_df160 9 = .ok (.return_, 1) := by decide +kernel
theorem dJ1_charAt_3b067_0 : decode cJ1_charAt_3b067 0 = .ok (.iload_n 1, 1) := by decide +kernel
theorem dJ1_charAt_3b067_1 : decode cJ1_charAt_3b067 1 = .ok (.aload_n 0, 1) := by decide +kernel
theorem dJ1_charAt_3b067_2 : decode cJ1_charAt_3b067 2 = .ok (.arraylength, 1) := by decide +kernel
theorem dJ1_charAt_3b067_3 : decode cJ1_charAt_3b067 3 = .ok (.invokestatic 9, 3) := by decide +kernel
theorem dJ1_charAt_3b067_6 : decode cJ1_charAt_3b067 6 = .ok (.aload_n 0, 1) := by decide +kernel
theorem dJ1_charAt_3b067_7 : decode cJ1_charAt_3b067 7 = .ok (.iload_n 1, 1) := by decide +kernel
theorem dJ1_charAt_3b067_8 : decode cJ1_charAt_3b067 8 = .ok (.baload, 1) := by decide +kernel
theorem dJ1_charAt_3b067_9 : decode cJ1_charAt_3b067 9 = .ok (.sipush 255, 3) := by decide +kernel
theorem dJ1_charAt_3b067_12 : decode cJ1_charAt_3b067 12 = .ok (.iand, 1) := by decide +kernel
theorem dJ1_charAt_3b067_13 : decode cJ1_charAt_3b067 13 = .ok (.i2c, 1) := by decide +kernel
theorem dJ1_charAt_3b067_14 : decode cJ1_charAt_3b067 14 = .ok (.ireturn, 1) := by decide +kernel
theorem dJ1_canEncode_fc78d_0 : decode cJ1_canEncode_fc78d 0 = .ok (.iload_n 0, 1) := by decide +kernel
theorem dJ1_canEncode_fc78d_1 : decode cJ1_canEncode_fc78d 1 = .ok (.sipush 255, 3) := by decide +kernel
theorem dJ1_canEncode_fc78d_4 : decode cJ1_canEncode_fc78d 4 = .ok (.if_icmp .gt 7, 3) := by decide +kernel
theorem dJ1_canEncode_fc78d_7 : decode cJ1_canEncode_fc78d 7 = .ok (.iconst 1, 1) := by decide +kernel
theorem dJ1_canEncode_fc78d_8 : decode cJ1_canEncode_fc78d 8 = .ok (.goto 4, 3) := by decide +kernel
theorem dJ1_canEncode_fc78d_11 : decode cJ1_canEncode_fc78d 11 = .ok (.iconst 0, 1) := by decide +kernel
theorem dJ1_canEncode_fc78d_12 : decode cJ1_canEncode_fc78d 12 = .ok (.ireturn, 1) := by decide +kernel
theorem dJ7_fill_53178_0 : decode cJ7_fill_53178 0 = .ok (.iconst 0, 1) := by decide +kernel
theorem dJ7_fill_53178_1 : decode cJ7_fill_53178 1 = .ok (.istore_n 2, 1) := by decide +kernel
theorem dJ7_fill_53178_2 : decode cJ7_fill_53178 2 = .ok (.aload_n 0, 1) := by decide +kernel
theorem dJ7_fill_53178_3 : decode cJ7_fill_53178 3 = .ok (.arraylength, 1) := by decide +kernel
theorem dJ7_fill_53178_4 : decode cJ7_fill_53178 4 = .ok (.istore_n 3, 1) := by decide +kernel
theorem dJ7_fill_53178_5 : decode cJ7_fill_53178 5 = .ok (.iload_n 2, 1) := by decide +kernel
theorem dJ7_fill_53178_6 : decode cJ7_fill_53178 6 = .ok (.iload_n 3, 1) := by decide +kernel
theorem dJ7_fill_53178_7 : decode cJ7_fill_53178 7 = .ok (.if_icmp .ge 13, 3) := by decide +kernel
theorem dJ7_fill_53178_10 : decode cJ7_fill_53178 10 = .ok (.aload_n 0, 1) := by decide +kernel
theorem dJ7_fill_53178_11 : decode cJ7_fill_53178 11 = .ok (.iload_n 2, 1) := by decide +kernel
theorem dJ7_fill_53178_12 : decode cJ7_fill_53178 12 = .ok (.iload_n 1, 1) := by decide +kernel
theorem dJ7_fill_53178_13 : decode cJ7_fill_53178 13 = .ok (.iastore, 1) := by decide +kernel
theorem dJ7_fill_53178_14 : decode cJ7_fill_53178 14 = .ok (.iinc 2 1, 3) := by decide +kernel
theorem dJ7_fill_53178_17 : decode cJ7_fill_53178 17 = .ok (.goto (-12), 3) := by decide +kernel
theorem dJ7_fill_53178_20 : decode cJ7_fill_53178 20 = .ok (.return_, 1) := by decide +kernel
theorem dJ3_checkIndex_8e157_0 : decode cJ3_checkIndex_8e157 0 = .ok (.iload_n 0, 1) := by decide +kernel
theorem dJ3_checkIndex_8e157_1 : decode cJ3_checkIndex_8e157 1 = .ok (.ifCond .lt 8, 3) := by decide +kernel
theorem dJ3_checkIndex_8e157_4 : decode cJ3_checkIndex_8e157 4 = .ok (.iload_n 0, 1) := by decide +kernel
theorem dJ3_checkIndex_8e157_5 : decode cJ3_checkIndex_8e157 5 = .ok (.iload_n 1, 1) := by decide +kernel
theorem dJ3_checkIndex_8e157_6 : decode cJ3_checkIndex_8e157 6 = .ok (.if_icmp .lt 10, 3) := by decide +kernel
theorem dJ3_checkIndex_8e157_9 : decode cJ3_checkIndex_8e157 9 = .ok (.aload_n 2, 1) := by decide +kernel
theorem dJ3_checkIndex_8e157_10 : decode cJ3_checkIndex_8e157 10 = .ok (.iload_n 0, 1) := by decide +kernel
theorem dJ3_checkIndex_8e157_11 : decode cJ3_checkIndex_8e157 11 = .ok (.iload_n 1, 1) := by decide +kernel
theorem dJ3_checkIndex_8e157_12 : decode cJ3_checkIndex_8e157 12 = .ok (.invokestatic 95, 3) := by decide +kernel
theorem dJ3_checkIndex_8e157_15 : decode cJ3_checkIndex_8e157 15 = .ok (.athrow, 1) := by decide +kernel
theorem dJ3_checkIndex_8e157_16 : decode cJ3_checkIndex_8e157 16 = .ok (.iload_n 0, 1) := by decide +kernel
theorem dJ3_checkIndex_8e157_17 : decode cJ3_checkIndex_8e157 17 = .ok (.ireturn, 1) := by decide +kernel
