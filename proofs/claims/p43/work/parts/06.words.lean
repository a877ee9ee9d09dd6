theorem hp_m1 {w : Cond} (h : w ∈ tables_1_1) : w ∈ lw_tbl := List.mem_append_right _ (List.mem_append_left _ h)
theorem hp_m2 {w : Cond} (h : w ∈ tables_1_2) : w ∈ lw_tbl := List.mem_append_right _ (List.mem_append_right _ (List.mem_append_left _ h))
theorem hp_m3 {w : Cond} (h : w ∈ tables_1_3) : w ∈ lw_tbl := List.mem_append_right _ (List.mem_append_right _ (List.mem_append_right _ (List.mem_append_left _ h)))
theorem hp_m4 {w : Cond} (h : w ∈ tables_1_4) : w ∈ lw_tbl := List.mem_append_right _ (List.mem_append_right _ (List.mem_append_right _ (List.mem_append_right _ h)))
theorem hp_sel {y : MethodName} {n : Nat} (h : (y, n) ∈ lw_privs) : Cond.selects y.cls y y ∈ lw_tbl := List.mem_append_left _ (List.mem_map.mpr ⟨(y, n), h, rfl⟩)
theorem in_X1 : ∀ w ∈ u_ws RX1 TX1 3, hp_ok w := fun w h => ⟨(by decide +kernel : ∀ w ∈ u_ws RX1 TX1 3, w ∈ lw_tbl) w h, (by decide +kernel : ∀ w ∈ u_ws RX1 TX1 3, goodWord w = true) w h⟩
theorem in_X2 : ∀ w ∈ u_ws RX2 TX2 10, hp_ok w := fun w h => ⟨(by decide +kernel : ∀ w ∈ u_ws RX2 TX2 10, w ∈ lw_tbl) w h, (by decide +kernel : ∀ w ∈ u_ws RX2 TX2 10, goodWord w = true) w h⟩
theorem in_X3 : ∀ w ∈ u_ws RX3 TX3 5, hp_ok w := fun w h => ⟨(by decide +kernel : ∀ w ∈ u_ws RX3 TX3 5, w ∈ lw_tbl) w h, (by decide +kernel : ∀ w ∈ u_ws RX3 TX3 5, goodWord w = true) w h⟩
theorem in_X4 : ∀ w ∈ u_ws RX4 TX4 2, hp_ok w := fun w h => ⟨(by decide +kernel : ∀ w ∈ u_ws RX4 TX4 2, w ∈ lw_tbl) w h, (by decide +kernel : ∀ w ∈ u_ws RX4 TX4 2, goodWord w = true) w h⟩
theorem in_X5 : ∀ w ∈ u_ws RX5 TX5 10, hp_ok w := fun w h => ⟨(by decide +kernel : ∀ w ∈ u_ws RX5 TX5 10, w ∈ lw_tbl) w h, (by decide +kernel : ∀ w ∈ u_ws RX5 TX5 10, goodWord w = true) w h⟩
theorem in_X6 : ∀ w ∈ u_ws RX6 TX6 3, hp_ok w := fun w h => ⟨(by decide +kernel : ∀ w ∈ u_ws RX6 TX6 3, w ∈ lw_tbl) w h, (by decide +kernel : ∀ w ∈ u_ws RX6 TX6 3, goodWord w = true) w h⟩
theorem in_X8 : ∀ w ∈ u_ws RX8 TX8 10, hp_ok w := fun w h => ⟨(by decide +kernel : ∀ w ∈ u_ws RX8 TX8 10, w ∈ lw_tbl) w h, (by decide +kernel : ∀ w ∈ u_ws RX8 TX8 10, goodWord w = true) w h⟩
theorem wd_1_32 : hp_ok (Cond.methodLink "HallPhone" 1 ⟨"java/lang/Object", "<init>", "()V"⟩) := ⟨hp_m1 (List.mem_of_getElem? (i := 32) (by decide +kernel)), rfl⟩
theorem wd_1_37 : Cond.methodLinkNest "HallPhone" 9 ⟨"HallPhone$House", "<init>", "()V"⟩ "HallPhone" ∈ lw_tbl := hp_m1 (List.mem_of_getElem? (i := 37) (by decide +kernel))
theorem wd_1_40 : hp_ok (Cond.methodLink "HallPhone$House" 3 ⟨"java/lang/Object", "<init>", "()V"⟩) := ⟨hp_m1 (List.mem_of_getElem? (i := 40) (by decide +kernel)), rfl⟩
theorem wd_1_43 : Cond.methodLinkNest "HallPhone$House" 36 ⟨"HallPhone$Phone", "<init>", "()V"⟩ "HallPhone" ∈ lw_tbl := hp_m1 (List.mem_of_getElem? (i := 43) (by decide +kernel))
theorem wd_1_46 : hp_ok (Cond.methodLink "HallPhone$Phone" 3 ⟨"java/lang/Object", "<init>", "()V"⟩) := ⟨hp_m1 (List.mem_of_getElem? (i := 46) (by decide +kernel)), rfl⟩
theorem wd_1_47 : hp_ok (Cond.fieldLink "HallPhone$Phone" 9 "HallPhone$Phone" "state" "I") := ⟨hp_m1 (List.mem_of_getElem? (i := 47) (by decide +kernel)), rfl⟩
theorem wd_1_48 : Cond.fieldLinkNest "HallPhone$House" 93 "HallPhone$Phone" "state" "I" "HallPhone" ∈ lw_tbl := hp_m1 (List.mem_of_getElem? (i := 48) (by decide +kernel))
theorem wd_1_49 : hp_ok (Cond.fieldLink "HallPhone$Phone" 15 "HallPhone$Phone" "flat" "I") := ⟨hp_m1 (List.mem_of_getElem? (i := 49) (by decide +kernel)), rfl⟩
theorem wd_1_50 : Cond.fieldLinkNest "HallPhone$House" 96 "HallPhone$Phone" "flat" "I" "HallPhone" ∈ lw_tbl := hp_m1 (List.mem_of_getElem? (i := 50) (by decide +kernel))
theorem wd_1_51 : hp_ok (Cond.fieldLink "HallPhone$Phone" 18 "HallPhone$Phone" "spoken" "I") := ⟨hp_m1 (List.mem_of_getElem? (i := 51) (by decide +kernel)), rfl⟩
theorem wd_1_52 : Cond.fieldLinkNest "HallPhone$House" 99 "HallPhone$Phone" "spoken" "I" "HallPhone" ∈ lw_tbl := hp_m1 (List.mem_of_getElem? (i := 52) (by decide +kernel))
theorem wd_1_53 : hp_ok (Cond.fieldLink "HallPhone$Phone" 21 "HallPhone$Phone" "left" "I") := ⟨hp_m1 (List.mem_of_getElem? (i := 53) (by decide +kernel)), rfl⟩
theorem wd_1_54 : Cond.fieldLinkNest "HallPhone$House" 102 "HallPhone$Phone" "left" "I" "HallPhone" ∈ lw_tbl := hp_m1 (List.mem_of_getElem? (i := 54) (by decide +kernel))
theorem wd_1_55 : hp_ok (Cond.fieldLink "HallPhone$Phone" 24 "HallPhone$Phone" "isFromOutside" "Z") := ⟨hp_m1 (List.mem_of_getElem? (i := 55) (by decide +kernel)), rfl⟩
theorem wd_1_56 : Cond.fieldLinkNest "HallPhone$House" 105 "HallPhone$Phone" "isFromOutside" "Z" "HallPhone" ∈ lw_tbl := hp_m1 (List.mem_of_getElem? (i := 56) (by decide +kernel))
theorem wd_1_71 : Cond.methodLinkNest "HallPhone$House" 43 ⟨"HallPhone$Queue", "<init>", "()V"⟩ "HallPhone" ∈ lw_tbl := hp_m1 (List.mem_of_getElem? (i := 71) (by decide +kernel))
theorem wd_1_74 : hp_ok (Cond.methodLink "HallPhone$Queue" 3 ⟨"java/lang/Object", "<init>", "()V"⟩) := ⟨hp_m1 (List.mem_of_getElem? (i := 74) (by decide +kernel)), rfl⟩
theorem wd_1_75 : hp_ok (Cond.fieldLink "HallPhone$Queue" 9 "HallPhone$Queue" "flats" "[I") := ⟨hp_m1 (List.mem_of_getElem? (i := 75) (by decide +kernel)), rfl⟩
theorem wd_1_76 : hp_ok (Cond.fieldLink "HallPhone$Queue" 15 "HallPhone$Queue" "length" "I") := ⟨hp_m1 (List.mem_of_getElem? (i := 76) (by decide +kernel)), rfl⟩
theorem wd_1_77 : Cond.fieldLinkNest "HallPhone$House" 71 "HallPhone$Queue" "length" "I" "HallPhone" ∈ lw_tbl := hp_m1 (List.mem_of_getElem? (i := 77) (by decide +kernel))
theorem wd_1_85 : Cond.methodLinkNest "HallPhone$House" 50 ⟨"HallPhone$Slate", "<init>", "()V"⟩ "HallPhone" ∈ lw_tbl := hp_m1 (List.mem_of_getElem? (i := 85) (by decide +kernel))
theorem wd_1_88 : hp_ok (Cond.methodLink "HallPhone$Slate" 3 ⟨"java/lang/Object", "<init>", "()V"⟩) := ⟨hp_m1 (List.mem_of_getElem? (i := 88) (by decide +kernel)), rfl⟩
theorem wd_1_89 : hp_ok (Cond.fieldLink "HallPhone$Slate" 9 "HallPhone$Slate" "flats" "[I") := ⟨hp_m1 (List.mem_of_getElem? (i := 89) (by decide +kernel)), rfl⟩
theorem wd_1_90 : hp_ok (Cond.fieldLink "HallPhone$Slate" 15 "HallPhone$Slate" "minutes" "[I") := ⟨hp_m1 (List.mem_of_getElem? (i := 90) (by decide +kernel)), rfl⟩
theorem wd_1_91 : hp_ok (Cond.fieldLink "HallPhone$Slate" 18 "HallPhone$Slate" "length" "I") := ⟨hp_m1 (List.mem_of_getElem? (i := 91) (by decide +kernel)), rfl⟩
theorem wd_1_92 : Cond.fieldLinkNest "HallPhone$House" 74 "HallPhone$Slate" "length" "I" "HallPhone" ∈ lw_tbl := hp_m1 (List.mem_of_getElem? (i := 92) (by decide +kernel))
theorem wd_1_93 : Cond.fieldLinkNest "HallPhone" 116 "HallPhone$Slate" "length" "I" "HallPhone" ∈ lw_tbl := hp_m1 (List.mem_of_getElem? (i := 93) (by decide +kernel))
theorem wd_1_101 : hp_ok (Cond.fieldLink "HallPhone$House" 9 "HallPhone$House" "flats" "I") := ⟨hp_m1 (List.mem_of_getElem? (i := 101) (by decide +kernel)), rfl⟩
theorem wd_1_102 : Cond.fieldLinkNest "HallPhone" 141 "HallPhone$House" "flats" "I" "HallPhone" ∈ lw_tbl := hp_m1 (List.mem_of_getElem? (i := 102) (by decide +kernel))
theorem wd_1_103 : hp_ok (Cond.fieldLink "HallPhone$House" 15 "HallPhone$House" "time" "I") := ⟨hp_m1 (List.mem_of_getElem? (i := 103) (by decide +kernel)), rfl⟩
theorem wd_1_104 : hp_ok (Cond.fieldLink "HallPhone$House" 18 "HallPhone$House" "minutesOfEndedCalls" "I") := ⟨hp_m1 (List.mem_of_getElem? (i := 104) (by decide +kernel)), rfl⟩
theorem wd_1_105 : hp_ok (Cond.fieldLink "HallPhone$House" 21 "HallPhone$House" "settings" "[I") := ⟨hp_m1 (List.mem_of_getElem? (i := 105) (by decide +kernel)), rfl⟩
theorem wd_1_106 : hp_ok (Cond.fieldLink "HallPhone$House" 25 "HallPhone$House" "accounts" "[I") := ⟨hp_m1 (List.mem_of_getElem? (i := 106) (by decide +kernel)), rfl⟩
theorem wd_1_107 : hp_ok (Cond.fieldLink "HallPhone$House" 28 "HallPhone$House" "numbers" "[I") := ⟨hp_m1 (List.mem_of_getElem? (i := 107) (by decide +kernel)), rfl⟩
theorem wd_1_108 : hp_ok (Cond.fieldLink "HallPhone$House" 31 "HallPhone$House" "hearing" "[I") := ⟨hp_m1 (List.mem_of_getElem? (i := 108) (by decide +kernel)), rfl⟩
theorem wd_1_109 : hp_ok (Cond.fieldLink "HallPhone$House" 37 "HallPhone$House" "phone" "LHallPhone$Phone;") := ⟨hp_m1 (List.mem_of_getElem? (i := 109) (by decide +kernel)), rfl⟩
theorem wd_1_110 : hp_ok (Cond.fieldLink "HallPhone$House" 44 "HallPhone$House" "queue" "LHallPhone$Queue;") := ⟨hp_m1 (List.mem_of_getElem? (i := 110) (by decide +kernel)), rfl⟩
theorem wd_1_111 : Cond.fieldLinkNest "HallPhone" 103 "HallPhone$House" "queue" "LHallPhone$Queue;" "HallPhone" ∈ lw_tbl := hp_m1 (List.mem_of_getElem? (i := 111) (by decide +kernel))
theorem wd_1_112 : hp_ok (Cond.fieldLink "HallPhone$House" 51 "HallPhone$House" "slate" "LHallPhone$Slate;") := ⟨hp_m1 (List.mem_of_getElem? (i := 112) (by decide +kernel)), rfl⟩
theorem wd_1_113 : Cond.fieldLinkNest "HallPhone" 112 "HallPhone$House" "slate" "LHallPhone$Slate;" "HallPhone" ∈ lw_tbl := hp_m1 (List.mem_of_getElem? (i := 113) (by decide +kernel))
theorem wd_1_137 : Cond.methodLinkNest "HallPhone" 21 ⟨"HallPhone$History", "<init>", "()V"⟩ "HallPhone" ∈ lw_tbl := hp_m1 (List.mem_of_getElem? (i := 137) (by decide +kernel))
theorem wd_1_140 : hp_ok (Cond.methodLink "HallPhone$History" 3 ⟨"java/lang/Object", "<init>", "()V"⟩) := ⟨hp_m1 (List.mem_of_getElem? (i := 140) (by decide +kernel)), rfl⟩
theorem wd_1_143 : Cond.methodLinkNest "HallPhone$History" 24 ⟨"HallPhone$House", "<init>", "()V"⟩ "HallPhone" ∈ lw_tbl := hp_m1 (List.mem_of_getElem? (i := 143) (by decide +kernel))
theorem wd_1_144 : hp_ok (Cond.fieldLink "HallPhone$History" 11 "HallPhone$History" "past" "[LHallPhone$House;") := ⟨hp_m1 (List.mem_of_getElem? (i := 144) (by decide +kernel)), rfl⟩
theorem wd_1_145 : hp_ok (Cond.fieldLink "HallPhone$History" 17 "HallPhone$History" "next" "I") := ⟨hp_m1 (List.mem_of_getElem? (i := 145) (by decide +kernel)), rfl⟩
theorem wd_1_146 : hp_ok (Cond.fieldLink "HallPhone$History" 21 "HallPhone$History" "count" "I") := ⟨hp_m1 (List.mem_of_getElem? (i := 146) (by decide +kernel)), rfl⟩
theorem wd_1_147 : Cond.fieldLinkNest "HallPhone" 83 "HallPhone$History" "count" "I" "HallPhone" ∈ lw_tbl := hp_m1 (List.mem_of_getElem? (i := 147) (by decide +kernel))
theorem wd_1_157 : Cond.methodLinkNest "HallPhone" 38 ⟨"HallPhone$Reader", "<init>", "()V"⟩ "HallPhone" ∈ lw_tbl := hp_m1 (List.mem_of_getElem? (i := 157) (by decide +kernel))
theorem wd_1_160 : hp_ok (Cond.methodLink "HallPhone$Reader" 3 ⟨"java/lang/Object", "<init>", "()V"⟩) := ⟨hp_m1 (List.mem_of_getElem? (i := 160) (by decide +kernel)), rfl⟩
theorem wd_1_161 : hp_ok (Cond.fieldLink "HallPhone$Reader" 9 "HallPhone$Reader" "bytes" "[I") := ⟨hp_m1 (List.mem_of_getElem? (i := 161) (by decide +kernel)), rfl⟩
theorem wd_1_162 : hp_ok (Cond.fieldLink "HallPhone$Reader" 15 "HallPhone$Reader" "length" "I") := ⟨hp_m1 (List.mem_of_getElem? (i := 162) (by decide +kernel)), rfl⟩
theorem wd_1_163 : hp_ok (Cond.fieldLink "HallPhone$Reader" 19 "HallPhone$Reader" "at" "I") := ⟨hp_m1 (List.mem_of_getElem? (i := 163) (by decide +kernel)), rfl⟩
theorem wd_1_164 : hp_ok (Cond.fieldLink "HallPhone$Reader" 22 "HallPhone$Reader" "kind" "I") := ⟨hp_m1 (List.mem_of_getElem? (i := 164) (by decide +kernel)), rfl⟩
theorem wd_1_165 : hp_ok (Cond.fieldLink "HallPhone$Reader" 25 "HallPhone$Reader" "start" "I") := ⟨hp_m1 (List.mem_of_getElem? (i := 165) (by decide +kernel)), rfl⟩
theorem wd_1_166 : hp_ok (Cond.fieldLink "HallPhone$Reader" 28 "HallPhone$Reader" "number" "I") := ⟨hp_m1 (List.mem_of_getElem? (i := 166) (by decide +kernel)), rfl⟩
theorem wd_1_167 : hp_ok (Cond.fieldLink "HallPhone$Reader" 31 "HallPhone$Reader" "verb" "LHallPhone$Verb;") := ⟨hp_m1 (List.mem_of_getElem? (i := 167) (by decide +kernel)), rfl⟩
theorem wd_1_168 : Cond.fieldLinkNest "HallPhone" 306 "HallPhone$Reader" "verb" "LHallPhone$Verb;" "HallPhone" ∈ lw_tbl := hp_m1 (List.mem_of_getElem? (i := 168) (by decide +kernel))
theorem wd_1_169 : hp_ok (Cond.fieldLink "HallPhone$Reader" 35 "HallPhone$Reader" "flat" "I") := ⟨hp_m1 (List.mem_of_getElem? (i := 169) (by decide +kernel)), rfl⟩
theorem wd_1_170 : Cond.fieldLinkNest "HallPhone" 309 "HallPhone$Reader" "flat" "I" "HallPhone" ∈ lw_tbl := hp_m1 (List.mem_of_getElem? (i := 170) (by decide +kernel))
theorem wd_1_171 : hp_ok (Cond.fieldLink "HallPhone$Reader" 38 "HallPhone$Reader" "amount" "I") := ⟨hp_m1 (List.mem_of_getElem? (i := 171) (by decide +kernel)), rfl⟩
theorem wd_1_172 : Cond.fieldLinkNest "HallPhone" 312 "HallPhone$Reader" "amount" "I" "HallPhone" ∈ lw_tbl := hp_m1 (List.mem_of_getElem? (i := 172) (by decide +kernel))
theorem wd_1_173 : hp_ok (Cond.fieldLink "HallPhone$Reader" 41 "HallPhone$Reader" "error" "I") := ⟨hp_m1 (List.mem_of_getElem? (i := 173) (by decide +kernel)), rfl⟩
theorem wd_1_174 : Cond.fieldLinkNest "HallPhone" 318 "HallPhone$Reader" "error" "I" "HallPhone" ∈ lw_tbl := hp_m1 (List.mem_of_getElem? (i := 174) (by decide +kernel))
theorem wd_1_198 : hp_ok (Cond.methodLink "HallPhone" 52 ⟨"java/lang/StringBuilder", "<init>", "()V"⟩) := ⟨hp_m1 (List.mem_of_getElem? (i := 198) (by decide +kernel)), rfl⟩
theorem wd_1_228 : Cond.methodLinkNest "HallPhone" 59 ⟨"HallPhone$Reader", "takeText", "(Ljava/lang/String;)V"⟩ "HallPhone" ∈ lw_tbl := hp_m1 (List.mem_of_getElem? (i := 228) (by decide +kernel))
theorem wd_1_232 : hp_ok (Cond.methodLink "HallPhone$Reader" 52 ⟨"java/lang/String", "length", "()I"⟩) := ⟨hp_m1 (List.mem_of_getElem? (i := 232) (by decide +kernel)), rfl⟩
theorem wd_2_1 : hp_ok (Cond.methodLink "HallPhone$Reader" 57 ⟨"java/lang/String", "charAt", "(I)C"⟩) := ⟨hp_m2 (List.mem_of_getElem? (i := 1) (by decide +kernel)), rfl⟩
theorem wd_2_39 : hp_ok (Cond.methodLink "HallPhone$Reader" 48 ⟨"HallPhone$Reader", "begin", "(I)V"⟩) := ⟨hp_m2 (List.mem_of_getElem? (i := 39) (by decide +kernel)), rfl⟩
theorem wd_2_43 : hp_ok (Cond.methodLink "HallPhone$Reader" 61 ⟨"java/lang/Math", "min", "(II)I"⟩) := ⟨hp_m2 (List.mem_of_getElem? (i := 43) (by decide +kernel)), rfl⟩
theorem wd_2_46 : hp_ok (Cond.methodLink "HallPhone" 63 ⟨"HallPhone", "replaceByText", "()I"⟩) := ⟨hp_m2 (List.mem_of_getElem? (i := 46) (by decide +kernel)), rfl⟩
theorem wd_2_50 : Cond.methodLinkNest "HallPhone" 297 ⟨"HallPhone$House", "clear", "()V"⟩ "HallPhone" ∈ lw_tbl := hp_m2 (List.mem_of_getElem? (i := 50) (by decide +kernel))
theorem wd_2_54 : Cond.fieldLinkNest "HallPhone$House" 55 "HallPhone" "FIRST_SETTINGS" "[I" "HallPhone" ∈ lw_tbl := hp_m2 (List.mem_of_getElem? (i := 54) (by decide +kernel))
theorem wd_2_56 : Cond.methodLinkNest "HallPhone$House" 58 ⟨"HallPhone", "copyRow", "([I[I)V"⟩ "HallPhone" ∈ lw_tbl := hp_m2 (List.mem_of_getElem? (i := 56) (by decide +kernel))
theorem wd_2_59 : hp_ok (Cond.methodLink "HallPhone" 336 ⟨"java/lang/Math", "min", "(II)I"⟩) := ⟨hp_m2 (List.mem_of_getElem? (i := 59) (by decide +kernel)), rfl⟩
theorem wd_2_60 : hp_ok (Cond.methodLink "HallPhone" 341 ⟨"java/lang/System", "arraycopy", "(Ljava/lang/Object;ILjava/lang/Object;II)V"⟩) := ⟨hp_m2 (List.mem_of_getElem? (i := 60) (by decide +kernel)), rfl⟩
theorem wd_2_63 : hp_ok (Cond.methodLink "HallPhone$House" 62 ⟨"java/util/Arrays", "fill", "([II)V"⟩) := ⟨hp_m2 (List.mem_of_getElem? (i := 63) (by decide +kernel)), rfl⟩
theorem wd_2_66 : Cond.methodLinkNest "HallPhone$House" 68 ⟨"HallPhone$Phone", "putDown", "()V"⟩ "HallPhone" ∈ lw_tbl := hp_m2 (List.mem_of_getElem? (i := 66) (by decide +kernel))
theorem wd_2_70 : Cond.methodLinkNest "HallPhone" 300 ⟨"HallPhone$Reader", "readFlats", "(LHallPhone$House;)Z"⟩ "HallPhone" ∈ lw_tbl := hp_m2 (List.mem_of_getElem? (i := 70) (by decide +kernel))
theorem wd_2_74 : hp_ok (Cond.methodLink "HallPhone$Reader" 67 ⟨"HallPhone$Reader", "next", "()V"⟩) := ⟨hp_m2 (List.mem_of_getElem? (i := 74) (by decide +kernel)), rfl⟩
theorem wd_2_78 : hp_ok (Cond.methodLink "HallPhone$Reader" 123 ⟨"HallPhone$Reader", "byteAt", "(I)I"⟩) := ⟨hp_m2 (List.mem_of_getElem? (i := 78) (by decide +kernel)), rfl⟩
theorem wd_2_82 : hp_ok (Cond.methodLink "HallPhone$Reader" 127 ⟨"HallPhone$Reader", "isSpace", "(I)Z"⟩) := ⟨hp_m2 (List.mem_of_getElem? (i := 82) (by decide +kernel)), rfl⟩
theorem wd_2_85 : hp_ok (Cond.methodLink "HallPhone$Reader" 130 ⟨"HallPhone$Reader", "isLetter", "(I)Z"⟩) := ⟨hp_m2 (List.mem_of_getElem? (i := 85) (by decide +kernel)), rfl⟩
theorem wd_2_88 : hp_ok (Cond.methodLink "HallPhone$Reader" 133 ⟨"HallPhone$Reader", "isDigit", "(I)Z"⟩) := ⟨hp_m2 (List.mem_of_getElem? (i := 88) (by decide +kernel)), rfl⟩
theorem wd_2_91 : hp_ok (Cond.methodLink "HallPhone$Reader" 136 ⟨"HallPhone$Reader", "nextNumber", "()V"⟩) := ⟨hp_m2 (List.mem_of_getElem? (i := 91) (by decide +kernel)), rfl⟩
theorem wd_2_96 : hp_ok (Cond.methodLink "HallPhone$Reader" 72 ⟨"HallPhone$Reader", "isWord", "(Ljava/lang/String;)Z"⟩) := ⟨hp_m2 (List.mem_of_getElem? (i := 96) (by decide +kernel)), rfl⟩
theorem wd_2_100 : hp_ok (Cond.methodLink "HallPhone$Reader" 76 ⟨"HallPhone$Reader", "fail", "(I)Z"⟩) := ⟨hp_m2 (List.mem_of_getElem? (i := 100) (by decide +kernel)), rfl⟩
theorem wd_2_104 : Cond.methodLinkNest "HallPhone$Reader" 80 ⟨"HallPhone$House", "addFlat", "(I)Z"⟩ "HallPhone" ∈ lw_tbl := hp_m2 (List.mem_of_getElem? (i := 104) (by decide +kernel))
theorem wd_2_108 : hp_ok (Cond.methodLink "HallPhone$House" 89 ⟨"HallPhone$House", "put", "(III)V"⟩) := ⟨hp_m2 (List.mem_of_getElem? (i := 108) (by decide +kernel)), rfl⟩
theorem wd_2_113 : Cond.methodLinkNest "HallPhone$Reader" 87 ⟨"HallPhone$House", "put", "(III)V"⟩ "HallPhone" ∈ lw_tbl := hp_m2 (List.mem_of_getElem? (i := 113) (by decide +kernel))
theorem wd_2_114 : Cond.methodLinkNest "HallPhone" 303 ⟨"HallPhone$Reader", "readStatement", "(I)Z"⟩ "HallPhone" ∈ lw_tbl := hp_m2 (List.mem_of_getElem? (i := 114) (by decide +kernel))
theorem wd_2_118 : hp_ok (Cond.methodLink "HallPhone$Reader" 91 ⟨"HallPhone$Reader", "verbRead", "()LHallPhone$Verb;"⟩) := ⟨hp_m2 (List.mem_of_getElem? (i := 118) (by decide +kernel)), rfl⟩
theorem wd_2_122 : Cond.fieldLinkNest "HallPhone$Reader" 115 "HallPhone$Verb" "ALL" "[LHallPhone$Verb;" "HallPhone" ∈ lw_tbl := hp_m2 (List.mem_of_getElem? (i := 122) (by decide +kernel))
theorem wd_2_124 : hp_ok (Cond.methodLink "HallPhone$Reader" 101 ⟨"HallPhone$Reader", "readNumber", "(II)Z"⟩) := ⟨hp_m2 (List.mem_of_getElem? (i := 124) (by decide +kernel)), rfl⟩
theorem wd_2_128 : Cond.methodLinkNest "HallPhone$Reader" 105 ⟨"HallPhone$Verb", "takesNumber", "()Z"⟩ "HallPhone" ∈ lw_tbl := hp_m2 (List.mem_of_getElem? (i := 128) (by decide +kernel))
theorem wd_2_133 : Cond.methodLinkNest "HallPhone" 181 ⟨"HallPhone$House", "refusal", "(LHallPhone$Verb;II)I"⟩ "HallPhone" ∈ lw_tbl := hp_m2 (List.mem_of_getElem? (i := 133) (by decide +kernel))
theorem wd_2_137 : hp_ok (Cond.methodLink "HallPhone$House" 127 ⟨"HallPhone$House", "get", "(II)I"⟩) := ⟨hp_m2 (List.mem_of_getElem? (i := 137) (by decide +kernel)), rfl⟩
theorem wd_2_141 : hp_ok (Cond.fieldLink "HallPhone$House" 188 "HallPhone$1" "$SwitchMap$HallPhone$Verb" "[I") := ⟨hp_m2 (List.mem_of_getElem? (i := 141) (by decide +kernel)), rfl⟩
theorem wd_2_143 : hp_ok (Cond.methodLink "HallPhone$House" 193 ⟨"HallPhone$Verb", "ordinal", "()I"⟩) := ⟨hp_m2 (List.mem_of_getElem? (i := 143) (by decide +kernel)), rfl⟩
theorem wd_2_149 : hp_ok (Cond.methodLink "HallPhone$House" 172 ⟨"HallPhone$House", "isCalled", "(I)Z"⟩) := ⟨hp_m2 (List.mem_of_getElem? (i := 149) (by decide +kernel)), rfl⟩
theorem wd_2_153 : Cond.methodLinkNest "HallPhone" 185 ⟨"HallPhone$House", "perform", "(LHallPhone$Verb;II)I"⟩ "HallPhone" ∈ lw_tbl := hp_m2 (List.mem_of_getElem? (i := 153) (by decide +kernel))
theorem wd_2_157 : hp_ok (Cond.methodLink "HallPhone$House" 198 ⟨"HallPhone$House", "setOut", "(II)I"⟩) := ⟨hp_m2 (List.mem_of_getElem? (i := 157) (by decide +kernel)), rfl⟩
theorem wd_2_161 : hp_ok (Cond.methodLink "HallPhone$House" 201 ⟨"HallPhone$House", "giveUp", "(I)I"⟩) := ⟨hp_m2 (List.mem_of_getElem? (i := 161) (by decide +kernel)), rfl⟩
theorem wd_2_165 : Cond.methodLinkNest "HallPhone$House" 181 ⟨"HallPhone$Queue", "leave", "(I)V"⟩ "HallPhone" ∈ lw_tbl := hp_m2 (List.mem_of_getElem? (i := 165) (by decide +kernel))
theorem wd_2_169 : hp_ok (Cond.methodLink "HallPhone$House" 152 ⟨"HallPhone$House", "endCall", "()I"⟩) := ⟨hp_m2 (List.mem_of_getElem? (i := 169) (by decide +kernel)), rfl⟩
theorem wd_2_173 : hp_ok (Cond.methodLink "HallPhone$House" 178 ⟨"HallPhone$House", "costOf", "(I)I"⟩) := ⟨hp_m2 (List.mem_of_getElem? (i := 173) (by decide +kernel)), rfl⟩
theorem wd_2_177 : hp_ok (Cond.methodLink "HallPhone$House" 204 ⟨"HallPhone$House", "takeRing", "(II)I"⟩) := ⟨hp_m2 (List.mem_of_getElem? (i := 177) (by decide +kernel)), rfl⟩
theorem wd_2_181 : hp_ok (Cond.methodLink "HallPhone$House" 216 ⟨"HallPhone$House", "outcomeOfRing", "(I)I"⟩) := ⟨hp_m2 (List.mem_of_getElem? (i := 181) (by decide +kernel)), rfl⟩
theorem wd_2_185 : Cond.methodLinkNest "HallPhone$House" 219 ⟨"HallPhone$Phone", "holdFor", "(II)V"⟩ "HallPhone" ∈ lw_tbl := hp_m2 (List.mem_of_getElem? (i := 185) (by decide +kernel))
theorem wd_2_189 : hp_ok (Cond.methodLink "HallPhone$House" 158 ⟨"HallPhone$House", "connect", "(IIZ)V"⟩) := ⟨hp_m2 (List.mem_of_getElem? (i := 189) (by decide +kernel)), rfl⟩
theorem wd_2_193 : Cond.methodLinkNest "HallPhone$House" 184 ⟨"HallPhone$Phone", "connect", "(IIZ)V"⟩ "HallPhone" ∈ lw_tbl := hp_m2 (List.mem_of_getElem? (i := 193) (by decide +kernel))
theorem wd_2_197 : Cond.methodLinkNest "HallPhone$House" 222 ⟨"HallPhone$Slate", "write", "(II)V"⟩ "HallPhone" ∈ lw_tbl := hp_m2 (List.mem_of_getElem? (i := 197) (by decide +kernel))
theorem wd_2_201 : hp_ok (Cond.methodLink "HallPhone$House" 207 ⟨"HallPhone$House", "takeMoney", "(II)I"⟩) := ⟨hp_m2 (List.mem_of_getElem? (i := 201) (by decide +kernel)), rfl⟩
theorem wd_2_205 : hp_ok (Cond.methodLink "HallPhone$House" 185 ⟨"HallPhone$House", "letPass", "(I)I"⟩) := ⟨hp_m2 (List.mem_of_getElem? (i := 205) (by decide +kernel)), rfl⟩
theorem wd_2_209 : hp_ok (Cond.methodLink "HallPhone$House" 138 ⟨"HallPhone$House", "isQuiet", "()Z"⟩) := ⟨hp_m2 (List.mem_of_getElem? (i := 209) (by decide +kernel)), rfl⟩
theorem wd_2_213 : hp_ok (Cond.methodLink "HallPhone$House" 109 ⟨"HallPhone$House", "flatsThatAre", "(I)I"⟩) := ⟨hp_m2 (List.mem_of_getElem? (i := 213) (by decide +kernel)), rfl⟩
theorem wd_2_217 : hp_ok (Cond.methodLink "HallPhone$House" 142 ⟨"HallPhone$House", "speakOneMinute", "()V"⟩) := ⟨hp_m2 (List.mem_of_getElem? (i := 217) (by decide +kernel)), rfl⟩
theorem wd_2_221 : hp_ok (Cond.methodLink "HallPhone$House" 131 ⟨"HallPhone$House", "isListener", "(I)Z"⟩) := ⟨hp_m2 (List.mem_of_getElem? (i := 221) (by decide +kernel)), rfl⟩
theorem wd_2_225 : hp_ok (Cond.methodLink "HallPhone$House" 165 ⟨"HallPhone$House", "hearOneMinute", "(II)V"⟩) := ⟨hp_m2 (List.mem_of_getElem? (i := 225) (by decide +kernel)), rfl⟩
theorem wd_2_229 : hp_ok (Cond.methodLink "HallPhone$House" 145 ⟨"HallPhone$House", "comeDown", "(I)V"⟩) := ⟨hp_m2 (List.mem_of_getElem? (i := 229) (by decide +kernel)), rfl⟩
theorem wd_2_233 : Cond.methodLinkNest "HallPhone$House" 169 ⟨"HallPhone$Slate", "wipeFor", "(I)I"⟩ "HallPhone" ∈ lw_tbl := hp_m2 (List.mem_of_getElem? (i := 233) (by decide +kernel))
theorem wd_2_237 : Cond.methodLinkNest "HallPhone$House" 175 ⟨"HallPhone$Queue", "join", "(I)V"⟩ "HallPhone" ∈ lw_tbl := hp_m2 (List.mem_of_getElem? (i := 237) (by decide +kernel))
theorem wd_3_1 : hp_ok (Cond.methodLink "HallPhone$House" 149 ⟨"HallPhone$House", "isCallOver", "()Z"⟩) := ⟨hp_m3 (List.mem_of_getElem? (i := 1) (by decide +kernel)), rfl⟩
theorem wd_3_5 : Cond.methodLinkNest "HallPhone$House" 155 ⟨"HallPhone$Queue", "at", "(I)I"⟩ "HallPhone" ∈ lw_tbl := hp_m3 (List.mem_of_getElem? (i := 5) (by decide +kernel))
theorem wd_3_9 : hp_ok (Cond.methodLink "HallPhone$House" 162 ⟨"HallPhone$House", "countWaiting", "()V"⟩) := ⟨hp_m3 (List.mem_of_getElem? (i := 9) (by decide +kernel)), rfl⟩
theorem wd_3_13 : hp_ok (Cond.methodLink "HallPhone$House" 213 ⟨"HallPhone$House", "changeSetting", "(II)I"⟩) := ⟨hp_m3 (List.mem_of_getElem? (i := 13) (by decide +kernel)), rfl⟩
theorem wd_3_17 : hp_ok (Cond.methodLink "HallPhone$House" 85 ⟨"HallPhone$House", "settingNumber", "(I)I"⟩) := ⟨hp_m3 (List.mem_of_getElem? (i := 17) (by decide +kernel)), rfl⟩
theorem wd_3_21 : Cond.methodLinkNest "HallPhone" 315 ⟨"HallPhone$Reader", "fail", "(I)Z"⟩ "HallPhone" ∈ lw_tbl := hp_m3 (List.mem_of_getElem? (i := 21) (by decide +kernel))
theorem wd_3_22 : Cond.methodLinkNest "HallPhone" 158 ⟨"HallPhone$House", "copyFrom", "(LHallPhone$House;)V"⟩ "HallPhone" ∈ lw_tbl := hp_m3 (List.mem_of_getElem? (i := 22) (by decide +kernel))
theorem wd_3_26 : Cond.methodLinkNest "HallPhone$House" 75 ⟨"HallPhone$Phone", "copyFrom", "(LHallPhone$Phone;)V"⟩ "HallPhone" ∈ lw_tbl := hp_m3 (List.mem_of_getElem? (i := 26) (by decide +kernel))
theorem wd_3_30 : Cond.methodLinkNest "HallPhone$House" 79 ⟨"HallPhone$Queue", "copyFrom", "(LHallPhone$Queue;)V"⟩ "HallPhone" ∈ lw_tbl := hp_m3 (List.mem_of_getElem? (i := 30) (by decide +kernel))
theorem wd_3_34 : Cond.methodLinkNest "HallPhone$Queue" 19 ⟨"HallPhone", "copyRow", "([I[I)V"⟩ "HallPhone" ∈ lw_tbl := hp_m3 (List.mem_of_getElem? (i := 34) (by decide +kernel))
theorem wd_3_35 : Cond.methodLinkNest "HallPhone$House" 82 ⟨"HallPhone$Slate", "copyFrom", "(LHallPhone$Slate;)V"⟩ "HallPhone" ∈ lw_tbl := hp_m3 (List.mem_of_getElem? (i := 35) (by decide +kernel))
theorem wd_3_39 : Cond.methodLinkNest "HallPhone$Slate" 26 ⟨"HallPhone", "copyRow", "([I[I)V"⟩ "HallPhone" ∈ lw_tbl := hp_m3 (List.mem_of_getElem? (i := 39) (by decide +kernel))
theorem wd_3_40 : Cond.methodLinkNest "HallPhone" 278 ⟨"HallPhone$History", "forget", "()V"⟩ "HallPhone" ∈ lw_tbl := hp_m3 (List.mem_of_getElem? (i := 40) (by decide +kernel))
theorem wd_3_44 : hp_ok (Cond.fieldLink "HallPhone" 10 "HallPhone" "house" "LHallPhone$House;") := ⟨hp_m3 (List.mem_of_getElem? (i := 44) (by decide +kernel)), rfl⟩
theorem wd_3_45 : hp_ok (Cond.fieldLink "HallPhone" 16 "HallPhone" "draft" "LHallPhone$House;") := ⟨hp_m3 (List.mem_of_getElem? (i := 45) (by decide +kernel)), rfl⟩
theorem wd_3_46 : hp_ok (Cond.fieldLink "HallPhone" 22 "HallPhone" "history" "LHallPhone$History;") := ⟨hp_m3 (List.mem_of_getElem? (i := 46) (by decide +kernel)), rfl⟩
theorem wd_3_47 : hp_ok (Cond.fieldLink "HallPhone" 26 "HallPhone" "firstSnapshot" "LHallPhone$House;") := ⟨hp_m3 (List.mem_of_getElem? (i := 47) (by decide +kernel)), rfl⟩
theorem wd_3_48 : hp_ok (Cond.fieldLink "HallPhone" 29 "HallPhone" "secondSnapshot" "LHallPhone$House;") := ⟨hp_m3 (List.mem_of_getElem? (i := 48) (by decide +kernel)), rfl⟩
theorem wd_3_49 : hp_ok (Cond.fieldLink "HallPhone" 32 "HallPhone" "savedSlots" "I") := ⟨hp_m3 (List.mem_of_getElem? (i := 49) (by decide +kernel)), rfl⟩
theorem wd_3_50 : hp_ok (Cond.fieldLink "HallPhone" 39 "HallPhone" "reader" "LHallPhone$Reader;") := ⟨hp_m3 (List.mem_of_getElem? (i := 50) (by decide +kernel)), rfl⟩
theorem wd_3_51 : hp_ok (Cond.fieldLink "HallPhone" 43 "HallPhone" "buffer" "[I") := ⟨hp_m3 (List.mem_of_getElem? (i := 51) (by decide +kernel)), rfl⟩
theorem wd_3_52 : hp_ok (Cond.fieldLink "HallPhone" 47 "HallPhone" "bufferLength" "I") := ⟨hp_m3 (List.mem_of_getElem? (i := 52) (by decide +kernel)), rfl⟩
theorem wd_3_53 : hp_ok (Cond.fieldLink "HallPhone" 53 "HallPhone" "report" "Ljava/lang/StringBuilder;") := ⟨hp_m3 (List.mem_of_getElem? (i := 53) (by decide +kernel)), rfl⟩
theorem wd_3_79 : hp_ok (Cond.methodLink "HallPhone" 71 ⟨"HallPhone", "checkRange", "(III)V"⟩) := ⟨hp_m3 (List.mem_of_getElem? (i := 79) (by decide +kernel)), rfl⟩
theorem wd_3_124 : hp_ok (Cond.methodLink "HallPhone" 255 ⟨"java/lang/IllegalArgumentException", "<init>", "(Ljava/lang/String;)V"⟩) := ⟨hp_m3 (List.mem_of_getElem? (i := 124) (by decide +kernel)), rfl⟩
theorem wd_3_155 : hp_ok (Cond.methodLink "HallPhone" 86 ⟨"java/lang/StringBuilder", "length", "()I"⟩) := ⟨hp_m3 (List.mem_of_getElem? (i := 155) (by decide +kernel)), rfl⟩
theorem wd_3_162 : Cond.methodLinkNest "HallPhone" 89 ⟨"HallPhone$House", "houseNumber", "(I)I"⟩ "HallPhone" ∈ lw_tbl := hp_m3 (List.mem_of_getElem? (i := 162) (by decide +kernel))
theorem wd_3_166 : hp_ok (Cond.methodLink "HallPhone$House" 112 ⟨"java/lang/Integer", "bitCount", "(I)I"⟩) := ⟨hp_m3 (List.mem_of_getElem? (i := 166) (by decide +kernel)), rfl⟩
theorem wd_3_172 : hp_ok (Cond.methodLink "HallPhone$House" 117 ⟨"HallPhone$House", "debtOfAll", "()I"⟩) := ⟨hp_m3 (List.mem_of_getElem? (i := 172) (by decide +kernel)), rfl⟩
theorem wd_3_180 : Cond.methodLinkNest "HallPhone" 93 ⟨"HallPhone$House", "settingNumber", "(I)I"⟩ "HallPhone" ∈ lw_tbl := hp_m3 (List.mem_of_getElem? (i := 180) (by decide +kernel))
theorem wd_3_185 : hp_ok (Cond.methodLink "HallPhone" 96 ⟨"HallPhone", "checkFlat", "(I)V"⟩) := ⟨hp_m3 (List.mem_of_getElem? (i := 185) (by decide +kernel)), rfl⟩
theorem wd_3_199 : hp_ok (Cond.methodLink "HallPhone" 294 ⟨"java/lang/IndexOutOfBoundsException", "<init>", "(Ljava/lang/String;)V"⟩) := ⟨hp_m3 (List.mem_of_getElem? (i := 199) (by decide +kernel)), rfl⟩
theorem wd_3_205 : Cond.methodLinkNest "HallPhone" 99 ⟨"HallPhone$House", "flatNumber", "(II)I"⟩ "HallPhone" ∈ lw_tbl := hp_m3 (List.mem_of_getElem? (i := 205) (by decide +kernel))
theorem wd_3_209 : Cond.methodLinkNest "HallPhone$House" 121 ⟨"HallPhone$Queue", "placeOf", "(I)I"⟩ "HallPhone" ∈ lw_tbl := hp_m3 (List.mem_of_getElem? (i := 209) (by decide +kernel))
theorem wd_3_213 : Cond.methodLinkNest "HallPhone$House" 124 ⟨"HallPhone$Slate", "countFor", "(I)I"⟩ "HallPhone" ∈ lw_tbl := hp_m3 (List.mem_of_getElem? (i := 213) (by decide +kernel))
theorem wd_3_217 : hp_ok (Cond.methodLink "HallPhone$Slate" 22 ⟨"HallPhone$Slate", "flatAt", "(I)I"⟩) := ⟨hp_m3 (List.mem_of_getElem? (i := 217) (by decide +kernel)), rfl⟩
theorem wd_3_225 : Cond.methodLinkNest "HallPhone" 149 ⟨"HallPhone$House", "costOf", "(I)I"⟩ "HallPhone" ∈ lw_tbl := hp_m3 (List.mem_of_getElem? (i := 225) (by decide +kernel))
theorem wd_3_230 : hp_ok (Cond.fieldLink "HallPhone" 200 "HallPhone$Verb" "RING" "LHallPhone$Verb;") := ⟨hp_m3 (List.mem_of_getElem? (i := 230) (by decide +kernel)), rfl⟩
theorem wd_3_232 : Cond.methodLinkNest "HallPhone" 203 ⟨"HallPhone$House", "outcomeOfRing", "(I)I"⟩ "HallPhone" ∈ lw_tbl := hp_m3 (List.mem_of_getElem? (i := 232) (by decide +kernel))
theorem wd_3_237 : Cond.methodLinkNest "HallPhone" 206 ⟨"HallPhone$House", "accountNumber", "(I)I"⟩ "HallPhone" ∈ lw_tbl := hp_m3 (List.mem_of_getElem? (i := 237) (by decide +kernel))
theorem wd_4_5 : hp_ok (Cond.fieldLink "HallPhone" 175 "HallPhone$Verb" "WANT" "LHallPhone$Verb;") := ⟨hp_m4 (List.mem_of_getElem? (i := 5) (by decide +kernel)), rfl⟩
theorem wd_4_7 : hp_ok (Cond.methodLink "HallPhone" 229 ⟨"HallPhone", "changeOfFlat", "(LHallPhone$Verb;II)I"⟩) := ⟨hp_m4 (List.mem_of_getElem? (i := 7) (by decide +kernel)), rfl⟩
theorem wd_4_11 : Cond.methodLinkNest "HallPhone" 241 ⟨"HallPhone$History", "keep", "(LHallPhone$House;)V"⟩ "HallPhone" ∈ lw_tbl := hp_m4 (List.mem_of_getElem? (i := 11) (by decide +kernel))
theorem wd_4_15 : Cond.methodLinkNest "HallPhone$History" 25 ⟨"HallPhone$House", "copyFrom", "(LHallPhone$House;)V"⟩ "HallPhone" ∈ lw_tbl := hp_m4 (List.mem_of_getElem? (i := 15) (by decide +kernel))
theorem wd_4_16 : hp_ok (Cond.methodLink "HallPhone$History" 29 ⟨"java/lang/Math", "min", "(II)I"⟩) := ⟨hp_m4 (List.mem_of_getElem? (i := 16) (by decide +kernel)), rfl⟩
theorem wd_4_21 : hp_ok (Cond.fieldLink "HallPhone" 232 "HallPhone$Verb" "DROP" "LHallPhone$Verb;") := ⟨hp_m4 (List.mem_of_getElem? (i := 21) (by decide +kernel)), rfl⟩
theorem wd_4_27 : hp_ok (Cond.fieldLink "HallPhone" 235 "HallPhone$Verb" "HANG" "LHallPhone$Verb;") := ⟨hp_m4 (List.mem_of_getElem? (i := 27) (by decide +kernel)), rfl⟩
theorem wd_4_37 : hp_ok (Cond.fieldLink "HallPhone" 238 "HallPhone$Verb" "PAY" "LHallPhone$Verb;") := ⟨hp_m4 (List.mem_of_getElem? (i := 37) (by decide +kernel)), rfl⟩
theorem wd_4_43 : Cond.methodLinkNest "HallPhone" 172 ⟨"HallPhone$House", "get", "(II)I"⟩ "HallPhone" ∈ lw_tbl := hp_m4 (List.mem_of_getElem? (i := 43) (by decide +kernel))
theorem wd_4_44 : Cond.methodLinkNest "HallPhone" 244 ⟨"HallPhone$House", "put", "(III)V"⟩ "HallPhone" ∈ lw_tbl := hp_m4 (List.mem_of_getElem? (i := 44) (by decide +kernel))
theorem wd_4_49 : Cond.methodLinkNest "HallPhone" 247 ⟨"HallPhone$Verb", "ofSetting", "(I)LHallPhone$Verb;"⟩ "HallPhone" ∈ lw_tbl := hp_m4 (List.mem_of_getElem? (i := 49) (by decide +kernel))
theorem wd_4_52 : hp_ok (Cond.fieldLink "HallPhone$Verb" 79 "HallPhone$Verb" "ALL" "[LHallPhone$Verb;") := ⟨hp_m4 (List.mem_of_getElem? (i := 52) (by decide +kernel)), rfl⟩
theorem wd_4_58 : hp_ok (Cond.fieldLink "HallPhone" 262 "HallPhone$Verb" "PASS" "LHallPhone$Verb;") := ⟨hp_m4 (List.mem_of_getElem? (i := 58) (by decide +kernel)), rfl⟩
theorem wd_4_64 : Cond.methodLinkNest "HallPhone" 265 ⟨"HallPhone$History", "takeBack", "(LHallPhone$House;)Z"⟩ "HallPhone" ∈ lw_tbl := hp_m4 (List.mem_of_getElem? (i := 64) (by decide +kernel))
theorem wd_4_72 : hp_ok (Cond.constantLong "HallPhone" 284 (31 : Int64)) := ⟨hp_m4 (List.mem_of_getElem? (i := 72) (by decide +kernel)), rfl⟩
theorem wd_4_73 : hp_ok (Cond.methodLink "HallPhone" 286 ⟨"HallPhone", "checksumWithFlat", "(JI)J"⟩) := ⟨hp_m4 (List.mem_of_getElem? (i := 73) (by decide +kernel)), rfl⟩
theorem wd_4_77 : Cond.methodLinkNest "HallPhone" 132 ⟨"HallPhone$House", "minutesHeard", "(II)I"⟩ "HallPhone" ∈ lw_tbl := hp_m4 (List.mem_of_getElem? (i := 77) (by decide +kernel))
theorem wd_4_81 : Cond.methodLinkNest "HallPhone" 126 ⟨"HallPhone$Slate", "flatAt", "(I)I"⟩ "HallPhone" ∈ lw_tbl := hp_m4 (List.mem_of_getElem? (i := 81) (by decide +kernel))
theorem wd_4_82 : Cond.methodLinkNest "HallPhone" 129 ⟨"HallPhone$Slate", "minuteAt", "(I)I"⟩ "HallPhone" ∈ lw_tbl := hp_m4 (List.mem_of_getElem? (i := 82) (by decide +kernel))
theorem wd_4_99 : Cond.methodLinkNest "HallPhone" 107 ⟨"HallPhone$Queue", "at", "(I)I"⟩ "HallPhone" ∈ lw_tbl := hp_m4 (List.mem_of_getElem? (i := 99) (by decide +kernel))
theorem wd_4_121 : hp_ok (Cond.methodLink "HallPhone" 124 ⟨"java/util/NoSuchElementException", "<init>", "(Ljava/lang/String;)V"⟩) := ⟨hp_m4 (List.mem_of_getElem? (i := 121) (by decide +kernel)), rfl⟩
theorem wd_4_147 : Cond.fieldLinkNest "HallPhone$Reader" 119 "HallPhone$Verb" "word" "Ljava/lang/String;" "HallPhone" ∈ lw_tbl := hp_m4 (List.mem_of_getElem? (i := 147) (by decide +kernel))
theorem wd_4_148 : Cond.fieldLinkNest "HallPhone$Reader" 95 "HallPhone$Verb" "namesFlat" "Z" "HallPhone" ∈ lw_tbl := hp_m4 (List.mem_of_getElem? (i := 148) (by decide +kernel))
theorem wd_4_149 : hp_ok (Cond.fieldLink "HallPhone$Verb" 76 "HallPhone$Verb" "greatest" "I") := ⟨hp_m4 (List.mem_of_getElem? (i := 149) (by decide +kernel)), rfl⟩
theorem wd_4_150 : Cond.fieldLinkNest "HallPhone$Reader" 109 "HallPhone$Verb" "least" "I" "HallPhone" ∈ lw_tbl := hp_m4 (List.mem_of_getElem? (i := 150) (by decide +kernel))
theorem wd_4_151 : Cond.fieldLinkNest "HallPhone$Reader" 112 "HallPhone$Verb" "greatest" "I" "HallPhone" ∈ lw_tbl := hp_m4 (List.mem_of_getElem? (i := 151) (by decide +kernel))
theorem wd_4_153 : Cond.fieldLinkNest "HallPhone$House" 210 "HallPhone$Verb" "setting" "I" "HallPhone" ∈ lw_tbl := hp_m4 (List.mem_of_getElem? (i := 153) (by decide +kernel))
theorem wd_4_154 : Cond.fieldLinkNest "HallPhone" 256 "HallPhone$Verb" "least" "I" "HallPhone" ∈ lw_tbl := hp_m4 (List.mem_of_getElem? (i := 154) (by decide +kernel))
theorem wd_4_155 : Cond.fieldLinkNest "HallPhone" 259 "HallPhone$Verb" "greatest" "I" "HallPhone" ∈ lw_tbl := hp_m4 (List.mem_of_getElem? (i := 155) (by decide +kernel))
theorem wd_4_156 : hp_ok (Cond.fieldLink "HallPhone$Verb" 65 "HallPhone$Verb" "setting" "I") := ⟨hp_m4 (List.mem_of_getElem? (i := 156) (by decide +kernel)), rfl⟩
theorem wd_1_31 : hp_ok (Cond.code ⟨"HallPhone", "<init>", "()V"⟩ prog_1_method_1_code 1 none) := ⟨hp_m1 (List.mem_of_getElem? (i := 31) (by decide +kernel)), rfl⟩
theorem wd_1_1 : hp_ok (Cond.initialized "HallPhone") := ⟨hp_m1 (List.mem_of_getElem? (i := 1) (by decide +kernel)), rfl⟩
theorem wd_1_39 : hp_ok (Cond.code ⟨"HallPhone$House", "<init>", "()V"⟩ prog_4_method_1_code 1 none) := ⟨hp_m1 (List.mem_of_getElem? (i := 39) (by decide +kernel)), rfl⟩
theorem wd_1_2 : hp_ok (Cond.initialized "HallPhone$House") := ⟨hp_m1 (List.mem_of_getElem? (i := 2) (by decide +kernel)), rfl⟩
theorem wd_1_45 : hp_ok (Cond.code ⟨"HallPhone$Phone", "<init>", "()V"⟩ prog_5_method_1_code 1 none) := ⟨hp_m1 (List.mem_of_getElem? (i := 45) (by decide +kernel)), rfl⟩
theorem wd_1_3 : hp_ok (Cond.initialized "HallPhone$Phone") := ⟨hp_m1 (List.mem_of_getElem? (i := 3) (by decide +kernel)), rfl⟩
theorem wd_1_73 : hp_ok (Cond.code ⟨"HallPhone$Queue", "<init>", "()V"⟩ prog_6_method_1_code 1 none) := ⟨hp_m1 (List.mem_of_getElem? (i := 73) (by decide +kernel)), rfl⟩
theorem wd_1_4 : hp_ok (Cond.initialized "HallPhone$Queue") := ⟨hp_m1 (List.mem_of_getElem? (i := 4) (by decide +kernel)), rfl⟩
theorem wd_1_87 : hp_ok (Cond.code ⟨"HallPhone$Slate", "<init>", "()V"⟩ prog_8_method_1_code 1 none) := ⟨hp_m1 (List.mem_of_getElem? (i := 87) (by decide +kernel)), rfl⟩
theorem wd_1_5 : hp_ok (Cond.initialized "HallPhone$Slate") := ⟨hp_m1 (List.mem_of_getElem? (i := 5) (by decide +kernel)), rfl⟩
theorem wd_1_139 : hp_ok (Cond.code ⟨"HallPhone$History", "<init>", "()V"⟩ prog_3_method_1_code 2 none) := ⟨hp_m1 (List.mem_of_getElem? (i := 139) (by decide +kernel)), rfl⟩
theorem wd_1_6 : hp_ok (Cond.initialized "HallPhone$History") := ⟨hp_m1 (List.mem_of_getElem? (i := 6) (by decide +kernel)), rfl⟩
theorem wd_1_159 : hp_ok (Cond.code ⟨"HallPhone$Reader", "<init>", "()V"⟩ prog_7_method_1_code 1 none) := ⟨hp_m1 (List.mem_of_getElem? (i := 159) (by decide +kernel)), rfl⟩
theorem wd_1_7 : hp_ok (Cond.initialized "HallPhone$Reader") := ⟨hp_m1 (List.mem_of_getElem? (i := 7) (by decide +kernel)), rfl⟩
theorem wd_1_231 : hp_ok (Cond.code ⟨"HallPhone$Reader", "takeText", "(Ljava/lang/String;)V"⟩ prog_7_method_3_code 3 none) := ⟨hp_m1 (List.mem_of_getElem? (i := 231) (by decide +kernel)), rfl⟩
theorem wd_1_230 : hp_ok (Cond.instanceMethod ⟨"HallPhone$Reader", "takeText", "(Ljava/lang/String;)V"⟩) := ⟨hp_m1 (List.mem_of_getElem? (i := 230) (by decide +kernel)), rfl⟩
theorem kv_X5_takeText : hp_Kv yX5_takeText cX5_takeText 3 none 1 := ⟨wd_1_230, ⟨hp_sel (n := 10) (by decide +kernel), rfl⟩, wd_1_7, wd_1_231, ⟨by decide, by decide, by decide +kernel⟩, by decide⟩
theorem wd_2_42 : hp_ok (Cond.code ⟨"HallPhone$Reader", "begin", "(I)V"⟩ prog_7_method_4_code 2 none) := ⟨hp_m2 (List.mem_of_getElem? (i := 42) (by decide +kernel)), rfl⟩
theorem wd_2_41 : hp_ok (Cond.instanceMethod ⟨"HallPhone$Reader", "begin", "(I)V"⟩) := ⟨hp_m2 (List.mem_of_getElem? (i := 41) (by decide +kernel)), rfl⟩
theorem kv_X5_begin : hp_Kv yX5_begin cX5_begin 2 none 1 := ⟨wd_2_41, ⟨hp_sel (n := 10) (by decide +kernel), rfl⟩, wd_1_7, wd_2_42, ⟨by decide, by decide, by decide +kernel⟩, by decide⟩
theorem wd_2_49 : hp_ok (Cond.code ⟨"HallPhone", "replaceByText", "()I"⟩ prog_1_method_45_code 4 (some .int)) := ⟨hp_m2 (List.mem_of_getElem? (i := 49) (by decide +kernel)), rfl⟩
theorem wd_2_48 : hp_ok (Cond.instanceMethod ⟨"HallPhone", "replaceByText", "()I"⟩) := ⟨hp_m2 (List.mem_of_getElem? (i := 48) (by decide +kernel)), rfl⟩
theorem kv_X8_replaceByText : hp_Kv yX8_replaceByText cX8_replaceByText 4 (some .int) 0 := ⟨wd_2_48, ⟨hp_sel (n := 10) (by decide +kernel), rfl⟩, wd_1_1, wd_2_49, ⟨by decide, by decide, by decide +kernel⟩, by decide⟩
theorem wd_2_53 : hp_ok (Cond.code ⟨"HallPhone$House", "clear", "()V"⟩ prog_4_method_2_code 1 none) := ⟨hp_m2 (List.mem_of_getElem? (i := 53) (by decide +kernel)), rfl⟩
theorem wd_2_52 : hp_ok (Cond.instanceMethod ⟨"HallPhone$House", "clear", "()V"⟩) := ⟨hp_m2 (List.mem_of_getElem? (i := 52) (by decide +kernel)), rfl⟩
theorem kv_X2_clear : hp_Kv yX2_clear cX2_clear 1 none 0 := ⟨wd_2_52, ⟨hp_sel (n := 10) (by decide +kernel), rfl⟩, wd_1_2, wd_2_53, ⟨by decide, by decide, by decide +kernel⟩, by decide⟩
theorem wd_2_58 : hp_ok (Cond.code ⟨"HallPhone", "copyRow", "([I[I)V"⟩ prog_1_method_52_code 2 none) := ⟨hp_m2 (List.mem_of_getElem? (i := 58) (by decide +kernel)), rfl⟩
theorem wd_2_57 : hp_ok (Cond.static ⟨"HallPhone", "copyRow", "([I[I)V"⟩) := ⟨hp_m2 (List.mem_of_getElem? (i := 57) (by decide +kernel)), rfl⟩
theorem ks_X8_copyRow : hp_Ks yX8_copyRow cX8_copyRow 2 none 2 := ⟨wd_2_57, wd_1_1, wd_2_58, ⟨by decide, by decide, by decide +kernel⟩, by decide⟩
theorem wd_2_69 : hp_ok (Cond.code ⟨"HallPhone$Phone", "putDown", "()V"⟩ prog_5_method_2_code 1 none) := ⟨hp_m2 (List.mem_of_getElem? (i := 69) (by decide +kernel)), rfl⟩
theorem wd_2_68 : hp_ok (Cond.instanceMethod ⟨"HallPhone$Phone", "putDown", "()V"⟩) := ⟨hp_m2 (List.mem_of_getElem? (i := 68) (by decide +kernel)), rfl⟩
theorem kv_X3_putDown : hp_Kv yX3_putDown cX3_putDown 1 none 0 := ⟨wd_2_68, ⟨hp_sel (n := 5) (by decide +kernel), rfl⟩, wd_1_3, wd_2_69, ⟨by decide, by decide, by decide +kernel⟩, by decide⟩
theorem wd_2_73 : hp_ok (Cond.code ⟨"HallPhone$Reader", "readFlats", "(LHallPhone$House;)Z"⟩ prog_7_method_5_code 3 (some .boolean)) := ⟨hp_m2 (List.mem_of_getElem? (i := 73) (by decide +kernel)), rfl⟩
theorem wd_2_72 : hp_ok (Cond.instanceMethod ⟨"HallPhone$Reader", "readFlats", "(LHallPhone$House;)Z"⟩) := ⟨hp_m2 (List.mem_of_getElem? (i := 72) (by decide +kernel)), rfl⟩
theorem kv_X5_readFlats : hp_Kv yX5_readFlats cX5_readFlats 3 (some .boolean) 1 := ⟨wd_2_72, ⟨hp_sel (n := 10) (by decide +kernel), rfl⟩, wd_1_7, wd_2_73, ⟨by decide, by decide, by decide +kernel⟩, by decide⟩
theorem wd_2_77 : hp_ok (Cond.code ⟨"HallPhone$Reader", "next", "()V"⟩ prog_7_method_11_code 1 none) := ⟨hp_m2 (List.mem_of_getElem? (i := 77) (by decide +kernel)), rfl⟩
theorem wd_2_76 : hp_ok (Cond.instanceMethod ⟨"HallPhone$Reader", "next", "()V"⟩) := ⟨hp_m2 (List.mem_of_getElem? (i := 76) (by decide +kernel)), rfl⟩
theorem kv_X5_next : hp_Kv yX5_next cX5_next 1 none 0 := ⟨wd_2_76, ⟨hp_sel (n := 10) (by decide +kernel), rfl⟩, wd_1_7, wd_2_77, ⟨by decide, by decide, by decide +kernel⟩, by decide⟩
theorem wd_2_81 : hp_ok (Cond.code ⟨"HallPhone$Reader", "byteAt", "(I)I"⟩ prog_7_method_13_code 2 (some .int)) := ⟨hp_m2 (List.mem_of_getElem? (i := 81) (by decide +kernel)), rfl⟩
theorem wd_2_80 : hp_ok (Cond.instanceMethod ⟨"HallPhone$Reader", "byteAt", "(I)I"⟩) := ⟨hp_m2 (List.mem_of_getElem? (i := 80) (by decide +kernel)), rfl⟩
theorem kv_X5_byteAt : hp_Kv yX5_byteAt cX5_byteAt 2 (some .int) 1 := ⟨wd_2_80, ⟨hp_sel (n := 10) (by decide +kernel), rfl⟩, wd_1_7, wd_2_81, ⟨by decide, by decide, by decide +kernel⟩, by decide⟩
theorem wd_2_84 : hp_ok (Cond.code ⟨"HallPhone$Reader", "isSpace", "(I)Z"⟩ prog_7_method_14_code 1 (some .boolean)) := ⟨hp_m2 (List.mem_of_getElem? (i := 84) (by decide +kernel)), rfl⟩
theorem wd_2_83 : hp_ok (Cond.static ⟨"HallPhone$Reader", "isSpace", "(I)Z"⟩) := ⟨hp_m2 (List.mem_of_getElem? (i := 83) (by decide +kernel)), rfl⟩
theorem ks_X5_isSpace : hp_Ks yX5_isSpace cX5_isSpace 1 (some .boolean) 1 := ⟨wd_2_83, wd_1_7, wd_2_84, ⟨by decide, by decide, by decide +kernel⟩, by decide⟩
theorem wd_2_87 : hp_ok (Cond.code ⟨"HallPhone$Reader", "isLetter", "(I)Z"⟩ prog_7_method_15_code 1 (some .boolean)) := ⟨hp_m2 (List.mem_of_getElem? (i := 87) (by decide +kernel)), rfl⟩
theorem wd_2_86 : hp_ok (Cond.static ⟨"HallPhone$Reader", "isLetter", "(I)Z"⟩) := ⟨hp_m2 (List.mem_of_getElem? (i := 86) (by decide +kernel)), rfl⟩
theorem ks_X5_isLetter : hp_Ks yX5_isLetter cX5_isLetter 1 (some .boolean) 1 := ⟨wd_2_86, wd_1_7, wd_2_87, ⟨by decide, by decide, by decide +kernel⟩, by decide⟩
theorem wd_2_90 : hp_ok (Cond.code ⟨"HallPhone$Reader", "isDigit", "(I)Z"⟩ prog_7_method_16_code 1 (some .boolean)) := ⟨hp_m2 (List.mem_of_getElem? (i := 90) (by decide +kernel)), rfl⟩
theorem wd_2_89 : hp_ok (Cond.static ⟨"HallPhone$Reader", "isDigit", "(I)Z"⟩) := ⟨hp_m2 (List.mem_of_getElem? (i := 89) (by decide +kernel)), rfl⟩
theorem ks_X5_isDigit : hp_Ks yX5_isDigit cX5_isDigit 1 (some .boolean) 1 := ⟨wd_2_89, wd_1_7, wd_2_90, ⟨by decide, by decide, by decide +kernel⟩, by decide⟩
theorem wd_2_94 : hp_ok (Cond.code ⟨"HallPhone$Reader", "nextNumber", "()V"⟩ prog_7_method_12_code 1 none) := ⟨hp_m2 (List.mem_of_getElem? (i := 94) (by decide +kernel)), rfl⟩
theorem wd_2_93 : hp_ok (Cond.instanceMethod ⟨"HallPhone$Reader", "nextNumber", "()V"⟩) := ⟨hp_m2 (List.mem_of_getElem? (i := 93) (by decide +kernel)), rfl⟩
theorem kv_X5_nextNumber : hp_Kv yX5_nextNumber cX5_nextNumber 1 none 0 := ⟨wd_2_93, ⟨hp_sel (n := 10) (by decide +kernel), rfl⟩, wd_1_7, wd_2_94, ⟨by decide, by decide, by decide +kernel⟩, by decide⟩
theorem wd_2_99 : hp_ok (Cond.code ⟨"HallPhone$Reader", "isWord", "(Ljava/lang/String;)Z"⟩ prog_7_method_10_code 3 (some .boolean)) := ⟨hp_m2 (List.mem_of_getElem? (i := 99) (by decide +kernel)), rfl⟩
theorem wd_2_98 : hp_ok (Cond.instanceMethod ⟨"HallPhone$Reader", "isWord", "(Ljava/lang/String;)Z"⟩) := ⟨hp_m2 (List.mem_of_getElem? (i := 98) (by decide +kernel)), rfl⟩
theorem kv_X5_isWord : hp_Kv yX5_isWord cX5_isWord 3 (some .boolean) 1 := ⟨wd_2_98, ⟨hp_sel (n := 10) (by decide +kernel), rfl⟩, wd_1_7, wd_2_99, ⟨by decide, by decide, by decide +kernel⟩, by decide⟩
theorem wd_2_103 : hp_ok (Cond.code ⟨"HallPhone$Reader", "fail", "(I)Z"⟩ prog_7_method_8_code 2 (some .boolean)) := ⟨hp_m2 (List.mem_of_getElem? (i := 103) (by decide +kernel)), rfl⟩
theorem wd_2_102 : hp_ok (Cond.instanceMethod ⟨"HallPhone$Reader", "fail", "(I)Z"⟩) := ⟨hp_m2 (List.mem_of_getElem? (i := 102) (by decide +kernel)), rfl⟩
theorem kv_X5_fail : hp_Kv yX5_fail cX5_fail 2 (some .boolean) 1 := ⟨wd_2_102, ⟨hp_sel (n := 10) (by decide +kernel), rfl⟩, wd_1_7, wd_2_103, ⟨by decide, by decide, by decide +kernel⟩, by decide⟩
theorem wd_2_107 : hp_ok (Cond.code ⟨"HallPhone$House", "addFlat", "(I)Z"⟩ prog_4_method_10_code 2 (some .boolean)) := ⟨hp_m2 (List.mem_of_getElem? (i := 107) (by decide +kernel)), rfl⟩
theorem wd_2_106 : hp_ok (Cond.instanceMethod ⟨"HallPhone$House", "addFlat", "(I)Z"⟩) := ⟨hp_m2 (List.mem_of_getElem? (i := 106) (by decide +kernel)), rfl⟩
theorem kv_X2_addFlat : hp_Kv yX2_addFlat cX2_addFlat 2 (some .boolean) 1 := ⟨wd_2_106, ⟨hp_sel (n := 10) (by decide +kernel), rfl⟩, wd_1_2, wd_2_107, ⟨by decide, by decide, by decide +kernel⟩, by decide⟩
theorem wd_2_111 : hp_ok (Cond.code ⟨"HallPhone$House", "put", "(III)V"⟩ prog_4_method_5_code 5 none) := ⟨hp_m2 (List.mem_of_getElem? (i := 111) (by decide +kernel)), rfl⟩
theorem wd_2_110 : hp_ok (Cond.instanceMethod ⟨"HallPhone$House", "put", "(III)V"⟩) := ⟨hp_m2 (List.mem_of_getElem? (i := 110) (by decide +kernel)), rfl⟩
theorem kv_X2_put : hp_Kv yX2_put cX2_put 5 none 3 := ⟨wd_2_110, ⟨hp_sel (n := 10) (by decide +kernel), rfl⟩, wd_1_2, wd_2_111, ⟨by decide, by decide, by decide +kernel⟩, by decide⟩
theorem wd_2_117 : hp_ok (Cond.code ⟨"HallPhone$Reader", "readStatement", "(I)Z"⟩ prog_7_method_6_code 3 (some .boolean)) := ⟨hp_m2 (List.mem_of_getElem? (i := 117) (by decide +kernel)), rfl⟩
theorem wd_2_116 : hp_ok (Cond.instanceMethod ⟨"HallPhone$Reader", "readStatement", "(I)Z"⟩) := ⟨hp_m2 (List.mem_of_getElem? (i := 116) (by decide +kernel)), rfl⟩
theorem kv_X5_readStatement : hp_Kv yX5_readStatement cX5_readStatement 3 (some .boolean) 1 := ⟨wd_2_116, ⟨hp_sel (n := 10) (by decide +kernel), rfl⟩, wd_1_7, wd_2_117, ⟨by decide, by decide, by decide +kernel⟩, by decide⟩
theorem wd_2_121 : hp_ok (Cond.code ⟨"HallPhone$Reader", "verbRead", "()LHallPhone$Verb;"⟩ prog_7_method_9_code 5 (some (.object "HallPhone$Verb"))) := ⟨hp_m2 (List.mem_of_getElem? (i := 121) (by decide +kernel)), rfl⟩
theorem wd_2_120 : hp_ok (Cond.instanceMethod ⟨"HallPhone$Reader", "verbRead", "()LHallPhone$Verb;"⟩) := ⟨hp_m2 (List.mem_of_getElem? (i := 120) (by decide +kernel)), rfl⟩
theorem kv_X5_verbRead : hp_Kv yX5_verbRead cX5_verbRead 5 (some (.object "HallPhone$Verb")) 0 := ⟨wd_2_120, ⟨hp_sel (n := 10) (by decide +kernel), rfl⟩, wd_1_7, wd_2_121, ⟨by decide, by decide, by decide +kernel⟩, by decide⟩
theorem wd_2_127 : hp_ok (Cond.code ⟨"HallPhone$Reader", "readNumber", "(II)Z"⟩ prog_7_method_7_code 3 (some .boolean)) := ⟨hp_m2 (List.mem_of_getElem? (i := 127) (by decide +kernel)), rfl⟩
theorem wd_2_126 : hp_ok (Cond.instanceMethod ⟨"HallPhone$Reader", "readNumber", "(II)Z"⟩) := ⟨hp_m2 (List.mem_of_getElem? (i := 126) (by decide +kernel)), rfl⟩
theorem kv_X5_readNumber : hp_Kv yX5_readNumber cX5_readNumber 3 (some .boolean) 2 := ⟨wd_2_126, ⟨hp_sel (n := 10) (by decide +kernel), rfl⟩, wd_1_7, wd_2_127, ⟨by decide, by decide, by decide +kernel⟩, by decide⟩
theorem wd_2_132 : hp_ok (Cond.code ⟨"HallPhone$Verb", "takesNumber", "()Z"⟩ prog_9_method_4_code 1 (some .boolean)) := ⟨hp_m2 (List.mem_of_getElem? (i := 132) (by decide +kernel)), rfl⟩
theorem wd_1_18 : hp_ok (Cond.initialized "HallPhone$Verb") := ⟨hp_m1 (List.mem_of_getElem? (i := 18) (by decide +kernel)), rfl⟩
theorem wd_2_130 : hp_ok (Cond.instanceMethod ⟨"HallPhone$Verb", "takesNumber", "()Z"⟩) := ⟨hp_m2 (List.mem_of_getElem? (i := 130) (by decide +kernel)), rfl⟩
theorem kv_X7_takesNumber : hp_Kv yX7_takesNumber cX7_takesNumber 1 (some .boolean) 0 := ⟨wd_2_130, ⟨hp_sel (n := 8) (by decide +kernel), rfl⟩, wd_1_18, wd_2_132, ⟨by decide, by decide, by decide +kernel⟩, by decide⟩
theorem wd_2_136 : hp_ok (Cond.code ⟨"HallPhone$House", "refusal", "(LHallPhone$Verb;II)I"⟩ prog_4_method_35_code 5 (some .int)) := ⟨hp_m2 (List.mem_of_getElem? (i := 136) (by decide +kernel)), rfl⟩
theorem wd_2_135 : hp_ok (Cond.instanceMethod ⟨"HallPhone$House", "refusal", "(LHallPhone$Verb;II)I"⟩) := ⟨hp_m2 (List.mem_of_getElem? (i := 135) (by decide +kernel)), rfl⟩
theorem kv_X2_refusal : hp_Kv yX2_refusal cX2_refusal 5 (some .int) 3 := ⟨wd_2_135, ⟨hp_sel (n := 10) (by decide +kernel), rfl⟩, wd_1_2, wd_2_136, ⟨by decide, by decide, by decide +kernel⟩, by decide⟩
theorem wd_2_140 : hp_ok (Cond.code ⟨"HallPhone$House", "get", "(II)I"⟩ prog_4_method_4_code 4 (some .int)) := ⟨hp_m2 (List.mem_of_getElem? (i := 140) (by decide +kernel)), rfl⟩
theorem wd_2_139 : hp_ok (Cond.instanceMethod ⟨"HallPhone$House", "get", "(II)I"⟩) := ⟨hp_m2 (List.mem_of_getElem? (i := 139) (by decide +kernel)), rfl⟩
theorem kv_X2_get : hp_Kv yX2_get cX2_get 4 (some .int) 2 := ⟨wd_2_139, ⟨hp_sel (n := 10) (by decide +kernel), rfl⟩, wd_1_2, wd_2_140, ⟨by decide, by decide, by decide +kernel⟩, by decide⟩
theorem wd_2_152 : hp_ok (Cond.code ⟨"HallPhone$House", "isCalled", "(I)Z"⟩ prog_4_method_26_code 2 (some .boolean)) := ⟨hp_m2 (List.mem_of_getElem? (i := 152) (by decide +kernel)), rfl⟩
theorem wd_2_151 : hp_ok (Cond.instanceMethod ⟨"HallPhone$House", "isCalled", "(I)Z"⟩) := ⟨hp_m2 (List.mem_of_getElem? (i := 151) (by decide +kernel)), rfl⟩
theorem kv_X2_isCalled : hp_Kv yX2_isCalled cX2_isCalled 2 (some .boolean) 1 := ⟨wd_2_151, ⟨hp_sel (n := 10) (by decide +kernel), rfl⟩, wd_1_2, wd_2_152, ⟨by decide, by decide, by decide +kernel⟩, by decide⟩
theorem wd_2_156 : hp_ok (Cond.code ⟨"HallPhone$House", "perform", "(LHallPhone$Verb;II)I"⟩ prog_4_method_36_code 4 (some .int)) := ⟨hp_m2 (List.mem_of_getElem? (i := 156) (by decide +kernel)), rfl⟩
theorem wd_2_155 : hp_ok (Cond.instanceMethod ⟨"HallPhone$House", "perform", "(LHallPhone$Verb;II)I"⟩) := ⟨hp_m2 (List.mem_of_getElem? (i := 155) (by decide +kernel)), rfl⟩
theorem kv_X2_perform : hp_Kv yX2_perform cX2_perform 4 (some .int) 3 := ⟨wd_2_155, ⟨hp_sel (n := 10) (by decide +kernel), rfl⟩, wd_1_2, wd_2_156, ⟨by decide, by decide, by decide +kernel⟩, by decide⟩
theorem wd_2_160 : hp_ok (Cond.code ⟨"HallPhone$House", "setOut", "(II)I"⟩ prog_4_method_37_code 4 (some .int)) := ⟨hp_m2 (List.mem_of_getElem? (i := 160) (by decide +kernel)), rfl⟩
theorem wd_2_159 : hp_ok (Cond.instanceMethod ⟨"HallPhone$House", "setOut", "(II)I"⟩) := ⟨hp_m2 (List.mem_of_getElem? (i := 159) (by decide +kernel)), rfl⟩
theorem kv_X2_setOut : hp_Kv yX2_setOut cX2_setOut 4 (some .int) 2 := ⟨wd_2_159, ⟨hp_sel (n := 10) (by decide +kernel), rfl⟩, wd_1_2, wd_2_160, ⟨by decide, by decide, by decide +kernel⟩, by decide⟩
theorem wd_2_164 : hp_ok (Cond.code ⟨"HallPhone$House", "giveUp", "(I)I"⟩ prog_4_method_38_code 3 (some .int)) := ⟨hp_m2 (List.mem_of_getElem? (i := 164) (by decide +kernel)), rfl⟩
theorem wd_2_163 : hp_ok (Cond.instanceMethod ⟨"HallPhone$House", "giveUp", "(I)I"⟩) := ⟨hp_m2 (List.mem_of_getElem? (i := 163) (by decide +kernel)), rfl⟩
theorem kv_X2_giveUp : hp_Kv yX2_giveUp cX2_giveUp 3 (some .int) 1 := ⟨wd_2_163, ⟨hp_sel (n := 10) (by decide +kernel), rfl⟩, wd_1_2, wd_2_164, ⟨by decide, by decide, by decide +kernel⟩, by decide⟩
theorem wd_2_168 : hp_ok (Cond.code ⟨"HallPhone$Queue", "leave", "(I)V"⟩ prog_6_method_5_code 4 none) := ⟨hp_m2 (List.mem_of_getElem? (i := 168) (by decide +kernel)), rfl⟩
theorem wd_2_167 : hp_ok (Cond.instanceMethod ⟨"HallPhone$Queue", "leave", "(I)V"⟩) := ⟨hp_m2 (List.mem_of_getElem? (i := 167) (by decide +kernel)), rfl⟩
theorem kv_X4_leave : hp_Kv yX4_leave cX4_leave 4 none 1 := ⟨wd_2_167, ⟨hp_sel (n := 2) (by decide +kernel), rfl⟩, wd_1_4, wd_2_168, ⟨by decide, by decide, by decide +kernel⟩, by decide⟩
theorem wd_2_172 : hp_ok (Cond.code ⟨"HallPhone$House", "endCall", "()I"⟩ prog_4_method_28_code 4 (some .int)) := ⟨hp_m2 (List.mem_of_getElem? (i := 172) (by decide +kernel)), rfl⟩
theorem wd_2_171 : hp_ok (Cond.instanceMethod ⟨"HallPhone$House", "endCall", "()I"⟩) := ⟨hp_m2 (List.mem_of_getElem? (i := 171) (by decide +kernel)), rfl⟩
theorem kv_X2_endCall : hp_Kv yX2_endCall cX2_endCall 4 (some .int) 0 := ⟨wd_2_171, ⟨hp_sel (n := 10) (by decide +kernel), rfl⟩, wd_1_2, wd_2_172, ⟨by decide, by decide, by decide +kernel⟩, by decide⟩
theorem wd_2_176 : hp_ok (Cond.code ⟨"HallPhone$House", "costOf", "(I)I"⟩ prog_4_method_20_code 3 (some .int)) := ⟨hp_m2 (List.mem_of_getElem? (i := 176) (by decide +kernel)), rfl⟩
theorem wd_2_175 : hp_ok (Cond.instanceMethod ⟨"HallPhone$House", "costOf", "(I)I"⟩) := ⟨hp_m2 (List.mem_of_getElem? (i := 175) (by decide +kernel)), rfl⟩
theorem kv_X2_costOf : hp_Kv yX2_costOf cX2_costOf 3 (some .int) 1 := ⟨wd_2_175, ⟨hp_sel (n := 10) (by decide +kernel), rfl⟩, wd_1_2, wd_2_176, ⟨by decide, by decide, by decide +kernel⟩, by decide⟩
theorem wd_2_180 : hp_ok (Cond.code ⟨"HallPhone$House", "takeRing", "(II)I"⟩ prog_4_method_40_code 4 (some .int)) := ⟨hp_m2 (List.mem_of_getElem? (i := 180) (by decide +kernel)), rfl⟩
theorem wd_2_179 : hp_ok (Cond.instanceMethod ⟨"HallPhone$House", "takeRing", "(II)I"⟩) := ⟨hp_m2 (List.mem_of_getElem? (i := 179) (by decide +kernel)), rfl⟩
theorem kv_X2_takeRing : hp_Kv yX2_takeRing cX2_takeRing 4 (some .int) 2 := ⟨wd_2_179, ⟨hp_sel (n := 10) (by decide +kernel), rfl⟩, wd_1_2, wd_2_180, ⟨by decide, by decide, by decide +kernel⟩, by decide⟩
theorem wd_2_184 : hp_ok (Cond.code ⟨"HallPhone$House", "outcomeOfRing", "(I)I"⟩ prog_4_method_39_code 3 (some .int)) := ⟨hp_m2 (List.mem_of_getElem? (i := 184) (by decide +kernel)), rfl⟩
theorem wd_2_183 : hp_ok (Cond.instanceMethod ⟨"HallPhone$House", "outcomeOfRing", "(I)I"⟩) := ⟨hp_m2 (List.mem_of_getElem? (i := 183) (by decide +kernel)), rfl⟩
theorem kv_X2_outcomeOfRing : hp_Kv yX2_outcomeOfRing cX2_outcomeOfRing 3 (some .int) 1 := ⟨wd_2_183, ⟨hp_sel (n := 10) (by decide +kernel), rfl⟩, wd_1_2, wd_2_184, ⟨by decide, by decide, by decide +kernel⟩, by decide⟩
theorem wd_2_188 : hp_ok (Cond.code ⟨"HallPhone$Phone", "holdFor", "(II)V"⟩ prog_5_method_3_code 3 none) := ⟨hp_m2 (List.mem_of_getElem? (i := 188) (by decide +kernel)), rfl⟩
theorem wd_2_187 : hp_ok (Cond.instanceMethod ⟨"HallPhone$Phone", "holdFor", "(II)V"⟩) := ⟨hp_m2 (List.mem_of_getElem? (i := 187) (by decide +kernel)), rfl⟩
theorem kv_X3_holdFor : hp_Kv yX3_holdFor cX3_holdFor 3 none 2 := ⟨wd_2_187, ⟨hp_sel (n := 5) (by decide +kernel), rfl⟩, wd_1_3, wd_2_188, ⟨by decide, by decide, by decide +kernel⟩, by decide⟩
theorem wd_2_192 : hp_ok (Cond.code ⟨"HallPhone$House", "connect", "(IIZ)V"⟩ prog_4_method_29_code 4 none) := ⟨hp_m2 (List.mem_of_getElem? (i := 192) (by decide +kernel)), rfl⟩
theorem wd_2_191 : hp_ok (Cond.instanceMethod ⟨"HallPhone$House", "connect", "(IIZ)V"⟩) := ⟨hp_m2 (List.mem_of_getElem? (i := 191) (by decide +kernel)), rfl⟩
theorem kv_X2_connect : hp_Kv yX2_connect cX2_connect 4 none 3 := ⟨wd_2_191, ⟨hp_sel (n := 10) (by decide +kernel), rfl⟩, wd_1_2, wd_2_192, ⟨by decide, by decide, by decide +kernel⟩, by decide⟩
theorem wd_2_196 : hp_ok (Cond.code ⟨"HallPhone$Phone", "connect", "(IIZ)V"⟩ prog_5_method_4_code 4 none) := ⟨hp_m2 (List.mem_of_getElem? (i := 196) (by decide +kernel)), rfl⟩
theorem wd_2_195 : hp_ok (Cond.instanceMethod ⟨"HallPhone$Phone", "connect", "(IIZ)V"⟩) := ⟨hp_m2 (List.mem_of_getElem? (i := 195) (by decide +kernel)), rfl⟩
theorem kv_X3_connect : hp_Kv yX3_connect cX3_connect 4 none 3 := ⟨wd_2_195, ⟨hp_sel (n := 5) (by decide +kernel), rfl⟩, wd_1_3, wd_2_196, ⟨by decide, by decide, by decide +kernel⟩, by decide⟩
theorem wd_2_200 : hp_ok (Cond.code ⟨"HallPhone$Slate", "write", "(II)V"⟩ prog_8_method_5_code 3 none) := ⟨hp_m2 (List.mem_of_getElem? (i := 200) (by decide +kernel)), rfl⟩
theorem wd_2_199 : hp_ok (Cond.instanceMethod ⟨"HallPhone$Slate", "write", "(II)V"⟩) := ⟨hp_m2 (List.mem_of_getElem? (i := 199) (by decide +kernel)), rfl⟩
theorem kv_X6_write : hp_Kv yX6_write cX6_write 3 none 2 := ⟨wd_2_199, ⟨hp_sel (n := 3) (by decide +kernel), rfl⟩, wd_1_5, wd_2_200, ⟨by decide, by decide, by decide +kernel⟩, by decide⟩
theorem wd_2_204 : hp_ok (Cond.code ⟨"HallPhone$House", "takeMoney", "(II)I"⟩ prog_4_method_41_code 4 (some .int)) := ⟨hp_m2 (List.mem_of_getElem? (i := 204) (by decide +kernel)), rfl⟩
theorem wd_2_203 : hp_ok (Cond.instanceMethod ⟨"HallPhone$House", "takeMoney", "(II)I"⟩) := ⟨hp_m2 (List.mem_of_getElem? (i := 203) (by decide +kernel)), rfl⟩
theorem kv_X2_takeMoney : hp_Kv yX2_takeMoney cX2_takeMoney 4 (some .int) 2 := ⟨wd_2_203, ⟨hp_sel (n := 10) (by decide +kernel), rfl⟩, wd_1_2, wd_2_204, ⟨by decide, by decide, by decide +kernel⟩, by decide⟩
theorem wd_2_208 : hp_ok (Cond.code ⟨"HallPhone$House", "letPass", "(I)I"⟩ prog_4_method_23_code 5 (some .int)) := ⟨hp_m2 (List.mem_of_getElem? (i := 208) (by decide +kernel)), rfl⟩
theorem wd_2_207 : hp_ok (Cond.instanceMethod ⟨"HallPhone$House", "letPass", "(I)I"⟩) := ⟨hp_m2 (List.mem_of_getElem? (i := 207) (by decide +kernel)), rfl⟩
theorem kv_X2_letPass : hp_Kv yX2_letPass cX2_letPass 5 (some .int) 1 := ⟨wd_2_207, ⟨hp_sel (n := 10) (by decide +kernel), rfl⟩, wd_1_2, wd_2_208, ⟨by decide, by decide, by decide +kernel⟩, by decide⟩
theorem wd_2_212 : hp_ok (Cond.code ⟨"HallPhone$House", "isQuiet", "()Z"⟩ prog_4_method_31_code 1 (some .boolean)) := ⟨hp_m2 (List.mem_of_getElem? (i := 212) (by decide +kernel)), rfl⟩
theorem wd_2_211 : hp_ok (Cond.instanceMethod ⟨"HallPhone$House", "isQuiet", "()Z"⟩) := ⟨hp_m2 (List.mem_of_getElem? (i := 211) (by decide +kernel)), rfl⟩
theorem kv_X2_isQuiet : hp_Kv yX2_isQuiet cX2_isQuiet 1 (some .boolean) 0 := ⟨wd_2_211, ⟨hp_sel (n := 10) (by decide +kernel), rfl⟩, wd_1_2, wd_2_212, ⟨by decide, by decide, by decide +kernel⟩, by decide⟩
theorem wd_2_216 : hp_ok (Cond.code ⟨"HallPhone$House", "flatsThatAre", "(I)I"⟩ prog_4_method_15_code 4 (some .int)) := ⟨hp_m2 (List.mem_of_getElem? (i := 216) (by decide +kernel)), rfl⟩
theorem wd_2_215 : hp_ok (Cond.instanceMethod ⟨"HallPhone$House", "flatsThatAre", "(I)I"⟩) := ⟨hp_m2 (List.mem_of_getElem? (i := 215) (by decide +kernel)), rfl⟩
theorem kv_X2_flatsThatAre : hp_Kv yX2_flatsThatAre cX2_flatsThatAre 4 (some .int) 1 := ⟨wd_2_215, ⟨hp_sel (n := 10) (by decide +kernel), rfl⟩, wd_1_2, wd_2_216, ⟨by decide, by decide, by decide +kernel⟩, by decide⟩
theorem wd_2_220 : hp_ok (Cond.code ⟨"HallPhone$House", "speakOneMinute", "()V"⟩ prog_4_method_24_code 2 none) := ⟨hp_m2 (List.mem_of_getElem? (i := 220) (by decide +kernel)), rfl⟩
theorem wd_2_219 : hp_ok (Cond.instanceMethod ⟨"HallPhone$House", "speakOneMinute", "()V"⟩) := ⟨hp_m2 (List.mem_of_getElem? (i := 219) (by decide +kernel)), rfl⟩
theorem kv_X2_speakOneMinute : hp_Kv yX2_speakOneMinute cX2_speakOneMinute 2 none 0 := ⟨wd_2_219, ⟨hp_sel (n := 10) (by decide +kernel), rfl⟩, wd_1_2, wd_2_220, ⟨by decide, by decide, by decide +kernel⟩, by decide⟩
theorem wd_2_224 : hp_ok (Cond.code ⟨"HallPhone$House", "isListener", "(I)Z"⟩ prog_4_method_16_code 2 (some .boolean)) := ⟨hp_m2 (List.mem_of_getElem? (i := 224) (by decide +kernel)), rfl⟩
theorem wd_2_223 : hp_ok (Cond.instanceMethod ⟨"HallPhone$House", "isListener", "(I)Z"⟩) := ⟨hp_m2 (List.mem_of_getElem? (i := 223) (by decide +kernel)), rfl⟩
theorem kv_X2_isListener : hp_Kv yX2_isListener cX2_isListener 2 (some .boolean) 1 := ⟨wd_2_223, ⟨hp_sel (n := 10) (by decide +kernel), rfl⟩, wd_1_2, wd_2_224, ⟨by decide, by decide, by decide +kernel⟩, by decide⟩
theorem wd_2_228 : hp_ok (Cond.code ⟨"HallPhone$House", "hearOneMinute", "(II)V"⟩ prog_4_method_9_code 4 none) := ⟨hp_m2 (List.mem_of_getElem? (i := 228) (by decide +kernel)), rfl⟩
theorem wd_2_227 : hp_ok (Cond.instanceMethod ⟨"HallPhone$House", "hearOneMinute", "(II)V"⟩) := ⟨hp_m2 (List.mem_of_getElem? (i := 227) (by decide +kernel)), rfl⟩
theorem kv_X2_hearOneMinute : hp_Kv yX2_hearOneMinute cX2_hearOneMinute 4 none 2 := ⟨wd_2_227, ⟨hp_sel (n := 10) (by decide +kernel), rfl⟩, wd_1_2, wd_2_228, ⟨by decide, by decide, by decide +kernel⟩, by decide⟩
theorem wd_2_232 : hp_ok (Cond.code ⟨"HallPhone$House", "comeDown", "(I)V"⟩ prog_4_method_25_code 3 none) := ⟨hp_m2 (List.mem_of_getElem? (i := 232) (by decide +kernel)), rfl⟩
theorem wd_2_231 : hp_ok (Cond.instanceMethod ⟨"HallPhone$House", "comeDown", "(I)V"⟩) := ⟨hp_m2 (List.mem_of_getElem? (i := 231) (by decide +kernel)), rfl⟩
theorem kv_X2_comeDown : hp_Kv yX2_comeDown cX2_comeDown 3 none 1 := ⟨wd_2_231, ⟨hp_sel (n := 10) (by decide +kernel), rfl⟩, wd_1_2, wd_2_232, ⟨by decide, by decide, by decide +kernel⟩, by decide⟩
theorem wd_2_236 : hp_ok (Cond.code ⟨"HallPhone$Slate", "wipeFor", "(I)I"⟩ prog_8_method_6_code 5 (some .int)) := ⟨hp_m2 (List.mem_of_getElem? (i := 236) (by decide +kernel)), rfl⟩
theorem wd_2_235 : hp_ok (Cond.instanceMethod ⟨"HallPhone$Slate", "wipeFor", "(I)I"⟩) := ⟨hp_m2 (List.mem_of_getElem? (i := 235) (by decide +kernel)), rfl⟩
theorem kv_X6_wipeFor : hp_Kv yX6_wipeFor cX6_wipeFor 5 (some .int) 1 := ⟨wd_2_235, ⟨hp_sel (n := 3) (by decide +kernel), rfl⟩, wd_1_5, wd_2_236, ⟨by decide, by decide, by decide +kernel⟩, by decide⟩
theorem wd_3_0 : hp_ok (Cond.code ⟨"HallPhone$Queue", "join", "(I)V"⟩ prog_6_method_4_code 2 none) := ⟨hp_m3 (List.mem_of_getElem? (i := 0) (by decide +kernel)), rfl⟩
theorem wd_2_239 : hp_ok (Cond.instanceMethod ⟨"HallPhone$Queue", "join", "(I)V"⟩) := ⟨hp_m2 (List.mem_of_getElem? (i := 239) (by decide +kernel)), rfl⟩
theorem kv_X4_join : hp_Kv yX4_join cX4_join 2 none 1 := ⟨wd_2_239, ⟨hp_sel (n := 2) (by decide +kernel), rfl⟩, wd_1_4, wd_3_0, ⟨by decide, by decide, by decide +kernel⟩, by decide⟩
theorem wd_3_4 : hp_ok (Cond.code ⟨"HallPhone$House", "isCallOver", "()Z"⟩ prog_4_method_27_code 3 (some .boolean)) := ⟨hp_m3 (List.mem_of_getElem? (i := 4) (by decide +kernel)), rfl⟩
theorem wd_3_3 : hp_ok (Cond.instanceMethod ⟨"HallPhone$House", "isCallOver", "()Z"⟩) := ⟨hp_m3 (List.mem_of_getElem? (i := 3) (by decide +kernel)), rfl⟩
theorem kv_X2_isCallOver : hp_Kv yX2_isCallOver cX2_isCallOver 3 (some .boolean) 0 := ⟨wd_3_3, ⟨hp_sel (n := 10) (by decide +kernel), rfl⟩, wd_1_2, wd_3_4, ⟨by decide, by decide, by decide +kernel⟩, by decide⟩
theorem wd_3_8 : hp_ok (Cond.code ⟨"HallPhone$Queue", "at", "(I)I"⟩ prog_6_method_2_code 2 (some .int)) := ⟨hp_m3 (List.mem_of_getElem? (i := 8) (by decide +kernel)), rfl⟩
theorem wd_3_7 : hp_ok (Cond.instanceMethod ⟨"HallPhone$Queue", "at", "(I)I"⟩) := ⟨hp_m3 (List.mem_of_getElem? (i := 7) (by decide +kernel)), rfl⟩
theorem kv_X4_at : hp_Kv yX4_at cX4_at 2 (some .int) 1 := ⟨wd_3_7, ⟨hp_sel (n := 2) (by decide +kernel), rfl⟩, wd_1_4, wd_3_8, ⟨by decide, by decide, by decide +kernel⟩, by decide⟩
theorem wd_3_12 : hp_ok (Cond.code ⟨"HallPhone$House", "countWaiting", "()V"⟩ prog_4_method_30_code 3 none) := ⟨hp_m3 (List.mem_of_getElem? (i := 12) (by decide +kernel)), rfl⟩
theorem wd_3_11 : hp_ok (Cond.instanceMethod ⟨"HallPhone$House", "countWaiting", "()V"⟩) := ⟨hp_m3 (List.mem_of_getElem? (i := 11) (by decide +kernel)), rfl⟩
theorem kv_X2_countWaiting : hp_Kv yX2_countWaiting cX2_countWaiting 3 none 0 := ⟨wd_3_11, ⟨hp_sel (n := 10) (by decide +kernel), rfl⟩, wd_1_2, wd_3_12, ⟨by decide, by decide, by decide +kernel⟩, by decide⟩
theorem wd_3_16 : hp_ok (Cond.code ⟨"HallPhone$House", "changeSetting", "(II)I"⟩ prog_4_method_7_code 4 (some .int)) := ⟨hp_m3 (List.mem_of_getElem? (i := 16) (by decide +kernel)), rfl⟩
theorem wd_3_15 : hp_ok (Cond.instanceMethod ⟨"HallPhone$House", "changeSetting", "(II)I"⟩) := ⟨hp_m3 (List.mem_of_getElem? (i := 15) (by decide +kernel)), rfl⟩
theorem kv_X2_changeSetting : hp_Kv yX2_changeSetting cX2_changeSetting 4 (some .int) 2 := ⟨wd_3_15, ⟨hp_sel (n := 10) (by decide +kernel), rfl⟩, wd_1_2, wd_3_16, ⟨by decide, by decide, by decide +kernel⟩, by decide⟩
theorem wd_3_20 : hp_ok (Cond.code ⟨"HallPhone$House", "settingNumber", "(I)I"⟩ prog_4_method_6_code 2 (some .int)) := ⟨hp_m3 (List.mem_of_getElem? (i := 20) (by decide +kernel)), rfl⟩
theorem wd_3_19 : hp_ok (Cond.instanceMethod ⟨"HallPhone$House", "settingNumber", "(I)I"⟩) := ⟨hp_m3 (List.mem_of_getElem? (i := 19) (by decide +kernel)), rfl⟩
theorem kv_X2_settingNumber : hp_Kv yX2_settingNumber cX2_settingNumber 2 (some .int) 1 := ⟨wd_3_19, ⟨hp_sel (n := 10) (by decide +kernel), rfl⟩, wd_1_2, wd_3_20, ⟨by decide, by decide, by decide +kernel⟩, by decide⟩
theorem wd_3_25 : hp_ok (Cond.code ⟨"HallPhone$House", "copyFrom", "(LHallPhone$House;)V"⟩ prog_4_method_3_code 2 none) := ⟨hp_m3 (List.mem_of_getElem? (i := 25) (by decide +kernel)), rfl⟩
theorem wd_3_24 : hp_ok (Cond.instanceMethod ⟨"HallPhone$House", "copyFrom", "(LHallPhone$House;)V"⟩) := ⟨hp_m3 (List.mem_of_getElem? (i := 24) (by decide +kernel)), rfl⟩
theorem kv_X2_copyFrom : hp_Kv yX2_copyFrom cX2_copyFrom 2 none 1 := ⟨wd_3_24, ⟨hp_sel (n := 10) (by decide +kernel), rfl⟩, wd_1_2, wd_3_25, ⟨by decide, by decide, by decide +kernel⟩, by decide⟩
theorem wd_3_29 : hp_ok (Cond.code ⟨"HallPhone$Phone", "copyFrom", "(LHallPhone$Phone;)V"⟩ prog_5_method_5_code 2 none) := ⟨hp_m3 (List.mem_of_getElem? (i := 29) (by decide +kernel)), rfl⟩
theorem wd_3_28 : hp_ok (Cond.instanceMethod ⟨"HallPhone$Phone", "copyFrom", "(LHallPhone$Phone;)V"⟩) := ⟨hp_m3 (List.mem_of_getElem? (i := 28) (by decide +kernel)), rfl⟩
theorem kv_X3_copyFrom : hp_Kv yX3_copyFrom cX3_copyFrom 2 none 1 := ⟨wd_3_28, ⟨hp_sel (n := 5) (by decide +kernel), rfl⟩, wd_1_3, wd_3_29, ⟨by decide, by decide, by decide +kernel⟩, by decide⟩
theorem wd_3_33 : hp_ok (Cond.code ⟨"HallPhone$Queue", "copyFrom", "(LHallPhone$Queue;)V"⟩ prog_6_method_6_code 2 none) := ⟨hp_m3 (List.mem_of_getElem? (i := 33) (by decide +kernel)), rfl⟩
theorem wd_3_32 : hp_ok (Cond.instanceMethod ⟨"HallPhone$Queue", "copyFrom", "(LHallPhone$Queue;)V"⟩) := ⟨hp_m3 (List.mem_of_getElem? (i := 32) (by decide +kernel)), rfl⟩
theorem kv_X4_copyFrom : hp_Kv yX4_copyFrom cX4_copyFrom 2 none 1 := ⟨wd_3_32, ⟨hp_sel (n := 2) (by decide +kernel), rfl⟩, wd_1_4, wd_3_33, ⟨by decide, by decide, by decide +kernel⟩, by decide⟩
theorem wd_3_38 : hp_ok (Cond.code ⟨"HallPhone$Slate", "copyFrom", "(LHallPhone$Slate;)V"⟩ prog_8_method_7_code 2 none) := ⟨hp_m3 (List.mem_of_getElem? (i := 38) (by decide +kernel)), rfl⟩
theorem wd_3_37 : hp_ok (Cond.instanceMethod ⟨"HallPhone$Slate", "copyFrom", "(LHallPhone$Slate;)V"⟩) := ⟨hp_m3 (List.mem_of_getElem? (i := 37) (by decide +kernel)), rfl⟩
theorem kv_X6_copyFrom : hp_Kv yX6_copyFrom cX6_copyFrom 2 none 1 := ⟨wd_3_37, ⟨hp_sel (n := 3) (by decide +kernel), rfl⟩, wd_1_5, wd_3_38, ⟨by decide, by decide, by decide +kernel⟩, by decide⟩
theorem wd_3_43 : hp_ok (Cond.code ⟨"HallPhone$History", "forget", "()V"⟩ prog_3_method_4_code 1 none) := ⟨hp_m3 (List.mem_of_getElem? (i := 43) (by decide +kernel)), rfl⟩
theorem wd_3_42 : hp_ok (Cond.instanceMethod ⟨"HallPhone$History", "forget", "()V"⟩) := ⟨hp_m3 (List.mem_of_getElem? (i := 42) (by decide +kernel)), rfl⟩
theorem kv_X1_forget : hp_Kv yX1_forget cX1_forget 1 none 0 := ⟨wd_3_42, ⟨hp_sel (n := 3) (by decide +kernel), rfl⟩, wd_1_6, wd_3_43, ⟨by decide, by decide, by decide +kernel⟩, by decide⟩
theorem wd_3_78 : hp_ok (Cond.code ⟨"HallPhone", "load", "(I)I"⟩ prog_1_method_4_code 2 (some .int)) := ⟨hp_m3 (List.mem_of_getElem? (i := 78) (by decide +kernel)), rfl⟩
theorem wd_3_77 : hp_ok (Cond.selects "HallPhone" ⟨"HallPhone", "load", "(I)I"⟩ ⟨"HallPhone", "load", "(I)I"⟩) := ⟨hp_m3 (List.mem_of_getElem? (i := 77) (by decide +kernel)), rfl⟩
theorem wd_3_76 : hp_ok (Cond.instanceMethod ⟨"HallPhone", "load", "(I)I"⟩) := ⟨hp_m3 (List.mem_of_getElem? (i := 76) (by decide +kernel)), rfl⟩
theorem kv_X8_load : hp_Kv yX8_load cX8_load 2 (some .int) 1 := ⟨wd_3_76, wd_3_77, wd_1_1, wd_3_78, ⟨by decide, by decide, by decide +kernel⟩, by decide⟩
theorem wd_3_81 : hp_ok (Cond.code ⟨"HallPhone", "checkRange", "(III)V"⟩ prog_1_method_43_code 3 none) := ⟨hp_m3 (List.mem_of_getElem? (i := 81) (by decide +kernel)), rfl⟩
theorem wd_3_80 : hp_ok (Cond.static ⟨"HallPhone", "checkRange", "(III)V"⟩) := ⟨hp_m3 (List.mem_of_getElem? (i := 80) (by decide +kernel)), rfl⟩
theorem ks_X8_checkRange : hp_Ks yX8_checkRange cX8_checkRange 3 none 3 := ⟨wd_3_80, wd_1_1, wd_3_81, ⟨by decide, by decide, by decide +kernel⟩, by decide⟩
theorem wd_3_154 : hp_ok (Cond.code ⟨"HallPhone", "size", "(I)I"⟩ prog_1_method_5_code 2 (some .int)) := ⟨hp_m3 (List.mem_of_getElem? (i := 154) (by decide +kernel)), rfl⟩
theorem wd_3_153 : hp_ok (Cond.selects "HallPhone" ⟨"HallPhone", "size", "(I)I"⟩ ⟨"HallPhone", "size", "(I)I"⟩) := ⟨hp_m3 (List.mem_of_getElem? (i := 153) (by decide +kernel)), rfl⟩
theorem wd_3_152 : hp_ok (Cond.instanceMethod ⟨"HallPhone", "size", "(I)I"⟩) := ⟨hp_m3 (List.mem_of_getElem? (i := 152) (by decide +kernel)), rfl⟩
theorem kv_X8_size : hp_Kv yX8_size cX8_size 2 (some .int) 1 := ⟨wd_3_152, wd_3_153, wd_1_1, wd_3_154, ⟨by decide, by decide, by decide +kernel⟩, by decide⟩
theorem wd_3_165 : hp_ok (Cond.code ⟨"HallPhone$House", "houseNumber", "(I)I"⟩ prog_4_method_11_code 2 (some .int)) := ⟨hp_m3 (List.mem_of_getElem? (i := 165) (by decide +kernel)), rfl⟩
theorem wd_3_164 : hp_ok (Cond.instanceMethod ⟨"HallPhone$House", "houseNumber", "(I)I"⟩) := ⟨hp_m3 (List.mem_of_getElem? (i := 164) (by decide +kernel)), rfl⟩
theorem kv_X2_houseNumber : hp_Kv yX2_houseNumber cX2_houseNumber 2 (some .int) 1 := ⟨wd_3_164, ⟨hp_sel (n := 10) (by decide +kernel), rfl⟩, wd_1_2, wd_3_165, ⟨by decide, by decide, by decide +kernel⟩, by decide⟩
theorem wd_3_175 : hp_ok (Cond.code ⟨"HallPhone$House", "debtOfAll", "()I"⟩ prog_4_method_14_code 3 (some .int)) := ⟨hp_m3 (List.mem_of_getElem? (i := 175) (by decide +kernel)), rfl⟩
theorem wd_3_174 : hp_ok (Cond.instanceMethod ⟨"HallPhone$House", "debtOfAll", "()I"⟩) := ⟨hp_m3 (List.mem_of_getElem? (i := 174) (by decide +kernel)), rfl⟩
theorem kv_X2_debtOfAll : hp_Kv yX2_debtOfAll cX2_debtOfAll 3 (some .int) 0 := ⟨wd_3_174, ⟨hp_sel (n := 10) (by decide +kernel), rfl⟩, wd_1_2, wd_3_175, ⟨by decide, by decide, by decide +kernel⟩, by decide⟩
theorem wd_3_179 : hp_ok (Cond.code ⟨"HallPhone", "setting", "(I)I"⟩ prog_1_method_6_code 2 (some .int)) := ⟨hp_m3 (List.mem_of_getElem? (i := 179) (by decide +kernel)), rfl⟩
theorem wd_3_178 : hp_ok (Cond.selects "HallPhone" ⟨"HallPhone", "setting", "(I)I"⟩ ⟨"HallPhone", "setting", "(I)I"⟩) := ⟨hp_m3 (List.mem_of_getElem? (i := 178) (by decide +kernel)), rfl⟩
theorem wd_3_177 : hp_ok (Cond.instanceMethod ⟨"HallPhone", "setting", "(I)I"⟩) := ⟨hp_m3 (List.mem_of_getElem? (i := 177) (by decide +kernel)), rfl⟩
theorem kv_X8_setting : hp_Kv yX8_setting cX8_setting 2 (some .int) 1 := ⟨wd_3_177, wd_3_178, wd_1_1, wd_3_179, ⟨by decide, by decide, by decide +kernel⟩, by decide⟩
theorem wd_3_184 : hp_ok (Cond.code ⟨"HallPhone", "flat", "(II)I"⟩ prog_1_method_7_code 3 (some .int)) := ⟨hp_m3 (List.mem_of_getElem? (i := 184) (by decide +kernel)), rfl⟩
theorem wd_3_183 : hp_ok (Cond.selects "HallPhone" ⟨"HallPhone", "flat", "(II)I"⟩ ⟨"HallPhone", "flat", "(II)I"⟩) := ⟨hp_m3 (List.mem_of_getElem? (i := 183) (by decide +kernel)), rfl⟩
theorem wd_3_182 : hp_ok (Cond.instanceMethod ⟨"HallPhone", "flat", "(II)I"⟩) := ⟨hp_m3 (List.mem_of_getElem? (i := 182) (by decide +kernel)), rfl⟩
theorem kv_X8_flat : hp_Kv yX8_flat cX8_flat 3 (some .int) 2 := ⟨wd_3_182, wd_3_183, wd_1_1, wd_3_184, ⟨by decide, by decide, by decide +kernel⟩, by decide⟩
theorem wd_3_188 : hp_ok (Cond.code ⟨"HallPhone", "checkFlat", "(I)V"⟩ prog_1_method_42_code 2 none) := ⟨hp_m3 (List.mem_of_getElem? (i := 188) (by decide +kernel)), rfl⟩
theorem wd_3_187 : hp_ok (Cond.instanceMethod ⟨"HallPhone", "checkFlat", "(I)V"⟩) := ⟨hp_m3 (List.mem_of_getElem? (i := 187) (by decide +kernel)), rfl⟩
theorem kv_X8_checkFlat : hp_Kv yX8_checkFlat cX8_checkFlat 2 none 1 := ⟨wd_3_187, ⟨hp_sel (n := 10) (by decide +kernel), rfl⟩, wd_1_1, wd_3_188, ⟨by decide, by decide, by decide +kernel⟩, by decide⟩
theorem wd_3_208 : hp_ok (Cond.code ⟨"HallPhone$House", "flatNumber", "(II)I"⟩ prog_4_method_12_code 3 (some .int)) := ⟨hp_m3 (List.mem_of_getElem? (i := 208) (by decide +kernel)), rfl⟩
theorem wd_3_207 : hp_ok (Cond.instanceMethod ⟨"HallPhone$House", "flatNumber", "(II)I"⟩) := ⟨hp_m3 (List.mem_of_getElem? (i := 207) (by decide +kernel)), rfl⟩
theorem kv_X2_flatNumber : hp_Kv yX2_flatNumber cX2_flatNumber 3 (some .int) 2 := ⟨wd_3_207, ⟨hp_sel (n := 10) (by decide +kernel), rfl⟩, wd_1_2, wd_3_208, ⟨by decide, by decide, by decide +kernel⟩, by decide⟩
theorem wd_3_212 : hp_ok (Cond.code ⟨"HallPhone$Queue", "placeOf", "(I)I"⟩ prog_6_method_3_code 3 (some .int)) := ⟨hp_m3 (List.mem_of_getElem? (i := 212) (by decide +kernel)), rfl⟩
theorem wd_3_211 : hp_ok (Cond.instanceMethod ⟨"HallPhone$Queue", "placeOf", "(I)I"⟩) := ⟨hp_m3 (List.mem_of_getElem? (i := 211) (by decide +kernel)), rfl⟩
theorem kv_X4_placeOf : hp_Kv yX4_placeOf cX4_placeOf 3 (some .int) 1 := ⟨wd_3_211, ⟨hp_sel (n := 2) (by decide +kernel), rfl⟩, wd_1_4, wd_3_212, ⟨by decide, by decide, by decide +kernel⟩, by decide⟩
theorem wd_3_216 : hp_ok (Cond.code ⟨"HallPhone$Slate", "countFor", "(I)I"⟩ prog_8_method_4_code 4 (some .int)) := ⟨hp_m3 (List.mem_of_getElem? (i := 216) (by decide +kernel)), rfl⟩
theorem wd_3_215 : hp_ok (Cond.instanceMethod ⟨"HallPhone$Slate", "countFor", "(I)I"⟩) := ⟨hp_m3 (List.mem_of_getElem? (i := 215) (by decide +kernel)), rfl⟩
theorem kv_X6_countFor : hp_Kv yX6_countFor cX6_countFor 4 (some .int) 1 := ⟨wd_3_215, ⟨hp_sel (n := 3) (by decide +kernel), rfl⟩, wd_1_5, wd_3_216, ⟨by decide, by decide, by decide +kernel⟩, by decide⟩
theorem wd_3_220 : hp_ok (Cond.code ⟨"HallPhone$Slate", "flatAt", "(I)I"⟩ prog_8_method_2_code 2 (some .int)) := ⟨hp_m3 (List.mem_of_getElem? (i := 220) (by decide +kernel)), rfl⟩
theorem wd_3_219 : hp_ok (Cond.instanceMethod ⟨"HallPhone$Slate", "flatAt", "(I)I"⟩) := ⟨hp_m3 (List.mem_of_getElem? (i := 219) (by decide +kernel)), rfl⟩
theorem kv_X6_flatAt : hp_Kv yX6_flatAt cX6_flatAt 2 (some .int) 1 := ⟨wd_3_219, ⟨hp_sel (n := 3) (by decide +kernel), rfl⟩, wd_1_5, wd_3_220, ⟨by decide, by decide, by decide +kernel⟩, by decide⟩
theorem wd_3_224 : hp_ok (Cond.code ⟨"HallPhone", "cost", "(I)I"⟩ prog_1_method_14_code 2 (some .int)) := ⟨hp_m3 (List.mem_of_getElem? (i := 224) (by decide +kernel)), rfl⟩
theorem wd_3_223 : hp_ok (Cond.selects "HallPhone" ⟨"HallPhone", "cost", "(I)I"⟩ ⟨"HallPhone", "cost", "(I)I"⟩) := ⟨hp_m3 (List.mem_of_getElem? (i := 223) (by decide +kernel)), rfl⟩
theorem wd_3_222 : hp_ok (Cond.instanceMethod ⟨"HallPhone", "cost", "(I)I"⟩) := ⟨hp_m3 (List.mem_of_getElem? (i := 222) (by decide +kernel)), rfl⟩
theorem kv_X8_cost : hp_Kv yX8_cost cX8_cost 2 (some .int) 1 := ⟨wd_3_222, wd_3_223, wd_1_1, wd_3_224, ⟨by decide, by decide, by decide +kernel⟩, by decide⟩
theorem wd_3_229 : hp_ok (Cond.code ⟨"HallPhone", "ifRung", "(I)I"⟩ prog_1_method_23_code 3 (some .int)) := ⟨hp_m3 (List.mem_of_getElem? (i := 229) (by decide +kernel)), rfl⟩
theorem wd_3_228 : hp_ok (Cond.selects "HallPhone" ⟨"HallPhone", "ifRung", "(I)I"⟩ ⟨"HallPhone", "ifRung", "(I)I"⟩) := ⟨hp_m3 (List.mem_of_getElem? (i := 228) (by decide +kernel)), rfl⟩
theorem wd_3_227 : hp_ok (Cond.instanceMethod ⟨"HallPhone", "ifRung", "(I)I"⟩) := ⟨hp_m3 (List.mem_of_getElem? (i := 227) (by decide +kernel)), rfl⟩
theorem kv_X8_ifRung : hp_Kv yX8_ifRung cX8_ifRung 3 (some .int) 1 := ⟨wd_3_227, wd_3_228, wd_1_1, wd_3_229, ⟨by decide, by decide, by decide +kernel⟩, by decide⟩
theorem wd_3_236 : hp_ok (Cond.code ⟨"HallPhone", "account", "(I)I"⟩ prog_1_method_24_code 2 (some .int)) := ⟨hp_m3 (List.mem_of_getElem? (i := 236) (by decide +kernel)), rfl⟩
theorem wd_3_235 : hp_ok (Cond.selects "HallPhone" ⟨"HallPhone", "account", "(I)I"⟩ ⟨"HallPhone", "account", "(I)I"⟩) := ⟨hp_m3 (List.mem_of_getElem? (i := 235) (by decide +kernel)), rfl⟩
theorem wd_3_234 : hp_ok (Cond.instanceMethod ⟨"HallPhone", "account", "(I)I"⟩) := ⟨hp_m3 (List.mem_of_getElem? (i := 234) (by decide +kernel)), rfl⟩
theorem kv_X8_account : hp_Kv yX8_account cX8_account 2 (some .int) 1 := ⟨wd_3_234, wd_3_235, wd_1_1, wd_3_236, ⟨by decide, by decide, by decide +kernel⟩, by decide⟩
theorem wd_4_0 : hp_ok (Cond.code ⟨"HallPhone$House", "accountNumber", "(I)I"⟩ prog_4_method_13_code 2 (some .int)) := ⟨hp_m4 (List.mem_of_getElem? (i := 0) (by decide +kernel)), rfl⟩
theorem wd_3_239 : hp_ok (Cond.instanceMethod ⟨"HallPhone$House", "accountNumber", "(I)I"⟩) := ⟨hp_m3 (List.mem_of_getElem? (i := 239) (by decide +kernel)), rfl⟩
theorem kv_X2_accountNumber : hp_Kv yX2_accountNumber cX2_accountNumber 2 (some .int) 1 := ⟨wd_3_239, ⟨hp_sel (n := 10) (by decide +kernel), rfl⟩, wd_1_2, wd_4_0, ⟨by decide, by decide, by decide +kernel⟩, by decide⟩
theorem wd_4_4 : hp_ok (Cond.code ⟨"HallPhone", "want", "(II)I"⟩ prog_1_method_30_code 3 (some .int)) := ⟨hp_m4 (List.mem_of_getElem? (i := 4) (by decide +kernel)), rfl⟩
theorem wd_4_3 : hp_ok (Cond.selects "HallPhone" ⟨"HallPhone", "want", "(II)I"⟩ ⟨"HallPhone", "want", "(II)I"⟩) := ⟨hp_m4 (List.mem_of_getElem? (i := 3) (by decide +kernel)), rfl⟩
theorem wd_4_2 : hp_ok (Cond.instanceMethod ⟨"HallPhone", "want", "(II)I"⟩) := ⟨hp_m4 (List.mem_of_getElem? (i := 2) (by decide +kernel)), rfl⟩
theorem kv_X8_want : hp_Kv yX8_want cX8_want 3 (some .int) 2 := ⟨wd_4_2, wd_4_3, wd_1_1, wd_4_4, ⟨by decide, by decide, by decide +kernel⟩, by decide⟩
theorem wd_4_10 : hp_ok (Cond.code ⟨"HallPhone", "changeOfFlat", "(LHallPhone$Verb;II)I"⟩ prog_1_method_49_code 5 (some .int)) := ⟨hp_m4 (List.mem_of_getElem? (i := 10) (by decide +kernel)), rfl⟩
theorem wd_4_9 : hp_ok (Cond.instanceMethod ⟨"HallPhone", "changeOfFlat", "(LHallPhone$Verb;II)I"⟩) := ⟨hp_m4 (List.mem_of_getElem? (i := 9) (by decide +kernel)), rfl⟩
theorem kv_X8_changeOfFlat : hp_Kv yX8_changeOfFlat cX8_changeOfFlat 5 (some .int) 3 := ⟨wd_4_9, ⟨hp_sel (n := 10) (by decide +kernel), rfl⟩, wd_1_1, wd_4_10, ⟨by decide, by decide, by decide +kernel⟩, by decide⟩
theorem wd_4_14 : hp_ok (Cond.code ⟨"HallPhone$History", "keep", "(LHallPhone$House;)V"⟩ prog_3_method_2_code 2 none) := ⟨hp_m4 (List.mem_of_getElem? (i := 14) (by decide +kernel)), rfl⟩
theorem wd_4_13 : hp_ok (Cond.instanceMethod ⟨"HallPhone$History", "keep", "(LHallPhone$House;)V"⟩) := ⟨hp_m4 (List.mem_of_getElem? (i := 13) (by decide +kernel)), rfl⟩
theorem kv_X1_keep : hp_Kv yX1_keep cX1_keep 2 none 1 := ⟨wd_4_13, ⟨hp_sel (n := 3) (by decide +kernel), rfl⟩, wd_1_6, wd_4_14, ⟨by decide, by decide, by decide +kernel⟩, by decide⟩
theorem wd_4_20 : hp_ok (Cond.code ⟨"HallPhone", "drop", "(I)I"⟩ prog_1_method_31_code 2 (some .int)) := ⟨hp_m4 (List.mem_of_getElem? (i := 20) (by decide +kernel)), rfl⟩
theorem wd_4_19 : hp_ok (Cond.selects "HallPhone" ⟨"HallPhone", "drop", "(I)I"⟩ ⟨"HallPhone", "drop", "(I)I"⟩) := ⟨hp_m4 (List.mem_of_getElem? (i := 19) (by decide +kernel)), rfl⟩
theorem wd_4_18 : hp_ok (Cond.instanceMethod ⟨"HallPhone", "drop", "(I)I"⟩) := ⟨hp_m4 (List.mem_of_getElem? (i := 18) (by decide +kernel)), rfl⟩
theorem kv_X8_drop : hp_Kv yX8_drop cX8_drop 2 (some .int) 1 := ⟨wd_4_18, wd_4_19, wd_1_1, wd_4_20, ⟨by decide, by decide, by decide +kernel⟩, by decide⟩
theorem wd_4_26 : hp_ok (Cond.code ⟨"HallPhone", "hang", "(I)I"⟩ prog_1_method_32_code 2 (some .int)) := ⟨hp_m4 (List.mem_of_getElem? (i := 26) (by decide +kernel)), rfl⟩
theorem wd_4_25 : hp_ok (Cond.selects "HallPhone" ⟨"HallPhone", "hang", "(I)I"⟩ ⟨"HallPhone", "hang", "(I)I"⟩) := ⟨hp_m4 (List.mem_of_getElem? (i := 25) (by decide +kernel)), rfl⟩
theorem wd_4_24 : hp_ok (Cond.instanceMethod ⟨"HallPhone", "hang", "(I)I"⟩) := ⟨hp_m4 (List.mem_of_getElem? (i := 24) (by decide +kernel)), rfl⟩
theorem kv_X8_hang : hp_Kv yX8_hang cX8_hang 2 (some .int) 1 := ⟨wd_4_24, wd_4_25, wd_1_1, wd_4_26, ⟨by decide, by decide, by decide +kernel⟩, by decide⟩
theorem wd_4_32 : hp_ok (Cond.code ⟨"HallPhone", "ring", "(II)I"⟩ prog_1_method_33_code 3 (some .int)) := ⟨hp_m4 (List.mem_of_getElem? (i := 32) (by decide +kernel)), rfl⟩
theorem wd_4_31 : hp_ok (Cond.selects "HallPhone" ⟨"HallPhone", "ring", "(II)I"⟩ ⟨"HallPhone", "ring", "(II)I"⟩) := ⟨hp_m4 (List.mem_of_getElem? (i := 31) (by decide +kernel)), rfl⟩
theorem wd_4_30 : hp_ok (Cond.instanceMethod ⟨"HallPhone", "ring", "(II)I"⟩) := ⟨hp_m4 (List.mem_of_getElem? (i := 30) (by decide +kernel)), rfl⟩
theorem kv_X8_ring : hp_Kv yX8_ring cX8_ring 3 (some .int) 2 := ⟨wd_4_30, wd_4_31, wd_1_1, wd_4_32, ⟨by decide, by decide, by decide +kernel⟩, by decide⟩
theorem wd_4_36 : hp_ok (Cond.code ⟨"HallPhone", "pay", "(II)I"⟩ prog_1_method_34_code 3 (some .int)) := ⟨hp_m4 (List.mem_of_getElem? (i := 36) (by decide +kernel)), rfl⟩
theorem wd_4_35 : hp_ok (Cond.selects "HallPhone" ⟨"HallPhone", "pay", "(II)I"⟩ ⟨"HallPhone", "pay", "(II)I"⟩) := ⟨hp_m4 (List.mem_of_getElem? (i := 35) (by decide +kernel)), rfl⟩
theorem wd_4_34 : hp_ok (Cond.instanceMethod ⟨"HallPhone", "pay", "(II)I"⟩) := ⟨hp_m4 (List.mem_of_getElem? (i := 34) (by decide +kernel)), rfl⟩
theorem kv_X8_pay : hp_Kv yX8_pay cX8_pay 3 (some .int) 2 := ⟨wd_4_34, wd_4_35, wd_1_1, wd_4_36, ⟨by decide, by decide, by decide +kernel⟩, by decide⟩
theorem wd_4_42 : hp_ok (Cond.code ⟨"HallPhone", "setCurious", "(IZ)Z"⟩ prog_1_method_35_code 4 (some .boolean)) := ⟨hp_m4 (List.mem_of_getElem? (i := 42) (by decide +kernel)), rfl⟩
theorem wd_4_41 : hp_ok (Cond.selects "HallPhone" ⟨"HallPhone", "setCurious", "(IZ)Z"⟩ ⟨"HallPhone", "setCurious", "(IZ)Z"⟩) := ⟨hp_m4 (List.mem_of_getElem? (i := 41) (by decide +kernel)), rfl⟩
theorem wd_4_40 : hp_ok (Cond.instanceMethod ⟨"HallPhone", "setCurious", "(IZ)Z"⟩) := ⟨hp_m4 (List.mem_of_getElem? (i := 40) (by decide +kernel)), rfl⟩
theorem kv_X8_setCurious : hp_Kv yX8_setCurious cX8_setCurious 4 (some .boolean) 2 := ⟨wd_4_40, wd_4_41, wd_1_1, wd_4_42, ⟨by decide, by decide, by decide +kernel⟩, by decide⟩
theorem wd_4_48 : hp_ok (Cond.code ⟨"HallPhone", "set", "(II)I"⟩ prog_1_method_36_code 4 (some .int)) := ⟨hp_m4 (List.mem_of_getElem? (i := 48) (by decide +kernel)), rfl⟩
theorem wd_4_47 : hp_ok (Cond.selects "HallPhone" ⟨"HallPhone", "set", "(II)I"⟩ ⟨"HallPhone", "set", "(II)I"⟩) := ⟨hp_m4 (List.mem_of_getElem? (i := 47) (by decide +kernel)), rfl⟩
theorem wd_4_46 : hp_ok (Cond.instanceMethod ⟨"HallPhone", "set", "(II)I"⟩) := ⟨hp_m4 (List.mem_of_getElem? (i := 46) (by decide +kernel)), rfl⟩
theorem kv_X8_set : hp_Kv yX8_set cX8_set 4 (some .int) 2 := ⟨wd_4_46, wd_4_47, wd_1_1, wd_4_48, ⟨by decide, by decide, by decide +kernel⟩, by decide⟩
theorem wd_4_51 : hp_ok (Cond.code ⟨"HallPhone$Verb", "ofSetting", "(I)LHallPhone$Verb;"⟩ prog_9_method_5_code 5 (some (.object "HallPhone$Verb"))) := ⟨hp_m4 (List.mem_of_getElem? (i := 51) (by decide +kernel)), rfl⟩
theorem wd_4_50 : hp_ok (Cond.static ⟨"HallPhone$Verb", "ofSetting", "(I)LHallPhone$Verb;"⟩) := ⟨hp_m4 (List.mem_of_getElem? (i := 50) (by decide +kernel)), rfl⟩
theorem ks_X7_ofSetting : hp_Ks yX7_ofSetting cX7_ofSetting 5 (some (.object "HallPhone$Verb")) 1 := ⟨wd_4_50, wd_1_18, wd_4_51, ⟨by decide, by decide, by decide +kernel⟩, by decide⟩
theorem wd_4_57 : hp_ok (Cond.code ⟨"HallPhone", "pass", "(I)I"⟩ prog_1_method_37_code 2 (some .int)) := ⟨hp_m4 (List.mem_of_getElem? (i := 57) (by decide +kernel)), rfl⟩
theorem wd_4_56 : hp_ok (Cond.selects "HallPhone" ⟨"HallPhone", "pass", "(I)I"⟩ ⟨"HallPhone", "pass", "(I)I"⟩) := ⟨hp_m4 (List.mem_of_getElem? (i := 56) (by decide +kernel)), rfl⟩
theorem wd_4_55 : hp_ok (Cond.instanceMethod ⟨"HallPhone", "pass", "(I)I"⟩) := ⟨hp_m4 (List.mem_of_getElem? (i := 55) (by decide +kernel)), rfl⟩
theorem kv_X8_pass : hp_Kv yX8_pass cX8_pass 2 (some .int) 1 := ⟨wd_4_55, wd_4_56, wd_1_1, wd_4_57, ⟨by decide, by decide, by decide +kernel⟩, by decide⟩
theorem wd_4_63 : hp_ok (Cond.code ⟨"HallPhone", "undo", "()I"⟩ prog_1_method_38_code 1 (some .int)) := ⟨hp_m4 (List.mem_of_getElem? (i := 63) (by decide +kernel)), rfl⟩
theorem wd_4_62 : hp_ok (Cond.selects "HallPhone" ⟨"HallPhone", "undo", "()I"⟩ ⟨"HallPhone", "undo", "()I"⟩) := ⟨hp_m4 (List.mem_of_getElem? (i := 62) (by decide +kernel)), rfl⟩
theorem wd_4_61 : hp_ok (Cond.instanceMethod ⟨"HallPhone", "undo", "()I"⟩) := ⟨hp_m4 (List.mem_of_getElem? (i := 61) (by decide +kernel)), rfl⟩
theorem kv_X8_undo : hp_Kv yX8_undo cX8_undo 1 (some .int) 0 := ⟨wd_4_61, wd_4_62, wd_1_1, wd_4_63, ⟨by decide, by decide, by decide +kernel⟩, by decide⟩
theorem wd_4_67 : hp_ok (Cond.code ⟨"HallPhone$History", "takeBack", "(LHallPhone$House;)Z"⟩ prog_3_method_3_code 3 (some .boolean)) := ⟨hp_m4 (List.mem_of_getElem? (i := 67) (by decide +kernel)), rfl⟩
theorem wd_4_66 : hp_ok (Cond.instanceMethod ⟨"HallPhone$History", "takeBack", "(LHallPhone$House;)Z"⟩) := ⟨hp_m4 (List.mem_of_getElem? (i := 66) (by decide +kernel)), rfl⟩
theorem kv_X1_takeBack : hp_Kv yX1_takeBack cX1_takeBack 3 (some .boolean) 1 := ⟨wd_4_66, ⟨hp_sel (n := 3) (by decide +kernel), rfl⟩, wd_1_6, wd_4_67, ⟨by decide, by decide, by decide +kernel⟩, by decide⟩
theorem wd_4_71 : hp_ok (Cond.code ⟨"HallPhone", "checksum", "()J"⟩ prog_1_method_41_code 4 (some .long)) := ⟨hp_m4 (List.mem_of_getElem? (i := 71) (by decide +kernel)), rfl⟩
theorem wd_4_70 : hp_ok (Cond.selects "HallPhone" ⟨"HallPhone", "checksum", "()J"⟩ ⟨"HallPhone", "checksum", "()J"⟩) := ⟨hp_m4 (List.mem_of_getElem? (i := 70) (by decide +kernel)), rfl⟩
theorem wd_4_69 : hp_ok (Cond.instanceMethod ⟨"HallPhone", "checksum", "()J"⟩) := ⟨hp_m4 (List.mem_of_getElem? (i := 69) (by decide +kernel)), rfl⟩
theorem kv_X8_checksum : hp_Kv yX8_checksum cX8_checksum 4 (some .long) 0 := ⟨wd_4_69, wd_4_70, wd_1_1, wd_4_71, ⟨by decide, by decide, by decide +kernel⟩, by decide⟩
theorem wd_4_76 : hp_ok (Cond.code ⟨"HallPhone", "checksumWithFlat", "(JI)J"⟩ prog_1_method_51_code 7 (some .long)) := ⟨hp_m4 (List.mem_of_getElem? (i := 76) (by decide +kernel)), rfl⟩
theorem wd_4_75 : hp_ok (Cond.instanceMethod ⟨"HallPhone", "checksumWithFlat", "(JI)J"⟩) := ⟨hp_m4 (List.mem_of_getElem? (i := 75) (by decide +kernel)), rfl⟩
theorem kv_X8_checksumWithFlat : hp_Kv yX8_checksumWithFlat cX8_checksumWithFlat 7 (some .long) 2 := ⟨wd_4_75, ⟨hp_sel (n := 10) (by decide +kernel), rfl⟩, wd_1_1, wd_4_76, ⟨by decide, by decide, by decide +kernel⟩, by decide⟩
theorem wd_4_80 : hp_ok (Cond.code ⟨"HallPhone$House", "minutesHeard", "(II)I"⟩ prog_4_method_8_code 4 (some .int)) := ⟨hp_m4 (List.mem_of_getElem? (i := 80) (by decide +kernel)), rfl⟩
theorem wd_4_79 : hp_ok (Cond.instanceMethod ⟨"HallPhone$House", "minutesHeard", "(II)I"⟩) := ⟨hp_m4 (List.mem_of_getElem? (i := 79) (by decide +kernel)), rfl⟩
theorem kv_X2_minutesHeard : hp_Kv yX2_minutesHeard cX2_minutesHeard 4 (some .int) 2 := ⟨wd_4_79, ⟨hp_sel (n := 10) (by decide +kernel), rfl⟩, wd_1_2, wd_4_80, ⟨by decide, by decide, by decide +kernel⟩, by decide⟩
theorem wd_4_85 : hp_ok (Cond.code ⟨"HallPhone$Slate", "minuteAt", "(I)I"⟩ prog_8_method_3_code 2 (some .int)) := ⟨hp_m4 (List.mem_of_getElem? (i := 85) (by decide +kernel)), rfl⟩
theorem wd_4_84 : hp_ok (Cond.instanceMethod ⟨"HallPhone$Slate", "minuteAt", "(I)I"⟩) := ⟨hp_m4 (List.mem_of_getElem? (i := 84) (by decide +kernel)), rfl⟩
theorem kv_X6_minuteAt : hp_Kv yX6_minuteAt cX6_minuteAt 2 (some .int) 1 := ⟨wd_4_84, ⟨hp_sel (n := 3) (by decide +kernel), rfl⟩, wd_1_5, wd_4_85, ⟨by decide, by decide, by decide +kernel⟩, by decide⟩
theorem wd_4_98 : hp_ok (Cond.code ⟨"HallPhone", "queued", "(I)I"⟩ prog_1_method_8_code 2 (some .int)) := ⟨hp_m4 (List.mem_of_getElem? (i := 98) (by decide +kernel)), rfl⟩
theorem wd_4_97 : hp_ok (Cond.selects "HallPhone" ⟨"HallPhone", "queued", "(I)I"⟩ ⟨"HallPhone", "queued", "(I)I"⟩) := ⟨hp_m4 (List.mem_of_getElem? (i := 97) (by decide +kernel)), rfl⟩
theorem wd_4_96 : hp_ok (Cond.instanceMethod ⟨"HallPhone", "queued", "(I)I"⟩) := ⟨hp_m4 (List.mem_of_getElem? (i := 96) (by decide +kernel)), rfl⟩
theorem kv_X8_queued : hp_Kv yX8_queued cX8_queued 2 (some .int) 1 := ⟨wd_4_96, wd_4_97, wd_1_1, wd_4_98, ⟨by decide, by decide, by decide +kernel⟩, by decide⟩
theorem wd_4_106 : hp_ok (Cond.code ⟨"HallPhone", "heard", "(II)I"⟩ prog_1_method_10_code 3 (some .int)) := ⟨hp_m4 (List.mem_of_getElem? (i := 106) (by decide +kernel)), rfl⟩
theorem wd_4_105 : hp_ok (Cond.selects "HallPhone" ⟨"HallPhone", "heard", "(II)I"⟩ ⟨"HallPhone", "heard", "(II)I"⟩) := ⟨hp_m4 (List.mem_of_getElem? (i := 105) (by decide +kernel)), rfl⟩
theorem wd_4_104 : hp_ok (Cond.instanceMethod ⟨"HallPhone", "heard", "(II)I"⟩) := ⟨hp_m4 (List.mem_of_getElem? (i := 104) (by decide +kernel)), rfl⟩
theorem kv_X8_heard : hp_Kv yX8_heard cX8_heard 3 (some .int) 2 := ⟨wd_4_104, wd_4_105, wd_1_1, wd_4_106, ⟨by decide, by decide, by decide +kernel⟩, by decide⟩
theorem wd_4_110 : hp_ok (Cond.code ⟨"HallPhone", "message", "(II)I"⟩ prog_1_method_9_code 3 (some .int)) := ⟨hp_m4 (List.mem_of_getElem? (i := 110) (by decide +kernel)), rfl⟩
theorem wd_4_109 : hp_ok (Cond.selects "HallPhone" ⟨"HallPhone", "message", "(II)I"⟩ ⟨"HallPhone", "message", "(II)I"⟩) := ⟨hp_m4 (List.mem_of_getElem? (i := 109) (by decide +kernel)), rfl⟩
theorem wd_4_108 : hp_ok (Cond.instanceMethod ⟨"HallPhone", "message", "(II)I"⟩) := ⟨hp_m4 (List.mem_of_getElem? (i := 108) (by decide +kernel)), rfl⟩
theorem kv_X8_message : hp_Kv yX8_message cX8_message 3 (some .int) 2 := ⟨wd_4_108, wd_4_109, wd_1_1, wd_4_110, ⟨by decide, by decide, by decide +kernel⟩, by decide⟩
