theorem hp_m1 {w : Cond} (h : w ∈ tables_1_1) : w ∈ lw_tbl := List.mem_append_right _ (List.mem_append_left _ h)
theorem hp_m2 {w : Cond} (h : w ∈ tables_1_2) : w ∈ lw_tbl := List.mem_append_right _ (List.mem_append_right _ (List.mem_append_left _ h))
theorem hp_m3 {w : Cond} (h : w ∈ tables_1_3) : w ∈ lw_tbl := List.mem_append_right _ (List.mem_append_right _ (List.mem_append_right _ (List.mem_append_left _ h)))
theorem hp_m4 {w : Cond} (h : w ∈ tables_1_4) : w ∈ lw_tbl := List.mem_append_right _ (List.mem_append_right _ (List.mem_append_right _ (List.mem_append_right _ (List.mem_append_left _ h))))
theorem hp_m5 {w : Cond} (h : w ∈ tables_1_5) : w ∈ lw_tbl := List.mem_append_right _ (List.mem_append_right _ (List.mem_append_right _ (List.mem_append_right _ (List.mem_append_right _ (List.mem_append_left _ h)))))
theorem hp_m6 {w : Cond} (h : w ∈ tables_1_6) : w ∈ lw_tbl := List.mem_append_right _ (List.mem_append_right _ (List.mem_append_right _ (List.mem_append_right _ (List.mem_append_right _ (List.mem_append_right _ (List.mem_append_left _ h))))))
theorem hp_m7 {w : Cond} (h : w ∈ tables_1_7) : w ∈ lw_tbl := List.mem_append_right _ (List.mem_append_right _ (List.mem_append_right _ (List.mem_append_right _ (List.mem_append_right _ (List.mem_append_right _ (List.mem_append_right _ (List.mem_append_left _ h)))))))
theorem hp_m8 {w : Cond} (h : w ∈ tables_1_8) : w ∈ lw_tbl := List.mem_append_right _ (List.mem_append_right _ (List.mem_append_right _ (List.mem_append_right _ (List.mem_append_right _ (List.mem_append_right _ (List.mem_append_right _ (List.mem_append_right _ (List.mem_append_left _ h))))))))
theorem hp_m9 {w : Cond} (h : w ∈ tables_1_9) : w ∈ lw_tbl := List.mem_append_right _ (List.mem_append_right _ (List.mem_append_right _ (List.mem_append_right _ (List.mem_append_right _ (List.mem_append_right _ (List.mem_append_right _ (List.mem_append_right _ (List.mem_append_right _ h))))))))
theorem hp_sel {y : MethodName} {n : Nat} (h : (y, n) ∈ lw_privs) : Cond.selects y.cls y y ∈ lw_tbl := List.mem_append_left _ (List.mem_map.mpr ⟨(y, n), h, rfl⟩)
theorem in_X1 : ∀ w ∈ u_ws RX1 TX1 3, hp_ok w := fun w h => ⟨(by decide +kernel : ∀ w ∈ u_ws RX1 TX1 3, w ∈ lw_tbl) w h, (by decide +kernel : ∀ w ∈ u_ws RX1 TX1 3, goodWord w = true) w h⟩
theorem in_X2 : ∀ w ∈ u_ws RX2 TX2 10, hp_ok w := fun w h => ⟨(by decide +kernel : ∀ w ∈ u_ws RX2 TX2 10, w ∈ lw_tbl) w h, (by decide +kernel : ∀ w ∈ u_ws RX2 TX2 10, goodWord w = true) w h⟩
theorem in_X3 : ∀ w ∈ u_ws RX3 TX3 5, hp_ok w := fun w h => ⟨(by decide +kernel : ∀ w ∈ u_ws RX3 TX3 5, w ∈ lw_tbl) w h, (by decide +kernel : ∀ w ∈ u_ws RX3 TX3 5, goodWord w = true) w h⟩
theorem in_X4 : ∀ w ∈ u_ws RX4 TX4 2, hp_ok w := fun w h => ⟨(by decide +kernel : ∀ w ∈ u_ws RX4 TX4 2, w ∈ lw_tbl) w h, (by decide +kernel : ∀ w ∈ u_ws RX4 TX4 2, goodWord w = true) w h⟩
theorem in_X5 : ∀ w ∈ u_ws RX5 TX5 10, hp_ok w := fun w h => ⟨(by decide +kernel : ∀ w ∈ u_ws RX5 TX5 10, w ∈ lw_tbl) w h, (by decide +kernel : ∀ w ∈ u_ws RX5 TX5 10, goodWord w = true) w h⟩
theorem in_X6 : ∀ w ∈ u_ws RX6 TX6 3, hp_ok w := fun w h => ⟨(by decide +kernel : ∀ w ∈ u_ws RX6 TX6 3, w ∈ lw_tbl) w h, (by decide +kernel : ∀ w ∈ u_ws RX6 TX6 3, goodWord w = true) w h⟩
theorem in_X8 : ∀ w ∈ u_ws RX8 TX8 10, hp_ok w := fun w h => ⟨(by decide +kernel : ∀ w ∈ u_ws RX8 TX8 10, w ∈ lw_tbl) w h, (by decide +kernel : ∀ w ∈ u_ws RX8 TX8 10, goodWord w = true) w h⟩
theorem in_X9 : ∀ w ∈ u_ws RX9 TX9 21, hp_ok w := fun w h => ⟨(by decide +kernel : ∀ w ∈ u_ws RX9 TX9 21, w ∈ lw_tbl) w h, (by decide +kernel : ∀ w ∈ u_ws RX9 TX9 21, goodWord w = true) w h⟩
theorem wd_1_37 : hp_ok (Cond.methodLink "HallPhone" 1 ⟨"java/lang/Object", "<init>", "()V"⟩) := ⟨hp_m1 (List.mem_of_getElem? (i := 37) (by decide +kernel)), rfl⟩
theorem wd_1_42 : Cond.methodLinkNest "HallPhone" 9 ⟨"HallPhone$House", "<init>", "()V"⟩ "HallPhone" ∈ lw_tbl := hp_m1 (List.mem_of_getElem? (i := 42) (by decide +kernel))
theorem wd_1_45 : hp_ok (Cond.methodLink "HallPhone$House" 3 ⟨"java/lang/Object", "<init>", "()V"⟩) := ⟨hp_m1 (List.mem_of_getElem? (i := 45) (by decide +kernel)), rfl⟩
theorem wd_1_48 : Cond.methodLinkNest "HallPhone$House" 36 ⟨"HallPhone$Phone", "<init>", "()V"⟩ "HallPhone" ∈ lw_tbl := hp_m1 (List.mem_of_getElem? (i := 48) (by decide +kernel))
theorem wd_1_51 : hp_ok (Cond.methodLink "HallPhone$Phone" 3 ⟨"java/lang/Object", "<init>", "()V"⟩) := ⟨hp_m1 (List.mem_of_getElem? (i := 51) (by decide +kernel)), rfl⟩
theorem wd_1_52 : hp_ok (Cond.fieldLink "HallPhone$Phone" 9 "HallPhone$Phone" "state" "I") := ⟨hp_m1 (List.mem_of_getElem? (i := 52) (by decide +kernel)), rfl⟩
theorem wd_1_53 : Cond.fieldLinkNest "HallPhone$House" 93 "HallPhone$Phone" "state" "I" "HallPhone" ∈ lw_tbl := hp_m1 (List.mem_of_getElem? (i := 53) (by decide +kernel))
theorem wd_1_54 : hp_ok (Cond.fieldLink "HallPhone$Phone" 15 "HallPhone$Phone" "flat" "I") := ⟨hp_m1 (List.mem_of_getElem? (i := 54) (by decide +kernel)), rfl⟩
theorem wd_1_55 : Cond.fieldLinkNest "HallPhone$House" 96 "HallPhone$Phone" "flat" "I" "HallPhone" ∈ lw_tbl := hp_m1 (List.mem_of_getElem? (i := 55) (by decide +kernel))
theorem wd_1_56 : hp_ok (Cond.fieldLink "HallPhone$Phone" 18 "HallPhone$Phone" "spoken" "I") := ⟨hp_m1 (List.mem_of_getElem? (i := 56) (by decide +kernel)), rfl⟩
theorem wd_1_57 : Cond.fieldLinkNest "HallPhone$House" 99 "HallPhone$Phone" "spoken" "I" "HallPhone" ∈ lw_tbl := hp_m1 (List.mem_of_getElem? (i := 57) (by decide +kernel))
theorem wd_1_58 : hp_ok (Cond.fieldLink "HallPhone$Phone" 21 "HallPhone$Phone" "left" "I") := ⟨hp_m1 (List.mem_of_getElem? (i := 58) (by decide +kernel)), rfl⟩
theorem wd_1_59 : Cond.fieldLinkNest "HallPhone$House" 102 "HallPhone$Phone" "left" "I" "HallPhone" ∈ lw_tbl := hp_m1 (List.mem_of_getElem? (i := 59) (by decide +kernel))
theorem wd_1_60 : Cond.fieldLinkNest "HallPhone" 331 "HallPhone$Phone" "left" "I" "HallPhone" ∈ lw_tbl := hp_m1 (List.mem_of_getElem? (i := 60) (by decide +kernel))
theorem wd_1_61 : hp_ok (Cond.fieldLink "HallPhone$Phone" 24 "HallPhone$Phone" "isFromOutside" "Z") := ⟨hp_m1 (List.mem_of_getElem? (i := 61) (by decide +kernel)), rfl⟩
theorem wd_1_62 : Cond.fieldLinkNest "HallPhone$House" 105 "HallPhone$Phone" "isFromOutside" "Z" "HallPhone" ∈ lw_tbl := hp_m1 (List.mem_of_getElem? (i := 62) (by decide +kernel))
theorem wd_1_77 : Cond.methodLinkNest "HallPhone$House" 43 ⟨"HallPhone$Queue", "<init>", "()V"⟩ "HallPhone" ∈ lw_tbl := hp_m1 (List.mem_of_getElem? (i := 77) (by decide +kernel))
theorem wd_1_80 : hp_ok (Cond.methodLink "HallPhone$Queue" 3 ⟨"java/lang/Object", "<init>", "()V"⟩) := ⟨hp_m1 (List.mem_of_getElem? (i := 80) (by decide +kernel)), rfl⟩
theorem wd_1_81 : hp_ok (Cond.fieldLink "HallPhone$Queue" 9 "HallPhone$Queue" "flats" "[I") := ⟨hp_m1 (List.mem_of_getElem? (i := 81) (by decide +kernel)), rfl⟩
theorem wd_1_82 : hp_ok (Cond.fieldLink "HallPhone$Queue" 15 "HallPhone$Queue" "length" "I") := ⟨hp_m1 (List.mem_of_getElem? (i := 82) (by decide +kernel)), rfl⟩
theorem wd_1_83 : Cond.fieldLinkNest "HallPhone$House" 71 "HallPhone$Queue" "length" "I" "HallPhone" ∈ lw_tbl := hp_m1 (List.mem_of_getElem? (i := 83) (by decide +kernel))
theorem wd_1_91 : Cond.methodLinkNest "HallPhone$House" 50 ⟨"HallPhone$Slate", "<init>", "()V"⟩ "HallPhone" ∈ lw_tbl := hp_m1 (List.mem_of_getElem? (i := 91) (by decide +kernel))
theorem wd_1_94 : hp_ok (Cond.methodLink "HallPhone$Slate" 3 ⟨"java/lang/Object", "<init>", "()V"⟩) := ⟨hp_m1 (List.mem_of_getElem? (i := 94) (by decide +kernel)), rfl⟩
theorem wd_1_95 : hp_ok (Cond.fieldLink "HallPhone$Slate" 9 "HallPhone$Slate" "flats" "[I") := ⟨hp_m1 (List.mem_of_getElem? (i := 95) (by decide +kernel)), rfl⟩
theorem wd_1_96 : hp_ok (Cond.fieldLink "HallPhone$Slate" 15 "HallPhone$Slate" "minutes" "[I") := ⟨hp_m1 (List.mem_of_getElem? (i := 96) (by decide +kernel)), rfl⟩
theorem wd_1_97 : hp_ok (Cond.fieldLink "HallPhone$Slate" 18 "HallPhone$Slate" "length" "I") := ⟨hp_m1 (List.mem_of_getElem? (i := 97) (by decide +kernel)), rfl⟩
theorem wd_1_98 : Cond.fieldLinkNest "HallPhone$House" 74 "HallPhone$Slate" "length" "I" "HallPhone" ∈ lw_tbl := hp_m1 (List.mem_of_getElem? (i := 98) (by decide +kernel))
theorem wd_1_99 : Cond.fieldLinkNest "HallPhone" 116 "HallPhone$Slate" "length" "I" "HallPhone" ∈ lw_tbl := hp_m1 (List.mem_of_getElem? (i := 99) (by decide +kernel))
theorem wd_1_107 : hp_ok (Cond.fieldLink "HallPhone$House" 9 "HallPhone$House" "flats" "I") := ⟨hp_m1 (List.mem_of_getElem? (i := 107) (by decide +kernel)), rfl⟩
theorem wd_1_108 : Cond.fieldLinkNest "HallPhone" 141 "HallPhone$House" "flats" "I" "HallPhone" ∈ lw_tbl := hp_m1 (List.mem_of_getElem? (i := 108) (by decide +kernel))
theorem wd_1_109 : hp_ok (Cond.fieldLink "HallPhone$House" 15 "HallPhone$House" "time" "I") := ⟨hp_m1 (List.mem_of_getElem? (i := 109) (by decide +kernel)), rfl⟩
theorem wd_1_110 : Cond.fieldLinkNest "HallPhone" 281 "HallPhone$House" "time" "I" "HallPhone" ∈ lw_tbl := hp_m1 (List.mem_of_getElem? (i := 110) (by decide +kernel))
theorem wd_1_111 : hp_ok (Cond.fieldLink "HallPhone$House" 18 "HallPhone$House" "minutesOfEndedCalls" "I") := ⟨hp_m1 (List.mem_of_getElem? (i := 111) (by decide +kernel)), rfl⟩
theorem wd_1_112 : Cond.fieldLinkNest "HallPhone" 209 "HallPhone$House" "minutesOfEndedCalls" "I" "HallPhone" ∈ lw_tbl := hp_m1 (List.mem_of_getElem? (i := 112) (by decide +kernel))
theorem wd_1_113 : hp_ok (Cond.fieldLink "HallPhone$House" 21 "HallPhone$House" "settings" "[I") := ⟨hp_m1 (List.mem_of_getElem? (i := 113) (by decide +kernel)), rfl⟩
theorem wd_1_114 : hp_ok (Cond.fieldLink "HallPhone$House" 25 "HallPhone$House" "accounts" "[I") := ⟨hp_m1 (List.mem_of_getElem? (i := 114) (by decide +kernel)), rfl⟩
theorem wd_1_115 : hp_ok (Cond.fieldLink "HallPhone$House" 28 "HallPhone$House" "numbers" "[I") := ⟨hp_m1 (List.mem_of_getElem? (i := 115) (by decide +kernel)), rfl⟩
theorem wd_1_116 : hp_ok (Cond.fieldLink "HallPhone$House" 31 "HallPhone$House" "hearing" "[I") := ⟨hp_m1 (List.mem_of_getElem? (i := 116) (by decide +kernel)), rfl⟩
theorem wd_1_117 : hp_ok (Cond.fieldLink "HallPhone$House" 37 "HallPhone$House" "phone" "LHallPhone$Phone;") := ⟨hp_m1 (List.mem_of_getElem? (i := 117) (by decide +kernel)), rfl⟩
theorem wd_1_118 : Cond.fieldLinkNest "HallPhone" 327 "HallPhone$House" "phone" "LHallPhone$Phone;" "HallPhone" ∈ lw_tbl := hp_m1 (List.mem_of_getElem? (i := 118) (by decide +kernel))
theorem wd_1_119 : hp_ok (Cond.fieldLink "HallPhone$House" 44 "HallPhone$House" "queue" "LHallPhone$Queue;") := ⟨hp_m1 (List.mem_of_getElem? (i := 119) (by decide +kernel)), rfl⟩
theorem wd_1_120 : Cond.fieldLinkNest "HallPhone" 103 "HallPhone$House" "queue" "LHallPhone$Queue;" "HallPhone" ∈ lw_tbl := hp_m1 (List.mem_of_getElem? (i := 120) (by decide +kernel))
theorem wd_1_121 : hp_ok (Cond.fieldLink "HallPhone$House" 51 "HallPhone$House" "slate" "LHallPhone$Slate;") := ⟨hp_m1 (List.mem_of_getElem? (i := 121) (by decide +kernel)), rfl⟩
theorem wd_1_122 : Cond.fieldLinkNest "HallPhone" 112 "HallPhone$House" "slate" "LHallPhone$Slate;" "HallPhone" ∈ lw_tbl := hp_m1 (List.mem_of_getElem? (i := 122) (by decide +kernel))
theorem wd_1_146 : Cond.methodLinkNest "HallPhone" 21 ⟨"HallPhone$History", "<init>", "()V"⟩ "HallPhone" ∈ lw_tbl := hp_m1 (List.mem_of_getElem? (i := 146) (by decide +kernel))
theorem wd_1_149 : hp_ok (Cond.methodLink "HallPhone$History" 3 ⟨"java/lang/Object", "<init>", "()V"⟩) := ⟨hp_m1 (List.mem_of_getElem? (i := 149) (by decide +kernel)), rfl⟩
theorem wd_1_152 : Cond.methodLinkNest "HallPhone$History" 24 ⟨"HallPhone$House", "<init>", "()V"⟩ "HallPhone" ∈ lw_tbl := hp_m1 (List.mem_of_getElem? (i := 152) (by decide +kernel))
theorem wd_1_153 : hp_ok (Cond.fieldLink "HallPhone$History" 11 "HallPhone$History" "past" "[LHallPhone$House;") := ⟨hp_m1 (List.mem_of_getElem? (i := 153) (by decide +kernel)), rfl⟩
theorem wd_1_154 : hp_ok (Cond.fieldLink "HallPhone$History" 17 "HallPhone$History" "next" "I") := ⟨hp_m1 (List.mem_of_getElem? (i := 154) (by decide +kernel)), rfl⟩
theorem wd_1_155 : hp_ok (Cond.fieldLink "HallPhone$History" 21 "HallPhone$History" "count" "I") := ⟨hp_m1 (List.mem_of_getElem? (i := 155) (by decide +kernel)), rfl⟩
theorem wd_1_156 : Cond.fieldLinkNest "HallPhone" 83 "HallPhone$History" "count" "I" "HallPhone" ∈ lw_tbl := hp_m1 (List.mem_of_getElem? (i := 156) (by decide +kernel))
theorem wd_1_166 : Cond.methodLinkNest "HallPhone" 38 ⟨"HallPhone$Reader", "<init>", "()V"⟩ "HallPhone" ∈ lw_tbl := hp_m1 (List.mem_of_getElem? (i := 166) (by decide +kernel))
theorem wd_1_169 : hp_ok (Cond.methodLink "HallPhone$Reader" 3 ⟨"java/lang/Object", "<init>", "()V"⟩) := ⟨hp_m1 (List.mem_of_getElem? (i := 169) (by decide +kernel)), rfl⟩
theorem wd_1_170 : hp_ok (Cond.fieldLink "HallPhone$Reader" 9 "HallPhone$Reader" "bytes" "[I") := ⟨hp_m1 (List.mem_of_getElem? (i := 170) (by decide +kernel)), rfl⟩
theorem wd_1_171 : hp_ok (Cond.fieldLink "HallPhone$Reader" 15 "HallPhone$Reader" "length" "I") := ⟨hp_m1 (List.mem_of_getElem? (i := 171) (by decide +kernel)), rfl⟩
theorem wd_1_172 : hp_ok (Cond.fieldLink "HallPhone$Reader" 19 "HallPhone$Reader" "at" "I") := ⟨hp_m1 (List.mem_of_getElem? (i := 172) (by decide +kernel)), rfl⟩
theorem wd_1_173 : hp_ok (Cond.fieldLink "HallPhone$Reader" 22 "HallPhone$Reader" "kind" "I") := ⟨hp_m1 (List.mem_of_getElem? (i := 173) (by decide +kernel)), rfl⟩
theorem wd_1_174 : hp_ok (Cond.fieldLink "HallPhone$Reader" 25 "HallPhone$Reader" "start" "I") := ⟨hp_m1 (List.mem_of_getElem? (i := 174) (by decide +kernel)), rfl⟩
theorem wd_1_175 : hp_ok (Cond.fieldLink "HallPhone$Reader" 28 "HallPhone$Reader" "number" "I") := ⟨hp_m1 (List.mem_of_getElem? (i := 175) (by decide +kernel)), rfl⟩
theorem wd_1_176 : hp_ok (Cond.fieldLink "HallPhone$Reader" 31 "HallPhone$Reader" "verb" "LHallPhone$Verb;") := ⟨hp_m1 (List.mem_of_getElem? (i := 176) (by decide +kernel)), rfl⟩
theorem wd_1_177 : Cond.fieldLinkNest "HallPhone" 306 "HallPhone$Reader" "verb" "LHallPhone$Verb;" "HallPhone" ∈ lw_tbl := hp_m1 (List.mem_of_getElem? (i := 177) (by decide +kernel))
theorem wd_1_178 : hp_ok (Cond.fieldLink "HallPhone$Reader" 35 "HallPhone$Reader" "flat" "I") := ⟨hp_m1 (List.mem_of_getElem? (i := 178) (by decide +kernel)), rfl⟩
theorem wd_1_179 : Cond.fieldLinkNest "HallPhone" 309 "HallPhone$Reader" "flat" "I" "HallPhone" ∈ lw_tbl := hp_m1 (List.mem_of_getElem? (i := 179) (by decide +kernel))
theorem wd_1_180 : hp_ok (Cond.fieldLink "HallPhone$Reader" 38 "HallPhone$Reader" "amount" "I") := ⟨hp_m1 (List.mem_of_getElem? (i := 180) (by decide +kernel)), rfl⟩
theorem wd_1_181 : Cond.fieldLinkNest "HallPhone" 312 "HallPhone$Reader" "amount" "I" "HallPhone" ∈ lw_tbl := hp_m1 (List.mem_of_getElem? (i := 181) (by decide +kernel))
theorem wd_1_182 : hp_ok (Cond.fieldLink "HallPhone$Reader" 41 "HallPhone$Reader" "error" "I") := ⟨hp_m1 (List.mem_of_getElem? (i := 182) (by decide +kernel)), rfl⟩
theorem wd_1_183 : Cond.fieldLinkNest "HallPhone" 318 "HallPhone$Reader" "error" "I" "HallPhone" ∈ lw_tbl := hp_m1 (List.mem_of_getElem? (i := 183) (by decide +kernel))
theorem wd_1_207 : hp_ok (Cond.methodLink "HallPhone" 52 ⟨"java/lang/StringBuilder", "<init>", "()V"⟩) := ⟨hp_m1 (List.mem_of_getElem? (i := 207) (by decide +kernel)), rfl⟩
theorem wd_1_239 : Cond.methodLinkNest "HallPhone" 59 ⟨"HallPhone$Reader", "takeText", "(Ljava/lang/String;)V"⟩ "HallPhone" ∈ lw_tbl := hp_m1 (List.mem_of_getElem? (i := 239) (by decide +kernel))
theorem wd_2_3 : hp_ok (Cond.methodLink "HallPhone$Reader" 52 ⟨"java/lang/String", "length", "()I"⟩) := ⟨hp_m2 (List.mem_of_getElem? (i := 3) (by decide +kernel)), rfl⟩
theorem wd_2_12 : hp_ok (Cond.methodLink "HallPhone$Reader" 57 ⟨"java/lang/String", "charAt", "(I)C"⟩) := ⟨hp_m2 (List.mem_of_getElem? (i := 12) (by decide +kernel)), rfl⟩
theorem wd_2_50 : hp_ok (Cond.methodLink "HallPhone$Reader" 48 ⟨"HallPhone$Reader", "begin", "(I)V"⟩) := ⟨hp_m2 (List.mem_of_getElem? (i := 50) (by decide +kernel)), rfl⟩
theorem wd_2_54 : hp_ok (Cond.methodLink "HallPhone$Reader" 61 ⟨"java/lang/Math", "min", "(II)I"⟩) := ⟨hp_m2 (List.mem_of_getElem? (i := 54) (by decide +kernel)), rfl⟩
theorem wd_2_57 : hp_ok (Cond.methodLink "HallPhone" 63 ⟨"HallPhone", "replaceByText", "()I"⟩) := ⟨hp_m2 (List.mem_of_getElem? (i := 57) (by decide +kernel)), rfl⟩
theorem wd_2_61 : Cond.methodLinkNest "HallPhone" 297 ⟨"HallPhone$House", "clear", "()V"⟩ "HallPhone" ∈ lw_tbl := hp_m2 (List.mem_of_getElem? (i := 61) (by decide +kernel))
theorem wd_2_65 : Cond.fieldLinkNest "HallPhone$House" 55 "HallPhone" "FIRST_SETTINGS" "[I" "HallPhone" ∈ lw_tbl := hp_m2 (List.mem_of_getElem? (i := 65) (by decide +kernel))
theorem wd_2_67 : Cond.methodLinkNest "HallPhone$House" 58 ⟨"HallPhone", "copyRow", "([I[I)V"⟩ "HallPhone" ∈ lw_tbl := hp_m2 (List.mem_of_getElem? (i := 67) (by decide +kernel))
theorem wd_2_70 : hp_ok (Cond.methodLink "HallPhone" 336 ⟨"java/lang/Math", "min", "(II)I"⟩) := ⟨hp_m2 (List.mem_of_getElem? (i := 70) (by decide +kernel)), rfl⟩
theorem wd_2_71 : hp_ok (Cond.methodLink "HallPhone" 341 ⟨"java/lang/System", "arraycopy", "(Ljava/lang/Object;ILjava/lang/Object;II)V"⟩) := ⟨hp_m2 (List.mem_of_getElem? (i := 71) (by decide +kernel)), rfl⟩
theorem wd_2_74 : hp_ok (Cond.methodLink "HallPhone$House" 62 ⟨"java/util/Arrays", "fill", "([II)V"⟩) := ⟨hp_m2 (List.mem_of_getElem? (i := 74) (by decide +kernel)), rfl⟩
theorem wd_2_77 : Cond.methodLinkNest "HallPhone$House" 68 ⟨"HallPhone$Phone", "putDown", "()V"⟩ "HallPhone" ∈ lw_tbl := hp_m2 (List.mem_of_getElem? (i := 77) (by decide +kernel))
theorem wd_2_81 : Cond.methodLinkNest "HallPhone" 300 ⟨"HallPhone$Reader", "readFlats", "(LHallPhone$House;)Z"⟩ "HallPhone" ∈ lw_tbl := hp_m2 (List.mem_of_getElem? (i := 81) (by decide +kernel))
theorem wd_2_85 : hp_ok (Cond.methodLink "HallPhone$Reader" 67 ⟨"HallPhone$Reader", "next", "()V"⟩) := ⟨hp_m2 (List.mem_of_getElem? (i := 85) (by decide +kernel)), rfl⟩
theorem wd_2_89 : hp_ok (Cond.methodLink "HallPhone$Reader" 123 ⟨"HallPhone$Reader", "byteAt", "(I)I"⟩) := ⟨hp_m2 (List.mem_of_getElem? (i := 89) (by decide +kernel)), rfl⟩
theorem wd_2_93 : hp_ok (Cond.methodLink "HallPhone$Reader" 127 ⟨"HallPhone$Reader", "isSpace", "(I)Z"⟩) := ⟨hp_m2 (List.mem_of_getElem? (i := 93) (by decide +kernel)), rfl⟩
theorem wd_2_96 : hp_ok (Cond.methodLink "HallPhone$Reader" 130 ⟨"HallPhone$Reader", "isLetter", "(I)Z"⟩) := ⟨hp_m2 (List.mem_of_getElem? (i := 96) (by decide +kernel)), rfl⟩
theorem wd_2_99 : hp_ok (Cond.methodLink "HallPhone$Reader" 133 ⟨"HallPhone$Reader", "isDigit", "(I)Z"⟩) := ⟨hp_m2 (List.mem_of_getElem? (i := 99) (by decide +kernel)), rfl⟩
theorem wd_2_102 : hp_ok (Cond.methodLink "HallPhone$Reader" 136 ⟨"HallPhone$Reader", "nextNumber", "()V"⟩) := ⟨hp_m2 (List.mem_of_getElem? (i := 102) (by decide +kernel)), rfl⟩
theorem wd_2_107 : hp_ok (Cond.methodLink "HallPhone$Reader" 72 ⟨"HallPhone$Reader", "isWord", "(Ljava/lang/String;)Z"⟩) := ⟨hp_m2 (List.mem_of_getElem? (i := 107) (by decide +kernel)), rfl⟩
theorem wd_2_111 : hp_ok (Cond.methodLink "HallPhone$Reader" 76 ⟨"HallPhone$Reader", "fail", "(I)Z"⟩) := ⟨hp_m2 (List.mem_of_getElem? (i := 111) (by decide +kernel)), rfl⟩
theorem wd_2_115 : Cond.methodLinkNest "HallPhone$Reader" 80 ⟨"HallPhone$House", "addFlat", "(I)Z"⟩ "HallPhone" ∈ lw_tbl := hp_m2 (List.mem_of_getElem? (i := 115) (by decide +kernel))
theorem wd_2_119 : hp_ok (Cond.methodLink "HallPhone$House" 89 ⟨"HallPhone$House", "put", "(III)V"⟩) := ⟨hp_m2 (List.mem_of_getElem? (i := 119) (by decide +kernel)), rfl⟩
theorem wd_2_124 : Cond.methodLinkNest "HallPhone$Reader" 87 ⟨"HallPhone$House", "put", "(III)V"⟩ "HallPhone" ∈ lw_tbl := hp_m2 (List.mem_of_getElem? (i := 124) (by decide +kernel))
theorem wd_2_125 : Cond.methodLinkNest "HallPhone" 303 ⟨"HallPhone$Reader", "readStatement", "(I)Z"⟩ "HallPhone" ∈ lw_tbl := hp_m2 (List.mem_of_getElem? (i := 125) (by decide +kernel))
theorem wd_2_129 : hp_ok (Cond.methodLink "HallPhone$Reader" 91 ⟨"HallPhone$Reader", "verbRead", "()LHallPhone$Verb;"⟩) := ⟨hp_m2 (List.mem_of_getElem? (i := 129) (by decide +kernel)), rfl⟩
theorem wd_2_133 : Cond.fieldLinkNest "HallPhone$Reader" 115 "HallPhone$Verb" "ALL" "[LHallPhone$Verb;" "HallPhone" ∈ lw_tbl := hp_m2 (List.mem_of_getElem? (i := 133) (by decide +kernel))
theorem wd_2_135 : hp_ok (Cond.methodLink "HallPhone$Reader" 101 ⟨"HallPhone$Reader", "readNumber", "(II)Z"⟩) := ⟨hp_m2 (List.mem_of_getElem? (i := 135) (by decide +kernel)), rfl⟩
theorem wd_2_139 : Cond.methodLinkNest "HallPhone$Reader" 105 ⟨"HallPhone$Verb", "takesNumber", "()Z"⟩ "HallPhone" ∈ lw_tbl := hp_m2 (List.mem_of_getElem? (i := 139) (by decide +kernel))
theorem wd_2_144 : Cond.methodLinkNest "HallPhone" 181 ⟨"HallPhone$House", "refusal", "(LHallPhone$Verb;II)I"⟩ "HallPhone" ∈ lw_tbl := hp_m2 (List.mem_of_getElem? (i := 144) (by decide +kernel))
theorem wd_2_148 : hp_ok (Cond.methodLink "HallPhone$House" 127 ⟨"HallPhone$House", "get", "(II)I"⟩) := ⟨hp_m2 (List.mem_of_getElem? (i := 148) (by decide +kernel)), rfl⟩
theorem wd_2_152 : hp_ok (Cond.fieldLink "HallPhone$House" 188 "HallPhone$1" "$SwitchMap$HallPhone$Verb" "[I") := ⟨hp_m2 (List.mem_of_getElem? (i := 152) (by decide +kernel)), rfl⟩
theorem wd_2_154 : hp_ok (Cond.methodLink "HallPhone$House" 193 ⟨"HallPhone$Verb", "ordinal", "()I"⟩) := ⟨hp_m2 (List.mem_of_getElem? (i := 154) (by decide +kernel)), rfl⟩
theorem wd_2_160 : hp_ok (Cond.methodLink "HallPhone$House" 172 ⟨"HallPhone$House", "isCalled", "(I)Z"⟩) := ⟨hp_m2 (List.mem_of_getElem? (i := 160) (by decide +kernel)), rfl⟩
theorem wd_2_164 : Cond.methodLinkNest "HallPhone" 185 ⟨"HallPhone$House", "perform", "(LHallPhone$Verb;II)I"⟩ "HallPhone" ∈ lw_tbl := hp_m2 (List.mem_of_getElem? (i := 164) (by decide +kernel))
theorem wd_2_168 : hp_ok (Cond.methodLink "HallPhone$House" 198 ⟨"HallPhone$House", "setOut", "(II)I"⟩) := ⟨hp_m2 (List.mem_of_getElem? (i := 168) (by decide +kernel)), rfl⟩
theorem wd_2_172 : hp_ok (Cond.methodLink "HallPhone$House" 201 ⟨"HallPhone$House", "giveUp", "(I)I"⟩) := ⟨hp_m2 (List.mem_of_getElem? (i := 172) (by decide +kernel)), rfl⟩
theorem wd_2_176 : Cond.methodLinkNest "HallPhone$House" 181 ⟨"HallPhone$Queue", "leave", "(I)V"⟩ "HallPhone" ∈ lw_tbl := hp_m2 (List.mem_of_getElem? (i := 176) (by decide +kernel))
theorem wd_2_180 : hp_ok (Cond.methodLink "HallPhone$House" 152 ⟨"HallPhone$House", "endCall", "()I"⟩) := ⟨hp_m2 (List.mem_of_getElem? (i := 180) (by decide +kernel)), rfl⟩
theorem wd_2_184 : hp_ok (Cond.methodLink "HallPhone$House" 178 ⟨"HallPhone$House", "costOf", "(I)I"⟩) := ⟨hp_m2 (List.mem_of_getElem? (i := 184) (by decide +kernel)), rfl⟩
theorem wd_2_188 : hp_ok (Cond.methodLink "HallPhone$House" 204 ⟨"HallPhone$House", "takeRing", "(II)I"⟩) := ⟨hp_m2 (List.mem_of_getElem? (i := 188) (by decide +kernel)), rfl⟩
theorem wd_2_192 : hp_ok (Cond.methodLink "HallPhone$House" 216 ⟨"HallPhone$House", "outcomeOfRing", "(I)I"⟩) := ⟨hp_m2 (List.mem_of_getElem? (i := 192) (by decide +kernel)), rfl⟩
theorem wd_2_196 : Cond.methodLinkNest "HallPhone$House" 219 ⟨"HallPhone$Phone", "holdFor", "(II)V"⟩ "HallPhone" ∈ lw_tbl := hp_m2 (List.mem_of_getElem? (i := 196) (by decide +kernel))
theorem wd_2_200 : hp_ok (Cond.methodLink "HallPhone$House" 158 ⟨"HallPhone$House", "connect", "(IIZ)V"⟩) := ⟨hp_m2 (List.mem_of_getElem? (i := 200) (by decide +kernel)), rfl⟩
theorem wd_2_204 : Cond.methodLinkNest "HallPhone$House" 184 ⟨"HallPhone$Phone", "connect", "(IIZ)V"⟩ "HallPhone" ∈ lw_tbl := hp_m2 (List.mem_of_getElem? (i := 204) (by decide +kernel))
theorem wd_2_208 : Cond.methodLinkNest "HallPhone$House" 222 ⟨"HallPhone$Slate", "write", "(II)V"⟩ "HallPhone" ∈ lw_tbl := hp_m2 (List.mem_of_getElem? (i := 208) (by decide +kernel))
theorem wd_2_212 : hp_ok (Cond.methodLink "HallPhone$House" 207 ⟨"HallPhone$House", "takeMoney", "(II)I"⟩) := ⟨hp_m2 (List.mem_of_getElem? (i := 212) (by decide +kernel)), rfl⟩
theorem wd_2_216 : hp_ok (Cond.methodLink "HallPhone$House" 185 ⟨"HallPhone$House", "letPass", "(I)I"⟩) := ⟨hp_m2 (List.mem_of_getElem? (i := 216) (by decide +kernel)), rfl⟩
theorem wd_2_220 : hp_ok (Cond.methodLink "HallPhone$House" 138 ⟨"HallPhone$House", "isQuiet", "()Z"⟩) := ⟨hp_m2 (List.mem_of_getElem? (i := 220) (by decide +kernel)), rfl⟩
theorem wd_2_224 : hp_ok (Cond.methodLink "HallPhone$House" 109 ⟨"HallPhone$House", "flatsThatAre", "(I)I"⟩) := ⟨hp_m2 (List.mem_of_getElem? (i := 224) (by decide +kernel)), rfl⟩
theorem wd_2_228 : hp_ok (Cond.methodLink "HallPhone$House" 142 ⟨"HallPhone$House", "speakOneMinute", "()V"⟩) := ⟨hp_m2 (List.mem_of_getElem? (i := 228) (by decide +kernel)), rfl⟩
theorem wd_2_232 : hp_ok (Cond.methodLink "HallPhone$House" 131 ⟨"HallPhone$House", "isListener", "(I)Z"⟩) := ⟨hp_m2 (List.mem_of_getElem? (i := 232) (by decide +kernel)), rfl⟩
theorem wd_2_236 : hp_ok (Cond.methodLink "HallPhone$House" 165 ⟨"HallPhone$House", "hearOneMinute", "(II)V"⟩) := ⟨hp_m2 (List.mem_of_getElem? (i := 236) (by decide +kernel)), rfl⟩
theorem wd_3_0 : hp_ok (Cond.methodLink "HallPhone$House" 145 ⟨"HallPhone$House", "comeDown", "(I)V"⟩) := ⟨hp_m3 (List.mem_of_getElem? (i := 0) (by decide +kernel)), rfl⟩
theorem wd_3_4 : Cond.methodLinkNest "HallPhone$House" 169 ⟨"HallPhone$Slate", "wipeFor", "(I)I"⟩ "HallPhone" ∈ lw_tbl := hp_m3 (List.mem_of_getElem? (i := 4) (by decide +kernel))
theorem wd_3_8 : Cond.methodLinkNest "HallPhone$House" 175 ⟨"HallPhone$Queue", "join", "(I)V"⟩ "HallPhone" ∈ lw_tbl := hp_m3 (List.mem_of_getElem? (i := 8) (by decide +kernel))
theorem wd_3_12 : hp_ok (Cond.methodLink "HallPhone$House" 149 ⟨"HallPhone$House", "isCallOver", "()Z"⟩) := ⟨hp_m3 (List.mem_of_getElem? (i := 12) (by decide +kernel)), rfl⟩
theorem wd_3_16 : Cond.methodLinkNest "HallPhone$House" 155 ⟨"HallPhone$Queue", "at", "(I)I"⟩ "HallPhone" ∈ lw_tbl := hp_m3 (List.mem_of_getElem? (i := 16) (by decide +kernel))
theorem wd_3_20 : hp_ok (Cond.methodLink "HallPhone$House" 162 ⟨"HallPhone$House", "countWaiting", "()V"⟩) := ⟨hp_m3 (List.mem_of_getElem? (i := 20) (by decide +kernel)), rfl⟩
theorem wd_3_24 : hp_ok (Cond.methodLink "HallPhone$House" 213 ⟨"HallPhone$House", "changeSetting", "(II)I"⟩) := ⟨hp_m3 (List.mem_of_getElem? (i := 24) (by decide +kernel)), rfl⟩
theorem wd_3_28 : hp_ok (Cond.methodLink "HallPhone$House" 85 ⟨"HallPhone$House", "settingNumber", "(I)I"⟩) := ⟨hp_m3 (List.mem_of_getElem? (i := 28) (by decide +kernel)), rfl⟩
theorem wd_3_32 : Cond.methodLinkNest "HallPhone" 315 ⟨"HallPhone$Reader", "fail", "(I)Z"⟩ "HallPhone" ∈ lw_tbl := hp_m3 (List.mem_of_getElem? (i := 32) (by decide +kernel))
theorem wd_3_33 : Cond.methodLinkNest "HallPhone" 158 ⟨"HallPhone$House", "copyFrom", "(LHallPhone$House;)V"⟩ "HallPhone" ∈ lw_tbl := hp_m3 (List.mem_of_getElem? (i := 33) (by decide +kernel))
theorem wd_3_37 : Cond.methodLinkNest "HallPhone$House" 75 ⟨"HallPhone$Phone", "copyFrom", "(LHallPhone$Phone;)V"⟩ "HallPhone" ∈ lw_tbl := hp_m3 (List.mem_of_getElem? (i := 37) (by decide +kernel))
theorem wd_3_41 : Cond.methodLinkNest "HallPhone$House" 79 ⟨"HallPhone$Queue", "copyFrom", "(LHallPhone$Queue;)V"⟩ "HallPhone" ∈ lw_tbl := hp_m3 (List.mem_of_getElem? (i := 41) (by decide +kernel))
theorem wd_3_45 : Cond.methodLinkNest "HallPhone$Queue" 19 ⟨"HallPhone", "copyRow", "([I[I)V"⟩ "HallPhone" ∈ lw_tbl := hp_m3 (List.mem_of_getElem? (i := 45) (by decide +kernel))
theorem wd_3_46 : Cond.methodLinkNest "HallPhone$House" 82 ⟨"HallPhone$Slate", "copyFrom", "(LHallPhone$Slate;)V"⟩ "HallPhone" ∈ lw_tbl := hp_m3 (List.mem_of_getElem? (i := 46) (by decide +kernel))
theorem wd_3_50 : Cond.methodLinkNest "HallPhone$Slate" 26 ⟨"HallPhone", "copyRow", "([I[I)V"⟩ "HallPhone" ∈ lw_tbl := hp_m3 (List.mem_of_getElem? (i := 50) (by decide +kernel))
theorem wd_3_51 : Cond.methodLinkNest "HallPhone" 278 ⟨"HallPhone$History", "forget", "()V"⟩ "HallPhone" ∈ lw_tbl := hp_m3 (List.mem_of_getElem? (i := 51) (by decide +kernel))
theorem wd_3_55 : hp_ok (Cond.fieldLink "HallPhone" 10 "HallPhone" "house" "LHallPhone$House;") := ⟨hp_m3 (List.mem_of_getElem? (i := 55) (by decide +kernel)), rfl⟩
theorem wd_3_56 : hp_ok (Cond.fieldLink "HallPhone" 16 "HallPhone" "draft" "LHallPhone$House;") := ⟨hp_m3 (List.mem_of_getElem? (i := 56) (by decide +kernel)), rfl⟩
theorem wd_3_57 : hp_ok (Cond.fieldLink "HallPhone" 22 "HallPhone" "history" "LHallPhone$History;") := ⟨hp_m3 (List.mem_of_getElem? (i := 57) (by decide +kernel)), rfl⟩
theorem wd_3_58 : hp_ok (Cond.fieldLink "HallPhone" 26 "HallPhone" "firstSnapshot" "LHallPhone$House;") := ⟨hp_m3 (List.mem_of_getElem? (i := 58) (by decide +kernel)), rfl⟩
theorem wd_3_59 : hp_ok (Cond.fieldLink "HallPhone" 29 "HallPhone" "secondSnapshot" "LHallPhone$House;") := ⟨hp_m3 (List.mem_of_getElem? (i := 59) (by decide +kernel)), rfl⟩
theorem wd_3_60 : hp_ok (Cond.fieldLink "HallPhone" 32 "HallPhone" "savedSlots" "I") := ⟨hp_m3 (List.mem_of_getElem? (i := 60) (by decide +kernel)), rfl⟩
theorem wd_3_61 : hp_ok (Cond.fieldLink "HallPhone" 39 "HallPhone" "reader" "LHallPhone$Reader;") := ⟨hp_m3 (List.mem_of_getElem? (i := 61) (by decide +kernel)), rfl⟩
theorem wd_3_62 : hp_ok (Cond.fieldLink "HallPhone" 43 "HallPhone" "buffer" "[I") := ⟨hp_m3 (List.mem_of_getElem? (i := 62) (by decide +kernel)), rfl⟩
theorem wd_3_63 : hp_ok (Cond.fieldLink "HallPhone" 47 "HallPhone" "bufferLength" "I") := ⟨hp_m3 (List.mem_of_getElem? (i := 63) (by decide +kernel)), rfl⟩
theorem wd_3_64 : hp_ok (Cond.fieldLink "HallPhone" 53 "HallPhone" "report" "Ljava/lang/StringBuilder;") := ⟨hp_m3 (List.mem_of_getElem? (i := 64) (by decide +kernel)), rfl⟩
theorem wd_3_90 : hp_ok (Cond.methodLink "HallPhone" 67 ⟨"HallPhone", "appendFourBytes", "(I)V"⟩) := ⟨hp_m3 (List.mem_of_getElem? (i := 90) (by decide +kernel)), rfl⟩
theorem wd_3_98 : Cond.methodLinkNest "HallPhone" 107 ⟨"HallPhone$Queue", "at", "(I)I"⟩ "HallPhone" ∈ lw_tbl := hp_m3 (List.mem_of_getElem? (i := 98) (by decide +kernel))
theorem wd_3_103 : Cond.methodLinkNest "HallPhone" 135 ⟨"HallPhone$House", "knowersOf", "(I)I"⟩ "HallPhone" ∈ lw_tbl := hp_m3 (List.mem_of_getElem? (i := 103) (by decide +kernel))
theorem wd_3_107 : hp_ok (Cond.methodLink "HallPhone$House" 135 ⟨"HallPhone$House", "minutesHeard", "(II)I"⟩) := ⟨hp_m3 (List.mem_of_getElem? (i := 107) (by decide +kernel)), rfl⟩
theorem wd_3_111 : hp_ok (Cond.methodLink "HallPhone" 144 ⟨"java/lang/Integer", "bitCount", "(I)I"⟩) := ⟨hp_m3 (List.mem_of_getElem? (i := 111) (by decide +kernel)), rfl⟩
theorem wd_3_121 : Cond.methodLinkNest "HallPhone" 165 ⟨"HallPhone$House", "minutesTillFree", "()I"⟩ "HallPhone" ∈ lw_tbl := hp_m3 (List.mem_of_getElem? (i := 121) (by decide +kernel))
theorem wd_3_129 : Cond.methodLinkNest "HallPhone" 188 ⟨"HallPhone$House", "flatsThatAre", "(I)I"⟩ "HallPhone" ∈ lw_tbl := hp_m3 (List.mem_of_getElem? (i := 129) (by decide +kernel))
theorem wd_3_130 : Cond.methodLinkNest "HallPhone" 191 ⟨"HallPhone$House", "changeSetting", "(II)I"⟩ "HallPhone" ∈ lw_tbl := hp_m3 (List.mem_of_getElem? (i := 130) (by decide +kernel))
theorem wd_3_131 : Cond.methodLinkNest "HallPhone" 194 ⟨"HallPhone$House", "minutesTillAllSpoke", "(II)I"⟩ "HallPhone" ∈ lw_tbl := hp_m3 (List.mem_of_getElem? (i := 131) (by decide +kernel))
theorem wd_3_139 : Cond.methodLinkNest "HallPhone" 206 ⟨"HallPhone$House", "accountNumber", "(I)I"⟩ "HallPhone" ∈ lw_tbl := hp_m3 (List.mem_of_getElem? (i := 139) (by decide +kernel))
theorem wd_3_143 : hp_ok (Cond.methodLink "HallPhone$House" 117 ⟨"HallPhone$House", "debtOfAll", "()I"⟩) := ⟨hp_m3 (List.mem_of_getElem? (i := 143) (by decide +kernel)), rfl⟩
theorem wd_3_155 : hp_ok (Cond.methodLink "HallPhone" 212 ⟨"java/lang/StringBuilder", "setLength", "(I)V"⟩) := ⟨hp_m3 (List.mem_of_getElem? (i := 155) (by decide +kernel)), rfl⟩
theorem wd_4_233 : hp_ok (Cond.methodLink "HallPhone" 215 ⟨"java/lang/StringBuilder", "append", "(C)Ljava/lang/StringBuilder;"⟩) := ⟨hp_m4 (List.mem_of_getElem? (i := 233) (by decide +kernel)), rfl⟩
theorem wd_5_6 : hp_ok (Cond.methodLink "HallPhone" 219 ⟨"java/lang/StringBuilder", "append", "(I)Ljava/lang/StringBuilder;"⟩) := ⟨hp_m5 (List.mem_of_getElem? (i := 6) (by decide +kernel)), rfl⟩
theorem wd_5_7 : hp_ok (Cond.methodLink "HallPhone" 222 ⟨"HallPhone", "writeState", "(I)V"⟩) := ⟨hp_m5 (List.mem_of_getElem? (i := 7) (by decide +kernel)), rfl⟩
theorem wd_5_11 : Cond.methodLinkNest "HallPhone" 172 ⟨"HallPhone$House", "get", "(II)I"⟩ "HallPhone" ∈ lw_tbl := hp_m5 (List.mem_of_getElem? (i := 11) (by decide +kernel))
theorem wd_5_12 : Cond.methodLinkNest "HallPhone" 324 ⟨"HallPhone$Queue", "placeOf", "(I)I"⟩ "HallPhone" ∈ lw_tbl := hp_m5 (List.mem_of_getElem? (i := 12) (by decide +kernel))
theorem wd_5_16 : hp_ok (Cond.methodLink "HallPhone" 86 ⟨"java/lang/StringBuilder", "length", "()I"⟩) := ⟨hp_m5 (List.mem_of_getElem? (i := 16) (by decide +kernel)), rfl⟩
theorem wd_5_21 : Cond.methodLinkNest "HallPhone" 126 ⟨"HallPhone$Slate", "flatAt", "(I)I"⟩ "HallPhone" ∈ lw_tbl := hp_m5 (List.mem_of_getElem? (i := 21) (by decide +kernel))
theorem wd_5_25 : Cond.methodLinkNest "HallPhone" 129 ⟨"HallPhone$Slate", "minuteAt", "(I)I"⟩ "HallPhone" ∈ lw_tbl := hp_m5 (List.mem_of_getElem? (i := 25) (by decide +kernel))
theorem wd_5_33 : hp_ok (Cond.methodLink "HallPhone" 225 ⟨"java/lang/StringBuilder", "charAt", "(I)C"⟩) := ⟨hp_m5 (List.mem_of_getElem? (i := 33) (by decide +kernel)), rfl⟩
theorem wd_5_47 : Cond.methodLinkNest "HallPhone" 265 ⟨"HallPhone$History", "takeBack", "(LHallPhone$House;)Z"⟩ "HallPhone" ∈ lw_tbl := hp_m5 (List.mem_of_getElem? (i := 47) (by decide +kernel))
theorem wd_5_51 : Cond.methodLinkNest "HallPhone$History" 25 ⟨"HallPhone$House", "copyFrom", "(LHallPhone$House;)V"⟩ "HallPhone" ∈ lw_tbl := hp_m5 (List.mem_of_getElem? (i := 51) (by decide +kernel))
theorem wd_5_56 : hp_ok (Cond.constantLong "HallPhone" 284 (31 : Int64)) := ⟨hp_m5 (List.mem_of_getElem? (i := 56) (by decide +kernel)), rfl⟩
theorem wd_5_57 : Cond.methodLinkNest "HallPhone" 89 ⟨"HallPhone$House", "houseNumber", "(I)I"⟩ "HallPhone" ∈ lw_tbl := hp_m5 (List.mem_of_getElem? (i := 57) (by decide +kernel))
theorem wd_5_61 : hp_ok (Cond.methodLink "HallPhone$House" 112 ⟨"java/lang/Integer", "bitCount", "(I)I"⟩) := ⟨hp_m5 (List.mem_of_getElem? (i := 61) (by decide +kernel)), rfl⟩
theorem wd_5_62 : Cond.methodLinkNest "HallPhone" 93 ⟨"HallPhone$House", "settingNumber", "(I)I"⟩ "HallPhone" ∈ lw_tbl := hp_m5 (List.mem_of_getElem? (i := 62) (by decide +kernel))
theorem wd_5_63 : hp_ok (Cond.methodLink "HallPhone" 286 ⟨"HallPhone", "checksumWithFlat", "(JI)J"⟩) := ⟨hp_m5 (List.mem_of_getElem? (i := 63) (by decide +kernel)), rfl⟩
theorem wd_5_67 : Cond.methodLinkNest "HallPhone" 99 ⟨"HallPhone$House", "flatNumber", "(II)I"⟩ "HallPhone" ∈ lw_tbl := hp_m5 (List.mem_of_getElem? (i := 67) (by decide +kernel))
theorem wd_5_71 : Cond.methodLinkNest "HallPhone$House" 121 ⟨"HallPhone$Queue", "placeOf", "(I)I"⟩ "HallPhone" ∈ lw_tbl := hp_m5 (List.mem_of_getElem? (i := 71) (by decide +kernel))
theorem wd_5_72 : Cond.methodLinkNest "HallPhone$House" 124 ⟨"HallPhone$Slate", "countFor", "(I)I"⟩ "HallPhone" ∈ lw_tbl := hp_m5 (List.mem_of_getElem? (i := 72) (by decide +kernel))
theorem wd_5_76 : hp_ok (Cond.methodLink "HallPhone$Slate" 22 ⟨"HallPhone$Slate", "flatAt", "(I)I"⟩) := ⟨hp_m5 (List.mem_of_getElem? (i := 76) (by decide +kernel)), rfl⟩
theorem wd_5_77 : Cond.methodLinkNest "HallPhone" 132 ⟨"HallPhone$House", "minutesHeard", "(II)I"⟩ "HallPhone" ∈ lw_tbl := hp_m5 (List.mem_of_getElem? (i := 77) (by decide +kernel))
theorem wd_5_86 : hp_ok (Cond.methodLink "HallPhone" 71 ⟨"HallPhone", "checkRange", "(III)V"⟩) := ⟨hp_m5 (List.mem_of_getElem? (i := 86) (by decide +kernel)), rfl⟩
theorem wd_5_91 : hp_ok (Cond.methodLink "HallPhone" 255 ⟨"java/lang/IllegalArgumentException", "<init>", "(Ljava/lang/String;)V"⟩) := ⟨hp_m5 (List.mem_of_getElem? (i := 91) (by decide +kernel)), rfl⟩
theorem wd_5_92 : Cond.methodLinkNest "HallPhone" 75 ⟨"HallPhone$Reader", "takeBytes", "([II)V"⟩ "HallPhone" ∈ lw_tbl := hp_m5 (List.mem_of_getElem? (i := 92) (by decide +kernel))
theorem wd_5_96 : Cond.methodLinkNest "HallPhone$Reader" 44 ⟨"HallPhone", "copyRow", "([I[I)V"⟩ "HallPhone" ∈ lw_tbl := hp_m5 (List.mem_of_getElem? (i := 96) (by decide +kernel))
theorem wd_5_128 : hp_ok (Cond.methodLink "HallPhone" 96 ⟨"HallPhone", "checkFlat", "(I)V"⟩) := ⟨hp_m5 (List.mem_of_getElem? (i := 128) (by decide +kernel)), rfl⟩
theorem wd_5_142 : hp_ok (Cond.methodLink "HallPhone" 294 ⟨"java/lang/IndexOutOfBoundsException", "<init>", "(Ljava/lang/String;)V"⟩) := ⟨hp_m5 (List.mem_of_getElem? (i := 142) (by decide +kernel)), rfl⟩
theorem wd_5_163 : hp_ok (Cond.methodLink "HallPhone" 124 ⟨"java/util/NoSuchElementException", "<init>", "(Ljava/lang/String;)V"⟩) := ⟨hp_m5 (List.mem_of_getElem? (i := 163) (by decide +kernel)), rfl⟩
theorem wd_5_190 : Cond.methodLinkNest "HallPhone" 138 ⟨"HallPhone$House", "listenersOf", "(I)I"⟩ "HallPhone" ∈ lw_tbl := hp_m5 (List.mem_of_getElem? (i := 190) (by decide +kernel))
theorem wd_5_201 : Cond.methodLinkNest "HallPhone" 149 ⟨"HallPhone$House", "costOf", "(I)I"⟩ "HallPhone" ∈ lw_tbl := hp_m5 (List.mem_of_getElem? (i := 201) (by decide +kernel))
theorem wd_5_209 : Cond.methodLinkNest "HallPhone" 152 ⟨"HallPhone$House", "reasonOf", "(I)I"⟩ "HallPhone" ∈ lw_tbl := hp_m5 (List.mem_of_getElem? (i := 209) (by decide +kernel))
theorem wd_5_213 : Cond.methodLinkNest "HallPhone" 155 ⟨"HallPhone$House", "causeOf", "(II)I"⟩ "HallPhone" ∈ lw_tbl := hp_m5 (List.mem_of_getElem? (i := 213) (by decide +kernel))
theorem wd_5_224 : Cond.methodLinkNest "HallPhone" 162 ⟨"HallPhone$House", "minutesTillSpeaking", "(I)I"⟩ "HallPhone" ∈ lw_tbl := hp_m5 (List.mem_of_getElem? (i := 224) (by decide +kernel))
theorem wd_5_235 : hp_ok (Cond.methodLink "HallPhone" 168 ⟨"HallPhone", "later", "(I)LHallPhone$House;"⟩) := ⟨hp_m5 (List.mem_of_getElem? (i := 235) (by decide +kernel)), rfl⟩
theorem wd_5_239 : Cond.methodLinkNest "HallPhone" 321 ⟨"HallPhone$House", "letPass", "(I)I"⟩ "HallPhone" ∈ lw_tbl := hp_m5 (List.mem_of_getElem? (i := 239) (by decide +kernel))
theorem wd_6_14 : hp_ok (Cond.fieldLink "HallPhone" 175 "HallPhone$Verb" "WANT" "LHallPhone$Verb;") := ⟨hp_m6 (List.mem_of_getElem? (i := 14) (by decide +kernel)), rfl⟩
theorem wd_6_23 : Cond.methodLinkNest "HallPhone" 197 ⟨"HallPhone$House", "knownTo", "(I)I"⟩ "HallPhone" ∈ lw_tbl := hp_m6 (List.mem_of_getElem? (i := 23) (by decide +kernel))
theorem wd_6_34 : hp_ok (Cond.fieldLink "HallPhone" 200 "HallPhone$Verb" "RING" "LHallPhone$Verb;") := ⟨hp_m6 (List.mem_of_getElem? (i := 34) (by decide +kernel)), rfl⟩
theorem wd_6_36 : Cond.methodLinkNest "HallPhone" 203 ⟨"HallPhone$House", "outcomeOfRing", "(I)I"⟩ "HallPhone" ∈ lw_tbl := hp_m6 (List.mem_of_getElem? (i := 36) (by decide +kernel))
theorem wd_6_51 : hp_ok (Cond.methodLink "HallPhone" 229 ⟨"HallPhone", "changeOfFlat", "(LHallPhone$Verb;II)I"⟩) := ⟨hp_m6 (List.mem_of_getElem? (i := 51) (by decide +kernel)), rfl⟩
theorem wd_6_55 : Cond.methodLinkNest "HallPhone" 241 ⟨"HallPhone$History", "keep", "(LHallPhone$House;)V"⟩ "HallPhone" ∈ lw_tbl := hp_m6 (List.mem_of_getElem? (i := 55) (by decide +kernel))
theorem wd_6_59 : hp_ok (Cond.methodLink "HallPhone$History" 29 ⟨"java/lang/Math", "min", "(II)I"⟩) := ⟨hp_m6 (List.mem_of_getElem? (i := 59) (by decide +kernel)), rfl⟩
theorem wd_6_67 : hp_ok (Cond.fieldLink "HallPhone" 232 "HallPhone$Verb" "DROP" "LHallPhone$Verb;") := ⟨hp_m6 (List.mem_of_getElem? (i := 67) (by decide +kernel)), rfl⟩
theorem wd_6_76 : hp_ok (Cond.fieldLink "HallPhone" 235 "HallPhone$Verb" "HANG" "LHallPhone$Verb;") := ⟨hp_m6 (List.mem_of_getElem? (i := 76) (by decide +kernel)), rfl⟩
theorem wd_6_92 : hp_ok (Cond.fieldLink "HallPhone" 238 "HallPhone$Verb" "PAY" "LHallPhone$Verb;") := ⟨hp_m6 (List.mem_of_getElem? (i := 92) (by decide +kernel)), rfl⟩
theorem wd_6_101 : Cond.methodLinkNest "HallPhone" 244 ⟨"HallPhone$House", "put", "(III)V"⟩ "HallPhone" ∈ lw_tbl := hp_m6 (List.mem_of_getElem? (i := 101) (by decide +kernel))
theorem wd_6_109 : Cond.methodLinkNest "HallPhone" 247 ⟨"HallPhone$Verb", "ofSetting", "(I)LHallPhone$Verb;"⟩ "HallPhone" ∈ lw_tbl := hp_m6 (List.mem_of_getElem? (i := 109) (by decide +kernel))
theorem wd_6_112 : hp_ok (Cond.fieldLink "HallPhone$Verb" 79 "HallPhone$Verb" "ALL" "[LHallPhone$Verb;") := ⟨hp_m6 (List.mem_of_getElem? (i := 112) (by decide +kernel)), rfl⟩
theorem wd_6_121 : hp_ok (Cond.fieldLink "HallPhone" 262 "HallPhone$Verb" "PASS" "LHallPhone$Verb;") := ⟨hp_m6 (List.mem_of_getElem? (i := 121) (by decide +kernel)), rfl⟩
theorem wd_6_130 : hp_ok (Cond.methodLink "HallPhone" 269 ⟨"HallPhone", "isSaved", "(I)Z"⟩) := ⟨hp_m6 (List.mem_of_getElem? (i := 130) (by decide +kernel)), rfl⟩
theorem wd_6_134 : hp_ok (Cond.methodLink "HallPhone" 273 ⟨"HallPhone", "snapshotIn", "(I)LHallPhone$House;"⟩) := ⟨hp_m6 (List.mem_of_getElem? (i := 134) (by decide +kernel)), rfl⟩
theorem wd_6_151 : hp_ok (Cond.methodLink "HallPhoneModel" 1 ⟨"java/lang/Object", "<init>", "()V"⟩) := ⟨hp_m6 (List.mem_of_getElem? (i := 151) (by decide +kernel)), rfl⟩
theorem wd_6_152 : hp_ok (Cond.methodLink "HallPhoneModel" 38 ⟨"HallPhoneModel", "lay", "(I)V"⟩) := ⟨hp_m6 (List.mem_of_getElem? (i := 152) (by decide +kernel)), rfl⟩
theorem wd_6_157 : hp_ok (Cond.methodLink "HallPhoneModel" 123 ⟨"HallPhoneModel", "tell", "(Ljava/lang/String;)V"⟩) := ⟨hp_m6 (List.mem_of_getElem? (i := 157) (by decide +kernel)), rfl⟩
theorem wd_6_161 : hp_ok (Cond.methodLink "HallPhoneModel" 108 ⟨"java/lang/String", "length", "()I"⟩) := ⟨hp_m6 (List.mem_of_getElem? (i := 161) (by decide +kernel)), rfl⟩
theorem wd_6_162 : hp_ok (Cond.methodLink "HallPhoneModel" 117 ⟨"java/lang/String", "charAt", "(I)C"⟩) := ⟨hp_m6 (List.mem_of_getElem? (i := 162) (by decide +kernel)), rfl⟩
theorem wd_6_166 : hp_ok (Cond.methodLink "HallPhoneModel" 133 ⟨"HallPhoneModel", "parseAll", "()Z"⟩) := ⟨hp_m6 (List.mem_of_getElem? (i := 166) (by decide +kernel)), rfl⟩
theorem wd_6_170 : hp_ok (Cond.methodLink "HallPhoneModel" 164 ⟨"HallPhoneModel", "next", "()V"⟩) := ⟨hp_m6 (List.mem_of_getElem? (i := 170) (by decide +kernel)), rfl⟩
theorem wd_6_174 : hp_ok (Cond.methodLink "HallPhoneModel" 146 ⟨"HallPhoneModel", "sortOf", "(I)I"⟩) := ⟨hp_m6 (List.mem_of_getElem? (i := 174) (by decide +kernel)), rfl⟩
theorem wd_6_177 : hp_ok (Cond.methodLink "HallPhoneModel" 247 ⟨"HallPhoneModel", "readsAll", "()Z"⟩) := ⟨hp_m6 (List.mem_of_getElem? (i := 177) (by decide +kernel)), rfl⟩
theorem wd_6_181 : hp_ok (Cond.methodLink "HallPhoneModel" 241 ⟨"HallPhoneModel", "readsHouse", "()Z"⟩) := ⟨hp_m6 (List.mem_of_getElem? (i := 181) (by decide +kernel)), rfl⟩
theorem wd_6_186 : hp_ok (Cond.methodLink "HallPhoneModel" 172 ⟨"HallPhoneModel", "says", "(Ljava/lang/String;)Z"⟩) := ⟨hp_m6 (List.mem_of_getElem? (i := 186) (by decide +kernel)), rfl⟩
theorem wd_6_190 : hp_ok (Cond.methodLink "HallPhoneModel" 155 ⟨"HallPhoneModel", "fail", "(I)Z"⟩) := ⟨hp_m6 (List.mem_of_getElem? (i := 190) (by decide +kernel)), rfl⟩
theorem wd_6_194 : hp_ok (Cond.methodLink "HallPhoneModel" 161 ⟨"HallPhoneModel", "isNumber", "(II)Z"⟩) := ⟨hp_m6 (List.mem_of_getElem? (i := 194) (by decide +kernel)), rfl⟩
theorem wd_6_198 : hp_ok (Cond.methodLink "HallPhoneModel" 46 ⟨"HallPhoneModel", "in", "(III)Z"⟩) := ⟨hp_m6 (List.mem_of_getElem? (i := 198) (by decide +kernel)), rfl⟩
theorem wd_6_201 : hp_ok (Cond.methodLink "HallPhoneModel" 62 ⟨"HallPhoneModel", "to", "(III)V"⟩) := ⟨hp_m6 (List.mem_of_getElem? (i := 201) (by decide +kernel)), rfl⟩
theorem wd_6_206 : hp_ok (Cond.methodLink "HallPhoneModel" 244 ⟨"HallPhoneModel", "readsStatement", "()Z"⟩) := ⟨hp_m6 (List.mem_of_getElem? (i := 206) (by decide +kernel)), rfl⟩
theorem wd_6_210 : hp_ok (Cond.methodLink "HallPhoneModel" 196 ⟨"HallPhoneModel", "settingAhead", "()I"⟩) := ⟨hp_m6 (List.mem_of_getElem? (i := 210) (by decide +kernel)), rfl⟩
theorem wd_6_220 : hp_ok (Cond.methodLink "HallPhoneModel" 199 ⟨"HallPhoneModel", "readsSetting", "(I)Z"⟩) := ⟨hp_m6 (List.mem_of_getElem? (i := 220) (by decide +kernel)), rfl⟩
theorem wd_6_224 : hp_ok (Cond.methodLink "HallPhoneModel" 190 ⟨"HallPhoneModel", "leastOf", "(I)I"⟩) := ⟨hp_m6 (List.mem_of_getElem? (i := 224) (by decide +kernel)), rfl⟩
theorem wd_6_227 : hp_ok (Cond.methodLink "HallPhoneModel" 193 ⟨"HallPhoneModel", "mostOf", "(I)I"⟩) := ⟨hp_m6 (List.mem_of_getElem? (i := 227) (by decide +kernel)), rfl⟩
theorem wd_6_230 : hp_ok (Cond.methodLink "HallPhoneModel" 167 ⟨"HallPhoneModel", "number", "(III)Z"⟩) := ⟨hp_m6 (List.mem_of_getElem? (i := 230) (by decide +kernel)), rfl⟩
theorem wd_6_235 : hp_ok (Cond.methodLink "HallPhoneModel" 204 ⟨"HallPhoneModel", "flatAt", "()Z"⟩) := ⟨hp_m6 (List.mem_of_getElem? (i := 235) (by decide +kernel)), rfl⟩
theorem wd_6_239 : hp_ok (Cond.methodLink "HallPhoneModel" 207 ⟨"HallPhoneModel", "isSemicolon", "()Z"⟩) := ⟨hp_m6 (List.mem_of_getElem? (i := 239) (by decide +kernel)), rfl⟩
theorem wd_7_3 : hp_ok (Cond.methodLink "HallPhoneModel" 210 ⟨"HallPhoneModel", "wants", "(II)I"⟩) := ⟨hp_m7 (List.mem_of_getElem? (i := 3) (by decide +kernel)), rfl⟩
theorem wd_7_7 : hp_ok (Cond.methodLink "HallPhoneModel" 50 ⟨"HallPhoneModel", "of", "(II)I"⟩) := ⟨hp_m7 (List.mem_of_getElem? (i := 7) (by decide +kernel)), rfl⟩
theorem wd_7_11 : hp_ok (Cond.methodLink "HallPhoneModel" 213 ⟨"HallPhoneModel", "isDone", "(I)Z"⟩) := ⟨hp_m7 (List.mem_of_getElem? (i := 11) (by decide +kernel)), rfl⟩
theorem wd_7_16 : hp_ok (Cond.methodLink "HallPhoneModel" 218 ⟨"HallPhoneModel", "gives", "(I)I"⟩) := ⟨hp_m7 (List.mem_of_getElem? (i := 16) (by decide +kernel)), rfl⟩
theorem wd_7_20 : hp_ok (Cond.methodLink "HallPhoneModel" 82 ⟨"HallPhoneModel", "isCalled", "(I)Z"⟩) := ⟨hp_m7 (List.mem_of_getElem? (i := 20) (by decide +kernel)), rfl⟩
theorem wd_7_24 : hp_ok (Cond.methodLink "HallPhoneModel" 99 ⟨"HallPhoneModel", "leavesQueue", "(I)V"⟩) := ⟨hp_m7 (List.mem_of_getElem? (i := 24) (by decide +kernel)), rfl⟩
theorem wd_7_28 : hp_ok (Cond.methodLink "HallPhoneModel" 54 ⟨"HallPhoneModel", "placeOf", "(I)I"⟩) := ⟨hp_m7 (List.mem_of_getElem? (i := 28) (by decide +kernel)), rfl⟩
theorem wd_7_33 : hp_ok (Cond.methodLink "HallPhoneModel" 223 ⟨"HallPhoneModel", "hangs", "(I)I"⟩) := ⟨hp_m7 (List.mem_of_getElem? (i := 33) (by decide +kernel)), rfl⟩
theorem wd_7_37 : hp_ok (Cond.methodLink "HallPhoneModel" 96 ⟨"HallPhoneModel", "ends", "()V"⟩) := ⟨hp_m7 (List.mem_of_getElem? (i := 37) (by decide +kernel)), rfl⟩
theorem wd_7_41 : hp_ok (Cond.methodLink "HallPhoneModel" 66 ⟨"HallPhoneModel", "costOf", "(I)I"⟩) := ⟨hp_m7 (List.mem_of_getElem? (i := 41) (by decide +kernel)), rfl⟩
theorem wd_7_45 : hp_ok (Cond.methodLink "HallPhoneModel" 69 ⟨"HallPhoneModel", "adds", "(III)V"⟩) := ⟨hp_m7 (List.mem_of_getElem? (i := 45) (by decide +kernel)), rfl⟩
theorem wd_7_49 : hp_ok (Cond.methodLink "HallPhoneModel" 58 ⟨"HallPhoneModel", "counts", "(II)V"⟩) := ⟨hp_m7 (List.mem_of_getElem? (i := 49) (by decide +kernel)), rfl⟩
theorem wd_7_53 : hp_ok (Cond.methodLink "HallPhoneModel" 72 ⟨"HallPhoneModel", "lies", "()V"⟩) := ⟨hp_m7 (List.mem_of_getElem? (i := 53) (by decide +kernel)), rfl⟩
theorem wd_7_58 : hp_ok (Cond.methodLink "HallPhoneModel" 228 ⟨"HallPhoneModel", "rings", "(II)I"⟩) := ⟨hp_m7 (List.mem_of_getElem? (i := 58) (by decide +kernel)), rfl⟩
theorem wd_7_62 : hp_ok (Cond.methodLink "HallPhoneModel" 105 ⟨"HallPhoneModel", "outcome", "(I)I"⟩) := ⟨hp_m7 (List.mem_of_getElem? (i := 62) (by decide +kernel)), rfl⟩
theorem wd_7_66 : hp_ok (Cond.methodLink "HallPhoneModel" 86 ⟨"HallPhoneModel", "speaks", "(IIZ)V"⟩) := ⟨hp_m7 (List.mem_of_getElem? (i := 66) (by decide +kernel)), rfl⟩
theorem wd_7_71 : hp_ok (Cond.methodLink "HallPhoneModel" 233 ⟨"HallPhoneModel", "pays", "(II)I"⟩) := ⟨hp_m7 (List.mem_of_getElem? (i := 71) (by decide +kernel)), rfl⟩
theorem wd_7_76 : hp_ok (Cond.methodLink "HallPhoneModel" 238 ⟨"HallPhoneModel", "minutes", "(I)I"⟩) := ⟨hp_m7 (List.mem_of_getElem? (i := 76) (by decide +kernel)), rfl⟩
theorem wd_7_80 : hp_ok (Cond.methodLink "HallPhoneModel" 102 ⟨"HallPhoneModel", "minute", "()V"⟩) := ⟨hp_m7 (List.mem_of_getElem? (i := 80) (by decide +kernel)), rfl⟩
theorem wd_7_84 : hp_ok (Cond.methodLink "HallPhoneModel" 90 ⟨"HallPhoneModel", "talks", "()V"⟩) := ⟨hp_m7 (List.mem_of_getElem? (i := 84) (by decide +kernel)), rfl⟩
theorem wd_7_88 : hp_ok (Cond.methodLink "HallPhoneModel" 75 ⟨"HallPhoneModel", "hears", "(II)Z"⟩) := ⟨hp_m7 (List.mem_of_getElem? (i := 88) (by decide +kernel)), rfl⟩
theorem wd_7_92 : hp_ok (Cond.methodLink "HallPhoneModel" 93 ⟨"HallPhoneModel", "arrives", "(I)V"⟩) := ⟨hp_m7 (List.mem_of_getElem? (i := 92) (by decide +kernel)), rfl⟩
theorem wd_7_96 : hp_ok (Cond.methodLink "HallPhoneModel" 79 ⟨"HallPhoneModel", "reads", "(I)V"⟩) := ⟨hp_m7 (List.mem_of_getElem? (i := 96) (by decide +kernel)), rfl⟩
theorem wd_7_100 : hp_ok (Cond.fieldLink "HallPhoneModel" 7 "HallPhoneModel" "w" "[I") := ⟨hp_m7 (List.mem_of_getElem? (i := 100) (by decide +kernel)), rfl⟩
theorem wd_7_101 : hp_ok (Cond.fieldLink "HallPhoneModel" 13 "HallPhoneModel" "before" "[I") := ⟨hp_m7 (List.mem_of_getElem? (i := 101) (by decide +kernel)), rfl⟩
theorem wd_7_102 : hp_ok (Cond.fieldLink "HallPhoneModel" 16 "HallPhoneModel" "aside" "[I") := ⟨hp_m7 (List.mem_of_getElem? (i := 102) (by decide +kernel)), rfl⟩
theorem wd_7_103 : hp_ok (Cond.fieldLink "HallPhoneModel" 19 "HallPhoneModel" "past" "[I") := ⟨hp_m7 (List.mem_of_getElem? (i := 103) (by decide +kernel)), rfl⟩
theorem wd_7_104 : hp_ok (Cond.fieldLink "HallPhoneModel" 22 "HallPhoneModel" "kept" "[I") := ⟨hp_m7 (List.mem_of_getElem? (i := 104) (by decide +kernel)), rfl⟩
theorem wd_7_105 : hp_ok (Cond.fieldLink "HallPhoneModel" 250 "HallPhoneModel" "pastMany" "I") := ⟨hp_m7 (List.mem_of_getElem? (i := 105) (by decide +kernel)), rfl⟩
theorem wd_7_106 : hp_ok (Cond.fieldLink "HallPhoneModel" 253 "HallPhoneModel" "keptBits" "I") := ⟨hp_m7 (List.mem_of_getElem? (i := 106) (by decide +kernel)), rfl⟩
theorem wd_7_107 : hp_ok (Cond.fieldLink "HallPhoneModel" 25 "HallPhoneModel" "buffer" "[I") := ⟨hp_m7 (List.mem_of_getElem? (i := 107) (by decide +kernel)), rfl⟩
theorem wd_7_108 : hp_ok (Cond.fieldLink "HallPhoneModel" 28 "HallPhoneModel" "text" "[I") := ⟨hp_m7 (List.mem_of_getElem? (i := 108) (by decide +kernel)), rfl⟩
theorem wd_7_109 : hp_ok (Cond.fieldLink "HallPhoneModel" 256 "HallPhoneModel" "typed" "I") := ⟨hp_m7 (List.mem_of_getElem? (i := 109) (by decide +kernel)), rfl⟩
theorem wd_7_110 : hp_ok (Cond.fieldLink "HallPhoneModel" 114 "HallPhoneModel" "textLength" "I") := ⟨hp_m7 (List.mem_of_getElem? (i := 110) (by decide +kernel)), rfl⟩
theorem wd_7_111 : hp_ok (Cond.fieldLink "HallPhoneModel" 31 "HallPhoneModel" "report" "[C") := ⟨hp_m7 (List.mem_of_getElem? (i := 111) (by decide +kernel)), rfl⟩
theorem wd_7_112 : hp_ok (Cond.fieldLink "HallPhoneModel" 272 "HallPhoneModel" "reportLength" "I") := ⟨hp_m7 (List.mem_of_getElem? (i := 112) (by decide +kernel)), rfl⟩
theorem wd_7_113 : hp_ok (Cond.fieldLink "HallPhoneModel" 42 "HallPhoneModel" "thrown" "I") := ⟨hp_m7 (List.mem_of_getElem? (i := 113) (by decide +kernel)), rfl⟩
theorem wd_7_114 : hp_ok (Cond.fieldLink "HallPhoneModel" 143 "HallPhoneModel" "kind" "I") := ⟨hp_m7 (List.mem_of_getElem? (i := 114) (by decide +kernel)), rfl⟩
theorem wd_7_115 : hp_ok (Cond.fieldLink "HallPhoneModel" 140 "HallPhoneModel" "offset" "I") := ⟨hp_m7 (List.mem_of_getElem? (i := 115) (by decide +kernel)), rfl⟩
theorem wd_7_116 : hp_ok (Cond.fieldLink "HallPhoneModel" 137 "HallPhoneModel" "tokenEnd" "I") := ⟨hp_m7 (List.mem_of_getElem? (i := 116) (by decide +kernel)), rfl⟩
theorem wd_7_117 : hp_ok (Cond.fieldLink "HallPhoneModel" 149 "HallPhoneModel" "value" "I") := ⟨hp_m7 (List.mem_of_getElem? (i := 117) (by decide +kernel)), rfl⟩
theorem wd_7_118 : hp_ok (Cond.fieldLink "HallPhoneModel" 152 "HallPhoneModel" "fault" "I") := ⟨hp_m7 (List.mem_of_getElem? (i := 118) (by decide +kernel)), rfl⟩
theorem wd_7_119 : hp_ok (Cond.fieldLink "HallPhoneModel" 158 "HallPhoneModel" "read" "I") := ⟨hp_m7 (List.mem_of_getElem? (i := 119) (by decide +kernel)), rfl⟩
theorem wd_7_120 : hp_ok (Cond.fieldLink "HallPhoneModel" 35 "HallPhoneModel" "numbers" "[I") := ⟨hp_m7 (List.mem_of_getElem? (i := 120) (by decide +kernel)), rfl⟩
theorem wd_7_173 : hp_ok (Cond.methodLink "HallPhoneModel" 259 ⟨"HallPhoneModel", "type", "(I)V"⟩) := ⟨hp_m7 (List.mem_of_getElem? (i := 173) (by decide +kernel)), rfl⟩
theorem wd_7_181 : hp_ok (Cond.methodLink "HallPhoneModel" 262 ⟨"HallPhoneModel", "throwsOne", "(Z)Z"⟩) := ⟨hp_m7 (List.mem_of_getElem? (i := 181) (by decide +kernel)), rfl⟩
theorem wd_7_193 : hp_ok (Cond.methodLink "HallPhoneModel" 275 ⟨"HallPhoneModel", "sizeOf", "(I)I"⟩) := ⟨hp_m7 (List.mem_of_getElem? (i := 193) (by decide +kernel)), rfl⟩
theorem wd_7_197 : hp_ok (Cond.methodLink "HallPhoneModel" 266 ⟨"HallPhoneModel", "manyWho", "(I)I"⟩) := ⟨hp_m7 (List.mem_of_getElem? (i := 197) (by decide +kernel)), rfl⟩
theorem wd_7_201 : hp_ok (Cond.methodLink "HallPhoneModel" 269 ⟨"HallPhoneModel", "debts", "()I"⟩) := ⟨hp_m7 (List.mem_of_getElem? (i := 201) (by decide +kernel)), rfl⟩
theorem wd_7_213 : hp_ok (Cond.methodLink "HallPhoneModel" 281 ⟨"HallPhoneModel", "isFlat", "(I)Z"⟩) := ⟨hp_m7 (List.mem_of_getElem? (i := 213) (by decide +kernel)), rfl⟩
theorem wd_7_217 : hp_ok (Cond.methodLink "HallPhoneModel" 284 ⟨"HallPhoneModel", "throwsOne", "(ZZ)Z"⟩) := ⟨hp_m7 (List.mem_of_getElem? (i := 217) (by decide +kernel)), rfl⟩
theorem wd_7_221 : hp_ok (Cond.methodLink "HallPhoneModel" 287 ⟨"HallPhoneModel", "flatTold", "(II)I"⟩) := ⟨hp_m7 (List.mem_of_getElem? (i := 221) (by decide +kernel)), rfl⟩
theorem wd_7_225 : hp_ok (Cond.methodLink "HallPhoneModel" 278 ⟨"HallPhoneModel", "messagesFor", "(I)I"⟩) := ⟨hp_m7 (List.mem_of_getElem? (i := 225) (by decide +kernel)), rfl⟩
theorem wd_8_1 : hp_ok (Cond.methodLink "HallPhoneModel" 290 ⟨"HallPhoneModel", "heardOf", "(II)I"⟩) := ⟨hp_m8 (List.mem_of_getElem? (i := 1) (by decide +kernel)), rfl⟩
theorem wd_8_9 : hp_ok (Cond.methodLink "HallPhoneModel" 293 ⟨"HallPhoneModel", "knowers", "(I)I"⟩) := ⟨hp_m8 (List.mem_of_getElem? (i := 9) (by decide +kernel)), rfl⟩
theorem wd_8_21 : hp_ok (Cond.methodLink "HallPhoneModel" 296 ⟨"HallPhoneModel", "bits", "(I)I"⟩) := ⟨hp_m8 (List.mem_of_getElem? (i := 21) (by decide +kernel)), rfl⟩
theorem wd_8_32 : hp_ok (Cond.methodLink "HallPhoneModel" 299 ⟨"HallPhoneModel", "reason", "(I)I"⟩) := ⟨hp_m8 (List.mem_of_getElem? (i := 32) (by decide +kernel)), rfl⟩
theorem wd_8_40 : hp_ok (Cond.methodLink "HallPhoneModel" 302 ⟨"HallPhoneModel", "setAside", "()V"⟩) := ⟨hp_m8 (List.mem_of_getElem? (i := 40) (by decide +kernel)), rfl⟩
theorem wd_8_44 : hp_ok (Cond.methodLink "HallPhoneModel" 305 ⟨"HallPhoneModel", "tillSpeaks", "(I)I"⟩) := ⟨hp_m8 (List.mem_of_getElem? (i := 44) (by decide +kernel)), rfl⟩
theorem wd_8_48 : hp_ok (Cond.methodLink "HallPhoneModel" 308 ⟨"HallPhoneModel", "bringBack", "()V"⟩) := ⟨hp_m8 (List.mem_of_getElem? (i := 48) (by decide +kernel)), rfl⟩
theorem wd_8_72 : hp_ok (Cond.methodLink "HallPhoneModel" 311 ⟨"HallPhoneModel", "waiting", "()I"⟩) := ⟨hp_m8 (List.mem_of_getElem? (i := 72) (by decide +kernel)), rfl⟩
theorem wd_8_76 : hp_ok (Cond.methodLink "HallPhoneModel" 314 ⟨"HallPhoneModel", "tillAll", "(I)I"⟩) := ⟨hp_m8 (List.mem_of_getElem? (i := 76) (by decide +kernel)), rfl⟩
theorem wd_8_84 : hp_ok (Cond.methodLink "HallPhoneModel" 317 ⟨"HallPhoneModel", "known", "(I)I"⟩) := ⟨hp_m8 (List.mem_of_getElem? (i := 84) (by decide +kernel)), rfl⟩
theorem wd_8_96 : hp_ok (Cond.methodLink "HallPhoneModel" 320 ⟨"HallPhoneModel", "balance", "()I"⟩) := ⟨hp_m8 (List.mem_of_getElem? (i := 96) (by decide +kernel)), rfl⟩
theorem wd_8_112 : hp_ok (Cond.methodLink "HallPhoneModel" 326 ⟨"HallPhoneModel", "write", "(I)V"⟩) := ⟨hp_m8 (List.mem_of_getElem? (i := 112) (by decide +kernel)), rfl⟩
theorem wd_8_116 : hp_ok (Cond.methodLink "HallPhoneModel" 329 ⟨"HallPhoneModel", "writeFlat", "(I)V"⟩) := ⟨hp_m8 (List.mem_of_getElem? (i := 116) (by decide +kernel)), rfl⟩
theorem wd_8_120 : hp_ok (Cond.methodLink "HallPhoneModel" 323 ⟨"HallPhoneModel", "writeNumber", "(I)V"⟩) := ⟨hp_m8 (List.mem_of_getElem? (i := 120) (by decide +kernel)), rfl⟩
theorem wd_8_136 : hp_ok (Cond.methodLink "HallPhoneModel" 332 ⟨"HallPhoneModel", "begins", "()V"⟩) := ⟨hp_m8 (List.mem_of_getElem? (i := 136) (by decide +kernel)), rfl⟩
theorem wd_8_140 : hp_ok (Cond.methodLink "HallPhoneModel" 335 ⟨"HallPhoneModel", "remember", "(I)I"⟩) := ⟨hp_m8 (List.mem_of_getElem? (i := 140) (by decide +kernel)), rfl⟩
theorem wd_8_188 : hp_ok (Cond.constantLong "HallPhoneModel" 338 (31 : Int64)) := ⟨hp_m8 (List.mem_of_getElem? (i := 188) (by decide +kernel)), rfl⟩
theorem wd_8_189 : hp_ok (Cond.methodLink "HallPhoneModel" 340 ⟨"HallPhoneModel", "heardSum", "(JI)J"⟩) := ⟨hp_m8 (List.mem_of_getElem? (i := 189) (by decide +kernel)), rfl⟩
theorem wd_8_226 : Cond.fieldLinkNest "HallPhone$Reader" 119 "HallPhone$Verb" "word" "Ljava/lang/String;" "HallPhone" ∈ lw_tbl := hp_m8 (List.mem_of_getElem? (i := 226) (by decide +kernel))
theorem wd_8_227 : Cond.fieldLinkNest "HallPhone$Reader" 95 "HallPhone$Verb" "namesFlat" "Z" "HallPhone" ∈ lw_tbl := hp_m8 (List.mem_of_getElem? (i := 227) (by decide +kernel))
theorem wd_8_228 : hp_ok (Cond.fieldLink "HallPhone$Verb" 76 "HallPhone$Verb" "greatest" "I") := ⟨hp_m8 (List.mem_of_getElem? (i := 228) (by decide +kernel)), rfl⟩
theorem wd_8_229 : Cond.fieldLinkNest "HallPhone$Reader" 109 "HallPhone$Verb" "least" "I" "HallPhone" ∈ lw_tbl := hp_m8 (List.mem_of_getElem? (i := 229) (by decide +kernel))
theorem wd_8_230 : Cond.fieldLinkNest "HallPhone$Reader" 112 "HallPhone$Verb" "greatest" "I" "HallPhone" ∈ lw_tbl := hp_m8 (List.mem_of_getElem? (i := 230) (by decide +kernel))
theorem wd_8_232 : Cond.fieldLinkNest "HallPhone$House" 210 "HallPhone$Verb" "setting" "I" "HallPhone" ∈ lw_tbl := hp_m8 (List.mem_of_getElem? (i := 232) (by decide +kernel))
theorem wd_8_233 : Cond.fieldLinkNest "HallPhone" 256 "HallPhone$Verb" "least" "I" "HallPhone" ∈ lw_tbl := hp_m8 (List.mem_of_getElem? (i := 233) (by decide +kernel))
theorem wd_8_234 : Cond.fieldLinkNest "HallPhone" 259 "HallPhone$Verb" "greatest" "I" "HallPhone" ∈ lw_tbl := hp_m8 (List.mem_of_getElem? (i := 234) (by decide +kernel))
theorem wd_8_235 : hp_ok (Cond.fieldLink "HallPhone$Verb" 65 "HallPhone$Verb" "setting" "I") := ⟨hp_m8 (List.mem_of_getElem? (i := 235) (by decide +kernel)), rfl⟩
theorem wd_1_36 : hp_ok (Cond.code ⟨"HallPhone", "<init>", "()V"⟩ prog_1_method_1_code 1 none) := ⟨hp_m1 (List.mem_of_getElem? (i := 36) (by decide +kernel)), rfl⟩
theorem wd_1_1 : hp_ok (Cond.initialized "HallPhone") := ⟨hp_m1 (List.mem_of_getElem? (i := 1) (by decide +kernel)), rfl⟩
theorem wd_1_44 : hp_ok (Cond.code ⟨"HallPhone$House", "<init>", "()V"⟩ prog_4_method_1_code 1 none) := ⟨hp_m1 (List.mem_of_getElem? (i := 44) (by decide +kernel)), rfl⟩
theorem wd_1_2 : hp_ok (Cond.initialized "HallPhone$House") := ⟨hp_m1 (List.mem_of_getElem? (i := 2) (by decide +kernel)), rfl⟩
theorem wd_1_50 : hp_ok (Cond.code ⟨"HallPhone$Phone", "<init>", "()V"⟩ prog_5_method_1_code 1 none) := ⟨hp_m1 (List.mem_of_getElem? (i := 50) (by decide +kernel)), rfl⟩
theorem wd_1_3 : hp_ok (Cond.initialized "HallPhone$Phone") := ⟨hp_m1 (List.mem_of_getElem? (i := 3) (by decide +kernel)), rfl⟩
theorem wd_1_79 : hp_ok (Cond.code ⟨"HallPhone$Queue", "<init>", "()V"⟩ prog_6_method_1_code 1 none) := ⟨hp_m1 (List.mem_of_getElem? (i := 79) (by decide +kernel)), rfl⟩
theorem wd_1_4 : hp_ok (Cond.initialized "HallPhone$Queue") := ⟨hp_m1 (List.mem_of_getElem? (i := 4) (by decide +kernel)), rfl⟩
theorem wd_1_93 : hp_ok (Cond.code ⟨"HallPhone$Slate", "<init>", "()V"⟩ prog_8_method_1_code 1 none) := ⟨hp_m1 (List.mem_of_getElem? (i := 93) (by decide +kernel)), rfl⟩
theorem wd_1_5 : hp_ok (Cond.initialized "HallPhone$Slate") := ⟨hp_m1 (List.mem_of_getElem? (i := 5) (by decide +kernel)), rfl⟩
theorem wd_1_148 : hp_ok (Cond.code ⟨"HallPhone$History", "<init>", "()V"⟩ prog_3_method_1_code 2 none) := ⟨hp_m1 (List.mem_of_getElem? (i := 148) (by decide +kernel)), rfl⟩
theorem wd_1_6 : hp_ok (Cond.initialized "HallPhone$History") := ⟨hp_m1 (List.mem_of_getElem? (i := 6) (by decide +kernel)), rfl⟩
theorem wd_1_168 : hp_ok (Cond.code ⟨"HallPhone$Reader", "<init>", "()V"⟩ prog_7_method_1_code 1 none) := ⟨hp_m1 (List.mem_of_getElem? (i := 168) (by decide +kernel)), rfl⟩
theorem wd_1_7 : hp_ok (Cond.initialized "HallPhone$Reader") := ⟨hp_m1 (List.mem_of_getElem? (i := 7) (by decide +kernel)), rfl⟩
theorem wd_2_2 : hp_ok (Cond.code ⟨"HallPhone$Reader", "takeText", "(Ljava/lang/String;)V"⟩ prog_7_method_3_code 3 none) := ⟨hp_m2 (List.mem_of_getElem? (i := 2) (by decide +kernel)), rfl⟩
theorem wd_2_1 : hp_ok (Cond.instanceMethod ⟨"HallPhone$Reader", "takeText", "(Ljava/lang/String;)V"⟩) := ⟨hp_m2 (List.mem_of_getElem? (i := 1) (by decide +kernel)), rfl⟩
theorem kv_X5_takeText : hp_Kv yX5_takeText cX5_takeText 3 none 1 := ⟨wd_2_1, ⟨hp_sel (n := 10) (by decide +kernel), rfl⟩, wd_1_7, wd_2_2, ⟨by decide, by decide, by decide +kernel⟩, by decide⟩
theorem wd_2_53 : hp_ok (Cond.code ⟨"HallPhone$Reader", "begin", "(I)V"⟩ prog_7_method_4_code 2 none) := ⟨hp_m2 (List.mem_of_getElem? (i := 53) (by decide +kernel)), rfl⟩
theorem wd_2_52 : hp_ok (Cond.instanceMethod ⟨"HallPhone$Reader", "begin", "(I)V"⟩) := ⟨hp_m2 (List.mem_of_getElem? (i := 52) (by decide +kernel)), rfl⟩
theorem kv_X5_begin : hp_Kv yX5_begin cX5_begin 2 none 1 := ⟨wd_2_52, ⟨hp_sel (n := 10) (by decide +kernel), rfl⟩, wd_1_7, wd_2_53, ⟨by decide, by decide, by decide +kernel⟩, by decide⟩
theorem wd_2_60 : hp_ok (Cond.code ⟨"HallPhone", "replaceByText", "()I"⟩ prog_1_method_45_code 4 (some .int)) := ⟨hp_m2 (List.mem_of_getElem? (i := 60) (by decide +kernel)), rfl⟩
theorem wd_2_59 : hp_ok (Cond.instanceMethod ⟨"HallPhone", "replaceByText", "()I"⟩) := ⟨hp_m2 (List.mem_of_getElem? (i := 59) (by decide +kernel)), rfl⟩
theorem kv_X8_replaceByText : hp_Kv yX8_replaceByText cX8_replaceByText 4 (some .int) 0 := ⟨wd_2_59, ⟨hp_sel (n := 10) (by decide +kernel), rfl⟩, wd_1_1, wd_2_60, ⟨by decide, by decide, by decide +kernel⟩, by decide⟩
theorem wd_2_64 : hp_ok (Cond.code ⟨"HallPhone$House", "clear", "()V"⟩ prog_4_method_2_code 1 none) := ⟨hp_m2 (List.mem_of_getElem? (i := 64) (by decide +kernel)), rfl⟩
theorem wd_2_63 : hp_ok (Cond.instanceMethod ⟨"HallPhone$House", "clear", "()V"⟩) := ⟨hp_m2 (List.mem_of_getElem? (i := 63) (by decide +kernel)), rfl⟩
theorem kv_X2_clear : hp_Kv yX2_clear cX2_clear 1 none 0 := ⟨wd_2_63, ⟨hp_sel (n := 10) (by decide +kernel), rfl⟩, wd_1_2, wd_2_64, ⟨by decide, by decide, by decide +kernel⟩, by decide⟩
theorem wd_2_69 : hp_ok (Cond.code ⟨"HallPhone", "copyRow", "([I[I)V"⟩ prog_1_method_52_code 2 none) := ⟨hp_m2 (List.mem_of_getElem? (i := 69) (by decide +kernel)), rfl⟩
theorem wd_2_68 : hp_ok (Cond.static ⟨"HallPhone", "copyRow", "([I[I)V"⟩) := ⟨hp_m2 (List.mem_of_getElem? (i := 68) (by decide +kernel)), rfl⟩
theorem ks_X8_copyRow : hp_Ks yX8_copyRow cX8_copyRow 2 none 2 := ⟨wd_2_68, wd_1_1, wd_2_69, ⟨by decide, by decide, by decide +kernel⟩, by decide⟩
theorem wd_2_80 : hp_ok (Cond.code ⟨"HallPhone$Phone", "putDown", "()V"⟩ prog_5_method_2_code 1 none) := ⟨hp_m2 (List.mem_of_getElem? (i := 80) (by decide +kernel)), rfl⟩
theorem wd_2_79 : hp_ok (Cond.instanceMethod ⟨"HallPhone$Phone", "putDown", "()V"⟩) := ⟨hp_m2 (List.mem_of_getElem? (i := 79) (by decide +kernel)), rfl⟩
theorem kv_X3_putDown : hp_Kv yX3_putDown cX3_putDown 1 none 0 := ⟨wd_2_79, ⟨hp_sel (n := 5) (by decide +kernel), rfl⟩, wd_1_3, wd_2_80, ⟨by decide, by decide, by decide +kernel⟩, by decide⟩
theorem wd_2_84 : hp_ok (Cond.code ⟨"HallPhone$Reader", "readFlats", "(LHallPhone$House;)Z"⟩ prog_7_method_5_code 3 (some .boolean)) := ⟨hp_m2 (List.mem_of_getElem? (i := 84) (by decide +kernel)), rfl⟩
theorem wd_2_83 : hp_ok (Cond.instanceMethod ⟨"HallPhone$Reader", "readFlats", "(LHallPhone$House;)Z"⟩) := ⟨hp_m2 (List.mem_of_getElem? (i := 83) (by decide +kernel)), rfl⟩
theorem kv_X5_readFlats : hp_Kv yX5_readFlats cX5_readFlats 3 (some .boolean) 1 := ⟨wd_2_83, ⟨hp_sel (n := 10) (by decide +kernel), rfl⟩, wd_1_7, wd_2_84, ⟨by decide, by decide, by decide +kernel⟩, by decide⟩
theorem wd_2_88 : hp_ok (Cond.code ⟨"HallPhone$Reader", "next", "()V"⟩ prog_7_method_11_code 1 none) := ⟨hp_m2 (List.mem_of_getElem? (i := 88) (by decide +kernel)), rfl⟩
theorem wd_2_87 : hp_ok (Cond.instanceMethod ⟨"HallPhone$Reader", "next", "()V"⟩) := ⟨hp_m2 (List.mem_of_getElem? (i := 87) (by decide +kernel)), rfl⟩
theorem kv_X5_next : hp_Kv yX5_next cX5_next 1 none 0 := ⟨wd_2_87, ⟨hp_sel (n := 10) (by decide +kernel), rfl⟩, wd_1_7, wd_2_88, ⟨by decide, by decide, by decide +kernel⟩, by decide⟩
theorem wd_2_92 : hp_ok (Cond.code ⟨"HallPhone$Reader", "byteAt", "(I)I"⟩ prog_7_method_13_code 2 (some .int)) := ⟨hp_m2 (List.mem_of_getElem? (i := 92) (by decide +kernel)), rfl⟩
theorem wd_2_91 : hp_ok (Cond.instanceMethod ⟨"HallPhone$Reader", "byteAt", "(I)I"⟩) := ⟨hp_m2 (List.mem_of_getElem? (i := 91) (by decide +kernel)), rfl⟩
theorem kv_X5_byteAt : hp_Kv yX5_byteAt cX5_byteAt 2 (some .int) 1 := ⟨wd_2_91, ⟨hp_sel (n := 10) (by decide +kernel), rfl⟩, wd_1_7, wd_2_92, ⟨by decide, by decide, by decide +kernel⟩, by decide⟩
theorem wd_2_95 : hp_ok (Cond.code ⟨"HallPhone$Reader", "isSpace", "(I)Z"⟩ prog_7_method_14_code 1 (some .boolean)) := ⟨hp_m2 (List.mem_of_getElem? (i := 95) (by decide +kernel)), rfl⟩
theorem wd_2_94 : hp_ok (Cond.static ⟨"HallPhone$Reader", "isSpace", "(I)Z"⟩) := ⟨hp_m2 (List.mem_of_getElem? (i := 94) (by decide +kernel)), rfl⟩
theorem ks_X5_isSpace : hp_Ks yX5_isSpace cX5_isSpace 1 (some .boolean) 1 := ⟨wd_2_94, wd_1_7, wd_2_95, ⟨by decide, by decide, by decide +kernel⟩, by decide⟩
theorem wd_2_98 : hp_ok (Cond.code ⟨"HallPhone$Reader", "isLetter", "(I)Z"⟩ prog_7_method_15_code 1 (some .boolean)) := ⟨hp_m2 (List.mem_of_getElem? (i := 98) (by decide +kernel)), rfl⟩
theorem wd_2_97 : hp_ok (Cond.static ⟨"HallPhone$Reader", "isLetter", "(I)Z"⟩) := ⟨hp_m2 (List.mem_of_getElem? (i := 97) (by decide +kernel)), rfl⟩
theorem ks_X5_isLetter : hp_Ks yX5_isLetter cX5_isLetter 1 (some .boolean) 1 := ⟨wd_2_97, wd_1_7, wd_2_98, ⟨by decide, by decide, by decide +kernel⟩, by decide⟩
theorem wd_2_101 : hp_ok (Cond.code ⟨"HallPhone$Reader", "isDigit", "(I)Z"⟩ prog_7_method_16_code 1 (some .boolean)) := ⟨hp_m2 (List.mem_of_getElem? (i := 101) (by decide +kernel)), rfl⟩
theorem wd_2_100 : hp_ok (Cond.static ⟨"HallPhone$Reader", "isDigit", "(I)Z"⟩) := ⟨hp_m2 (List.mem_of_getElem? (i := 100) (by decide +kernel)), rfl⟩
theorem ks_X5_isDigit : hp_Ks yX5_isDigit cX5_isDigit 1 (some .boolean) 1 := ⟨wd_2_100, wd_1_7, wd_2_101, ⟨by decide, by decide, by decide +kernel⟩, by decide⟩
theorem wd_2_105 : hp_ok (Cond.code ⟨"HallPhone$Reader", "nextNumber", "()V"⟩ prog_7_method_12_code 1 none) := ⟨hp_m2 (List.mem_of_getElem? (i := 105) (by decide +kernel)), rfl⟩
theorem wd_2_104 : hp_ok (Cond.instanceMethod ⟨"HallPhone$Reader", "nextNumber", "()V"⟩) := ⟨hp_m2 (List.mem_of_getElem? (i := 104) (by decide +kernel)), rfl⟩
theorem kv_X5_nextNumber : hp_Kv yX5_nextNumber cX5_nextNumber 1 none 0 := ⟨wd_2_104, ⟨hp_sel (n := 10) (by decide +kernel), rfl⟩, wd_1_7, wd_2_105, ⟨by decide, by decide, by decide +kernel⟩, by decide⟩
theorem wd_2_110 : hp_ok (Cond.code ⟨"HallPhone$Reader", "isWord", "(Ljava/lang/String;)Z"⟩ prog_7_method_10_code 3 (some .boolean)) := ⟨hp_m2 (List.mem_of_getElem? (i := 110) (by decide +kernel)), rfl⟩
theorem wd_2_109 : hp_ok (Cond.instanceMethod ⟨"HallPhone$Reader", "isWord", "(Ljava/lang/String;)Z"⟩) := ⟨hp_m2 (List.mem_of_getElem? (i := 109) (by decide +kernel)), rfl⟩
theorem kv_X5_isWord : hp_Kv yX5_isWord cX5_isWord 3 (some .boolean) 1 := ⟨wd_2_109, ⟨hp_sel (n := 10) (by decide +kernel), rfl⟩, wd_1_7, wd_2_110, ⟨by decide, by decide, by decide +kernel⟩, by decide⟩
theorem wd_2_114 : hp_ok (Cond.code ⟨"HallPhone$Reader", "fail", "(I)Z"⟩ prog_7_method_8_code 2 (some .boolean)) := ⟨hp_m2 (List.mem_of_getElem? (i := 114) (by decide +kernel)), rfl⟩
theorem wd_2_113 : hp_ok (Cond.instanceMethod ⟨"HallPhone$Reader", "fail", "(I)Z"⟩) := ⟨hp_m2 (List.mem_of_getElem? (i := 113) (by decide +kernel)), rfl⟩
theorem kv_X5_fail : hp_Kv yX5_fail cX5_fail 2 (some .boolean) 1 := ⟨wd_2_113, ⟨hp_sel (n := 10) (by decide +kernel), rfl⟩, wd_1_7, wd_2_114, ⟨by decide, by decide, by decide +kernel⟩, by decide⟩
theorem wd_2_118 : hp_ok (Cond.code ⟨"HallPhone$House", "addFlat", "(I)Z"⟩ prog_4_method_10_code 2 (some .boolean)) := ⟨hp_m2 (List.mem_of_getElem? (i := 118) (by decide +kernel)), rfl⟩
theorem wd_2_117 : hp_ok (Cond.instanceMethod ⟨"HallPhone$House", "addFlat", "(I)Z"⟩) := ⟨hp_m2 (List.mem_of_getElem? (i := 117) (by decide +kernel)), rfl⟩
theorem kv_X2_addFlat : hp_Kv yX2_addFlat cX2_addFlat 2 (some .boolean) 1 := ⟨wd_2_117, ⟨hp_sel (n := 10) (by decide +kernel), rfl⟩, wd_1_2, wd_2_118, ⟨by decide, by decide, by decide +kernel⟩, by decide⟩
theorem wd_2_122 : hp_ok (Cond.code ⟨"HallPhone$House", "put", "(III)V"⟩ prog_4_method_5_code 5 none) := ⟨hp_m2 (List.mem_of_getElem? (i := 122) (by decide +kernel)), rfl⟩
theorem wd_2_121 : hp_ok (Cond.instanceMethod ⟨"HallPhone$House", "put", "(III)V"⟩) := ⟨hp_m2 (List.mem_of_getElem? (i := 121) (by decide +kernel)), rfl⟩
theorem kv_X2_put : hp_Kv yX2_put cX2_put 5 none 3 := ⟨wd_2_121, ⟨hp_sel (n := 10) (by decide +kernel), rfl⟩, wd_1_2, wd_2_122, ⟨by decide, by decide, by decide +kernel⟩, by decide⟩
theorem wd_2_128 : hp_ok (Cond.code ⟨"HallPhone$Reader", "readStatement", "(I)Z"⟩ prog_7_method_6_code 3 (some .boolean)) := ⟨hp_m2 (List.mem_of_getElem? (i := 128) (by decide +kernel)), rfl⟩
theorem wd_2_127 : hp_ok (Cond.instanceMethod ⟨"HallPhone$Reader", "readStatement", "(I)Z"⟩) := ⟨hp_m2 (List.mem_of_getElem? (i := 127) (by decide +kernel)), rfl⟩
theorem kv_X5_readStatement : hp_Kv yX5_readStatement cX5_readStatement 3 (some .boolean) 1 := ⟨wd_2_127, ⟨hp_sel (n := 10) (by decide +kernel), rfl⟩, wd_1_7, wd_2_128, ⟨by decide, by decide, by decide +kernel⟩, by decide⟩
theorem wd_2_132 : hp_ok (Cond.code ⟨"HallPhone$Reader", "verbRead", "()LHallPhone$Verb;"⟩ prog_7_method_9_code 5 (some (.object "HallPhone$Verb"))) := ⟨hp_m2 (List.mem_of_getElem? (i := 132) (by decide +kernel)), rfl⟩
theorem wd_2_131 : hp_ok (Cond.instanceMethod ⟨"HallPhone$Reader", "verbRead", "()LHallPhone$Verb;"⟩) := ⟨hp_m2 (List.mem_of_getElem? (i := 131) (by decide +kernel)), rfl⟩
theorem kv_X5_verbRead : hp_Kv yX5_verbRead cX5_verbRead 5 (some (.object "HallPhone$Verb")) 0 := ⟨wd_2_131, ⟨hp_sel (n := 10) (by decide +kernel), rfl⟩, wd_1_7, wd_2_132, ⟨by decide, by decide, by decide +kernel⟩, by decide⟩
theorem wd_2_138 : hp_ok (Cond.code ⟨"HallPhone$Reader", "readNumber", "(II)Z"⟩ prog_7_method_7_code 3 (some .boolean)) := ⟨hp_m2 (List.mem_of_getElem? (i := 138) (by decide +kernel)), rfl⟩
theorem wd_2_137 : hp_ok (Cond.instanceMethod ⟨"HallPhone$Reader", "readNumber", "(II)Z"⟩) := ⟨hp_m2 (List.mem_of_getElem? (i := 137) (by decide +kernel)), rfl⟩
theorem kv_X5_readNumber : hp_Kv yX5_readNumber cX5_readNumber 3 (some .boolean) 2 := ⟨wd_2_137, ⟨hp_sel (n := 10) (by decide +kernel), rfl⟩, wd_1_7, wd_2_138, ⟨by decide, by decide, by decide +kernel⟩, by decide⟩
theorem wd_2_143 : hp_ok (Cond.code ⟨"HallPhone$Verb", "takesNumber", "()Z"⟩ prog_9_method_4_code 1 (some .boolean)) := ⟨hp_m2 (List.mem_of_getElem? (i := 143) (by decide +kernel)), rfl⟩
theorem wd_1_18 : hp_ok (Cond.initialized "HallPhone$Verb") := ⟨hp_m1 (List.mem_of_getElem? (i := 18) (by decide +kernel)), rfl⟩
theorem wd_2_141 : hp_ok (Cond.instanceMethod ⟨"HallPhone$Verb", "takesNumber", "()Z"⟩) := ⟨hp_m2 (List.mem_of_getElem? (i := 141) (by decide +kernel)), rfl⟩
theorem kv_X7_takesNumber : hp_Kv yX7_takesNumber cX7_takesNumber 1 (some .boolean) 0 := ⟨wd_2_141, ⟨hp_sel (n := 8) (by decide +kernel), rfl⟩, wd_1_18, wd_2_143, ⟨by decide, by decide, by decide +kernel⟩, by decide⟩
theorem wd_2_147 : hp_ok (Cond.code ⟨"HallPhone$House", "refusal", "(LHallPhone$Verb;II)I"⟩ prog_4_method_35_code 5 (some .int)) := ⟨hp_m2 (List.mem_of_getElem? (i := 147) (by decide +kernel)), rfl⟩
theorem wd_2_146 : hp_ok (Cond.instanceMethod ⟨"HallPhone$House", "refusal", "(LHallPhone$Verb;II)I"⟩) := ⟨hp_m2 (List.mem_of_getElem? (i := 146) (by decide +kernel)), rfl⟩
theorem kv_X2_refusal : hp_Kv yX2_refusal cX2_refusal 5 (some .int) 3 := ⟨wd_2_146, ⟨hp_sel (n := 10) (by decide +kernel), rfl⟩, wd_1_2, wd_2_147, ⟨by decide, by decide, by decide +kernel⟩, by decide⟩
theorem wd_2_151 : hp_ok (Cond.code ⟨"HallPhone$House", "get", "(II)I"⟩ prog_4_method_4_code 4 (some .int)) := ⟨hp_m2 (List.mem_of_getElem? (i := 151) (by decide +kernel)), rfl⟩
theorem wd_2_150 : hp_ok (Cond.instanceMethod ⟨"HallPhone$House", "get", "(II)I"⟩) := ⟨hp_m2 (List.mem_of_getElem? (i := 150) (by decide +kernel)), rfl⟩
theorem kv_X2_get : hp_Kv yX2_get cX2_get 4 (some .int) 2 := ⟨wd_2_150, ⟨hp_sel (n := 10) (by decide +kernel), rfl⟩, wd_1_2, wd_2_151, ⟨by decide, by decide, by decide +kernel⟩, by decide⟩
theorem wd_2_163 : hp_ok (Cond.code ⟨"HallPhone$House", "isCalled", "(I)Z"⟩ prog_4_method_26_code 2 (some .boolean)) := ⟨hp_m2 (List.mem_of_getElem? (i := 163) (by decide +kernel)), rfl⟩
theorem wd_2_162 : hp_ok (Cond.instanceMethod ⟨"HallPhone$House", "isCalled", "(I)Z"⟩) := ⟨hp_m2 (List.mem_of_getElem? (i := 162) (by decide +kernel)), rfl⟩
theorem kv_X2_isCalled : hp_Kv yX2_isCalled cX2_isCalled 2 (some .boolean) 1 := ⟨wd_2_162, ⟨hp_sel (n := 10) (by decide +kernel), rfl⟩, wd_1_2, wd_2_163, ⟨by decide, by decide, by decide +kernel⟩, by decide⟩
theorem wd_2_167 : hp_ok (Cond.code ⟨"HallPhone$House", "perform", "(LHallPhone$Verb;II)I"⟩ prog_4_method_36_code 4 (some .int)) := ⟨hp_m2 (List.mem_of_getElem? (i := 167) (by decide +kernel)), rfl⟩
theorem wd_2_166 : hp_ok (Cond.instanceMethod ⟨"HallPhone$House", "perform", "(LHallPhone$Verb;II)I"⟩) := ⟨hp_m2 (List.mem_of_getElem? (i := 166) (by decide +kernel)), rfl⟩
theorem kv_X2_perform : hp_Kv yX2_perform cX2_perform 4 (some .int) 3 := ⟨wd_2_166, ⟨hp_sel (n := 10) (by decide +kernel), rfl⟩, wd_1_2, wd_2_167, ⟨by decide, by decide, by decide +kernel⟩, by decide⟩
theorem wd_2_171 : hp_ok (Cond.code ⟨"HallPhone$House", "setOut", "(II)I"⟩ prog_4_method_37_code 4 (some .int)) := ⟨hp_m2 (List.mem_of_getElem? (i := 171) (by decide +kernel)), rfl⟩
theorem wd_2_170 : hp_ok (Cond.instanceMethod ⟨"HallPhone$House", "setOut", "(II)I"⟩) := ⟨hp_m2 (List.mem_of_getElem? (i := 170) (by decide +kernel)), rfl⟩
theorem kv_X2_setOut : hp_Kv yX2_setOut cX2_setOut 4 (some .int) 2 := ⟨wd_2_170, ⟨hp_sel (n := 10) (by decide +kernel), rfl⟩, wd_1_2, wd_2_171, ⟨by decide, by decide, by decide +kernel⟩, by decide⟩
theorem wd_2_175 : hp_ok (Cond.code ⟨"HallPhone$House", "giveUp", "(I)I"⟩ prog_4_method_38_code 3 (some .int)) := ⟨hp_m2 (List.mem_of_getElem? (i := 175) (by decide +kernel)), rfl⟩
theorem wd_2_174 : hp_ok (Cond.instanceMethod ⟨"HallPhone$House", "giveUp", "(I)I"⟩) := ⟨hp_m2 (List.mem_of_getElem? (i := 174) (by decide +kernel)), rfl⟩
theorem kv_X2_giveUp : hp_Kv yX2_giveUp cX2_giveUp 3 (some .int) 1 := ⟨wd_2_174, ⟨hp_sel (n := 10) (by decide +kernel), rfl⟩, wd_1_2, wd_2_175, ⟨by decide, by decide, by decide +kernel⟩, by decide⟩
theorem wd_2_179 : hp_ok (Cond.code ⟨"HallPhone$Queue", "leave", "(I)V"⟩ prog_6_method_5_code 4 none) := ⟨hp_m2 (List.mem_of_getElem? (i := 179) (by decide +kernel)), rfl⟩
theorem wd_2_178 : hp_ok (Cond.instanceMethod ⟨"HallPhone$Queue", "leave", "(I)V"⟩) := ⟨hp_m2 (List.mem_of_getElem? (i := 178) (by decide +kernel)), rfl⟩
theorem kv_X4_leave : hp_Kv yX4_leave cX4_leave 4 none 1 := ⟨wd_2_178, ⟨hp_sel (n := 2) (by decide +kernel), rfl⟩, wd_1_4, wd_2_179, ⟨by decide, by decide, by decide +kernel⟩, by decide⟩
theorem wd_2_183 : hp_ok (Cond.code ⟨"HallPhone$House", "endCall", "()I"⟩ prog_4_method_28_code 4 (some .int)) := ⟨hp_m2 (List.mem_of_getElem? (i := 183) (by decide +kernel)), rfl⟩
theorem wd_2_182 : hp_ok (Cond.instanceMethod ⟨"HallPhone$House", "endCall", "()I"⟩) := ⟨hp_m2 (List.mem_of_getElem? (i := 182) (by decide +kernel)), rfl⟩
theorem kv_X2_endCall : hp_Kv yX2_endCall cX2_endCall 4 (some .int) 0 := ⟨wd_2_182, ⟨hp_sel (n := 10) (by decide +kernel), rfl⟩, wd_1_2, wd_2_183, ⟨by decide, by decide, by decide +kernel⟩, by decide⟩
theorem wd_2_187 : hp_ok (Cond.code ⟨"HallPhone$House", "costOf", "(I)I"⟩ prog_4_method_20_code 3 (some .int)) := ⟨hp_m2 (List.mem_of_getElem? (i := 187) (by decide +kernel)), rfl⟩
theorem wd_2_186 : hp_ok (Cond.instanceMethod ⟨"HallPhone$House", "costOf", "(I)I"⟩) := ⟨hp_m2 (List.mem_of_getElem? (i := 186) (by decide +kernel)), rfl⟩
theorem kv_X2_costOf : hp_Kv yX2_costOf cX2_costOf 3 (some .int) 1 := ⟨wd_2_186, ⟨hp_sel (n := 10) (by decide +kernel), rfl⟩, wd_1_2, wd_2_187, ⟨by decide, by decide, by decide +kernel⟩, by decide⟩
theorem wd_2_191 : hp_ok (Cond.code ⟨"HallPhone$House", "takeRing", "(II)I"⟩ prog_4_method_40_code 4 (some .int)) := ⟨hp_m2 (List.mem_of_getElem? (i := 191) (by decide +kernel)), rfl⟩
theorem wd_2_190 : hp_ok (Cond.instanceMethod ⟨"HallPhone$House", "takeRing", "(II)I"⟩) := ⟨hp_m2 (List.mem_of_getElem? (i := 190) (by decide +kernel)), rfl⟩
theorem kv_X2_takeRing : hp_Kv yX2_takeRing cX2_takeRing 4 (some .int) 2 := ⟨wd_2_190, ⟨hp_sel (n := 10) (by decide +kernel), rfl⟩, wd_1_2, wd_2_191, ⟨by decide, by decide, by decide +kernel⟩, by decide⟩
theorem wd_2_195 : hp_ok (Cond.code ⟨"HallPhone$House", "outcomeOfRing", "(I)I"⟩ prog_4_method_39_code 3 (some .int)) := ⟨hp_m2 (List.mem_of_getElem? (i := 195) (by decide +kernel)), rfl⟩
theorem wd_2_194 : hp_ok (Cond.instanceMethod ⟨"HallPhone$House", "outcomeOfRing", "(I)I"⟩) := ⟨hp_m2 (List.mem_of_getElem? (i := 194) (by decide +kernel)), rfl⟩
theorem kv_X2_outcomeOfRing : hp_Kv yX2_outcomeOfRing cX2_outcomeOfRing 3 (some .int) 1 := ⟨wd_2_194, ⟨hp_sel (n := 10) (by decide +kernel), rfl⟩, wd_1_2, wd_2_195, ⟨by decide, by decide, by decide +kernel⟩, by decide⟩
theorem wd_2_199 : hp_ok (Cond.code ⟨"HallPhone$Phone", "holdFor", "(II)V"⟩ prog_5_method_3_code 3 none) := ⟨hp_m2 (List.mem_of_getElem? (i := 199) (by decide +kernel)), rfl⟩
theorem wd_2_198 : hp_ok (Cond.instanceMethod ⟨"HallPhone$Phone", "holdFor", "(II)V"⟩) := ⟨hp_m2 (List.mem_of_getElem? (i := 198) (by decide +kernel)), rfl⟩
theorem kv_X3_holdFor : hp_Kv yX3_holdFor cX3_holdFor 3 none 2 := ⟨wd_2_198, ⟨hp_sel (n := 5) (by decide +kernel), rfl⟩, wd_1_3, wd_2_199, ⟨by decide, by decide, by decide +kernel⟩, by decide⟩
theorem wd_2_203 : hp_ok (Cond.code ⟨"HallPhone$House", "connect", "(IIZ)V"⟩ prog_4_method_29_code 4 none) := ⟨hp_m2 (List.mem_of_getElem? (i := 203) (by decide +kernel)), rfl⟩
theorem wd_2_202 : hp_ok (Cond.instanceMethod ⟨"HallPhone$House", "connect", "(IIZ)V"⟩) := ⟨hp_m2 (List.mem_of_getElem? (i := 202) (by decide +kernel)), rfl⟩
theorem kv_X2_connect : hp_Kv yX2_connect cX2_connect 4 none 3 := ⟨wd_2_202, ⟨hp_sel (n := 10) (by decide +kernel), rfl⟩, wd_1_2, wd_2_203, ⟨by decide, by decide, by decide +kernel⟩, by decide⟩
theorem wd_2_207 : hp_ok (Cond.code ⟨"HallPhone$Phone", "connect", "(IIZ)V"⟩ prog_5_method_4_code 4 none) := ⟨hp_m2 (List.mem_of_getElem? (i := 207) (by decide +kernel)), rfl⟩
theorem wd_2_206 : hp_ok (Cond.instanceMethod ⟨"HallPhone$Phone", "connect", "(IIZ)V"⟩) := ⟨hp_m2 (List.mem_of_getElem? (i := 206) (by decide +kernel)), rfl⟩
theorem kv_X3_connect : hp_Kv yX3_connect cX3_connect 4 none 3 := ⟨wd_2_206, ⟨hp_sel (n := 5) (by decide +kernel), rfl⟩, wd_1_3, wd_2_207, ⟨by decide, by decide, by decide +kernel⟩, by decide⟩
theorem wd_2_211 : hp_ok (Cond.code ⟨"HallPhone$Slate", "write", "(II)V"⟩ prog_8_method_5_code 3 none) := ⟨hp_m2 (List.mem_of_getElem? (i := 211) (by decide +kernel)), rfl⟩
theorem wd_2_210 : hp_ok (Cond.instanceMethod ⟨"HallPhone$Slate", "write", "(II)V"⟩) := ⟨hp_m2 (List.mem_of_getElem? (i := 210) (by decide +kernel)), rfl⟩
theorem kv_X6_write : hp_Kv yX6_write cX6_write 3 none 2 := ⟨wd_2_210, ⟨hp_sel (n := 3) (by decide +kernel), rfl⟩, wd_1_5, wd_2_211, ⟨by decide, by decide, by decide +kernel⟩, by decide⟩
theorem wd_2_215 : hp_ok (Cond.code ⟨"HallPhone$House", "takeMoney", "(II)I"⟩ prog_4_method_41_code 4 (some .int)) := ⟨hp_m2 (List.mem_of_getElem? (i := 215) (by decide +kernel)), rfl⟩
theorem wd_2_214 : hp_ok (Cond.instanceMethod ⟨"HallPhone$House", "takeMoney", "(II)I"⟩) := ⟨hp_m2 (List.mem_of_getElem? (i := 214) (by decide +kernel)), rfl⟩
theorem kv_X2_takeMoney : hp_Kv yX2_takeMoney cX2_takeMoney 4 (some .int) 2 := ⟨wd_2_214, ⟨hp_sel (n := 10) (by decide +kernel), rfl⟩, wd_1_2, wd_2_215, ⟨by decide, by decide, by decide +kernel⟩, by decide⟩
theorem wd_2_219 : hp_ok (Cond.code ⟨"HallPhone$House", "letPass", "(I)I"⟩ prog_4_method_23_code 5 (some .int)) := ⟨hp_m2 (List.mem_of_getElem? (i := 219) (by decide +kernel)), rfl⟩
theorem wd_2_218 : hp_ok (Cond.instanceMethod ⟨"HallPhone$House", "letPass", "(I)I"⟩) := ⟨hp_m2 (List.mem_of_getElem? (i := 218) (by decide +kernel)), rfl⟩
theorem kv_X2_letPass : hp_Kv yX2_letPass cX2_letPass 5 (some .int) 1 := ⟨wd_2_218, ⟨hp_sel (n := 10) (by decide +kernel), rfl⟩, wd_1_2, wd_2_219, ⟨by decide, by decide, by decide +kernel⟩, by decide⟩
theorem wd_2_223 : hp_ok (Cond.code ⟨"HallPhone$House", "isQuiet", "()Z"⟩ prog_4_method_31_code 1 (some .boolean)) := ⟨hp_m2 (List.mem_of_getElem? (i := 223) (by decide +kernel)), rfl⟩
theorem wd_2_222 : hp_ok (Cond.instanceMethod ⟨"HallPhone$House", "isQuiet", "()Z"⟩) := ⟨hp_m2 (List.mem_of_getElem? (i := 222) (by decide +kernel)), rfl⟩
theorem kv_X2_isQuiet : hp_Kv yX2_isQuiet cX2_isQuiet 1 (some .boolean) 0 := ⟨wd_2_222, ⟨hp_sel (n := 10) (by decide +kernel), rfl⟩, wd_1_2, wd_2_223, ⟨by decide, by decide, by decide +kernel⟩, by decide⟩
theorem wd_2_227 : hp_ok (Cond.code ⟨"HallPhone$House", "flatsThatAre", "(I)I"⟩ prog_4_method_15_code 4 (some .int)) := ⟨hp_m2 (List.mem_of_getElem? (i := 227) (by decide +kernel)), rfl⟩
theorem wd_2_226 : hp_ok (Cond.instanceMethod ⟨"HallPhone$House", "flatsThatAre", "(I)I"⟩) := ⟨hp_m2 (List.mem_of_getElem? (i := 226) (by decide +kernel)), rfl⟩
theorem kv_X2_flatsThatAre : hp_Kv yX2_flatsThatAre cX2_flatsThatAre 4 (some .int) 1 := ⟨wd_2_226, ⟨hp_sel (n := 10) (by decide +kernel), rfl⟩, wd_1_2, wd_2_227, ⟨by decide, by decide, by decide +kernel⟩, by decide⟩
theorem wd_2_231 : hp_ok (Cond.code ⟨"HallPhone$House", "speakOneMinute", "()V"⟩ prog_4_method_24_code 2 none) := ⟨hp_m2 (List.mem_of_getElem? (i := 231) (by decide +kernel)), rfl⟩
theorem wd_2_230 : hp_ok (Cond.instanceMethod ⟨"HallPhone$House", "speakOneMinute", "()V"⟩) := ⟨hp_m2 (List.mem_of_getElem? (i := 230) (by decide +kernel)), rfl⟩
theorem kv_X2_speakOneMinute : hp_Kv yX2_speakOneMinute cX2_speakOneMinute 2 none 0 := ⟨wd_2_230, ⟨hp_sel (n := 10) (by decide +kernel), rfl⟩, wd_1_2, wd_2_231, ⟨by decide, by decide, by decide +kernel⟩, by decide⟩
theorem wd_2_235 : hp_ok (Cond.code ⟨"HallPhone$House", "isListener", "(I)Z"⟩ prog_4_method_16_code 2 (some .boolean)) := ⟨hp_m2 (List.mem_of_getElem? (i := 235) (by decide +kernel)), rfl⟩
theorem wd_2_234 : hp_ok (Cond.instanceMethod ⟨"HallPhone$House", "isListener", "(I)Z"⟩) := ⟨hp_m2 (List.mem_of_getElem? (i := 234) (by decide +kernel)), rfl⟩
theorem kv_X2_isListener : hp_Kv yX2_isListener cX2_isListener 2 (some .boolean) 1 := ⟨wd_2_234, ⟨hp_sel (n := 10) (by decide +kernel), rfl⟩, wd_1_2, wd_2_235, ⟨by decide, by decide, by decide +kernel⟩, by decide⟩
theorem wd_2_239 : hp_ok (Cond.code ⟨"HallPhone$House", "hearOneMinute", "(II)V"⟩ prog_4_method_9_code 4 none) := ⟨hp_m2 (List.mem_of_getElem? (i := 239) (by decide +kernel)), rfl⟩
theorem wd_2_238 : hp_ok (Cond.instanceMethod ⟨"HallPhone$House", "hearOneMinute", "(II)V"⟩) := ⟨hp_m2 (List.mem_of_getElem? (i := 238) (by decide +kernel)), rfl⟩
theorem kv_X2_hearOneMinute : hp_Kv yX2_hearOneMinute cX2_hearOneMinute 4 none 2 := ⟨wd_2_238, ⟨hp_sel (n := 10) (by decide +kernel), rfl⟩, wd_1_2, wd_2_239, ⟨by decide, by decide, by decide +kernel⟩, by decide⟩
theorem wd_3_3 : hp_ok (Cond.code ⟨"HallPhone$House", "comeDown", "(I)V"⟩ prog_4_method_25_code 3 none) := ⟨hp_m3 (List.mem_of_getElem? (i := 3) (by decide +kernel)), rfl⟩
theorem wd_3_2 : hp_ok (Cond.instanceMethod ⟨"HallPhone$House", "comeDown", "(I)V"⟩) := ⟨hp_m3 (List.mem_of_getElem? (i := 2) (by decide +kernel)), rfl⟩
theorem kv_X2_comeDown : hp_Kv yX2_comeDown cX2_comeDown 3 none 1 := ⟨wd_3_2, ⟨hp_sel (n := 10) (by decide +kernel), rfl⟩, wd_1_2, wd_3_3, ⟨by decide, by decide, by decide +kernel⟩, by decide⟩
theorem wd_3_7 : hp_ok (Cond.code ⟨"HallPhone$Slate", "wipeFor", "(I)I"⟩ prog_8_method_6_code 5 (some .int)) := ⟨hp_m3 (List.mem_of_getElem? (i := 7) (by decide +kernel)), rfl⟩
theorem wd_3_6 : hp_ok (Cond.instanceMethod ⟨"HallPhone$Slate", "wipeFor", "(I)I"⟩) := ⟨hp_m3 (List.mem_of_getElem? (i := 6) (by decide +kernel)), rfl⟩
theorem kv_X6_wipeFor : hp_Kv yX6_wipeFor cX6_wipeFor 5 (some .int) 1 := ⟨wd_3_6, ⟨hp_sel (n := 3) (by decide +kernel), rfl⟩, wd_1_5, wd_3_7, ⟨by decide, by decide, by decide +kernel⟩, by decide⟩
theorem wd_3_11 : hp_ok (Cond.code ⟨"HallPhone$Queue", "join", "(I)V"⟩ prog_6_method_4_code 2 none) := ⟨hp_m3 (List.mem_of_getElem? (i := 11) (by decide +kernel)), rfl⟩
theorem wd_3_10 : hp_ok (Cond.instanceMethod ⟨"HallPhone$Queue", "join", "(I)V"⟩) := ⟨hp_m3 (List.mem_of_getElem? (i := 10) (by decide +kernel)), rfl⟩
theorem kv_X4_join : hp_Kv yX4_join cX4_join 2 none 1 := ⟨wd_3_10, ⟨hp_sel (n := 2) (by decide +kernel), rfl⟩, wd_1_4, wd_3_11, ⟨by decide, by decide, by decide +kernel⟩, by decide⟩
theorem wd_3_15 : hp_ok (Cond.code ⟨"HallPhone$House", "isCallOver", "()Z"⟩ prog_4_method_27_code 3 (some .boolean)) := ⟨hp_m3 (List.mem_of_getElem? (i := 15) (by decide +kernel)), rfl⟩
theorem wd_3_14 : hp_ok (Cond.instanceMethod ⟨"HallPhone$House", "isCallOver", "()Z"⟩) := ⟨hp_m3 (List.mem_of_getElem? (i := 14) (by decide +kernel)), rfl⟩
theorem kv_X2_isCallOver : hp_Kv yX2_isCallOver cX2_isCallOver 3 (some .boolean) 0 := ⟨wd_3_14, ⟨hp_sel (n := 10) (by decide +kernel), rfl⟩, wd_1_2, wd_3_15, ⟨by decide, by decide, by decide +kernel⟩, by decide⟩
theorem wd_3_19 : hp_ok (Cond.code ⟨"HallPhone$Queue", "at", "(I)I"⟩ prog_6_method_2_code 2 (some .int)) := ⟨hp_m3 (List.mem_of_getElem? (i := 19) (by decide +kernel)), rfl⟩
theorem wd_3_18 : hp_ok (Cond.instanceMethod ⟨"HallPhone$Queue", "at", "(I)I"⟩) := ⟨hp_m3 (List.mem_of_getElem? (i := 18) (by decide +kernel)), rfl⟩
theorem kv_X4_at : hp_Kv yX4_at cX4_at 2 (some .int) 1 := ⟨wd_3_18, ⟨hp_sel (n := 2) (by decide +kernel), rfl⟩, wd_1_4, wd_3_19, ⟨by decide, by decide, by decide +kernel⟩, by decide⟩
theorem wd_3_23 : hp_ok (Cond.code ⟨"HallPhone$House", "countWaiting", "()V"⟩ prog_4_method_30_code 3 none) := ⟨hp_m3 (List.mem_of_getElem? (i := 23) (by decide +kernel)), rfl⟩
theorem wd_3_22 : hp_ok (Cond.instanceMethod ⟨"HallPhone$House", "countWaiting", "()V"⟩) := ⟨hp_m3 (List.mem_of_getElem? (i := 22) (by decide +kernel)), rfl⟩
theorem kv_X2_countWaiting : hp_Kv yX2_countWaiting cX2_countWaiting 3 none 0 := ⟨wd_3_22, ⟨hp_sel (n := 10) (by decide +kernel), rfl⟩, wd_1_2, wd_3_23, ⟨by decide, by decide, by decide +kernel⟩, by decide⟩
theorem wd_3_27 : hp_ok (Cond.code ⟨"HallPhone$House", "changeSetting", "(II)I"⟩ prog_4_method_7_code 4 (some .int)) := ⟨hp_m3 (List.mem_of_getElem? (i := 27) (by decide +kernel)), rfl⟩
theorem wd_3_26 : hp_ok (Cond.instanceMethod ⟨"HallPhone$House", "changeSetting", "(II)I"⟩) := ⟨hp_m3 (List.mem_of_getElem? (i := 26) (by decide +kernel)), rfl⟩
theorem kv_X2_changeSetting : hp_Kv yX2_changeSetting cX2_changeSetting 4 (some .int) 2 := ⟨wd_3_26, ⟨hp_sel (n := 10) (by decide +kernel), rfl⟩, wd_1_2, wd_3_27, ⟨by decide, by decide, by decide +kernel⟩, by decide⟩
theorem wd_3_31 : hp_ok (Cond.code ⟨"HallPhone$House", "settingNumber", "(I)I"⟩ prog_4_method_6_code 2 (some .int)) := ⟨hp_m3 (List.mem_of_getElem? (i := 31) (by decide +kernel)), rfl⟩
theorem wd_3_30 : hp_ok (Cond.instanceMethod ⟨"HallPhone$House", "settingNumber", "(I)I"⟩) := ⟨hp_m3 (List.mem_of_getElem? (i := 30) (by decide +kernel)), rfl⟩
theorem kv_X2_settingNumber : hp_Kv yX2_settingNumber cX2_settingNumber 2 (some .int) 1 := ⟨wd_3_30, ⟨hp_sel (n := 10) (by decide +kernel), rfl⟩, wd_1_2, wd_3_31, ⟨by decide, by decide, by decide +kernel⟩, by decide⟩
theorem wd_3_36 : hp_ok (Cond.code ⟨"HallPhone$House", "copyFrom", "(LHallPhone$House;)V"⟩ prog_4_method_3_code 2 none) := ⟨hp_m3 (List.mem_of_getElem? (i := 36) (by decide +kernel)), rfl⟩
theorem wd_3_35 : hp_ok (Cond.instanceMethod ⟨"HallPhone$House", "copyFrom", "(LHallPhone$House;)V"⟩) := ⟨hp_m3 (List.mem_of_getElem? (i := 35) (by decide +kernel)), rfl⟩
theorem kv_X2_copyFrom : hp_Kv yX2_copyFrom cX2_copyFrom 2 none 1 := ⟨wd_3_35, ⟨hp_sel (n := 10) (by decide +kernel), rfl⟩, wd_1_2, wd_3_36, ⟨by decide, by decide, by decide +kernel⟩, by decide⟩
theorem wd_3_40 : hp_ok (Cond.code ⟨"HallPhone$Phone", "copyFrom", "(LHallPhone$Phone;)V"⟩ prog_5_method_5_code 2 none) := ⟨hp_m3 (List.mem_of_getElem? (i := 40) (by decide +kernel)), rfl⟩
theorem wd_3_39 : hp_ok (Cond.instanceMethod ⟨"HallPhone$Phone", "copyFrom", "(LHallPhone$Phone;)V"⟩) := ⟨hp_m3 (List.mem_of_getElem? (i := 39) (by decide +kernel)), rfl⟩
theorem kv_X3_copyFrom : hp_Kv yX3_copyFrom cX3_copyFrom 2 none 1 := ⟨wd_3_39, ⟨hp_sel (n := 5) (by decide +kernel), rfl⟩, wd_1_3, wd_3_40, ⟨by decide, by decide, by decide +kernel⟩, by decide⟩
theorem wd_3_44 : hp_ok (Cond.code ⟨"HallPhone$Queue", "copyFrom", "(LHallPhone$Queue;)V"⟩ prog_6_method_6_code 2 none) := ⟨hp_m3 (List.mem_of_getElem? (i := 44) (by decide +kernel)), rfl⟩
theorem wd_3_43 : hp_ok (Cond.instanceMethod ⟨"HallPhone$Queue", "copyFrom", "(LHallPhone$Queue;)V"⟩) := ⟨hp_m3 (List.mem_of_getElem? (i := 43) (by decide +kernel)), rfl⟩
theorem kv_X4_copyFrom : hp_Kv yX4_copyFrom cX4_copyFrom 2 none 1 := ⟨wd_3_43, ⟨hp_sel (n := 2) (by decide +kernel), rfl⟩, wd_1_4, wd_3_44, ⟨by decide, by decide, by decide +kernel⟩, by decide⟩
theorem wd_3_49 : hp_ok (Cond.code ⟨"HallPhone$Slate", "copyFrom", "(LHallPhone$Slate;)V"⟩ prog_8_method_7_code 2 none) := ⟨hp_m3 (List.mem_of_getElem? (i := 49) (by decide +kernel)), rfl⟩
theorem wd_3_48 : hp_ok (Cond.instanceMethod ⟨"HallPhone$Slate", "copyFrom", "(LHallPhone$Slate;)V"⟩) := ⟨hp_m3 (List.mem_of_getElem? (i := 48) (by decide +kernel)), rfl⟩
theorem kv_X6_copyFrom : hp_Kv yX6_copyFrom cX6_copyFrom 2 none 1 := ⟨wd_3_48, ⟨hp_sel (n := 3) (by decide +kernel), rfl⟩, wd_1_5, wd_3_49, ⟨by decide, by decide, by decide +kernel⟩, by decide⟩
theorem wd_3_54 : hp_ok (Cond.code ⟨"HallPhone$History", "forget", "()V"⟩ prog_3_method_4_code 1 none) := ⟨hp_m3 (List.mem_of_getElem? (i := 54) (by decide +kernel)), rfl⟩
theorem wd_3_53 : hp_ok (Cond.instanceMethod ⟨"HallPhone$History", "forget", "()V"⟩) := ⟨hp_m3 (List.mem_of_getElem? (i := 53) (by decide +kernel)), rfl⟩
theorem kv_X1_forget : hp_Kv yX1_forget cX1_forget 1 none 0 := ⟨wd_3_53, ⟨hp_sel (n := 3) (by decide +kernel), rfl⟩, wd_1_6, wd_3_54, ⟨by decide, by decide, by decide +kernel⟩, by decide⟩
theorem wd_3_89 : hp_ok (Cond.code ⟨"HallPhone", "append", "(IIIII)I"⟩ prog_1_method_2_code 6 (some .int)) := ⟨hp_m3 (List.mem_of_getElem? (i := 89) (by decide +kernel)), rfl⟩
theorem wd_3_88 : hp_ok (Cond.selects "HallPhone" ⟨"HallPhone", "append", "(IIIII)I"⟩ ⟨"HallPhone", "append", "(IIIII)I"⟩) := ⟨hp_m3 (List.mem_of_getElem? (i := 88) (by decide +kernel)), rfl⟩
theorem wd_3_87 : hp_ok (Cond.instanceMethod ⟨"HallPhone", "append", "(IIIII)I"⟩) := ⟨hp_m3 (List.mem_of_getElem? (i := 87) (by decide +kernel)), rfl⟩
theorem kv_X8_append : hp_Kv yX8_append cX8_append 6 (some .int) 5 := ⟨wd_3_87, wd_3_88, wd_1_1, wd_3_89, ⟨by decide, by decide, by decide +kernel⟩, by decide⟩
theorem wd_3_93 : hp_ok (Cond.code ⟨"HallPhone", "appendFourBytes", "(I)V"⟩ prog_1_method_44_code 3 none) := ⟨hp_m3 (List.mem_of_getElem? (i := 93) (by decide +kernel)), rfl⟩
theorem wd_3_92 : hp_ok (Cond.instanceMethod ⟨"HallPhone", "appendFourBytes", "(I)V"⟩) := ⟨hp_m3 (List.mem_of_getElem? (i := 92) (by decide +kernel)), rfl⟩
theorem kv_X8_appendFourBytes : hp_Kv yX8_appendFourBytes cX8_appendFourBytes 3 none 1 := ⟨wd_3_92, ⟨hp_sel (n := 10) (by decide +kernel), rfl⟩, wd_1_1, wd_3_93, ⟨by decide, by decide, by decide +kernel⟩, by decide⟩
theorem wd_3_97 : hp_ok (Cond.code ⟨"HallPhone", "queued", "(I)I"⟩ prog_1_method_8_code 2 (some .int)) := ⟨hp_m3 (List.mem_of_getElem? (i := 97) (by decide +kernel)), rfl⟩
theorem wd_3_96 : hp_ok (Cond.selects "HallPhone" ⟨"HallPhone", "queued", "(I)I"⟩ ⟨"HallPhone", "queued", "(I)I"⟩) := ⟨hp_m3 (List.mem_of_getElem? (i := 96) (by decide +kernel)), rfl⟩
theorem wd_3_95 : hp_ok (Cond.instanceMethod ⟨"HallPhone", "queued", "(I)I"⟩) := ⟨hp_m3 (List.mem_of_getElem? (i := 95) (by decide +kernel)), rfl⟩
theorem kv_X8_queued : hp_Kv yX8_queued cX8_queued 2 (some .int) 1 := ⟨wd_3_95, wd_3_96, wd_1_1, wd_3_97, ⟨by decide, by decide, by decide +kernel⟩, by decide⟩
theorem wd_3_102 : hp_ok (Cond.code ⟨"HallPhone", "mostKnown", "()I"⟩ prog_1_method_13_code 5 (some .int)) := ⟨hp_m3 (List.mem_of_getElem? (i := 102) (by decide +kernel)), rfl⟩
theorem wd_3_101 : hp_ok (Cond.selects "HallPhone" ⟨"HallPhone", "mostKnown", "()I"⟩ ⟨"HallPhone", "mostKnown", "()I"⟩) := ⟨hp_m3 (List.mem_of_getElem? (i := 101) (by decide +kernel)), rfl⟩
theorem wd_3_100 : hp_ok (Cond.instanceMethod ⟨"HallPhone", "mostKnown", "()I"⟩) := ⟨hp_m3 (List.mem_of_getElem? (i := 100) (by decide +kernel)), rfl⟩
theorem kv_X8_mostKnown : hp_Kv yX8_mostKnown cX8_mostKnown 5 (some .int) 0 := ⟨wd_3_100, wd_3_101, wd_1_1, wd_3_102, ⟨by decide, by decide, by decide +kernel⟩, by decide⟩
theorem wd_3_106 : hp_ok (Cond.code ⟨"HallPhone$House", "knowersOf", "(I)I"⟩ prog_4_method_18_code 4 (some .int)) := ⟨hp_m3 (List.mem_of_getElem? (i := 106) (by decide +kernel)), rfl⟩
theorem wd_3_105 : hp_ok (Cond.instanceMethod ⟨"HallPhone$House", "knowersOf", "(I)I"⟩) := ⟨hp_m3 (List.mem_of_getElem? (i := 105) (by decide +kernel)), rfl⟩
theorem kv_X2_knowersOf : hp_Kv yX2_knowersOf cX2_knowersOf 4 (some .int) 1 := ⟨wd_3_105, ⟨hp_sel (n := 10) (by decide +kernel), rfl⟩, wd_1_2, wd_3_106, ⟨by decide, by decide, by decide +kernel⟩, by decide⟩
theorem wd_3_110 : hp_ok (Cond.code ⟨"HallPhone$House", "minutesHeard", "(II)I"⟩ prog_4_method_8_code 4 (some .int)) := ⟨hp_m3 (List.mem_of_getElem? (i := 110) (by decide +kernel)), rfl⟩
theorem wd_3_109 : hp_ok (Cond.instanceMethod ⟨"HallPhone$House", "minutesHeard", "(II)I"⟩) := ⟨hp_m3 (List.mem_of_getElem? (i := 109) (by decide +kernel)), rfl⟩
theorem kv_X2_minutesHeard : hp_Kv yX2_minutesHeard cX2_minutesHeard 4 (some .int) 2 := ⟨wd_3_109, ⟨hp_sel (n := 10) (by decide +kernel), rfl⟩, wd_1_2, wd_3_110, ⟨by decide, by decide, by decide +kernel⟩, by decide⟩
theorem wd_3_120 : hp_ok (Cond.code ⟨"HallPhone", "freeIn", "()I"⟩ prog_1_method_17_code 1 (some .int)) := ⟨hp_m3 (List.mem_of_getElem? (i := 120) (by decide +kernel)), rfl⟩
theorem wd_3_119 : hp_ok (Cond.selects "HallPhone" ⟨"HallPhone", "freeIn", "()I"⟩ ⟨"HallPhone", "freeIn", "()I"⟩) := ⟨hp_m3 (List.mem_of_getElem? (i := 119) (by decide +kernel)), rfl⟩
theorem wd_3_118 : hp_ok (Cond.instanceMethod ⟨"HallPhone", "freeIn", "()I"⟩) := ⟨hp_m3 (List.mem_of_getElem? (i := 118) (by decide +kernel)), rfl⟩
theorem kv_X8_freeIn : hp_Kv yX8_freeIn cX8_freeIn 1 (some .int) 0 := ⟨wd_3_118, wd_3_119, wd_1_1, wd_3_120, ⟨by decide, by decide, by decide +kernel⟩, by decide⟩
theorem wd_3_124 : hp_ok (Cond.code ⟨"HallPhone$House", "minutesTillFree", "()I"⟩ prog_4_method_33_code 2 (some .int)) := ⟨hp_m3 (List.mem_of_getElem? (i := 124) (by decide +kernel)), rfl⟩
theorem wd_3_123 : hp_ok (Cond.instanceMethod ⟨"HallPhone$House", "minutesTillFree", "()I"⟩) := ⟨hp_m3 (List.mem_of_getElem? (i := 123) (by decide +kernel)), rfl⟩
theorem kv_X2_minutesTillFree : hp_Kv yX2_minutesTillFree cX2_minutesTillFree 2 (some .int) 0 := ⟨wd_3_123, ⟨hp_sel (n := 10) (by decide +kernel), rfl⟩, wd_1_2, wd_3_124, ⟨by decide, by decide, by decide +kernel⟩, by decide⟩
theorem wd_3_128 : hp_ok (Cond.code ⟨"HallPhone", "bestLimit", "()I"⟩ prog_1_method_21_code 6 (some .int)) := ⟨hp_m3 (List.mem_of_getElem? (i := 128) (by decide +kernel)), rfl⟩
theorem wd_3_127 : hp_ok (Cond.selects "HallPhone" ⟨"HallPhone", "bestLimit", "()I"⟩ ⟨"HallPhone", "bestLimit", "()I"⟩) := ⟨hp_m3 (List.mem_of_getElem? (i := 127) (by decide +kernel)), rfl⟩
theorem wd_3_126 : hp_ok (Cond.instanceMethod ⟨"HallPhone", "bestLimit", "()I"⟩) := ⟨hp_m3 (List.mem_of_getElem? (i := 126) (by decide +kernel)), rfl⟩
theorem kv_X8_bestLimit : hp_Kv yX8_bestLimit cX8_bestLimit 6 (some .int) 0 := ⟨wd_3_126, wd_3_127, wd_1_1, wd_3_128, ⟨by decide, by decide, by decide +kernel⟩, by decide⟩
theorem wd_3_134 : hp_ok (Cond.code ⟨"HallPhone$House", "minutesTillAllSpoke", "(II)I"⟩ prog_4_method_34_code 5 (some .int)) := ⟨hp_m3 (List.mem_of_getElem? (i := 134) (by decide +kernel)), rfl⟩
theorem wd_3_133 : hp_ok (Cond.instanceMethod ⟨"HallPhone$House", "minutesTillAllSpoke", "(II)I"⟩) := ⟨hp_m3 (List.mem_of_getElem? (i := 133) (by decide +kernel)), rfl⟩
theorem kv_X2_minutesTillAllSpoke : hp_Kv yX2_minutesTillAllSpoke cX2_minutesTillAllSpoke 5 (some .int) 2 := ⟨wd_3_133, ⟨hp_sel (n := 10) (by decide +kernel), rfl⟩, wd_1_2, wd_3_134, ⟨by decide, by decide, by decide +kernel⟩, by decide⟩
theorem wd_3_138 : hp_ok (Cond.code ⟨"HallPhone", "meanCall", "()D"⟩ prog_1_method_25_code 2 (some .double)) := ⟨hp_m3 (List.mem_of_getElem? (i := 138) (by decide +kernel)), rfl⟩
theorem wd_3_137 : hp_ok (Cond.selects "HallPhone" ⟨"HallPhone", "meanCall", "()D"⟩ ⟨"HallPhone", "meanCall", "()D"⟩) := ⟨hp_m3 (List.mem_of_getElem? (i := 137) (by decide +kernel)), rfl⟩
theorem wd_3_136 : hp_ok (Cond.instanceMethod ⟨"HallPhone", "meanCall", "()D"⟩) := ⟨hp_m3 (List.mem_of_getElem? (i := 136) (by decide +kernel)), rfl⟩
theorem kv_X8_meanCall : hp_Kv yX8_meanCall cX8_meanCall 2 (some .double) 0 := ⟨wd_3_136, wd_3_137, wd_1_1, wd_3_138, ⟨by decide, by decide, by decide +kernel⟩, by decide⟩
theorem wd_3_142 : hp_ok (Cond.code ⟨"HallPhone$House", "accountNumber", "(I)I"⟩ prog_4_method_13_code 2 (some .int)) := ⟨hp_m3 (List.mem_of_getElem? (i := 142) (by decide +kernel)), rfl⟩
theorem wd_3_141 : hp_ok (Cond.instanceMethod ⟨"HallPhone$House", "accountNumber", "(I)I"⟩) := ⟨hp_m3 (List.mem_of_getElem? (i := 141) (by decide +kernel)), rfl⟩
theorem kv_X2_accountNumber : hp_Kv yX2_accountNumber cX2_accountNumber 2 (some .int) 1 := ⟨wd_3_141, ⟨hp_sel (n := 10) (by decide +kernel), rfl⟩, wd_1_2, wd_3_142, ⟨by decide, by decide, by decide +kernel⟩, by decide⟩
theorem wd_3_146 : hp_ok (Cond.code ⟨"HallPhone$House", "debtOfAll", "()I"⟩ prog_4_method_14_code 3 (some .int)) := ⟨hp_m3 (List.mem_of_getElem? (i := 146) (by decide +kernel)), rfl⟩
theorem wd_3_145 : hp_ok (Cond.instanceMethod ⟨"HallPhone$House", "debtOfAll", "()I"⟩) := ⟨hp_m3 (List.mem_of_getElem? (i := 145) (by decide +kernel)), rfl⟩
theorem kv_X2_debtOfAll : hp_Kv yX2_debtOfAll cX2_debtOfAll 3 (some .int) 0 := ⟨wd_3_145, ⟨hp_sel (n := 10) (by decide +kernel), rfl⟩, wd_1_2, wd_3_146, ⟨by decide, by decide, by decide +kernel⟩, by decide⟩
theorem wd_3_150 : hp_ok (Cond.code ⟨"HallPhone", "busyShare", "()F"⟩ prog_1_method_26_code 2 (some .float)) := ⟨hp_m3 (List.mem_of_getElem? (i := 150) (by decide +kernel)), rfl⟩
theorem wd_3_149 : hp_ok (Cond.selects "HallPhone" ⟨"HallPhone", "busyShare", "()F"⟩ ⟨"HallPhone", "busyShare", "()F"⟩) := ⟨hp_m3 (List.mem_of_getElem? (i := 149) (by decide +kernel)), rfl⟩
theorem wd_3_148 : hp_ok (Cond.instanceMethod ⟨"HallPhone", "busyShare", "()F"⟩) := ⟨hp_m3 (List.mem_of_getElem? (i := 148) (by decide +kernel)), rfl⟩
theorem kv_X8_busyShare : hp_Kv yX8_busyShare cX8_busyShare 2 (some .float) 0 := ⟨wd_3_148, wd_3_149, wd_1_1, wd_3_150, ⟨by decide, by decide, by decide +kernel⟩, by decide⟩
theorem wd_3_154 : hp_ok (Cond.code ⟨"HallPhone", "writeHouse", "()I"⟩ prog_1_method_27_code 2 (some .int)) := ⟨hp_m3 (List.mem_of_getElem? (i := 154) (by decide +kernel)), rfl⟩
theorem wd_3_153 : hp_ok (Cond.selects "HallPhone" ⟨"HallPhone", "writeHouse", "()I"⟩ ⟨"HallPhone", "writeHouse", "()I"⟩) := ⟨hp_m3 (List.mem_of_getElem? (i := 153) (by decide +kernel)), rfl⟩
theorem wd_3_152 : hp_ok (Cond.instanceMethod ⟨"HallPhone", "writeHouse", "()I"⟩) := ⟨hp_m3 (List.mem_of_getElem? (i := 152) (by decide +kernel)), rfl⟩
theorem kv_X8_writeHouse : hp_Kv yX8_writeHouse cX8_writeHouse 2 (some .int) 0 := ⟨wd_3_152, wd_3_153, wd_1_1, wd_3_154, ⟨by decide, by decide, by decide +kernel⟩, by decide⟩
theorem wd_5_10 : hp_ok (Cond.code ⟨"HallPhone", "writeState", "(I)V"⟩ prog_1_method_50_code 2 none) := ⟨hp_m5 (List.mem_of_getElem? (i := 10) (by decide +kernel)), rfl⟩
theorem wd_5_9 : hp_ok (Cond.instanceMethod ⟨"HallPhone", "writeState", "(I)V"⟩) := ⟨hp_m5 (List.mem_of_getElem? (i := 9) (by decide +kernel)), rfl⟩
theorem kv_X8_writeState : hp_Kv yX8_writeState cX8_writeState 2 none 1 := ⟨wd_5_9, ⟨hp_sel (n := 10) (by decide +kernel), rfl⟩, wd_1_1, wd_5_10, ⟨by decide, by decide, by decide +kernel⟩, by decide⟩
theorem wd_5_15 : hp_ok (Cond.code ⟨"HallPhone$Queue", "placeOf", "(I)I"⟩ prog_6_method_3_code 3 (some .int)) := ⟨hp_m5 (List.mem_of_getElem? (i := 15) (by decide +kernel)), rfl⟩
theorem wd_5_14 : hp_ok (Cond.instanceMethod ⟨"HallPhone$Queue", "placeOf", "(I)I"⟩) := ⟨hp_m5 (List.mem_of_getElem? (i := 14) (by decide +kernel)), rfl⟩
theorem kv_X4_placeOf : hp_Kv yX4_placeOf cX4_placeOf 3 (some .int) 1 := ⟨wd_5_14, ⟨hp_sel (n := 2) (by decide +kernel), rfl⟩, wd_1_4, wd_5_15, ⟨by decide, by decide, by decide +kernel⟩, by decide⟩
theorem wd_5_20 : hp_ok (Cond.code ⟨"HallPhone", "writeSlate", "()I"⟩ prog_1_method_28_code 2 (some .int)) := ⟨hp_m5 (List.mem_of_getElem? (i := 20) (by decide +kernel)), rfl⟩
theorem wd_5_19 : hp_ok (Cond.selects "HallPhone" ⟨"HallPhone", "writeSlate", "()I"⟩ ⟨"HallPhone", "writeSlate", "()I"⟩) := ⟨hp_m5 (List.mem_of_getElem? (i := 19) (by decide +kernel)), rfl⟩
theorem wd_5_18 : hp_ok (Cond.instanceMethod ⟨"HallPhone", "writeSlate", "()I"⟩) := ⟨hp_m5 (List.mem_of_getElem? (i := 18) (by decide +kernel)), rfl⟩
theorem kv_X8_writeSlate : hp_Kv yX8_writeSlate cX8_writeSlate 2 (some .int) 0 := ⟨wd_5_18, wd_5_19, wd_1_1, wd_5_20, ⟨by decide, by decide, by decide +kernel⟩, by decide⟩
theorem wd_5_24 : hp_ok (Cond.code ⟨"HallPhone$Slate", "flatAt", "(I)I"⟩ prog_8_method_2_code 2 (some .int)) := ⟨hp_m5 (List.mem_of_getElem? (i := 24) (by decide +kernel)), rfl⟩
theorem wd_5_23 : hp_ok (Cond.instanceMethod ⟨"HallPhone$Slate", "flatAt", "(I)I"⟩) := ⟨hp_m5 (List.mem_of_getElem? (i := 23) (by decide +kernel)), rfl⟩
theorem kv_X6_flatAt : hp_Kv yX6_flatAt cX6_flatAt 2 (some .int) 1 := ⟨wd_5_23, ⟨hp_sel (n := 3) (by decide +kernel), rfl⟩, wd_1_5, wd_5_24, ⟨by decide, by decide, by decide +kernel⟩, by decide⟩
theorem wd_5_28 : hp_ok (Cond.code ⟨"HallPhone$Slate", "minuteAt", "(I)I"⟩ prog_8_method_3_code 2 (some .int)) := ⟨hp_m5 (List.mem_of_getElem? (i := 28) (by decide +kernel)), rfl⟩
theorem wd_5_27 : hp_ok (Cond.instanceMethod ⟨"HallPhone$Slate", "minuteAt", "(I)I"⟩) := ⟨hp_m5 (List.mem_of_getElem? (i := 27) (by decide +kernel)), rfl⟩
theorem kv_X6_minuteAt : hp_Kv yX6_minuteAt cX6_minuteAt 2 (some .int) 1 := ⟨wd_5_27, ⟨hp_sel (n := 3) (by decide +kernel), rfl⟩, wd_1_5, wd_5_28, ⟨by decide, by decide, by decide +kernel⟩, by decide⟩
theorem wd_5_32 : hp_ok (Cond.code ⟨"HallPhone", "reportAt", "(I)C"⟩ prog_1_method_29_code 2 (some .char)) := ⟨hp_m5 (List.mem_of_getElem? (i := 32) (by decide +kernel)), rfl⟩
theorem wd_5_31 : hp_ok (Cond.selects "HallPhone" ⟨"HallPhone", "reportAt", "(I)C"⟩ ⟨"HallPhone", "reportAt", "(I)C"⟩) := ⟨hp_m5 (List.mem_of_getElem? (i := 31) (by decide +kernel)), rfl⟩
theorem wd_5_30 : hp_ok (Cond.instanceMethod ⟨"HallPhone", "reportAt", "(I)C"⟩) := ⟨hp_m5 (List.mem_of_getElem? (i := 30) (by decide +kernel)), rfl⟩
theorem kv_X8_reportAt : hp_Kv yX8_reportAt cX8_reportAt 2 (some .char) 1 := ⟨wd_5_30, wd_5_31, wd_1_1, wd_5_32, ⟨by decide, by decide, by decide +kernel⟩, by decide⟩
theorem wd_5_46 : hp_ok (Cond.code ⟨"HallPhone", "undo", "()I"⟩ prog_1_method_38_code 1 (some .int)) := ⟨hp_m5 (List.mem_of_getElem? (i := 46) (by decide +kernel)), rfl⟩
theorem wd_5_45 : hp_ok (Cond.selects "HallPhone" ⟨"HallPhone", "undo", "()I"⟩ ⟨"HallPhone", "undo", "()I"⟩) := ⟨hp_m5 (List.mem_of_getElem? (i := 45) (by decide +kernel)), rfl⟩
theorem wd_5_44 : hp_ok (Cond.instanceMethod ⟨"HallPhone", "undo", "()I"⟩) := ⟨hp_m5 (List.mem_of_getElem? (i := 44) (by decide +kernel)), rfl⟩
theorem kv_X8_undo : hp_Kv yX8_undo cX8_undo 1 (some .int) 0 := ⟨wd_5_44, wd_5_45, wd_1_1, wd_5_46, ⟨by decide, by decide, by decide +kernel⟩, by decide⟩
theorem wd_5_50 : hp_ok (Cond.code ⟨"HallPhone$History", "takeBack", "(LHallPhone$House;)Z"⟩ prog_3_method_3_code 3 (some .boolean)) := ⟨hp_m5 (List.mem_of_getElem? (i := 50) (by decide +kernel)), rfl⟩
theorem wd_5_49 : hp_ok (Cond.instanceMethod ⟨"HallPhone$History", "takeBack", "(LHallPhone$House;)Z"⟩) := ⟨hp_m5 (List.mem_of_getElem? (i := 49) (by decide +kernel)), rfl⟩
theorem kv_X1_takeBack : hp_Kv yX1_takeBack cX1_takeBack 3 (some .boolean) 1 := ⟨wd_5_49, ⟨hp_sel (n := 3) (by decide +kernel), rfl⟩, wd_1_6, wd_5_50, ⟨by decide, by decide, by decide +kernel⟩, by decide⟩
theorem wd_5_55 : hp_ok (Cond.code ⟨"HallPhone", "checksum", "()J"⟩ prog_1_method_41_code 4 (some .long)) := ⟨hp_m5 (List.mem_of_getElem? (i := 55) (by decide +kernel)), rfl⟩
theorem wd_5_54 : hp_ok (Cond.selects "HallPhone" ⟨"HallPhone", "checksum", "()J"⟩ ⟨"HallPhone", "checksum", "()J"⟩) := ⟨hp_m5 (List.mem_of_getElem? (i := 54) (by decide +kernel)), rfl⟩
theorem wd_5_53 : hp_ok (Cond.instanceMethod ⟨"HallPhone", "checksum", "()J"⟩) := ⟨hp_m5 (List.mem_of_getElem? (i := 53) (by decide +kernel)), rfl⟩
theorem kv_X8_checksum : hp_Kv yX8_checksum cX8_checksum 4 (some .long) 0 := ⟨wd_5_53, wd_5_54, wd_1_1, wd_5_55, ⟨by decide, by decide, by decide +kernel⟩, by decide⟩
theorem wd_5_60 : hp_ok (Cond.code ⟨"HallPhone$House", "houseNumber", "(I)I"⟩ prog_4_method_11_code 2 (some .int)) := ⟨hp_m5 (List.mem_of_getElem? (i := 60) (by decide +kernel)), rfl⟩
theorem wd_5_59 : hp_ok (Cond.instanceMethod ⟨"HallPhone$House", "houseNumber", "(I)I"⟩) := ⟨hp_m5 (List.mem_of_getElem? (i := 59) (by decide +kernel)), rfl⟩
theorem kv_X2_houseNumber : hp_Kv yX2_houseNumber cX2_houseNumber 2 (some .int) 1 := ⟨wd_5_59, ⟨hp_sel (n := 10) (by decide +kernel), rfl⟩, wd_1_2, wd_5_60, ⟨by decide, by decide, by decide +kernel⟩, by decide⟩
theorem wd_5_66 : hp_ok (Cond.code ⟨"HallPhone", "checksumWithFlat", "(JI)J"⟩ prog_1_method_51_code 7 (some .long)) := ⟨hp_m5 (List.mem_of_getElem? (i := 66) (by decide +kernel)), rfl⟩
theorem wd_5_65 : hp_ok (Cond.instanceMethod ⟨"HallPhone", "checksumWithFlat", "(JI)J"⟩) := ⟨hp_m5 (List.mem_of_getElem? (i := 65) (by decide +kernel)), rfl⟩
theorem kv_X8_checksumWithFlat : hp_Kv yX8_checksumWithFlat cX8_checksumWithFlat 7 (some .long) 2 := ⟨wd_5_65, ⟨hp_sel (n := 10) (by decide +kernel), rfl⟩, wd_1_1, wd_5_66, ⟨by decide, by decide, by decide +kernel⟩, by decide⟩
theorem wd_5_70 : hp_ok (Cond.code ⟨"HallPhone$House", "flatNumber", "(II)I"⟩ prog_4_method_12_code 3 (some .int)) := ⟨hp_m5 (List.mem_of_getElem? (i := 70) (by decide +kernel)), rfl⟩
theorem wd_5_69 : hp_ok (Cond.instanceMethod ⟨"HallPhone$House", "flatNumber", "(II)I"⟩) := ⟨hp_m5 (List.mem_of_getElem? (i := 69) (by decide +kernel)), rfl⟩
theorem kv_X2_flatNumber : hp_Kv yX2_flatNumber cX2_flatNumber 3 (some .int) 2 := ⟨wd_5_69, ⟨hp_sel (n := 10) (by decide +kernel), rfl⟩, wd_1_2, wd_5_70, ⟨by decide, by decide, by decide +kernel⟩, by decide⟩
theorem wd_5_75 : hp_ok (Cond.code ⟨"HallPhone$Slate", "countFor", "(I)I"⟩ prog_8_method_4_code 4 (some .int)) := ⟨hp_m5 (List.mem_of_getElem? (i := 75) (by decide +kernel)), rfl⟩
theorem wd_5_74 : hp_ok (Cond.instanceMethod ⟨"HallPhone$Slate", "countFor", "(I)I"⟩) := ⟨hp_m5 (List.mem_of_getElem? (i := 74) (by decide +kernel)), rfl⟩
theorem kv_X6_countFor : hp_Kv yX6_countFor cX6_countFor 4 (some .int) 1 := ⟨wd_5_74, ⟨hp_sel (n := 3) (by decide +kernel), rfl⟩, wd_1_5, wd_5_75, ⟨by decide, by decide, by decide +kernel⟩, by decide⟩
theorem wd_5_85 : hp_ok (Cond.code ⟨"HallPhone", "parse", "(I)I"⟩ prog_1_method_3_code 2 (some .int)) := ⟨hp_m5 (List.mem_of_getElem? (i := 85) (by decide +kernel)), rfl⟩
theorem wd_5_84 : hp_ok (Cond.selects "HallPhone" ⟨"HallPhone", "parse", "(I)I"⟩ ⟨"HallPhone", "parse", "(I)I"⟩) := ⟨hp_m5 (List.mem_of_getElem? (i := 84) (by decide +kernel)), rfl⟩
theorem wd_5_83 : hp_ok (Cond.instanceMethod ⟨"HallPhone", "parse", "(I)I"⟩) := ⟨hp_m5 (List.mem_of_getElem? (i := 83) (by decide +kernel)), rfl⟩
theorem kv_X8_parse : hp_Kv yX8_parse cX8_parse 2 (some .int) 1 := ⟨wd_5_83, wd_5_84, wd_1_1, wd_5_85, ⟨by decide, by decide, by decide +kernel⟩, by decide⟩
theorem wd_5_88 : hp_ok (Cond.code ⟨"HallPhone", "checkRange", "(III)V"⟩ prog_1_method_43_code 3 none) := ⟨hp_m5 (List.mem_of_getElem? (i := 88) (by decide +kernel)), rfl⟩
theorem wd_5_87 : hp_ok (Cond.static ⟨"HallPhone", "checkRange", "(III)V"⟩) := ⟨hp_m5 (List.mem_of_getElem? (i := 87) (by decide +kernel)), rfl⟩
theorem ks_X8_checkRange : hp_Ks yX8_checkRange cX8_checkRange 3 none 3 := ⟨wd_5_87, wd_1_1, wd_5_88, ⟨by decide, by decide, by decide +kernel⟩, by decide⟩
theorem wd_5_95 : hp_ok (Cond.code ⟨"HallPhone$Reader", "takeBytes", "([II)V"⟩ prog_7_method_2_code 3 none) := ⟨hp_m5 (List.mem_of_getElem? (i := 95) (by decide +kernel)), rfl⟩
theorem wd_5_94 : hp_ok (Cond.instanceMethod ⟨"HallPhone$Reader", "takeBytes", "([II)V"⟩) := ⟨hp_m5 (List.mem_of_getElem? (i := 94) (by decide +kernel)), rfl⟩
theorem kv_X5_takeBytes : hp_Kv yX5_takeBytes cX5_takeBytes 3 none 2 := ⟨wd_5_94, ⟨hp_sel (n := 10) (by decide +kernel), rfl⟩, wd_1_7, wd_5_95, ⟨by decide, by decide, by decide +kernel⟩, by decide⟩
theorem wd_5_103 : hp_ok (Cond.code ⟨"HallPhone", "load", "(I)I"⟩ prog_1_method_4_code 2 (some .int)) := ⟨hp_m5 (List.mem_of_getElem? (i := 103) (by decide +kernel)), rfl⟩
theorem wd_5_102 : hp_ok (Cond.selects "HallPhone" ⟨"HallPhone", "load", "(I)I"⟩ ⟨"HallPhone", "load", "(I)I"⟩) := ⟨hp_m5 (List.mem_of_getElem? (i := 102) (by decide +kernel)), rfl⟩
theorem wd_5_101 : hp_ok (Cond.instanceMethod ⟨"HallPhone", "load", "(I)I"⟩) := ⟨hp_m5 (List.mem_of_getElem? (i := 101) (by decide +kernel)), rfl⟩
theorem kv_X8_load : hp_Kv yX8_load cX8_load 2 (some .int) 1 := ⟨wd_5_101, wd_5_102, wd_1_1, wd_5_103, ⟨by decide, by decide, by decide +kernel⟩, by decide⟩
theorem wd_5_112 : hp_ok (Cond.code ⟨"HallPhone", "size", "(I)I"⟩ prog_1_method_5_code 2 (some .int)) := ⟨hp_m5 (List.mem_of_getElem? (i := 112) (by decide +kernel)), rfl⟩
theorem wd_5_111 : hp_ok (Cond.selects "HallPhone" ⟨"HallPhone", "size", "(I)I"⟩ ⟨"HallPhone", "size", "(I)I"⟩) := ⟨hp_m5 (List.mem_of_getElem? (i := 111) (by decide +kernel)), rfl⟩
theorem wd_5_110 : hp_ok (Cond.instanceMethod ⟨"HallPhone", "size", "(I)I"⟩) := ⟨hp_m5 (List.mem_of_getElem? (i := 110) (by decide +kernel)), rfl⟩
theorem kv_X8_size : hp_Kv yX8_size cX8_size 2 (some .int) 1 := ⟨wd_5_110, wd_5_111, wd_1_1, wd_5_112, ⟨by decide, by decide, by decide +kernel⟩, by decide⟩
theorem wd_5_119 : hp_ok (Cond.code ⟨"HallPhone", "setting", "(I)I"⟩ prog_1_method_6_code 2 (some .int)) := ⟨hp_m5 (List.mem_of_getElem? (i := 119) (by decide +kernel)), rfl⟩
theorem wd_5_118 : hp_ok (Cond.selects "HallPhone" ⟨"HallPhone", "setting", "(I)I"⟩ ⟨"HallPhone", "setting", "(I)I"⟩) := ⟨hp_m5 (List.mem_of_getElem? (i := 118) (by decide +kernel)), rfl⟩
theorem wd_5_117 : hp_ok (Cond.instanceMethod ⟨"HallPhone", "setting", "(I)I"⟩) := ⟨hp_m5 (List.mem_of_getElem? (i := 117) (by decide +kernel)), rfl⟩
theorem kv_X8_setting : hp_Kv yX8_setting cX8_setting 2 (some .int) 1 := ⟨wd_5_117, wd_5_118, wd_1_1, wd_5_119, ⟨by decide, by decide, by decide +kernel⟩, by decide⟩
theorem wd_5_127 : hp_ok (Cond.code ⟨"HallPhone", "flat", "(II)I"⟩ prog_1_method_7_code 3 (some .int)) := ⟨hp_m5 (List.mem_of_getElem? (i := 127) (by decide +kernel)), rfl⟩
theorem wd_5_126 : hp_ok (Cond.selects "HallPhone" ⟨"HallPhone", "flat", "(II)I"⟩ ⟨"HallPhone", "flat", "(II)I"⟩) := ⟨hp_m5 (List.mem_of_getElem? (i := 126) (by decide +kernel)), rfl⟩
theorem wd_5_125 : hp_ok (Cond.instanceMethod ⟨"HallPhone", "flat", "(II)I"⟩) := ⟨hp_m5 (List.mem_of_getElem? (i := 125) (by decide +kernel)), rfl⟩
theorem kv_X8_flat : hp_Kv yX8_flat cX8_flat 3 (some .int) 2 := ⟨wd_5_125, wd_5_126, wd_1_1, wd_5_127, ⟨by decide, by decide, by decide +kernel⟩, by decide⟩
theorem wd_5_131 : hp_ok (Cond.code ⟨"HallPhone", "checkFlat", "(I)V"⟩ prog_1_method_42_code 2 none) := ⟨hp_m5 (List.mem_of_getElem? (i := 131) (by decide +kernel)), rfl⟩
theorem wd_5_130 : hp_ok (Cond.instanceMethod ⟨"HallPhone", "checkFlat", "(I)V"⟩) := ⟨hp_m5 (List.mem_of_getElem? (i := 130) (by decide +kernel)), rfl⟩
theorem kv_X8_checkFlat : hp_Kv yX8_checkFlat cX8_checkFlat 2 none 1 := ⟨wd_5_130, ⟨hp_sel (n := 10) (by decide +kernel), rfl⟩, wd_1_1, wd_5_131, ⟨by decide, by decide, by decide +kernel⟩, by decide⟩
theorem wd_5_152 : hp_ok (Cond.code ⟨"HallPhone", "message", "(II)I"⟩ prog_1_method_9_code 3 (some .int)) := ⟨hp_m5 (List.mem_of_getElem? (i := 152) (by decide +kernel)), rfl⟩
theorem wd_5_151 : hp_ok (Cond.selects "HallPhone" ⟨"HallPhone", "message", "(II)I"⟩ ⟨"HallPhone", "message", "(II)I"⟩) := ⟨hp_m5 (List.mem_of_getElem? (i := 151) (by decide +kernel)), rfl⟩
theorem wd_5_150 : hp_ok (Cond.instanceMethod ⟨"HallPhone", "message", "(II)I"⟩) := ⟨hp_m5 (List.mem_of_getElem? (i := 150) (by decide +kernel)), rfl⟩
theorem kv_X8_message : hp_Kv yX8_message cX8_message 3 (some .int) 2 := ⟨wd_5_150, wd_5_151, wd_1_1, wd_5_152, ⟨by decide, by decide, by decide +kernel⟩, by decide⟩
theorem wd_5_175 : hp_ok (Cond.code ⟨"HallPhone", "heard", "(II)I"⟩ prog_1_method_10_code 3 (some .int)) := ⟨hp_m5 (List.mem_of_getElem? (i := 175) (by decide +kernel)), rfl⟩
theorem wd_5_174 : hp_ok (Cond.selects "HallPhone" ⟨"HallPhone", "heard", "(II)I"⟩ ⟨"HallPhone", "heard", "(II)I"⟩) := ⟨hp_m5 (List.mem_of_getElem? (i := 174) (by decide +kernel)), rfl⟩
theorem wd_5_173 : hp_ok (Cond.instanceMethod ⟨"HallPhone", "heard", "(II)I"⟩) := ⟨hp_m5 (List.mem_of_getElem? (i := 173) (by decide +kernel)), rfl⟩
theorem kv_X8_heard : hp_Kv yX8_heard cX8_heard 3 (some .int) 2 := ⟨wd_5_173, wd_5_174, wd_1_1, wd_5_175, ⟨by decide, by decide, by decide +kernel⟩, by decide⟩
theorem wd_5_182 : hp_ok (Cond.code ⟨"HallPhone", "knowing", "(I)I"⟩ prog_1_method_11_code 2 (some .int)) := ⟨hp_m5 (List.mem_of_getElem? (i := 182) (by decide +kernel)), rfl⟩
theorem wd_5_181 : hp_ok (Cond.selects "HallPhone" ⟨"HallPhone", "knowing", "(I)I"⟩ ⟨"HallPhone", "knowing", "(I)I"⟩) := ⟨hp_m5 (List.mem_of_getElem? (i := 181) (by decide +kernel)), rfl⟩
theorem wd_5_180 : hp_ok (Cond.instanceMethod ⟨"HallPhone", "knowing", "(I)I"⟩) := ⟨hp_m5 (List.mem_of_getElem? (i := 180) (by decide +kernel)), rfl⟩
theorem kv_X8_knowing : hp_Kv yX8_knowing cX8_knowing 2 (some .int) 1 := ⟨wd_5_180, wd_5_181, wd_1_1, wd_5_182, ⟨by decide, by decide, by decide +kernel⟩, by decide⟩
theorem wd_5_189 : hp_ok (Cond.code ⟨"HallPhone", "listening", "(I)I"⟩ prog_1_method_12_code 2 (some .int)) := ⟨hp_m5 (List.mem_of_getElem? (i := 189) (by decide +kernel)), rfl⟩
theorem wd_5_188 : hp_ok (Cond.selects "HallPhone" ⟨"HallPhone", "listening", "(I)I"⟩ ⟨"HallPhone", "listening", "(I)I"⟩) := ⟨hp_m5 (List.mem_of_getElem? (i := 188) (by decide +kernel)), rfl⟩
theorem wd_5_187 : hp_ok (Cond.instanceMethod ⟨"HallPhone", "listening", "(I)I"⟩) := ⟨hp_m5 (List.mem_of_getElem? (i := 187) (by decide +kernel)), rfl⟩
theorem kv_X8_listening : hp_Kv yX8_listening cX8_listening 2 (some .int) 1 := ⟨wd_5_187, wd_5_188, wd_1_1, wd_5_189, ⟨by decide, by decide, by decide +kernel⟩, by decide⟩
theorem wd_5_193 : hp_ok (Cond.code ⟨"HallPhone$House", "listenersOf", "(I)I"⟩ prog_4_method_17_code 4 (some .int)) := ⟨hp_m5 (List.mem_of_getElem? (i := 193) (by decide +kernel)), rfl⟩
theorem wd_5_192 : hp_ok (Cond.instanceMethod ⟨"HallPhone$House", "listenersOf", "(I)I"⟩) := ⟨hp_m5 (List.mem_of_getElem? (i := 192) (by decide +kernel)), rfl⟩
theorem kv_X2_listenersOf : hp_Kv yX2_listenersOf cX2_listenersOf 4 (some .int) 1 := ⟨wd_5_192, ⟨hp_sel (n := 10) (by decide +kernel), rfl⟩, wd_1_2, wd_5_193, ⟨by decide, by decide, by decide +kernel⟩, by decide⟩
theorem wd_5_200 : hp_ok (Cond.code ⟨"HallPhone", "cost", "(I)I"⟩ prog_1_method_14_code 2 (some .int)) := ⟨hp_m5 (List.mem_of_getElem? (i := 200) (by decide +kernel)), rfl⟩
theorem wd_5_199 : hp_ok (Cond.selects "HallPhone" ⟨"HallPhone", "cost", "(I)I"⟩ ⟨"HallPhone", "cost", "(I)I"⟩) := ⟨hp_m5 (List.mem_of_getElem? (i := 199) (by decide +kernel)), rfl⟩
theorem wd_5_198 : hp_ok (Cond.instanceMethod ⟨"HallPhone", "cost", "(I)I"⟩) := ⟨hp_m5 (List.mem_of_getElem? (i := 198) (by decide +kernel)), rfl⟩
theorem kv_X8_cost : hp_Kv yX8_cost cX8_cost 2 (some .int) 1 := ⟨wd_5_198, wd_5_199, wd_1_1, wd_5_200, ⟨by decide, by decide, by decide +kernel⟩, by decide⟩
theorem wd_5_208 : hp_ok (Cond.code ⟨"HallPhone", "why", "(II)I"⟩ prog_1_method_15_code 4 (some .int)) := ⟨hp_m5 (List.mem_of_getElem? (i := 208) (by decide +kernel)), rfl⟩
theorem wd_5_207 : hp_ok (Cond.selects "HallPhone" ⟨"HallPhone", "why", "(II)I"⟩ ⟨"HallPhone", "why", "(II)I"⟩) := ⟨hp_m5 (List.mem_of_getElem? (i := 207) (by decide +kernel)), rfl⟩
theorem wd_5_206 : hp_ok (Cond.instanceMethod ⟨"HallPhone", "why", "(II)I"⟩) := ⟨hp_m5 (List.mem_of_getElem? (i := 206) (by decide +kernel)), rfl⟩
theorem kv_X8_why : hp_Kv yX8_why cX8_why 4 (some .int) 2 := ⟨wd_5_206, wd_5_207, wd_1_1, wd_5_208, ⟨by decide, by decide, by decide +kernel⟩, by decide⟩
theorem wd_5_212 : hp_ok (Cond.code ⟨"HallPhone$House", "reasonOf", "(I)I"⟩ prog_4_method_21_code 2 (some .int)) := ⟨hp_m5 (List.mem_of_getElem? (i := 212) (by decide +kernel)), rfl⟩
theorem wd_5_211 : hp_ok (Cond.instanceMethod ⟨"HallPhone$House", "reasonOf", "(I)I"⟩) := ⟨hp_m5 (List.mem_of_getElem? (i := 211) (by decide +kernel)), rfl⟩
theorem kv_X2_reasonOf : hp_Kv yX2_reasonOf cX2_reasonOf 2 (some .int) 1 := ⟨wd_5_211, ⟨hp_sel (n := 10) (by decide +kernel), rfl⟩, wd_1_2, wd_5_212, ⟨by decide, by decide, by decide +kernel⟩, by decide⟩
theorem wd_5_216 : hp_ok (Cond.code ⟨"HallPhone$House", "causeOf", "(II)I"⟩ prog_4_method_22_code 3 (some .int)) := ⟨hp_m5 (List.mem_of_getElem? (i := 216) (by decide +kernel)), rfl⟩
theorem wd_5_215 : hp_ok (Cond.instanceMethod ⟨"HallPhone$House", "causeOf", "(II)I"⟩) := ⟨hp_m5 (List.mem_of_getElem? (i := 215) (by decide +kernel)), rfl⟩
theorem kv_X2_causeOf : hp_Kv yX2_causeOf cX2_causeOf 3 (some .int) 2 := ⟨wd_5_215, ⟨hp_sel (n := 10) (by decide +kernel), rfl⟩, wd_1_2, wd_5_216, ⟨by decide, by decide, by decide +kernel⟩, by decide⟩
theorem wd_5_223 : hp_ok (Cond.code ⟨"HallPhone", "speaksIn", "(I)I"⟩ prog_1_method_16_code 2 (some .int)) := ⟨hp_m5 (List.mem_of_getElem? (i := 223) (by decide +kernel)), rfl⟩
theorem wd_5_222 : hp_ok (Cond.selects "HallPhone" ⟨"HallPhone", "speaksIn", "(I)I"⟩ ⟨"HallPhone", "speaksIn", "(I)I"⟩) := ⟨hp_m5 (List.mem_of_getElem? (i := 222) (by decide +kernel)), rfl⟩
theorem wd_5_221 : hp_ok (Cond.instanceMethod ⟨"HallPhone", "speaksIn", "(I)I"⟩) := ⟨hp_m5 (List.mem_of_getElem? (i := 221) (by decide +kernel)), rfl⟩
theorem kv_X8_speaksIn : hp_Kv yX8_speaksIn cX8_speaksIn 2 (some .int) 1 := ⟨wd_5_221, wd_5_222, wd_1_1, wd_5_223, ⟨by decide, by decide, by decide +kernel⟩, by decide⟩
theorem wd_5_227 : hp_ok (Cond.code ⟨"HallPhone$House", "minutesTillSpeaking", "(I)I"⟩ prog_4_method_32_code 3 (some .int)) := ⟨hp_m5 (List.mem_of_getElem? (i := 227) (by decide +kernel)), rfl⟩
theorem wd_5_226 : hp_ok (Cond.instanceMethod ⟨"HallPhone$House", "minutesTillSpeaking", "(I)I"⟩) := ⟨hp_m5 (List.mem_of_getElem? (i := 226) (by decide +kernel)), rfl⟩
theorem kv_X2_minutesTillSpeaking : hp_Kv yX2_minutesTillSpeaking cX2_minutesTillSpeaking 3 (some .int) 1 := ⟨wd_5_226, ⟨hp_sel (n := 10) (by decide +kernel), rfl⟩, wd_1_2, wd_5_227, ⟨by decide, by decide, by decide +kernel⟩, by decide⟩
theorem wd_5_234 : hp_ok (Cond.code ⟨"HallPhone", "flatIn", "(II)I"⟩ prog_1_method_18_code 3 (some .int)) := ⟨hp_m5 (List.mem_of_getElem? (i := 234) (by decide +kernel)), rfl⟩
theorem wd_5_233 : hp_ok (Cond.selects "HallPhone" ⟨"HallPhone", "flatIn", "(II)I"⟩ ⟨"HallPhone", "flatIn", "(II)I"⟩) := ⟨hp_m5 (List.mem_of_getElem? (i := 233) (by decide +kernel)), rfl⟩
theorem wd_5_232 : hp_ok (Cond.instanceMethod ⟨"HallPhone", "flatIn", "(II)I"⟩) := ⟨hp_m5 (List.mem_of_getElem? (i := 232) (by decide +kernel)), rfl⟩
theorem kv_X8_flatIn : hp_Kv yX8_flatIn cX8_flatIn 3 (some .int) 2 := ⟨wd_5_232, wd_5_233, wd_1_1, wd_5_234, ⟨by decide, by decide, by decide +kernel⟩, by decide⟩
theorem wd_5_238 : hp_ok (Cond.code ⟨"HallPhone", "later", "(I)LHallPhone$House;"⟩ prog_1_method_48_code 2 (some (.object "HallPhone$House"))) := ⟨hp_m5 (List.mem_of_getElem? (i := 238) (by decide +kernel)), rfl⟩
theorem wd_5_237 : hp_ok (Cond.instanceMethod ⟨"HallPhone", "later", "(I)LHallPhone$House;"⟩) := ⟨hp_m5 (List.mem_of_getElem? (i := 237) (by decide +kernel)), rfl⟩
theorem kv_X8_later : hp_Kv yX8_later cX8_later 2 (some (.object "HallPhone$House")) 1 := ⟨wd_5_237, ⟨hp_sel (n := 10) (by decide +kernel), rfl⟩, wd_1_1, wd_5_238, ⟨by decide, by decide, by decide +kernel⟩, by decide⟩
theorem wd_6_6 : hp_ok (Cond.code ⟨"HallPhone", "debtIn", "(II)I"⟩ prog_1_method_19_code 3 (some .int)) := ⟨hp_m6 (List.mem_of_getElem? (i := 6) (by decide +kernel)), rfl⟩
theorem wd_6_5 : hp_ok (Cond.selects "HallPhone" ⟨"HallPhone", "debtIn", "(II)I"⟩ ⟨"HallPhone", "debtIn", "(II)I"⟩) := ⟨hp_m6 (List.mem_of_getElem? (i := 5) (by decide +kernel)), rfl⟩
theorem wd_6_4 : hp_ok (Cond.instanceMethod ⟨"HallPhone", "debtIn", "(II)I"⟩) := ⟨hp_m6 (List.mem_of_getElem? (i := 4) (by decide +kernel)), rfl⟩
theorem kv_X8_debtIn : hp_Kv yX8_debtIn cX8_debtIn 3 (some .int) 2 := ⟨wd_6_4, wd_6_5, wd_1_1, wd_6_6, ⟨by decide, by decide, by decide +kernel⟩, by decide⟩
theorem wd_6_13 : hp_ok (Cond.code ⟨"HallPhone", "waitIf", "(I)I"⟩ prog_1_method_20_code 2 (some .int)) := ⟨hp_m6 (List.mem_of_getElem? (i := 13) (by decide +kernel)), rfl⟩
theorem wd_6_12 : hp_ok (Cond.selects "HallPhone" ⟨"HallPhone", "waitIf", "(I)I"⟩ ⟨"HallPhone", "waitIf", "(I)I"⟩) := ⟨hp_m6 (List.mem_of_getElem? (i := 12) (by decide +kernel)), rfl⟩
theorem wd_6_11 : hp_ok (Cond.instanceMethod ⟨"HallPhone", "waitIf", "(I)I"⟩) := ⟨hp_m6 (List.mem_of_getElem? (i := 11) (by decide +kernel)), rfl⟩
theorem kv_X8_waitIf : hp_Kv yX8_waitIf cX8_waitIf 2 (some .int) 1 := ⟨wd_6_11, wd_6_12, wd_1_1, wd_6_13, ⟨by decide, by decide, by decide +kernel⟩, by decide⟩
theorem wd_6_22 : hp_ok (Cond.code ⟨"HallPhone", "learnsIn", "(II)I"⟩ prog_1_method_22_code 3 (some .int)) := ⟨hp_m6 (List.mem_of_getElem? (i := 22) (by decide +kernel)), rfl⟩
theorem wd_6_21 : hp_ok (Cond.selects "HallPhone" ⟨"HallPhone", "learnsIn", "(II)I"⟩ ⟨"HallPhone", "learnsIn", "(II)I"⟩) := ⟨hp_m6 (List.mem_of_getElem? (i := 21) (by decide +kernel)), rfl⟩
theorem wd_6_20 : hp_ok (Cond.instanceMethod ⟨"HallPhone", "learnsIn", "(II)I"⟩) := ⟨hp_m6 (List.mem_of_getElem? (i := 20) (by decide +kernel)), rfl⟩
theorem kv_X8_learnsIn : hp_Kv yX8_learnsIn cX8_learnsIn 3 (some .int) 2 := ⟨wd_6_20, wd_6_21, wd_1_1, wd_6_22, ⟨by decide, by decide, by decide +kernel⟩, by decide⟩
theorem wd_6_26 : hp_ok (Cond.code ⟨"HallPhone$House", "knownTo", "(I)I"⟩ prog_4_method_19_code 4 (some .int)) := ⟨hp_m6 (List.mem_of_getElem? (i := 26) (by decide +kernel)), rfl⟩
theorem wd_6_25 : hp_ok (Cond.instanceMethod ⟨"HallPhone$House", "knownTo", "(I)I"⟩) := ⟨hp_m6 (List.mem_of_getElem? (i := 25) (by decide +kernel)), rfl⟩
theorem kv_X2_knownTo : hp_Kv yX2_knownTo cX2_knownTo 4 (some .int) 1 := ⟨wd_6_25, ⟨hp_sel (n := 10) (by decide +kernel), rfl⟩, wd_1_2, wd_6_26, ⟨by decide, by decide, by decide +kernel⟩, by decide⟩
theorem wd_6_33 : hp_ok (Cond.code ⟨"HallPhone", "ifRung", "(I)I"⟩ prog_1_method_23_code 3 (some .int)) := ⟨hp_m6 (List.mem_of_getElem? (i := 33) (by decide +kernel)), rfl⟩
theorem wd_6_32 : hp_ok (Cond.selects "HallPhone" ⟨"HallPhone", "ifRung", "(I)I"⟩ ⟨"HallPhone", "ifRung", "(I)I"⟩) := ⟨hp_m6 (List.mem_of_getElem? (i := 32) (by decide +kernel)), rfl⟩
theorem wd_6_31 : hp_ok (Cond.instanceMethod ⟨"HallPhone", "ifRung", "(I)I"⟩) := ⟨hp_m6 (List.mem_of_getElem? (i := 31) (by decide +kernel)), rfl⟩
theorem kv_X8_ifRung : hp_Kv yX8_ifRung cX8_ifRung 3 (some .int) 1 := ⟨wd_6_31, wd_6_32, wd_1_1, wd_6_33, ⟨by decide, by decide, by decide +kernel⟩, by decide⟩
theorem wd_6_43 : hp_ok (Cond.code ⟨"HallPhone", "account", "(I)I"⟩ prog_1_method_24_code 2 (some .int)) := ⟨hp_m6 (List.mem_of_getElem? (i := 43) (by decide +kernel)), rfl⟩
theorem wd_6_42 : hp_ok (Cond.selects "HallPhone" ⟨"HallPhone", "account", "(I)I"⟩ ⟨"HallPhone", "account", "(I)I"⟩) := ⟨hp_m6 (List.mem_of_getElem? (i := 42) (by decide +kernel)), rfl⟩
theorem wd_6_41 : hp_ok (Cond.instanceMethod ⟨"HallPhone", "account", "(I)I"⟩) := ⟨hp_m6 (List.mem_of_getElem? (i := 41) (by decide +kernel)), rfl⟩
theorem kv_X8_account : hp_Kv yX8_account cX8_account 2 (some .int) 1 := ⟨wd_6_41, wd_6_42, wd_1_1, wd_6_43, ⟨by decide, by decide, by decide +kernel⟩, by decide⟩
theorem wd_6_50 : hp_ok (Cond.code ⟨"HallPhone", "want", "(II)I"⟩ prog_1_method_30_code 3 (some .int)) := ⟨hp_m6 (List.mem_of_getElem? (i := 50) (by decide +kernel)), rfl⟩
theorem wd_6_49 : hp_ok (Cond.selects "HallPhone" ⟨"HallPhone", "want", "(II)I"⟩ ⟨"HallPhone", "want", "(II)I"⟩) := ⟨hp_m6 (List.mem_of_getElem? (i := 49) (by decide +kernel)), rfl⟩
theorem wd_6_48 : hp_ok (Cond.instanceMethod ⟨"HallPhone", "want", "(II)I"⟩) := ⟨hp_m6 (List.mem_of_getElem? (i := 48) (by decide +kernel)), rfl⟩
theorem kv_X8_want : hp_Kv yX8_want cX8_want 3 (some .int) 2 := ⟨wd_6_48, wd_6_49, wd_1_1, wd_6_50, ⟨by decide, by decide, by decide +kernel⟩, by decide⟩
theorem wd_6_54 : hp_ok (Cond.code ⟨"HallPhone", "changeOfFlat", "(LHallPhone$Verb;II)I"⟩ prog_1_method_49_code 5 (some .int)) := ⟨hp_m6 (List.mem_of_getElem? (i := 54) (by decide +kernel)), rfl⟩
theorem wd_6_53 : hp_ok (Cond.instanceMethod ⟨"HallPhone", "changeOfFlat", "(LHallPhone$Verb;II)I"⟩) := ⟨hp_m6 (List.mem_of_getElem? (i := 53) (by decide +kernel)), rfl⟩
theorem kv_X8_changeOfFlat : hp_Kv yX8_changeOfFlat cX8_changeOfFlat 5 (some .int) 3 := ⟨wd_6_53, ⟨hp_sel (n := 10) (by decide +kernel), rfl⟩, wd_1_1, wd_6_54, ⟨by decide, by decide, by decide +kernel⟩, by decide⟩
theorem wd_6_58 : hp_ok (Cond.code ⟨"HallPhone$History", "keep", "(LHallPhone$House;)V"⟩ prog_3_method_2_code 2 none) := ⟨hp_m6 (List.mem_of_getElem? (i := 58) (by decide +kernel)), rfl⟩
theorem wd_6_57 : hp_ok (Cond.instanceMethod ⟨"HallPhone$History", "keep", "(LHallPhone$House;)V"⟩) := ⟨hp_m6 (List.mem_of_getElem? (i := 57) (by decide +kernel)), rfl⟩
theorem kv_X1_keep : hp_Kv yX1_keep cX1_keep 2 none 1 := ⟨wd_6_57, ⟨hp_sel (n := 3) (by decide +kernel), rfl⟩, wd_1_6, wd_6_58, ⟨by decide, by decide, by decide +kernel⟩, by decide⟩
theorem wd_6_66 : hp_ok (Cond.code ⟨"HallPhone", "drop", "(I)I"⟩ prog_1_method_31_code 2 (some .int)) := ⟨hp_m6 (List.mem_of_getElem? (i := 66) (by decide +kernel)), rfl⟩
theorem wd_6_65 : hp_ok (Cond.selects "HallPhone" ⟨"HallPhone", "drop", "(I)I"⟩ ⟨"HallPhone", "drop", "(I)I"⟩) := ⟨hp_m6 (List.mem_of_getElem? (i := 65) (by decide +kernel)), rfl⟩
theorem wd_6_64 : hp_ok (Cond.instanceMethod ⟨"HallPhone", "drop", "(I)I"⟩) := ⟨hp_m6 (List.mem_of_getElem? (i := 64) (by decide +kernel)), rfl⟩
theorem kv_X8_drop : hp_Kv yX8_drop cX8_drop 2 (some .int) 1 := ⟨wd_6_64, wd_6_65, wd_1_1, wd_6_66, ⟨by decide, by decide, by decide +kernel⟩, by decide⟩
theorem wd_6_75 : hp_ok (Cond.code ⟨"HallPhone", "hang", "(I)I"⟩ prog_1_method_32_code 2 (some .int)) := ⟨hp_m6 (List.mem_of_getElem? (i := 75) (by decide +kernel)), rfl⟩
theorem wd_6_74 : hp_ok (Cond.selects "HallPhone" ⟨"HallPhone", "hang", "(I)I"⟩ ⟨"HallPhone", "hang", "(I)I"⟩) := ⟨hp_m6 (List.mem_of_getElem? (i := 74) (by decide +kernel)), rfl⟩
theorem wd_6_73 : hp_ok (Cond.instanceMethod ⟨"HallPhone", "hang", "(I)I"⟩) := ⟨hp_m6 (List.mem_of_getElem? (i := 73) (by decide +kernel)), rfl⟩
theorem kv_X8_hang : hp_Kv yX8_hang cX8_hang 2 (some .int) 1 := ⟨wd_6_73, wd_6_74, wd_1_1, wd_6_75, ⟨by decide, by decide, by decide +kernel⟩, by decide⟩
theorem wd_6_84 : hp_ok (Cond.code ⟨"HallPhone", "ring", "(II)I"⟩ prog_1_method_33_code 3 (some .int)) := ⟨hp_m6 (List.mem_of_getElem? (i := 84) (by decide +kernel)), rfl⟩
theorem wd_6_83 : hp_ok (Cond.selects "HallPhone" ⟨"HallPhone", "ring", "(II)I"⟩ ⟨"HallPhone", "ring", "(II)I"⟩) := ⟨hp_m6 (List.mem_of_getElem? (i := 83) (by decide +kernel)), rfl⟩
theorem wd_6_82 : hp_ok (Cond.instanceMethod ⟨"HallPhone", "ring", "(II)I"⟩) := ⟨hp_m6 (List.mem_of_getElem? (i := 82) (by decide +kernel)), rfl⟩
theorem kv_X8_ring : hp_Kv yX8_ring cX8_ring 3 (some .int) 2 := ⟨wd_6_82, wd_6_83, wd_1_1, wd_6_84, ⟨by decide, by decide, by decide +kernel⟩, by decide⟩
theorem wd_6_91 : hp_ok (Cond.code ⟨"HallPhone", "pay", "(II)I"⟩ prog_1_method_34_code 3 (some .int)) := ⟨hp_m6 (List.mem_of_getElem? (i := 91) (by decide +kernel)), rfl⟩
theorem wd_6_90 : hp_ok (Cond.selects "HallPhone" ⟨"HallPhone", "pay", "(II)I"⟩ ⟨"HallPhone", "pay", "(II)I"⟩) := ⟨hp_m6 (List.mem_of_getElem? (i := 90) (by decide +kernel)), rfl⟩
theorem wd_6_89 : hp_ok (Cond.instanceMethod ⟨"HallPhone", "pay", "(II)I"⟩) := ⟨hp_m6 (List.mem_of_getElem? (i := 89) (by decide +kernel)), rfl⟩
theorem kv_X8_pay : hp_Kv yX8_pay cX8_pay 3 (some .int) 2 := ⟨wd_6_89, wd_6_90, wd_1_1, wd_6_91, ⟨by decide, by decide, by decide +kernel⟩, by decide⟩
theorem wd_6_100 : hp_ok (Cond.code ⟨"HallPhone", "setCurious", "(IZ)Z"⟩ prog_1_method_35_code 4 (some .boolean)) := ⟨hp_m6 (List.mem_of_getElem? (i := 100) (by decide +kernel)), rfl⟩
theorem wd_6_99 : hp_ok (Cond.selects "HallPhone" ⟨"HallPhone", "setCurious", "(IZ)Z"⟩ ⟨"HallPhone", "setCurious", "(IZ)Z"⟩) := ⟨hp_m6 (List.mem_of_getElem? (i := 99) (by decide +kernel)), rfl⟩
theorem wd_6_98 : hp_ok (Cond.instanceMethod ⟨"HallPhone", "setCurious", "(IZ)Z"⟩) := ⟨hp_m6 (List.mem_of_getElem? (i := 98) (by decide +kernel)), rfl⟩
theorem kv_X8_setCurious : hp_Kv yX8_setCurious cX8_setCurious 4 (some .boolean) 2 := ⟨wd_6_98, wd_6_99, wd_1_1, wd_6_100, ⟨by decide, by decide, by decide +kernel⟩, by decide⟩
theorem wd_6_108 : hp_ok (Cond.code ⟨"HallPhone", "set", "(II)I"⟩ prog_1_method_36_code 4 (some .int)) := ⟨hp_m6 (List.mem_of_getElem? (i := 108) (by decide +kernel)), rfl⟩
theorem wd_6_107 : hp_ok (Cond.selects "HallPhone" ⟨"HallPhone", "set", "(II)I"⟩ ⟨"HallPhone", "set", "(II)I"⟩) := ⟨hp_m6 (List.mem_of_getElem? (i := 107) (by decide +kernel)), rfl⟩
theorem wd_6_106 : hp_ok (Cond.instanceMethod ⟨"HallPhone", "set", "(II)I"⟩) := ⟨hp_m6 (List.mem_of_getElem? (i := 106) (by decide +kernel)), rfl⟩
theorem kv_X8_set : hp_Kv yX8_set cX8_set 4 (some .int) 2 := ⟨wd_6_106, wd_6_107, wd_1_1, wd_6_108, ⟨by decide, by decide, by decide +kernel⟩, by decide⟩
theorem wd_6_111 : hp_ok (Cond.code ⟨"HallPhone$Verb", "ofSetting", "(I)LHallPhone$Verb;"⟩ prog_9_method_5_code 5 (some (.object "HallPhone$Verb"))) := ⟨hp_m6 (List.mem_of_getElem? (i := 111) (by decide +kernel)), rfl⟩
theorem wd_6_110 : hp_ok (Cond.static ⟨"HallPhone$Verb", "ofSetting", "(I)LHallPhone$Verb;"⟩) := ⟨hp_m6 (List.mem_of_getElem? (i := 110) (by decide +kernel)), rfl⟩
theorem ks_X7_ofSetting : hp_Ks yX7_ofSetting cX7_ofSetting 5 (some (.object "HallPhone$Verb")) 1 := ⟨wd_6_110, wd_1_18, wd_6_111, ⟨by decide, by decide, by decide +kernel⟩, by decide⟩
theorem wd_6_120 : hp_ok (Cond.code ⟨"HallPhone", "pass", "(I)I"⟩ prog_1_method_37_code 2 (some .int)) := ⟨hp_m6 (List.mem_of_getElem? (i := 120) (by decide +kernel)), rfl⟩
theorem wd_6_119 : hp_ok (Cond.selects "HallPhone" ⟨"HallPhone", "pass", "(I)I"⟩ ⟨"HallPhone", "pass", "(I)I"⟩) := ⟨hp_m6 (List.mem_of_getElem? (i := 119) (by decide +kernel)), rfl⟩
theorem wd_6_118 : hp_ok (Cond.instanceMethod ⟨"HallPhone", "pass", "(I)I"⟩) := ⟨hp_m6 (List.mem_of_getElem? (i := 118) (by decide +kernel)), rfl⟩
theorem kv_X8_pass : hp_Kv yX8_pass cX8_pass 2 (some .int) 1 := ⟨wd_6_118, wd_6_119, wd_1_1, wd_6_120, ⟨by decide, by decide, by decide +kernel⟩, by decide⟩
theorem wd_6_129 : hp_ok (Cond.code ⟨"HallPhone", "saveSnapshot", "(I)Z"⟩ prog_1_method_39_code 3 (some .boolean)) := ⟨hp_m6 (List.mem_of_getElem? (i := 129) (by decide +kernel)), rfl⟩
theorem wd_6_128 : hp_ok (Cond.selects "HallPhone" ⟨"HallPhone", "saveSnapshot", "(I)Z"⟩ ⟨"HallPhone", "saveSnapshot", "(I)Z"⟩) := ⟨hp_m6 (List.mem_of_getElem? (i := 128) (by decide +kernel)), rfl⟩
theorem wd_6_127 : hp_ok (Cond.instanceMethod ⟨"HallPhone", "saveSnapshot", "(I)Z"⟩) := ⟨hp_m6 (List.mem_of_getElem? (i := 127) (by decide +kernel)), rfl⟩
theorem kv_X8_saveSnapshot : hp_Kv yX8_saveSnapshot cX8_saveSnapshot 3 (some .boolean) 1 := ⟨wd_6_127, wd_6_128, wd_1_1, wd_6_129, ⟨by decide, by decide, by decide +kernel⟩, by decide⟩
theorem wd_6_133 : hp_ok (Cond.code ⟨"HallPhone", "isSaved", "(I)Z"⟩ prog_1_method_46_code 2 (some .boolean)) := ⟨hp_m6 (List.mem_of_getElem? (i := 133) (by decide +kernel)), rfl⟩
theorem wd_6_132 : hp_ok (Cond.instanceMethod ⟨"HallPhone", "isSaved", "(I)Z"⟩) := ⟨hp_m6 (List.mem_of_getElem? (i := 132) (by decide +kernel)), rfl⟩
theorem kv_X8_isSaved : hp_Kv yX8_isSaved cX8_isSaved 2 (some .boolean) 1 := ⟨wd_6_132, ⟨hp_sel (n := 10) (by decide +kernel), rfl⟩, wd_1_1, wd_6_133, ⟨by decide, by decide, by decide +kernel⟩, by decide⟩
theorem wd_6_137 : hp_ok (Cond.code ⟨"HallPhone", "snapshotIn", "(I)LHallPhone$House;"⟩ prog_1_method_47_code 2 (some (.object "HallPhone$House"))) := ⟨hp_m6 (List.mem_of_getElem? (i := 137) (by decide +kernel)), rfl⟩
theorem wd_6_136 : hp_ok (Cond.instanceMethod ⟨"HallPhone", "snapshotIn", "(I)LHallPhone$House;"⟩) := ⟨hp_m6 (List.mem_of_getElem? (i := 136) (by decide +kernel)), rfl⟩
theorem kv_X8_snapshotIn : hp_Kv yX8_snapshotIn cX8_snapshotIn 2 (some (.object "HallPhone$House")) 1 := ⟨wd_6_136, ⟨hp_sel (n := 10) (by decide +kernel), rfl⟩, wd_1_1, wd_6_137, ⟨by decide, by decide, by decide +kernel⟩, by decide⟩
theorem wd_6_144 : hp_ok (Cond.code ⟨"HallPhone", "restoreSnapshot", "(I)I"⟩ prog_1_method_40_code 2 (some .int)) := ⟨hp_m6 (List.mem_of_getElem? (i := 144) (by decide +kernel)), rfl⟩
theorem wd_6_143 : hp_ok (Cond.selects "HallPhone" ⟨"HallPhone", "restoreSnapshot", "(I)I"⟩ ⟨"HallPhone", "restoreSnapshot", "(I)I"⟩) := ⟨hp_m6 (List.mem_of_getElem? (i := 143) (by decide +kernel)), rfl⟩
theorem wd_6_142 : hp_ok (Cond.instanceMethod ⟨"HallPhone", "restoreSnapshot", "(I)I"⟩) := ⟨hp_m6 (List.mem_of_getElem? (i := 142) (by decide +kernel)), rfl⟩
theorem kv_X8_restoreSnapshot : hp_Kv yX8_restoreSnapshot cX8_restoreSnapshot 2 (some .int) 1 := ⟨wd_6_142, wd_6_143, wd_1_1, wd_6_144, ⟨by decide, by decide, by decide +kernel⟩, by decide⟩
theorem wd_6_150 : hp_ok (Cond.code ⟨"HallPhoneModel", "<init>", "()V"⟩ prog_11_method_1_code 1 none) := ⟨hp_m6 (List.mem_of_getElem? (i := 150) (by decide +kernel)), rfl⟩
theorem wd_1_20 : hp_ok (Cond.initialized "HallPhoneModel") := ⟨hp_m1 (List.mem_of_getElem? (i := 20) (by decide +kernel)), rfl⟩
theorem wd_6_155 : hp_ok (Cond.code ⟨"HallPhoneModel", "lay", "(I)V"⟩ prog_11_method_37_code 2 none) := ⟨hp_m6 (List.mem_of_getElem? (i := 155) (by decide +kernel)), rfl⟩
theorem wd_6_154 : hp_ok (Cond.instanceMethod ⟨"HallPhoneModel", "lay", "(I)V"⟩) := ⟨hp_m6 (List.mem_of_getElem? (i := 154) (by decide +kernel)), rfl⟩
theorem kv_X9_lay : hp_Kv yX9_lay cX9_lay 2 none 1 := ⟨wd_6_154, ⟨hp_sel (n := 21) (by decide +kernel), rfl⟩, wd_1_20, wd_6_155, ⟨by decide, by decide, by decide +kernel⟩, by decide⟩
theorem wd_6_160 : hp_ok (Cond.code ⟨"HallPhoneModel", "tell", "(Ljava/lang/String;)V"⟩ prog_11_method_36_code 3 none) := ⟨hp_m6 (List.mem_of_getElem? (i := 160) (by decide +kernel)), rfl⟩
theorem wd_6_159 : hp_ok (Cond.instanceMethod ⟨"HallPhoneModel", "tell", "(Ljava/lang/String;)V"⟩) := ⟨hp_m6 (List.mem_of_getElem? (i := 159) (by decide +kernel)), rfl⟩
theorem kv_X9_tell : hp_Kv yX9_tell cX9_tell 3 none 1 := ⟨wd_6_159, ⟨hp_sel (n := 21) (by decide +kernel), rfl⟩, wd_1_20, wd_6_160, ⟨by decide, by decide, by decide +kernel⟩, by decide⟩
theorem wd_6_169 : hp_ok (Cond.code ⟨"HallPhoneModel", "parseAll", "()Z"⟩ prog_11_method_54_code 2 (some .boolean)) := ⟨hp_m6 (List.mem_of_getElem? (i := 169) (by decide +kernel)), rfl⟩
theorem wd_6_168 : hp_ok (Cond.instanceMethod ⟨"HallPhoneModel", "parseAll", "()Z"⟩) := ⟨hp_m6 (List.mem_of_getElem? (i := 168) (by decide +kernel)), rfl⟩
theorem kv_X9_parseAll : hp_Kv yX9_parseAll cX9_parseAll 2 (some .boolean) 0 := ⟨wd_6_168, ⟨hp_sel (n := 21) (by decide +kernel), rfl⟩, wd_1_20, wd_6_169, ⟨by decide, by decide, by decide +kernel⟩, by decide⟩
theorem wd_6_173 : hp_ok (Cond.code ⟨"HallPhoneModel", "next", "()V"⟩ prog_11_method_39_code 2 none) := ⟨hp_m6 (List.mem_of_getElem? (i := 173) (by decide +kernel)), rfl⟩
theorem wd_6_172 : hp_ok (Cond.instanceMethod ⟨"HallPhoneModel", "next", "()V"⟩) := ⟨hp_m6 (List.mem_of_getElem? (i := 172) (by decide +kernel)), rfl⟩
theorem kv_X9_next : hp_Kv yX9_next cX9_next 2 none 0 := ⟨wd_6_172, ⟨hp_sel (n := 21) (by decide +kernel), rfl⟩, wd_1_20, wd_6_173, ⟨by decide, by decide, by decide +kernel⟩, by decide⟩
theorem wd_6_176 : hp_ok (Cond.code ⟨"HallPhoneModel", "sortOf", "(I)I"⟩ prog_11_method_38_code 1 (some .int)) := ⟨hp_m6 (List.mem_of_getElem? (i := 176) (by decide +kernel)), rfl⟩
theorem wd_6_175 : hp_ok (Cond.static ⟨"HallPhoneModel", "sortOf", "(I)I"⟩) := ⟨hp_m6 (List.mem_of_getElem? (i := 175) (by decide +kernel)), rfl⟩
theorem ks_X9_sortOf : hp_Ks yX9_sortOf cX9_sortOf 1 (some .int) 1 := ⟨wd_6_175, wd_1_20, wd_6_176, ⟨by decide, by decide, by decide +kernel⟩, by decide⟩
theorem wd_6_180 : hp_ok (Cond.code ⟨"HallPhoneModel", "readsAll", "()Z"⟩ prog_11_method_53_code 2 (some .boolean)) := ⟨hp_m6 (List.mem_of_getElem? (i := 180) (by decide +kernel)), rfl⟩
theorem wd_6_179 : hp_ok (Cond.instanceMethod ⟨"HallPhoneModel", "readsAll", "()Z"⟩) := ⟨hp_m6 (List.mem_of_getElem? (i := 179) (by decide +kernel)), rfl⟩
theorem kv_X9_readsAll : hp_Kv yX9_readsAll cX9_readsAll 2 (some .boolean) 0 := ⟨wd_6_179, ⟨hp_sel (n := 21) (by decide +kernel), rfl⟩, wd_1_20, wd_6_180, ⟨by decide, by decide, by decide +kernel⟩, by decide⟩
theorem wd_6_184 : hp_ok (Cond.code ⟨"HallPhoneModel", "readsHouse", "()Z"⟩ prog_11_method_47_code 2 (some .boolean)) := ⟨hp_m6 (List.mem_of_getElem? (i := 184) (by decide +kernel)), rfl⟩
theorem wd_6_183 : hp_ok (Cond.instanceMethod ⟨"HallPhoneModel", "readsHouse", "()Z"⟩) := ⟨hp_m6 (List.mem_of_getElem? (i := 183) (by decide +kernel)), rfl⟩
theorem kv_X9_readsHouse : hp_Kv yX9_readsHouse cX9_readsHouse 2 (some .boolean) 0 := ⟨wd_6_183, ⟨hp_sel (n := 21) (by decide +kernel), rfl⟩, wd_1_20, wd_6_184, ⟨by decide, by decide, by decide +kernel⟩, by decide⟩
theorem wd_6_189 : hp_ok (Cond.code ⟨"HallPhoneModel", "says", "(Ljava/lang/String;)Z"⟩ prog_11_method_40_code 3 (some .boolean)) := ⟨hp_m6 (List.mem_of_getElem? (i := 189) (by decide +kernel)), rfl⟩
theorem wd_6_188 : hp_ok (Cond.instanceMethod ⟨"HallPhoneModel", "says", "(Ljava/lang/String;)Z"⟩) := ⟨hp_m6 (List.mem_of_getElem? (i := 188) (by decide +kernel)), rfl⟩
theorem kv_X9_says : hp_Kv yX9_says cX9_says 3 (some .boolean) 1 := ⟨wd_6_188, ⟨hp_sel (n := 21) (by decide +kernel), rfl⟩, wd_1_20, wd_6_189, ⟨by decide, by decide, by decide +kernel⟩, by decide⟩
theorem wd_6_193 : hp_ok (Cond.code ⟨"HallPhoneModel", "fail", "(I)Z"⟩ prog_11_method_41_code 2 (some .boolean)) := ⟨hp_m6 (List.mem_of_getElem? (i := 193) (by decide +kernel)), rfl⟩
theorem wd_6_192 : hp_ok (Cond.instanceMethod ⟨"HallPhoneModel", "fail", "(I)Z"⟩) := ⟨hp_m6 (List.mem_of_getElem? (i := 192) (by decide +kernel)), rfl⟩
theorem kv_X9_fail : hp_Kv yX9_fail cX9_fail 2 (some .boolean) 1 := ⟨wd_6_192, ⟨hp_sel (n := 21) (by decide +kernel), rfl⟩, wd_1_20, wd_6_193, ⟨by decide, by decide, by decide +kernel⟩, by decide⟩
theorem wd_6_197 : hp_ok (Cond.code ⟨"HallPhoneModel", "isNumber", "(II)Z"⟩ prog_11_method_42_code 3 (some .boolean)) := ⟨hp_m6 (List.mem_of_getElem? (i := 197) (by decide +kernel)), rfl⟩
theorem wd_6_196 : hp_ok (Cond.instanceMethod ⟨"HallPhoneModel", "isNumber", "(II)Z"⟩) := ⟨hp_m6 (List.mem_of_getElem? (i := 196) (by decide +kernel)), rfl⟩
theorem kv_X9_isNumber : hp_Kv yX9_isNumber cX9_isNumber 3 (some .boolean) 2 := ⟨wd_6_196, ⟨hp_sel (n := 21) (by decide +kernel), rfl⟩, wd_1_20, wd_6_197, ⟨by decide, by decide, by decide +kernel⟩, by decide⟩
theorem wd_6_200 : hp_ok (Cond.code ⟨"HallPhoneModel", "in", "(III)Z"⟩ prog_11_method_3_code 3 (some .boolean)) := ⟨hp_m6 (List.mem_of_getElem? (i := 200) (by decide +kernel)), rfl⟩
theorem wd_6_199 : hp_ok (Cond.static ⟨"HallPhoneModel", "in", "(III)Z"⟩) := ⟨hp_m6 (List.mem_of_getElem? (i := 199) (by decide +kernel)), rfl⟩
theorem ks_X9_in : hp_Ks yX9_in cX9_in 3 (some .boolean) 3 := ⟨wd_6_199, wd_1_20, wd_6_200, ⟨by decide, by decide, by decide +kernel⟩, by decide⟩
theorem wd_6_204 : hp_ok (Cond.code ⟨"HallPhoneModel", "to", "(III)V"⟩ prog_11_method_8_code 4 none) := ⟨hp_m6 (List.mem_of_getElem? (i := 204) (by decide +kernel)), rfl⟩
theorem wd_6_203 : hp_ok (Cond.instanceMethod ⟨"HallPhoneModel", "to", "(III)V"⟩) := ⟨hp_m6 (List.mem_of_getElem? (i := 203) (by decide +kernel)), rfl⟩
theorem kv_X9_to : hp_Kv yX9_to cX9_to 4 none 3 := ⟨wd_6_203, ⟨hp_sel (n := 21) (by decide +kernel), rfl⟩, wd_1_20, wd_6_204, ⟨by decide, by decide, by decide +kernel⟩, by decide⟩
theorem wd_6_209 : hp_ok (Cond.code ⟨"HallPhoneModel", "readsStatement", "()Z"⟩ prog_11_method_52_code 2 (some .boolean)) := ⟨hp_m6 (List.mem_of_getElem? (i := 209) (by decide +kernel)), rfl⟩
theorem wd_6_208 : hp_ok (Cond.instanceMethod ⟨"HallPhoneModel", "readsStatement", "()Z"⟩) := ⟨hp_m6 (List.mem_of_getElem? (i := 208) (by decide +kernel)), rfl⟩
theorem kv_X9_readsStatement : hp_Kv yX9_readsStatement cX9_readsStatement 2 (some .boolean) 0 := ⟨wd_6_208, ⟨hp_sel (n := 21) (by decide +kernel), rfl⟩, wd_1_20, wd_6_209, ⟨by decide, by decide, by decide +kernel⟩, by decide⟩
theorem wd_6_213 : hp_ok (Cond.code ⟨"HallPhoneModel", "settingAhead", "()I"⟩ prog_11_method_50_code 1 (some .int)) := ⟨hp_m6 (List.mem_of_getElem? (i := 213) (by decide +kernel)), rfl⟩
theorem wd_6_212 : hp_ok (Cond.instanceMethod ⟨"HallPhoneModel", "settingAhead", "()I"⟩) := ⟨hp_m6 (List.mem_of_getElem? (i := 212) (by decide +kernel)), rfl⟩
theorem kv_X9_settingAhead : hp_Kv yX9_settingAhead cX9_settingAhead 1 (some .int) 0 := ⟨wd_6_212, ⟨hp_sel (n := 21) (by decide +kernel), rfl⟩, wd_1_20, wd_6_213, ⟨by decide, by decide, by decide +kernel⟩, by decide⟩
theorem wd_6_223 : hp_ok (Cond.code ⟨"HallPhoneModel", "readsSetting", "(I)Z"⟩ prog_11_method_51_code 2 (some .boolean)) := ⟨hp_m6 (List.mem_of_getElem? (i := 223) (by decide +kernel)), rfl⟩
theorem wd_6_222 : hp_ok (Cond.instanceMethod ⟨"HallPhoneModel", "readsSetting", "(I)Z"⟩) := ⟨hp_m6 (List.mem_of_getElem? (i := 222) (by decide +kernel)), rfl⟩
theorem kv_X9_readsSetting : hp_Kv yX9_readsSetting cX9_readsSetting 2 (some .boolean) 1 := ⟨wd_6_222, ⟨hp_sel (n := 21) (by decide +kernel), rfl⟩, wd_1_20, wd_6_223, ⟨by decide, by decide, by decide +kernel⟩, by decide⟩
theorem wd_6_226 : hp_ok (Cond.code ⟨"HallPhoneModel", "leastOf", "(I)I"⟩ prog_11_method_48_code 1 (some .int)) := ⟨hp_m6 (List.mem_of_getElem? (i := 226) (by decide +kernel)), rfl⟩
theorem wd_6_225 : hp_ok (Cond.static ⟨"HallPhoneModel", "leastOf", "(I)I"⟩) := ⟨hp_m6 (List.mem_of_getElem? (i := 225) (by decide +kernel)), rfl⟩
theorem ks_X9_leastOf : hp_Ks yX9_leastOf cX9_leastOf 1 (some .int) 1 := ⟨wd_6_225, wd_1_20, wd_6_226, ⟨by decide, by decide, by decide +kernel⟩, by decide⟩
theorem wd_6_229 : hp_ok (Cond.code ⟨"HallPhoneModel", "mostOf", "(I)I"⟩ prog_11_method_49_code 1 (some .int)) := ⟨hp_m6 (List.mem_of_getElem? (i := 229) (by decide +kernel)), rfl⟩
theorem wd_6_228 : hp_ok (Cond.static ⟨"HallPhoneModel", "mostOf", "(I)I"⟩) := ⟨hp_m6 (List.mem_of_getElem? (i := 228) (by decide +kernel)), rfl⟩
theorem ks_X9_mostOf : hp_Ks yX9_mostOf cX9_mostOf 1 (some .int) 1 := ⟨wd_6_228, wd_1_20, wd_6_229, ⟨by decide, by decide, by decide +kernel⟩, by decide⟩
theorem wd_6_233 : hp_ok (Cond.code ⟨"HallPhoneModel", "number", "(III)Z"⟩ prog_11_method_43_code 4 (some .boolean)) := ⟨hp_m6 (List.mem_of_getElem? (i := 233) (by decide +kernel)), rfl⟩
theorem wd_6_232 : hp_ok (Cond.instanceMethod ⟨"HallPhoneModel", "number", "(III)Z"⟩) := ⟨hp_m6 (List.mem_of_getElem? (i := 232) (by decide +kernel)), rfl⟩
theorem kv_X9_number : hp_Kv yX9_number cX9_number 4 (some .boolean) 3 := ⟨wd_6_232, ⟨hp_sel (n := 21) (by decide +kernel), rfl⟩, wd_1_20, wd_6_233, ⟨by decide, by decide, by decide +kernel⟩, by decide⟩
theorem wd_6_238 : hp_ok (Cond.code ⟨"HallPhoneModel", "flatAt", "()Z"⟩ prog_11_method_44_code 1 (some .boolean)) := ⟨hp_m6 (List.mem_of_getElem? (i := 238) (by decide +kernel)), rfl⟩
theorem wd_6_237 : hp_ok (Cond.instanceMethod ⟨"HallPhoneModel", "flatAt", "()Z"⟩) := ⟨hp_m6 (List.mem_of_getElem? (i := 237) (by decide +kernel)), rfl⟩
theorem kv_X9_flatAt : hp_Kv yX9_flatAt cX9_flatAt 1 (some .boolean) 0 := ⟨wd_6_237, ⟨hp_sel (n := 21) (by decide +kernel), rfl⟩, wd_1_20, wd_6_238, ⟨by decide, by decide, by decide +kernel⟩, by decide⟩
theorem wd_7_2 : hp_ok (Cond.code ⟨"HallPhoneModel", "isSemicolon", "()Z"⟩ prog_11_method_45_code 1 (some .boolean)) := ⟨hp_m7 (List.mem_of_getElem? (i := 2) (by decide +kernel)), rfl⟩
theorem wd_7_1 : hp_ok (Cond.instanceMethod ⟨"HallPhoneModel", "isSemicolon", "()Z"⟩) := ⟨hp_m7 (List.mem_of_getElem? (i := 1) (by decide +kernel)), rfl⟩
theorem kv_X9_isSemicolon : hp_Kv yX9_isSemicolon cX9_isSemicolon 1 (some .boolean) 0 := ⟨wd_7_1, ⟨hp_sel (n := 21) (by decide +kernel), rfl⟩, wd_1_20, wd_7_2, ⟨by decide, by decide, by decide +kernel⟩, by decide⟩
theorem wd_7_6 : hp_ok (Cond.code ⟨"HallPhoneModel", "wants", "(II)I"⟩ prog_11_method_28_code 3 (some .int)) := ⟨hp_m7 (List.mem_of_getElem? (i := 6) (by decide +kernel)), rfl⟩
theorem wd_7_5 : hp_ok (Cond.instanceMethod ⟨"HallPhoneModel", "wants", "(II)I"⟩) := ⟨hp_m7 (List.mem_of_getElem? (i := 5) (by decide +kernel)), rfl⟩
theorem kv_X9_wants : hp_Kv yX9_wants cX9_wants 3 (some .int) 2 := ⟨wd_7_5, ⟨hp_sel (n := 21) (by decide +kernel), rfl⟩, wd_1_20, wd_7_6, ⟨by decide, by decide, by decide +kernel⟩, by decide⟩
theorem wd_7_10 : hp_ok (Cond.code ⟨"HallPhoneModel", "of", "(II)I"⟩ prog_11_method_7_code 3 (some .int)) := ⟨hp_m7 (List.mem_of_getElem? (i := 10) (by decide +kernel)), rfl⟩
theorem wd_7_9 : hp_ok (Cond.instanceMethod ⟨"HallPhoneModel", "of", "(II)I"⟩) := ⟨hp_m7 (List.mem_of_getElem? (i := 9) (by decide +kernel)), rfl⟩
theorem kv_X9_of : hp_Kv yX9_of cX9_of 3 (some .int) 2 := ⟨wd_7_9, ⟨hp_sel (n := 21) (by decide +kernel), rfl⟩, wd_1_20, wd_7_10, ⟨by decide, by decide, by decide +kernel⟩, by decide⟩
theorem wd_7_14 : hp_ok (Cond.code ⟨"HallPhoneModel", "isDone", "(I)Z"⟩ prog_11_method_46_code 2 (some .boolean)) := ⟨hp_m7 (List.mem_of_getElem? (i := 14) (by decide +kernel)), rfl⟩
theorem wd_7_13 : hp_ok (Cond.instanceMethod ⟨"HallPhoneModel", "isDone", "(I)Z"⟩) := ⟨hp_m7 (List.mem_of_getElem? (i := 13) (by decide +kernel)), rfl⟩
theorem kv_X9_isDone : hp_Kv yX9_isDone cX9_isDone 2 (some .boolean) 1 := ⟨wd_7_13, ⟨hp_sel (n := 21) (by decide +kernel), rfl⟩, wd_1_20, wd_7_14, ⟨by decide, by decide, by decide +kernel⟩, by decide⟩
theorem wd_7_19 : hp_ok (Cond.code ⟨"HallPhoneModel", "gives", "(I)I"⟩ prog_11_method_29_code 4 (some .int)) := ⟨hp_m7 (List.mem_of_getElem? (i := 19) (by decide +kernel)), rfl⟩
theorem wd_7_18 : hp_ok (Cond.instanceMethod ⟨"HallPhoneModel", "gives", "(I)I"⟩) := ⟨hp_m7 (List.mem_of_getElem? (i := 18) (by decide +kernel)), rfl⟩
theorem kv_X9_gives : hp_Kv yX9_gives cX9_gives 4 (some .int) 1 := ⟨wd_7_18, ⟨hp_sel (n := 21) (by decide +kernel), rfl⟩, wd_1_20, wd_7_19, ⟨by decide, by decide, by decide +kernel⟩, by decide⟩
theorem wd_7_23 : hp_ok (Cond.code ⟨"HallPhoneModel", "isCalled", "(I)Z"⟩ prog_11_method_13_code 2 (some .boolean)) := ⟨hp_m7 (List.mem_of_getElem? (i := 23) (by decide +kernel)), rfl⟩
theorem wd_7_22 : hp_ok (Cond.instanceMethod ⟨"HallPhoneModel", "isCalled", "(I)Z"⟩) := ⟨hp_m7 (List.mem_of_getElem? (i := 22) (by decide +kernel)), rfl⟩
theorem kv_X9_isCalled : hp_Kv yX9_isCalled cX9_isCalled 2 (some .boolean) 1 := ⟨wd_7_22, ⟨hp_sel (n := 21) (by decide +kernel), rfl⟩, wd_1_20, wd_7_23, ⟨by decide, by decide, by decide +kernel⟩, by decide⟩
theorem wd_7_27 : hp_ok (Cond.code ⟨"HallPhoneModel", "leavesQueue", "(I)V"⟩ prog_11_method_15_code 4 none) := ⟨hp_m7 (List.mem_of_getElem? (i := 27) (by decide +kernel)), rfl⟩
theorem wd_7_26 : hp_ok (Cond.instanceMethod ⟨"HallPhoneModel", "leavesQueue", "(I)V"⟩) := ⟨hp_m7 (List.mem_of_getElem? (i := 26) (by decide +kernel)), rfl⟩
theorem kv_X9_leavesQueue : hp_Kv yX9_leavesQueue cX9_leavesQueue 4 none 1 := ⟨wd_7_26, ⟨hp_sel (n := 21) (by decide +kernel), rfl⟩, wd_1_20, wd_7_27, ⟨by decide, by decide, by decide +kernel⟩, by decide⟩
theorem wd_7_31 : hp_ok (Cond.code ⟨"HallPhoneModel", "placeOf", "(I)I"⟩ prog_11_method_14_code 3 (some .int)) := ⟨hp_m7 (List.mem_of_getElem? (i := 31) (by decide +kernel)), rfl⟩
theorem wd_7_30 : hp_ok (Cond.instanceMethod ⟨"HallPhoneModel", "placeOf", "(I)I"⟩) := ⟨hp_m7 (List.mem_of_getElem? (i := 30) (by decide +kernel)), rfl⟩
theorem kv_X9_placeOf : hp_Kv yX9_placeOf cX9_placeOf 3 (some .int) 1 := ⟨wd_7_30, ⟨hp_sel (n := 21) (by decide +kernel), rfl⟩, wd_1_20, wd_7_31, ⟨by decide, by decide, by decide +kernel⟩, by decide⟩
theorem wd_7_36 : hp_ok (Cond.code ⟨"HallPhoneModel", "hangs", "(I)I"⟩ prog_11_method_30_code 3 (some .int)) := ⟨hp_m7 (List.mem_of_getElem? (i := 36) (by decide +kernel)), rfl⟩
theorem wd_7_35 : hp_ok (Cond.instanceMethod ⟨"HallPhoneModel", "hangs", "(I)I"⟩) := ⟨hp_m7 (List.mem_of_getElem? (i := 35) (by decide +kernel)), rfl⟩
theorem kv_X9_hangs : hp_Kv yX9_hangs cX9_hangs 3 (some .int) 1 := ⟨wd_7_35, ⟨hp_sel (n := 21) (by decide +kernel), rfl⟩, wd_1_20, wd_7_36, ⟨by decide, by decide, by decide +kernel⟩, by decide⟩
theorem wd_7_40 : hp_ok (Cond.code ⟨"HallPhoneModel", "ends", "()V"⟩ prog_11_method_23_code 3 none) := ⟨hp_m7 (List.mem_of_getElem? (i := 40) (by decide +kernel)), rfl⟩
theorem wd_7_39 : hp_ok (Cond.instanceMethod ⟨"HallPhoneModel", "ends", "()V"⟩) := ⟨hp_m7 (List.mem_of_getElem? (i := 39) (by decide +kernel)), rfl⟩
theorem kv_X9_ends : hp_Kv yX9_ends cX9_ends 3 none 0 := ⟨wd_7_39, ⟨hp_sel (n := 21) (by decide +kernel), rfl⟩, wd_1_20, wd_7_40, ⟨by decide, by decide, by decide +kernel⟩, by decide⟩
theorem wd_7_44 : hp_ok (Cond.code ⟨"HallPhoneModel", "costOf", "(I)I"⟩ prog_11_method_18_code 2 (some .int)) := ⟨hp_m7 (List.mem_of_getElem? (i := 44) (by decide +kernel)), rfl⟩
theorem wd_7_43 : hp_ok (Cond.instanceMethod ⟨"HallPhoneModel", "costOf", "(I)I"⟩) := ⟨hp_m7 (List.mem_of_getElem? (i := 43) (by decide +kernel)), rfl⟩
theorem kv_X9_costOf : hp_Kv yX9_costOf cX9_costOf 2 (some .int) 1 := ⟨wd_7_43, ⟨hp_sel (n := 21) (by decide +kernel), rfl⟩, wd_1_20, wd_7_44, ⟨by decide, by decide, by decide +kernel⟩, by decide⟩
theorem wd_7_48 : hp_ok (Cond.code ⟨"HallPhoneModel", "adds", "(III)V"⟩ prog_11_method_9_code 4 none) := ⟨hp_m7 (List.mem_of_getElem? (i := 48) (by decide +kernel)), rfl⟩
theorem wd_7_47 : hp_ok (Cond.instanceMethod ⟨"HallPhoneModel", "adds", "(III)V"⟩) := ⟨hp_m7 (List.mem_of_getElem? (i := 47) (by decide +kernel)), rfl⟩
theorem kv_X9_adds : hp_Kv yX9_adds cX9_adds 4 none 3 := ⟨wd_7_47, ⟨hp_sel (n := 21) (by decide +kernel), rfl⟩, wd_1_20, wd_7_48, ⟨by decide, by decide, by decide +kernel⟩, by decide⟩
theorem wd_7_52 : hp_ok (Cond.code ⟨"HallPhoneModel", "counts", "(II)V"⟩ prog_11_method_10_code 3 none) := ⟨hp_m7 (List.mem_of_getElem? (i := 52) (by decide +kernel)), rfl⟩
theorem wd_7_51 : hp_ok (Cond.instanceMethod ⟨"HallPhoneModel", "counts", "(II)V"⟩) := ⟨hp_m7 (List.mem_of_getElem? (i := 51) (by decide +kernel)), rfl⟩
theorem kv_X9_counts : hp_Kv yX9_counts cX9_counts 3 none 2 := ⟨wd_7_51, ⟨hp_sel (n := 21) (by decide +kernel), rfl⟩, wd_1_20, wd_7_52, ⟨by decide, by decide, by decide +kernel⟩, by decide⟩
theorem wd_7_56 : hp_ok (Cond.code ⟨"HallPhoneModel", "lies", "()V"⟩ prog_11_method_22_code 1 none) := ⟨hp_m7 (List.mem_of_getElem? (i := 56) (by decide +kernel)), rfl⟩
theorem wd_7_55 : hp_ok (Cond.instanceMethod ⟨"HallPhoneModel", "lies", "()V"⟩) := ⟨hp_m7 (List.mem_of_getElem? (i := 55) (by decide +kernel)), rfl⟩
theorem kv_X9_lies : hp_Kv yX9_lies cX9_lies 1 none 0 := ⟨wd_7_55, ⟨hp_sel (n := 21) (by decide +kernel), rfl⟩, wd_1_20, wd_7_56, ⟨by decide, by decide, by decide +kernel⟩, by decide⟩
theorem wd_7_61 : hp_ok (Cond.code ⟨"HallPhoneModel", "rings", "(II)I"⟩ prog_11_method_32_code 4 (some .int)) := ⟨hp_m7 (List.mem_of_getElem? (i := 61) (by decide +kernel)), rfl⟩
theorem wd_7_60 : hp_ok (Cond.instanceMethod ⟨"HallPhoneModel", "rings", "(II)I"⟩) := ⟨hp_m7 (List.mem_of_getElem? (i := 60) (by decide +kernel)), rfl⟩
theorem kv_X9_rings : hp_Kv yX9_rings cX9_rings 4 (some .int) 2 := ⟨wd_7_60, ⟨hp_sel (n := 21) (by decide +kernel), rfl⟩, wd_1_20, wd_7_61, ⟨by decide, by decide, by decide +kernel⟩, by decide⟩
theorem wd_7_65 : hp_ok (Cond.code ⟨"HallPhoneModel", "outcome", "(I)I"⟩ prog_11_method_31_code 2 (some .int)) := ⟨hp_m7 (List.mem_of_getElem? (i := 65) (by decide +kernel)), rfl⟩
theorem wd_7_64 : hp_ok (Cond.instanceMethod ⟨"HallPhoneModel", "outcome", "(I)I"⟩) := ⟨hp_m7 (List.mem_of_getElem? (i := 64) (by decide +kernel)), rfl⟩
theorem kv_X9_outcome : hp_Kv yX9_outcome cX9_outcome 2 (some .int) 1 := ⟨wd_7_64, ⟨hp_sel (n := 21) (by decide +kernel), rfl⟩, wd_1_20, wd_7_65, ⟨by decide, by decide, by decide +kernel⟩, by decide⟩
theorem wd_7_69 : hp_ok (Cond.code ⟨"HallPhoneModel", "speaks", "(IIZ)V"⟩ prog_11_method_21_code 4 none) := ⟨hp_m7 (List.mem_of_getElem? (i := 69) (by decide +kernel)), rfl⟩
theorem wd_7_68 : hp_ok (Cond.instanceMethod ⟨"HallPhoneModel", "speaks", "(IIZ)V"⟩) := ⟨hp_m7 (List.mem_of_getElem? (i := 68) (by decide +kernel)), rfl⟩
theorem kv_X9_speaks : hp_Kv yX9_speaks cX9_speaks 4 none 3 := ⟨wd_7_68, ⟨hp_sel (n := 21) (by decide +kernel), rfl⟩, wd_1_20, wd_7_69, ⟨by decide, by decide, by decide +kernel⟩, by decide⟩
theorem wd_7_74 : hp_ok (Cond.code ⟨"HallPhoneModel", "pays", "(II)I"⟩ prog_11_method_33_code 3 (some .int)) := ⟨hp_m7 (List.mem_of_getElem? (i := 74) (by decide +kernel)), rfl⟩
theorem wd_7_73 : hp_ok (Cond.instanceMethod ⟨"HallPhoneModel", "pays", "(II)I"⟩) := ⟨hp_m7 (List.mem_of_getElem? (i := 73) (by decide +kernel)), rfl⟩
theorem kv_X9_pays : hp_Kv yX9_pays cX9_pays 3 (some .int) 2 := ⟨wd_7_73, ⟨hp_sel (n := 21) (by decide +kernel), rfl⟩, wd_1_20, wd_7_74, ⟨by decide, by decide, by decide +kernel⟩, by decide⟩
theorem wd_7_79 : hp_ok (Cond.code ⟨"HallPhoneModel", "minutes", "(I)I"⟩ prog_11_method_27_code 4 (some .int)) := ⟨hp_m7 (List.mem_of_getElem? (i := 79) (by decide +kernel)), rfl⟩
theorem wd_7_78 : hp_ok (Cond.instanceMethod ⟨"HallPhoneModel", "minutes", "(I)I"⟩) := ⟨hp_m7 (List.mem_of_getElem? (i := 78) (by decide +kernel)), rfl⟩
theorem kv_X9_minutes : hp_Kv yX9_minutes cX9_minutes 4 (some .int) 1 := ⟨wd_7_78, ⟨hp_sel (n := 21) (by decide +kernel), rfl⟩, wd_1_20, wd_7_79, ⟨by decide, by decide, by decide +kernel⟩, by decide⟩
theorem wd_7_83 : hp_ok (Cond.code ⟨"HallPhoneModel", "minute", "()V"⟩ prog_11_method_26_code 4 none) := ⟨hp_m7 (List.mem_of_getElem? (i := 83) (by decide +kernel)), rfl⟩
theorem wd_7_82 : hp_ok (Cond.instanceMethod ⟨"HallPhoneModel", "minute", "()V"⟩) := ⟨hp_m7 (List.mem_of_getElem? (i := 82) (by decide +kernel)), rfl⟩
theorem kv_X9_minute : hp_Kv yX9_minute cX9_minute 4 none 0 := ⟨wd_7_82, ⟨hp_sel (n := 21) (by decide +kernel), rfl⟩, wd_1_20, wd_7_83, ⟨by decide, by decide, by decide +kernel⟩, by decide⟩
theorem wd_7_87 : hp_ok (Cond.code ⟨"HallPhoneModel", "talks", "()V"⟩ prog_11_method_24_code 3 none) := ⟨hp_m7 (List.mem_of_getElem? (i := 87) (by decide +kernel)), rfl⟩
theorem wd_7_86 : hp_ok (Cond.instanceMethod ⟨"HallPhoneModel", "talks", "()V"⟩) := ⟨hp_m7 (List.mem_of_getElem? (i := 86) (by decide +kernel)), rfl⟩
theorem kv_X9_talks : hp_Kv yX9_talks cX9_talks 3 none 0 := ⟨wd_7_86, ⟨hp_sel (n := 21) (by decide +kernel), rfl⟩, wd_1_20, wd_7_87, ⟨by decide, by decide, by decide +kernel⟩, by decide⟩
theorem wd_7_91 : hp_ok (Cond.code ⟨"HallPhoneModel", "hears", "(II)Z"⟩ prog_11_method_19_code 3 (some .boolean)) := ⟨hp_m7 (List.mem_of_getElem? (i := 91) (by decide +kernel)), rfl⟩
theorem wd_7_90 : hp_ok (Cond.instanceMethod ⟨"HallPhoneModel", "hears", "(II)Z"⟩) := ⟨hp_m7 (List.mem_of_getElem? (i := 90) (by decide +kernel)), rfl⟩
theorem kv_X9_hears : hp_Kv yX9_hears cX9_hears 3 (some .boolean) 2 := ⟨wd_7_90, ⟨hp_sel (n := 21) (by decide +kernel), rfl⟩, wd_1_20, wd_7_91, ⟨by decide, by decide, by decide +kernel⟩, by decide⟩
theorem wd_7_95 : hp_ok (Cond.code ⟨"HallPhoneModel", "arrives", "(I)V"⟩ prog_11_method_25_code 2 none) := ⟨hp_m7 (List.mem_of_getElem? (i := 95) (by decide +kernel)), rfl⟩
theorem wd_7_94 : hp_ok (Cond.instanceMethod ⟨"HallPhoneModel", "arrives", "(I)V"⟩) := ⟨hp_m7 (List.mem_of_getElem? (i := 94) (by decide +kernel)), rfl⟩
theorem kv_X9_arrives : hp_Kv yX9_arrives cX9_arrives 2 none 1 := ⟨wd_7_94, ⟨hp_sel (n := 21) (by decide +kernel), rfl⟩, wd_1_20, wd_7_95, ⟨by decide, by decide, by decide +kernel⟩, by decide⟩
theorem wd_7_99 : hp_ok (Cond.code ⟨"HallPhoneModel", "reads", "(I)V"⟩ prog_11_method_17_code 6 none) := ⟨hp_m7 (List.mem_of_getElem? (i := 99) (by decide +kernel)), rfl⟩
theorem wd_7_98 : hp_ok (Cond.instanceMethod ⟨"HallPhoneModel", "reads", "(I)V"⟩) := ⟨hp_m7 (List.mem_of_getElem? (i := 98) (by decide +kernel)), rfl⟩
theorem kv_X9_reads : hp_Kv yX9_reads cX9_reads 6 none 1 := ⟨wd_7_98, ⟨hp_sel (n := 21) (by decide +kernel), rfl⟩, wd_1_20, wd_7_99, ⟨by decide, by decide, by decide +kernel⟩, by decide⟩
theorem wd_7_168 : hp_ok (Cond.code ⟨"HallPhoneModel", "thrown", "()I"⟩ prog_11_method_2_code 1 (some .int)) := ⟨hp_m7 (List.mem_of_getElem? (i := 168) (by decide +kernel)), rfl⟩
theorem wd_7_167 : hp_ok (Cond.selects "HallPhoneModel" ⟨"HallPhoneModel", "thrown", "()I"⟩ ⟨"HallPhoneModel", "thrown", "()I"⟩) := ⟨hp_m7 (List.mem_of_getElem? (i := 167) (by decide +kernel)), rfl⟩
theorem wd_7_166 : hp_ok (Cond.instanceMethod ⟨"HallPhoneModel", "thrown", "()I"⟩) := ⟨hp_m7 (List.mem_of_getElem? (i := 166) (by decide +kernel)), rfl⟩
theorem kv_X9_thrown : hp_Kv yX9_thrown cX9_thrown 1 (some .int) 0 := ⟨wd_7_166, wd_7_167, wd_1_20, wd_7_168, ⟨by decide, by decide, by decide +kernel⟩, by decide⟩
theorem wd_7_172 : hp_ok (Cond.code ⟨"HallPhoneModel", "append", "(IIIII)I"⟩ prog_11_method_55_code 6 (some .int)) := ⟨hp_m7 (List.mem_of_getElem? (i := 172) (by decide +kernel)), rfl⟩
theorem wd_7_171 : hp_ok (Cond.selects "HallPhoneModel" ⟨"HallPhoneModel", "append", "(IIIII)I"⟩ ⟨"HallPhoneModel", "append", "(IIIII)I"⟩) := ⟨hp_m7 (List.mem_of_getElem? (i := 171) (by decide +kernel)), rfl⟩
theorem wd_7_170 : hp_ok (Cond.instanceMethod ⟨"HallPhoneModel", "append", "(IIIII)I"⟩) := ⟨hp_m7 (List.mem_of_getElem? (i := 170) (by decide +kernel)), rfl⟩
theorem kv_X9_append : hp_Kv yX9_append cX9_append 6 (some .int) 5 := ⟨wd_7_170, wd_7_171, wd_1_20, wd_7_172, ⟨by decide, by decide, by decide +kernel⟩, by decide⟩
theorem wd_7_176 : hp_ok (Cond.code ⟨"HallPhoneModel", "type", "(I)V"⟩ prog_11_method_56_code 3 none) := ⟨hp_m7 (List.mem_of_getElem? (i := 176) (by decide +kernel)), rfl⟩
theorem wd_7_175 : hp_ok (Cond.instanceMethod ⟨"HallPhoneModel", "type", "(I)V"⟩) := ⟨hp_m7 (List.mem_of_getElem? (i := 175) (by decide +kernel)), rfl⟩
theorem kv_X9_type : hp_Kv yX9_type cX9_type 3 none 1 := ⟨wd_7_175, ⟨hp_sel (n := 21) (by decide +kernel), rfl⟩, wd_1_20, wd_7_176, ⟨by decide, by decide, by decide +kernel⟩, by decide⟩
theorem wd_7_180 : hp_ok (Cond.code ⟨"HallPhoneModel", "parse", "(I)I"⟩ prog_11_method_57_code 3 (some .int)) := ⟨hp_m7 (List.mem_of_getElem? (i := 180) (by decide +kernel)), rfl⟩
theorem wd_7_179 : hp_ok (Cond.selects "HallPhoneModel" ⟨"HallPhoneModel", "parse", "(I)I"⟩ ⟨"HallPhoneModel", "parse", "(I)I"⟩) := ⟨hp_m7 (List.mem_of_getElem? (i := 179) (by decide +kernel)), rfl⟩
theorem wd_7_178 : hp_ok (Cond.instanceMethod ⟨"HallPhoneModel", "parse", "(I)I"⟩) := ⟨hp_m7 (List.mem_of_getElem? (i := 178) (by decide +kernel)), rfl⟩
theorem kv_X9_parse : hp_Kv yX9_parse cX9_parse 3 (some .int) 1 := ⟨wd_7_178, wd_7_179, wd_1_20, wd_7_180, ⟨by decide, by decide, by decide +kernel⟩, by decide⟩
theorem wd_7_184 : hp_ok (Cond.code ⟨"HallPhoneModel", "throwsOne", "(Z)Z"⟩ prog_11_method_4_code 2 (some .boolean)) := ⟨hp_m7 (List.mem_of_getElem? (i := 184) (by decide +kernel)), rfl⟩
theorem wd_7_183 : hp_ok (Cond.instanceMethod ⟨"HallPhoneModel", "throwsOne", "(Z)Z"⟩) := ⟨hp_m7 (List.mem_of_getElem? (i := 183) (by decide +kernel)), rfl⟩
theorem kv_X9_throwsOne : hp_Kv yX9_throwsOne cX9_throwsOne 2 (some .boolean) 1 := ⟨wd_7_183, ⟨hp_sel (n := 21) (by decide +kernel), rfl⟩, wd_1_20, wd_7_184, ⟨by decide, by decide, by decide +kernel⟩, by decide⟩
theorem wd_7_188 : hp_ok (Cond.code ⟨"HallPhoneModel", "load", "(I)I"⟩ prog_11_method_58_code 2 (some .int)) := ⟨hp_m7 (List.mem_of_getElem? (i := 188) (by decide +kernel)), rfl⟩
theorem wd_7_187 : hp_ok (Cond.selects "HallPhoneModel" ⟨"HallPhoneModel", "load", "(I)I"⟩ ⟨"HallPhoneModel", "load", "(I)I"⟩) := ⟨hp_m7 (List.mem_of_getElem? (i := 187) (by decide +kernel)), rfl⟩
theorem wd_7_186 : hp_ok (Cond.instanceMethod ⟨"HallPhoneModel", "load", "(I)I"⟩) := ⟨hp_m7 (List.mem_of_getElem? (i := 186) (by decide +kernel)), rfl⟩
theorem kv_X9_load : hp_Kv yX9_load cX9_load 2 (some .int) 1 := ⟨wd_7_186, wd_7_187, wd_1_20, wd_7_188, ⟨by decide, by decide, by decide +kernel⟩, by decide⟩
theorem wd_7_192 : hp_ok (Cond.code ⟨"HallPhoneModel", "size", "(I)I"⟩ prog_11_method_60_code 2 (some .int)) := ⟨hp_m7 (List.mem_of_getElem? (i := 192) (by decide +kernel)), rfl⟩
theorem wd_7_191 : hp_ok (Cond.selects "HallPhoneModel" ⟨"HallPhoneModel", "size", "(I)I"⟩ ⟨"HallPhoneModel", "size", "(I)I"⟩) := ⟨hp_m7 (List.mem_of_getElem? (i := 191) (by decide +kernel)), rfl⟩
theorem wd_7_190 : hp_ok (Cond.instanceMethod ⟨"HallPhoneModel", "size", "(I)I"⟩) := ⟨hp_m7 (List.mem_of_getElem? (i := 190) (by decide +kernel)), rfl⟩
theorem kv_X9_size : hp_Kv yX9_size cX9_size 2 (some .int) 1 := ⟨wd_7_190, wd_7_191, wd_1_20, wd_7_192, ⟨by decide, by decide, by decide +kernel⟩, by decide⟩
theorem wd_7_196 : hp_ok (Cond.code ⟨"HallPhoneModel", "sizeOf", "(I)I"⟩ prog_11_method_59_code 2 (some .int)) := ⟨hp_m7 (List.mem_of_getElem? (i := 196) (by decide +kernel)), rfl⟩
theorem wd_7_195 : hp_ok (Cond.instanceMethod ⟨"HallPhoneModel", "sizeOf", "(I)I"⟩) := ⟨hp_m7 (List.mem_of_getElem? (i := 195) (by decide +kernel)), rfl⟩
theorem kv_X9_sizeOf : hp_Kv yX9_sizeOf cX9_sizeOf 2 (some .int) 1 := ⟨wd_7_195, ⟨hp_sel (n := 21) (by decide +kernel), rfl⟩, wd_1_20, wd_7_196, ⟨by decide, by decide, by decide +kernel⟩, by decide⟩
theorem wd_7_200 : hp_ok (Cond.code ⟨"HallPhoneModel", "manyWho", "(I)I"⟩ prog_11_method_12_code 4 (some .int)) := ⟨hp_m7 (List.mem_of_getElem? (i := 200) (by decide +kernel)), rfl⟩
theorem wd_7_199 : hp_ok (Cond.instanceMethod ⟨"HallPhoneModel", "manyWho", "(I)I"⟩) := ⟨hp_m7 (List.mem_of_getElem? (i := 199) (by decide +kernel)), rfl⟩
theorem kv_X9_manyWho : hp_Kv yX9_manyWho cX9_manyWho 4 (some .int) 1 := ⟨wd_7_199, ⟨hp_sel (n := 21) (by decide +kernel), rfl⟩, wd_1_20, wd_7_200, ⟨by decide, by decide, by decide +kernel⟩, by decide⟩
theorem wd_7_204 : hp_ok (Cond.code ⟨"HallPhoneModel", "debts", "()I"⟩ prog_11_method_20_code 3 (some .int)) := ⟨hp_m7 (List.mem_of_getElem? (i := 204) (by decide +kernel)), rfl⟩
theorem wd_7_203 : hp_ok (Cond.instanceMethod ⟨"HallPhoneModel", "debts", "()I"⟩) := ⟨hp_m7 (List.mem_of_getElem? (i := 203) (by decide +kernel)), rfl⟩
theorem kv_X9_debts : hp_Kv yX9_debts cX9_debts 3 (some .int) 0 := ⟨wd_7_203, ⟨hp_sel (n := 21) (by decide +kernel), rfl⟩, wd_1_20, wd_7_204, ⟨by decide, by decide, by decide +kernel⟩, by decide⟩
theorem wd_7_208 : hp_ok (Cond.code ⟨"HallPhoneModel", "setting", "(I)I"⟩ prog_11_method_61_code 2 (some .int)) := ⟨hp_m7 (List.mem_of_getElem? (i := 208) (by decide +kernel)), rfl⟩
theorem wd_7_207 : hp_ok (Cond.selects "HallPhoneModel" ⟨"HallPhoneModel", "setting", "(I)I"⟩ ⟨"HallPhoneModel", "setting", "(I)I"⟩) := ⟨hp_m7 (List.mem_of_getElem? (i := 207) (by decide +kernel)), rfl⟩
theorem wd_7_206 : hp_ok (Cond.instanceMethod ⟨"HallPhoneModel", "setting", "(I)I"⟩) := ⟨hp_m7 (List.mem_of_getElem? (i := 206) (by decide +kernel)), rfl⟩
theorem kv_X9_setting : hp_Kv yX9_setting cX9_setting 2 (some .int) 1 := ⟨wd_7_206, wd_7_207, wd_1_20, wd_7_208, ⟨by decide, by decide, by decide +kernel⟩, by decide⟩
theorem wd_7_212 : hp_ok (Cond.code ⟨"HallPhoneModel", "flat", "(II)I"⟩ prog_11_method_63_code 3 (some .int)) := ⟨hp_m7 (List.mem_of_getElem? (i := 212) (by decide +kernel)), rfl⟩
theorem wd_7_211 : hp_ok (Cond.selects "HallPhoneModel" ⟨"HallPhoneModel", "flat", "(II)I"⟩ ⟨"HallPhoneModel", "flat", "(II)I"⟩) := ⟨hp_m7 (List.mem_of_getElem? (i := 211) (by decide +kernel)), rfl⟩
theorem wd_7_210 : hp_ok (Cond.instanceMethod ⟨"HallPhoneModel", "flat", "(II)I"⟩) := ⟨hp_m7 (List.mem_of_getElem? (i := 210) (by decide +kernel)), rfl⟩
theorem kv_X9_flat : hp_Kv yX9_flat cX9_flat 3 (some .int) 2 := ⟨wd_7_210, wd_7_211, wd_1_20, wd_7_212, ⟨by decide, by decide, by decide +kernel⟩, by decide⟩
theorem wd_7_216 : hp_ok (Cond.code ⟨"HallPhoneModel", "isFlat", "(I)Z"⟩ prog_11_method_6_code 2 (some .boolean)) := ⟨hp_m7 (List.mem_of_getElem? (i := 216) (by decide +kernel)), rfl⟩
theorem wd_7_215 : hp_ok (Cond.instanceMethod ⟨"HallPhoneModel", "isFlat", "(I)Z"⟩) := ⟨hp_m7 (List.mem_of_getElem? (i := 215) (by decide +kernel)), rfl⟩
theorem kv_X9_isFlat : hp_Kv yX9_isFlat cX9_isFlat 2 (some .boolean) 1 := ⟨wd_7_215, ⟨hp_sel (n := 21) (by decide +kernel), rfl⟩, wd_1_20, wd_7_216, ⟨by decide, by decide, by decide +kernel⟩, by decide⟩
theorem wd_7_220 : hp_ok (Cond.code ⟨"HallPhoneModel", "throwsOne", "(ZZ)Z"⟩ prog_11_method_5_code 3 (some .boolean)) := ⟨hp_m7 (List.mem_of_getElem? (i := 220) (by decide +kernel)), rfl⟩
theorem wd_7_219 : hp_ok (Cond.instanceMethod ⟨"HallPhoneModel", "throwsOne", "(ZZ)Z"⟩) := ⟨hp_m7 (List.mem_of_getElem? (i := 219) (by decide +kernel)), rfl⟩
theorem kv_X9_throwsOne_ : hp_Kv yX9_throwsOne_ cX9_throwsOne_ 3 (some .boolean) 2 := ⟨wd_7_219, ⟨hp_sel (n := 21) (by decide +kernel), rfl⟩, wd_1_20, wd_7_220, ⟨by decide, by decide, by decide +kernel⟩, by decide⟩
theorem wd_7_224 : hp_ok (Cond.code ⟨"HallPhoneModel", "flatTold", "(II)I"⟩ prog_11_method_62_code 3 (some .int)) := ⟨hp_m7 (List.mem_of_getElem? (i := 224) (by decide +kernel)), rfl⟩
theorem wd_7_223 : hp_ok (Cond.instanceMethod ⟨"HallPhoneModel", "flatTold", "(II)I"⟩) := ⟨hp_m7 (List.mem_of_getElem? (i := 223) (by decide +kernel)), rfl⟩
theorem kv_X9_flatTold : hp_Kv yX9_flatTold cX9_flatTold 3 (some .int) 2 := ⟨wd_7_223, ⟨hp_sel (n := 21) (by decide +kernel), rfl⟩, wd_1_20, wd_7_224, ⟨by decide, by decide, by decide +kernel⟩, by decide⟩
theorem wd_7_228 : hp_ok (Cond.code ⟨"HallPhoneModel", "messagesFor", "(I)I"⟩ prog_11_method_16_code 4 (some .int)) := ⟨hp_m7 (List.mem_of_getElem? (i := 228) (by decide +kernel)), rfl⟩
theorem wd_7_227 : hp_ok (Cond.instanceMethod ⟨"HallPhoneModel", "messagesFor", "(I)I"⟩) := ⟨hp_m7 (List.mem_of_getElem? (i := 227) (by decide +kernel)), rfl⟩
theorem kv_X9_messagesFor : hp_Kv yX9_messagesFor cX9_messagesFor 4 (some .int) 1 := ⟨wd_7_227, ⟨hp_sel (n := 21) (by decide +kernel), rfl⟩, wd_1_20, wd_7_228, ⟨by decide, by decide, by decide +kernel⟩, by decide⟩
theorem wd_7_232 : hp_ok (Cond.code ⟨"HallPhoneModel", "queued", "(I)I"⟩ prog_11_method_64_code 2 (some .int)) := ⟨hp_m7 (List.mem_of_getElem? (i := 232) (by decide +kernel)), rfl⟩
theorem wd_7_231 : hp_ok (Cond.selects "HallPhoneModel" ⟨"HallPhoneModel", "queued", "(I)I"⟩ ⟨"HallPhoneModel", "queued", "(I)I"⟩) := ⟨hp_m7 (List.mem_of_getElem? (i := 231) (by decide +kernel)), rfl⟩
theorem wd_7_230 : hp_ok (Cond.instanceMethod ⟨"HallPhoneModel", "queued", "(I)I"⟩) := ⟨hp_m7 (List.mem_of_getElem? (i := 230) (by decide +kernel)), rfl⟩
theorem kv_X9_queued : hp_Kv yX9_queued cX9_queued 2 (some .int) 1 := ⟨wd_7_230, wd_7_231, wd_1_20, wd_7_232, ⟨by decide, by decide, by decide +kernel⟩, by decide⟩
theorem wd_7_236 : hp_ok (Cond.code ⟨"HallPhoneModel", "message", "(II)I"⟩ prog_11_method_65_code 3 (some .int)) := ⟨hp_m7 (List.mem_of_getElem? (i := 236) (by decide +kernel)), rfl⟩
theorem wd_7_235 : hp_ok (Cond.selects "HallPhoneModel" ⟨"HallPhoneModel", "message", "(II)I"⟩ ⟨"HallPhoneModel", "message", "(II)I"⟩) := ⟨hp_m7 (List.mem_of_getElem? (i := 235) (by decide +kernel)), rfl⟩
theorem wd_7_234 : hp_ok (Cond.instanceMethod ⟨"HallPhoneModel", "message", "(II)I"⟩) := ⟨hp_m7 (List.mem_of_getElem? (i := 234) (by decide +kernel)), rfl⟩
theorem kv_X9_message : hp_Kv yX9_message cX9_message 3 (some .int) 2 := ⟨wd_7_234, wd_7_235, wd_1_20, wd_7_236, ⟨by decide, by decide, by decide +kernel⟩, by decide⟩
theorem wd_8_0 : hp_ok (Cond.code ⟨"HallPhoneModel", "heard", "(II)I"⟩ prog_11_method_66_code 3 (some .int)) := ⟨hp_m8 (List.mem_of_getElem? (i := 0) (by decide +kernel)), rfl⟩
theorem wd_7_239 : hp_ok (Cond.selects "HallPhoneModel" ⟨"HallPhoneModel", "heard", "(II)I"⟩ ⟨"HallPhoneModel", "heard", "(II)I"⟩) := ⟨hp_m7 (List.mem_of_getElem? (i := 239) (by decide +kernel)), rfl⟩
theorem wd_7_238 : hp_ok (Cond.instanceMethod ⟨"HallPhoneModel", "heard", "(II)I"⟩) := ⟨hp_m7 (List.mem_of_getElem? (i := 238) (by decide +kernel)), rfl⟩
theorem kv_X9_heard : hp_Kv yX9_heard cX9_heard 3 (some .int) 2 := ⟨wd_7_238, wd_7_239, wd_1_20, wd_8_0, ⟨by decide, by decide, by decide +kernel⟩, by decide⟩
theorem wd_8_4 : hp_ok (Cond.code ⟨"HallPhoneModel", "heardOf", "(II)I"⟩ prog_11_method_11_code 3 (some .int)) := ⟨hp_m8 (List.mem_of_getElem? (i := 4) (by decide +kernel)), rfl⟩
theorem wd_8_3 : hp_ok (Cond.instanceMethod ⟨"HallPhoneModel", "heardOf", "(II)I"⟩) := ⟨hp_m8 (List.mem_of_getElem? (i := 3) (by decide +kernel)), rfl⟩
theorem kv_X9_heardOf : hp_Kv yX9_heardOf cX9_heardOf 3 (some .int) 2 := ⟨wd_8_3, ⟨hp_sel (n := 21) (by decide +kernel), rfl⟩, wd_1_20, wd_8_4, ⟨by decide, by decide, by decide +kernel⟩, by decide⟩
theorem wd_8_8 : hp_ok (Cond.code ⟨"HallPhoneModel", "knowing", "(I)I"⟩ prog_11_method_68_code 2 (some .int)) := ⟨hp_m8 (List.mem_of_getElem? (i := 8) (by decide +kernel)), rfl⟩
theorem wd_8_7 : hp_ok (Cond.selects "HallPhoneModel" ⟨"HallPhoneModel", "knowing", "(I)I"⟩ ⟨"HallPhoneModel", "knowing", "(I)I"⟩) := ⟨hp_m8 (List.mem_of_getElem? (i := 7) (by decide +kernel)), rfl⟩
theorem wd_8_6 : hp_ok (Cond.instanceMethod ⟨"HallPhoneModel", "knowing", "(I)I"⟩) := ⟨hp_m8 (List.mem_of_getElem? (i := 6) (by decide +kernel)), rfl⟩
theorem kv_X9_knowing : hp_Kv yX9_knowing cX9_knowing 2 (some .int) 1 := ⟨wd_8_6, wd_8_7, wd_1_20, wd_8_8, ⟨by decide, by decide, by decide +kernel⟩, by decide⟩
theorem wd_8_12 : hp_ok (Cond.code ⟨"HallPhoneModel", "knowers", "(I)I"⟩ prog_11_method_67_code 4 (some .int)) := ⟨hp_m8 (List.mem_of_getElem? (i := 12) (by decide +kernel)), rfl⟩
theorem wd_8_11 : hp_ok (Cond.instanceMethod ⟨"HallPhoneModel", "knowers", "(I)I"⟩) := ⟨hp_m8 (List.mem_of_getElem? (i := 11) (by decide +kernel)), rfl⟩
theorem kv_X9_knowers : hp_Kv yX9_knowers cX9_knowers 4 (some .int) 1 := ⟨wd_8_11, ⟨hp_sel (n := 21) (by decide +kernel), rfl⟩, wd_1_20, wd_8_12, ⟨by decide, by decide, by decide +kernel⟩, by decide⟩
theorem wd_8_16 : hp_ok (Cond.code ⟨"HallPhoneModel", "listening", "(I)I"⟩ prog_11_method_69_code 4 (some .int)) := ⟨hp_m8 (List.mem_of_getElem? (i := 16) (by decide +kernel)), rfl⟩
theorem wd_8_15 : hp_ok (Cond.selects "HallPhoneModel" ⟨"HallPhoneModel", "listening", "(I)I"⟩ ⟨"HallPhoneModel", "listening", "(I)I"⟩) := ⟨hp_m8 (List.mem_of_getElem? (i := 15) (by decide +kernel)), rfl⟩
theorem wd_8_14 : hp_ok (Cond.instanceMethod ⟨"HallPhoneModel", "listening", "(I)I"⟩) := ⟨hp_m8 (List.mem_of_getElem? (i := 14) (by decide +kernel)), rfl⟩
theorem kv_X9_listening : hp_Kv yX9_listening cX9_listening 4 (some .int) 1 := ⟨wd_8_14, wd_8_15, wd_1_20, wd_8_16, ⟨by decide, by decide, by decide +kernel⟩, by decide⟩
theorem wd_8_20 : hp_ok (Cond.code ⟨"HallPhoneModel", "mostKnown", "()I"⟩ prog_11_method_71_code 5 (some .int)) := ⟨hp_m8 (List.mem_of_getElem? (i := 20) (by decide +kernel)), rfl⟩
theorem wd_8_19 : hp_ok (Cond.selects "HallPhoneModel" ⟨"HallPhoneModel", "mostKnown", "()I"⟩ ⟨"HallPhoneModel", "mostKnown", "()I"⟩) := ⟨hp_m8 (List.mem_of_getElem? (i := 19) (by decide +kernel)), rfl⟩
theorem wd_8_18 : hp_ok (Cond.instanceMethod ⟨"HallPhoneModel", "mostKnown", "()I"⟩) := ⟨hp_m8 (List.mem_of_getElem? (i := 18) (by decide +kernel)), rfl⟩
theorem kv_X9_mostKnown : hp_Kv yX9_mostKnown cX9_mostKnown 5 (some .int) 0 := ⟨wd_8_18, wd_8_19, wd_1_20, wd_8_20, ⟨by decide, by decide, by decide +kernel⟩, by decide⟩
theorem wd_8_23 : hp_ok (Cond.code ⟨"HallPhoneModel", "bits", "(I)I"⟩ prog_11_method_70_code 3 (some .int)) := ⟨hp_m8 (List.mem_of_getElem? (i := 23) (by decide +kernel)), rfl⟩
theorem wd_8_22 : hp_ok (Cond.static ⟨"HallPhoneModel", "bits", "(I)I"⟩) := ⟨hp_m8 (List.mem_of_getElem? (i := 22) (by decide +kernel)), rfl⟩
theorem ks_X9_bits : hp_Ks yX9_bits cX9_bits 3 (some .int) 1 := ⟨wd_8_22, wd_1_20, wd_8_23, ⟨by decide, by decide, by decide +kernel⟩, by decide⟩
theorem wd_8_27 : hp_ok (Cond.code ⟨"HallPhoneModel", "cost", "(I)I"⟩ prog_11_method_72_code 2 (some .int)) := ⟨hp_m8 (List.mem_of_getElem? (i := 27) (by decide +kernel)), rfl⟩
theorem wd_8_26 : hp_ok (Cond.selects "HallPhoneModel" ⟨"HallPhoneModel", "cost", "(I)I"⟩ ⟨"HallPhoneModel", "cost", "(I)I"⟩) := ⟨hp_m8 (List.mem_of_getElem? (i := 26) (by decide +kernel)), rfl⟩
theorem wd_8_25 : hp_ok (Cond.instanceMethod ⟨"HallPhoneModel", "cost", "(I)I"⟩) := ⟨hp_m8 (List.mem_of_getElem? (i := 25) (by decide +kernel)), rfl⟩
theorem kv_X9_cost : hp_Kv yX9_cost cX9_cost 2 (some .int) 1 := ⟨wd_8_25, wd_8_26, wd_1_20, wd_8_27, ⟨by decide, by decide, by decide +kernel⟩, by decide⟩
theorem wd_8_31 : hp_ok (Cond.code ⟨"HallPhoneModel", "why", "(II)I"⟩ prog_11_method_74_code 4 (some .int)) := ⟨hp_m8 (List.mem_of_getElem? (i := 31) (by decide +kernel)), rfl⟩
theorem wd_8_30 : hp_ok (Cond.selects "HallPhoneModel" ⟨"HallPhoneModel", "why", "(II)I"⟩ ⟨"HallPhoneModel", "why", "(II)I"⟩) := ⟨hp_m8 (List.mem_of_getElem? (i := 30) (by decide +kernel)), rfl⟩
theorem wd_8_29 : hp_ok (Cond.instanceMethod ⟨"HallPhoneModel", "why", "(II)I"⟩) := ⟨hp_m8 (List.mem_of_getElem? (i := 29) (by decide +kernel)), rfl⟩
theorem kv_X9_why : hp_Kv yX9_why cX9_why 4 (some .int) 2 := ⟨wd_8_29, wd_8_30, wd_1_20, wd_8_31, ⟨by decide, by decide, by decide +kernel⟩, by decide⟩
theorem wd_8_35 : hp_ok (Cond.code ⟨"HallPhoneModel", "reason", "(I)I"⟩ prog_11_method_73_code 2 (some .int)) := ⟨hp_m8 (List.mem_of_getElem? (i := 35) (by decide +kernel)), rfl⟩
theorem wd_8_34 : hp_ok (Cond.instanceMethod ⟨"HallPhoneModel", "reason", "(I)I"⟩) := ⟨hp_m8 (List.mem_of_getElem? (i := 34) (by decide +kernel)), rfl⟩
theorem kv_X9_reason : hp_Kv yX9_reason cX9_reason 2 (some .int) 1 := ⟨wd_8_34, ⟨hp_sel (n := 21) (by decide +kernel), rfl⟩, wd_1_20, wd_8_35, ⟨by decide, by decide, by decide +kernel⟩, by decide⟩
theorem wd_8_39 : hp_ok (Cond.code ⟨"HallPhoneModel", "speaksIn", "(I)I"⟩ prog_11_method_76_code 3 (some .int)) := ⟨hp_m8 (List.mem_of_getElem? (i := 39) (by decide +kernel)), rfl⟩
theorem wd_8_38 : hp_ok (Cond.selects "HallPhoneModel" ⟨"HallPhoneModel", "speaksIn", "(I)I"⟩ ⟨"HallPhoneModel", "speaksIn", "(I)I"⟩) := ⟨hp_m8 (List.mem_of_getElem? (i := 38) (by decide +kernel)), rfl⟩
theorem wd_8_37 : hp_ok (Cond.instanceMethod ⟨"HallPhoneModel", "speaksIn", "(I)I"⟩) := ⟨hp_m8 (List.mem_of_getElem? (i := 37) (by decide +kernel)), rfl⟩
theorem kv_X9_speaksIn : hp_Kv yX9_speaksIn cX9_speaksIn 3 (some .int) 1 := ⟨wd_8_37, wd_8_38, wd_1_20, wd_8_39, ⟨by decide, by decide, by decide +kernel⟩, by decide⟩
theorem wd_8_43 : hp_ok (Cond.code ⟨"HallPhoneModel", "setAside", "()V"⟩ prog_11_method_34_code 2 none) := ⟨hp_m8 (List.mem_of_getElem? (i := 43) (by decide +kernel)), rfl⟩
theorem wd_8_42 : hp_ok (Cond.instanceMethod ⟨"HallPhoneModel", "setAside", "()V"⟩) := ⟨hp_m8 (List.mem_of_getElem? (i := 42) (by decide +kernel)), rfl⟩
theorem kv_X9_setAside : hp_Kv yX9_setAside cX9_setAside 2 none 0 := ⟨wd_8_42, ⟨hp_sel (n := 21) (by decide +kernel), rfl⟩, wd_1_20, wd_8_43, ⟨by decide, by decide, by decide +kernel⟩, by decide⟩
theorem wd_8_47 : hp_ok (Cond.code ⟨"HallPhoneModel", "tillSpeaks", "(I)I"⟩ prog_11_method_75_code 3 (some .int)) := ⟨hp_m8 (List.mem_of_getElem? (i := 47) (by decide +kernel)), rfl⟩
theorem wd_8_46 : hp_ok (Cond.instanceMethod ⟨"HallPhoneModel", "tillSpeaks", "(I)I"⟩) := ⟨hp_m8 (List.mem_of_getElem? (i := 46) (by decide +kernel)), rfl⟩
theorem kv_X9_tillSpeaks : hp_Kv yX9_tillSpeaks cX9_tillSpeaks 3 (some .int) 1 := ⟨wd_8_46, ⟨hp_sel (n := 21) (by decide +kernel), rfl⟩, wd_1_20, wd_8_47, ⟨by decide, by decide, by decide +kernel⟩, by decide⟩
theorem wd_8_51 : hp_ok (Cond.code ⟨"HallPhoneModel", "bringBack", "()V"⟩ prog_11_method_35_code 2 none) := ⟨hp_m8 (List.mem_of_getElem? (i := 51) (by decide +kernel)), rfl⟩
theorem wd_8_50 : hp_ok (Cond.instanceMethod ⟨"HallPhoneModel", "bringBack", "()V"⟩) := ⟨hp_m8 (List.mem_of_getElem? (i := 50) (by decide +kernel)), rfl⟩
theorem kv_X9_bringBack : hp_Kv yX9_bringBack cX9_bringBack 2 none 0 := ⟨wd_8_50, ⟨hp_sel (n := 21) (by decide +kernel), rfl⟩, wd_1_20, wd_8_51, ⟨by decide, by decide, by decide +kernel⟩, by decide⟩
theorem wd_8_55 : hp_ok (Cond.code ⟨"HallPhoneModel", "freeIn", "()I"⟩ prog_11_method_77_code 2 (some .int)) := ⟨hp_m8 (List.mem_of_getElem? (i := 55) (by decide +kernel)), rfl⟩
theorem wd_8_54 : hp_ok (Cond.selects "HallPhoneModel" ⟨"HallPhoneModel", "freeIn", "()I"⟩ ⟨"HallPhoneModel", "freeIn", "()I"⟩) := ⟨hp_m8 (List.mem_of_getElem? (i := 54) (by decide +kernel)), rfl⟩
theorem wd_8_53 : hp_ok (Cond.instanceMethod ⟨"HallPhoneModel", "freeIn", "()I"⟩) := ⟨hp_m8 (List.mem_of_getElem? (i := 53) (by decide +kernel)), rfl⟩
theorem kv_X9_freeIn : hp_Kv yX9_freeIn cX9_freeIn 2 (some .int) 0 := ⟨wd_8_53, wd_8_54, wd_1_20, wd_8_55, ⟨by decide, by decide, by decide +kernel⟩, by decide⟩
theorem wd_8_59 : hp_ok (Cond.code ⟨"HallPhoneModel", "flatIn", "(II)I"⟩ prog_11_method_78_code 4 (some .int)) := ⟨hp_m8 (List.mem_of_getElem? (i := 59) (by decide +kernel)), rfl⟩
theorem wd_8_58 : hp_ok (Cond.selects "HallPhoneModel" ⟨"HallPhoneModel", "flatIn", "(II)I"⟩ ⟨"HallPhoneModel", "flatIn", "(II)I"⟩) := ⟨hp_m8 (List.mem_of_getElem? (i := 58) (by decide +kernel)), rfl⟩
theorem wd_8_57 : hp_ok (Cond.instanceMethod ⟨"HallPhoneModel", "flatIn", "(II)I"⟩) := ⟨hp_m8 (List.mem_of_getElem? (i := 57) (by decide +kernel)), rfl⟩
theorem kv_X9_flatIn : hp_Kv yX9_flatIn cX9_flatIn 4 (some .int) 2 := ⟨wd_8_57, wd_8_58, wd_1_20, wd_8_59, ⟨by decide, by decide, by decide +kernel⟩, by decide⟩
theorem wd_8_63 : hp_ok (Cond.code ⟨"HallPhoneModel", "debtIn", "(II)I"⟩ prog_11_method_79_code 4 (some .int)) := ⟨hp_m8 (List.mem_of_getElem? (i := 63) (by decide +kernel)), rfl⟩
theorem wd_8_62 : hp_ok (Cond.selects "HallPhoneModel" ⟨"HallPhoneModel", "debtIn", "(II)I"⟩ ⟨"HallPhoneModel", "debtIn", "(II)I"⟩) := ⟨hp_m8 (List.mem_of_getElem? (i := 62) (by decide +kernel)), rfl⟩
theorem wd_8_61 : hp_ok (Cond.instanceMethod ⟨"HallPhoneModel", "debtIn", "(II)I"⟩) := ⟨hp_m8 (List.mem_of_getElem? (i := 61) (by decide +kernel)), rfl⟩
theorem kv_X9_debtIn : hp_Kv yX9_debtIn cX9_debtIn 4 (some .int) 2 := ⟨wd_8_61, wd_8_62, wd_1_20, wd_8_63, ⟨by decide, by decide, by decide +kernel⟩, by decide⟩
theorem wd_8_67 : hp_ok (Cond.code ⟨"HallPhoneModel", "waitIf", "(I)I"⟩ prog_11_method_80_code 3 (some .int)) := ⟨hp_m8 (List.mem_of_getElem? (i := 67) (by decide +kernel)), rfl⟩
theorem wd_8_66 : hp_ok (Cond.selects "HallPhoneModel" ⟨"HallPhoneModel", "waitIf", "(I)I"⟩ ⟨"HallPhoneModel", "waitIf", "(I)I"⟩) := ⟨hp_m8 (List.mem_of_getElem? (i := 66) (by decide +kernel)), rfl⟩
theorem wd_8_65 : hp_ok (Cond.instanceMethod ⟨"HallPhoneModel", "waitIf", "(I)I"⟩) := ⟨hp_m8 (List.mem_of_getElem? (i := 65) (by decide +kernel)), rfl⟩
theorem kv_X9_waitIf : hp_Kv yX9_waitIf cX9_waitIf 3 (some .int) 1 := ⟨wd_8_65, wd_8_66, wd_1_20, wd_8_67, ⟨by decide, by decide, by decide +kernel⟩, by decide⟩
theorem wd_8_71 : hp_ok (Cond.code ⟨"HallPhoneModel", "bestLimit", "()I"⟩ prog_11_method_83_code 6 (some .int)) := ⟨hp_m8 (List.mem_of_getElem? (i := 71) (by decide +kernel)), rfl⟩
theorem wd_8_70 : hp_ok (Cond.selects "HallPhoneModel" ⟨"HallPhoneModel", "bestLimit", "()I"⟩ ⟨"HallPhoneModel", "bestLimit", "()I"⟩) := ⟨hp_m8 (List.mem_of_getElem? (i := 70) (by decide +kernel)), rfl⟩
theorem wd_8_69 : hp_ok (Cond.instanceMethod ⟨"HallPhoneModel", "bestLimit", "()I"⟩) := ⟨hp_m8 (List.mem_of_getElem? (i := 69) (by decide +kernel)), rfl⟩
theorem kv_X9_bestLimit : hp_Kv yX9_bestLimit cX9_bestLimit 6 (some .int) 0 := ⟨wd_8_69, wd_8_70, wd_1_20, wd_8_71, ⟨by decide, by decide, by decide +kernel⟩, by decide⟩
theorem wd_8_75 : hp_ok (Cond.code ⟨"HallPhoneModel", "waiting", "()I"⟩ prog_11_method_81_code 3 (some .int)) := ⟨hp_m8 (List.mem_of_getElem? (i := 75) (by decide +kernel)), rfl⟩
theorem wd_8_74 : hp_ok (Cond.instanceMethod ⟨"HallPhoneModel", "waiting", "()I"⟩) := ⟨hp_m8 (List.mem_of_getElem? (i := 74) (by decide +kernel)), rfl⟩
theorem kv_X9_waiting : hp_Kv yX9_waiting cX9_waiting 3 (some .int) 0 := ⟨wd_8_74, ⟨hp_sel (n := 21) (by decide +kernel), rfl⟩, wd_1_20, wd_8_75, ⟨by decide, by decide, by decide +kernel⟩, by decide⟩
theorem wd_8_79 : hp_ok (Cond.code ⟨"HallPhoneModel", "tillAll", "(I)I"⟩ prog_11_method_82_code 4 (some .int)) := ⟨hp_m8 (List.mem_of_getElem? (i := 79) (by decide +kernel)), rfl⟩
theorem wd_8_78 : hp_ok (Cond.instanceMethod ⟨"HallPhoneModel", "tillAll", "(I)I"⟩) := ⟨hp_m8 (List.mem_of_getElem? (i := 78) (by decide +kernel)), rfl⟩
theorem kv_X9_tillAll : hp_Kv yX9_tillAll cX9_tillAll 4 (some .int) 1 := ⟨wd_8_78, ⟨hp_sel (n := 21) (by decide +kernel), rfl⟩, wd_1_20, wd_8_79, ⟨by decide, by decide, by decide +kernel⟩, by decide⟩
theorem wd_8_83 : hp_ok (Cond.code ⟨"HallPhoneModel", "learnsIn", "(II)I"⟩ prog_11_method_85_code 5 (some .int)) := ⟨hp_m8 (List.mem_of_getElem? (i := 83) (by decide +kernel)), rfl⟩
theorem wd_8_82 : hp_ok (Cond.selects "HallPhoneModel" ⟨"HallPhoneModel", "learnsIn", "(II)I"⟩ ⟨"HallPhoneModel", "learnsIn", "(II)I"⟩) := ⟨hp_m8 (List.mem_of_getElem? (i := 82) (by decide +kernel)), rfl⟩
theorem wd_8_81 : hp_ok (Cond.instanceMethod ⟨"HallPhoneModel", "learnsIn", "(II)I"⟩) := ⟨hp_m8 (List.mem_of_getElem? (i := 81) (by decide +kernel)), rfl⟩
theorem kv_X9_learnsIn : hp_Kv yX9_learnsIn cX9_learnsIn 5 (some .int) 2 := ⟨wd_8_81, wd_8_82, wd_1_20, wd_8_83, ⟨by decide, by decide, by decide +kernel⟩, by decide⟩
theorem wd_8_87 : hp_ok (Cond.code ⟨"HallPhoneModel", "known", "(I)I"⟩ prog_11_method_84_code 4 (some .int)) := ⟨hp_m8 (List.mem_of_getElem? (i := 87) (by decide +kernel)), rfl⟩
theorem wd_8_86 : hp_ok (Cond.instanceMethod ⟨"HallPhoneModel", "known", "(I)I"⟩) := ⟨hp_m8 (List.mem_of_getElem? (i := 86) (by decide +kernel)), rfl⟩
theorem kv_X9_known : hp_Kv yX9_known cX9_known 4 (some .int) 1 := ⟨wd_8_86, ⟨hp_sel (n := 21) (by decide +kernel), rfl⟩, wd_1_20, wd_8_87, ⟨by decide, by decide, by decide +kernel⟩, by decide⟩
theorem wd_8_91 : hp_ok (Cond.code ⟨"HallPhoneModel", "ifRung", "(I)I"⟩ prog_11_method_86_code 2 (some .int)) := ⟨hp_m8 (List.mem_of_getElem? (i := 91) (by decide +kernel)), rfl⟩
theorem wd_8_90 : hp_ok (Cond.selects "HallPhoneModel" ⟨"HallPhoneModel", "ifRung", "(I)I"⟩ ⟨"HallPhoneModel", "ifRung", "(I)I"⟩) := ⟨hp_m8 (List.mem_of_getElem? (i := 90) (by decide +kernel)), rfl⟩
theorem wd_8_89 : hp_ok (Cond.instanceMethod ⟨"HallPhoneModel", "ifRung", "(I)I"⟩) := ⟨hp_m8 (List.mem_of_getElem? (i := 89) (by decide +kernel)), rfl⟩
theorem kv_X9_ifRung : hp_Kv yX9_ifRung cX9_ifRung 2 (some .int) 1 := ⟨wd_8_89, wd_8_90, wd_1_20, wd_8_91, ⟨by decide, by decide, by decide +kernel⟩, by decide⟩
theorem wd_8_95 : hp_ok (Cond.code ⟨"HallPhoneModel", "account", "(I)I"⟩ prog_11_method_88_code 2 (some .int)) := ⟨hp_m8 (List.mem_of_getElem? (i := 95) (by decide +kernel)), rfl⟩
theorem wd_8_94 : hp_ok (Cond.selects "HallPhoneModel" ⟨"HallPhoneModel", "account", "(I)I"⟩ ⟨"HallPhoneModel", "account", "(I)I"⟩) := ⟨hp_m8 (List.mem_of_getElem? (i := 94) (by decide +kernel)), rfl⟩
theorem wd_8_93 : hp_ok (Cond.instanceMethod ⟨"HallPhoneModel", "account", "(I)I"⟩) := ⟨hp_m8 (List.mem_of_getElem? (i := 93) (by decide +kernel)), rfl⟩
theorem kv_X9_account : hp_Kv yX9_account cX9_account 2 (some .int) 1 := ⟨wd_8_93, wd_8_94, wd_1_20, wd_8_95, ⟨by decide, by decide, by decide +kernel⟩, by decide⟩
theorem wd_8_99 : hp_ok (Cond.code ⟨"HallPhoneModel", "balance", "()I"⟩ prog_11_method_87_code 1 (some .int)) := ⟨hp_m8 (List.mem_of_getElem? (i := 99) (by decide +kernel)), rfl⟩
theorem wd_8_98 : hp_ok (Cond.instanceMethod ⟨"HallPhoneModel", "balance", "()I"⟩) := ⟨hp_m8 (List.mem_of_getElem? (i := 98) (by decide +kernel)), rfl⟩
theorem kv_X9_balance : hp_Kv yX9_balance cX9_balance 1 (some .int) 0 := ⟨wd_8_98, ⟨hp_sel (n := 21) (by decide +kernel), rfl⟩, wd_1_20, wd_8_99, ⟨by decide, by decide, by decide +kernel⟩, by decide⟩
theorem wd_8_103 : hp_ok (Cond.code ⟨"HallPhoneModel", "meanCall", "()D"⟩ prog_11_method_89_code 1 (some .double)) := ⟨hp_m8 (List.mem_of_getElem? (i := 103) (by decide +kernel)), rfl⟩
theorem wd_8_102 : hp_ok (Cond.selects "HallPhoneModel" ⟨"HallPhoneModel", "meanCall", "()D"⟩ ⟨"HallPhoneModel", "meanCall", "()D"⟩) := ⟨hp_m8 (List.mem_of_getElem? (i := 102) (by decide +kernel)), rfl⟩
theorem wd_8_101 : hp_ok (Cond.instanceMethod ⟨"HallPhoneModel", "meanCall", "()D"⟩) := ⟨hp_m8 (List.mem_of_getElem? (i := 101) (by decide +kernel)), rfl⟩
theorem kv_X9_meanCall : hp_Kv yX9_meanCall cX9_meanCall 1 (some .double) 0 := ⟨wd_8_101, wd_8_102, wd_1_20, wd_8_103, ⟨by decide, by decide, by decide +kernel⟩, by decide⟩
theorem wd_8_107 : hp_ok (Cond.code ⟨"HallPhoneModel", "busyShare", "()F"⟩ prog_11_method_90_code 1 (some .float)) := ⟨hp_m8 (List.mem_of_getElem? (i := 107) (by decide +kernel)), rfl⟩
theorem wd_8_106 : hp_ok (Cond.selects "HallPhoneModel" ⟨"HallPhoneModel", "busyShare", "()F"⟩ ⟨"HallPhoneModel", "busyShare", "()F"⟩) := ⟨hp_m8 (List.mem_of_getElem? (i := 106) (by decide +kernel)), rfl⟩
theorem wd_8_105 : hp_ok (Cond.instanceMethod ⟨"HallPhoneModel", "busyShare", "()F"⟩) := ⟨hp_m8 (List.mem_of_getElem? (i := 105) (by decide +kernel)), rfl⟩
theorem kv_X9_busyShare : hp_Kv yX9_busyShare cX9_busyShare 1 (some .float) 0 := ⟨wd_8_105, wd_8_106, wd_1_20, wd_8_107, ⟨by decide, by decide, by decide +kernel⟩, by decide⟩
theorem wd_8_111 : hp_ok (Cond.code ⟨"HallPhoneModel", "writeHouse", "()I"⟩ prog_11_method_94_code 2 (some .int)) := ⟨hp_m8 (List.mem_of_getElem? (i := 111) (by decide +kernel)), rfl⟩
theorem wd_8_110 : hp_ok (Cond.selects "HallPhoneModel" ⟨"HallPhoneModel", "writeHouse", "()I"⟩ ⟨"HallPhoneModel", "writeHouse", "()I"⟩) := ⟨hp_m8 (List.mem_of_getElem? (i := 110) (by decide +kernel)), rfl⟩
theorem wd_8_109 : hp_ok (Cond.instanceMethod ⟨"HallPhoneModel", "writeHouse", "()I"⟩) := ⟨hp_m8 (List.mem_of_getElem? (i := 109) (by decide +kernel)), rfl⟩
theorem kv_X9_writeHouse : hp_Kv yX9_writeHouse cX9_writeHouse 2 (some .int) 0 := ⟨wd_8_109, wd_8_110, wd_1_20, wd_8_111, ⟨by decide, by decide, by decide +kernel⟩, by decide⟩
theorem wd_8_115 : hp_ok (Cond.code ⟨"HallPhoneModel", "write", "(I)V"⟩ prog_11_method_91_code 2 none) := ⟨hp_m8 (List.mem_of_getElem? (i := 115) (by decide +kernel)), rfl⟩
theorem wd_8_114 : hp_ok (Cond.instanceMethod ⟨"HallPhoneModel", "write", "(I)V"⟩) := ⟨hp_m8 (List.mem_of_getElem? (i := 114) (by decide +kernel)), rfl⟩
theorem kv_X9_write : hp_Kv yX9_write cX9_write 2 none 1 := ⟨wd_8_114, ⟨hp_sel (n := 21) (by decide +kernel), rfl⟩, wd_1_20, wd_8_115, ⟨by decide, by decide, by decide +kernel⟩, by decide⟩
theorem wd_8_119 : hp_ok (Cond.code ⟨"HallPhoneModel", "writeFlat", "(I)V"⟩ prog_11_method_93_code 2 none) := ⟨hp_m8 (List.mem_of_getElem? (i := 119) (by decide +kernel)), rfl⟩
theorem wd_8_118 : hp_ok (Cond.instanceMethod ⟨"HallPhoneModel", "writeFlat", "(I)V"⟩) := ⟨hp_m8 (List.mem_of_getElem? (i := 118) (by decide +kernel)), rfl⟩
theorem kv_X9_writeFlat : hp_Kv yX9_writeFlat cX9_writeFlat 2 none 1 := ⟨wd_8_118, ⟨hp_sel (n := 21) (by decide +kernel), rfl⟩, wd_1_20, wd_8_119, ⟨by decide, by decide, by decide +kernel⟩, by decide⟩
theorem wd_8_123 : hp_ok (Cond.code ⟨"HallPhoneModel", "writeNumber", "(I)V"⟩ prog_11_method_92_code 2 none) := ⟨hp_m8 (List.mem_of_getElem? (i := 123) (by decide +kernel)), rfl⟩
theorem wd_8_122 : hp_ok (Cond.instanceMethod ⟨"HallPhoneModel", "writeNumber", "(I)V"⟩) := ⟨hp_m8 (List.mem_of_getElem? (i := 122) (by decide +kernel)), rfl⟩
theorem kv_X9_writeNumber : hp_Kv yX9_writeNumber cX9_writeNumber 2 none 1 := ⟨wd_8_122, ⟨hp_sel (n := 21) (by decide +kernel), rfl⟩, wd_1_20, wd_8_123, ⟨by decide, by decide, by decide +kernel⟩, by decide⟩
theorem wd_8_127 : hp_ok (Cond.code ⟨"HallPhoneModel", "writeSlate", "()I"⟩ prog_11_method_95_code 2 (some .int)) := ⟨hp_m8 (List.mem_of_getElem? (i := 127) (by decide +kernel)), rfl⟩
theorem wd_8_126 : hp_ok (Cond.selects "HallPhoneModel" ⟨"HallPhoneModel", "writeSlate", "()I"⟩ ⟨"HallPhoneModel", "writeSlate", "()I"⟩) := ⟨hp_m8 (List.mem_of_getElem? (i := 126) (by decide +kernel)), rfl⟩
theorem wd_8_125 : hp_ok (Cond.instanceMethod ⟨"HallPhoneModel", "writeSlate", "()I"⟩) := ⟨hp_m8 (List.mem_of_getElem? (i := 125) (by decide +kernel)), rfl⟩
theorem kv_X9_writeSlate : hp_Kv yX9_writeSlate cX9_writeSlate 2 (some .int) 0 := ⟨wd_8_125, wd_8_126, wd_1_20, wd_8_127, ⟨by decide, by decide, by decide +kernel⟩, by decide⟩
theorem wd_8_131 : hp_ok (Cond.code ⟨"HallPhoneModel", "reportAt", "(I)C"⟩ prog_11_method_96_code 2 (some .char)) := ⟨hp_m8 (List.mem_of_getElem? (i := 131) (by decide +kernel)), rfl⟩
theorem wd_8_130 : hp_ok (Cond.selects "HallPhoneModel" ⟨"HallPhoneModel", "reportAt", "(I)C"⟩ ⟨"HallPhoneModel", "reportAt", "(I)C"⟩) := ⟨hp_m8 (List.mem_of_getElem? (i := 130) (by decide +kernel)), rfl⟩
theorem wd_8_129 : hp_ok (Cond.instanceMethod ⟨"HallPhoneModel", "reportAt", "(I)C"⟩) := ⟨hp_m8 (List.mem_of_getElem? (i := 129) (by decide +kernel)), rfl⟩
theorem kv_X9_reportAt : hp_Kv yX9_reportAt cX9_reportAt 2 (some .char) 1 := ⟨wd_8_129, wd_8_130, wd_1_20, wd_8_131, ⟨by decide, by decide, by decide +kernel⟩, by decide⟩
theorem wd_8_135 : hp_ok (Cond.code ⟨"HallPhoneModel", "want", "(II)I"⟩ prog_11_method_99_code 3 (some .int)) := ⟨hp_m8 (List.mem_of_getElem? (i := 135) (by decide +kernel)), rfl⟩
theorem wd_8_134 : hp_ok (Cond.selects "HallPhoneModel" ⟨"HallPhoneModel", "want", "(II)I"⟩ ⟨"HallPhoneModel", "want", "(II)I"⟩) := ⟨hp_m8 (List.mem_of_getElem? (i := 134) (by decide +kernel)), rfl⟩
theorem wd_8_133 : hp_ok (Cond.instanceMethod ⟨"HallPhoneModel", "want", "(II)I"⟩) := ⟨hp_m8 (List.mem_of_getElem? (i := 133) (by decide +kernel)), rfl⟩
theorem kv_X9_want : hp_Kv yX9_want cX9_want 3 (some .int) 2 := ⟨wd_8_133, wd_8_134, wd_1_20, wd_8_135, ⟨by decide, by decide, by decide +kernel⟩, by decide⟩
theorem wd_8_139 : hp_ok (Cond.code ⟨"HallPhoneModel", "begins", "()V"⟩ prog_11_method_97_code 2 none) := ⟨hp_m8 (List.mem_of_getElem? (i := 139) (by decide +kernel)), rfl⟩
theorem wd_8_138 : hp_ok (Cond.instanceMethod ⟨"HallPhoneModel", "begins", "()V"⟩) := ⟨hp_m8 (List.mem_of_getElem? (i := 138) (by decide +kernel)), rfl⟩
theorem kv_X9_begins : hp_Kv yX9_begins cX9_begins 2 none 0 := ⟨wd_8_138, ⟨hp_sel (n := 21) (by decide +kernel), rfl⟩, wd_1_20, wd_8_139, ⟨by decide, by decide, by decide +kernel⟩, by decide⟩
theorem wd_8_143 : hp_ok (Cond.code ⟨"HallPhoneModel", "remember", "(I)I"⟩ prog_11_method_98_code 3 (some .int)) := ⟨hp_m8 (List.mem_of_getElem? (i := 143) (by decide +kernel)), rfl⟩
theorem wd_8_142 : hp_ok (Cond.instanceMethod ⟨"HallPhoneModel", "remember", "(I)I"⟩) := ⟨hp_m8 (List.mem_of_getElem? (i := 142) (by decide +kernel)), rfl⟩
theorem kv_X9_remember : hp_Kv yX9_remember cX9_remember 3 (some .int) 1 := ⟨wd_8_142, ⟨hp_sel (n := 21) (by decide +kernel), rfl⟩, wd_1_20, wd_8_143, ⟨by decide, by decide, by decide +kernel⟩, by decide⟩
theorem wd_8_147 : hp_ok (Cond.code ⟨"HallPhoneModel", "drop", "(I)I"⟩ prog_11_method_100_code 2 (some .int)) := ⟨hp_m8 (List.mem_of_getElem? (i := 147) (by decide +kernel)), rfl⟩
theorem wd_8_146 : hp_ok (Cond.selects "HallPhoneModel" ⟨"HallPhoneModel", "drop", "(I)I"⟩ ⟨"HallPhoneModel", "drop", "(I)I"⟩) := ⟨hp_m8 (List.mem_of_getElem? (i := 146) (by decide +kernel)), rfl⟩
theorem wd_8_145 : hp_ok (Cond.instanceMethod ⟨"HallPhoneModel", "drop", "(I)I"⟩) := ⟨hp_m8 (List.mem_of_getElem? (i := 145) (by decide +kernel)), rfl⟩
theorem kv_X9_drop : hp_Kv yX9_drop cX9_drop 2 (some .int) 1 := ⟨wd_8_145, wd_8_146, wd_1_20, wd_8_147, ⟨by decide, by decide, by decide +kernel⟩, by decide⟩
theorem wd_8_151 : hp_ok (Cond.code ⟨"HallPhoneModel", "hang", "(I)I"⟩ prog_11_method_101_code 2 (some .int)) := ⟨hp_m8 (List.mem_of_getElem? (i := 151) (by decide +kernel)), rfl⟩
theorem wd_8_150 : hp_ok (Cond.selects "HallPhoneModel" ⟨"HallPhoneModel", "hang", "(I)I"⟩ ⟨"HallPhoneModel", "hang", "(I)I"⟩) := ⟨hp_m8 (List.mem_of_getElem? (i := 150) (by decide +kernel)), rfl⟩
theorem wd_8_149 : hp_ok (Cond.instanceMethod ⟨"HallPhoneModel", "hang", "(I)I"⟩) := ⟨hp_m8 (List.mem_of_getElem? (i := 149) (by decide +kernel)), rfl⟩
theorem kv_X9_hang : hp_Kv yX9_hang cX9_hang 2 (some .int) 1 := ⟨wd_8_149, wd_8_150, wd_1_20, wd_8_151, ⟨by decide, by decide, by decide +kernel⟩, by decide⟩
theorem wd_8_155 : hp_ok (Cond.code ⟨"HallPhoneModel", "ring", "(II)I"⟩ prog_11_method_102_code 3 (some .int)) := ⟨hp_m8 (List.mem_of_getElem? (i := 155) (by decide +kernel)), rfl⟩
theorem wd_8_154 : hp_ok (Cond.selects "HallPhoneModel" ⟨"HallPhoneModel", "ring", "(II)I"⟩ ⟨"HallPhoneModel", "ring", "(II)I"⟩) := ⟨hp_m8 (List.mem_of_getElem? (i := 154) (by decide +kernel)), rfl⟩
theorem wd_8_153 : hp_ok (Cond.instanceMethod ⟨"HallPhoneModel", "ring", "(II)I"⟩) := ⟨hp_m8 (List.mem_of_getElem? (i := 153) (by decide +kernel)), rfl⟩
theorem kv_X9_ring : hp_Kv yX9_ring cX9_ring 3 (some .int) 2 := ⟨wd_8_153, wd_8_154, wd_1_20, wd_8_155, ⟨by decide, by decide, by decide +kernel⟩, by decide⟩
theorem wd_8_159 : hp_ok (Cond.code ⟨"HallPhoneModel", "pay", "(II)I"⟩ prog_11_method_103_code 3 (some .int)) := ⟨hp_m8 (List.mem_of_getElem? (i := 159) (by decide +kernel)), rfl⟩
theorem wd_8_158 : hp_ok (Cond.selects "HallPhoneModel" ⟨"HallPhoneModel", "pay", "(II)I"⟩ ⟨"HallPhoneModel", "pay", "(II)I"⟩) := ⟨hp_m8 (List.mem_of_getElem? (i := 158) (by decide +kernel)), rfl⟩
theorem wd_8_157 : hp_ok (Cond.instanceMethod ⟨"HallPhoneModel", "pay", "(II)I"⟩) := ⟨hp_m8 (List.mem_of_getElem? (i := 157) (by decide +kernel)), rfl⟩
theorem kv_X9_pay : hp_Kv yX9_pay cX9_pay 3 (some .int) 2 := ⟨wd_8_157, wd_8_158, wd_1_20, wd_8_159, ⟨by decide, by decide, by decide +kernel⟩, by decide⟩
theorem wd_8_163 : hp_ok (Cond.code ⟨"HallPhoneModel", "setCurious", "(IZ)Z"⟩ prog_11_method_104_code 4 (some .boolean)) := ⟨hp_m8 (List.mem_of_getElem? (i := 163) (by decide +kernel)), rfl⟩
theorem wd_8_162 : hp_ok (Cond.selects "HallPhoneModel" ⟨"HallPhoneModel", "setCurious", "(IZ)Z"⟩ ⟨"HallPhoneModel", "setCurious", "(IZ)Z"⟩) := ⟨hp_m8 (List.mem_of_getElem? (i := 162) (by decide +kernel)), rfl⟩
theorem wd_8_161 : hp_ok (Cond.instanceMethod ⟨"HallPhoneModel", "setCurious", "(IZ)Z"⟩) := ⟨hp_m8 (List.mem_of_getElem? (i := 161) (by decide +kernel)), rfl⟩
theorem kv_X9_setCurious : hp_Kv yX9_setCurious cX9_setCurious 4 (some .boolean) 2 := ⟨wd_8_161, wd_8_162, wd_1_20, wd_8_163, ⟨by decide, by decide, by decide +kernel⟩, by decide⟩
theorem wd_8_167 : hp_ok (Cond.code ⟨"HallPhoneModel", "set", "(II)I"⟩ prog_11_method_105_code 4 (some .int)) := ⟨hp_m8 (List.mem_of_getElem? (i := 167) (by decide +kernel)), rfl⟩
theorem wd_8_166 : hp_ok (Cond.selects "HallPhoneModel" ⟨"HallPhoneModel", "set", "(II)I"⟩ ⟨"HallPhoneModel", "set", "(II)I"⟩) := ⟨hp_m8 (List.mem_of_getElem? (i := 166) (by decide +kernel)), rfl⟩
theorem wd_8_165 : hp_ok (Cond.instanceMethod ⟨"HallPhoneModel", "set", "(II)I"⟩) := ⟨hp_m8 (List.mem_of_getElem? (i := 165) (by decide +kernel)), rfl⟩
theorem kv_X9_set : hp_Kv yX9_set cX9_set 4 (some .int) 2 := ⟨wd_8_165, wd_8_166, wd_1_20, wd_8_167, ⟨by decide, by decide, by decide +kernel⟩, by decide⟩
theorem wd_8_171 : hp_ok (Cond.code ⟨"HallPhoneModel", "pass", "(I)I"⟩ prog_11_method_106_code 2 (some .int)) := ⟨hp_m8 (List.mem_of_getElem? (i := 171) (by decide +kernel)), rfl⟩
theorem wd_8_170 : hp_ok (Cond.selects "HallPhoneModel" ⟨"HallPhoneModel", "pass", "(I)I"⟩ ⟨"HallPhoneModel", "pass", "(I)I"⟩) := ⟨hp_m8 (List.mem_of_getElem? (i := 170) (by decide +kernel)), rfl⟩
theorem wd_8_169 : hp_ok (Cond.instanceMethod ⟨"HallPhoneModel", "pass", "(I)I"⟩) := ⟨hp_m8 (List.mem_of_getElem? (i := 169) (by decide +kernel)), rfl⟩
theorem kv_X9_pass : hp_Kv yX9_pass cX9_pass 2 (some .int) 1 := ⟨wd_8_169, wd_8_170, wd_1_20, wd_8_171, ⟨by decide, by decide, by decide +kernel⟩, by decide⟩
theorem wd_8_175 : hp_ok (Cond.code ⟨"HallPhoneModel", "undo", "()I"⟩ prog_11_method_107_code 2 (some .int)) := ⟨hp_m8 (List.mem_of_getElem? (i := 175) (by decide +kernel)), rfl⟩
theorem wd_8_174 : hp_ok (Cond.selects "HallPhoneModel" ⟨"HallPhoneModel", "undo", "()I"⟩ ⟨"HallPhoneModel", "undo", "()I"⟩) := ⟨hp_m8 (List.mem_of_getElem? (i := 174) (by decide +kernel)), rfl⟩
theorem wd_8_173 : hp_ok (Cond.instanceMethod ⟨"HallPhoneModel", "undo", "()I"⟩) := ⟨hp_m8 (List.mem_of_getElem? (i := 173) (by decide +kernel)), rfl⟩
theorem kv_X9_undo : hp_Kv yX9_undo cX9_undo 2 (some .int) 0 := ⟨wd_8_173, wd_8_174, wd_1_20, wd_8_175, ⟨by decide, by decide, by decide +kernel⟩, by decide⟩
theorem wd_8_179 : hp_ok (Cond.code ⟨"HallPhoneModel", "saveSnapshot", "(I)Z"⟩ prog_11_method_108_code 4 (some .boolean)) := ⟨hp_m8 (List.mem_of_getElem? (i := 179) (by decide +kernel)), rfl⟩
theorem wd_8_178 : hp_ok (Cond.selects "HallPhoneModel" ⟨"HallPhoneModel", "saveSnapshot", "(I)Z"⟩ ⟨"HallPhoneModel", "saveSnapshot", "(I)Z"⟩) := ⟨hp_m8 (List.mem_of_getElem? (i := 178) (by decide +kernel)), rfl⟩
theorem wd_8_177 : hp_ok (Cond.instanceMethod ⟨"HallPhoneModel", "saveSnapshot", "(I)Z"⟩) := ⟨hp_m8 (List.mem_of_getElem? (i := 177) (by decide +kernel)), rfl⟩
theorem kv_X9_saveSnapshot : hp_Kv yX9_saveSnapshot cX9_saveSnapshot 4 (some .boolean) 1 := ⟨wd_8_177, wd_8_178, wd_1_20, wd_8_179, ⟨by decide, by decide, by decide +kernel⟩, by decide⟩
theorem wd_8_183 : hp_ok (Cond.code ⟨"HallPhoneModel", "restoreSnapshot", "(I)I"⟩ prog_11_method_109_code 4 (some .int)) := ⟨hp_m8 (List.mem_of_getElem? (i := 183) (by decide +kernel)), rfl⟩
theorem wd_8_182 : hp_ok (Cond.selects "HallPhoneModel" ⟨"HallPhoneModel", "restoreSnapshot", "(I)I"⟩ ⟨"HallPhoneModel", "restoreSnapshot", "(I)I"⟩) := ⟨hp_m8 (List.mem_of_getElem? (i := 182) (by decide +kernel)), rfl⟩
theorem wd_8_181 : hp_ok (Cond.instanceMethod ⟨"HallPhoneModel", "restoreSnapshot", "(I)I"⟩) := ⟨hp_m8 (List.mem_of_getElem? (i := 181) (by decide +kernel)), rfl⟩
theorem kv_X9_restoreSnapshot : hp_Kv yX9_restoreSnapshot cX9_restoreSnapshot 4 (some .int) 1 := ⟨wd_8_181, wd_8_182, wd_1_20, wd_8_183, ⟨by decide, by decide, by decide +kernel⟩, by decide⟩
theorem wd_8_187 : hp_ok (Cond.code ⟨"HallPhoneModel", "checksum", "()J"⟩ prog_11_method_110_code 5 (some .long)) := ⟨hp_m8 (List.mem_of_getElem? (i := 187) (by decide +kernel)), rfl⟩
theorem wd_8_186 : hp_ok (Cond.selects "HallPhoneModel" ⟨"HallPhoneModel", "checksum", "()J"⟩ ⟨"HallPhoneModel", "checksum", "()J"⟩) := ⟨hp_m8 (List.mem_of_getElem? (i := 186) (by decide +kernel)), rfl⟩
theorem wd_8_185 : hp_ok (Cond.instanceMethod ⟨"HallPhoneModel", "checksum", "()J"⟩) := ⟨hp_m8 (List.mem_of_getElem? (i := 185) (by decide +kernel)), rfl⟩
theorem kv_X9_checksum : hp_Kv yX9_checksum cX9_checksum 5 (some .long) 0 := ⟨wd_8_185, wd_8_186, wd_1_20, wd_8_187, ⟨by decide, by decide, by decide +kernel⟩, by decide⟩
theorem wd_8_192 : hp_ok (Cond.code ⟨"HallPhoneModel", "heardSum", "(JI)J"⟩ prog_11_method_111_code 7 (some .long)) := ⟨hp_m8 (List.mem_of_getElem? (i := 192) (by decide +kernel)), rfl⟩
theorem wd_8_191 : hp_ok (Cond.instanceMethod ⟨"HallPhoneModel", "heardSum", "(JI)J"⟩) := ⟨hp_m8 (List.mem_of_getElem? (i := 191) (by decide +kernel)), rfl⟩
theorem kv_X9_heardSum : hp_Kv yX9_heardSum cX9_heardSum 7 (some .long) 2 := ⟨wd_8_191, ⟨hp_sel (n := 21) (by decide +kernel), rfl⟩, wd_1_20, wd_8_192, ⟨by decide, by decide, by decide +kernel⟩, by decide⟩
