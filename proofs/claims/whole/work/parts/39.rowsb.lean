theorem wd_3_192 : hp_ok (Cond.methodLink "jdk/internal/util/ArraysSupport" 194 ⟨"java/lang/Math", "max", "(II)I"⟩) := ⟨hp_m3 (List.mem_of_getElem? (i := 192) (by decide +kernel)), rfl⟩
theorem wd_3_196 : hp_ok (Cond.methodLink "jdk/internal/util/ArraysSupport" 201 ⟨"jdk/internal/util/ArraysSupport", "hugeLength", "(II)I"⟩) := ⟨hp_m3 (List.mem_of_getElem? (i := 196) (by decide +kernel)), rfl⟩
theorem wd_4_234 : hp_ok (Cond.instanceMethod ⟨"java/lang/StringBuilder", "append", "(C)Ljava/lang/StringBuilder;"⟩) := ⟨hp_m4 (List.mem_of_getElem? (i := 234) (by decide +kernel)), rfl⟩
theorem wd_4_235 : hp_ok (Cond.selects "java/lang/StringBuilder" ⟨"java/lang/StringBuilder", "append", "(C)Ljava/lang/StringBuilder;"⟩ ⟨"java/lang/StringBuilder", "append", "(C)Ljava/lang/StringBuilder;"⟩) := ⟨hp_m4 (List.mem_of_getElem? (i := 235) (by decide +kernel)), rfl⟩
theorem wd_4_236 : hp_ok (Cond.code ⟨"java/lang/StringBuilder", "append", "(C)Ljava/lang/StringBuilder;"⟩ prog_28_method_14_code 2 (some (.object "java/lang/StringBuilder"))) := ⟨hp_m4 (List.mem_of_getElem? (i := 236) (by decide +kernel)), rfl⟩
theorem kv_J4_append_cf468 : hp_Kv yJ4_append_cf468 cJ4_append_cf468 2 (some (.object "java/lang/StringBuilder")) 1 := ⟨wd_4_234, wd_4_235, wd_1_9, wd_4_236, ⟨by decide, by decide, by decide +kernel⟩, by decide⟩
theorem wd_4_28 : hp_ok (Cond.instanceMethod ⟨"java/lang/StringBuilder", "append", "(I)Ljava/lang/StringBuilder;"⟩) := ⟨hp_m4 (List.mem_of_getElem? (i := 28) (by decide +kernel)), rfl⟩
theorem wd_4_29 : hp_ok (Cond.selects "java/lang/StringBuilder" ⟨"java/lang/StringBuilder", "append", "(I)Ljava/lang/StringBuilder;"⟩ ⟨"java/lang/StringBuilder", "append", "(I)Ljava/lang/StringBuilder;"⟩) := ⟨hp_m4 (List.mem_of_getElem? (i := 29) (by decide +kernel)), rfl⟩
theorem wd_4_30 : hp_ok (Cond.code ⟨"java/lang/StringBuilder", "append", "(I)Ljava/lang/StringBuilder;"⟩ prog_28_method_15_code 2 (some (.object "java/lang/StringBuilder"))) := ⟨hp_m4 (List.mem_of_getElem? (i := 30) (by decide +kernel)), rfl⟩
theorem kv_J4_append_bf812 : hp_Kv yJ4_append_bf812 cJ4_append_bf812 2 (some (.object "java/lang/StringBuilder")) 1 := ⟨wd_4_28, wd_4_29, wd_1_9, wd_4_30, ⟨by decide, by decide, by decide +kernel⟩, by decide⟩
theorem wd_4_74 : hp_ok (Cond.instanceMethod ⟨"java/lang/StringBuilder", "length", "()I"⟩) := ⟨hp_m4 (List.mem_of_getElem? (i := 74) (by decide +kernel)), rfl⟩
theorem wd_8_205 : hp_ok (Cond.selects "java/lang/StringBuilder" ⟨"java/lang/StringBuilder", "length", "()I"⟩ ⟨"java/lang/StringBuilder", "length", "()I"⟩) := ⟨hp_m8 (List.mem_of_getElem? (i := 205) (by decide +kernel)), rfl⟩
theorem wd_4_75 : hp_ok (Cond.code ⟨"java/lang/StringBuilder", "length", "()I"⟩ prog_28_method_93_code 1 (some .int)) := ⟨hp_m4 (List.mem_of_getElem? (i := 75) (by decide +kernel)), rfl⟩
theorem kv_J4_length_8abf5 : hp_Kv yJ4_length_8abf5 cJ4_length_8abf5 1 (some .int) 0 := ⟨wd_4_74, wd_8_205, wd_1_9, wd_4_75, ⟨by decide, by decide, by decide +kernel⟩, by decide⟩
theorem wd_3_156 : hp_ok (Cond.instanceMethod ⟨"java/lang/StringBuilder", "setLength", "(I)V"⟩) := ⟨hp_m3 (List.mem_of_getElem? (i := 156) (by decide +kernel)), rfl⟩
theorem wd_3_157 : hp_ok (Cond.selects "java/lang/StringBuilder" ⟨"java/lang/StringBuilder", "setLength", "(I)V"⟩ ⟨"java/lang/StringBuilder", "setLength", "(I)V"⟩) := ⟨hp_m3 (List.mem_of_getElem? (i := 157) (by decide +kernel)), rfl⟩
theorem wd_3_158 : hp_ok (Cond.code ⟨"java/lang/StringBuilder", "setLength", "(I)V"⟩ prog_28_method_89_code 2 none) := ⟨hp_m3 (List.mem_of_getElem? (i := 158) (by decide +kernel)), rfl⟩
theorem kv_J4_setLength_d00df : hp_Kv yJ4_setLength_d00df cJ4_setLength_d00df 2 none 1 := ⟨wd_3_156, wd_3_157, wd_1_9, wd_3_158, ⟨by decide, by decide, by decide +kernel⟩, by decide⟩
theorem wd_5_34 : hp_ok (Cond.instanceMethod ⟨"java/lang/StringBuilder", "charAt", "(I)C"⟩) := ⟨hp_m5 (List.mem_of_getElem? (i := 34) (by decide +kernel)), rfl⟩
theorem wd_5_35 : hp_ok (Cond.selects "java/lang/StringBuilder" ⟨"java/lang/StringBuilder", "charAt", "(I)C"⟩ ⟨"java/lang/StringBuilder", "charAt", "(I)C"⟩) := ⟨hp_m5 (List.mem_of_getElem? (i := 35) (by decide +kernel)), rfl⟩
theorem wd_5_36 : hp_ok (Cond.code ⟨"java/lang/StringBuilder", "charAt", "(I)C"⟩ prog_28_method_88_code 2 (some .char)) := ⟨hp_m5 (List.mem_of_getElem? (i := 36) (by decide +kernel)), rfl⟩
theorem kv_J4_charAt_5068e : hp_Kv yJ4_charAt_5068e cJ4_charAt_5068e 2 (some .char) 1 := ⟨wd_5_34, wd_5_35, wd_1_9, wd_5_36, ⟨by decide, by decide, by decide +kernel⟩, by decide⟩
theorem wd_4_38 : hp_ok (Cond.static ⟨"java/lang/Integer", "getChars", "(II[B)I"⟩) := ⟨hp_m4 (List.mem_of_getElem? (i := 38) (by decide +kernel)), rfl⟩
theorem wd_4_39 : hp_ok (Cond.code ⟨"java/lang/Integer", "getChars", "(II[B)I"⟩ prog_23_method_12_code 7 (some .int)) := ⟨hp_m4 (List.mem_of_getElem? (i := 39) (by decide +kernel)), rfl⟩
theorem ks_J6_getChars_ba4f3 : hp_Ks yJ6_getChars_ba4f3 cJ6_getChars_ba4f3 7 (some .int) 3 := ⟨wd_4_38, wd_1_26, wd_4_39, ⟨by decide, by decide, by decide +kernel⟩, by decide⟩
theorem wd_3_190 : hp_ok (Cond.static ⟨"jdk/internal/util/ArraysSupport", "newLength", "(III)I"⟩) := ⟨hp_m3 (List.mem_of_getElem? (i := 190) (by decide +kernel)), rfl⟩
theorem wd_3_191 : hp_ok (Cond.code ⟨"jdk/internal/util/ArraysSupport", "newLength", "(III)I"⟩ prog_38_method_27_code 4 (some .int)) := ⟨hp_m3 (List.mem_of_getElem? (i := 191) (by decide +kernel)), rfl⟩
theorem ks_J8_newLength_cabcc : hp_Ks yJ8_newLength_cabcc cJ8_newLength_cabcc 4 (some .int) 3 := ⟨wd_3_190, wd_1_30, wd_3_191, ⟨by decide, by decide, by decide +kernel⟩, by decide⟩
theorem wd_3_201 : hp_ok (Cond.static ⟨"java/util/Arrays", "copyOf", "([BI)[B"⟩) := ⟨hp_m3 (List.mem_of_getElem? (i := 201) (by decide +kernel)), rfl⟩
theorem wd_3_202 : hp_ok (Cond.code ⟨"java/util/Arrays", "copyOf", "([BI)[B"⟩ prog_36_method_121_code 3 (Option.some (Jvm.ClassFile.FieldType.array Jvm.ClassFile.FieldType.byte))) := ⟨hp_m3 (List.mem_of_getElem? (i := 202) (by decide +kernel)), rfl⟩
theorem ks_J7_copyOf_9075b : hp_Ks yJ7_copyOf_9075b cJ7_copyOf_9075b 3 (some (FieldType.array FieldType.byte)) 2 := ⟨wd_3_201, wd_1_16, wd_3_202, ⟨by decide, by decide, by decide +kernel⟩, by decide⟩
def hp_Ku (y : MethodName) (cc : ByteArray) (nL : Nat) (rt : Option FieldType) (k : Nat) : Prop := hp_ok (.sameMethod y.cls y.cls y.name y.desc) ∧ hp_ok (.instanceMethod y) ∧ hp_ok (.initialized y.cls) ∧ hp_ok (.code y cc nL rt) ∧ (y.name ≠ "<init>" ∧ y.cls ≠ "java/lang/invoke/MethodHandle" ∧ y.cls ≠ "java/lang/invoke/VarHandle" ∧ (parseMethodDescriptor y.desc).map (fun d => d.parameters.length) = some k) ∧ nL ≤ 41
theorem wd_4_238 : hp_ok (Cond.instanceMethod ⟨"java/lang/AbstractStringBuilder", "append", "(C)Ljava/lang/AbstractStringBuilder;"⟩) := ⟨hp_m4 (List.mem_of_getElem? (i := 238) (by decide +kernel)), rfl⟩
theorem wd_4_239 : hp_ok (Cond.code ⟨"java/lang/AbstractStringBuilder", "append", "(C)Ljava/lang/AbstractStringBuilder;"⟩ prog_13_method_31_code 2 (some (.object "java/lang/AbstractStringBuilder"))) := ⟨hp_m4 (List.mem_of_getElem? (i := 239) (by decide +kernel)), rfl⟩
theorem ku_J5_append_3fe6f : hp_Ku yJ5_append_3fe6f cJ5_append_3fe6f 2 (some (.object "java/lang/AbstractStringBuilder")) 1 := ⟨wd_8_204, wd_4_238, wd_1_8, wd_4_239, ⟨by decide, by decide, by decide, by decide +kernel⟩, by decide⟩
theorem wd_4_32 : hp_ok (Cond.instanceMethod ⟨"java/lang/AbstractStringBuilder", "append", "(I)Ljava/lang/AbstractStringBuilder;"⟩) := ⟨hp_m4 (List.mem_of_getElem? (i := 32) (by decide +kernel)), rfl⟩
theorem wd_4_33 : hp_ok (Cond.code ⟨"java/lang/AbstractStringBuilder", "append", "(I)Ljava/lang/AbstractStringBuilder;"⟩ prog_13_method_32_code 4 (some (.object "java/lang/AbstractStringBuilder"))) := ⟨hp_m4 (List.mem_of_getElem? (i := 33) (by decide +kernel)), rfl⟩
theorem ku_J5_append_c97b9 : hp_Ku yJ5_append_c97b9 cJ5_append_c97b9 4 (some (.object "java/lang/AbstractStringBuilder")) 1 := ⟨wd_8_202, wd_4_32, wd_1_8, wd_4_33, ⟨by decide, by decide, by decide, by decide +kernel⟩, by decide⟩
theorem wd_4_71 : hp_ok (Cond.instanceMethod ⟨"java/lang/AbstractStringBuilder", "length", "()I"⟩) := ⟨hp_m4 (List.mem_of_getElem? (i := 71) (by decide +kernel)), rfl⟩
theorem wd_4_77 : hp_ok (Cond.code ⟨"java/lang/AbstractStringBuilder", "length", "()I"⟩ prog_13_method_6_code 1 (some .int)) := ⟨hp_m4 (List.mem_of_getElem? (i := 77) (by decide +kernel)), rfl⟩
theorem ku_J5_length_8abf5 : hp_Ku yJ5_length_8abf5 cJ5_length_8abf5 1 (some .int) 0 := ⟨wd_4_72, wd_4_71, wd_1_8, wd_4_77, ⟨by decide, by decide, by decide, by decide +kernel⟩, by decide⟩
theorem wd_3_160 : hp_ok (Cond.instanceMethod ⟨"java/lang/AbstractStringBuilder", "setLength", "(I)V"⟩) := ⟨hp_m3 (List.mem_of_getElem? (i := 160) (by decide +kernel)), rfl⟩
theorem wd_3_161 : hp_ok (Cond.code ⟨"java/lang/AbstractStringBuilder", "setLength", "(I)V"⟩ prog_13_method_13_code 2 none) := ⟨hp_m3 (List.mem_of_getElem? (i := 161) (by decide +kernel)), rfl⟩
theorem ku_J5_setLength_d00df : hp_Ku yJ5_setLength_d00df cJ5_setLength_d00df 2 none 1 := ⟨wd_8_194, wd_3_160, wd_1_8, wd_3_161, ⟨by decide, by decide, by decide, by decide +kernel⟩, by decide⟩
theorem wd_5_38 : hp_ok (Cond.instanceMethod ⟨"java/lang/AbstractStringBuilder", "charAt", "(I)C"⟩) := ⟨hp_m5 (List.mem_of_getElem? (i := 38) (by decide +kernel)), rfl⟩
theorem wd_5_39 : hp_ok (Cond.code ⟨"java/lang/AbstractStringBuilder", "charAt", "(I)C"⟩ prog_13_method_14_code 5 (some .char)) := ⟨hp_m5 (List.mem_of_getElem? (i := 39) (by decide +kernel)), rfl⟩
theorem ku_J5_charAt_5068e : hp_Ku yJ5_charAt_5068e cJ5_charAt_5068e 5 (some .char) 1 := ⟨wd_8_206, wd_5_38, wd_1_8, wd_5_39, ⟨by decide, by decide, by decide, by decide +kernel⟩, by decide⟩
theorem wd_3_213 : hp_ok (Cond.instanceMethod ⟨"java/lang/AbstractStringBuilder", "isLatin1", "()Z"⟩) := ⟨hp_m3 (List.mem_of_getElem? (i := 213) (by decide +kernel)), rfl⟩
theorem wd_3_216 : hp_ok (Cond.code ⟨"java/lang/AbstractStringBuilder", "isLatin1", "()Z"⟩ prog_13_method_68_code 1 (some .boolean)) := ⟨hp_m3 (List.mem_of_getElem? (i := 216) (by decide +kernel)), rfl⟩
theorem ku_J5_isLatin1_aae02 : hp_Ku yJ5_isLatin1_aae02 cJ5_isLatin1_aae02 1 (some .boolean) 0 := ⟨wd_3_214, wd_3_213, wd_1_8, wd_3_216, ⟨by decide, by decide, by decide, by decide +kernel⟩, by decide⟩
theorem wd_3_183 : hp_ok (Cond.instanceMethod ⟨"java/lang/AbstractStringBuilder", "ensureCapacityInternal", "(I)V"⟩) := ⟨hp_m3 (List.mem_of_getElem? (i := 183) (by decide +kernel)), rfl⟩
theorem wd_3_184 : hp_ok (Cond.code ⟨"java/lang/AbstractStringBuilder", "ensureCapacityInternal", "(I)V"⟩ prog_13_method_9_code 3 none) := ⟨hp_m3 (List.mem_of_getElem? (i := 184) (by decide +kernel)), rfl⟩
theorem ku_J5_ensureCapacityInternal_d00df : hp_Ku yJ5_ensureCapacityInternal_d00df cJ5_ensureCapacityInternal_d00df 3 none 1 := ⟨wd_8_197, wd_3_183, wd_1_8, wd_3_184, ⟨by decide, by decide, by decide, by decide +kernel⟩, by decide⟩
theorem wd_3_187 : hp_ok (Cond.instanceMethod ⟨"java/lang/AbstractStringBuilder", "newCapacity", "(I)I"⟩) := ⟨hp_m3 (List.mem_of_getElem? (i := 187) (by decide +kernel)), rfl⟩
theorem wd_3_188 : hp_ok (Cond.code ⟨"java/lang/AbstractStringBuilder", "newCapacity", "(I)I"⟩ prog_13_method_10_code 6 (some .int)) := ⟨hp_m3 (List.mem_of_getElem? (i := 188) (by decide +kernel)), rfl⟩
theorem ku_J5_newCapacity_0f7a4 : hp_Ku yJ5_newCapacity_0f7a4 cJ5_newCapacity_0f7a4 6 (some .int) 1 := ⟨wd_8_198, wd_3_187, wd_1_8, wd_3_188, ⟨by decide, by decide, by decide, by decide +kernel⟩, by decide⟩
theorem hp_supb : hp_ok (.superclass "java/lang/StringBuilder" "java/lang/AbstractStringBuilder") := ⟨hp_m1 (List.mem_of_getElem? (i := 236) (by decide +kernel)), rfl⟩
theorem hp_insb : hp_ok (.instantiable "java/lang/StringBuilder" 4) := ⟨hp_m1 (List.mem_of_getElem? (i := 206) (by decide +kernel)), rfl⟩
theorem wd_3_215 : hp_ok (Cond.selects "java/lang/StringBuilder" ⟨"java/lang/AbstractStringBuilder", "isLatin1", "()Z"⟩ ⟨"java/lang/AbstractStringBuilder", "isLatin1", "()Z"⟩) := ⟨hp_m3 (List.mem_of_getElem? (i := 215) (by decide +kernel)), rfl⟩
theorem hp_selb : hp_ok (.selects "java/lang/StringBuilder" yJ5_isLatin1_aae02 yJ5_isLatin1_aae02) := wd_3_215
theorem hp_prv_ensureCapacityInternal : Cond.privateMethod yJ5_ensureCapacityInternal_d00df ∈ lw_tbl := hp_m3 (List.mem_of_getElem? (i := 182) (by decide +kernel))
theorem hp_prv_newCapacity : Cond.privateMethod yJ5_newCapacity_0f7a4 ∈ lw_tbl := hp_m3 (List.mem_of_getElem? (i := 186) (by decide +kernel))
theorem wd_3_193 : hp_ok (Cond.static ⟨"java/lang/Math", "max", "(II)I"⟩) := ⟨hp_m3 (List.mem_of_getElem? (i := 193) (by decide +kernel)), rfl⟩
theorem hp_maxw : hp_ok (.static Lib.Math.max.name) ∧ hp_ok (.initialized "java/lang/Math") ∧ hp_ok (.code Lib.Math.max.name Lib.Math.max.code 2 (some .int)) := ⟨wd_3_193, wd_1_14, ⟨hp_m3 (List.mem_of_getElem? (i := 194) (by decide +kernel)), rfl⟩⟩
theorem hp_acb : hp_ok (.arrayClass .byte) := ⟨(by decide +kernel : Cond.arrayClass .byte ∈ lw_tbl), rfl⟩
theorem in_J4 : ∀ w ∈ u_ws RJ4 TJ4 4, hp_ok w := fun w h => ⟨(by decide +kernel : ∀ w ∈ u_ws RJ4 TJ4 4, w ∈ lw_tbl) w h, (by decide +kernel : ∀ w ∈ u_ws RJ4 TJ4 4, goodWord w = true) w h⟩
def hp_IJ (ids : List (Nat × Nat)) : Prop := (14, 0) ∈ ids ∧ (14, 1) ∈ ids ∧ ∀ q ∈ ids, q.1 < 15
def hp_IB (ids : List (Nat × Nat)) : Prop := hp_IC ids ∧ hp_IJ ids
/-- the same addresses, but for the report's row of bytes -/
def hp_sim (a b : Nat → Nat → Nat) : Prop := ∀ g j : Nat, ¬ (g = 14 ∧ j = 1) → b g j = a g j
theorem hp_sim.rf {a : Nat → Nat → Nat} : hp_sim a a := fun _ _ _ => rfl
theorem hp_sim.tr {a b c : Nat → Nat → Nat} (h : hp_sim a b) (h2 : hp_sim b c) : hp_sim a c := fun g j n => (h2 g j n).trans (h g j n)
abbrev hp_rmG (d k : Nat) : Room := { frames := d, cells := k, slots := 200 * k, locals := 60 * d }
abbrev hp_ob : hp_ov Unit := fun adr _ _ => some (.ref (adr 14 0))
def hp_QG {ρ : Type} (A : Nat → Prop) (D : va_G) (ids : List (Nat × Nat)) (adr : Nat → Nat → Nat) (adV cA : Nat → Nat) (ov : hp_ov ρ) (G : Option (ρ × hp_M)) : Array Value → State → Outcome → State → Prop := fun _ st oc t => (∃ (r : ρ) (M' : hp_M) (adr' : Nat → Nat → Nat), oc = .returned (ov adr' adV r) ∧ hp_sim adr adr' ∧ G = some (r, M') ∧ hp_W A D ids adr' adV cA M' none t.heap) ∧ va_F A st t
/-- a method that may make the report's row of bytes anew, at most k times -/
def hp_CtG {ρ : Type} (l : Launch) (y : MethodName) (cc : ByteArray) (nL : Nat) (rt : Option FieldType) (d k : Nat) (I : List (Nat × Nat) → Prop) (av : hp_av) (ov : hp_ov ρ) (M : hp_M) (G : Option (ρ × hp_M)) : Prop :=
  ∀ (A : Nat → Prop) (D : va_G) (ids : List (Nat × Nat)) (adr : Nat → Nat → Nat) (adV cA : Nat → Nat), I ids → G ≠ none →
    Met l y [Cond.code y cc nL rt] (hp_rmG d k) (va_Pc (av adr adV) (hp_Pre A D ids adr adV cA M none)) (hp_QG A D ids adr adV cA ov G) k (200 * k) A
theorem hp_startG {ρ : Type} {l : Launch} {y : MethodName} {cc : ByteArray} {nL : Nat} {rt : Option FieldType} {d k : Nat} {I : List (Nat × Nat) → Prop} {av : hp_av} {ov : hp_ov ρ} {M : hp_M} {G : Option (ρ × hp_M)} (own : String) (L0 : (Nat → Nat → Nat) → (Nat → Nat) → List (Nat × Value)) (hy : plainName y.cls = true) (hown : y.cls = own) (hlen : ∀ adr adV, (lg_sl (av adr adV)).length ≤ nL) (hL0 : ∀ adr adV, lv_args 0 (av adr adV) = L0 adr adV)
    (body : ∀ (p : Program) (e : Env) (s : State) (m : MethodId) (args : Array Value) (below : List Frame) (meth : Method) (c : Code) (A : Nat → Prop) (D : va_G) (ids : List (Nat × Nat)) (adr : Nat → Nat → Nat) (adV cA : Nat → Nat) (G0 : Option (ρ × hp_M)), I ids → hp_Cx p s m meth c cc nL own A D adV cA G0 → meth.sig.returnType = rt →
      hp_Z p l e (hp_rmG d k) s m args below meth c nL A D ids adr adV cA 0 0 (MQ below (hp_QG A D ids adr adV cA ov G0) args s k (200 * k) A) G0 none 0 (L0 adr adV) [] M G) : hp_CtG l y cc nL rt d k I av ov M G := by
  intro A D ids adr adV cA hI hG
  refine Met.ofW (cc := cc) (maxL := nL) (ret := rt) hy rfl ?_
  intro p e s m args below meth c s₁ B hml hv
  obtain ⟨rfl, hT, hA, hW⟩ := hv
  have hl := lv_entry (av adr adV) (n := nL) (hlen adr adV)
  rw [hL0] at hl
  rw [lg_entry_eq]
  subst hown
  exact body p e s m _ below meth c A D ids adr adV cA G hI ⟨B.exec, B.bytes, hml, findClass_of_methodNamed B.named, hT, hA, B.notSynchronized, hG⟩ B.returns s.heap [] _ rfl hW va_S.rf hl
section HPB
variable {p : Program} {l : Launch} {e : Env} {R : Room} {s : State} {m : MethodId} {args : Array Value} {below : List Frame} {meth : Method} {c : Code} {cells slots K0 S0 : Nat} {Q : State → Prop}
variable {cc : ByteArray} {nL : Nat} {own : String} {A : Nat → Prop} {D : va_G} {ids : List (Nat × Nat)} {adr adr0 : Nat → Nat → Nat} {adV cA : Nat → Nat} {α ρ : Type} {G0 G : Option α} {M : hp_M} {rep : hp_T} {pc n : Nat} {L : List (Nat × Value)} {st : List Value} {H : Heap} {locs : List Loc}
theorem he_J4 (f : Nat → Int32) : hp_c adr adV cA 14 0 f = .inr (1, hp_FB adr f) := rfl
theorem ha_b1 (f : Nat → Int32) : hp_c adr adV cA 14 1 f = .inl (cA 2, (f 5000).toNatClampNeg, .inl f) := rfl
theorem hp_selA {y : MethodName} (h : hp_Tab A D adV cA s H) (hc : y.cls = "java/lang/AbstractStringBuilder") (hp : Cond.privateMethod y ∈ lw_tbl) (hi : hp_ok (.instanceMethod y)) (args : Array Value) : (Cond.selects "java/lang/StringBuilder" y y).before args s = true := by
  obtain ⟨u0, b0, h1, -, h3, -⟩ := h
  refine word_at h3 (good_of_word (w := Cond.selects "java/lang/StringBuilder" y y) rfl) (?_ : (Cond.selects "java/lang/StringBuilder" y y).before #[Value.ref b0] u0 = true)
  obtain ⟨c2, r2, m2, q1, q2, q3, q4, kP, hkP, hkPi⟩ := Cond.selects_spec (h1 _ hp_selb.1)
  obtain ⟨mk, methM, hnamed, hmethM, -, -⟩ := Cond.instanceMethod_spec (h1 _ hi.1)
  have hfound : u0.methodFound? y.cls y.name y.desc = some mk := State.methodFound?_of_named hnamed (by rw [hc]; exact ⟨by decide, by decide⟩)
  have hcls : mk.cls = m2.cls := by
    have h1 := findClass_of_methodNamed hnamed
    have h2 := findClass_of_methodNamed q3
    rw [hc] at h1
    exact Option.some.inj (h1.symm.trans h2)
  have hsel : selectMethod {} u0.vm c2 mk = .method mk := selectMethod_private hmethM (Cond.privateMethod_at (h1 _ hp) mk methM hnamed hmethM)
  rw [← hcls] at hkP
  simp only [Cond.before, Cond.holds, Cond.value, q1, hfound, hnamed, hsel, hkP]
  simp; exact hkPi

theorem hz_widen {k0 s0 : Nat} (hc : cells ≤ k0 ∧ slots ≤ s0) (k : hp_Z p l e R s m args below meth c nL A D ids adr adV cA (k0) (s0) Q G0 rep pc L st M G) : hp_Z p l e R s m args below meth c nL A D ids adr adV cA (cells) (slots) Q G0 rep pc L st M G := fun H locs ls hG hW hS hL => W.widen hc.1 hc.2 (k H locs ls hG hW hS hL)
theorem hz_i2b (hC : hp_Cx p s m meth c cc nL own A D adV cA G0) {x : Int32} (hdg : decode cc pc = .ok (.i2b, 1)) (hn : pc + 1 = n) (k : hp_Z p l e R s m args below meth c nL A D ids adr adV cA (cells) (slots) Q G0 rep n L (.int x.toInt8.toInt32 :: st) M G) : hp_Z p l e R s m args below meth c nL A D ids adr adV cA (cells) (slots) Q G0 rep pc L (.int x :: st) M G := by
  subst hn
  exact fun H locs ls hG hW hS hL => lv_i2b hC.1 hC.2.1 hdg rfl (k H locs ls hG hW hS hL)
theorem hz_alenB (hC : hp_Cx p s m meth c cc nL own A D adV cA G0) {d : Decidable (M 14 1 5000 < 0)} (hdg : decode cc pc = .ok (.arraylength, 1)) (hq : (14, 1) ∈ ids) (hn : pc + 1 = n) (kk : ¬ M 14 1 5000 < 0 → hp_Z p l e R s m args below meth c nL A D ids adr adV cA (cells) (slots) Q G0 rep n L (.int (M 14 1 5000) :: st) M G) : hp_Z p l e R s m args below meth c nL A D ids adr adV cA (cells) (slots) Q G0 rep pc L (.ref (adr 14 1) :: st) M (@ite (Option α) (M 14 1 5000 < 0) d none G) := by
  subst hn
  refine hz_chk hC (fun h0 H locs ls hG hW hS hL => ?_)
  obtain ⟨tl, hsb, hP, hD⟩ := id hW
  obtain ⟨q, hq2, -⟩ := hp_wl_at hD hq
  rw [ha_b1] at hq2
  obtain ⟨u0, b0, -, -, -, -, hK, -⟩ := id hC.2.2.2.2.1
  obtain ⟨j, hj, e⟩ := nI_of h0
  exact va_alen hC.1 hC.2.1 hK hP q 2 hq2 rfl (by rw [e, nI_clamp hj]; rfl) hdg (kk h0 H locs ls hG hW hS hL)
theorem hz_baldB (hC : hp_Cx p s m meth c cc nL own A D adV cA G0) {i : Int32} {d : Decidable (i < 0 ∨ (M 14 1 5000).toNatClampNeg ≤ i.toNatClampNeg)} (hdg : decode cc pc = .ok (.baload, 1)) (hq : (14, 1) ∈ ids) (hn : pc + 1 = n) (kk : ¬ (i < 0 ∨ (M 14 1 5000).toNatClampNeg ≤ i.toNatClampNeg) → hp_Z p l e R s m args below meth c nL A D ids adr adV cA (cells) (slots) Q G0 rep n L (.int (M 14 1 i.toNatClampNeg) :: st) M G) : hp_Z p l e R s m args below meth c nL A D ids adr adV cA (cells) (slots) Q G0 rep pc L (.int i :: .ref (adr 14 1) :: st) M (@ite (Option α) (i < 0 ∨ (M 14 1 5000).toNatClampNeg ≤ i.toNatClampNeg) d none G) := by
  subst hn
  refine hz_chk hC (fun h0 H locs ls hG hW hS hL => ?_)
  obtain ⟨tl, hsb, hP, hD⟩ := id hW
  obtain ⟨q, hq2, -⟩ := hp_wl_at hD hq
  rw [ha_b1] at hq2
  obtain ⟨u0, b0, -, -, -, -, hK, -⟩ := id hC.2.2.2.2.1
  exact va_bald hC.1 hC.2.1 hK hP q 2 hq2 rfl h0 hdg (kk h0 H locs ls hG hW hS hL)
theorem hz_bastB (hC : hp_Cx p s m meth c cc nL own A D adV cA G0) {i x : Int32} {d : Decidable (i < 0 ∨ (M 14 1 5000).toNatClampNeg ≤ i.toNatClampNeg ∨ 5000 ≤ i.toNatClampNeg)} (hdg : decode cc pc = .ok (.bastore, 1)) (hq : (14, 1) ∈ ids) (hn : pc + 1 = n) (kk : hp_Z p l e R s m args below meth c nL A D ids adr adV cA (cells) (slots) Q G0 rep n L st (hp_p M 14 1 i.toNatClampNeg (vp_nar .byte x)) G) : hp_Z p l e R s m args below meth c nL A D ids adr adV cA (cells) (slots) Q G0 rep pc L (.int x :: .int i :: .ref (adr 14 1) :: st) M (@ite (Option α) (i < 0 ∨ (M 14 1 5000).toNatClampNeg ≤ i.toNatClampNeg ∨ 5000 ≤ i.toNatClampNeg) d none G) := by
  subst hn
  refine hz_chk hC (fun h0 H locs ls hG hW hS hL => ?_)
  obtain ⟨tl, hsb, hP, hD⟩ := id hW
  obtain ⟨q, hq2, hset⟩ := hp_wl_at hD hq
  rw [ha_b1] at hq2
  obtain ⟨u0, b0, -, -, -, -, hK, -⟩ := id hC.2.2.2.2.1
  refine va_bast hC.1 hC.2.1 hK hP hD hS q 2 hq2 rfl (fun h => h0 (h.elim Or.inl (fun h => Or.inr (Or.inl h)))) hdg (fun H1 locs1 hP1 hD1 hS1 => ?_)
  have h9 := hset (upd (M 14 1) i.toNatClampNeg (vp_nar .byte x))
  have hne : upd (M 14 1) i.toNatClampNeg (vp_nar .byte x) 5000 = M 14 1 5000 := pk_un (fun h => h0 (Or.inr (Or.inr (by omega))))
  rw [ha_b1, hne] at h9
  rw [h9, hp_p_sr] at hP1 hD1
  exact kk H1 locs1 ls hG ⟨tl, hsb, hP1, hD1⟩ hS1 hL
theorem hz_max (hC : hp_Cx p s m meth c cc nL own A D adV cA G0) {idx : Nat} {x y : Int32} (hdg : decode cc pc = .ok (.invokestatic idx, 3)) (hl : hp_ok (.methodLink own idx Lib.Math.max.name)) (hw : hp_ok (.static Lib.Math.max.name) ∧ hp_ok (.initialized "java/lang/Math") ∧ hp_ok (.code Lib.Math.max.name Lib.Math.max.code 2 (some .int))) (hR : 1 ≤ R.frames ∧ (st.map fun v => v.category).sum + 13 ≤ R.locals ∧ cells ≤ R.cells ∧ slots ≤ R.slots) (hn : pc + 3 = n) (kk : hp_Z p l e R s m args below meth c nL A D ids adr adV cA (cells) (slots) Q G0 rep n L (.int (if x < y then y else x) :: st) M G) : hp_Z p l e R s m args below meth c nL A D ids adr adV cA (cells) (slots) Q G0 rep pc L (.int y :: .int x :: st) M G := by
  subst hn
  intro H locs ls hG hW hS hL
  have hT := hC.2.2.2.2.1
  exact va_mmax hC.1 hC.2.1 (hC.2.2.1.trans hL.1.symm) hC.2.2.2.1 (hp_wd hT hl args) (hp_wd hT hw.1 args) (hp_wd hT hw.2.1 args) (hp_wd hT hw.2.2 args) hR.1 hR.2.1 hR.2.2.1 hR.2.2.2 hdg (kk H locs ls hG hW hS hL)
theorem hp_callRG {ov : hp_ov ρ} {G1 : Option (ρ × hp_M)} {ls : Array Slot} {st0 : List Value} {a : Array Value} {mc ms : Nat} (hr : va_Run p l e R s m args below meth c H locs cells slots mc ms (F0 m pc ls st0) st (hp_QG A D ids adr adV cA ov G1 a) A) (hS : va_S A s.heap H locs)
    (kk : ∀ (r : ρ) (M' : hp_M) (adr' : Nat → Nat → Nat) (H1 : Heap) (locs1 : List Loc), G1 = some (r, M') → hp_sim adr adr' → hp_W A D ids adr' adV cA M' none H1 → va_S A s.heap H1 locs1 → W p l e R s m args below meth c H1 locs1 (cells + mc) (slots + ms) Q (F0 m (pc + 3) ls ((ov adr' adV r).toList ++ st))) : W p l e R s m args below meth c H locs cells slots Q (F0 m pc ls st0) := by
  intro T hT X
  obtain ⟨v, st₀, t, T', L, h0, X', hL, e1, e2, ⟨⟨r, M', adr', hv, hs, hg, hw⟩, hz, hk⟩, st⟩ := hr T hT X
  cases hv
  rw [h0] at hz hk
  obtain ⟨t2, a1, b1⟩ := kk r M' adr' T'.heap (locs ++ L) hg hs (by rw [e1]; exact hw)
    ⟨Nat.le_trans hS.1 (by rw [e1]; exact hz), fun q h1 h2 => by rw [e1, hk q (Nat.lt_of_lt_of_le h1 hS.1) h2]; exact hS.2.1 q h1 h2, fun q hq => by
      rcases List.mem_append.mp hq with h | h
      · exact hS.2.2 q h
      · exact hL q h⟩ T' rfl X'
  exact ⟨t2, st t2 a1, b1⟩
theorem hp_codeIn {y : MethodName} {cc1 : ByteArray} {nL1 : Nat} {rt1 : Option FieldType} (hT : hp_Tab A D adV cA s H) (hco : hp_ok (.code y cc1 nL1 rt1)) : ∀ w ∈ [Cond.code y cc1 nL1 rt1], ∀ (a' : Array Value) (U : State), s.WarmedH U.vm → w.before a' U = true := by
  intro w hw a' U hWm
  rcases List.mem_singleton.mp hw with rfl
  exact word_at hWm (good_of_word hco.2) (hp_wd hT hco #[])
theorem hz_callVU (hC : hp_Cx p s m meth c cc nL own A D adV cA G0) {y : MethodName} {cc1 : ByteArray} {nL1 k d1 idx : Nat} {rt1 : Option FieldType} {I : List (Nat × Nat) → Prop} {av : hp_av} {ov : hp_ov ρ} {G1 : Option (ρ × hp_M)} {K : ρ → hp_M → Option α} {As st0 : List Value} {S1 : ρ → List Value} (hct : hp_Ct l y cc1 nL1 rt1 d1 I av ov M G1) (hk : hp_Ku y cc1 nL1 rt1 k) (hl : hp_ok (.methodLink own idx y)) (hsel : (Cond.selects "java/lang/StringBuilder" y y).before args s = true) (hI : I ids) (hdg : decode cc pc = .ok (.invokevirtual idx, 3)) (hav : av adr adV = .ref (adr 14 0) :: As) (hq : (14, 0) ∈ ids) (hlen : As.length = k) (hst : st0 = As.reverse ++ .ref (adr 14 0) :: st) (hcat : (st.map fun v => v.category).sum ≤ 8) (hR : d1 + 1 ≤ R.frames ∧ 60 * d1 + 60 ≤ R.locals) (hf : cells + 0 ≤ R.cells ∧ slots + 0 ≤ R.slots) (hs1 : ∀ r, (ov adr adV r).toList ++ st = S1 r) (hn : pc + 3 = n) (kk : ∀ (r : ρ) (M' : hp_M), G1 = some (r, M') → hp_Z p l e R s m args below meth c nL A D ids adr adV cA (cells) (slots) Q G0 rep n L (S1 r) M' (K r M')) : hp_Z p l e R s m args below meth c nL A D ids adr adV cA (cells) (slots) Q G0 rep pc L st0 M (hp_b G1 K) := by
  subst hn
  intro H locs ls hG hW hS hL
  have hne : G1 ≠ none := fun h => hC.2.2.2.2.2.2.2 (by rw [← hG, h]; rfl)
  have he := he_J4 (adr := adr) (adV := adV) (cA := cA)
  obtain ⟨tl, hsb, hP, hD⟩ := id hW
  obtain ⟨q, hq2, -⟩ := hp_wl_at hD hq
  rw [he] at hq2
  obtain ⟨u0, b0, -, -, -, -, hK, -⟩ := id hC.2.2.2.2.1
  have hT := hC.2.2.2.2.1
  have hCU : va_CU R s args own "java/lang/StringBuilder" y.cls idx y y cc1 nL1 rt1 [Cond.code y cc1 nL1 rt1] (hp_rm d1) 0 0 k := by
    refine ⟨⟨rfl, rfl, hR.1, ?_, hp_codeIn hT hk.2.2.2.1, List.mem_cons_self⟩, hp_wd hT hk.2.2.2.1 args, hp_wd hT hk.2.2.1 args, ⟨hk.2.2.2.2.1.2.1, hk.2.2.2.2.1.2.2.1⟩, fun sig h => ?_, hp_wd hT hl args, hp_wd hT hk.1 args, va_Decl.of (hp_wd hT hk.2.1 args) (hp_wd hT hk.2.2.2.1 args), hsel, hp_wd hT hk.2.1 args⟩
    · have := hk.2.2.2.2.2
      show 8 + (nL1 + 11) + 60 * d1 ≤ R.locals
      omega
    · have h2 := hk.2.2.2.2.1.2.2.2
      rw [h] at h2
      exact (Option.some.inj h2).symm
  exact hp_callR (va_runU (As := As) (rest := st) ⟨hC.1, hC.2.1, hC.2.2.1, hC.2.2.2.1, fun w h => absurd h List.not_mem_nil⟩ (Ts := []) (hct A D ids adr adV cA rep hI hne) hCU ⟨hp_blind, va_recv hK hP (show vwCl[1]? = some ("java/lang/StringBuilder", TJ4, 4) from rfl) hq2, hp_pre hC hS hW (by rw [hav])⟩ rfl hlen hL.1 hst (lv_room hcat) hdg hf) hS (fun r M' H1 locs1 hg hw1 hS1 => by rw [hs1]; exact kk r M' hg H1 locs1 ls (by rw [← hG, hg]; rfl) hw1 hS1 hL)
theorem hz_callSU (hC : hp_Cx p s m meth c cc nL own A D adV cA G0) {y : MethodName} {cc1 : ByteArray} {nL1 k d1 idx : Nat} {rt1 : Option FieldType} {I : List (Nat × Nat) → Prop} {av : hp_av} {ov : hp_ov ρ} {G1 : Option (ρ × hp_M)} {K : ρ → hp_M → Option α} {As st0 : List Value} {S1 : ρ → List Value} (hown : own = "java/lang/StringBuilder") (hyc : y.cls = "java/lang/AbstractStringBuilder") (hct : hp_Ct l y cc1 nL1 rt1 d1 I av ov M G1) (hk : hp_Ku y cc1 nL1 rt1 k) (hl : hp_ok (.methodLink own idx y)) (hI : I ids) (hdg : decode cc pc = .ok (.invokespecial idx, 3)) (hav : av adr adV = .ref (adr 14 0) :: As) (hq : (14, 0) ∈ ids) (hlen : As.length = k) (hst : st0 = As.reverse ++ .ref (adr 14 0) :: st) (hcat : (st.map fun v => v.category).sum ≤ 8) (hR : d1 + 1 ≤ R.frames ∧ 60 * d1 + 60 ≤ R.locals) (hf : cells + 0 ≤ R.cells ∧ slots + 0 ≤ R.slots) (hs1 : ∀ r, (ov adr adV r).toList ++ st = S1 r) (hn : pc + 3 = n) (kk : ∀ (r : ρ) (M' : hp_M), G1 = some (r, M') → hp_Z p l e R s m args below meth c nL A D ids adr adV cA (cells) (slots) Q G0 rep n L (S1 r) M' (K r M')) : hp_Z p l e R s m args below meth c nL A D ids adr adV cA (cells) (slots) Q G0 rep pc L st0 M (hp_b G1 K) := by
  subst hn; subst hown
  intro H locs ls hG hW hS hL
  have hne : G1 ≠ none := fun h => hC.2.2.2.2.2.2.2 (by rw [← hG, h]; rfl)
  have he := he_J4 (adr := adr) (adV := adV) (cA := cA)
  obtain ⟨tl, hsb, hP, hD⟩ := id hW
  obtain ⟨q, hq2, -⟩ := hp_wl_at hD hq
  rw [he] at hq2
  obtain ⟨u0, b0, -, -, -, -, hK, -⟩ := id hC.2.2.2.2.1
  have hT := hC.2.2.2.2.1
  have hCS : va_CS R s args "java/lang/StringBuilder" idx y cc1 nL1 rt1 [Cond.code y cc1 nL1 rt1] (hp_rm d1) 0 0 k := by
    refine ⟨⟨rfl, rfl, hR.1, ?_, hp_codeIn hT hk.2.2.2.1, List.mem_cons_self⟩, hp_wd hT hl args, hp_wd hT hk.1 args, by rw [hyc]; exact hp_wd hT hp_supb args, hp_wd hT hk.2.1 args, hp_wd hT hk.2.2.1 args, hp_wd hT hk.2.2.2.1 args, hk.2.2.2.2.1.1, fun sig h => ?_⟩
    · have := hk.2.2.2.2.2
      show 8 + (nL1 + 11) + 60 * d1 ≤ R.locals
      omega
    · have h2 := hk.2.2.2.2.1.2.2.2
      rw [h] at h2
      exact (Option.some.inj h2).symm
  exact hp_callR (va_runSU (As := As) (rest := st) (hK.1 1 ("java/lang/StringBuilder", TJ4, 4) rfl).2 ⟨hC.1, hC.2.1, hC.2.2.1, hC.2.2.2.1, fun w h => absurd h List.not_mem_nil⟩ (Ts := []) (hct A D ids adr adV cA rep hI hne) hCS ⟨hp_blind, va_recv hK hP (show vwCl[1]? = some ("java/lang/StringBuilder", TJ4, 4) from rfl) hq2, hp_pre hC hS hW (by rw [hav])⟩ rfl hlen hL.1 hst (lv_room hcat) hdg hf) hS (fun r M' H1 locs1 hg hw1 hS1 => by rw [hs1]; exact kk r M' hg H1 locs1 ls (by rw [← hG, hg]; rfl) hw1 hS1 hL)
theorem hz_callVUG (hC : hp_Cx p s m meth c cc nL own A D adV cA G0) {y : MethodName} {cc1 : ByteArray} {nL1 k d1 idx : Nat} {rt1 : Option FieldType} {I : List (Nat × Nat) → Prop} {av : hp_av} {ov : hp_ov ρ} {G1 : Option (ρ × hp_M)} {K : ρ → hp_M → Option α} {As st0 : List Value} {k1 : Nat} {S1 : (Nat → Nat → Nat) → ρ → List Value} {LF : (Nat → Nat → Nat) → List (Nat × Value)} (hct : hp_CtG l y cc1 nL1 rt1 d1 k1 I av ov M G1) (hk : hp_Ku y cc1 nL1 rt1 k) (hl : hp_ok (.methodLink own idx y)) (hsel : (Cond.selects "java/lang/StringBuilder" y y).before args s = true) (hI : I ids) (hdg : decode cc pc = .ok (.invokevirtual idx, 3)) (hav : av adr adV = .ref (adr 14 0) :: As) (hq : (14, 0) ∈ ids) (hlen : As.length = k) (hst : st0 = As.reverse ++ .ref (adr 14 0) :: st) (hcat : (st.map fun v => v.category).sum ≤ 8) (hR : d1 + 1 ≤ R.frames ∧ 60 * d1 + 60 ≤ R.locals) (hf : cells + k1 ≤ R.cells ∧ slots + 200 * k1 ≤ R.slots) (hLF : ∀ adr', hp_sim adr adr' → LF adr' = L) (hs1 : ∀ adr' r, hp_sim adr adr' → (ov adr' adV r).toList ++ st = S1 adr' r) (hn : pc + 3 = n) (kk : ∀ (r : ρ) (M' : hp_M) (adr' : Nat → Nat → Nat), G1 = some (r, M') → hp_sim adr adr' → hp_Z p l e R s m args below meth c nL A D ids adr' adV cA (cells + k1) (slots + 200 * k1) Q G0 none n (LF adr') (S1 adr' r) M' (K r M')) : hp_Z p l e R s m args below meth c nL A D ids adr adV cA (cells) (slots) Q G0 none pc L st0 M (hp_b G1 K) := by
  subst hn
  intro H locs ls hG hW hS hL
  have hne : G1 ≠ none := fun h => hC.2.2.2.2.2.2.2 (by rw [← hG, h]; rfl)
  have he := he_J4 (adr := adr) (adV := adV) (cA := cA)
  obtain ⟨tl, hsb, hP, hD⟩ := id hW
  obtain ⟨q, hq2, -⟩ := hp_wl_at hD hq
  rw [he] at hq2
  obtain ⟨u0, b0, -, -, -, -, hK, -⟩ := id hC.2.2.2.2.1
  have hT := hC.2.2.2.2.1
  have hCU : va_CU R s args own "java/lang/StringBuilder" y.cls idx y y cc1 nL1 rt1 [Cond.code y cc1 nL1 rt1] (hp_rmG d1 k1) k1 (200 * k1) k := by
    refine ⟨⟨rfl, rfl, hR.1, ?_, hp_codeIn hT hk.2.2.2.1, List.mem_cons_self⟩, hp_wd hT hk.2.2.2.1 args, hp_wd hT hk.2.2.1 args, ⟨hk.2.2.2.2.1.2.1, hk.2.2.2.2.1.2.2.1⟩, fun sig h => ?_, hp_wd hT hl args, hp_wd hT hk.1 args, va_Decl.of (hp_wd hT hk.2.1 args) (hp_wd hT hk.2.2.2.1 args), hsel, hp_wd hT hk.2.1 args⟩
    · have := hk.2.2.2.2.2
      show 8 + (nL1 + 11) + 60 * d1 ≤ R.locals
      omega
    · have h2 := hk.2.2.2.2.1.2.2.2
      rw [h] at h2
      exact (Option.some.inj h2).symm
  exact hp_callRG (va_runU (As := As) (rest := st) ⟨hC.1, hC.2.1, hC.2.2.1, hC.2.2.2.1, fun w h => absurd h List.not_mem_nil⟩ (Ts := []) (hct A D ids adr adV cA hI hne) hCU ⟨hp_blind, va_recv hK hP (show vwCl[1]? = some ("java/lang/StringBuilder", TJ4, 4) from rfl) hq2, hp_pre hC hS hW (by rw [hav])⟩ rfl hlen hL.1 hst (lv_room hcat) hdg hf) hS (fun r M' adr' H1 locs1 hg hs hw1 hS1 => by rw [hs1 adr' r hs]; exact kk r M' adr' hg hs H1 locs1 ls (by rw [← hG, hg]; rfl) hw1 hS1 (by rw [hLF adr' hs]; exact hL))
theorem hz_callSUG (hC : hp_Cx p s m meth c cc nL own A D adV cA G0) {y : MethodName} {cc1 : ByteArray} {nL1 k d1 idx : Nat} {rt1 : Option FieldType} {I : List (Nat × Nat) → Prop} {av : hp_av} {ov : hp_ov ρ} {G1 : Option (ρ × hp_M)} {K : ρ → hp_M → Option α} {As st0 : List Value} {k1 : Nat} {S1 : (Nat → Nat → Nat) → ρ → List Value} {LF : (Nat → Nat → Nat) → List (Nat × Value)} (hown : own = "java/lang/StringBuilder") (hyc : y.cls = "java/lang/AbstractStringBuilder") (hct : hp_CtG l y cc1 nL1 rt1 d1 k1 I av ov M G1) (hk : hp_Ku y cc1 nL1 rt1 k) (hl : hp_ok (.methodLink own idx y)) (hI : I ids) (hdg : decode cc pc = .ok (.invokespecial idx, 3)) (hav : av adr adV = .ref (adr 14 0) :: As) (hq : (14, 0) ∈ ids) (hlen : As.length = k) (hst : st0 = As.reverse ++ .ref (adr 14 0) :: st) (hcat : (st.map fun v => v.category).sum ≤ 8) (hR : d1 + 1 ≤ R.frames ∧ 60 * d1 + 60 ≤ R.locals) (hf : cells + k1 ≤ R.cells ∧ slots + 200 * k1 ≤ R.slots) (hLF : ∀ adr', hp_sim adr adr' → LF adr' = L) (hs1 : ∀ adr' r, hp_sim adr adr' → (ov adr' adV r).toList ++ st = S1 adr' r) (hn : pc + 3 = n) (kk : ∀ (r : ρ) (M' : hp_M) (adr' : Nat → Nat → Nat), G1 = some (r, M') → hp_sim adr adr' → hp_Z p l e R s m args below meth c nL A D ids adr' adV cA (cells + k1) (slots + 200 * k1) Q G0 none n (LF adr') (S1 adr' r) M' (K r M')) : hp_Z p l e R s m args below meth c nL A D ids adr adV cA (cells) (slots) Q G0 none pc L st0 M (hp_b G1 K) := by
  subst hn; subst hown
  intro H locs ls hG hW hS hL
  have hne : G1 ≠ none := fun h => hC.2.2.2.2.2.2.2 (by rw [← hG, h]; rfl)
  have he := he_J4 (adr := adr) (adV := adV) (cA := cA)
  obtain ⟨tl, hsb, hP, hD⟩ := id hW
  obtain ⟨q, hq2, -⟩ := hp_wl_at hD hq
  rw [he] at hq2
  obtain ⟨u0, b0, -, -, -, -, hK, -⟩ := id hC.2.2.2.2.1
  have hT := hC.2.2.2.2.1
  have hCS : va_CS R s args "java/lang/StringBuilder" idx y cc1 nL1 rt1 [Cond.code y cc1 nL1 rt1] (hp_rmG d1 k1) k1 (200 * k1) k := by
    refine ⟨⟨rfl, rfl, hR.1, ?_, hp_codeIn hT hk.2.2.2.1, List.mem_cons_self⟩, hp_wd hT hl args, hp_wd hT hk.1 args, by rw [hyc]; exact hp_wd hT hp_supb args, hp_wd hT hk.2.1 args, hp_wd hT hk.2.2.1 args, hp_wd hT hk.2.2.2.1 args, hk.2.2.2.2.1.1, fun sig h => ?_⟩
    · have := hk.2.2.2.2.2
      show 8 + (nL1 + 11) + 60 * d1 ≤ R.locals
      omega
    · have h2 := hk.2.2.2.2.1.2.2.2
      rw [h] at h2
      exact (Option.some.inj h2).symm
  exact hp_callRG (va_runSU (As := As) (rest := st) (hK.1 1 ("java/lang/StringBuilder", TJ4, 4) rfl).2 ⟨hC.1, hC.2.1, hC.2.2.1, hC.2.2.2.1, fun w h => absurd h List.not_mem_nil⟩ (Ts := []) (hct A D ids adr adV cA hI hne) hCS ⟨hp_blind, va_recv hK hP (show vwCl[1]? = some ("java/lang/StringBuilder", TJ4, 4) from rfl) hq2, hp_pre hC hS hW (by rw [hav])⟩ rfl hlen hL.1 hst (lv_room hcat) hdg hf) hS (fun r M' adr' H1 locs1 hg hs hw1 hS1 => by rw [hs1 adr' r hs]; exact kk r M' adr' hg hs H1 locs1 ls (by rw [← hG, hg]; rfl) hw1 hS1 (by rw [hLF adr' hs]; exact hL))
theorem hz_callVG (hC : hp_Cx p s m meth c cc nL own A D adV cA G0) {y : MethodName} {cc1 : ByteArray} {nL1 k d1 idx : Nat} {rt1 : Option FieldType} {I : List (Nat × Nat) → Prop} {av : hp_av} {ov : hp_ov ρ} {G1 : Option (ρ × hp_M)} {K : ρ → hp_M → Option α} {As st0 : List Value} {k1 : Nat} {S1 : (Nat → Nat → Nat) → ρ → List Value} {LF : (Nat → Nat → Nat) → List (Nat × Value)} {g j ci N : Nat} {T : u_T} {F : (Nat → Int32) → List Value} (hct : hp_CtG l y cc1 nL1 rt1 d1 k1 I av ov M G1) (hk : hp_Kv y cc1 nL1 rt1 k) (hl : hp_ok (.methodLink own idx y)) (hI : I ids) (hdg : decode cc pc = .ok (.invokevirtual idx, 3)) (hav : av adr adV = .ref (adr g j) :: As) (hq : (g, j) ∈ ids) (he : ∀ f : Nat → Int32, hp_c adr adV cA g j f = .inr (ci, F f)) (hc : vwCl[ci]? = some (y.cls, T, N)) (hlen : As.length = k) (hst : st0 = As.reverse ++ .ref (adr g j) :: st) (hcat : (st.map fun v => v.category).sum ≤ 8) (hR : d1 + 1 ≤ R.frames ∧ 60 * d1 + 60 ≤ R.locals) (hf : cells + k1 ≤ R.cells ∧ slots + 200 * k1 ≤ R.slots) (hLF : ∀ adr', hp_sim adr adr' → LF adr' = L) (hs1 : ∀ adr' r, hp_sim adr adr' → (ov adr' adV r).toList ++ st = S1 adr' r) (hn : pc + 3 = n) (kk : ∀ (r : ρ) (M' : hp_M) (adr' : Nat → Nat → Nat), G1 = some (r, M') → hp_sim adr adr' → hp_Z p l e R s m args below meth c nL A D ids adr' adV cA (cells + k1) (slots + 200 * k1) Q G0 none n (LF adr') (S1 adr' r) M' (K r M')) : hp_Z p l e R s m args below meth c nL A D ids adr adV cA (cells) (slots) Q G0 none pc L st0 M (hp_b G1 K) := by
  subst hn
  intro H locs ls hG hW hS hL
  have hne : G1 ≠ none := fun h => hC.2.2.2.2.2.2.2 (by rw [← hG, h]; rfl)
  obtain ⟨tl, hsb, hP, hD⟩ := id hW
  obtain ⟨q, hq2, -⟩ := hp_wl_at hD hq
  rw [he] at hq2
  obtain ⟨u0, b0, -, -, -, -, hK, -⟩ := id hC.2.2.2.2.1
  have hT := hC.2.2.2.2.1
  have hCB : CallB R s args own idx y cc1 nL1 rt1 [Cond.code y cc1 nL1 rt1] (hp_rmG d1 k1) k1 (200 * k1) k := by
    refine ⟨rfl, rfl, hR.1, ?_, hp_codeIn hT hk.2.2.2.1, List.mem_cons_self, hp_wd hT hk.2.2.2.1 args, hp_wd hT hk.2.2.1 args, ⟨hk.2.2.2.2.1.1, hk.2.2.2.2.1.2.1⟩, fun sig h => ?_, hp_wd hT hl args⟩
    · have := hk.2.2.2.2.2
      show 8 + (nL1 + 11) + 60 * d1 ≤ R.locals
      omega
    · have h2 := hk.2.2.2.2.1.2.2
      rw [h] at h2
      exact (Option.some.inj h2).symm
  exact hp_callRG (va_runV (As := As) (rest := st) ⟨hC.1, hC.2.1, hC.2.2.1, hC.2.2.2.1, fun w h => absurd h List.not_mem_nil⟩ (Ts := []) (hct A D ids adr adV cA hI hne) ⟨hCB, hp_wd hT hk.1 args, hp_wd hT hk.2.1 args⟩ ⟨hp_blind, va_recv hK hP hc hq2, hp_pre hC hS hW (by rw [hav])⟩ rfl hlen hL.1 hst (lv_room hcat) hdg hf) hS (fun r M' adr' H1 locs1 hg hs hw1 hS1 => by rw [hs1 adr' r hs]; exact kk r M' adr' hg hs H1 locs1 ls (by rw [← hG, hg]; rfl) hw1 hS1 (by rw [hLF adr' hs]; exact hL))
theorem hz_iretG {G0 : Option (Int32 × hp_M)} (hC : hp_Cx p s m meth c cc nL own A D adV cA G0) {v : Int32} (hsim : hp_sim adr0 adr) (hr : meth.sig.returnType = some .int) (hdg : decode cc pc = .ok (.ireturn, 1)) (hf2 : cells ≤ K0 ∧ slots ≤ S0) : hp_Z p l e R s m args below meth c nL A D ids adr adV cA cells slots (MQ below (hp_QG A D ids adr0 adV cA hp_oi G0) args s K0 S0 A) G0 none pc L [.int v] M (some (v, M)) := by
  intro H locs ls hG hW hS hL
  have hlocks := hC.2.2.2.2.2.2.1
  exact W.widen hf2.1 hf2.2 (W.iret hC.1 hC.2.1 hr (fun t ht hWm => ⟨⟨v, M, adr, rfl, hsim, hG.symm, by rw [ht]; exact hW⟩, hS.F ht⟩) hS.2.2 hdg hlocks)
theorem hz_vretG {G0 : Option (Unit × hp_M)} (hC : hp_Cx p s m meth c cc nL own A D adV cA G0)  (hsim : hp_sim adr0 adr) (hr : meth.sig.returnType = none) (hdg : decode cc pc = .ok (.return_, 1)) (hf2 : cells ≤ K0 ∧ slots ≤ S0) : hp_Z p l e R s m args below meth c nL A D ids adr adV cA cells slots (MQ below (hp_QG A D ids adr0 adV cA hp_oo G0) args s K0 S0 A) G0 none pc L [] M (some ((), M)) := by
  intro H locs ls hG hW hS hL
  have hlocks := hC.2.2.2.2.2.2.1
  exact W.widen hf2.1 hf2.2 (W.vret hC.1 hC.2.1 hr (fun t ht hWm => ⟨⟨(), M, adr, rfl, hsim, hG.symm, by rw [ht]; exact hW⟩, hS.F ht⟩) hS.2.2 hdg hlocks)
theorem hz_bretG {G0 : Option (Unit × hp_M)} (hC : hp_Cx p s m meth c cc nL own A D adV cA G0) {ty : FieldType} (hsim : hp_sim adr0 adr) (hr : meth.sig.returnType = some ty) (hrt : (∃ n, ty = .object n) ∨ ∃ t, ty = .array t) (hdg : decode cc pc = .ok (.areturn, 1)) (hf2 : cells ≤ K0 ∧ slots ≤ S0) : hp_Z p l e R s m args below meth c nL A D ids adr adV cA cells slots (MQ below (hp_QG A D ids adr0 adV cA hp_ob G0) args s K0 S0 A) G0 none pc L [.ref (adr 14 0)] M (some ((), M)) := by
  intro H locs ls hG hW hS hL
  have hlocks := hC.2.2.2.2.2.2.1
  exact W.widen hf2.1 hf2.2 (W.aret hC.1 hC.2.1 hr hrt (Or.inr ⟨_, rfl⟩) (fun t ht hWm => ⟨⟨(), M, adr, rfl, hsim, hG.symm, by rw [ht]; exact hW⟩, hS.F ht⟩) hS.2.2 hdg hlocks)
end HPB
section HPBF
variable {p : Program} {l : Launch} {e : Env} {R : Room} {s : State} {m : MethodId} {args : Array Value} {below : List Frame} {meth : Method} {c : Code} {cells slots : Nat} {Q : State → Prop}
variable {cc : ByteArray} {nL : Nat} {own : String} {A : Nat → Prop} {D : va_G} {ids : List (Nat × Nat)} {adr : Nat → Nat → Nat} {adV cA : Nat → Nat} {α ρ : Type} {G0 G : Option α} {M : hp_M} {rep : hp_T} {pc n : Nat} {L : List (Nat × Value)} {st : List Value} {H : Heap} {locs : List Loc}
theorem fg_J5_15 (hC : hp_Cx p s m meth c cc nL "java/lang/AbstractStringBuilder" A D adV cA G0) (hq : (14, 0) ∈ ids) (hdg : decode cc pc = .ok (.getfield 15, 3)) (hn : pc + 3 = n) (kk : hp_Z p l e R s m args below meth c nL A D ids adr adV cA cells slots Q G0 rep n L (.ref (adr 14 1) :: st) M G) : hp_Z p l e R s m args below meth c nL A D ids adr adV cA cells slots Q G0 rep pc L (.ref (adr 14 0) :: st) M G := hz_get (v := .ref (adr 14 1)) hC hdg hq he_J4 in_J4 rfl (k := 0) (by decide) wd_1_223 rfl rfl hn kk
theorem fg_J5_22 (hC : hp_Cx p s m meth c cc nL "java/lang/AbstractStringBuilder" A D adV cA G0) (hq : (14, 0) ∈ ids) (hdg : decode cc pc = .ok (.getfield 22, 3)) (hn : pc + 3 = n) (kk : hp_Z p l e R s m args below meth c nL A D ids adr adV cA cells slots Q G0 rep n L (.int (M 14 0 1) :: st) M G) : hp_Z p l e R s m args below meth c nL A D ids adr adV cA cells slots Q G0 rep pc L (.ref (adr 14 0) :: st) M G := hz_get (v := .int (M 14 0 1)) hC hdg hq he_J4 in_J4 rfl (k := 1) (by decide) wd_1_224 rfl rfl hn kk
theorem fg_J5_73 (hC : hp_Cx p s m meth c cc nL "java/lang/AbstractStringBuilder" A D adV cA G0) (hq : (14, 0) ∈ ids) (hdg : decode cc pc = .ok (.getfield 73, 3)) (hn : pc + 3 = n) (kk : hp_Z p l e R s m args below meth c nL A D ids adr adV cA cells slots Q G0 rep n L (.int (M 14 0 2) :: st) M G) : hp_Z p l e R s m args below meth c nL A D ids adr adV cA cells slots Q G0 rep pc L (.ref (adr 14 0) :: st) M G := hz_get (v := .int (M 14 0 2)) hC hdg hq he_J4 in_J4 rfl (k := 2) (by decide) wd_1_225 rfl rfl hn kk
theorem fp_J5_73 (hC : hp_Cx p s m meth c cc nL "java/lang/AbstractStringBuilder" A D adV cA G0) (hq : (14, 0) ∈ ids) (x : Int32) (hb : x = 0 ∨ x = 1) (hdg : decode cc pc = .ok (.putfield 73, 3)) (hn : pc + 3 = n) (kk : hp_Z p l e R s m args below meth c nL A D ids adr adV cA cells slots Q G0 rep n L st (hp_p M 14 0 2 x) G) : hp_Z p l e R s m args below meth c nL A D ids adr adV cA cells slots Q G0 rep pc L (.int x :: .ref (adr 14 0) :: st) M G := hz_put (v := .int x) (x := x) hC hdg hq he_J4 in_J4 tyJ4_ok nmJ4 rfl (k := 2) (by decide) wd_1_225 rfl rfl (nz_b hb) (by rcases hb with rfl | rfl <;> rfl) (Nat.le_of_ble_eq_true rfl) (fun _ => rfl) hn kk
theorem fg_J5_79 (hC : hp_Cx p s m meth c cc nL "java/lang/AbstractStringBuilder" A D adV cA G0) (hq : (14, 0) ∈ ids) (hdg : decode cc pc = .ok (.getfield 79, 3)) (hn : pc + 3 = n) (kk : hp_Z p l e R s m args below meth c nL A D ids adr adV cA cells slots Q G0 rep n L (.int (M 14 0 3) :: st) M G) : hp_Z p l e R s m args below meth c nL A D ids adr adV cA cells slots Q G0 rep pc L (.ref (adr 14 0) :: st) M G := hz_get (v := .int (M 14 0 3)) hC hdg hq he_J4 in_J4 rfl (k := 3) (by decide) wd_1_227 rfl rfl hn kk
theorem fp_J5_79 (hC : hp_Cx p s m meth c cc nL "java/lang/AbstractStringBuilder" A D adV cA G0) (hq : (14, 0) ∈ ids) (x : Int32) (hdg : decode cc pc = .ok (.putfield 79, 3)) (hn : pc + 3 = n) (kk : hp_Z p l e R s m args below meth c nL A D ids adr adV cA cells slots Q G0 rep n L st (hp_p M 14 0 3 x) G) : hp_Z p l e R s m args below meth c nL A D ids adr adV cA cells slots Q G0 rep pc L (.int x :: .ref (adr 14 0) :: st) M G := hz_put (v := .int x) (x := x) hC hdg hq he_J4 in_J4 tyJ4_ok nmJ4 rfl (k := 3) (by decide) wd_1_227 rfl rfl rfl rfl (Nat.le_of_ble_eq_true rfl) (fun _ => rfl) hn kk
end HPBF
theorem dJ5_length_8abf5_0 : decode cJ5_length_8abf5 0 = .ok (.aload_n 0, 1) := by decide +kernel
theorem dJ5_length_8abf5_1 : decode cJ5_length_8abf5 1 = .ok (.getfield 79, 3) := by decide +kernel
theorem dJ5_length_8abf5_4 : decode cJ5_length_8abf5 4 = .ok (.ireturn, 1) := by decide +kernel
theorem dJ5_ensureCapacityInternal_d00df_0 : decode cJ5_ensureCapacityInternal_d00df 0 = .ok (.aload_n 0, 1) := by decide +kernel
theorem dJ5_ensureCapacityInternal_d00df_1 : decode cJ5_ensureCapacityInternal_d00df 1 = .ok (.getfield 15, 3) := by decide +kernel
theorem dJ5_ensureCapacityInternal_d00df_4 : decode cJ5_ensureCapacityInternal_d00df 4 = .ok (.arraylength, 1) := by decide +kernel
theorem dJ5_ensureCapacityInternal_d00df_5 : decode cJ5_ensureCapacityInternal_d00df 5 = .ok (.aload_n 0, 1) := by decide +kernel
theorem dJ5_ensureCapacityInternal_d00df_6 : decode cJ5_ensureCapacityInternal_d00df 6 = .ok (.getfield 22, 3) := by decide +kernel
theorem dJ5_ensureCapacityInternal_d00df_9 : decode cJ5_ensureCapacityInternal_d00df 9 = .ok (.ishr, 1) := by decide +kernel
theorem dJ5_ensureCapacityInternal_d00df_10 : decode cJ5_ensureCapacityInternal_d00df 10 = .ok (.istore_n 2, 1) := by decide +kernel
theorem dJ5_ensureCapacityInternal_d00df_11 : decode cJ5_ensureCapacityInternal_d00df 11 = .ok (.iload_n 1, 1) := by decide +kernel
theorem dJ5_ensureCapacityInternal_d00df_12 : decode cJ5_ensureCapacityInternal_d00df 12 = .ok (.iload_n 2, 1) := by decide +kernel
theorem dJ5_ensureCapacityInternal_d00df_13 : decode cJ5_ensureCapacityInternal_d00df 13 = .ok (.isub, 1) := by decide +kernel
theorem dJ5_ensureCapacityInternal_d00df_14 : decode cJ5_ensureCapacityInternal_d00df 14 = .ok (.ifCond .le 24, 3) := by decide +kernel
theorem dJ5_ensureCapacityInternal_d00df_17 : decode cJ5_ensureCapacityInternal_d00df 17 = .ok (.aload_n 0, 1) := by decide +kernel
theorem dJ5_ensureCapacityInternal_d00df_18 : decode cJ5_ensureCapacityInternal_d00df 18 = .ok (.aload_n 0, 1) := by decide +kernel
theorem dJ5_ensureCapacityInternal_d00df_19 : decode cJ5_ensureCapacityInternal_d00df 19 = .ok (.getfield 15, 3) := by decide +kernel
theorem dJ5_ensureCapacityInternal_d00df_22 : decode cJ5_ensureCapacityInternal_d00df 22 = .ok (.aload_n 0, 1) := by decide +kernel
theorem dJ5_ensureCapacityInternal_d00df_23 : decode cJ5_ensureCapacityInternal_d00df 23 = .ok (.iload_n 1, 1) := by decide +kernel
theorem dJ5_ensureCapacityInternal_d00df_24 : decode cJ5_ensureCapacityInternal_d00df 24 = .ok (.invokevirtual 104, 3) := by decide +kernel
theorem dJ5_ensureCapacityInternal_d00df_27 : decode cJ5_ensureCapacityInternal_d00df 27 = .ok (.aload_n 0, 1) := by decide +kernel
theorem dJ5_ensureCapacityInternal_d00df_28 : decode cJ5_ensureCapacityInternal_d00df 28 = .ok (.getfield 22, 3) := by decide +kernel
theorem dJ5_ensureCapacityInternal_d00df_31 : decode cJ5_ensureCapacityInternal_d00df 31 = .ok (.ishl, 1) := by decide +kernel
theorem dJ5_ensureCapacityInternal_d00df_32 : decode cJ5_ensureCapacityInternal_d00df 32 = .ok (.invokestatic 108, 3) := by decide +kernel
theorem dJ5_ensureCapacityInternal_d00df_35 : decode cJ5_ensureCapacityInternal_d00df 35 = .ok (.putfield 15, 3) := by decide +kernel
theorem dJ5_ensureCapacityInternal_d00df_38 : decode cJ5_ensureCapacityInternal_d00df 38 = .ok (.return_, 1) := by decide +kernel
theorem dJ5_newCapacity_0f7a4_0 : decode cJ5_newCapacity_0f7a4 0 = .ok (.aload_n 0, 1) := by decide +kernel
theorem dJ5_newCapacity_0f7a4_1 : decode cJ5_newCapacity_0f7a4 1 = .ok (.getfield 15, 3) := by decide +kernel
theorem dJ5_newCapacity_0f7a4_4 : decode cJ5_newCapacity_0f7a4 4 = .ok (.arraylength, 1) := by decide +kernel
theorem dJ5_newCapacity_0f7a4_5 : decode cJ5_newCapacity_0f7a4 5 = .ok (.istore_n 2, 1) := by decide +kernel
theorem dJ5_newCapacity_0f7a4_6 : decode cJ5_newCapacity_0f7a4 6 = .ok (.iload_n 1, 1) := by decide +kernel
theorem dJ5_newCapacity_0f7a4_7 : decode cJ5_newCapacity_0f7a4 7 = .ok (.aload_n 0, 1) := by decide +kernel
theorem dJ5_newCapacity_0f7a4_8 : decode cJ5_newCapacity_0f7a4 8 = .ok (.getfield 22, 3) := by decide +kernel
theorem dJ5_newCapacity_0f7a4_11 : decode cJ5_newCapacity_0f7a4 11 = .ok (.ishl, 1) := by decide +kernel
theorem dJ5_newCapacity_0f7a4_12 : decode cJ5_newCapacity_0f7a4 12 = .ok (.istore_n 3, 1) := by decide +kernel
theorem dJ5_newCapacity_0f7a4_13 : decode cJ5_newCapacity_0f7a4 13 = .ok (.iload_n 3, 1) := by decide +kernel
theorem dJ5_newCapacity_0f7a4_14 : decode cJ5_newCapacity_0f7a4 14 = .ok (.iload_n 2, 1) := by decide +kernel
theorem dJ5_newCapacity_0f7a4_15 : decode cJ5_newCapacity_0f7a4 15 = .ok (.isub, 1) := by decide +kernel
theorem dJ5_newCapacity_0f7a4_16 : decode cJ5_newCapacity_0f7a4 16 = .ok (.istore 4, 2) := by decide +kernel
theorem dJ5_newCapacity_0f7a4_18 : decode cJ5_newCapacity_0f7a4 18 = .ok (.iload_n 2, 1) := by decide +kernel
theorem dJ5_newCapacity_0f7a4_19 : decode cJ5_newCapacity_0f7a4 19 = .ok (.iload 4, 2) := by decide +kernel
theorem dJ5_newCapacity_0f7a4_21 : decode cJ5_newCapacity_0f7a4 21 = .ok (.iload_n 2, 1) := by decide +kernel
theorem dJ5_newCapacity_0f7a4_22 : decode cJ5_newCapacity_0f7a4 22 = .ok (.iconst 2, 1) := by decide +kernel
theorem dJ5_newCapacity_0f7a4_23 : decode cJ5_newCapacity_0f7a4 23 = .ok (.aload_n 0, 1) := by decide +kernel
theorem dJ5_newCapacity_0f7a4_24 : decode cJ5_newCapacity_0f7a4 24 = .ok (.getfield 22, 3) := by decide +kernel
theorem dJ5_newCapacity_0f7a4_27 : decode cJ5_newCapacity_0f7a4 27 = .ok (.ishl, 1) := by decide +kernel
theorem dJ5_newCapacity_0f7a4_28 : decode cJ5_newCapacity_0f7a4 28 = .ok (.iadd, 1) := by decide +kernel
theorem dJ5_newCapacity_0f7a4_29 : decode cJ5_newCapacity_0f7a4 29 = .ok (.invokestatic 114, 3) := by decide +kernel
theorem dJ5_newCapacity_0f7a4_32 : decode cJ5_newCapacity_0f7a4 32 = .ok (.istore 5, 2) := by decide +kernel
theorem dJ5_newCapacity_0f7a4_34 : decode cJ5_newCapacity_0f7a4 34 = .ok (.iload 5, 2) := by decide +kernel
theorem dJ5_newCapacity_0f7a4_36 : decode cJ5_newCapacity_0f7a4 36 = .ok (.ldc 39, 2) := by decide +kernel
theorem dJ5_newCapacity_0f7a4_38 : decode cJ5_newCapacity_0f7a4 38 = .ok (.if_icmp .ne 13, 3) := by decide +kernel
theorem dJ5_newCapacity_0f7a4_41 : decode cJ5_newCapacity_0f7a4 41 = .ok (.new 120, 3) := by decide +kernel
theorem dJ5_newCapacity_0f7a4_44 : decode cJ5_newCapacity_0f7a4 44 = .ok (.dup, 1) := by decide +kernel
theorem dJ5_newCapacity_0f7a4_45 : decode cJ5_newCapacity_0f7a4 45 = .ok (.ldc 122, 2) := by decide +kernel
theorem dJ5_newCapacity_0f7a4_47 : decode cJ5_newCapacity_0f7a4 47 = .ok (.invokespecial 124, 3) := by decide +kernel
theorem dJ5_newCapacity_0f7a4_50 : decode cJ5_newCapacity_0f7a4 50 = .ok (.athrow, 1) := by decide +kernel
theorem dJ5_newCapacity_0f7a4_51 : decode cJ5_newCapacity_0f7a4 51 = .ok (.iload 5, 2) := by decide +kernel
theorem dJ5_newCapacity_0f7a4_53 : decode cJ5_newCapacity_0f7a4 53 = .ok (.aload_n 0, 1) := by decide +kernel
theorem dJ5_newCapacity_0f7a4_54 : decode cJ5_newCapacity_0f7a4 54 = .ok (.getfield 22, 3) := by decide +kernel
theorem dJ5_newCapacity_0f7a4_57 : decode cJ5_newCapacity_0f7a4 57 = .ok (.ishr, 1) := by decide +kernel
theorem dJ5_newCapacity_0f7a4_58 : decode cJ5_newCapacity_0f7a4 58 = .ok (.ireturn, 1) := by decide +kernel
theorem dJ5_setLength_d00df_0 : decode cJ5_setLength_d00df 0 = .ok (.iload_n 1, 1) := by decide +kernel
theorem dJ5_setLength_d00df_1 : decode cJ5_setLength_d00df 1 = .ok (.ifCond .ge 12, 3) := by decide +kernel
theorem dJ5_setLength_d00df_4 : decode cJ5_setLength_d00df 4 = .ok (.new 129, 3) := by decide +kernel
theorem dJ5_setLength_d00df_7 : decode cJ5_setLength_d00df 7 = .ok (.dup, 1) := by decide +kernel
theorem dJ5_setLength_d00df_8 : decode cJ5_setLength_d00df 8 = .ok (.iload_n 1, 1) := by decide +kernel
theorem dJ5_setLength_d00df_9 : decode cJ5_setLength_d00df 9 = .ok (.invokespecial 131, 3) := by decide +kernel
theorem dJ5_setLength_d00df_12 : decode cJ5_setLength_d00df 12 = .ok (.athrow, 1) := by decide +kernel
theorem dJ5_setLength_d00df_13 : decode cJ5_setLength_d00df 13 = .ok (.aload_n 0, 1) := by decide +kernel
theorem dJ5_setLength_d00df_14 : decode cJ5_setLength_d00df 14 = .ok (.iload_n 1, 1) := by decide +kernel
theorem dJ5_setLength_d00df_15 : decode cJ5_setLength_d00df 15 = .ok (.invokevirtual 100, 3) := by decide +kernel
theorem dJ5_setLength_d00df_18 : decode cJ5_setLength_d00df 18 = .ok (.aload_n 0, 1) := by decide +kernel
theorem dJ5_setLength_d00df_19 : decode cJ5_setLength_d00df 19 = .ok (.getfield 79, 3) := by decide +kernel
theorem dJ5_setLength_d00df_22 : decode cJ5_setLength_d00df 22 = .ok (.iload_n 1, 1) := by decide +kernel
theorem dJ5_setLength_d00df_23 : decode cJ5_setLength_d00df 23 = .ok (.if_icmp .ge 40, 3) := by decide +kernel
theorem dJ5_setLength_d00df_26 : decode cJ5_setLength_d00df 26 = .ok (.aload_n 0, 1) := by decide +kernel
theorem dJ5_setLength_d00df_27 : decode cJ5_setLength_d00df 27 = .ok (.invokevirtual 83, 3) := by decide +kernel
theorem dJ5_setLength_d00df_30 : decode cJ5_setLength_d00df 30 = .ok (.ifCond .eq 18, 3) := by decide +kernel
theorem dJ5_setLength_d00df_33 : decode cJ5_setLength_d00df 33 = .ok (.aload_n 0, 1) := by decide +kernel
theorem dJ5_setLength_d00df_34 : decode cJ5_setLength_d00df 34 = .ok (.getfield 15, 3) := by decide +kernel
theorem dJ5_setLength_d00df_37 : decode cJ5_setLength_d00df 37 = .ok (.aload_n 0, 1) := by decide +kernel
theorem dJ5_setLength_d00df_38 : decode cJ5_setLength_d00df 38 = .ok (.getfield 79, 3) := by decide +kernel
theorem dJ5_setLength_d00df_41 : decode cJ5_setLength_d00df 41 = .ok (.iload_n 1, 1) := by decide +kernel
theorem dJ5_setLength_d00df_42 : decode cJ5_setLength_d00df 42 = .ok (.invokestatic 133, 3) := by decide +kernel
theorem dJ5_setLength_d00df_45 : decode cJ5_setLength_d00df 45 = .ok (.goto 31, 3) := by decide +kernel
theorem dJ5_setLength_d00df_48 : decode cJ5_setLength_d00df 48 = .ok (.aload_n 0, 1) := by decide +kernel
theorem dJ5_setLength_d00df_49 : decode cJ5_setLength_d00df 49 = .ok (.getfield 15, 3) := by decide +kernel
theorem dJ5_setLength_d00df_52 : decode cJ5_setLength_d00df 52 = .ok (.aload_n 0, 1) := by decide +kernel
theorem dJ5_setLength_d00df_53 : decode cJ5_setLength_d00df 53 = .ok (.getfield 79, 3) := by decide +kernel
theorem dJ5_setLength_d00df_56 : decode cJ5_setLength_d00df 56 = .ok (.iload_n 1, 1) := by decide +kernel
theorem dJ5_setLength_d00df_57 : decode cJ5_setLength_d00df 57 = .ok (.invokestatic 137, 3) := by decide +kernel
theorem dJ5_setLength_d00df_60 : decode cJ5_setLength_d00df 60 = .ok (.goto 16, 3) := by decide +kernel
theorem dJ5_setLength_d00df_63 : decode cJ5_setLength_d00df 63 = .ok (.aload_n 0, 1) := by decide +kernel
theorem dJ5_setLength_d00df_64 : decode cJ5_setLength_d00df 64 = .ok (.getfield 79, 3) := by decide +kernel
theorem dJ5_setLength_d00df_67 : decode cJ5_setLength_d00df 67 = .ok (.iload_n 1, 1) := by decide +kernel
theorem dJ5_setLength_d00df_68 : decode cJ5_setLength_d00df 68 = .ok (.if_icmp .le 8, 3) := by decide +kernel
theorem dJ5_setLength_d00df_71 : decode cJ5_setLength_d00df 71 = .ok (.aload_n 0, 1) := by decide +kernel
theorem dJ5_setLength_d00df_72 : decode cJ5_setLength_d00df 72 = .ok (.iconst 1, 1) := by decide +kernel
theorem dJ5_setLength_d00df_73 : decode cJ5_setLength_d00df 73 = .ok (.putfield 73, 3) := by decide +kernel
theorem dJ5_setLength_d00df_76 : decode cJ5_setLength_d00df 76 = .ok (.aload_n 0, 1) := by decide +kernel
theorem dJ5_setLength_d00df_77 : decode cJ5_setLength_d00df 77 = .ok (.iload_n 1, 1) := by decide +kernel
theorem dJ5_setLength_d00df_78 : decode cJ5_setLength_d00df 78 = .ok (.putfield 79, 3) := by decide +kernel
theorem dJ5_setLength_d00df_81 : decode cJ5_setLength_d00df 81 = .ok (.return_, 1) := by decide +kernel
theorem dJ5_charAt_5068e_0 : decode cJ5_charAt_5068e 0 = .ok (.aload_n 0, 1) := by decide +kernel
theorem dJ5_charAt_5068e_1 : decode cJ5_charAt_5068e 1 = .ok (.getfield 22, 3) := by decide +kernel
theorem dJ5_charAt_5068e_4 : decode cJ5_charAt_5068e 4 = .ok (.istore_n 2, 1) := by decide +kernel
theorem dJ5_charAt_5068e_5 : decode cJ5_charAt_5068e 5 = .ok (.aload_n 0, 1) := by decide +kernel
theorem dJ5_charAt_5068e_6 : decode cJ5_charAt_5068e 6 = .ok (.getfield 15, 3) := by decide +kernel
theorem dJ5_charAt_5068e_9 : decode cJ5_charAt_5068e 9 = .ok (.astore_n 3, 1) := by decide +kernel
theorem dJ5_charAt_5068e_10 : decode cJ5_charAt_5068e 10 = .ok (.aload_n 0, 1) := by decide +kernel
theorem dJ5_charAt_5068e_11 : decode cJ5_charAt_5068e 11 = .ok (.getfield 79, 3) := by decide +kernel
theorem dJ5_charAt_5068e_14 : decode cJ5_charAt_5068e 14 = .ok (.aload_n 3, 1) := by decide +kernel
theorem dJ5_charAt_5068e_15 : decode cJ5_charAt_5068e 15 = .ok (.arraylength, 1) := by decide +kernel
theorem dJ5_charAt_5068e_16 : decode cJ5_charAt_5068e 16 = .ok (.iload_n 2, 1) := by decide +kernel
theorem dJ5_charAt_5068e_17 : decode cJ5_charAt_5068e 17 = .ok (.ishr, 1) := by decide +kernel
theorem dJ5_charAt_5068e_18 : decode cJ5_charAt_5068e 18 = .ok (.invokestatic 138, 3) := by decide +kernel
theorem dJ5_charAt_5068e_21 : decode cJ5_charAt_5068e 21 = .ok (.istore 4, 2) := by decide +kernel
theorem dJ5_charAt_5068e_23 : decode cJ5_charAt_5068e 23 = .ok (.iload_n 1, 1) := by decide +kernel
theorem dJ5_charAt_5068e_24 : decode cJ5_charAt_5068e 24 = .ok (.iload 4, 2) := by decide +kernel
theorem dJ5_charAt_5068e_26 : decode cJ5_charAt_5068e 26 = .ok (.invokestatic 144, 3) := by decide +kernel
theorem dJ5_charAt_5068e_29 : decode cJ5_charAt_5068e 29 = .ok (.iload_n 2, 1) := by decide +kernel
theorem dJ5_charAt_5068e_30 : decode cJ5_charAt_5068e 30 = .ok (.ifCond .ne 12, 3) := by decide +kernel
theorem dJ5_charAt_5068e_33 : decode cJ5_charAt_5068e 33 = .ok (.aload_n 3, 1) := by decide +kernel
theorem dJ5_charAt_5068e_34 : decode cJ5_charAt_5068e 34 = .ok (.iload_n 1, 1) := by decide +kernel
theorem dJ5_charAt_5068e_35 : decode cJ5_charAt_5068e 35 = .ok (.baload, 1) := by decide +kernel
theorem dJ5_charAt_5068e_36 : decode cJ5_charAt_5068e 36 = .ok (.sipush 255, 3) := by decide +kernel
theorem dJ5_charAt_5068e_39 : decode cJ5_charAt_5068e 39 = .ok (.iand, 1) := by decide +kernel
theorem dJ5_charAt_5068e_40 : decode cJ5_charAt_5068e 40 = .ok (.i2c, 1) := by decide +kernel
theorem dJ5_charAt_5068e_41 : decode cJ5_charAt_5068e 41 = .ok (.ireturn, 1) := by decide +kernel
theorem dJ5_charAt_5068e_42 : decode cJ5_charAt_5068e 42 = .ok (.aload_n 3, 1) := by decide +kernel
theorem dJ5_charAt_5068e_43 : decode cJ5_charAt_5068e 43 = .ok (.iload_n 1, 1) := by decide +kernel
theorem dJ5_charAt_5068e_44 : decode cJ5_charAt_5068e 44 = .ok (.invokestatic 148, 3) := by decide +kernel
theorem dJ5_charAt_5068e_47 : decode cJ5_charAt_5068e 47 = .ok (.ireturn, 1) := by decide +kernel
theorem dJ5_append_3fe6f_0 : decode cJ5_append_3fe6f 0 = .ok (.aload_n 0, 1) := by decide +kernel
theorem dJ5_append_3fe6f_1 : decode cJ5_append_3fe6f 1 = .ok (.aload_n 0, 1) := by decide +kernel
theorem dJ5_append_3fe6f_2 : decode cJ5_append_3fe6f 2 = .ok (.getfield 79, 3) := by decide +kernel
theorem dJ5_append_3fe6f_5 : decode cJ5_append_3fe6f 5 = .ok (.iconst 1, 1) := by decide +kernel
theorem dJ5_append_3fe6f_6 : decode cJ5_append_3fe6f 6 = .ok (.iadd, 1) := by decide +kernel
theorem dJ5_append_3fe6f_7 : decode cJ5_append_3fe6f 7 = .ok (.invokevirtual 100, 3) := by decide +kernel
theorem dJ5_append_3fe6f_10 : decode cJ5_append_3fe6f 10 = .ok (.aload_n 0, 1) := by decide +kernel
theorem dJ5_append_3fe6f_11 : decode cJ5_append_3fe6f 11 = .ok (.invokevirtual 83, 3) := by decide +kernel
theorem dJ5_append_3fe6f_14 : decode cJ5_append_3fe6f 14 = .ok (.ifCond .eq 31, 3) := by decide +kernel
theorem dJ5_append_3fe6f_17 : decode cJ5_append_3fe6f 17 = .ok (.iload_n 1, 1) := by decide +kernel
theorem dJ5_append_3fe6f_18 : decode cJ5_append_3fe6f 18 = .ok (.invokestatic 191, 3) := by decide +kernel
theorem dJ5_append_3fe6f_21 : decode cJ5_append_3fe6f 21 = .ok (.ifCond .eq 24, 3) := by decide +kernel
theorem dJ5_append_3fe6f_24 : decode cJ5_append_3fe6f 24 = .ok (.aload_n 0, 1) := by decide +kernel
theorem dJ5_append_3fe6f_25 : decode cJ5_append_3fe6f 25 = .ok (.getfield 15, 3) := by decide +kernel
theorem dJ5_append_3fe6f_28 : decode cJ5_append_3fe6f 28 = .ok (.aload_n 0, 1) := by decide +kernel
theorem dJ5_append_3fe6f_29 : decode cJ5_append_3fe6f 29 = .ok (.dup, 1) := by decide +kernel
theorem dJ5_append_3fe6f_30 : decode cJ5_append_3fe6f 30 = .ok (.getfield 79, 3) := by decide +kernel
theorem dJ5_append_3fe6f_33 : decode cJ5_append_3fe6f 33 = .ok (.dup_x1, 1) := by decide +kernel
theorem dJ5_append_3fe6f_34 : decode cJ5_append_3fe6f 34 = .ok (.iconst 1, 1) := by decide +kernel
theorem dJ5_append_3fe6f_35 : decode cJ5_append_3fe6f 35 = .ok (.iadd, 1) := by decide +kernel
theorem dJ5_append_3fe6f_36 : decode cJ5_append_3fe6f 36 = .ok (.putfield 79, 3) := by decide +kernel
theorem dJ5_append_3fe6f_39 : decode cJ5_append_3fe6f 39 = .ok (.iload_n 1, 1) := by decide +kernel
theorem dJ5_append_3fe6f_40 : decode cJ5_append_3fe6f 40 = .ok (.i2b, 1) := by decide +kernel
theorem dJ5_append_3fe6f_41 : decode cJ5_append_3fe6f 41 = .ok (.bastore, 1) := by decide +kernel
theorem dJ5_append_3fe6f_42 : decode cJ5_append_3fe6f 42 = .ok (.goto 33, 3) := by decide +kernel
theorem dJ5_append_3fe6f_45 : decode cJ5_append_3fe6f 45 = .ok (.aload_n 0, 1) := by decide +kernel
theorem dJ5_append_3fe6f_46 : decode cJ5_append_3fe6f 46 = .ok (.invokevirtual 83, 3) := by decide +kernel
theorem dJ5_append_3fe6f_49 : decode cJ5_append_3fe6f 49 = .ok (.ifCond .eq 7, 3) := by decide +kernel
theorem dJ5_append_3fe6f_52 : decode cJ5_append_3fe6f 52 = .ok (.aload_n 0, 1) := by decide +kernel
theorem dJ5_append_3fe6f_53 : decode cJ5_append_3fe6f 53 = .ok (.invokevirtual 195, 3) := by decide +kernel
theorem dJ5_append_3fe6f_56 : decode cJ5_append_3fe6f 56 = .ok (.aload_n 0, 1) := by decide +kernel
theorem dJ5_append_3fe6f_57 : decode cJ5_append_3fe6f 57 = .ok (.getfield 15, 3) := by decide +kernel
theorem dJ5_append_3fe6f_60 : decode cJ5_append_3fe6f 60 = .ok (.aload_n 0, 1) := by decide +kernel
theorem dJ5_append_3fe6f_61 : decode cJ5_append_3fe6f 61 = .ok (.dup, 1) := by decide +kernel
theorem dJ5_append_3fe6f_62 : decode cJ5_append_3fe6f 62 = .ok (.getfield 79, 3) := by decide +kernel
theorem dJ5_append_3fe6f_65 : decode cJ5_append_3fe6f 65 = .ok (.dup_x1, 1) := by decide +kernel
theorem dJ5_append_3fe6f_66 : decode cJ5_append_3fe6f 66 = .ok (.iconst 1, 1) := by decide +kernel
theorem dJ5_append_3fe6f_67 : decode cJ5_append_3fe6f 67 = .ok (.iadd, 1) := by decide +kernel
theorem dJ5_append_3fe6f_68 : decode cJ5_append_3fe6f 68 = .ok (.putfield 79, 3) := by decide +kernel
theorem dJ5_append_3fe6f_71 : decode cJ5_append_3fe6f 71 = .ok (.iload_n 1, 1) := by decide +kernel
theorem dJ5_append_3fe6f_72 : decode cJ5_append_3fe6f 72 = .ok (.invokestatic 197, 3) := by decide +kernel
theorem dJ5_append_3fe6f_75 : decode cJ5_append_3fe6f 75 = .ok (.aload_n 0, 1) := by decide +kernel
theorem dJ5_append_3fe6f_76 : decode cJ5_append_3fe6f 76 = .ok (.areturn, 1) := by decide +kernel
theorem dJ5_append_c97b9_0 : decode cJ5_append_c97b9 0 = .ok (.aload_n 0, 1) := by decide +kernel
theorem dJ5_append_c97b9_1 : decode cJ5_append_c97b9 1 = .ok (.getfield 79, 3) := by decide +kernel
theorem dJ5_append_c97b9_4 : decode cJ5_append_c97b9 4 = .ok (.istore_n 2, 1) := by decide +kernel
theorem dJ5_append_c97b9_5 : decode cJ5_append_c97b9 5 = .ok (.iload_n 2, 1) := by decide +kernel
theorem dJ5_append_c97b9_6 : decode cJ5_append_c97b9 6 = .ok (.iload_n 1, 1) := by decide +kernel
theorem dJ5_append_c97b9_7 : decode cJ5_append_c97b9 7 = .ok (.invokestatic 245, 3) := by decide +kernel
theorem dJ5_append_c97b9_10 : decode cJ5_append_c97b9 10 = .ok (.iadd, 1) := by decide +kernel
theorem dJ5_append_c97b9_11 : decode cJ5_append_c97b9 11 = .ok (.istore_n 3, 1) := by decide +kernel
theorem dJ5_append_c97b9_12 : decode cJ5_append_c97b9 12 = .ok (.aload_n 0, 1) := by decide +kernel
theorem dJ5_append_c97b9_13 : decode cJ5_append_c97b9 13 = .ok (.iload_n 3, 1) := by decide +kernel
theorem dJ5_append_c97b9_14 : decode cJ5_append_c97b9 14 = .ok (.invokevirtual 100, 3) := by decide +kernel
theorem dJ5_append_c97b9_17 : decode cJ5_append_c97b9 17 = .ok (.aload_n 0, 1) := by decide +kernel
theorem dJ5_append_c97b9_18 : decode cJ5_append_c97b9 18 = .ok (.invokevirtual 83, 3) := by decide +kernel
theorem dJ5_append_c97b9_21 : decode cJ5_append_c97b9 21 = .ok (.ifCond .eq 16, 3) := by decide +kernel
theorem dJ5_append_c97b9_24 : decode cJ5_append_c97b9 24 = .ok (.iload_n 1, 1) := by decide +kernel
theorem dJ5_append_c97b9_25 : decode cJ5_append_c97b9 25 = .ok (.iload_n 3, 1) := by decide +kernel
theorem dJ5_append_c97b9_26 : decode cJ5_append_c97b9 26 = .ok (.aload_n 0, 1) := by decide +kernel
theorem dJ5_append_c97b9_27 : decode cJ5_append_c97b9 27 = .ok (.getfield 15, 3) := by decide +kernel
theorem dJ5_append_c97b9_30 : decode cJ5_append_c97b9 30 = .ok (.invokestatic 248, 3) := by decide +kernel
theorem dJ5_append_c97b9_33 : decode cJ5_append_c97b9 33 = .ok (.pop, 1) := by decide +kernel
theorem dJ5_append_c97b9_34 : decode cJ5_append_c97b9 34 = .ok (.goto 14, 3) := by decide +kernel
theorem dJ5_append_c97b9_37 : decode cJ5_append_c97b9 37 = .ok (.iload_n 1, 1) := by decide +kernel
theorem dJ5_append_c97b9_38 : decode cJ5_append_c97b9 38 = .ok (.iload_n 2, 1) := by decide +kernel
theorem dJ5_append_c97b9_39 : decode cJ5_append_c97b9 39 = .ok (.iload_n 3, 1) := by decide +kernel
theorem dJ5_append_c97b9_40 : decode cJ5_append_c97b9 40 = .ok (.aload_n 0, 1) := by decide +kernel
theorem dJ5_append_c97b9_41 : decode cJ5_append_c97b9 41 = .ok (.getfield 15, 3) := by decide +kernel
theorem dJ5_append_c97b9_44 : decode cJ5_append_c97b9 44 = .ok (.invokestatic 251, 3) := by decide +kernel
theorem dJ5_append_c97b9_47 : decode cJ5_append_c97b9 47 = .ok (.pop, 1) := by decide +kernel
theorem dJ5_append_c97b9_48 : decode cJ5_append_c97b9 48 = .ok (.aload_n 0, 1) := by decide +kernel
theorem dJ5_append_c97b9_49 : decode cJ5_append_c97b9 49 = .ok (.iload_n 3, 1) := by decide +kernel
theorem dJ5_append_c97b9_50 : decode cJ5_append_c97b9 50 = .ok (.putfield 79, 3) := by decide +kernel
theorem dJ5_append_c97b9_53 : decode cJ5_append_c97b9 53 = .ok (.aload_n 0, 1) := by decide +kernel
theorem dJ5_append_c97b9_54 : decode cJ5_append_c97b9 54 = .ok (.areturn, 1) := by decide +kernel
theorem dJ5_isLatin1_aae02_0 : decode cJ5_isLatin1_aae02 0 = .ok (.getstatic 18, 3) := by decide +kernel
theorem dJ5_isLatin1_aae02_3 : decode cJ5_isLatin1_aae02 3 = .ok (.ifCond .eq 14, 3) := by decide +kernel
theorem dJ5_isLatin1_aae02_6 : decode cJ5_isLatin1_aae02 6 = .ok (.aload_n 0, 1) := by decide +kernel
theorem dJ5_isLatin1_aae02_7 : decode cJ5_isLatin1_aae02 7 = .ok (.getfield 22, 3) := by decide +kernel
theorem dJ5_isLatin1_aae02_10 : decode cJ5_isLatin1_aae02 10 = .ok (.ifCond .ne 7, 3) := by decide +kernel
theorem dJ5_isLatin1_aae02_13 : decode cJ5_isLatin1_aae02 13 = .ok (.iconst 1, 1) := by decide +kernel
theorem dJ5_isLatin1_aae02_14 : decode cJ5_isLatin1_aae02 14 = .ok (.goto 4, 3) := by decide +kernel
theorem dJ5_isLatin1_aae02_17 : decode cJ5_isLatin1_aae02 17 = .ok (.iconst 0, 1) := by decide +kernel
theorem dJ5_isLatin1_aae02_18 : decode cJ5_isLatin1_aae02 18 = .ok (.ireturn, 1) := by decide +kernel
theorem dJ6_getChars_ba4f3_0 : decode cJ6_getChars_ba4f3 0 = .ok (.iload_n 1, 1) := by decide +kernel
theorem dJ6_getChars_ba4f3_1 : decode cJ6_getChars_ba4f3 1 = .ok (.istore 5, 2) := by decide +kernel
theorem dJ6_getChars_ba4f3_3 : decode cJ6_getChars_ba4f3 3 = .ok (.iload_n 0, 1) := by decide +kernel
theorem dJ6_getChars_ba4f3_4 : decode cJ6_getChars_ba4f3 4 = .ok (.ifCond .ge 7, 3) := by decide +kernel
theorem dJ6_getChars_ba4f3_7 : decode cJ6_getChars_ba4f3 7 = .ok (.iconst 1, 1) := by decide +kernel
theorem dJ6_getChars_ba4f3_8 : decode cJ6_getChars_ba4f3 8 = .ok (.goto 4, 3) := by decide +kernel
theorem dJ6_getChars_ba4f3_11 : decode cJ6_getChars_ba4f3 11 = .ok (.iconst 0, 1) := by decide +kernel
theorem dJ6_getChars_ba4f3_12 : decode cJ6_getChars_ba4f3 12 = .ok (.istore 6, 2) := by decide +kernel
theorem dJ6_getChars_ba4f3_14 : decode cJ6_getChars_ba4f3 14 = .ok (.iload 6, 2) := by decide +kernel
theorem dJ6_getChars_ba4f3_16 : decode cJ6_getChars_ba4f3 16 = .ok (.ifCond .ne 6, 3) := by decide +kernel
theorem dJ6_getChars_ba4f3_19 : decode cJ6_getChars_ba4f3 19 = .ok (.iload_n 0, 1) := by decide +kernel
theorem dJ6_getChars_ba4f3_20 : decode cJ6_getChars_ba4f3 20 = .ok (.ineg, 1) := by decide +kernel
theorem dJ6_getChars_ba4f3_21 : decode cJ6_getChars_ba4f3 21 = .ok (.istore_n 0, 1) := by decide +kernel
theorem dJ6_getChars_ba4f3_22 : decode cJ6_getChars_ba4f3 22 = .ok (.iload_n 0, 1) := by decide +kernel
theorem dJ6_getChars_ba4f3_23 : decode cJ6_getChars_ba4f3 23 = .ok (.bipush (-100), 2) := by decide +kernel
theorem dJ6_getChars_ba4f3_25 : decode cJ6_getChars_ba4f3 25 = .ok (.if_icmp .gt 47, 3) := by decide +kernel
theorem dJ6_getChars_ba4f3_28 : decode cJ6_getChars_ba4f3 28 = .ok (.iload_n 0, 1) := by decide +kernel
theorem dJ6_getChars_ba4f3_29 : decode cJ6_getChars_ba4f3 29 = .ok (.bipush 100, 2) := by decide +kernel
theorem dJ6_getChars_ba4f3_31 : decode cJ6_getChars_ba4f3 31 = .ok (.idiv, 1) := by decide +kernel
theorem dJ6_getChars_ba4f3_32 : decode cJ6_getChars_ba4f3 32 = .ok (.istore_n 3, 1) := by decide +kernel
theorem dJ6_getChars_ba4f3_33 : decode cJ6_getChars_ba4f3 33 = .ok (.iload_n 3, 1) := by decide +kernel
theorem dJ6_getChars_ba4f3_34 : decode cJ6_getChars_ba4f3 34 = .ok (.bipush 100, 2) := by decide +kernel
theorem dJ6_getChars_ba4f3_36 : decode cJ6_getChars_ba4f3 36 = .ok (.imul, 1) := by decide +kernel
theorem dJ6_getChars_ba4f3_37 : decode cJ6_getChars_ba4f3 37 = .ok (.iload_n 0, 1) := by decide +kernel
theorem dJ6_getChars_ba4f3_38 : decode cJ6_getChars_ba4f3 38 = .ok (.isub, 1) := by decide +kernel
theorem dJ6_getChars_ba4f3_39 : decode cJ6_getChars_ba4f3 39 = .ok (.istore 4, 2) := by decide +kernel
theorem dJ6_getChars_ba4f3_41 : decode cJ6_getChars_ba4f3 41 = .ok (.iload_n 3, 1) := by decide +kernel
theorem dJ6_getChars_ba4f3_42 : decode cJ6_getChars_ba4f3 42 = .ok (.istore_n 0, 1) := by decide +kernel
theorem dJ6_getChars_ba4f3_43 : decode cJ6_getChars_ba4f3 43 = .ok (.aload_n 2, 1) := by decide +kernel
theorem dJ6_getChars_ba4f3_44 : decode cJ6_getChars_ba4f3 44 = .ok (.iinc 5 (-1), 3) := by decide +kernel
theorem dJ6_getChars_ba4f3_47 : decode cJ6_getChars_ba4f3 47 = .ok (.iload 5, 2) := by decide +kernel
theorem dJ6_getChars_ba4f3_49 : decode cJ6_getChars_ba4f3 49 = .ok (.getstatic 83, 3) := by decide +kernel
theorem dJ6_getChars_ba4f3_52 : decode cJ6_getChars_ba4f3 52 = .ok (.iload 4, 2) := by decide +kernel
theorem dJ6_getChars_ba4f3_54 : decode cJ6_getChars_ba4f3 54 = .ok (.baload, 1) := by decide +kernel
theorem dJ6_getChars_ba4f3_55 : decode cJ6_getChars_ba4f3 55 = .ok (.bastore, 1) := by decide +kernel
theorem dJ6_getChars_ba4f3_56 : decode cJ6_getChars_ba4f3 56 = .ok (.aload_n 2, 1) := by decide +kernel
theorem dJ6_getChars_ba4f3_57 : decode cJ6_getChars_ba4f3 57 = .ok (.iinc 5 (-1), 3) := by decide +kernel
theorem dJ6_getChars_ba4f3_60 : decode cJ6_getChars_ba4f3 60 = .ok (.iload 5, 2) := by decide +kernel
theorem dJ6_getChars_ba4f3_62 : decode cJ6_getChars_ba4f3 62 = .ok (.getstatic 87, 3) := by decide +kernel
theorem dJ6_getChars_ba4f3_65 : decode cJ6_getChars_ba4f3 65 = .ok (.iload 4, 2) := by decide +kernel
theorem dJ6_getChars_ba4f3_67 : decode cJ6_getChars_ba4f3 67 = .ok (.baload, 1) := by decide +kernel
theorem dJ6_getChars_ba4f3_68 : decode cJ6_getChars_ba4f3 68 = .ok (.bastore, 1) := by decide +kernel
theorem dJ6_getChars_ba4f3_69 : decode cJ6_getChars_ba4f3 69 = .ok (.goto (-47), 3) := by decide +kernel
theorem dJ6_getChars_ba4f3_72 : decode cJ6_getChars_ba4f3 72 = .ok (.aload_n 2, 1) := by decide +kernel
theorem dJ6_getChars_ba4f3_73 : decode cJ6_getChars_ba4f3 73 = .ok (.iinc 5 (-1), 3) := by decide +kernel
theorem dJ6_getChars_ba4f3_76 : decode cJ6_getChars_ba4f3 76 = .ok (.iload 5, 2) := by decide +kernel
theorem dJ6_getChars_ba4f3_78 : decode cJ6_getChars_ba4f3 78 = .ok (.getstatic 83, 3) := by decide +kernel
theorem dJ6_getChars_ba4f3_81 : decode cJ6_getChars_ba4f3 81 = .ok (.iload_n 0, 1) := by decide +kernel
theorem dJ6_getChars_ba4f3_82 : decode cJ6_getChars_ba4f3 82 = .ok (.ineg, 1) := by decide +kernel
theorem dJ6_getChars_ba4f3_83 : decode cJ6_getChars_ba4f3 83 = .ok (.baload, 1) := by decide +kernel
theorem dJ6_getChars_ba4f3_84 : decode cJ6_getChars_ba4f3 84 = .ok (.bastore, 1) := by decide +kernel
theorem dJ6_getChars_ba4f3_85 : decode cJ6_getChars_ba4f3 85 = .ok (.iload_n 0, 1) := by decide +kernel
theorem dJ6_getChars_ba4f3_86 : decode cJ6_getChars_ba4f3 86 = .ok (.bipush (-9), 2) := by decide +kernel
theorem dJ6_getChars_ba4f3_88 : decode cJ6_getChars_ba4f3 88 = .ok (.if_icmp .ge 16, 3) := by decide +kernel
theorem dJ6_getChars_ba4f3_91 : decode cJ6_getChars_ba4f3 91 = .ok (.aload_n 2, 1) := by decide +kernel
theorem dJ6_getChars_ba4f3_92 : decode cJ6_getChars_ba4f3 92 = .ok (.iinc 5 (-1), 3) := by decide +kernel
theorem dJ6_getChars_ba4f3_95 : decode cJ6_getChars_ba4f3 95 = .ok (.iload 5, 2) := by decide +kernel
theorem dJ6_getChars_ba4f3_97 : decode cJ6_getChars_ba4f3 97 = .ok (.getstatic 87, 3) := by decide +kernel
theorem dJ6_getChars_ba4f3_100 : decode cJ6_getChars_ba4f3 100 = .ok (.iload_n 0, 1) := by decide +kernel
theorem dJ6_getChars_ba4f3_101 : decode cJ6_getChars_ba4f3 101 = .ok (.ineg, 1) := by decide +kernel
theorem dJ6_getChars_ba4f3_102 : decode cJ6_getChars_ba4f3 102 = .ok (.baload, 1) := by decide +kernel
theorem dJ6_getChars_ba4f3_103 : decode cJ6_getChars_ba4f3 103 = .ok (.bastore, 1) := by decide +kernel
theorem dJ6_getChars_ba4f3_104 : decode cJ6_getChars_ba4f3 104 = .ok (.iload 6, 2) := by decide +kernel
theorem dJ6_getChars_ba4f3_106 : decode cJ6_getChars_ba4f3 106 = .ok (.ifCond .eq 12, 3) := by decide +kernel
theorem dJ6_getChars_ba4f3_109 : decode cJ6_getChars_ba4f3 109 = .ok (.aload_n 2, 1) := by decide +kernel
theorem dJ6_getChars_ba4f3_110 : decode cJ6_getChars_ba4f3 110 = .ok (.iinc 5 (-1), 3) := by decide +kernel
theorem dJ6_getChars_ba4f3_113 : decode cJ6_getChars_ba4f3 113 = .ok (.iload 5, 2) := by decide +kernel
theorem dJ6_getChars_ba4f3_115 : decode cJ6_getChars_ba4f3 115 = .ok (.bipush 45, 2) := by decide +kernel
theorem dJ6_getChars_ba4f3_117 : decode cJ6_getChars_ba4f3 117 = .ok (.bastore, 1) := by decide +kernel
theorem dJ6_getChars_ba4f3_118 : decode cJ6_getChars_ba4f3 118 = .ok (.iload 5, 2) := by decide +kernel
theorem dJ6_getChars_ba4f3_120 : decode cJ6_getChars_ba4f3 120 = .ok (.ireturn, 1) := by decide +kernel
theorem dJ4_append_cf468_0 : decode cJ4_append_cf468 0 = .ok (.aload_n 0, 1) := by decide +kernel
theorem dJ4_append_cf468_1 : decode cJ4_append_cf468 1 = .ok (.iload_n 1, 1) := by decide +kernel
theorem dJ4_append_cf468_2 : decode cJ4_append_cf468 2 = .ok (.invokespecial 50, 3) := by decide +kernel
theorem dJ4_append_cf468_5 : decode cJ4_append_cf468 5 = .ok (.pop, 1) := by decide +kernel
theorem dJ4_append_cf468_6 : decode cJ4_append_cf468 6 = .ok (.aload_n 0, 1) := by decide +kernel
theorem dJ4_append_cf468_7 : decode cJ4_append_cf468 7 = .ok (.areturn, 1) := by decide +kernel
theorem dJ4_append_bf812_0 : decode cJ4_append_bf812 0 = .ok (.aload_n 0, 1) := by decide +kernel
theorem dJ4_append_bf812_1 : decode cJ4_append_bf812 1 = .ok (.iload_n 1, 1) := by decide +kernel
theorem dJ4_append_bf812_2 : decode cJ4_append_bf812 2 = .ok (.invokespecial 53, 3) := by decide +kernel
theorem dJ4_append_bf812_5 : decode cJ4_append_bf812 5 = .ok (.pop, 1) := by decide +kernel
theorem dJ4_append_bf812_6 : decode cJ4_append_bf812 6 = .ok (.aload_n 0, 1) := by decide +kernel
theorem dJ4_append_bf812_7 : decode cJ4_append_bf812 7 = .ok (.areturn, 1) := by decide +kernel
theorem dJ4_charAt_5068e_0 : decode cJ4_charAt_5068e 0 = .ok (.aload_n 0, 1) := by decide +kernel
theorem dJ4_charAt_5068e_1 : decode cJ4_charAt_5068e 1 = .ok (.iload_n 1, 1) := by decide +kernel
theorem dJ4_charAt_5068e_2 : decode cJ4_charAt_5068e 2 = .ok (.invokespecial 329, 3) := by decide +kernel
theorem dJ4_charAt_5068e_5 : decode cJ4_charAt_5068e 5 = .ok (.ireturn, 1) := by decide +kernel
theorem dJ4_setLength_d00df_0 : decode cJ4_setLength_d00df 0 = .ok (.aload_n 0, 1) := by decide +kernel
theorem dJ4_setLength_d00df_1 : decode cJ4_setLength_d00df 1 = .ok (.iload_n 1, 1) := by decide +kernel
theorem dJ4_setLength_d00df_2 : decode cJ4_setLength_d00df 2 = .ok (.invokespecial 333, 3) := by decide +kernel
theorem dJ4_setLength_d00df_5 : decode cJ4_setLength_d00df 5 = .ok (.return_, 1) := by decide +kernel
theorem dJ4_length_8abf5_0 : decode cJ4_length_8abf5 0 = .ok (.aload_n 0, 1) := by decide +kernel
theorem dJ4_length_8abf5_1 : decode cJ4_length_8abf5 1 = .ok (.invokespecial 343, 3) := by decide +kernel
theorem dJ4_length_8abf5_4 : decode cJ4_length_8abf5 4 = .ok (.ireturn, 1) := by decide +kernel
theorem dJ7_copyOf_9075b_0 : decode cJ7_copyOf_9075b 0 = .ok (.iload_n 1, 1) := by decide +kernel
theorem dJ7_copyOf_9075b_1 : decode cJ7_copyOf_9075b 1 = .ok (.aload_n 0, 1) := by decide +kernel
theorem dJ7_copyOf_9075b_2 : decode cJ7_copyOf_9075b 2 = .ok (.arraylength, 1) := by decide +kernel
theorem dJ7_copyOf_9075b_3 : decode cJ7_copyOf_9075b 3 = .ok (.if_icmp .ne 11, 3) := by decide +kernel
theorem dJ7_copyOf_9075b_6 : decode cJ7_copyOf_9075b 6 = .ok (.aload_n 0, 1) := by decide +kernel
theorem dJ7_copyOf_9075b_7 : decode cJ7_copyOf_9075b 7 = .ok (.invokevirtual 310, 3) := by decide +kernel
theorem dJ7_copyOf_9075b_10 : decode cJ7_copyOf_9075b 10 = .ok (.checkcast 311, 3) := by decide +kernel
theorem dJ7_copyOf_9075b_13 : decode cJ7_copyOf_9075b 13 = .ok (.areturn, 1) := by decide +kernel
theorem dJ7_copyOf_9075b_14 : decode cJ7_copyOf_9075b 14 = .ok (.iload_n 1, 1) := by decide +kernel
theorem dJ7_copyOf_9075b_15 : decode cJ7_copyOf_9075b 15 = .ok (.newarray .byte, 2) := by decide +kernel
theorem dJ7_copyOf_9075b_17 : decode cJ7_copyOf_9075b 17 = .ok (.astore_n 2, 1) := by decide +kernel
theorem dJ7_copyOf_9075b_18 : decode cJ7_copyOf_9075b 18 = .ok (.aload_n 0, 1) := by decide +kernel
theorem dJ7_copyOf_9075b_19 : decode cJ7_copyOf_9075b 19 = .ok (.iconst 0, 1) := by decide +kernel
theorem dJ7_copyOf_9075b_20 : decode cJ7_copyOf_9075b 20 = .ok (.aload_n 2, 1) := by decide +kernel
theorem dJ7_copyOf_9075b_21 : decode cJ7_copyOf_9075b 21 = .ok (.iconst 0, 1) := by decide +kernel
theorem dJ7_copyOf_9075b_22 : decode cJ7_copyOf_9075b 22 = .ok (.aload_n 0, 1) := by decide +kernel
theorem dJ7_copyOf_9075b_23 : decode cJ7_copyOf_9075b 23 = .ok (.arraylength, 1) := by decide +kernel
theorem dJ7_copyOf_9075b_24 : decode cJ7_copyOf_9075b 24 = .ok (.iload_n 1, 1) := by decide +kernel
theorem dJ7_copyOf_9075b_25 : decode cJ7_copyOf_9075b 25 = .ok (.invokestatic 304, 3) := by decide +kernel
theorem dJ7_copyOf_9075b_28 : decode cJ7_copyOf_9075b 28 = .ok (.invokestatic 150, 3) := by decide +kernel
theorem dJ7_copyOf_9075b_31 : decode cJ7_copyOf_9075b 31 = .ok (.aload_n 2, 1) := by decide +kernel
theorem dJ7_copyOf_9075b_32 : decode cJ7_copyOf_9075b 32 = .ok (.areturn, 1) := by decide +kernel
theorem dJ8_newLength_cabcc_0 : decode cJ8_newLength_cabcc 0 = .ok (.iload_n 0, 1) := by decide +kernel
theorem dJ8_newLength_cabcc_1 : decode cJ8_newLength_cabcc 1 = .ok (.iload_n 1, 1) := by decide +kernel
theorem dJ8_newLength_cabcc_2 : decode cJ8_newLength_cabcc 2 = .ok (.iload_n 2, 1) := by decide +kernel
theorem dJ8_newLength_cabcc_3 : decode cJ8_newLength_cabcc 3 = .ok (.invokestatic 194, 3) := by decide +kernel
theorem dJ8_newLength_cabcc_6 : decode cJ8_newLength_cabcc 6 = .ok (.iadd, 1) := by decide +kernel
theorem dJ8_newLength_cabcc_7 : decode cJ8_newLength_cabcc 7 = .ok (.istore_n 3, 1) := by decide +kernel
theorem dJ8_newLength_cabcc_8 : decode cJ8_newLength_cabcc 8 = .ok (.iconst 0, 1) := by decide +kernel
theorem dJ8_newLength_cabcc_9 : decode cJ8_newLength_cabcc 9 = .ok (.iload_n 3, 1) := by decide +kernel
theorem dJ8_newLength_cabcc_10 : decode cJ8_newLength_cabcc 10 = .ok (.if_icmp .ge 11, 3) := by decide +kernel
theorem dJ8_newLength_cabcc_13 : decode cJ8_newLength_cabcc 13 = .ok (.iload_n 3, 1) := by decide +kernel
theorem dJ8_newLength_cabcc_14 : decode cJ8_newLength_cabcc 14 = .ok (.ldc 200, 2) := by decide +kernel
theorem dJ8_newLength_cabcc_16 : decode cJ8_newLength_cabcc 16 = .ok (.if_icmp .gt 5, 3) := by decide +kernel
theorem dJ8_newLength_cabcc_19 : decode cJ8_newLength_cabcc 19 = .ok (.iload_n 3, 1) := by decide +kernel
theorem dJ8_newLength_cabcc_20 : decode cJ8_newLength_cabcc 20 = .ok (.ireturn, 1) := by decide +kernel
theorem dJ8_newLength_cabcc_21 : decode cJ8_newLength_cabcc 21 = .ok (.iload_n 0, 1) := by decide +kernel
theorem dJ8_newLength_cabcc_22 : decode cJ8_newLength_cabcc 22 = .ok (.iload_n 1, 1) := by decide +kernel
theorem dJ8_newLength_cabcc_23 : decode cJ8_newLength_cabcc 23 = .ok (.invokestatic 201, 3) := by decide +kernel
theorem dJ8_newLength_cabcc_26 : decode cJ8_newLength_cabcc 26 = .ok (.ireturn, 1) := by decide +kernel
