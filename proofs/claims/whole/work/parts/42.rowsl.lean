theorem wd_1_32 : hp_ok (Cond.classLink "HallPhoneLaw" 8 "HallPhone") := ⟨hp_m1 (List.mem_of_getElem? (i := 32) (by decide +kernel)), rfl⟩
theorem wd_5_81 : hp_ok (Cond.classLink "HallPhoneLaw" 13 "java/lang/IllegalArgumentException") := ⟨hp_m5 (List.mem_of_getElem? (i := 81) (by decide +kernel)), rfl⟩
theorem wd_5_123 : hp_ok (Cond.classLink "HallPhoneLaw" 28 "java/lang/IndexOutOfBoundsException") := ⟨hp_m5 (List.mem_of_getElem? (i := 123) (by decide +kernel)), rfl⟩
theorem wd_5_148 : hp_ok (Cond.classLink "HallPhoneLaw" 33 "java/util/NoSuchElementException") := ⟨hp_m5 (List.mem_of_getElem? (i := 148) (by decide +kernel)), rfl⟩
theorem wd_6_146 : hp_ok (Cond.classLink "HallPhoneLaw" 104 "HallPhoneModel") := ⟨hp_m6 (List.mem_of_getElem? (i := 146) (by decide +kernel)), rfl⟩
theorem hp_ca0 : Cond.castable (hp_en 0) (hp_en 0) ∈ lw_tbl := hp_m4 (List.mem_of_getElem? (i := 90) (by decide +kernel))
theorem hp_nc01 : hp_is (Cond.not (Cond.castable (hp_en 0) (hp_en 1))) := ⟨2373, by decide +kernel⟩
theorem hp_nc02 : hp_is (Cond.not (Cond.castable (hp_en 0) (hp_en 2))) := ⟨5573, by decide +kernel⟩
theorem hp_ca1 : Cond.castable (hp_en 1) (hp_en 1) ∈ lw_tbl := hp_m5 (List.mem_of_getElem? (i := 134) (by decide +kernel))
theorem hp_nc10 : hp_is (Cond.not (Cond.castable (hp_en 1) (hp_en 0))) := ⟨5765, by decide +kernel⟩
theorem hp_nc12 : hp_is (Cond.not (Cond.castable (hp_en 1) (hp_en 2))) := ⟨7621, by decide +kernel⟩
theorem hp_ca2 : Cond.castable (hp_en 2) (hp_en 2) ∈ lw_tbl := hp_m5 (List.mem_of_getElem? (i := 155) (by decide +kernel))
theorem hp_nc20 : hp_is (Cond.not (Cond.castable (hp_en 2) (hp_en 0))) := ⟨7813, by decide +kernel⟩
theorem hp_nc21 : hp_is (Cond.not (Cond.castable (hp_en 2) (hp_en 1))) := ⟨5445, by decide +kernel⟩
theorem hp_ofWH {l : Launch} {y : MethodName} {ws ws' : List Cond} {rm : Room} {Pc : Array Value → State → Prop} {Qc : Array Value → State → Outcome → State → Prop} {mc ms : Nat} {free : Addr → Prop} {cc : ByteArray} {maxL : Nat} {ret : Option FieldType} {hh : List (Nat × Nat × Nat × Nat)}
    (hy : plainName y.cls = true) (hw : ws = Cond.codeWith y cc maxL ret hh :: ws')
    (body : ∀ p e s m args below meth c s₁, BodyLoose p l y (headSpec ws rm) cc maxL ret e s m args below meth c s₁ → c.maxLocals = maxL → Pc args s →
      W p l e (headSpec ws rm).room s m args below meth c s.heap [] 0 0 (MQ below Qc args s mc ms free) (entryFrame m args maxL)) : Met l y ws rm Pc Qc mc ms free := by
  refine MetFree.of_bodyS (code := cc) (maxLocals := maxL) (ret := ret) hy ?_ ?_
  · intro args s m h hn
    obtain ⟨m9, meth, c, hn9, h1, h2, h3, h4, -, h5, h6, -⟩ := Cond.codeWith_spec (atoms_spec (ws := ws) h _ (by rw [hw]; exact List.mem_cons_self))
    cases hn.symm.trans hn9
    exact ⟨meth, c, h1, h2, h3, h4, h5, h6⟩
  · intro p e s m args below meth c s₁ B hml hP _
    have hh0 : s₁.heap = s.heap := by rw [B.state]; rfl
    obtain ⟨t, a1, o, b1, b2, b3⟩ := body p e s m args below meth c s₁ B hml hP s₁ hh0 (Stand.of_body B)
    exact ⟨t, o, a1, b1, b2, ⟨b3.1, b3.2⟩⟩
/-- a method of the law that catches -/
def hp_CtW {ρ : Type} (l : Launch) (y : MethodName) (cc : ByteArray) (nL : Nat) (rt : Option FieldType) (hh : List (Nat × Nat × Nat × Nat)) (d k : Nat) (I : List (Nat × Nat) → Prop) (av : hp_av) (ov : hp_ov ρ) (M : hp_M) (G : Option (ρ × hp_M)) : Prop :=
  ∀ (A : Nat → Prop) (D : va_G) (ids : List (Nat × Nat)) (adr : Nat → Nat → Nat) (adV cA : Nat → Nat) (rep : hp_T), I ids → G ≠ none →
    Met l y [Cond.codeWith y cc nL rt hh] (hp_rmX d k) (va_Pc (av adr adV) (hp_Pre A D ids adr adV cA M rep)) (hp_Q A D ids adr adV cA rep ov G) k (6 * k) A
theorem hp_startW {ρ : Type} {l : Launch} {y : MethodName} {cc : ByteArray} {nL : Nat} {rt : Option FieldType} {hh : List (Nat × Nat × Nat × Nat)} {d k : Nat} {I : List (Nat × Nat) → Prop} {av : hp_av} {ov : hp_ov ρ} {M : hp_M} {G : Option (ρ × hp_M)} (own : String) (L0 : (Nat → Nat → Nat) → (Nat → Nat) → List (Nat × Value)) (hy : plainName y.cls = true) (hown : y.cls = own) (hlen : ∀ adr adV, (lg_sl (av adr adV)).length ≤ nL) (hL0 : ∀ adr adV, lv_args 0 (av adr adV) = L0 adr adV)
    (body : ∀ (p : Program) (e : Env) (s : State) (m : MethodId) (args : Array Value) (below : List Frame) (meth : Method) (c : Code) (A : Nat → Prop) (D : va_G) (ids : List (Nat × Nat)) (adr : Nat → Nat → Nat) (adV cA : Nat → Nat) (rep : hp_T) (G0 : Option (ρ × hp_M)), I ids → hp_Cx p s m meth c cc nL own A D adV cA G0 → meth.sig.returnType = rt → c.exceptionTable.toList = tableOf hh →
      hp_Z p l e (hp_rmX d k) s m args below meth c nL A D ids adr adV cA 0 0 (MQ below (hp_Q A D ids adr adV cA rep ov G0) args s k (6 * k) A) G0 rep 0 (L0 adr adV) [] M G) : hp_CtW l y cc nL rt hh d k I av ov M G := by
  intro A D ids adr adV cA rep hI hG
  refine hp_ofWH (cc := cc) (maxL := nL) (ret := rt) (hh := hh) hy rfl ?_
  intro p e s m args below meth c s₁ B hml hv
  obtain ⟨rfl, hT, hA, hW⟩ := hv
  have hl := lv_entry (av adr adV) (n := nL) (hlen adr adV)
  rw [hL0] at hl
  rw [lg_entry_eq]
  subst hown
  have hpre := atoms_spec (ws := [Cond.codeWith y cc nL rt hh]) B.pre _ List.mem_cons_self
  exact body p e s m _ below meth c A D ids adr adV cA rep G hI ⟨B.exec, B.bytes, hml, findClass_of_methodNamed B.named, hT, hA, B.notSynchronized, hG⟩ B.returns (vx_table (x := y) B hpre) s.heap [] _ rfl hW va_S.rf hl
def hp_bc {ρ α : Type} (o : Option ((ρ ⊕ Nat) × hp_M)) (K : ρ → hp_M → Option α) (X : Nat → hp_M → Option α) : Option α := match o with
  | none => none
  | some (.inl r, M) => K r M
  | some (.inr k, M) => X k M
theorem hp_bc_l {ρ α : Type} (r : ρ) (M : hp_M) (K : ρ → hp_M → Option α) (X : Nat → hp_M → Option α) : hp_bc (some (.inl r, M)) K X = K r M := rfl
theorem hp_bc_r {ρ α : Type} (k : Nat) (M : hp_M) (K : ρ → hp_M → Option α) (X : Nat → hp_M → Option α) : hp_bc (some (.inr k, M)) K X = X k M := rfl
/-- what all of it wants of the cells: the class's, the reference's, and the law's own -/
def hp_IL (ids : List (Nat × Nat)) : Prop := hp_IB ids ∧ hp_IR ids ∧ (13, 10) ∈ ids
section HPL
variable {p : Program} {l : Launch} {e : Env} {R : Room} {s : State} {m : MethodId} {args : Array Value} {below : List Frame} {meth : Method} {c : Code} {cells slots K0 S0 : Nat} {Q : State → Prop}
variable {cc : ByteArray} {nL : Nat} {own : String} {A : Nat → Prop} {D : va_G} {ids : List (Nat × Nat)} {adr adr0 : Nat → Nat → Nat} {adV cA : Nat → Nat} {α ρ : Type} {G0 G : Option α} {M : hp_M} {rep : hp_T} {pc n : Nat} {L : List (Nat × Value)} {st : List Value} {H : Heap} {locs : List Loc}
theorem ha_m10 (f : Nat → Int32) : hp_c adr adV cA 13 10 f = .inl (cA 4, 1, .inr (.inl fun i => (f i).toInt64)) := rfl
theorem hp_Nc (h : hp_Tab A D adV cA s H) {a b : String} (hn : hp_is (Cond.not (Cond.castable a b))) : va_Nc a b s := by
  obtain ⟨u0, b0, h1, h2, h3, h4, h5, h6⟩ := hp_prem h
  exact (va_Nc.of (h2 _ hn)).moved h3.alike
theorem hp_cast (h : hp_Tab A D adV cA s H) {a b : String} (hn : Cond.castable a b ∈ lw_tbl) (args : Array Value) : (Cond.castable a b).before args s = true := hp_wdX h hn rfl args

theorem hz_lcmp (hC : hp_Cx p s m meth c cc nL own A D adV cA G0) {x y : Int64} (hdg : decode cc pc = .ok (.lcmp, 1)) (hn : pc + 1 = n) (k : hp_Z p l e R s m args below meth c nL A D ids adr adV cA (cells) (slots) Q G0 rep n L (.int (lg_cmp x y) :: st) M G) : hp_Z p l e R s m args below meth c nL A D ids adr adV cA (cells) (slots) Q G0 rep pc L (.long y :: .long x :: st) M G := by
  subst hn
  exact fun H locs ls hG hW hS hL => W.lcmp hC.1 hC.2.1 hdg (k H locs ls hG hW hS hL)
theorem hz_dcmp (hC : hp_Cx p s m meth c cc nL own A D adV cA G0) {x y : UInt64} {op : CmpOp} (hdg : decode cc pc = .ok (.dcmp op, 1)) (hn : pc + 1 = n) (k : hp_Z p l e R s m args below meth c nL A D ids adr adV cA (cells) (slots) Q G0 rep n L (.int ((Op.cmpValue (FP.dcmp x y) op)) :: st) M G) : hp_Z p l e R s m args below meth c nL A D ids adr adV cA (cells) (slots) Q G0 rep pc L (.double y :: .double x :: st) M G := by
  subst hn
  exact fun H locs ls hG hW hS hL => lv_dcmp hC.1 hC.2.1 hdg (k H locs ls hG hW hS hL)
theorem hz_f2d (hC : hp_Cx p s m meth c cc nL own A D adV cA G0) {x : UInt32} {d : Decidable ((FP.f2d x) &&& 0x7fffffffffffffff ≤ 0x7ff0000000000000)} (hdg : decode cc pc = .ok (.f2d, 1)) (hn : pc + 1 = n) (k : hp_Z p l e R s m args below meth c nL A D ids adr adV cA (cells) (slots) Q G0 rep n L (.double (FP.f2d x) :: st) M G) : hp_Z p l e R s m args below meth c nL A D ids adr adV cA (cells) (slots) Q G0 rep pc L (.float x :: st) M (@ite (Option α) ((FP.f2d x) &&& 0x7fffffffffffffff ≤ 0x7ff0000000000000) d G none) := by
  subst hn
  exact hz_case (fun h H locs ls hG hW hS hL => lv_f2d hC.1 hC.2.1 hdg h (k H locs ls hG hW hS hL)) (fun _ => hz_none hC)
theorem hz_lald13 (hC : hp_Cx p s m meth c cc nL own A D adV cA G0) (hdg : decode cc pc = .ok (.laload, 1)) (hq : (13, 10) ∈ ids) (hn : pc + 1 = n) (kk : hp_Z p l e R s m args below meth c nL A D ids adr adV cA (cells) (slots) Q G0 rep n L (.long ((M 13 10 0).toInt64) :: st) M G) : hp_Z p l e R s m args below meth c nL A D ids adr adV cA (cells) (slots) Q G0 rep pc L (.int 0 :: .ref (adr 13 10) :: st) M G := by
  subst hn
  intro H locs ls hG hW hS hL
  obtain ⟨tl, hsb, hP, hD⟩ := id hW
  obtain ⟨q, hq2, -⟩ := hp_wl_at hD hq
  rw [ha_m10] at hq2
  obtain ⟨u0, b0, -, -, -, -, hK, -⟩ := id hC.2.2.2.2.1
  exact va_lald hC.1 hC.2.1 hK hP q 4 hq2 rfl (i := 0) (fun h => by rcases h with h | h <;> revert h <;> decide) hdg (kk H locs ls hG hW hS hL)
theorem hz_last13 (hC : hp_Cx p s m meth c cc nL own A D adV cA G0) {x : Int32} {v : Int64} (hv : x.toInt64 = v) (hdg : decode cc pc = .ok (.lastore, 1)) (hq : (13, 10) ∈ ids) (hn : pc + 1 = n) (kk : hp_Z p l e R s m args below meth c nL A D ids adr adV cA (cells) (slots) Q G0 rep n L st (hp_p M 13 10 0 x) G) : hp_Z p l e R s m args below meth c nL A D ids adr adV cA (cells) (slots) Q G0 rep pc L (.long v :: .int 0 :: .ref (adr 13 10) :: st) M G := by
  subst hn; subst hv
  intro H locs ls hG hW hS hL
  obtain ⟨tl, hsb, hP, hD⟩ := id hW
  obtain ⟨q, hq2, hset⟩ := hp_wl_at hD hq
  rw [ha_m10] at hq2
  obtain ⟨u0, b0, -, -, -, -, hK, -⟩ := id hC.2.2.2.2.1
  refine va_last hC.1 hC.2.1 hK hP hD hS q 4 hq2 rfl (i := 0) (fun h => by rcases h with h | h <;> revert h <;> decide) hdg (fun H1 locs1 hP1 hD1 hS1 => ?_)
  have h9 := hset (upd (M 13 10) 0 x)
  rw [ha_m10] at h9
  have e : vp_updL (fun i => (M 13 10 i).toInt64) (0 : Int32).toNatClampNeg x.toInt64 = fun i => (upd (M 13 10) 0 x i).toInt64 := by
    funext j
    show (if j = 0 then x.toInt64 else (M 13 10 j).toInt64) = (if j = 0 then x else M 13 10 j).toInt64
    split <;> rfl
  rw [e, h9, hp_p_sr] at hP1 hD1
  exact kk H1 locs1 ls hG ⟨tl, hsb, hP1, hD1⟩ hS1 hL
theorem hz_sld (hC : hp_Cx p s m meth c cc nL own A D adV cA G0) {i : Int32} {b N : Nat} {xs : Nat → Int32} {d : Decidable (i < 0 ∨ N ≤ i.toNatClampNeg)} (hX : va_X b N xs s s.heap) (hbl : b < s.heap.size) (hbA : ¬ A b) (hdg : decode cc pc = .ok (.iaload, 1)) (hn : pc + 1 = n) (kk : hp_Z p l e R s m args below meth c nL A D ids adr adV cA (cells) (slots) Q G0 rep n L (.int (xs i.toNatClampNeg) :: st) M G) : hp_Z p l e R s m args below meth c nL A D ids adr adV cA (cells) (slots) Q G0 rep pc L (.int i :: .ref b :: st) M (@ite (Option α) (i < 0 ∨ N ≤ i.toNatClampNeg) d none G) := by
  subst hn
  exact hz_chk hC (fun h0 H locs ls hG hW hS hL => va_sld hC.1 hC.2.1 hX hbl hbA hS h0 hdg (kk H locs ls hG hW hS hL))
theorem hz_slen (hC : hp_Cx p s m meth c cc nL own A D adV cA G0) {b N : Nat} {xs : Nat → Int32} (hX : va_X b N xs s s.heap) (hbl : b < s.heap.size) (hbA : ¬ A b) (hdg : decode cc pc = .ok (.arraylength, 1)) (hn : pc + 1 = n) (kk : hp_Z p l e R s m args below meth c nL A D ids adr adV cA (cells) (slots) Q G0 rep n L (.int (nI N) :: st) M G) : hp_Z p l e R s m args below meth c nL A D ids adr adV cA (cells) (slots) Q G0 rep pc L (.ref b :: st) M G := by
  subst hn
  exact fun H locs ls hG hW hS hL => va_slen hC.1 hC.2.1 hX hbl hbA hS hdg (kk H locs ls hG hW hS hL)

theorem hz_dload_n (hC : hp_Cx p s m meth c cc nL own A D adV cA G0) {k : Fin 4} {i a : Nat} {x : UInt64} (hdg : decode cc pc = .ok (.dload_n k, 1)) (hi : (k : Nat) = i) (ha : L[a]? = some (i, .double x)) (hn : pc + 1 = n) (k : hp_Z p l e R s m args below meth c nL A D ids adr adV cA (cells) (slots) Q G0 rep n L (.double x :: st) M G) : hp_Z p l e R s m args below meth c nL A D ids adr adV cA (cells) (slots) Q G0 rep pc L st M G := by
  subst hn
  exact fun H locs ls hG hW hS hL => lv_dload_n hC.1 hC.2.1 hdg hi (lv_at hL a ha) (k H locs ls hG hW hS hL)
theorem hz_dload (hC : hp_Cx p s m meth c cc nL own A D adV cA G0) {i a : Nat} {x : UInt64} (hdg : decode cc pc = .ok (.dload i, 2))  (ha : L[a]? = some (i, .double x)) (hn : pc + 2 = n) (k : hp_Z p l e R s m args below meth c nL A D ids adr adV cA (cells) (slots) Q G0 rep n L (.double x :: st) M G) : hp_Z p l e R s m args below meth c nL A D ids adr adV cA (cells) (slots) Q G0 rep pc L st M G := by
  subst hn
  exact fun H locs ls hG hW hS hL => lv_dload hC.1 hC.2.1 hdg (lv_at hL a ha) (k H locs ls hG hW hS hL)
theorem hz_dstore_n (hC : hp_Cx p s m meth c cc nL own A D adV cA G0) {k : Fin 4} {i : Nat} {x : UInt64} {L' : List (Nat × Value)} (hdg : decode cc pc = .ok (.dstore_n k, 1)) (hi : (k : Nat) = i) (hlt : i + 1 < nL) (hl : (i, Value.double x) :: L.filter (fun q => !(q.1 == i) && (!(q.1 == i + 1) && !(q.1 + 1 == i && q.2.category == 2))) = L') (hn : pc + 1 = n) (k : hp_Z p l e R s m args below meth c nL A D ids adr adV cA (cells) (slots) Q G0 rep n L' st M G) : hp_Z p l e R s m args below meth c nL A D ids adr adV cA (cells) (slots) Q G0 rep pc L (.double x :: st) M G := by
  subst hn
  exact fun H locs ls hG hW hS hL => lv_dstore_n hC.1 hC.2.1 hdg hi hL hlt hl (fun ls2 hL2 => k H locs ls2 hG hW hS hL2)
theorem hz_dstore (hC : hp_Cx p s m meth c cc nL own A D adV cA G0) {i : Nat} {x : UInt64} {L' : List (Nat × Value)} (hdg : decode cc pc = .ok (.dstore i, 2))  (hlt : i + 1 < nL) (hl : (i, Value.double x) :: L.filter (fun q => !(q.1 == i) && (!(q.1 == i + 1) && !(q.1 + 1 == i && q.2.category == 2))) = L') (hn : pc + 2 = n) (k : hp_Z p l e R s m args below meth c nL A D ids adr adV cA (cells) (slots) Q G0 rep n L' st M G) : hp_Z p l e R s m args below meth c nL A D ids adr adV cA (cells) (slots) Q G0 rep pc L (.double x :: st) M G := by
  subst hn
  exact fun H locs ls hG hW hS hL => lv_dstore hC.1 hC.2.1 hdg hL hlt hl (fun ls2 hL2 => k H locs ls2 hG hW hS hL2)
theorem hp_callRW {ov : hp_ov ρ} {G1 : Option (ρ × hp_M)} {ls : Array Slot} {st0 : List Value} {a : Array Value} {mc ms : Nat} (hr : va_Run p l e R s m args below meth c H locs cells slots mc ms (F0 m pc ls st0) st (hp_Q A D ids adr adV cA rep ov G1 a) A) (hS : va_S A s.heap H locs)
    (kk : ∀ (r : ρ) (M' : hp_M) (H1 : Heap) (locs1 : List Loc), G1 = some (r, M') → hp_W A D ids adr adV cA M' rep H1 → va_S A s.heap H1 locs1 → W p l e R s m args below meth c H1 locs1 (cells + mc) (slots + ms) Q (F0 m (pc + 3) ls ((ov adr adV r).toList ++ st))) : W p l e R s m args below meth c H locs cells slots Q (F0 m pc ls st0) := by
  intro T hT X
  obtain ⟨v, st₀, t, T', L, h0, X', hL, e1, e2, ⟨⟨r, M', hv, hg, hw⟩, hz, hk⟩, st⟩ := hr T hT X
  cases hv
  rw [h0] at hz hk
  obtain ⟨t2, a1, b1⟩ := kk r M' T'.heap (locs ++ L) hg (by rw [e1]; exact hw)
    ⟨Nat.le_trans hS.1 (by rw [e1]; exact hz), fun q h1 h2 => by rw [e1, hk q (Nat.lt_of_lt_of_le h1 hS.1) h2]; exact hS.2.1 q h1 h2, fun q hq => by
      rcases List.mem_append.mp hq with h | h
      · exact hS.2.2 q h
      · exact hL q h⟩ T' rfl X'
  exact ⟨t2, st t2 a1, b1⟩
theorem hz_callVC1 (hC : hp_Cx p s m meth c cc nL own A D adV cA G0) {y : MethodName} {cc1 : ByteArray} {nL1 k d1 k1 idx : Nat} {rt1 : Option FieldType} {I : List (Nat × Nat) → Prop} {av : hp_av} {ov : hp_ov ρ} {G1 : Option ((ρ ⊕ Nat) × hp_M)} {K : ρ → hp_M → Option α} {As st0 : List Value} {S1 : ρ → List Value} {g j ci N : Nat} {T : u_T} {F : (Nat → Int32) → List Value} {e1 a1 b1 h1 t1 : Nat} {X1 : hp_M → Option α} (hT9 : c.exceptionTable.toList = tableOf [(a1, b1, h1, t1)]) (hcov : covers ⟨a1, b1, h1, t1⟩ pc = true) (ht0 : t1 ≠ 0) (hl1 : hp_ok (.classLink own t1 (hp_en e1))) (hc1 : Cond.castable (hp_en e1) (hp_en e1) ∈ lw_tbl) (hct : hp_CtX l y cc1 nL1 rt1 d1 k1 I av ov M G1) (hk : hp_Kv y cc1 nL1 rt1 k) (hl : hp_ok (.methodLink own idx y)) (hI : I ids) (hdg : decode cc pc = .ok (.invokevirtual idx, 3)) (hav : av adr adV = .ref (adr g j) :: As) (hq : (g, j) ∈ ids) (he : ∀ f : Nat → Int32, hp_c adr adV cA g j f = .inr (ci, F f)) (hc : vwCl[ci]? = some (y.cls, T, N)) (hlen : As.length = k) (hst : st0 = As.reverse ++ .ref (adr g j) :: st) (hcat : (st.map fun v => v.category).sum ≤ 8) (hR : d1 + 1 ≤ R.frames ∧ 60 * d1 + 60 ≤ R.locals) (hf : cells + k1 ≤ R.cells ∧ slots + 6 * k1 ≤ R.slots) (hs1 : ∀ r, (ov adr adV r).toList ++ st = S1 r) (hn : pc + 3 = n) (kk : ∀ (r : ρ) (M' : hp_M), G1 = some (.inl r, M') → hp_Z p l e R s m args below meth c nL A D ids adr adV cA (cells + k1) (slots + 6 * k1) Q G0 rep n L (S1 r) M' (K r M')) (kh1 : ∀ (q : Nat) (M' : hp_M), hp_Z p l e R s m args below meth c nL A D ids adr adV cA (cells + k1) (slots + 6 * k1) Q G0 rep h1 L [.ref q] M' (X1 M')) : hp_Z p l e R s m args below meth c nL A D ids adr adV cA (cells) (slots) Q G0 rep pc L st0 M (hp_bc G1 K (fun kx M' => if kx = e1 then X1 M' else none)) := by
  subst hn
  intro H locs ls hG hW hS hL
  have hne : G1 ≠ none := fun h => hC.2.2.2.2.2.2.2 (by rw [← hG, h]; rfl)
  obtain ⟨tl, hsb, hP, hD⟩ := id hW
  obtain ⟨q, hq2, -⟩ := hp_wl_at hD hq
  rw [he] at hq2
  obtain ⟨u0, b0, -, -, -, -, hK, -⟩ := id hC.2.2.2.2.1
  have hT := hC.2.2.2.2.1
  refine hp_callRX (vx_runV (As := As) (rest := st) ⟨hC.1, hC.2.1, hC.2.2.1, hC.2.2.2.1, fun w h => absurd h List.not_mem_nil⟩ (Ts := []) (hct A D ids adr adV cA rep hI hne) ⟨hp_CBX hT hk.2.2.1 hk.2.2.2.1 hk.2.2.2.2.1 hk.2.2.2.2.2 hl hR, hp_wd hT hk.1 args, hp_wd hT hk.2.1 args⟩ ⟨hp_blind, va_recv hK hP hc hq2, hp_pre hC hS hW (by rw [hav])⟩ rfl hlen hL.1 hst (lv_room hcat) hdg hf) hS (fun kx M' H1 locs1 q ce hg hw1 hS1 hce hcv hcl => ?_) (fun r M' H1 locs1 hg hw1 hS1 => by rw [hs1]; exact kk r M' hg H1 locs1 ls (by rw [← hG, hg]; rfl) hw1 hS1 hL)
  have hG2 : (if kx = e1 then X1 M' else none) = G0 := by rw [← hG, hg]; rfl
  by_cases hx : kx = e1
  · subst hx
    rw [if_pos rfl] at hG2
    exact vx_catch hC.2.2.2.1 [] ⟨a1, b1, h1, t1⟩ [] hT9 (fun z h => nomatch h) hcov ht0 (hp_wd hT hl1 args) (hp_cast hT hc1 args) hce hcv hcl (kh1 q M' H1 locs1 ls hG2 hw1 hS1 hL)
  · rw [if_neg hx] at hG2
    exact absurd hG2.symm hC.2.2.2.2.2.2.2
theorem hz_callVC2 (hC : hp_Cx p s m meth c cc nL own A D adV cA G0) {y : MethodName} {cc1 : ByteArray} {nL1 k d1 k1 idx : Nat} {rt1 : Option FieldType} {I : List (Nat × Nat) → Prop} {av : hp_av} {ov : hp_ov ρ} {G1 : Option ((ρ ⊕ Nat) × hp_M)} {K : ρ → hp_M → Option α} {As st0 : List Value} {S1 : ρ → List Value} {g j ci N : Nat} {T : u_T} {F : (Nat → Int32) → List Value} {e1 e2 a1 b1 h1 t1 a2 b2 h2 t2 : Nat} {X1 X2 : hp_M → Option α} (hT9 : c.exceptionTable.toList = tableOf [(a1, b1, h1, t1), (a2, b2, h2, t2)]) (hcov : covers ⟨a1, b1, h1, t1⟩ pc = true ∧ covers ⟨a2, b2, h2, t2⟩ pc = true) (ht0 : t1 ≠ 0 ∧ t2 ≠ 0) (hl1 : hp_ok (.classLink own t1 (hp_en e1))) (hl2 : hp_ok (.classLink own t2 (hp_en e2))) (hc1 : Cond.castable (hp_en e1) (hp_en e1) ∈ lw_tbl) (hc2 : Cond.castable (hp_en e2) (hp_en e2) ∈ lw_tbl) (hnc : hp_is (Cond.not (Cond.castable (hp_en e2) (hp_en e1)))) (hct : hp_CtX l y cc1 nL1 rt1 d1 k1 I av ov M G1) (hk : hp_Kv y cc1 nL1 rt1 k) (hl : hp_ok (.methodLink own idx y)) (hI : I ids) (hdg : decode cc pc = .ok (.invokevirtual idx, 3)) (hav : av adr adV = .ref (adr g j) :: As) (hq : (g, j) ∈ ids) (he : ∀ f : Nat → Int32, hp_c adr adV cA g j f = .inr (ci, F f)) (hc : vwCl[ci]? = some (y.cls, T, N)) (hlen : As.length = k) (hst : st0 = As.reverse ++ .ref (adr g j) :: st) (hcat : (st.map fun v => v.category).sum ≤ 8) (hR : d1 + 1 ≤ R.frames ∧ 60 * d1 + 60 ≤ R.locals) (hf : cells + k1 ≤ R.cells ∧ slots + 6 * k1 ≤ R.slots) (hs1 : ∀ r, (ov adr adV r).toList ++ st = S1 r) (hn : pc + 3 = n) (kk : ∀ (r : ρ) (M' : hp_M), G1 = some (.inl r, M') → hp_Z p l e R s m args below meth c nL A D ids adr adV cA (cells + k1) (slots + 6 * k1) Q G0 rep n L (S1 r) M' (K r M')) (kh1 : ∀ (q : Nat) (M' : hp_M), hp_Z p l e R s m args below meth c nL A D ids adr adV cA (cells + k1) (slots + 6 * k1) Q G0 rep h1 L [.ref q] M' (X1 M')) (kh2 : ∀ (q : Nat) (M' : hp_M), hp_Z p l e R s m args below meth c nL A D ids adr adV cA (cells + k1) (slots + 6 * k1) Q G0 rep h2 L [.ref q] M' (X2 M')) : hp_Z p l e R s m args below meth c nL A D ids adr adV cA (cells) (slots) Q G0 rep pc L st0 M (hp_bc G1 K (fun kx M' => if kx = e1 then X1 M' else if kx = e2 then X2 M' else none)) := by
  subst hn
  intro H locs ls hG hW hS hL
  have hne : G1 ≠ none := fun h => hC.2.2.2.2.2.2.2 (by rw [← hG, h]; rfl)
  obtain ⟨tl, hsb, hP, hD⟩ := id hW
  obtain ⟨q, hq2, -⟩ := hp_wl_at hD hq
  rw [he] at hq2
  obtain ⟨u0, b0, -, -, -, -, hK, -⟩ := id hC.2.2.2.2.1
  have hT := hC.2.2.2.2.1
  refine hp_callRX (vx_runV (As := As) (rest := st) ⟨hC.1, hC.2.1, hC.2.2.1, hC.2.2.2.1, fun w h => absurd h List.not_mem_nil⟩ (Ts := []) (hct A D ids adr adV cA rep hI hne) ⟨hp_CBX hT hk.2.2.1 hk.2.2.2.1 hk.2.2.2.2.1 hk.2.2.2.2.2 hl hR, hp_wd hT hk.1 args, hp_wd hT hk.2.1 args⟩ ⟨hp_blind, va_recv hK hP hc hq2, hp_pre hC hS hW (by rw [hav])⟩ rfl hlen hL.1 hst (lv_room hcat) hdg hf) hS (fun kx M' H1 locs1 q ce hg hw1 hS1 hce hcv hcl => ?_) (fun r M' H1 locs1 hg hw1 hS1 => by rw [hs1]; exact kk r M' hg H1 locs1 ls (by rw [← hG, hg]; rfl) hw1 hS1 hL)
  have hG2 : (if kx = e1 then X1 M' else if kx = e2 then X2 M' else none) = G0 := by rw [← hG, hg]; rfl
  by_cases hx : kx = e1
  · subst hx
    rw [if_pos rfl] at hG2
    exact vx_catch hC.2.2.2.1 [] ⟨a1, b1, h1, t1⟩ [⟨a2, b2, h2, t2⟩] hT9 (fun z h => nomatch h) hcov.1 ht0.1 (hp_wd hT hl1 args) (hp_cast hT hc1 args) hce hcv hcl (kh1 q M' H1 locs1 ls hG2 hw1 hS1 hL)
  · rw [if_neg hx] at hG2
    by_cases hx2 : kx = e2
    · subst hx2
      rw [if_pos rfl] at hG2
      exact vx_catch hC.2.2.2.1 [⟨a1, b1, h1, t1⟩] ⟨a2, b2, h2, t2⟩ [] hT9 (fun z h => by rcases List.mem_singleton.mp h with rfl; exact Or.inr ⟨ht0.1, _, hp_wd hT hl1 args, hp_Nc hT hnc⟩) hcov.2 ht0.2 (hp_wd hT hl2 args) (hp_cast hT hc2 args) hce hcv hcl (kh2 q M' H1 locs1 ls hG2 hw1 hS1 hL)
    · rw [if_neg hx2] at hG2
      exact absurd hG2.symm hC.2.2.2.2.2.2.2
def hp_Kw (y : MethodName) (cc : ByteArray) (nL : Nat) (rt : Option FieldType) (hh : List (Nat × Nat × Nat × Nat)) (k : Nat) : Prop := hp_ok (.static y) ∧ hp_ok (.initialized y.cls) ∧ hp_ok (.codeWith y cc nL rt hh) ∧ (y.cls ≠ "java/lang/invoke/MethodHandle" ∧ y.cls ≠ "java/lang/invoke/VarHandle" ∧ (parseMethodDescriptor y.desc).map (fun d => d.parameters.length) = some k) ∧ nL ≤ 41
theorem hz_callSW (hC : hp_Cx p s m meth c cc nL own A D adV cA G0) {y : MethodName} {cc1 : ByteArray} {nL1 k d1 k1 idx : Nat} {rt1 : Option FieldType} {hh : List (Nat × Nat × Nat × Nat)} {I : List (Nat × Nat) → Prop} {av : hp_av} {ov : hp_ov ρ} {G1 : Option (ρ × hp_M)} {K : ρ → hp_M → Option α} {As st0 : List Value} {S1 : ρ → List Value} (hct : hp_CtW l y cc1 nL1 rt1 hh d1 k1 I av ov M G1) (hk : hp_Kw y cc1 nL1 rt1 hh k) (hl : hp_ok (.methodLink own idx y)) (hI : I ids) (hdg : decode cc pc = .ok (.invokestatic idx, 3)) (hav : av adr adV = As) (hlen : As.length = k) (hst : st0 = As.reverse ++ st) (hcat : (st.map fun v => v.category).sum ≤ 8) (hR : d1 + 1 ≤ R.frames ∧ 60 * d1 + 60 ≤ R.locals) (hf : cells + k1 ≤ R.cells ∧ slots + 6 * k1 ≤ R.slots) (hs1 : ∀ r, (ov adr adV r).toList ++ st = S1 r) (hn : pc + 3 = n) (kk : ∀ (r : ρ) (M' : hp_M), G1 = some (r, M') → hp_Z p l e R s m args below meth c nL A D ids adr adV cA (cells + k1) (slots + 6 * k1) Q G0 rep n L (S1 r) M' (K r M')) : hp_Z p l e R s m args below meth c nL A D ids adr adV cA (cells) (slots) Q G0 rep pc L st0 M (hp_b G1 K) := by
  subst hn
  intro H locs ls hG hW hS hL
  have hne : G1 ≠ none := fun h => hC.2.2.2.2.2.2.2 (by rw [← hG, h]; rfl)
  have hT := hC.2.2.2.2.1
  have hcw : vx_CSW R s args own idx y cc1 nL1 rt1 hh [Cond.codeWith y cc1 nL1 rt1 hh] (hp_rmX d1 k1) k1 (6 * k1) k := by
    refine ⟨⟨rfl, rfl, hR.1, ?_, fun w hw a' U hWm => ?_, List.mem_cons_self⟩, hp_wd hT hk.2.2.1 args, hp_wd hT hk.2.1 args, ⟨hk.2.2.2.1.1, hk.2.2.2.1.2.1⟩, fun sig h => ?_, hp_wd hT hl args, hp_wd hT hk.1 args⟩
    · have := hk.2.2.2.2
      show 8 + (nL1 + 11) + 60 * d1 ≤ R.locals
      omega
    · rcases List.mem_singleton.mp hw with rfl
      exact word_at hWm (good_of_word hk.2.2.1.2) (hp_wd hT hk.2.2.1 args)
    · have h2 := hk.2.2.2.1.2.2
      rw [h] at h2
      exact (Option.some.inj h2).symm
  exact hp_callRW (vx_runSW (As := As) (rest := st) ⟨hC.1, hC.2.1, hC.2.2.1, hC.2.2.2.1, fun w h => absurd h List.not_mem_nil⟩ (Ts := []) (hct A D ids adr adV cA rep hI hne) hcw ⟨hp_blind, hp_pre hC hS hW (by rw [hav])⟩ rfl hlen hL.1 hst (lv_room hcat) hdg hf) hS (fun r M' H1 locs1 hg hw1 hS1 => by rw [hs1]; exact kk r M' hg H1 locs1 ls (by rw [← hG, hg]; rfl) hw1 hS1 hL)
end HPL
theorem wd_5_79 : hp_ok (Cond.static ⟨"HallPhoneLaw", "parse", "(LHallPhone;I[J)I"⟩) := ⟨hp_m5 (List.mem_of_getElem? (i := 79) (by decide +kernel)), rfl⟩
theorem kw_L_parse : hp_Kw yL_parse cL_parse 4 (some .int) [(0, 9, 12, 13)] 3 := ⟨wd_5_79, wd_1_0, ⟨hp_m5 (List.mem_of_getElem? (i := 80) (by decide +kernel)), rfl⟩, ⟨by decide, by decide, by decide +kernel⟩, by decide⟩
theorem wd_5_98 : hp_ok (Cond.static ⟨"HallPhoneLaw", "load", "(LHallPhone;I[J)I"⟩) := ⟨hp_m5 (List.mem_of_getElem? (i := 98) (by decide +kernel)), rfl⟩
theorem kw_L_load : hp_Kw yL_load cL_load 4 (some .int) [(0, 9, 12, 13)] 3 := ⟨wd_5_98, wd_1_0, ⟨hp_m5 (List.mem_of_getElem? (i := 99) (by decide +kernel)), rfl⟩, ⟨by decide, by decide, by decide +kernel⟩, by decide⟩
theorem wd_5_107 : hp_ok (Cond.static ⟨"HallPhoneLaw", "size", "(LHallPhone;I[J)I"⟩) := ⟨hp_m5 (List.mem_of_getElem? (i := 107) (by decide +kernel)), rfl⟩
theorem kw_L_size : hp_Kw yL_size cL_size 4 (some .int) [(0, 9, 12, 13)] 3 := ⟨wd_5_107, wd_1_0, ⟨hp_m5 (List.mem_of_getElem? (i := 108) (by decide +kernel)), rfl⟩, ⟨by decide, by decide, by decide +kernel⟩, by decide⟩
theorem wd_5_114 : hp_ok (Cond.static ⟨"HallPhoneLaw", "setting", "(LHallPhone;I[J)I"⟩) := ⟨hp_m5 (List.mem_of_getElem? (i := 114) (by decide +kernel)), rfl⟩
theorem kw_L_setting : hp_Kw yL_setting cL_setting 4 (some .int) [(0, 9, 12, 13)] 3 := ⟨wd_5_114, wd_1_0, ⟨hp_m5 (List.mem_of_getElem? (i := 115) (by decide +kernel)), rfl⟩, ⟨by decide, by decide, by decide +kernel⟩, by decide⟩
theorem wd_5_121 : hp_ok (Cond.static ⟨"HallPhoneLaw", "flat", "(LHallPhone;II[J)I"⟩) := ⟨hp_m5 (List.mem_of_getElem? (i := 121) (by decide +kernel)), rfl⟩
theorem kw_L_flat : hp_Kw yL_flat cL_flat 5 (some .int) [(0, 10, 13, 28), (0, 10, 17, 13)] 4 := ⟨wd_5_121, wd_1_0, ⟨hp_m5 (List.mem_of_getElem? (i := 122) (by decide +kernel)), rfl⟩, ⟨by decide, by decide, by decide +kernel⟩, by decide⟩
theorem wd_5_146 : hp_ok (Cond.static ⟨"HallPhoneLaw", "message", "(LHallPhone;II[J)I"⟩) := ⟨hp_m5 (List.mem_of_getElem? (i := 146) (by decide +kernel)), rfl⟩
theorem kw_L_message : hp_Kw yL_message cL_message 5 (some .int) [(0, 10, 13, 33), (0, 10, 17, 13)] 4 := ⟨wd_5_146, wd_1_0, ⟨hp_m5 (List.mem_of_getElem? (i := 147) (by decide +kernel)), rfl⟩, ⟨by decide, by decide, by decide +kernel⟩, by decide⟩
theorem wd_5_170 : hp_ok (Cond.static ⟨"HallPhoneLaw", "heard", "(LHallPhone;II[J)I"⟩) := ⟨hp_m5 (List.mem_of_getElem? (i := 170) (by decide +kernel)), rfl⟩
theorem kw_L_heard : hp_Kw yL_heard cL_heard 5 (some .int) [(0, 10, 13, 28)] 4 := ⟨wd_5_170, wd_1_0, ⟨hp_m5 (List.mem_of_getElem? (i := 171) (by decide +kernel)), rfl⟩, ⟨by decide, by decide, by decide +kernel⟩, by decide⟩
theorem wd_5_177 : hp_ok (Cond.static ⟨"HallPhoneLaw", "knowing", "(LHallPhone;I[J)I"⟩) := ⟨hp_m5 (List.mem_of_getElem? (i := 177) (by decide +kernel)), rfl⟩
theorem kw_L_knowing : hp_Kw yL_knowing cL_knowing 4 (some .int) [(0, 9, 12, 28)] 3 := ⟨wd_5_177, wd_1_0, ⟨hp_m5 (List.mem_of_getElem? (i := 178) (by decide +kernel)), rfl⟩, ⟨by decide, by decide, by decide +kernel⟩, by decide⟩
theorem wd_5_184 : hp_ok (Cond.static ⟨"HallPhoneLaw", "listening", "(LHallPhone;I[J)I"⟩) := ⟨hp_m5 (List.mem_of_getElem? (i := 184) (by decide +kernel)), rfl⟩
theorem kw_L_listening : hp_Kw yL_listening cL_listening 4 (some .int) [(0, 9, 12, 28)] 3 := ⟨wd_5_184, wd_1_0, ⟨hp_m5 (List.mem_of_getElem? (i := 185) (by decide +kernel)), rfl⟩, ⟨by decide, by decide, by decide +kernel⟩, by decide⟩
theorem wd_5_195 : hp_ok (Cond.static ⟨"HallPhoneLaw", "cost", "(LHallPhone;I[J)I"⟩) := ⟨hp_m5 (List.mem_of_getElem? (i := 195) (by decide +kernel)), rfl⟩
theorem kw_L_cost : hp_Kw yL_cost cL_cost 4 (some .int) [(0, 9, 12, 13)] 3 := ⟨wd_5_195, wd_1_0, ⟨hp_m5 (List.mem_of_getElem? (i := 196) (by decide +kernel)), rfl⟩, ⟨by decide, by decide, by decide +kernel⟩, by decide⟩
theorem wd_5_203 : hp_ok (Cond.static ⟨"HallPhoneLaw", "why", "(LHallPhone;II[J)I"⟩) := ⟨hp_m5 (List.mem_of_getElem? (i := 203) (by decide +kernel)), rfl⟩
theorem kw_L_why : hp_Kw yL_why cL_why 5 (some .int) [(0, 10, 13, 28), (0, 10, 17, 13)] 4 := ⟨wd_5_203, wd_1_0, ⟨hp_m5 (List.mem_of_getElem? (i := 204) (by decide +kernel)), rfl⟩, ⟨by decide, by decide, by decide +kernel⟩, by decide⟩
theorem wd_5_218 : hp_ok (Cond.static ⟨"HallPhoneLaw", "speaksIn", "(LHallPhone;I[J)I"⟩) := ⟨hp_m5 (List.mem_of_getElem? (i := 218) (by decide +kernel)), rfl⟩
theorem kw_L_speaksIn : hp_Kw yL_speaksIn cL_speaksIn 4 (some .int) [(0, 9, 12, 28)] 3 := ⟨wd_5_218, wd_1_0, ⟨hp_m5 (List.mem_of_getElem? (i := 219) (by decide +kernel)), rfl⟩, ⟨by decide, by decide, by decide +kernel⟩, by decide⟩
theorem wd_5_229 : hp_ok (Cond.static ⟨"HallPhoneLaw", "flatIn", "(LHallPhone;II[J)I"⟩) := ⟨hp_m5 (List.mem_of_getElem? (i := 229) (by decide +kernel)), rfl⟩
theorem kw_L_flatIn : hp_Kw yL_flatIn cL_flatIn 5 (some .int) [(0, 10, 13, 28), (0, 10, 17, 13)] 4 := ⟨wd_5_229, wd_1_0, ⟨hp_m5 (List.mem_of_getElem? (i := 230) (by decide +kernel)), rfl⟩, ⟨by decide, by decide, by decide +kernel⟩, by decide⟩
theorem wd_6_1 : hp_ok (Cond.static ⟨"HallPhoneLaw", "debtIn", "(LHallPhone;II[J)I"⟩) := ⟨hp_m6 (List.mem_of_getElem? (i := 1) (by decide +kernel)), rfl⟩
theorem kw_L_debtIn : hp_Kw yL_debtIn cL_debtIn 5 (some .int) [(0, 10, 13, 28), (0, 10, 17, 13)] 4 := ⟨wd_6_1, wd_1_0, ⟨hp_m6 (List.mem_of_getElem? (i := 2) (by decide +kernel)), rfl⟩, ⟨by decide, by decide, by decide +kernel⟩, by decide⟩
theorem wd_6_8 : hp_ok (Cond.static ⟨"HallPhoneLaw", "waitIf", "(LHallPhone;I[J)I"⟩) := ⟨hp_m6 (List.mem_of_getElem? (i := 8) (by decide +kernel)), rfl⟩
theorem kw_L_waitIf : hp_Kw yL_waitIf cL_waitIf 4 (some .int) [(0, 9, 12, 28)] 3 := ⟨wd_6_8, wd_1_0, ⟨hp_m6 (List.mem_of_getElem? (i := 9) (by decide +kernel)), rfl⟩, ⟨by decide, by decide, by decide +kernel⟩, by decide⟩
theorem wd_6_17 : hp_ok (Cond.static ⟨"HallPhoneLaw", "learnsIn", "(LHallPhone;II[J)I"⟩) := ⟨hp_m6 (List.mem_of_getElem? (i := 17) (by decide +kernel)), rfl⟩
theorem kw_L_learnsIn : hp_Kw yL_learnsIn cL_learnsIn 5 (some .int) [(0, 10, 13, 28), (0, 10, 17, 13)] 4 := ⟨wd_6_17, wd_1_0, ⟨hp_m6 (List.mem_of_getElem? (i := 18) (by decide +kernel)), rfl⟩, ⟨by decide, by decide, by decide +kernel⟩, by decide⟩
theorem wd_6_28 : hp_ok (Cond.static ⟨"HallPhoneLaw", "ifRung", "(LHallPhone;I[J)I"⟩) := ⟨hp_m6 (List.mem_of_getElem? (i := 28) (by decide +kernel)), rfl⟩
theorem kw_L_ifRung : hp_Kw yL_ifRung cL_ifRung 4 (some .int) [(0, 9, 12, 28)] 3 := ⟨wd_6_28, wd_1_0, ⟨hp_m6 (List.mem_of_getElem? (i := 29) (by decide +kernel)), rfl⟩, ⟨by decide, by decide, by decide +kernel⟩, by decide⟩
theorem wd_6_38 : hp_ok (Cond.static ⟨"HallPhoneLaw", "account", "(LHallPhone;I[J)I"⟩) := ⟨hp_m6 (List.mem_of_getElem? (i := 38) (by decide +kernel)), rfl⟩
theorem kw_L_account : hp_Kw yL_account cL_account 4 (some .int) [(0, 9, 12, 13)] 3 := ⟨wd_6_38, wd_1_0, ⟨hp_m6 (List.mem_of_getElem? (i := 39) (by decide +kernel)), rfl⟩, ⟨by decide, by decide, by decide +kernel⟩, by decide⟩
theorem wd_6_45 : hp_ok (Cond.static ⟨"HallPhoneLaw", "want", "(LHallPhone;II[J)I"⟩) := ⟨hp_m6 (List.mem_of_getElem? (i := 45) (by decide +kernel)), rfl⟩
theorem kw_L_want : hp_Kw yL_want cL_want 5 (some .int) [(0, 10, 13, 28), (0, 10, 17, 13)] 4 := ⟨wd_6_45, wd_1_0, ⟨hp_m6 (List.mem_of_getElem? (i := 46) (by decide +kernel)), rfl⟩, ⟨by decide, by decide, by decide +kernel⟩, by decide⟩
theorem wd_6_61 : hp_ok (Cond.static ⟨"HallPhoneLaw", "drop", "(LHallPhone;I[J)I"⟩) := ⟨hp_m6 (List.mem_of_getElem? (i := 61) (by decide +kernel)), rfl⟩
theorem kw_L_drop : hp_Kw yL_drop cL_drop 4 (some .int) [(0, 9, 12, 28)] 3 := ⟨wd_6_61, wd_1_0, ⟨hp_m6 (List.mem_of_getElem? (i := 62) (by decide +kernel)), rfl⟩, ⟨by decide, by decide, by decide +kernel⟩, by decide⟩
theorem wd_6_70 : hp_ok (Cond.static ⟨"HallPhoneLaw", "hang", "(LHallPhone;I[J)I"⟩) := ⟨hp_m6 (List.mem_of_getElem? (i := 70) (by decide +kernel)), rfl⟩
theorem kw_L_hang : hp_Kw yL_hang cL_hang 4 (some .int) [(0, 9, 12, 28)] 3 := ⟨wd_6_70, wd_1_0, ⟨hp_m6 (List.mem_of_getElem? (i := 71) (by decide +kernel)), rfl⟩, ⟨by decide, by decide, by decide +kernel⟩, by decide⟩
theorem wd_6_79 : hp_ok (Cond.static ⟨"HallPhoneLaw", "ring", "(LHallPhone;II[J)I"⟩) := ⟨hp_m6 (List.mem_of_getElem? (i := 79) (by decide +kernel)), rfl⟩
theorem kw_L_ring : hp_Kw yL_ring cL_ring 5 (some .int) [(0, 10, 13, 28), (0, 10, 17, 13)] 4 := ⟨wd_6_79, wd_1_0, ⟨hp_m6 (List.mem_of_getElem? (i := 80) (by decide +kernel)), rfl⟩, ⟨by decide, by decide, by decide +kernel⟩, by decide⟩
theorem wd_6_86 : hp_ok (Cond.static ⟨"HallPhoneLaw", "pay", "(LHallPhone;II[J)I"⟩) := ⟨hp_m6 (List.mem_of_getElem? (i := 86) (by decide +kernel)), rfl⟩
theorem kw_L_pay : hp_Kw yL_pay cL_pay 5 (some .int) [(0, 10, 13, 28), (0, 10, 17, 13)] 4 := ⟨wd_6_86, wd_1_0, ⟨hp_m6 (List.mem_of_getElem? (i := 87) (by decide +kernel)), rfl⟩, ⟨by decide, by decide, by decide +kernel⟩, by decide⟩
theorem wd_6_95 : hp_ok (Cond.static ⟨"HallPhoneLaw", "setCurious", "(LHallPhone;IZ[J)I"⟩) := ⟨hp_m6 (List.mem_of_getElem? (i := 95) (by decide +kernel)), rfl⟩
theorem kw_L_setCurious : hp_Kw yL_setCurious cL_setCurious 5 (some .int) [(0, 17, 20, 28)] 4 := ⟨wd_6_95, wd_1_0, ⟨hp_m6 (List.mem_of_getElem? (i := 96) (by decide +kernel)), rfl⟩, ⟨by decide, by decide, by decide +kernel⟩, by decide⟩
theorem wd_6_103 : hp_ok (Cond.static ⟨"HallPhoneLaw", "set", "(LHallPhone;II[J)I"⟩) := ⟨hp_m6 (List.mem_of_getElem? (i := 103) (by decide +kernel)), rfl⟩
theorem kw_L_set : hp_Kw yL_set cL_set 5 (some .int) [(0, 10, 13, 13)] 4 := ⟨wd_6_103, wd_1_0, ⟨hp_m6 (List.mem_of_getElem? (i := 104) (by decide +kernel)), rfl⟩, ⟨by decide, by decide, by decide +kernel⟩, by decide⟩
theorem wd_6_115 : hp_ok (Cond.static ⟨"HallPhoneLaw", "pass", "(LHallPhone;I[J)I"⟩) := ⟨hp_m6 (List.mem_of_getElem? (i := 115) (by decide +kernel)), rfl⟩
theorem kw_L_pass : hp_Kw yL_pass cL_pass 4 (some .int) [(0, 9, 12, 13)] 3 := ⟨wd_6_115, wd_1_0, ⟨hp_m6 (List.mem_of_getElem? (i := 116) (by decide +kernel)), rfl⟩, ⟨by decide, by decide, by decide +kernel⟩, by decide⟩
theorem wd_6_124 : hp_ok (Cond.static ⟨"HallPhoneLaw", "saveSnapshot", "(LHallPhone;I[J)I"⟩) := ⟨hp_m6 (List.mem_of_getElem? (i := 124) (by decide +kernel)), rfl⟩
theorem kw_L_saveSnapshot : hp_Kw yL_saveSnapshot cL_saveSnapshot 4 (some .int) [(0, 16, 19, 13)] 3 := ⟨wd_6_124, wd_1_0, ⟨hp_m6 (List.mem_of_getElem? (i := 125) (by decide +kernel)), rfl⟩, ⟨by decide, by decide, by decide +kernel⟩, by decide⟩
theorem wd_6_139 : hp_ok (Cond.static ⟨"HallPhoneLaw", "restoreSnapshot", "(LHallPhone;I[J)I"⟩) := ⟨hp_m6 (List.mem_of_getElem? (i := 139) (by decide +kernel)), rfl⟩
theorem kw_L_restoreSnapshot : hp_Kw yL_restoreSnapshot cL_restoreSnapshot 4 (some .int) [(0, 9, 12, 13), (0, 9, 15, 33)] 3 := ⟨wd_6_139, wd_1_0, ⟨hp_m6 (List.mem_of_getElem? (i := 140) (by decide +kernel)), rfl⟩, ⟨by decide, by decide, by decide +kernel⟩, by decide⟩
theorem dL_parse_0 : decode cL_parse 0 = .ok (.aload_n 2, 1) := by decide +kernel
theorem dL_parse_1 : decode cL_parse 1 = .ok (.iconst 0, 1) := by decide +kernel
theorem dL_parse_2 : decode cL_parse 2 = .ok (.aload_n 0, 1) := by decide +kernel
theorem dL_parse_3 : decode cL_parse 3 = .ok (.iload_n 1, 1) := by decide +kernel
theorem dL_parse_4 : decode cL_parse 4 = .ok (.invokevirtual 7, 3) := by decide +kernel
theorem dL_parse_7 : decode cL_parse 7 = .ok (.i2l, 1) := by decide +kernel
theorem dL_parse_8 : decode cL_parse 8 = .ok (.lastore, 1) := by decide +kernel
theorem dL_parse_9 : decode cL_parse 9 = .ok (.goto 6, 3) := by decide +kernel
theorem dL_parse_12 : decode cL_parse 12 = .ok (.astore_n 3, 1) := by decide +kernel
theorem dL_parse_13 : decode cL_parse 13 = .ok (.iconst 1, 1) := by decide +kernel
theorem dL_parse_14 : decode cL_parse 14 = .ok (.ireturn, 1) := by decide +kernel
theorem dL_parse_15 : decode cL_parse 15 = .ok (.iconst 0, 1) := by decide +kernel
theorem dL_parse_16 : decode cL_parse 16 = .ok (.ireturn, 1) := by decide +kernel
theorem dL_load_0 : decode cL_load 0 = .ok (.aload_n 2, 1) := by decide +kernel
theorem dL_load_1 : decode cL_load 1 = .ok (.iconst 0, 1) := by decide +kernel
theorem dL_load_2 : decode cL_load 2 = .ok (.aload_n 0, 1) := by decide +kernel
theorem dL_load_3 : decode cL_load 3 = .ok (.iload_n 1, 1) := by decide +kernel
theorem dL_load_4 : decode cL_load 4 = .ok (.invokevirtual 15, 3) := by decide +kernel
theorem dL_load_7 : decode cL_load 7 = .ok (.i2l, 1) := by decide +kernel
theorem dL_load_8 : decode cL_load 8 = .ok (.lastore, 1) := by decide +kernel
theorem dL_load_9 : decode cL_load 9 = .ok (.goto 6, 3) := by decide +kernel
theorem dL_load_12 : decode cL_load 12 = .ok (.astore_n 3, 1) := by decide +kernel
theorem dL_load_13 : decode cL_load 13 = .ok (.iconst 1, 1) := by decide +kernel
theorem dL_load_14 : decode cL_load 14 = .ok (.ireturn, 1) := by decide +kernel
theorem dL_load_15 : decode cL_load 15 = .ok (.iconst 0, 1) := by decide +kernel
theorem dL_load_16 : decode cL_load 16 = .ok (.ireturn, 1) := by decide +kernel
theorem dL_size_0 : decode cL_size 0 = .ok (.aload_n 2, 1) := by decide +kernel
theorem dL_size_1 : decode cL_size 1 = .ok (.iconst 0, 1) := by decide +kernel
theorem dL_size_2 : decode cL_size 2 = .ok (.aload_n 0, 1) := by decide +kernel
theorem dL_size_3 : decode cL_size 3 = .ok (.iload_n 1, 1) := by decide +kernel
theorem dL_size_4 : decode cL_size 4 = .ok (.invokevirtual 18, 3) := by decide +kernel
theorem dL_size_7 : decode cL_size 7 = .ok (.i2l, 1) := by decide +kernel
theorem dL_size_8 : decode cL_size 8 = .ok (.lastore, 1) := by decide +kernel
theorem dL_size_9 : decode cL_size 9 = .ok (.goto 6, 3) := by decide +kernel
theorem dL_size_12 : decode cL_size 12 = .ok (.astore_n 3, 1) := by decide +kernel
theorem dL_size_13 : decode cL_size 13 = .ok (.iconst 1, 1) := by decide +kernel
theorem dL_size_14 : decode cL_size 14 = .ok (.ireturn, 1) := by decide +kernel
theorem dL_size_15 : decode cL_size 15 = .ok (.iconst 0, 1) := by decide +kernel
theorem dL_size_16 : decode cL_size 16 = .ok (.ireturn, 1) := by decide +kernel
theorem dL_setting_0 : decode cL_setting 0 = .ok (.aload_n 2, 1) := by decide +kernel
theorem dL_setting_1 : decode cL_setting 1 = .ok (.iconst 0, 1) := by decide +kernel
theorem dL_setting_2 : decode cL_setting 2 = .ok (.aload_n 0, 1) := by decide +kernel
theorem dL_setting_3 : decode cL_setting 3 = .ok (.iload_n 1, 1) := by decide +kernel
theorem dL_setting_4 : decode cL_setting 4 = .ok (.invokevirtual 21, 3) := by decide +kernel
theorem dL_setting_7 : decode cL_setting 7 = .ok (.i2l, 1) := by decide +kernel
theorem dL_setting_8 : decode cL_setting 8 = .ok (.lastore, 1) := by decide +kernel
theorem dL_setting_9 : decode cL_setting 9 = .ok (.goto 6, 3) := by decide +kernel
theorem dL_setting_12 : decode cL_setting 12 = .ok (.astore_n 3, 1) := by decide +kernel
theorem dL_setting_13 : decode cL_setting 13 = .ok (.iconst 1, 1) := by decide +kernel
theorem dL_setting_14 : decode cL_setting 14 = .ok (.ireturn, 1) := by decide +kernel
theorem dL_setting_15 : decode cL_setting 15 = .ok (.iconst 0, 1) := by decide +kernel
theorem dL_setting_16 : decode cL_setting 16 = .ok (.ireturn, 1) := by decide +kernel
theorem dL_flat_0 : decode cL_flat 0 = .ok (.aload_n 3, 1) := by decide +kernel
theorem dL_flat_1 : decode cL_flat 1 = .ok (.iconst 0, 1) := by decide +kernel
theorem dL_flat_2 : decode cL_flat 2 = .ok (.aload_n 0, 1) := by decide +kernel
theorem dL_flat_3 : decode cL_flat 3 = .ok (.iload_n 1, 1) := by decide +kernel
theorem dL_flat_4 : decode cL_flat 4 = .ok (.iload_n 2, 1) := by decide +kernel
theorem dL_flat_5 : decode cL_flat 5 = .ok (.invokevirtual 24, 3) := by decide +kernel
theorem dL_flat_8 : decode cL_flat 8 = .ok (.i2l, 1) := by decide +kernel
theorem dL_flat_9 : decode cL_flat 9 = .ok (.lastore, 1) := by decide +kernel
theorem dL_flat_10 : decode cL_flat 10 = .ok (.goto 11, 3) := by decide +kernel
theorem dL_flat_13 : decode cL_flat 13 = .ok (.astore 4, 2) := by decide +kernel
theorem dL_flat_15 : decode cL_flat 15 = .ok (.iconst 1, 1) := by decide +kernel
theorem dL_flat_16 : decode cL_flat 16 = .ok (.ireturn, 1) := by decide +kernel
theorem dL_flat_17 : decode cL_flat 17 = .ok (.astore 4, 2) := by decide +kernel
theorem dL_flat_19 : decode cL_flat 19 = .ok (.iconst 2, 1) := by decide +kernel
theorem dL_flat_20 : decode cL_flat 20 = .ok (.ireturn, 1) := by decide +kernel
theorem dL_flat_21 : decode cL_flat 21 = .ok (.iconst 0, 1) := by decide +kernel
theorem dL_flat_22 : decode cL_flat 22 = .ok (.ireturn, 1) := by decide +kernel
theorem dL_message_0 : decode cL_message 0 = .ok (.aload_n 3, 1) := by decide +kernel
theorem dL_message_1 : decode cL_message 1 = .ok (.iconst 0, 1) := by decide +kernel
theorem dL_message_2 : decode cL_message 2 = .ok (.aload_n 0, 1) := by decide +kernel
theorem dL_message_3 : decode cL_message 3 = .ok (.iload_n 1, 1) := by decide +kernel
theorem dL_message_4 : decode cL_message 4 = .ok (.iload_n 2, 1) := by decide +kernel
theorem dL_message_5 : decode cL_message 5 = .ok (.invokevirtual 30, 3) := by decide +kernel
theorem dL_message_8 : decode cL_message 8 = .ok (.i2l, 1) := by decide +kernel
theorem dL_message_9 : decode cL_message 9 = .ok (.lastore, 1) := by decide +kernel
theorem dL_message_10 : decode cL_message 10 = .ok (.goto 11, 3) := by decide +kernel
theorem dL_message_13 : decode cL_message 13 = .ok (.astore 4, 2) := by decide +kernel
theorem dL_message_15 : decode cL_message 15 = .ok (.iconst 1, 1) := by decide +kernel
theorem dL_message_16 : decode cL_message 16 = .ok (.ireturn, 1) := by decide +kernel
theorem dL_message_17 : decode cL_message 17 = .ok (.astore 4, 2) := by decide +kernel
theorem dL_message_19 : decode cL_message 19 = .ok (.iconst 2, 1) := by decide +kernel
theorem dL_message_20 : decode cL_message 20 = .ok (.ireturn, 1) := by decide +kernel
theorem dL_message_21 : decode cL_message 21 = .ok (.iconst 0, 1) := by decide +kernel
theorem dL_message_22 : decode cL_message 22 = .ok (.ireturn, 1) := by decide +kernel
theorem dL_heard_0 : decode cL_heard 0 = .ok (.aload_n 3, 1) := by decide +kernel
theorem dL_heard_1 : decode cL_heard 1 = .ok (.iconst 0, 1) := by decide +kernel
theorem dL_heard_2 : decode cL_heard 2 = .ok (.aload_n 0, 1) := by decide +kernel
theorem dL_heard_3 : decode cL_heard 3 = .ok (.iload_n 1, 1) := by decide +kernel
theorem dL_heard_4 : decode cL_heard 4 = .ok (.iload_n 2, 1) := by decide +kernel
theorem dL_heard_5 : decode cL_heard 5 = .ok (.invokevirtual 35, 3) := by decide +kernel
theorem dL_heard_8 : decode cL_heard 8 = .ok (.i2l, 1) := by decide +kernel
theorem dL_heard_9 : decode cL_heard 9 = .ok (.lastore, 1) := by decide +kernel
theorem dL_heard_10 : decode cL_heard 10 = .ok (.goto 7, 3) := by decide +kernel
theorem dL_heard_13 : decode cL_heard 13 = .ok (.astore 4, 2) := by decide +kernel
theorem dL_heard_15 : decode cL_heard 15 = .ok (.iconst 1, 1) := by decide +kernel
theorem dL_heard_16 : decode cL_heard 16 = .ok (.ireturn, 1) := by decide +kernel
theorem dL_heard_17 : decode cL_heard 17 = .ok (.iconst 0, 1) := by decide +kernel
theorem dL_heard_18 : decode cL_heard 18 = .ok (.ireturn, 1) := by decide +kernel
theorem dL_knowing_0 : decode cL_knowing 0 = .ok (.aload_n 2, 1) := by decide +kernel
theorem dL_knowing_1 : decode cL_knowing 1 = .ok (.iconst 0, 1) := by decide +kernel
theorem dL_knowing_2 : decode cL_knowing 2 = .ok (.aload_n 0, 1) := by decide +kernel
theorem dL_knowing_3 : decode cL_knowing 3 = .ok (.iload_n 1, 1) := by decide +kernel
theorem dL_knowing_4 : decode cL_knowing 4 = .ok (.invokevirtual 38, 3) := by decide +kernel
theorem dL_knowing_7 : decode cL_knowing 7 = .ok (.i2l, 1) := by decide +kernel
theorem dL_knowing_8 : decode cL_knowing 8 = .ok (.lastore, 1) := by decide +kernel
theorem dL_knowing_9 : decode cL_knowing 9 = .ok (.goto 6, 3) := by decide +kernel
theorem dL_knowing_12 : decode cL_knowing 12 = .ok (.astore_n 3, 1) := by decide +kernel
theorem dL_knowing_13 : decode cL_knowing 13 = .ok (.iconst 1, 1) := by decide +kernel
theorem dL_knowing_14 : decode cL_knowing 14 = .ok (.ireturn, 1) := by decide +kernel
theorem dL_knowing_15 : decode cL_knowing 15 = .ok (.iconst 0, 1) := by decide +kernel
theorem dL_knowing_16 : decode cL_knowing 16 = .ok (.ireturn, 1) := by decide +kernel
theorem dL_listening_0 : decode cL_listening 0 = .ok (.aload_n 2, 1) := by decide +kernel
theorem dL_listening_1 : decode cL_listening 1 = .ok (.iconst 0, 1) := by decide +kernel
theorem dL_listening_2 : decode cL_listening 2 = .ok (.aload_n 0, 1) := by decide +kernel
theorem dL_listening_3 : decode cL_listening 3 = .ok (.iload_n 1, 1) := by decide +kernel
theorem dL_listening_4 : decode cL_listening 4 = .ok (.invokevirtual 41, 3) := by decide +kernel
theorem dL_listening_7 : decode cL_listening 7 = .ok (.i2l, 1) := by decide +kernel
theorem dL_listening_8 : decode cL_listening 8 = .ok (.lastore, 1) := by decide +kernel
theorem dL_listening_9 : decode cL_listening 9 = .ok (.goto 6, 3) := by decide +kernel
theorem dL_listening_12 : decode cL_listening 12 = .ok (.astore_n 3, 1) := by decide +kernel
theorem dL_listening_13 : decode cL_listening 13 = .ok (.iconst 1, 1) := by decide +kernel
theorem dL_listening_14 : decode cL_listening 14 = .ok (.ireturn, 1) := by decide +kernel
theorem dL_listening_15 : decode cL_listening 15 = .ok (.iconst 0, 1) := by decide +kernel
theorem dL_listening_16 : decode cL_listening 16 = .ok (.ireturn, 1) := by decide +kernel
theorem dL_cost_0 : decode cL_cost 0 = .ok (.aload_n 2, 1) := by decide +kernel
theorem dL_cost_1 : decode cL_cost 1 = .ok (.iconst 0, 1) := by decide +kernel
theorem dL_cost_2 : decode cL_cost 2 = .ok (.aload_n 0, 1) := by decide +kernel
theorem dL_cost_3 : decode cL_cost 3 = .ok (.iload_n 1, 1) := by decide +kernel
theorem dL_cost_4 : decode cL_cost 4 = .ok (.invokevirtual 44, 3) := by decide +kernel
theorem dL_cost_7 : decode cL_cost 7 = .ok (.i2l, 1) := by decide +kernel
theorem dL_cost_8 : decode cL_cost 8 = .ok (.lastore, 1) := by decide +kernel
theorem dL_cost_9 : decode cL_cost 9 = .ok (.goto 6, 3) := by decide +kernel
theorem dL_cost_12 : decode cL_cost 12 = .ok (.astore_n 3, 1) := by decide +kernel
theorem dL_cost_13 : decode cL_cost 13 = .ok (.iconst 1, 1) := by decide +kernel
theorem dL_cost_14 : decode cL_cost 14 = .ok (.ireturn, 1) := by decide +kernel
theorem dL_cost_15 : decode cL_cost 15 = .ok (.iconst 0, 1) := by decide +kernel
theorem dL_cost_16 : decode cL_cost 16 = .ok (.ireturn, 1) := by decide +kernel
theorem dL_why_0 : decode cL_why 0 = .ok (.aload_n 3, 1) := by decide +kernel
theorem dL_why_1 : decode cL_why 1 = .ok (.iconst 0, 1) := by decide +kernel
theorem dL_why_2 : decode cL_why 2 = .ok (.aload_n 0, 1) := by decide +kernel
theorem dL_why_3 : decode cL_why 3 = .ok (.iload_n 1, 1) := by decide +kernel
theorem dL_why_4 : decode cL_why 4 = .ok (.iload_n 2, 1) := by decide +kernel
theorem dL_why_5 : decode cL_why 5 = .ok (.invokevirtual 47, 3) := by decide +kernel
theorem dL_why_8 : decode cL_why 8 = .ok (.i2l, 1) := by decide +kernel
theorem dL_why_9 : decode cL_why 9 = .ok (.lastore, 1) := by decide +kernel
theorem dL_why_10 : decode cL_why 10 = .ok (.goto 11, 3) := by decide +kernel
theorem dL_why_13 : decode cL_why 13 = .ok (.astore 4, 2) := by decide +kernel
theorem dL_why_15 : decode cL_why 15 = .ok (.iconst 1, 1) := by decide +kernel
theorem dL_why_16 : decode cL_why 16 = .ok (.ireturn, 1) := by decide +kernel
theorem dL_why_17 : decode cL_why 17 = .ok (.astore 4, 2) := by decide +kernel
theorem dL_why_19 : decode cL_why 19 = .ok (.iconst 2, 1) := by decide +kernel
theorem dL_why_20 : decode cL_why 20 = .ok (.ireturn, 1) := by decide +kernel
theorem dL_why_21 : decode cL_why 21 = .ok (.iconst 0, 1) := by decide +kernel
theorem dL_why_22 : decode cL_why 22 = .ok (.ireturn, 1) := by decide +kernel
theorem dL_speaksIn_0 : decode cL_speaksIn 0 = .ok (.aload_n 2, 1) := by decide +kernel
theorem dL_speaksIn_1 : decode cL_speaksIn 1 = .ok (.iconst 0, 1) := by decide +kernel
theorem dL_speaksIn_2 : decode cL_speaksIn 2 = .ok (.aload_n 0, 1) := by decide +kernel
theorem dL_speaksIn_3 : decode cL_speaksIn 3 = .ok (.iload_n 1, 1) := by decide +kernel
theorem dL_speaksIn_4 : decode cL_speaksIn 4 = .ok (.invokevirtual 50, 3) := by decide +kernel
theorem dL_speaksIn_7 : decode cL_speaksIn 7 = .ok (.i2l, 1) := by decide +kernel
theorem dL_speaksIn_8 : decode cL_speaksIn 8 = .ok (.lastore, 1) := by decide +kernel
theorem dL_speaksIn_9 : decode cL_speaksIn 9 = .ok (.goto 6, 3) := by decide +kernel
theorem dL_speaksIn_12 : decode cL_speaksIn 12 = .ok (.astore_n 3, 1) := by decide +kernel
theorem dL_speaksIn_13 : decode cL_speaksIn 13 = .ok (.iconst 1, 1) := by decide +kernel
theorem dL_speaksIn_14 : decode cL_speaksIn 14 = .ok (.ireturn, 1) := by decide +kernel
theorem dL_speaksIn_15 : decode cL_speaksIn 15 = .ok (.iconst 0, 1) := by decide +kernel
theorem dL_speaksIn_16 : decode cL_speaksIn 16 = .ok (.ireturn, 1) := by decide +kernel
theorem dL_flatIn_0 : decode cL_flatIn 0 = .ok (.aload_n 3, 1) := by decide +kernel
theorem dL_flatIn_1 : decode cL_flatIn 1 = .ok (.iconst 0, 1) := by decide +kernel
theorem dL_flatIn_2 : decode cL_flatIn 2 = .ok (.aload_n 0, 1) := by decide +kernel
theorem dL_flatIn_3 : decode cL_flatIn 3 = .ok (.iload_n 1, 1) := by decide +kernel
theorem dL_flatIn_4 : decode cL_flatIn 4 = .ok (.iload_n 2, 1) := by decide +kernel
theorem dL_flatIn_5 : decode cL_flatIn 5 = .ok (.invokevirtual 53, 3) := by decide +kernel
theorem dL_flatIn_8 : decode cL_flatIn 8 = .ok (.i2l, 1) := by decide +kernel
theorem dL_flatIn_9 : decode cL_flatIn 9 = .ok (.lastore, 1) := by decide +kernel
theorem dL_flatIn_10 : decode cL_flatIn 10 = .ok (.goto 11, 3) := by decide +kernel
theorem dL_flatIn_13 : decode cL_flatIn 13 = .ok (.astore 4, 2) := by decide +kernel
theorem dL_flatIn_15 : decode cL_flatIn 15 = .ok (.iconst 1, 1) := by decide +kernel
theorem dL_flatIn_16 : decode cL_flatIn 16 = .ok (.ireturn, 1) := by decide +kernel
theorem dL_flatIn_17 : decode cL_flatIn 17 = .ok (.astore 4, 2) := by decide +kernel
theorem dL_flatIn_19 : decode cL_flatIn 19 = .ok (.iconst 2, 1) := by decide +kernel
theorem dL_flatIn_20 : decode cL_flatIn 20 = .ok (.ireturn, 1) := by decide +kernel
theorem dL_flatIn_21 : decode cL_flatIn 21 = .ok (.iconst 0, 1) := by decide +kernel
theorem dL_flatIn_22 : decode cL_flatIn 22 = .ok (.ireturn, 1) := by decide +kernel
theorem dL_debtIn_0 : decode cL_debtIn 0 = .ok (.aload_n 3, 1) := by decide +kernel
theorem dL_debtIn_1 : decode cL_debtIn 1 = .ok (.iconst 0, 1) := by decide +kernel
theorem dL_debtIn_2 : decode cL_debtIn 2 = .ok (.aload_n 0, 1) := by decide +kernel
theorem dL_debtIn_3 : decode cL_debtIn 3 = .ok (.iload_n 1, 1) := by decide +kernel
theorem dL_debtIn_4 : decode cL_debtIn 4 = .ok (.iload_n 2, 1) := by decide +kernel
theorem dL_debtIn_5 : decode cL_debtIn 5 = .ok (.invokevirtual 56, 3) := by decide +kernel
theorem dL_debtIn_8 : decode cL_debtIn 8 = .ok (.i2l, 1) := by decide +kernel
theorem dL_debtIn_9 : decode cL_debtIn 9 = .ok (.lastore, 1) := by decide +kernel
theorem dL_debtIn_10 : decode cL_debtIn 10 = .ok (.goto 11, 3) := by decide +kernel
theorem dL_debtIn_13 : decode cL_debtIn 13 = .ok (.astore 4, 2) := by decide +kernel
theorem dL_debtIn_15 : decode cL_debtIn 15 = .ok (.iconst 1, 1) := by decide +kernel
theorem dL_debtIn_16 : decode cL_debtIn 16 = .ok (.ireturn, 1) := by decide +kernel
theorem dL_debtIn_17 : decode cL_debtIn 17 = .ok (.astore 4, 2) := by decide +kernel
theorem dL_debtIn_19 : decode cL_debtIn 19 = .ok (.iconst 2, 1) := by decide +kernel
theorem dL_debtIn_20 : decode cL_debtIn 20 = .ok (.ireturn, 1) := by decide +kernel
theorem dL_debtIn_21 : decode cL_debtIn 21 = .ok (.iconst 0, 1) := by decide +kernel
theorem dL_debtIn_22 : decode cL_debtIn 22 = .ok (.ireturn, 1) := by decide +kernel
theorem dL_waitIf_0 : decode cL_waitIf 0 = .ok (.aload_n 2, 1) := by decide +kernel
theorem dL_waitIf_1 : decode cL_waitIf 1 = .ok (.iconst 0, 1) := by decide +kernel
theorem dL_waitIf_2 : decode cL_waitIf 2 = .ok (.aload_n 0, 1) := by decide +kernel
theorem dL_waitIf_3 : decode cL_waitIf 3 = .ok (.iload_n 1, 1) := by decide +kernel
theorem dL_waitIf_4 : decode cL_waitIf 4 = .ok (.invokevirtual 59, 3) := by decide +kernel
theorem dL_waitIf_7 : decode cL_waitIf 7 = .ok (.i2l, 1) := by decide +kernel
theorem dL_waitIf_8 : decode cL_waitIf 8 = .ok (.lastore, 1) := by decide +kernel
theorem dL_waitIf_9 : decode cL_waitIf 9 = .ok (.goto 6, 3) := by decide +kernel
theorem dL_waitIf_12 : decode cL_waitIf 12 = .ok (.astore_n 3, 1) := by decide +kernel
theorem dL_waitIf_13 : decode cL_waitIf 13 = .ok (.iconst 1, 1) := by decide +kernel
theorem dL_waitIf_14 : decode cL_waitIf 14 = .ok (.ireturn, 1) := by decide +kernel
theorem dL_waitIf_15 : decode cL_waitIf 15 = .ok (.iconst 0, 1) := by decide +kernel
theorem dL_waitIf_16 : decode cL_waitIf 16 = .ok (.ireturn, 1) := by decide +kernel
theorem dL_learnsIn_0 : decode cL_learnsIn 0 = .ok (.aload_n 3, 1) := by decide +kernel
theorem dL_learnsIn_1 : decode cL_learnsIn 1 = .ok (.iconst 0, 1) := by decide +kernel
theorem dL_learnsIn_2 : decode cL_learnsIn 2 = .ok (.aload_n 0, 1) := by decide +kernel
theorem dL_learnsIn_3 : decode cL_learnsIn 3 = .ok (.iload_n 1, 1) := by decide +kernel
theorem dL_learnsIn_4 : decode cL_learnsIn 4 = .ok (.iload_n 2, 1) := by decide +kernel
theorem dL_learnsIn_5 : decode cL_learnsIn 5 = .ok (.invokevirtual 62, 3) := by decide +kernel
theorem dL_learnsIn_8 : decode cL_learnsIn 8 = .ok (.i2l, 1) := by decide +kernel
theorem dL_learnsIn_9 : decode cL_learnsIn 9 = .ok (.lastore, 1) := by decide +kernel
theorem dL_learnsIn_10 : decode cL_learnsIn 10 = .ok (.goto 11, 3) := by decide +kernel
theorem dL_learnsIn_13 : decode cL_learnsIn 13 = .ok (.astore 4, 2) := by decide +kernel
theorem dL_learnsIn_15 : decode cL_learnsIn 15 = .ok (.iconst 1, 1) := by decide +kernel
theorem dL_learnsIn_16 : decode cL_learnsIn 16 = .ok (.ireturn, 1) := by decide +kernel
theorem dL_learnsIn_17 : decode cL_learnsIn 17 = .ok (.astore 4, 2) := by decide +kernel
theorem dL_learnsIn_19 : decode cL_learnsIn 19 = .ok (.iconst 2, 1) := by decide +kernel
theorem dL_learnsIn_20 : decode cL_learnsIn 20 = .ok (.ireturn, 1) := by decide +kernel
theorem dL_learnsIn_21 : decode cL_learnsIn 21 = .ok (.iconst 0, 1) := by decide +kernel
theorem dL_learnsIn_22 : decode cL_learnsIn 22 = .ok (.ireturn, 1) := by decide +kernel
theorem dL_ifRung_0 : decode cL_ifRung 0 = .ok (.aload_n 2, 1) := by decide +kernel
theorem dL_ifRung_1 : decode cL_ifRung 1 = .ok (.iconst 0, 1) := by decide +kernel
theorem dL_ifRung_2 : decode cL_ifRung 2 = .ok (.aload_n 0, 1) := by decide +kernel
theorem dL_ifRung_3 : decode cL_ifRung 3 = .ok (.iload_n 1, 1) := by decide +kernel
theorem dL_ifRung_4 : decode cL_ifRung 4 = .ok (.invokevirtual 65, 3) := by decide +kernel
theorem dL_ifRung_7 : decode cL_ifRung 7 = .ok (.i2l, 1) := by decide +kernel
theorem dL_ifRung_8 : decode cL_ifRung 8 = .ok (.lastore, 1) := by decide +kernel
theorem dL_ifRung_9 : decode cL_ifRung 9 = .ok (.goto 6, 3) := by decide +kernel
theorem dL_ifRung_12 : decode cL_ifRung 12 = .ok (.astore_n 3, 1) := by decide +kernel
theorem dL_ifRung_13 : decode cL_ifRung 13 = .ok (.iconst 1, 1) := by decide +kernel
theorem dL_ifRung_14 : decode cL_ifRung 14 = .ok (.ireturn, 1) := by decide +kernel
theorem dL_ifRung_15 : decode cL_ifRung 15 = .ok (.iconst 0, 1) := by decide +kernel
theorem dL_ifRung_16 : decode cL_ifRung 16 = .ok (.ireturn, 1) := by decide +kernel
theorem dL_account_0 : decode cL_account 0 = .ok (.aload_n 2, 1) := by decide +kernel
theorem dL_account_1 : decode cL_account 1 = .ok (.iconst 0, 1) := by decide +kernel
theorem dL_account_2 : decode cL_account 2 = .ok (.aload_n 0, 1) := by decide +kernel
theorem dL_account_3 : decode cL_account 3 = .ok (.iload_n 1, 1) := by decide +kernel
theorem dL_account_4 : decode cL_account 4 = .ok (.invokevirtual 68, 3) := by decide +kernel
theorem dL_account_7 : decode cL_account 7 = .ok (.i2l, 1) := by decide +kernel
theorem dL_account_8 : decode cL_account 8 = .ok (.lastore, 1) := by decide +kernel
theorem dL_account_9 : decode cL_account 9 = .ok (.goto 6, 3) := by decide +kernel
theorem dL_account_12 : decode cL_account 12 = .ok (.astore_n 3, 1) := by decide +kernel
theorem dL_account_13 : decode cL_account 13 = .ok (.iconst 1, 1) := by decide +kernel
theorem dL_account_14 : decode cL_account 14 = .ok (.ireturn, 1) := by decide +kernel
theorem dL_account_15 : decode cL_account 15 = .ok (.iconst 0, 1) := by decide +kernel
theorem dL_account_16 : decode cL_account 16 = .ok (.ireturn, 1) := by decide +kernel
theorem dL_want_0 : decode cL_want 0 = .ok (.aload_n 3, 1) := by decide +kernel
theorem dL_want_1 : decode cL_want 1 = .ok (.iconst 0, 1) := by decide +kernel
theorem dL_want_2 : decode cL_want 2 = .ok (.aload_n 0, 1) := by decide +kernel
theorem dL_want_3 : decode cL_want 3 = .ok (.iload_n 1, 1) := by decide +kernel
theorem dL_want_4 : decode cL_want 4 = .ok (.iload_n 2, 1) := by decide +kernel
theorem dL_want_5 : decode cL_want 5 = .ok (.invokevirtual 71, 3) := by decide +kernel
theorem dL_want_8 : decode cL_want 8 = .ok (.i2l, 1) := by decide +kernel
theorem dL_want_9 : decode cL_want 9 = .ok (.lastore, 1) := by decide +kernel
theorem dL_want_10 : decode cL_want 10 = .ok (.goto 11, 3) := by decide +kernel
theorem dL_want_13 : decode cL_want 13 = .ok (.astore 4, 2) := by decide +kernel
theorem dL_want_15 : decode cL_want 15 = .ok (.iconst 1, 1) := by decide +kernel
theorem dL_want_16 : decode cL_want 16 = .ok (.ireturn, 1) := by decide +kernel
theorem dL_want_17 : decode cL_want 17 = .ok (.astore 4, 2) := by decide +kernel
theorem dL_want_19 : decode cL_want 19 = .ok (.iconst 2, 1) := by decide +kernel
theorem dL_want_20 : decode cL_want 20 = .ok (.ireturn, 1) := by decide +kernel
theorem dL_want_21 : decode cL_want 21 = .ok (.iconst 0, 1) := by decide +kernel
theorem dL_want_22 : decode cL_want 22 = .ok (.ireturn, 1) := by decide +kernel
theorem dL_drop_0 : decode cL_drop 0 = .ok (.aload_n 2, 1) := by decide +kernel
theorem dL_drop_1 : decode cL_drop 1 = .ok (.iconst 0, 1) := by decide +kernel
theorem dL_drop_2 : decode cL_drop 2 = .ok (.aload_n 0, 1) := by decide +kernel
theorem dL_drop_3 : decode cL_drop 3 = .ok (.iload_n 1, 1) := by decide +kernel
theorem dL_drop_4 : decode cL_drop 4 = .ok (.invokevirtual 74, 3) := by decide +kernel
theorem dL_drop_7 : decode cL_drop 7 = .ok (.i2l, 1) := by decide +kernel
theorem dL_drop_8 : decode cL_drop 8 = .ok (.lastore, 1) := by decide +kernel
theorem dL_drop_9 : decode cL_drop 9 = .ok (.goto 6, 3) := by decide +kernel
theorem dL_drop_12 : decode cL_drop 12 = .ok (.astore_n 3, 1) := by decide +kernel
theorem dL_drop_13 : decode cL_drop 13 = .ok (.iconst 1, 1) := by decide +kernel
theorem dL_drop_14 : decode cL_drop 14 = .ok (.ireturn, 1) := by decide +kernel
theorem dL_drop_15 : decode cL_drop 15 = .ok (.iconst 0, 1) := by decide +kernel
theorem dL_drop_16 : decode cL_drop 16 = .ok (.ireturn, 1) := by decide +kernel
theorem dL_hang_0 : decode cL_hang 0 = .ok (.aload_n 2, 1) := by decide +kernel
theorem dL_hang_1 : decode cL_hang 1 = .ok (.iconst 0, 1) := by decide +kernel
theorem dL_hang_2 : decode cL_hang 2 = .ok (.aload_n 0, 1) := by decide +kernel
theorem dL_hang_3 : decode cL_hang 3 = .ok (.iload_n 1, 1) := by decide +kernel
theorem dL_hang_4 : decode cL_hang 4 = .ok (.invokevirtual 77, 3) := by decide +kernel
theorem dL_hang_7 : decode cL_hang 7 = .ok (.i2l, 1) := by decide +kernel
theorem dL_hang_8 : decode cL_hang 8 = .ok (.lastore, 1) := by decide +kernel
theorem dL_hang_9 : decode cL_hang 9 = .ok (.goto 6, 3) := by decide +kernel
theorem dL_hang_12 : decode cL_hang 12 = .ok (.astore_n 3, 1) := by decide +kernel
theorem dL_hang_13 : decode cL_hang 13 = .ok (.iconst 1, 1) := by decide +kernel
theorem dL_hang_14 : decode cL_hang 14 = .ok (.ireturn, 1) := by decide +kernel
theorem dL_hang_15 : decode cL_hang 15 = .ok (.iconst 0, 1) := by decide +kernel
theorem dL_hang_16 : decode cL_hang 16 = .ok (.ireturn, 1) := by decide +kernel
theorem dL_ring_0 : decode cL_ring 0 = .ok (.aload_n 3, 1) := by decide +kernel
theorem dL_ring_1 : decode cL_ring 1 = .ok (.iconst 0, 1) := by decide +kernel
theorem dL_ring_2 : decode cL_ring 2 = .ok (.aload_n 0, 1) := by decide +kernel
theorem dL_ring_3 : decode cL_ring 3 = .ok (.iload_n 1, 1) := by decide +kernel
theorem dL_ring_4 : decode cL_ring 4 = .ok (.iload_n 2, 1) := by decide +kernel
theorem dL_ring_5 : decode cL_ring 5 = .ok (.invokevirtual 80, 3) := by decide +kernel
theorem dL_ring_8 : decode cL_ring 8 = .ok (.i2l, 1) := by decide +kernel
theorem dL_ring_9 : decode cL_ring 9 = .ok (.lastore, 1) := by decide +kernel
theorem dL_ring_10 : decode cL_ring 10 = .ok (.goto 11, 3) := by decide +kernel
theorem dL_ring_13 : decode cL_ring 13 = .ok (.astore 4, 2) := by decide +kernel
theorem dL_ring_15 : decode cL_ring 15 = .ok (.iconst 1, 1) := by decide +kernel
theorem dL_ring_16 : decode cL_ring 16 = .ok (.ireturn, 1) := by decide +kernel
theorem dL_ring_17 : decode cL_ring 17 = .ok (.astore 4, 2) := by decide +kernel
theorem dL_ring_19 : decode cL_ring 19 = .ok (.iconst 2, 1) := by decide +kernel
theorem dL_ring_20 : decode cL_ring 20 = .ok (.ireturn, 1) := by decide +kernel
theorem dL_ring_21 : decode cL_ring 21 = .ok (.iconst 0, 1) := by decide +kernel
theorem dL_ring_22 : decode cL_ring 22 = .ok (.ireturn, 1) := by decide +kernel
theorem dL_pay_0 : decode cL_pay 0 = .ok (.aload_n 3, 1) := by decide +kernel
theorem dL_pay_1 : decode cL_pay 1 = .ok (.iconst 0, 1) := by decide +kernel
theorem dL_pay_2 : decode cL_pay 2 = .ok (.aload_n 0, 1) := by decide +kernel
theorem dL_pay_3 : decode cL_pay 3 = .ok (.iload_n 1, 1) := by decide +kernel
theorem dL_pay_4 : decode cL_pay 4 = .ok (.iload_n 2, 1) := by decide +kernel
theorem dL_pay_5 : decode cL_pay 5 = .ok (.invokevirtual 83, 3) := by decide +kernel
theorem dL_pay_8 : decode cL_pay 8 = .ok (.i2l, 1) := by decide +kernel
theorem dL_pay_9 : decode cL_pay 9 = .ok (.lastore, 1) := by decide +kernel
theorem dL_pay_10 : decode cL_pay 10 = .ok (.goto 11, 3) := by decide +kernel
theorem dL_pay_13 : decode cL_pay 13 = .ok (.astore 4, 2) := by decide +kernel
theorem dL_pay_15 : decode cL_pay 15 = .ok (.iconst 1, 1) := by decide +kernel
theorem dL_pay_16 : decode cL_pay 16 = .ok (.ireturn, 1) := by decide +kernel
theorem dL_pay_17 : decode cL_pay 17 = .ok (.astore 4, 2) := by decide +kernel
theorem dL_pay_19 : decode cL_pay 19 = .ok (.iconst 2, 1) := by decide +kernel
theorem dL_pay_20 : decode cL_pay 20 = .ok (.ireturn, 1) := by decide +kernel
theorem dL_pay_21 : decode cL_pay 21 = .ok (.iconst 0, 1) := by decide +kernel
theorem dL_pay_22 : decode cL_pay 22 = .ok (.ireturn, 1) := by decide +kernel
theorem dL_setCurious_0 : decode cL_setCurious 0 = .ok (.aload_n 3, 1) := by decide +kernel
theorem dL_setCurious_1 : decode cL_setCurious 1 = .ok (.iconst 0, 1) := by decide +kernel
theorem dL_setCurious_2 : decode cL_setCurious 2 = .ok (.aload_n 0, 1) := by decide +kernel
theorem dL_setCurious_3 : decode cL_setCurious 3 = .ok (.iload_n 1, 1) := by decide +kernel
theorem dL_setCurious_4 : decode cL_setCurious 4 = .ok (.iload_n 2, 1) := by decide +kernel
theorem dL_setCurious_5 : decode cL_setCurious 5 = .ok (.invokevirtual 86, 3) := by decide +kernel
theorem dL_setCurious_8 : decode cL_setCurious 8 = .ok (.ifCond .eq 7, 3) := by decide +kernel
theorem dL_setCurious_11 : decode cL_setCurious 11 = .ok (.lconst 1, 1) := by decide +kernel
theorem dL_setCurious_12 : decode cL_setCurious 12 = .ok (.goto 4, 3) := by decide +kernel
theorem dL_setCurious_15 : decode cL_setCurious 15 = .ok (.lconst 0, 1) := by decide +kernel
theorem dL_setCurious_16 : decode cL_setCurious 16 = .ok (.lastore, 1) := by decide +kernel
theorem dL_setCurious_17 : decode cL_setCurious 17 = .ok (.goto 7, 3) := by decide +kernel
theorem dL_setCurious_20 : decode cL_setCurious 20 = .ok (.astore 4, 2) := by decide +kernel
theorem dL_setCurious_22 : decode cL_setCurious 22 = .ok (.iconst 1, 1) := by decide +kernel
theorem dL_setCurious_23 : decode cL_setCurious 23 = .ok (.ireturn, 1) := by decide +kernel
theorem dL_setCurious_24 : decode cL_setCurious 24 = .ok (.iconst 0, 1) := by decide +kernel
theorem dL_setCurious_25 : decode cL_setCurious 25 = .ok (.ireturn, 1) := by decide +kernel
theorem dL_set_0 : decode cL_set 0 = .ok (.aload_n 3, 1) := by decide +kernel
theorem dL_set_1 : decode cL_set 1 = .ok (.iconst 0, 1) := by decide +kernel
theorem dL_set_2 : decode cL_set 2 = .ok (.aload_n 0, 1) := by decide +kernel
theorem dL_set_3 : decode cL_set 3 = .ok (.iload_n 1, 1) := by decide +kernel
theorem dL_set_4 : decode cL_set 4 = .ok (.iload_n 2, 1) := by decide +kernel
theorem dL_set_5 : decode cL_set 5 = .ok (.invokevirtual 90, 3) := by decide +kernel
theorem dL_set_8 : decode cL_set 8 = .ok (.i2l, 1) := by decide +kernel
theorem dL_set_9 : decode cL_set 9 = .ok (.lastore, 1) := by decide +kernel
theorem dL_set_10 : decode cL_set 10 = .ok (.goto 7, 3) := by decide +kernel
theorem dL_set_13 : decode cL_set 13 = .ok (.astore 4, 2) := by decide +kernel
theorem dL_set_15 : decode cL_set 15 = .ok (.iconst 1, 1) := by decide +kernel
theorem dL_set_16 : decode cL_set 16 = .ok (.ireturn, 1) := by decide +kernel
theorem dL_set_17 : decode cL_set 17 = .ok (.iconst 0, 1) := by decide +kernel
theorem dL_set_18 : decode cL_set 18 = .ok (.ireturn, 1) := by decide +kernel
theorem dL_pass_0 : decode cL_pass 0 = .ok (.aload_n 2, 1) := by decide +kernel
theorem dL_pass_1 : decode cL_pass 1 = .ok (.iconst 0, 1) := by decide +kernel
theorem dL_pass_2 : decode cL_pass 2 = .ok (.aload_n 0, 1) := by decide +kernel
theorem dL_pass_3 : decode cL_pass 3 = .ok (.iload_n 1, 1) := by decide +kernel
theorem dL_pass_4 : decode cL_pass 4 = .ok (.invokevirtual 93, 3) := by decide +kernel
theorem dL_pass_7 : decode cL_pass 7 = .ok (.i2l, 1) := by decide +kernel
theorem dL_pass_8 : decode cL_pass 8 = .ok (.lastore, 1) := by decide +kernel
theorem dL_pass_9 : decode cL_pass 9 = .ok (.goto 6, 3) := by decide +kernel
theorem dL_pass_12 : decode cL_pass 12 = .ok (.astore_n 3, 1) := by decide +kernel
theorem dL_pass_13 : decode cL_pass 13 = .ok (.iconst 1, 1) := by decide +kernel
theorem dL_pass_14 : decode cL_pass 14 = .ok (.ireturn, 1) := by decide +kernel
theorem dL_pass_15 : decode cL_pass 15 = .ok (.iconst 0, 1) := by decide +kernel
theorem dL_pass_16 : decode cL_pass 16 = .ok (.ireturn, 1) := by decide +kernel
theorem dL_saveSnapshot_0 : decode cL_saveSnapshot 0 = .ok (.aload_n 2, 1) := by decide +kernel
theorem dL_saveSnapshot_1 : decode cL_saveSnapshot 1 = .ok (.iconst 0, 1) := by decide +kernel
theorem dL_saveSnapshot_2 : decode cL_saveSnapshot 2 = .ok (.aload_n 0, 1) := by decide +kernel
theorem dL_saveSnapshot_3 : decode cL_saveSnapshot 3 = .ok (.iload_n 1, 1) := by decide +kernel
theorem dL_saveSnapshot_4 : decode cL_saveSnapshot 4 = .ok (.invokevirtual 96, 3) := by decide +kernel
theorem dL_saveSnapshot_7 : decode cL_saveSnapshot 7 = .ok (.ifCond .eq 7, 3) := by decide +kernel
theorem dL_saveSnapshot_10 : decode cL_saveSnapshot 10 = .ok (.lconst 1, 1) := by decide +kernel
theorem dL_saveSnapshot_11 : decode cL_saveSnapshot 11 = .ok (.goto 4, 3) := by decide +kernel
theorem dL_saveSnapshot_14 : decode cL_saveSnapshot 14 = .ok (.lconst 0, 1) := by decide +kernel
theorem dL_saveSnapshot_15 : decode cL_saveSnapshot 15 = .ok (.lastore, 1) := by decide +kernel
theorem dL_saveSnapshot_16 : decode cL_saveSnapshot 16 = .ok (.goto 6, 3) := by decide +kernel
theorem dL_saveSnapshot_19 : decode cL_saveSnapshot 19 = .ok (.astore_n 3, 1) := by decide +kernel
theorem dL_saveSnapshot_20 : decode cL_saveSnapshot 20 = .ok (.iconst 1, 1) := by decide +kernel
theorem dL_saveSnapshot_21 : decode cL_saveSnapshot 21 = .ok (.ireturn, 1) := by decide +kernel
theorem dL_saveSnapshot_22 : decode cL_saveSnapshot 22 = .ok (.iconst 0, 1) := by decide +kernel
theorem dL_saveSnapshot_23 : decode cL_saveSnapshot 23 = .ok (.ireturn, 1) := by decide +kernel
theorem dL_restoreSnapshot_0 : decode cL_restoreSnapshot 0 = .ok (.aload_n 2, 1) := by decide +kernel
theorem dL_restoreSnapshot_1 : decode cL_restoreSnapshot 1 = .ok (.iconst 0, 1) := by decide +kernel
theorem dL_restoreSnapshot_2 : decode cL_restoreSnapshot 2 = .ok (.aload_n 0, 1) := by decide +kernel
theorem dL_restoreSnapshot_3 : decode cL_restoreSnapshot 3 = .ok (.iload_n 1, 1) := by decide +kernel
theorem dL_restoreSnapshot_4 : decode cL_restoreSnapshot 4 = .ok (.invokevirtual 100, 3) := by decide +kernel
theorem dL_restoreSnapshot_7 : decode cL_restoreSnapshot 7 = .ok (.i2l, 1) := by decide +kernel
theorem dL_restoreSnapshot_8 : decode cL_restoreSnapshot 8 = .ok (.lastore, 1) := by decide +kernel
theorem dL_restoreSnapshot_9 : decode cL_restoreSnapshot 9 = .ok (.goto 9, 3) := by decide +kernel
theorem dL_restoreSnapshot_12 : decode cL_restoreSnapshot 12 = .ok (.astore_n 3, 1) := by decide +kernel
theorem dL_restoreSnapshot_13 : decode cL_restoreSnapshot 13 = .ok (.iconst 1, 1) := by decide +kernel
theorem dL_restoreSnapshot_14 : decode cL_restoreSnapshot 14 = .ok (.ireturn, 1) := by decide +kernel
theorem dL_restoreSnapshot_15 : decode cL_restoreSnapshot 15 = .ok (.astore_n 3, 1) := by decide +kernel
theorem dL_restoreSnapshot_16 : decode cL_restoreSnapshot 16 = .ok (.iconst 2, 1) := by decide +kernel
theorem dL_restoreSnapshot_17 : decode cL_restoreSnapshot 17 = .ok (.ireturn, 1) := by decide +kernel
theorem dL_restoreSnapshot_18 : decode cL_restoreSnapshot 18 = .ok (.iconst 0, 1) := by decide +kernel
theorem dL_restoreSnapshot_19 : decode cL_restoreSnapshot 19 = .ok (.ireturn, 1) := by decide +kernel
