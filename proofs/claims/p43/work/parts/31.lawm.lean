/-- a contract of a method that reads the law's script, which stands at b -/
def hp_CtS {ρ : Type} (l : Launch) (b N : Nat) (xs : Nat → Int32) (y : MethodName) (cc : ByteArray) (nL : Nat) (rt : Option FieldType) (d : Nat) (I : List (Nat × Nat) → Prop) (av : hp_av) (ov : hp_ov ρ) (M : hp_M) (G : Option (ρ × hp_M)) : Prop :=
  ∀ (A : Nat → Prop) (D : va_G) (ids : List (Nat × Nat)) (adr : Nat → Nat → Nat) (adV cA : Nat → Nat) (rep : hp_T), I ids → G ≠ none → ¬ A b →
    Met l y [Cond.code y cc nL rt] (hp_rm d) (va_Pc (av adr adV) (fun U => hp_Pre A D ids adr adV cA M rep U ∧ va_X b N xs U U.heap ∧ b < U.heap.size)) (hp_Q A D ids adr adV cA rep ov G) 0 0 A
theorem hp_startS {ρ : Type} {l : Launch} {b N : Nat} {xs : Nat → Int32} {y : MethodName} {cc : ByteArray} {nL : Nat} {rt : Option FieldType} {d : Nat} {I : List (Nat × Nat) → Prop} {av : hp_av} {ov : hp_ov ρ} {M : hp_M} {G : Option (ρ × hp_M)} (own : String) (L0 : (Nat → Nat → Nat) → (Nat → Nat) → List (Nat × Value)) (hy : plainName y.cls = true) (hown : y.cls = own) (hlen : ∀ adr adV, (lg_sl (av adr adV)).length ≤ nL) (hL0 : ∀ adr adV, lv_args 0 (av adr adV) = L0 adr adV)
    (body : ∀ (p : Program) (e : Env) (s : State) (m : MethodId) (args : Array Value) (below : List Frame) (meth : Method) (c : Code) (A : Nat → Prop) (D : va_G) (ids : List (Nat × Nat)) (adr : Nat → Nat → Nat) (adV cA : Nat → Nat) (rep : hp_T) (G0 : Option (ρ × hp_M)), I ids → hp_Cx p s m meth c cc nL own A D adV cA G0 → meth.sig.returnType = rt → va_X b N xs s s.heap → b < s.heap.size → ¬ A b →
      hp_Z p l e (hp_rm d) s m args below meth c nL A D ids adr adV cA 0 0 (MQ below (hp_Q A D ids adr adV cA rep ov G0) args s 0 0 A) G0 rep 0 (L0 adr adV) [] M G) : hp_CtS l b N xs y cc nL rt d I av ov M G := by
  intro A D ids adr adV cA rep hI hG hbA
  refine Met.ofW (cc := cc) (maxL := nL) (ret := rt) hy rfl ?_
  intro p e s m args below meth c s₁ B hml hv
  obtain ⟨rfl, ⟨hT, hA, hW⟩, hX, hbl⟩ := hv
  have hl := lv_entry (av adr adV) (n := nL) (hlen adr adV)
  rw [hL0] at hl
  rw [lg_entry_eq]
  subst hown
  exact body p e s m _ below meth c A D ids adr adV cA rep G hI ⟨B.exec, B.bytes, hml, findClass_of_methodNamed B.named, hT, hA, B.notSynchronized, hG⟩ B.returns hX hbl hbA s.heap [] _ rfl hW va_S.rf hl
theorem hp_blindS {A : Nat → Prop} {D : va_G} {ids : List (Nat × Nat)} {adr : Nat → Nat → Nat} {adV cA : Nat → Nat} {M : hp_M} {rep : hp_T} {b N : Nat} {xs : Nat → Int32} {av : List Value} : FrameBlind (va_Pc av (fun U => hp_Pre A D ids adr adV cA M rep U ∧ va_X b N xs U U.heap ∧ b < U.heap.size)) := by
  intro a U g mk ⟨h0, h1, h2, h3⟩
  exact ⟨h0, (hp_blind a U g mk ⟨h0, h1⟩).2, va_X.moved (u := U) (U := U.calling g mk a) (Vm.Alike.refl U.vm) h2, h3⟩
section HPS
variable {p : Program} {l : Launch} {e : Env} {R : Room} {s : State} {m : MethodId} {args : Array Value} {below : List Frame} {meth : Method} {c : Code} {cells slots : Nat} {Q : State → Prop}
variable {cc : ByteArray} {nL : Nat} {own : String} {A : Nat → Prop} {D : va_G} {ids : List (Nat × Nat)} {adr : Nat → Nat → Nat} {adV cA : Nat → Nat} {α ρ : Type} {G0 G : Option α} {M : hp_M} {rep : hp_T} {pc n : Nat} {L : List (Nat × Value)} {st : List Value} {H : Heap} {locs : List Loc}
theorem hz_sld (hC : hp_Cx p s m meth c cc nL own A D adV cA G0) {i : Int32} {b N : Nat} {xs : Nat → Int32} {d : Decidable (i < 0 ∨ N ≤ i.toNatClampNeg)} (hX : va_X b N xs s s.heap) (hbl : b < s.heap.size) (hbA : ¬ A b) (hdg : decode cc pc = .ok (.iaload, 1)) (hn : pc + 1 = n) (kk : hp_Z p l e R s m args below meth c nL A D ids adr adV cA cells slots Q G0 rep n L (.int (xs i.toNatClampNeg) :: st) M G) : hp_Z p l e R s m args below meth c nL A D ids adr adV cA cells slots Q G0 rep pc L (.int i :: .ref b :: st) M (@ite (Option α) (i < 0 ∨ N ≤ i.toNatClampNeg) d none G) := by
  subst hn
  exact hz_chk hC (fun h0 H locs ls hG hW hS hL => va_sld hC.1 hC.2.1 hX hbl hbA hS h0 hdg (kk H locs ls hG hW hS hL))
theorem hz_slen (hC : hp_Cx p s m meth c cc nL own A D adV cA G0) {b N : Nat} {xs : Nat → Int32} (hX : va_X b N xs s s.heap) (hbl : b < s.heap.size) (hbA : ¬ A b) (hdg : decode cc pc = .ok (.arraylength, 1)) (hn : pc + 1 = n) (kk : hp_Z p l e R s m args below meth c nL A D ids adr adV cA cells slots Q G0 rep n L (.int (nI N) :: st) M G) : hp_Z p l e R s m args below meth c nL A D ids adr adV cA cells slots Q G0 rep pc L (.ref b :: st) M G := by
  subst hn
  exact fun H locs ls hG hW hS hL => va_slen hC.1 hC.2.1 hX hbl hbA hS hdg (kk H locs ls hG hW hS hL)
theorem hz_lcmp (hC : hp_Cx p s m meth c cc nL own A D adV cA G0) {x y : Int64} (hdg : decode cc pc = .ok (.lcmp, 1)) (hn : pc + 1 = n) (k : hp_Z p l e R s m args below meth c nL A D ids adr adV cA cells slots Q G0 rep n L (.int (lg_cmp x y) :: st) M G) : hp_Z p l e R s m args below meth c nL A D ids adr adV cA cells slots Q G0 rep pc L (.long y :: .long x :: st) M G := by
  subst hn
  exact fun H locs ls hG hW hS hL => W.lcmp hC.1 hC.2.1 hdg (k H locs ls hG hW hS hL)
theorem hz_callSS (hC : hp_Cx p s m meth c cc nL own A D adV cA G0) {b N : Nat} {xs : Nat → Int32} (hX : va_X b N xs s s.heap) (hbl : b < s.heap.size) (hbA : ¬ A b) {y : MethodName} {cc1 : ByteArray} {nL1 k d1 idx : Nat} {rt1 : Option FieldType} {I : List (Nat × Nat) → Prop} {av : hp_av} {ov : hp_ov ρ} {G1 : Option (ρ × hp_M)} {K : ρ → hp_M → Option α} {As st0 : List Value} {S1 : ρ → List Value} (hct : hp_CtS l b N xs y cc1 nL1 rt1 d1 I av ov M G1) (hk : hp_Ks y cc1 nL1 rt1 k) (hl : hp_ok (.methodLink own idx y)) (hI : I ids) (hdg : decode cc pc = .ok (.invokestatic idx, 3)) (hav : av adr adV = As) (hlen : As.length = k) (hst : st0 = As.reverse ++ st) (hcat : (st.map fun v => v.category).sum ≤ 8) (hR : d1 + 1 ≤ R.frames ∧ 43 * d1 + 43 ≤ R.locals) (hf : cells + 0 ≤ R.cells ∧ slots + 0 ≤ R.slots) (hs1 : ∀ r, (ov adr adV r).toList ++ st = S1 r) (hn : pc + 3 = n) (kk : ∀ (r : ρ) (M' : hp_M), G1 = some (r, M') → hp_Z p l e R s m args below meth c nL A D ids adr adV cA cells slots Q G0 rep n L (S1 r) M' (K r M')) : hp_Z p l e R s m args below meth c nL A D ids adr adV cA cells slots Q G0 rep pc L st0 M (hp_b G1 K) := by
  subst hn
  intro H locs ls hG hW hS hL
  have hne : G1 ≠ none := fun h => hC.2.2.2.2.2.2.2 (by rw [← hG, h]; rfl)
  have hT := hC.2.2.2.2.1
  refine hp_callR (va_runS (As := As) (rest := st) ⟨hC.1, hC.2.1, hC.2.2.1, hC.2.2.2.1, fun w h => absurd h List.not_mem_nil⟩ (Ts := []) (hct A D ids adr adV cA rep hI hne hbA) ⟨hp_CB hT hk.2.1 hk.2.2.1 hk.2.2.2.1 hk.2.2.2.2 hl hR, hp_wd hT hk.1 args⟩ ⟨hp_blindS, fun U hU hWm => ?_⟩ rfl hlen hL.1 hst (lv_room hcat) hdg hf) hS (fun r M' H1 locs1 hg hw1 hS1 => by rw [hs1]; exact kk r M' hg H1 locs1 ls (by rw [← hG, hg]; rfl) hw1 hS1 hL)
  have h1 := hp_pre hC hS hW (av := av adr adV) (aa := (av adr adV).toArray) rfl U hU hWm
  refine ⟨by rw [hav], h1.2, ?_, ?_⟩
  · rw [hU]
    exact (va_X.moved hWm.alike hX).kept (hS.2.1 b hbl hbA)
  · rw [hU]
    exact Nat.lt_of_lt_of_le hbl hS.1
end HPS
def F_L_cell (N : Nat) (xs : Nat → Int32) (a1 : Int32) (M : hp_M) : Option (Int32 × hp_M) := (if (nI N) ≤ a1 then (some ((0 : Int32), M)) else (if a1 < 0 ∨ N ≤ (a1).toNatClampNeg then none else (some ((xs (a1).toNatClampNeg), M))))
set_option maxRecDepth 20000 in
set_option maxHeartbeats 4000000 in
theorem c_L_cell (l : Launch) (b N : Nat) (xs : Nat → Int32) (a1 : Int32)  (M : hp_M) : hp_CtS l b N xs yL_cell cL_cell 2 (some .int) 0 hp_IC (fun adr adV => [.ref b, .int a1]) hp_oi M (F_L_cell N xs a1 M) := by
  refine hp_startS "HallPhoneLaw" (fun adr adV => [(0, .ref b), (1, .int a1)]) (by decide) rfl (fun _ _ => by simp only [lg_sl]; exact Nat.le_of_ble_eq_true rfl) (fun _ _ => rfl) ?_
  intro p e s m args below meth c A D ids adr adV cA rep G0 hI hC hr hX hbl hbA
  unfold F_L_cell
  refine hz_iload_n (a := 1) (n := 1) hC dL_cell_0 rfl rfl rfl ?_
  refine hz_aload_n (a := 0) (n := 2) hC dL_cell_1 rfl rfl rfl ?_
  refine hz_slen (n := 3) hC hX hbl hbA dL_cell_2 rfl ?_
  refine hz_icmp_ge (tgt := 12) (n := 6) hC dL_cell_3 (by decide) rfl (fun _ => ?_) (fun _ => ?_)
  · refine hz_iconst (v := (0 : Int32)) (n := 13) hC dL_cell_12 (by decide +kernel) rfl ?_
    exact hz_iret hC hr dL_cell_13
  · refine hz_aload_n (a := 0) (n := 7) hC dL_cell_6 rfl rfl rfl ?_
    refine hz_iload_n (a := 1) (n := 8) hC dL_cell_7 rfl rfl rfl ?_
    refine hz_sld (n := 9) hC hX hbl hbA dL_cell_8 rfl ?_
    refine hz_goto (n := 13) hC dL_cell_9 (by decide) ?_
    exact hz_iret hC hr dL_cell_13
def A_L_hasPhone_393   (y393_4 : Int32) (y393_5 : Int32) (M : hp_M) : Option (Int32 × hp_M) := (hp_b (F_X8_size (7 : Int32) M) (fun r7 M7 => (if r7 = y393_5 then (hp_b (F_X8_size (8 : Int32) M7) (fun r8 M8 => (if r8 = y393_4 then (hp_b (F_X8_queued y393_5 M8) (fun r9 M9 => (if r9 = (-1 : Int32) then (hp_b (F_X8_queued (-1 : Int32) M9) (fun r10 M10 => (if r10 = (-1 : Int32) then (some ((1 : Int32), M10)) else (some ((0 : Int32), M10))))) else (some ((0 : Int32), M9))))) else (some ((0 : Int32), M8))))) else (some ((0 : Int32), M7)))))
def A_L_hasPhone_350   (y350_1 : Int32) (y350_4 : Int32) (y350_5 : Int32) (M : hp_M) : Option (Int32 × hp_M) := (if y350_1 = (2 : Int32) then (hp_b (F_X8_size (4 : Int32) M) (fun r5 M5 => (if r5 < 0 then (some ((0 : Int32), M5)) else (hp_b (F_X8_size (5 : Int32) M5) (fun r6 M6 => (if (1 : Int32) ≤ r6 then (A_L_hasPhone_393 y350_4 y350_5 M6) else (some ((0 : Int32), M6)))))))) else (hp_b (F_X8_size (4 : Int32) M) (fun r11 M11 => (if r11 = 0 then (hp_b (F_X8_size (5 : Int32) M11) (fun r12 M12 => (if r12 = 0 then (A_L_hasPhone_393 y350_4 y350_5 M12) else (some ((0 : Int32), M12))))) else (some ((0 : Int32), M11))))))
def A_L_hasPhone_259  (rec23 : Int32 → Int32 → Int32 → Int32 → hp_M → Option (Int32 × hp_M)) (k23_1 : Int32) (k23_2 : Int32) (y259_3 : Int32) (y259_4 : Int32) (y259_5 : Int32) (y259_6 : Int32) (z259_0 : Int32) (M : hp_M) : Option (Int32 × hp_M) := (if k23_1 = (1 : Int32) then (if k23_2 = y259_6 then (if z259_0 = (1 : Int32) then (rec23 y259_3 y259_4 y259_5 (y259_6 + (1 : Int32)) M) else (some ((0 : Int32), M))) else (if z259_0 = (0 : Int32) then (rec23 y259_3 y259_4 y259_5 (y259_6 + (1 : Int32)) M) else (some ((0 : Int32), M)))) else (if z259_0 = (0 : Int32) then (rec23 y259_3 y259_4 y259_5 (y259_6 + (1 : Int32)) M) else (some ((0 : Int32), M))))
def A_L_hasPhone_238  (rec23 : Int32 → Int32 → Int32 → Int32 → hp_M → Option (Int32 × hp_M)) (k23_1 : Int32) (k23_2 : Int32) (y238_3 : Int32) (y238_4 : Int32) (y238_5 : Int32) (y238_6 : Int32) (y238_7 : Int32) (M : hp_M) : Option (Int32 × hp_M) := (if y238_7 = (1 : Int32) then (hp_b (F_X8_flat y238_6 (4 : Int32) M) (fun r20 M20 => (if r20 = 0 then (A_L_hasPhone_259 rec23 k23_1 k23_2 y238_3 y238_4 y238_5 y238_6 (1 : Int32) M20) else (A_L_hasPhone_259 rec23 k23_1 k23_2 y238_3 y238_4 y238_5 y238_6 (0 : Int32) M20)))) else (rec23 y238_3 y238_4 y238_5 (y238_6 + (1 : Int32)) M))
def A_L_hasPhone_219  (rec23 : Int32 → Int32 → Int32 → Int32 → hp_M → Option (Int32 × hp_M)) (k23_1 : Int32) (k23_2 : Int32) (y219_3 : Int32) (y219_4 : Int32) (y219_5 : Int32) (y219_6 : Int32) (y219_7 : Int32) (M : hp_M) : Option (Int32 × hp_M) := (if y219_7 = (2 : Int32) then (hp_b (F_X8_flat y219_6 (4 : Int32) M) (fun r19 M19 => (if (1 : Int32) ≤ r19 then (A_L_hasPhone_238 rec23 k23_1 k23_2 y219_3 y219_4 y219_5 y219_6 y219_7 M19) else (some ((0 : Int32), M19))))) else (A_L_hasPhone_238 rec23 k23_1 k23_2 y219_3 y219_4 y219_5 y219_6 y219_7 M))
def A_L_hasPhone_209  (rec23 : Int32 → Int32 → Int32 → Int32 → hp_M → Option (Int32 × hp_M)) (k23_1 : Int32) (k23_2 : Int32) (y209_3 : Int32) (y209_4 : Int32) (y209_5 : Int32) (y209_6 : Int32) (y209_7 : Int32) (M : hp_M) : Option (Int32 × hp_M) := (hp_b (F_X8_flat y209_6 (4 : Int32) M) (fun r18 M18 => (if r18 = 0 then (A_L_hasPhone_219 rec23 k23_1 k23_2 y209_3 y209_4 y209_5 y209_6 y209_7 M18) else (some ((0 : Int32), M18)))))
def A_L_hasPhone_198  (rec23 : Int32 → Int32 → Int32 → Int32 → hp_M → Option (Int32 × hp_M)) (k23_1 : Int32) (k23_2 : Int32) (y198_3 : Int32) (y198_4 : Int32) (y198_5 : Int32) (y198_6 : Int32) (y198_7 : Int32) (M : hp_M) : Option (Int32 × hp_M) := (if y198_7 = 0 then (A_L_hasPhone_209 rec23 k23_1 k23_2 y198_3 y198_4 y198_5 y198_6 y198_7 M) else (if y198_7 = (3 : Int32) then (A_L_hasPhone_209 rec23 k23_1 k23_2 y198_3 y198_4 y198_5 y198_6 y198_7 M) else (A_L_hasPhone_219 rec23 k23_1 k23_2 y198_3 y198_4 y198_5 y198_6 y198_7 M)))
def A_L_hasPhone_181  (rec23 : Int32 → Int32 → Int32 → Int32 → hp_M → Option (Int32 × hp_M)) (k23_1 : Int32) (k23_2 : Int32) (y181_3 : Int32) (y181_4 : Int32) (y181_5 : Int32) (y181_6 : Int32) (y181_7 : Int32) (M : hp_M) : Option (Int32 × hp_M) := (if y181_7 = (3 : Int32) then (if k23_1 = (2 : Int32) then (if k23_2 = y181_6 then (A_L_hasPhone_198 rec23 k23_1 k23_2 y181_3 y181_4 y181_5 y181_6 y181_7 M) else (some ((0 : Int32), M))) else (some ((0 : Int32), M))) else (A_L_hasPhone_198 rec23 k23_1 k23_2 y181_3 y181_4 y181_5 y181_6 y181_7 M))
def A_L_hasPhone_159  (rec23 : Int32 → Int32 → Int32 → Int32 → hp_M → Option (Int32 × hp_M)) (k23_1 : Int32) (k23_2 : Int32) (y159_3 : Int32) (y159_4 : Int32) (y159_5 : Int32) (y159_6 : Int32) (y159_7 : Int32) (y159_8 : Int32) (z159_0 : Int32) (z159_1 : Int32) (M : hp_M) : Option (Int32 × hp_M) := (if z159_1 = z159_0 then (if y159_8 = (-1 : Int32) then (A_L_hasPhone_181 rec23 k23_1 k23_2 y159_3 y159_4 y159_5 y159_6 y159_7 M) else (hp_b (F_X8_queued y159_8 M) (fun r21 M21 => (if r21 = y159_6 then (A_L_hasPhone_181 rec23 k23_1 k23_2 y159_3 y159_4 y159_5 y159_6 y159_7 M21) else (some ((0 : Int32), M21)))))) else (some ((0 : Int32), M)))
def A_L_hasPhone_148  (rec23 : Int32 → Int32 → Int32 → Int32 → hp_M → Option (Int32 × hp_M)) (k23_1 : Int32) (k23_2 : Int32) (y148_3 : Int32) (y148_4 : Int32) (y148_5 : Int32) (y148_6 : Int32) (y148_7 : Int32) (y148_8 : Int32) (z148_0 : Int32) (M : hp_M) : Option (Int32 × hp_M) := (if y148_8 = (-1 : Int32) then (A_L_hasPhone_159 rec23 k23_1 k23_2 y148_3 y148_4 y148_5 y148_6 y148_7 y148_8 (0 : Int32) z148_0 M) else (A_L_hasPhone_159 rec23 k23_1 k23_2 y148_3 y148_4 y148_5 y148_6 y148_7 y148_8 (1 : Int32) z148_0 M))
def A_L_hasPhone_134  (rec23 : Int32 → Int32 → Int32 → Int32 → hp_M → Option (Int32 × hp_M)) (k23_1 : Int32) (k23_2 : Int32) (y134_3 : Int32) (y134_4 : Int32) (y134_5 : Int32) (y134_6 : Int32) (y134_7 : Int32) (y134_8 : Int32) (z134_0 : Int32) (z134_1 : Int32) (M : hp_M) : Option (Int32 × hp_M) := (if z134_1 = z134_0 then (if y134_7 = (2 : Int32) then (A_L_hasPhone_148 rec23 k23_1 k23_2 y134_3 y134_4 y134_5 y134_6 y134_7 y134_8 (1 : Int32) M) else (A_L_hasPhone_148 rec23 k23_1 k23_2 y134_3 y134_4 y134_5 y134_6 y134_7 y134_8 (0 : Int32) M)) else (some ((0 : Int32), M)))
def A_L_hasPhone_119  (rec23 : Int32 → Int32 → Int32 → Int32 → hp_M → Option (Int32 × hp_M)) (k23_1 : Int32) (k23_2 : Int32) (y119_3 : Int32) (y119_4 : Int32) (y119_5 : Int32) (y119_6 : Int32) (y119_7 : Int32) (y119_8 : Int32) (z119_0 : Int32) (M : hp_M) : Option (Int32 × hp_M) := (hp_b (F_X8_flat y119_6 (3 : Int32) M) (fun r17 M17 => (if r17 ≤ 0 then (A_L_hasPhone_134 rec23 k23_1 k23_2 y119_3 y119_4 y119_5 y119_6 y119_7 y119_8 (0 : Int32) z119_0 M17) else (A_L_hasPhone_134 rec23 k23_1 k23_2 y119_3 y119_4 y119_5 y119_6 y119_7 y119_8 (1 : Int32) z119_0 M17))))
def A_L_hasPhone_94  (rec23 : Int32 → Int32 → Int32 → Int32 → hp_M → Option (Int32 × hp_M)) (k23_1 : Int32) (k23_2 : Int32) (y94_3 : Int32) (y94_4 : Int32) (y94_6 : Int32) (y94_7 : Int32) (y94_8 : Int32) (z94_0 : Int32) (z94_1 : Int32) (M : hp_M) : Option (Int32 × hp_M) := (if y94_7 < 0 then (some ((0 : Int32), M)) else (if (3 : Int32) < y94_7 then (some ((0 : Int32), M)) else (if y94_7 = (1 : Int32) then (A_L_hasPhone_119 rec23 k23_1 k23_2 y94_3 y94_4 (z94_1 + z94_0) y94_6 y94_7 y94_8 (1 : Int32) M) else (A_L_hasPhone_119 rec23 k23_1 k23_2 y94_3 y94_4 (z94_1 + z94_0) y94_6 y94_7 y94_8 (0 : Int32) M))))
def A_L_hasPhone_78  (rec23 : Int32 → Int32 → Int32 → Int32 → hp_M → Option (Int32 × hp_M)) (k23_1 : Int32) (k23_2 : Int32) (y78_3 : Int32) (y78_5 : Int32) (y78_6 : Int32) (y78_7 : Int32) (y78_8 : Int32) (z78_0 : Int32) (z78_1 : Int32) (M : hp_M) : Option (Int32 × hp_M) := (if y78_7 = (2 : Int32) then (A_L_hasPhone_94 rec23 k23_1 k23_2 y78_3 (z78_1 + z78_0) y78_6 y78_7 y78_8 (1 : Int32) y78_5 M) else (A_L_hasPhone_94 rec23 k23_1 k23_2 y78_3 (z78_1 + z78_0) y78_6 y78_7 y78_8 (0 : Int32) y78_5 M))
def A_L_hasPhone_63  (rec23 : Int32 → Int32 → Int32 → Int32 → hp_M → Option (Int32 × hp_M)) (k23_1 : Int32) (k23_2 : Int32) (y63_4 : Int32) (y63_5 : Int32) (y63_6 : Int32) (y63_7 : Int32) (y63_8 : Int32) (z63_0 : Int32) (z63_1 : Int32) (M : hp_M) : Option (Int32 × hp_M) := (if y63_7 = (1 : Int32) then (A_L_hasPhone_78 rec23 k23_1 k23_2 (z63_1 + z63_0) y63_5 y63_6 y63_7 y63_8 (1 : Int32) y63_4 M) else (A_L_hasPhone_78 rec23 k23_1 k23_2 (z63_1 + z63_0) y63_5 y63_6 y63_7 y63_8 (0 : Int32) y63_4 M))
def L_L_hasPhone_23   (k23_1 : Int32) (k23_2 : Int32) : Nat → Int32 → Int32 → Int32 → Int32 → hp_M → Option (Int32 × hp_M)
  | 0, _, _, _, _, _ => none
  | n23 + 1, x3, x4, x5, x6, M => (hp_b (F_X8_size (0 : Int32) M) (fun r3 M3 => (if r3 ≤ x6 then (if k23_1 = 0 then (if x3 = 0 then (if k23_2 = (-1 : Int32) then (hp_b (F_X8_size (6 : Int32) M3) (fun r4 M4 => (if r4 = 0 then (A_L_hasPhone_350 k23_1 x4 x5 M4) else (some ((0 : Int32), M4))))) else (some ((0 : Int32), M3))) else (some ((0 : Int32), M3))) else (if k23_1 = (1 : Int32) then (if x3 = 0 then (hp_b (F_X8_flat k23_2 (2 : Int32) M3) (fun r13 M13 => (if r13 = (1 : Int32) then (hp_b (F_X8_size (6 : Int32) M13) (fun r14 M14 => (if r14 = (1 : Int32) then (A_L_hasPhone_350 k23_1 x4 x5 M14) else (some ((0 : Int32), M14))))) else (some ((0 : Int32), M13))))) else (some ((0 : Int32), M3))) else (if x3 = (1 : Int32) then (A_L_hasPhone_350 k23_1 x4 x5 M3) else (some ((0 : Int32), M3))))) else (hp_b (F_X8_flat x6 (2 : Int32) M3) (fun r15 M15 => (hp_b (F_X8_flat x6 (5 : Int32) M15) (fun r16 M16 => (if r15 = (3 : Int32) then (A_L_hasPhone_63 (L_L_hasPhone_23 k23_1 k23_2 n23) k23_1 k23_2 x4 x5 x6 r15 r16 (1 : Int32) x3 M16) else (A_L_hasPhone_63 (L_L_hasPhone_23 k23_1 k23_2 n23) k23_1 k23_2 x4 x5 x6 r15 r16 (0 : Int32) x3 M16)))))))))
def F_L_hasPhone  (M : hp_M) : Option (Int32 × hp_M) := (hp_b (F_X8_size (2 : Int32) M) (fun r1 M1 => (hp_b (F_X8_size (3 : Int32) M1) (fun r2 M2 => (L_L_hasPhone_23 r1 r2 hp_fu (0 : Int32) (0 : Int32) (0 : Int32) (0 : Int32) M2)))))
set_option maxRecDepth 20000 in
set_option maxHeartbeats 4000000 in
theorem c_L_hasPhone (l : Launch)   (M : hp_M) : hp_Ct l yL_hasPhone cL_hasPhone 9 (some .boolean) 4 hp_IC (fun adr adV => [.ref (adr 12 0)]) hp_oi M (F_L_hasPhone  M) := by
  refine hp_start "HallPhoneLaw" (fun adr adV => [(0, .ref (adr 12 0))]) (by decide) rfl (fun _ _ => by simp only [lg_sl]; exact Nat.le_of_ble_eq_true rfl) (fun _ _ => rfl) ?_
  intro p e s m args below meth c A D ids adr adV cA rep G0 hI hC hr
  unfold F_L_hasPhone
  have j393 : ∀ (y393_4 : Int32) (y393_5 : Int32) (M : hp_M), hp_Z p l e (hp_rm 4) s m args below meth c 9 A D ids adr adV cA 0 0 (MQ below (hp_Q A D ids adr adV cA rep hp_oi G0) args s 0 0 A) G0 rep 393 [(0, .ref (adr 12 0)), (4, .int y393_4), (5, .int y393_5)] [] M (A_L_hasPhone_393  y393_4 y393_5 M) := by
    intro y393_4 y393_5 M
    unfold A_L_hasPhone_393
    refine hz_aload_n (a := 0) (n := 394) hC dL_hasPhone_393 rfl rfl rfl ?_
    refine hz_bipush (v := (7 : Int32)) (n := 396) hC dL_hasPhone_394 (by decide +kernel) rfl ?_
    refine hz_callV (k := 1) (As := [.int (7 : Int32)]) (st := []) (S1 := fun r => .int r :: []) (n := 399) hC (c_X8_size l (7 : Int32)   M) kv_X8_size wd_3_151 hI dL_hasPhone_396 rfl (hI.2 0 (by decide)) he_X8 rfl rfl rfl (Nat.le_of_ble_eq_true rfl) ⟨Nat.le_of_ble_eq_true rfl, Nat.le_of_ble_eq_true rfl⟩ ⟨Nat.zero_le _, Nat.zero_le _⟩ (fun _ => rfl) rfl (fun r7 M7 _ => ?_)
    refine hz_iload (a := 2) (n := 401) hC dL_hasPhone_399 rfl rfl ?_
    refine hz_icmp_ne (tgt := 438) (n := 404) hC dL_hasPhone_401 (by decide) rfl (fun _ => ?_) (fun _ => ?_)
    · refine hz_aload_n (a := 0) (n := 405) hC dL_hasPhone_404 rfl rfl rfl ?_
      refine hz_bipush (v := (8 : Int32)) (n := 407) hC dL_hasPhone_405 (by decide +kernel) rfl ?_
      refine hz_callV (k := 1) (As := [.int (8 : Int32)]) (st := []) (S1 := fun r => .int r :: []) (n := 410) hC (c_X8_size l (8 : Int32)   M7) kv_X8_size wd_3_151 hI dL_hasPhone_407 rfl (hI.2 0 (by decide)) he_X8 rfl rfl rfl (Nat.le_of_ble_eq_true rfl) ⟨Nat.le_of_ble_eq_true rfl, Nat.le_of_ble_eq_true rfl⟩ ⟨Nat.zero_le _, Nat.zero_le _⟩ (fun _ => rfl) rfl (fun r8 M8 _ => ?_)
      refine hz_iload (a := 1) (n := 412) hC dL_hasPhone_410 rfl rfl ?_
      refine hz_icmp_ne (tgt := 438) (n := 415) hC dL_hasPhone_412 (by decide) rfl (fun _ => ?_) (fun _ => ?_)
      · refine hz_aload_n (a := 0) (n := 416) hC dL_hasPhone_415 rfl rfl rfl ?_
        refine hz_iload (a := 2) (n := 418) hC dL_hasPhone_416 rfl rfl ?_
        refine hz_callV (k := 1) (As := [.int y393_5]) (st := []) (S1 := fun r => .int r :: []) (n := 421) hC (c_X8_queued l y393_5   M8) kv_X8_queued wd_4_95 hI dL_hasPhone_418 rfl (hI.2 0 (by decide)) he_X8 rfl rfl rfl (Nat.le_of_ble_eq_true rfl) ⟨Nat.le_of_ble_eq_true rfl, Nat.le_of_ble_eq_true rfl⟩ ⟨Nat.zero_le _, Nat.zero_le _⟩ (fun _ => rfl) rfl (fun r9 M9 _ => ?_)
        refine hz_iconst (v := (-1 : Int32)) (n := 422) hC dL_hasPhone_421 (by decide +kernel) rfl ?_
        refine hz_icmp_ne (tgt := 438) (n := 425) hC dL_hasPhone_422 (by decide) rfl (fun _ => ?_) (fun _ => ?_)
        · refine hz_aload_n (a := 0) (n := 426) hC dL_hasPhone_425 rfl rfl rfl ?_
          refine hz_iconst (v := (-1 : Int32)) (n := 427) hC dL_hasPhone_426 (by decide +kernel) rfl ?_
          refine hz_callV (k := 1) (As := [.int (-1 : Int32)]) (st := []) (S1 := fun r => .int r :: []) (n := 430) hC (c_X8_queued l (-1 : Int32)   M9) kv_X8_queued wd_4_95 hI dL_hasPhone_427 rfl (hI.2 0 (by decide)) he_X8 rfl rfl rfl (Nat.le_of_ble_eq_true rfl) ⟨Nat.le_of_ble_eq_true rfl, Nat.le_of_ble_eq_true rfl⟩ ⟨Nat.zero_le _, Nat.zero_le _⟩ (fun _ => rfl) rfl (fun r10 M10 _ => ?_)
          refine hz_iconst (v := (-1 : Int32)) (n := 431) hC dL_hasPhone_430 (by decide +kernel) rfl ?_
          refine hz_icmp_ne (tgt := 438) (n := 434) hC dL_hasPhone_431 (by decide) rfl (fun _ => ?_) (fun _ => ?_)
          · refine hz_iconst (v := (1 : Int32)) (n := 435) hC dL_hasPhone_434 (by decide +kernel) rfl ?_
            refine hz_goto (n := 439) hC dL_hasPhone_435 (by decide) ?_
            exact hz_zret hC hr nz_1 dL_hasPhone_439
          · refine hz_iconst (v := (0 : Int32)) (n := 439) hC dL_hasPhone_438 (by decide +kernel) rfl ?_
            exact hz_zret hC hr nz_0 dL_hasPhone_439
        · refine hz_iconst (v := (0 : Int32)) (n := 439) hC dL_hasPhone_438 (by decide +kernel) rfl ?_
          exact hz_zret hC hr nz_0 dL_hasPhone_439
      · refine hz_iconst (v := (0 : Int32)) (n := 439) hC dL_hasPhone_438 (by decide +kernel) rfl ?_
        exact hz_zret hC hr nz_0 dL_hasPhone_439
    · refine hz_iconst (v := (0 : Int32)) (n := 439) hC dL_hasPhone_438 (by decide +kernel) rfl ?_
      exact hz_zret hC hr nz_0 dL_hasPhone_439
  have j350 : ∀ (y350_1 : Int32) (y350_4 : Int32) (y350_5 : Int32) (M : hp_M), hp_Z p l e (hp_rm 4) s m args below meth c 9 A D ids adr adV cA 0 0 (MQ below (hp_Q A D ids adr adV cA rep hp_oi G0) args s 0 0 A) G0 rep 350 [(0, .ref (adr 12 0)), (1, .int y350_1), (4, .int y350_4), (5, .int y350_5)] [] M (A_L_hasPhone_350  y350_1 y350_4 y350_5 M) := by
    intro y350_1 y350_4 y350_5 M
    unfold A_L_hasPhone_350
    refine hz_iload_n (a := 1) (n := 351) hC dL_hasPhone_350 rfl rfl rfl ?_
    refine hz_iconst (v := (2 : Int32)) (n := 352) hC dL_hasPhone_351 (by decide +kernel) rfl ?_
    refine hz_icmp_ne (tgt := 375) (n := 355) hC dL_hasPhone_352 (by decide) rfl (fun _ => ?_) (fun _ => ?_)
    · refine hz_aload_n (a := 0) (n := 356) hC dL_hasPhone_355 rfl rfl rfl ?_
      refine hz_iconst (v := (4 : Int32)) (n := 357) hC dL_hasPhone_356 (by decide +kernel) rfl ?_
      refine hz_callV (k := 1) (As := [.int (4 : Int32)]) (st := []) (S1 := fun r => .int r :: []) (n := 360) hC (c_X8_size l (4 : Int32)   M) kv_X8_size wd_3_151 hI dL_hasPhone_357 rfl (hI.2 0 (by decide)) he_X8 rfl rfl rfl (Nat.le_of_ble_eq_true rfl) ⟨Nat.le_of_ble_eq_true rfl, Nat.le_of_ble_eq_true rfl⟩ ⟨Nat.zero_le _, Nat.zero_le _⟩ (fun _ => rfl) rfl (fun r5 M5 _ => ?_)
      refine hz_if_lt (tgt := 391) (n := 363) hC dL_hasPhone_360 (by decide) rfl (fun _ => ?_) (fun _ => ?_)
      · refine hz_iconst (v := (0 : Int32)) (n := 392) hC dL_hasPhone_391 (by decide +kernel) rfl ?_
        exact hz_zret hC hr nz_0 dL_hasPhone_392
      · refine hz_aload_n (a := 0) (n := 364) hC dL_hasPhone_363 rfl rfl rfl ?_
        refine hz_iconst (v := (5 : Int32)) (n := 365) hC dL_hasPhone_364 (by decide +kernel) rfl ?_
        refine hz_callV (k := 1) (As := [.int (5 : Int32)]) (st := []) (S1 := fun r => .int r :: []) (n := 368) hC (c_X8_size l (5 : Int32)   M5) kv_X8_size wd_3_151 hI dL_hasPhone_365 rfl (hI.2 0 (by decide)) he_X8 rfl rfl rfl (Nat.le_of_ble_eq_true rfl) ⟨Nat.le_of_ble_eq_true rfl, Nat.le_of_ble_eq_true rfl⟩ ⟨Nat.zero_le _, Nat.zero_le _⟩ (fun _ => rfl) rfl (fun r6 M6 _ => ?_)
        refine hz_iconst (v := (1 : Int32)) (n := 369) hC dL_hasPhone_368 (by decide +kernel) rfl ?_
        refine hz_icmp_ge (tgt := 393) (n := 372) hC dL_hasPhone_369 (by decide) rfl (fun _ => ?_) (fun _ => ?_)
        · refine hz_L (L' := [(0, .ref (adr 12 0)), (4, .int y350_4), (5, .int y350_5)]) [0, 2, 3] rfl ?_
          exact j393 _ _ _
        · refine hz_goto (n := 391) hC dL_hasPhone_372 (by decide) ?_
          refine hz_iconst (v := (0 : Int32)) (n := 392) hC dL_hasPhone_391 (by decide +kernel) rfl ?_
          exact hz_zret hC hr nz_0 dL_hasPhone_392
    · refine hz_aload_n (a := 0) (n := 376) hC dL_hasPhone_375 rfl rfl rfl ?_
      refine hz_iconst (v := (4 : Int32)) (n := 377) hC dL_hasPhone_376 (by decide +kernel) rfl ?_
      refine hz_callV (k := 1) (As := [.int (4 : Int32)]) (st := []) (S1 := fun r => .int r :: []) (n := 380) hC (c_X8_size l (4 : Int32)   M) kv_X8_size wd_3_151 hI dL_hasPhone_377 rfl (hI.2 0 (by decide)) he_X8 rfl rfl rfl (Nat.le_of_ble_eq_true rfl) ⟨Nat.le_of_ble_eq_true rfl, Nat.le_of_ble_eq_true rfl⟩ ⟨Nat.zero_le _, Nat.zero_le _⟩ (fun _ => rfl) rfl (fun r11 M11 _ => ?_)
      refine hz_if_ne (tgt := 391) (n := 383) hC dL_hasPhone_380 (by decide) rfl (fun _ => ?_) (fun _ => ?_)
      · refine hz_aload_n (a := 0) (n := 384) hC dL_hasPhone_383 rfl rfl rfl ?_
        refine hz_iconst (v := (5 : Int32)) (n := 385) hC dL_hasPhone_384 (by decide +kernel) rfl ?_
        refine hz_callV (k := 1) (As := [.int (5 : Int32)]) (st := []) (S1 := fun r => .int r :: []) (n := 388) hC (c_X8_size l (5 : Int32)   M11) kv_X8_size wd_3_151 hI dL_hasPhone_385 rfl (hI.2 0 (by decide)) he_X8 rfl rfl rfl (Nat.le_of_ble_eq_true rfl) ⟨Nat.le_of_ble_eq_true rfl, Nat.le_of_ble_eq_true rfl⟩ ⟨Nat.zero_le _, Nat.zero_le _⟩ (fun _ => rfl) rfl (fun r12 M12 _ => ?_)
        refine hz_if_eq (tgt := 393) (n := 391) hC dL_hasPhone_388 (by decide) rfl (fun _ => ?_) (fun _ => ?_)
        · refine hz_L (L' := [(0, .ref (adr 12 0)), (4, .int y350_4), (5, .int y350_5)]) [0, 2, 3] rfl ?_
          exact j393 _ _ _
        · refine hz_iconst (v := (0 : Int32)) (n := 392) hC dL_hasPhone_391 (by decide +kernel) rfl ?_
          exact hz_zret hC hr nz_0 dL_hasPhone_392
      · refine hz_iconst (v := (0 : Int32)) (n := 392) hC dL_hasPhone_391 (by decide +kernel) rfl ?_
        exact hz_zret hC hr nz_0 dL_hasPhone_392
  have l23 : ∀ (k23_1 : Int32) (k23_2 : Int32) (n23 : Nat) (x3 : Int32) (x4 : Int32) (x5 : Int32) (x6 : Int32) (M : hp_M), hp_Z p l e (hp_rm 4) s m args below meth c 9 A D ids adr adV cA 0 0 (MQ below (hp_Q A D ids adr adV cA rep hp_oi G0) args s 0 0 A) G0 rep 23 [(0, .ref (adr 12 0)), (1, .int k23_1), (2, .int k23_2), (3, .int x3), (4, .int x4), (5, .int x5), (6, .int x6)] [] M (L_L_hasPhone_23 k23_1 k23_2 n23 x3 x4 x5 x6 M) := by
    intro k23_1 k23_2 n23
    induction n23 with
    | zero => intro x3 x4 x5 x6 M; exact hz_none hC
    | succ n23 ih23 =>
      intro x3 x4 x5 x6 M
      rw [L_L_hasPhone_23.eq_2]
      have j259 : ∀ (y259_3 : Int32) (y259_4 : Int32) (y259_5 : Int32) (y259_6 : Int32) (z259_0 : Int32) (M : hp_M), hp_Z p l e (hp_rm 4) s m args below meth c 9 A D ids adr adV cA 0 0 (MQ below (hp_Q A D ids adr adV cA rep hp_oi G0) args s 0 0 A) G0 rep 259 [(0, .ref (adr 12 0)), (1, .int k23_1), (2, .int k23_2), (3, .int y259_3), (4, .int y259_4), (5, .int y259_5), (6, .int y259_6)] [.int z259_0] M (A_L_hasPhone_259  (L_L_hasPhone_23 k23_1 k23_2 n23) k23_1 k23_2 y259_3 y259_4 y259_5 y259_6 z259_0 M) := by
        intro y259_3 y259_4 y259_5 y259_6 z259_0 M
        unfold A_L_hasPhone_259
        refine hz_iload_n (a := 1) (n := 260) hC dL_hasPhone_259 rfl rfl rfl ?_
        refine hz_iconst (v := (1 : Int32)) (n := 261) hC dL_hasPhone_260 (by decide +kernel) rfl ?_
        refine hz_icmp_ne (tgt := 274) (n := 264) hC dL_hasPhone_261 (by decide) rfl (fun _ => ?_) (fun _ => ?_)
        · refine hz_iload_n (a := 2) (n := 265) hC dL_hasPhone_264 rfl rfl rfl ?_
          refine hz_iload (a := 6) (n := 267) hC dL_hasPhone_265 rfl rfl ?_
          refine hz_icmp_ne (tgt := 274) (n := 270) hC dL_hasPhone_267 (by decide) rfl (fun _ => ?_) (fun _ => ?_)
          · refine hz_iconst (v := (1 : Int32)) (n := 271) hC dL_hasPhone_270 (by decide +kernel) rfl ?_
            refine hz_goto (n := 275) hC dL_hasPhone_271 (by decide) ?_
            refine hz_icmp_eq (tgt := 280) (n := 278) hC dL_hasPhone_275 (by decide) rfl (fun _ => ?_) (fun _ => ?_)
            · refine hz_iinc (a := 6) (v := (y259_6 + (1 : Int32))) (L' := [(6, .int (y259_6 + (1 : Int32))), (0, .ref (adr 12 0)), (1, .int k23_1), (2, .int k23_2), (3, .int y259_3), (4, .int y259_4), (5, .int y259_5)]) (n := 283) hC dL_hasPhone_280 rfl rfl (by decide) rfl rfl ?_
              refine hz_goto (n := 23) hC dL_hasPhone_283 (by decide) ?_
              refine hz_L (L' := [(0, .ref (adr 12 0)), (1, .int k23_1), (2, .int k23_2), (3, .int y259_3), (4, .int y259_4), (5, .int y259_5), (6, .int (y259_6 + (1 : Int32)))]) [1, 2, 3, 4, 5, 6, 0] rfl ?_
              exact ih23 _ _ _ _ _
            · refine hz_iconst (v := (0 : Int32)) (n := 279) hC dL_hasPhone_278 (by decide +kernel) rfl ?_
              exact hz_zret hC hr nz_0 dL_hasPhone_279
          · refine hz_iconst (v := (0 : Int32)) (n := 275) hC dL_hasPhone_274 (by decide +kernel) rfl ?_
            refine hz_icmp_eq (tgt := 280) (n := 278) hC dL_hasPhone_275 (by decide) rfl (fun _ => ?_) (fun _ => ?_)
            · refine hz_iinc (a := 6) (v := (y259_6 + (1 : Int32))) (L' := [(6, .int (y259_6 + (1 : Int32))), (0, .ref (adr 12 0)), (1, .int k23_1), (2, .int k23_2), (3, .int y259_3), (4, .int y259_4), (5, .int y259_5)]) (n := 283) hC dL_hasPhone_280 rfl rfl (by decide) rfl rfl ?_
              refine hz_goto (n := 23) hC dL_hasPhone_283 (by decide) ?_
              refine hz_L (L' := [(0, .ref (adr 12 0)), (1, .int k23_1), (2, .int k23_2), (3, .int y259_3), (4, .int y259_4), (5, .int y259_5), (6, .int (y259_6 + (1 : Int32)))]) [1, 2, 3, 4, 5, 6, 0] rfl ?_
              exact ih23 _ _ _ _ _
            · refine hz_iconst (v := (0 : Int32)) (n := 279) hC dL_hasPhone_278 (by decide +kernel) rfl ?_
              exact hz_zret hC hr nz_0 dL_hasPhone_279
        · refine hz_iconst (v := (0 : Int32)) (n := 275) hC dL_hasPhone_274 (by decide +kernel) rfl ?_
          refine hz_icmp_eq (tgt := 280) (n := 278) hC dL_hasPhone_275 (by decide) rfl (fun _ => ?_) (fun _ => ?_)
          · refine hz_iinc (a := 6) (v := (y259_6 + (1 : Int32))) (L' := [(6, .int (y259_6 + (1 : Int32))), (0, .ref (adr 12 0)), (1, .int k23_1), (2, .int k23_2), (3, .int y259_3), (4, .int y259_4), (5, .int y259_5)]) (n := 283) hC dL_hasPhone_280 rfl rfl (by decide) rfl rfl ?_
            refine hz_goto (n := 23) hC dL_hasPhone_283 (by decide) ?_
            refine hz_L (L' := [(0, .ref (adr 12 0)), (1, .int k23_1), (2, .int k23_2), (3, .int y259_3), (4, .int y259_4), (5, .int y259_5), (6, .int (y259_6 + (1 : Int32)))]) [1, 2, 3, 4, 5, 6, 0] rfl ?_
            exact ih23 _ _ _ _ _
          · refine hz_iconst (v := (0 : Int32)) (n := 279) hC dL_hasPhone_278 (by decide +kernel) rfl ?_
            exact hz_zret hC hr nz_0 dL_hasPhone_279
      have j238 : ∀ (y238_3 : Int32) (y238_4 : Int32) (y238_5 : Int32) (y238_6 : Int32) (y238_7 : Int32) (M : hp_M), hp_Z p l e (hp_rm 4) s m args below meth c 9 A D ids adr adV cA 0 0 (MQ below (hp_Q A D ids adr adV cA rep hp_oi G0) args s 0 0 A) G0 rep 238 [(0, .ref (adr 12 0)), (1, .int k23_1), (2, .int k23_2), (3, .int y238_3), (4, .int y238_4), (5, .int y238_5), (6, .int y238_6), (7, .int y238_7)] [] M (A_L_hasPhone_238  (L_L_hasPhone_23 k23_1 k23_2 n23) k23_1 k23_2 y238_3 y238_4 y238_5 y238_6 y238_7 M) := by
        intro y238_3 y238_4 y238_5 y238_6 y238_7 M
        unfold A_L_hasPhone_238
        refine hz_iload (a := 7) (n := 240) hC dL_hasPhone_238 rfl rfl ?_
        refine hz_iconst (v := (1 : Int32)) (n := 241) hC dL_hasPhone_240 (by decide +kernel) rfl ?_
        refine hz_icmp_ne (tgt := 280) (n := 244) hC dL_hasPhone_241 (by decide) rfl (fun _ => ?_) (fun _ => ?_)
        · refine hz_aload_n (a := 0) (n := 245) hC dL_hasPhone_244 rfl rfl rfl ?_
          refine hz_iload (a := 6) (n := 247) hC dL_hasPhone_245 rfl rfl ?_
          refine hz_iconst (v := (4 : Int32)) (n := 248) hC dL_hasPhone_247 (by decide +kernel) rfl ?_
          refine hz_callV (k := 2) (As := [.int y238_6, .int (4 : Int32)]) (st := []) (S1 := fun r => .int r :: []) (n := 251) hC (c_X8_flat l y238_6 (4 : Int32)   M) kv_X8_flat wd_3_181 hI dL_hasPhone_248 rfl (hI.2 0 (by decide)) he_X8 rfl rfl rfl (Nat.le_of_ble_eq_true rfl) ⟨Nat.le_of_ble_eq_true rfl, Nat.le_of_ble_eq_true rfl⟩ ⟨Nat.zero_le _, Nat.zero_le _⟩ (fun _ => rfl) rfl (fun r20 M20 _ => ?_)
          refine hz_if_ne (tgt := 258) (n := 254) hC dL_hasPhone_251 (by decide) rfl (fun _ => ?_) (fun _ => ?_)
          · refine hz_iconst (v := (1 : Int32)) (n := 255) hC dL_hasPhone_254 (by decide +kernel) rfl ?_
            refine hz_goto (n := 259) hC dL_hasPhone_255 (by decide) ?_
            refine hz_L (L' := [(0, .ref (adr 12 0)), (1, .int k23_1), (2, .int k23_2), (3, .int y238_3), (4, .int y238_4), (5, .int y238_5), (6, .int y238_6)]) [0, 1, 2, 3, 4, 5, 6] rfl ?_
            exact j259 _ _ _ _ _ _
          · refine hz_iconst (v := (0 : Int32)) (n := 259) hC dL_hasPhone_258 (by decide +kernel) rfl ?_
            refine hz_L (L' := [(0, .ref (adr 12 0)), (1, .int k23_1), (2, .int k23_2), (3, .int y238_3), (4, .int y238_4), (5, .int y238_5), (6, .int y238_6)]) [0, 1, 2, 3, 4, 5, 6] rfl ?_
            exact j259 _ _ _ _ _ _
        · refine hz_iinc (a := 6) (v := (y238_6 + (1 : Int32))) (L' := [(6, .int (y238_6 + (1 : Int32))), (0, .ref (adr 12 0)), (1, .int k23_1), (2, .int k23_2), (3, .int y238_3), (4, .int y238_4), (5, .int y238_5), (7, .int y238_7)]) (n := 283) hC dL_hasPhone_280 rfl rfl (by decide) rfl rfl ?_
          refine hz_goto (n := 23) hC dL_hasPhone_283 (by decide) ?_
          refine hz_L (L' := [(0, .ref (adr 12 0)), (1, .int k23_1), (2, .int k23_2), (3, .int y238_3), (4, .int y238_4), (5, .int y238_5), (6, .int (y238_6 + (1 : Int32)))]) [1, 2, 3, 4, 5, 6, 0] rfl ?_
          exact ih23 _ _ _ _ _
      have j219 : ∀ (y219_3 : Int32) (y219_4 : Int32) (y219_5 : Int32) (y219_6 : Int32) (y219_7 : Int32) (M : hp_M), hp_Z p l e (hp_rm 4) s m args below meth c 9 A D ids adr adV cA 0 0 (MQ below (hp_Q A D ids adr adV cA rep hp_oi G0) args s 0 0 A) G0 rep 219 [(0, .ref (adr 12 0)), (1, .int k23_1), (2, .int k23_2), (3, .int y219_3), (4, .int y219_4), (5, .int y219_5), (6, .int y219_6), (7, .int y219_7)] [] M (A_L_hasPhone_219  (L_L_hasPhone_23 k23_1 k23_2 n23) k23_1 k23_2 y219_3 y219_4 y219_5 y219_6 y219_7 M) := by
        intro y219_3 y219_4 y219_5 y219_6 y219_7 M
        unfold A_L_hasPhone_219
        refine hz_iload (a := 7) (n := 221) hC dL_hasPhone_219 rfl rfl ?_
        refine hz_iconst (v := (2 : Int32)) (n := 222) hC dL_hasPhone_221 (by decide +kernel) rfl ?_
        refine hz_icmp_ne (tgt := 238) (n := 225) hC dL_hasPhone_222 (by decide) rfl (fun _ => ?_) (fun _ => ?_)
        · refine hz_aload_n (a := 0) (n := 226) hC dL_hasPhone_225 rfl rfl rfl ?_
          refine hz_iload (a := 6) (n := 228) hC dL_hasPhone_226 rfl rfl ?_
          refine hz_iconst (v := (4 : Int32)) (n := 229) hC dL_hasPhone_228 (by decide +kernel) rfl ?_
          refine hz_callV (k := 2) (As := [.int y219_6, .int (4 : Int32)]) (st := []) (S1 := fun r => .int r :: []) (n := 232) hC (c_X8_flat l y219_6 (4 : Int32)   M) kv_X8_flat wd_3_181 hI dL_hasPhone_229 rfl (hI.2 0 (by decide)) he_X8 rfl rfl rfl (Nat.le_of_ble_eq_true rfl) ⟨Nat.le_of_ble_eq_true rfl, Nat.le_of_ble_eq_true rfl⟩ ⟨Nat.zero_le _, Nat.zero_le _⟩ (fun _ => rfl) rfl (fun r19 M19 _ => ?_)
          refine hz_iconst (v := (1 : Int32)) (n := 233) hC dL_hasPhone_232 (by decide +kernel) rfl ?_
          refine hz_icmp_ge (tgt := 238) (n := 236) hC dL_hasPhone_233 (by decide) rfl (fun _ => ?_) (fun _ => ?_)
          · exact j238 _ _ _ _ _ _
          · refine hz_iconst (v := (0 : Int32)) (n := 237) hC dL_hasPhone_236 (by decide +kernel) rfl ?_
            exact hz_zret hC hr nz_0 dL_hasPhone_237
        · exact j238 _ _ _ _ _ _
      have j209 : ∀ (y209_3 : Int32) (y209_4 : Int32) (y209_5 : Int32) (y209_6 : Int32) (y209_7 : Int32) (M : hp_M), hp_Z p l e (hp_rm 4) s m args below meth c 9 A D ids adr adV cA 0 0 (MQ below (hp_Q A D ids adr adV cA rep hp_oi G0) args s 0 0 A) G0 rep 209 [(0, .ref (adr 12 0)), (1, .int k23_1), (2, .int k23_2), (3, .int y209_3), (4, .int y209_4), (5, .int y209_5), (6, .int y209_6), (7, .int y209_7)] [] M (A_L_hasPhone_209  (L_L_hasPhone_23 k23_1 k23_2 n23) k23_1 k23_2 y209_3 y209_4 y209_5 y209_6 y209_7 M) := by
        intro y209_3 y209_4 y209_5 y209_6 y209_7 M
        unfold A_L_hasPhone_209
        refine hz_aload_n (a := 0) (n := 210) hC dL_hasPhone_209 rfl rfl rfl ?_
        refine hz_iload (a := 6) (n := 212) hC dL_hasPhone_210 rfl rfl ?_
        refine hz_iconst (v := (4 : Int32)) (n := 213) hC dL_hasPhone_212 (by decide +kernel) rfl ?_
        refine hz_callV (k := 2) (As := [.int y209_6, .int (4 : Int32)]) (st := []) (S1 := fun r => .int r :: []) (n := 216) hC (c_X8_flat l y209_6 (4 : Int32)   M) kv_X8_flat wd_3_181 hI dL_hasPhone_213 rfl (hI.2 0 (by decide)) he_X8 rfl rfl rfl (Nat.le_of_ble_eq_true rfl) ⟨Nat.le_of_ble_eq_true rfl, Nat.le_of_ble_eq_true rfl⟩ ⟨Nat.zero_le _, Nat.zero_le _⟩ (fun _ => rfl) rfl (fun r18 M18 _ => ?_)
        refine hz_if_ne (tgt := 236) (n := 219) hC dL_hasPhone_216 (by decide) rfl (fun _ => ?_) (fun _ => ?_)
        · exact j219 _ _ _ _ _ _
        · refine hz_iconst (v := (0 : Int32)) (n := 237) hC dL_hasPhone_236 (by decide +kernel) rfl ?_
          exact hz_zret hC hr nz_0 dL_hasPhone_237
      have j198 : ∀ (y198_3 : Int32) (y198_4 : Int32) (y198_5 : Int32) (y198_6 : Int32) (y198_7 : Int32) (M : hp_M), hp_Z p l e (hp_rm 4) s m args below meth c 9 A D ids adr adV cA 0 0 (MQ below (hp_Q A D ids adr adV cA rep hp_oi G0) args s 0 0 A) G0 rep 198 [(0, .ref (adr 12 0)), (1, .int k23_1), (2, .int k23_2), (3, .int y198_3), (4, .int y198_4), (5, .int y198_5), (6, .int y198_6), (7, .int y198_7)] [] M (A_L_hasPhone_198  (L_L_hasPhone_23 k23_1 k23_2 n23) k23_1 k23_2 y198_3 y198_4 y198_5 y198_6 y198_7 M) := by
        intro y198_3 y198_4 y198_5 y198_6 y198_7 M
        unfold A_L_hasPhone_198
        refine hz_iload (a := 7) (n := 200) hC dL_hasPhone_198 rfl rfl ?_
        refine hz_if_eq (tgt := 209) (n := 203) hC dL_hasPhone_200 (by decide) rfl (fun _ => ?_) (fun _ => ?_)
        · exact j209 _ _ _ _ _ _
        · refine hz_iload (a := 7) (n := 205) hC dL_hasPhone_203 rfl rfl ?_
          refine hz_iconst (v := (3 : Int32)) (n := 206) hC dL_hasPhone_205 (by decide +kernel) rfl ?_
          refine hz_icmp_ne (tgt := 219) (n := 209) hC dL_hasPhone_206 (by decide) rfl (fun _ => ?_) (fun _ => ?_)
          · exact j209 _ _ _ _ _ _
          · exact j219 _ _ _ _ _ _
      have j181 : ∀ (y181_3 : Int32) (y181_4 : Int32) (y181_5 : Int32) (y181_6 : Int32) (y181_7 : Int32) (M : hp_M), hp_Z p l e (hp_rm 4) s m args below meth c 9 A D ids adr adV cA 0 0 (MQ below (hp_Q A D ids adr adV cA rep hp_oi G0) args s 0 0 A) G0 rep 181 [(0, .ref (adr 12 0)), (1, .int k23_1), (2, .int k23_2), (3, .int y181_3), (4, .int y181_4), (5, .int y181_5), (6, .int y181_6), (7, .int y181_7)] [] M (A_L_hasPhone_181  (L_L_hasPhone_23 k23_1 k23_2 n23) k23_1 k23_2 y181_3 y181_4 y181_5 y181_6 y181_7 M) := by
        intro y181_3 y181_4 y181_5 y181_6 y181_7 M
        unfold A_L_hasPhone_181
        refine hz_iload (a := 7) (n := 183) hC dL_hasPhone_181 rfl rfl ?_
        refine hz_iconst (v := (3 : Int32)) (n := 184) hC dL_hasPhone_183 (by decide +kernel) rfl ?_
        refine hz_icmp_ne (tgt := 198) (n := 187) hC dL_hasPhone_184 (by decide) rfl (fun _ => ?_) (fun _ => ?_)
        · refine hz_iload_n (a := 1) (n := 188) hC dL_hasPhone_187 rfl rfl rfl ?_
          refine hz_iconst (v := (2 : Int32)) (n := 189) hC dL_hasPhone_188 (by decide +kernel) rfl ?_
          refine hz_icmp_ne (tgt := 236) (n := 192) hC dL_hasPhone_189 (by decide) rfl (fun _ => ?_) (fun _ => ?_)
          · refine hz_iload_n (a := 2) (n := 193) hC dL_hasPhone_192 rfl rfl rfl ?_
            refine hz_iload (a := 6) (n := 195) hC dL_hasPhone_193 rfl rfl ?_
            refine hz_icmp_ne (tgt := 236) (n := 198) hC dL_hasPhone_195 (by decide) rfl (fun _ => ?_) (fun _ => ?_)
            · exact j198 _ _ _ _ _ _
            · refine hz_iconst (v := (0 : Int32)) (n := 237) hC dL_hasPhone_236 (by decide +kernel) rfl ?_
              exact hz_zret hC hr nz_0 dL_hasPhone_237
          · refine hz_iconst (v := (0 : Int32)) (n := 237) hC dL_hasPhone_236 (by decide +kernel) rfl ?_
            exact hz_zret hC hr nz_0 dL_hasPhone_237
        · exact j198 _ _ _ _ _ _
      have j159 : ∀ (y159_3 : Int32) (y159_4 : Int32) (y159_5 : Int32) (y159_6 : Int32) (y159_7 : Int32) (y159_8 : Int32) (z159_0 : Int32) (z159_1 : Int32) (M : hp_M), hp_Z p l e (hp_rm 4) s m args below meth c 9 A D ids adr adV cA 0 0 (MQ below (hp_Q A D ids adr adV cA rep hp_oi G0) args s 0 0 A) G0 rep 159 [(0, .ref (adr 12 0)), (1, .int k23_1), (2, .int k23_2), (3, .int y159_3), (4, .int y159_4), (5, .int y159_5), (6, .int y159_6), (7, .int y159_7), (8, .int y159_8)] [.int z159_0, .int z159_1] M (A_L_hasPhone_159  (L_L_hasPhone_23 k23_1 k23_2 n23) k23_1 k23_2 y159_3 y159_4 y159_5 y159_6 y159_7 y159_8 z159_0 z159_1 M) := by
        intro y159_3 y159_4 y159_5 y159_6 y159_7 y159_8 z159_0 z159_1 M
        unfold A_L_hasPhone_159
        refine hz_icmp_ne (tgt := 179) (n := 162) hC dL_hasPhone_159 (by decide) rfl (fun _ => ?_) (fun _ => ?_)
        · refine hz_iload (a := 8) (n := 164) hC dL_hasPhone_162 rfl rfl ?_
          refine hz_iconst (v := (-1 : Int32)) (n := 165) hC dL_hasPhone_164 (by decide +kernel) rfl ?_
          refine hz_icmp_eq (tgt := 181) (n := 168) hC dL_hasPhone_165 (by decide) rfl (fun _ => ?_) (fun _ => ?_)
          · refine hz_L (L' := [(0, .ref (adr 12 0)), (1, .int k23_1), (2, .int k23_2), (3, .int y159_3), (4, .int y159_4), (5, .int y159_5), (6, .int y159_6), (7, .int y159_7)]) [0, 1, 2, 3, 4, 5, 6, 7] rfl ?_
            exact j181 _ _ _ _ _ _
          · refine hz_aload_n (a := 0) (n := 169) hC dL_hasPhone_168 rfl rfl rfl ?_
            refine hz_iload (a := 8) (n := 171) hC dL_hasPhone_169 rfl rfl ?_
            refine hz_callV (k := 1) (As := [.int y159_8]) (st := []) (S1 := fun r => .int r :: []) (n := 174) hC (c_X8_queued l y159_8   M) kv_X8_queued wd_4_95 hI dL_hasPhone_171 rfl (hI.2 0 (by decide)) he_X8 rfl rfl rfl (Nat.le_of_ble_eq_true rfl) ⟨Nat.le_of_ble_eq_true rfl, Nat.le_of_ble_eq_true rfl⟩ ⟨Nat.zero_le _, Nat.zero_le _⟩ (fun _ => rfl) rfl (fun r21 M21 _ => ?_)
            refine hz_iload (a := 6) (n := 176) hC dL_hasPhone_174 rfl rfl ?_
            refine hz_icmp_eq (tgt := 181) (n := 179) hC dL_hasPhone_176 (by decide) rfl (fun _ => ?_) (fun _ => ?_)
            · refine hz_L (L' := [(0, .ref (adr 12 0)), (1, .int k23_1), (2, .int k23_2), (3, .int y159_3), (4, .int y159_4), (5, .int y159_5), (6, .int y159_6), (7, .int y159_7)]) [0, 1, 2, 3, 4, 5, 6, 7] rfl ?_
              exact j181 _ _ _ _ _ _
            · refine hz_iconst (v := (0 : Int32)) (n := 180) hC dL_hasPhone_179 (by decide +kernel) rfl ?_
              exact hz_zret hC hr nz_0 dL_hasPhone_180
        · refine hz_iconst (v := (0 : Int32)) (n := 180) hC dL_hasPhone_179 (by decide +kernel) rfl ?_
          exact hz_zret hC hr nz_0 dL_hasPhone_180
      have j148 : ∀ (y148_3 : Int32) (y148_4 : Int32) (y148_5 : Int32) (y148_6 : Int32) (y148_7 : Int32) (y148_8 : Int32) (z148_0 : Int32) (M : hp_M), hp_Z p l e (hp_rm 4) s m args below meth c 9 A D ids adr adV cA 0 0 (MQ below (hp_Q A D ids adr adV cA rep hp_oi G0) args s 0 0 A) G0 rep 148 [(0, .ref (adr 12 0)), (1, .int k23_1), (2, .int k23_2), (3, .int y148_3), (4, .int y148_4), (5, .int y148_5), (6, .int y148_6), (7, .int y148_7), (8, .int y148_8)] [.int z148_0] M (A_L_hasPhone_148  (L_L_hasPhone_23 k23_1 k23_2 n23) k23_1 k23_2 y148_3 y148_4 y148_5 y148_6 y148_7 y148_8 z148_0 M) := by
        intro y148_3 y148_4 y148_5 y148_6 y148_7 y148_8 z148_0 M
        unfold A_L_hasPhone_148
        refine hz_iload (a := 8) (n := 150) hC dL_hasPhone_148 rfl rfl ?_
        refine hz_iconst (v := (-1 : Int32)) (n := 151) hC dL_hasPhone_150 (by decide +kernel) rfl ?_
        refine hz_icmp_eq (tgt := 158) (n := 154) hC dL_hasPhone_151 (by decide) rfl (fun _ => ?_) (fun _ => ?_)
        · refine hz_iconst (v := (0 : Int32)) (n := 159) hC dL_hasPhone_158 (by decide +kernel) rfl ?_
          exact j159 _ _ _ _ _ _ _ _ _
        · refine hz_iconst (v := (1 : Int32)) (n := 155) hC dL_hasPhone_154 (by decide +kernel) rfl ?_
          refine hz_goto (n := 159) hC dL_hasPhone_155 (by decide) ?_
          exact j159 _ _ _ _ _ _ _ _ _
      have j134 : ∀ (y134_3 : Int32) (y134_4 : Int32) (y134_5 : Int32) (y134_6 : Int32) (y134_7 : Int32) (y134_8 : Int32) (z134_0 : Int32) (z134_1 : Int32) (M : hp_M), hp_Z p l e (hp_rm 4) s m args below meth c 9 A D ids adr adV cA 0 0 (MQ below (hp_Q A D ids adr adV cA rep hp_oi G0) args s 0 0 A) G0 rep 134 [(0, .ref (adr 12 0)), (1, .int k23_1), (2, .int k23_2), (3, .int y134_3), (4, .int y134_4), (5, .int y134_5), (6, .int y134_6), (7, .int y134_7), (8, .int y134_8)] [.int z134_0, .int z134_1] M (A_L_hasPhone_134  (L_L_hasPhone_23 k23_1 k23_2 n23) k23_1 k23_2 y134_3 y134_4 y134_5 y134_6 y134_7 y134_8 z134_0 z134_1 M) := by
        intro y134_3 y134_4 y134_5 y134_6 y134_7 y134_8 z134_0 z134_1 M
        unfold A_L_hasPhone_134
        refine hz_icmp_ne (tgt := 179) (n := 137) hC dL_hasPhone_134 (by decide) rfl (fun _ => ?_) (fun _ => ?_)
        · refine hz_iload (a := 7) (n := 139) hC dL_hasPhone_137 rfl rfl ?_
          refine hz_iconst (v := (2 : Int32)) (n := 140) hC dL_hasPhone_139 (by decide +kernel) rfl ?_
          refine hz_icmp_ne (tgt := 147) (n := 143) hC dL_hasPhone_140 (by decide) rfl (fun _ => ?_) (fun _ => ?_)
          · refine hz_iconst (v := (1 : Int32)) (n := 144) hC dL_hasPhone_143 (by decide +kernel) rfl ?_
            refine hz_goto (n := 148) hC dL_hasPhone_144 (by decide) ?_
            exact j148 _ _ _ _ _ _ _ _
          · refine hz_iconst (v := (0 : Int32)) (n := 148) hC dL_hasPhone_147 (by decide +kernel) rfl ?_
            exact j148 _ _ _ _ _ _ _ _
        · refine hz_iconst (v := (0 : Int32)) (n := 180) hC dL_hasPhone_179 (by decide +kernel) rfl ?_
          exact hz_zret hC hr nz_0 dL_hasPhone_180
      have j119 : ∀ (y119_3 : Int32) (y119_4 : Int32) (y119_5 : Int32) (y119_6 : Int32) (y119_7 : Int32) (y119_8 : Int32) (z119_0 : Int32) (M : hp_M), hp_Z p l e (hp_rm 4) s m args below meth c 9 A D ids adr adV cA 0 0 (MQ below (hp_Q A D ids adr adV cA rep hp_oi G0) args s 0 0 A) G0 rep 119 [(0, .ref (adr 12 0)), (1, .int k23_1), (2, .int k23_2), (3, .int y119_3), (4, .int y119_4), (5, .int y119_5), (6, .int y119_6), (7, .int y119_7), (8, .int y119_8)] [.int z119_0] M (A_L_hasPhone_119  (L_L_hasPhone_23 k23_1 k23_2 n23) k23_1 k23_2 y119_3 y119_4 y119_5 y119_6 y119_7 y119_8 z119_0 M) := by
        intro y119_3 y119_4 y119_5 y119_6 y119_7 y119_8 z119_0 M
        unfold A_L_hasPhone_119
        refine hz_aload_n (a := 0) (n := 120) hC dL_hasPhone_119 rfl rfl rfl ?_
        refine hz_iload (a := 6) (n := 122) hC dL_hasPhone_120 rfl rfl ?_
        refine hz_iconst (v := (3 : Int32)) (n := 123) hC dL_hasPhone_122 (by decide +kernel) rfl ?_
        refine hz_callV (k := 2) (As := [.int y119_6, .int (3 : Int32)]) (st := [.int z119_0]) (S1 := fun r => .int r :: [.int z119_0]) (n := 126) hC (c_X8_flat l y119_6 (3 : Int32)   M) kv_X8_flat wd_3_181 hI dL_hasPhone_123 rfl (hI.2 0 (by decide)) he_X8 rfl rfl rfl (Nat.le_of_ble_eq_true rfl) ⟨Nat.le_of_ble_eq_true rfl, Nat.le_of_ble_eq_true rfl⟩ ⟨Nat.zero_le _, Nat.zero_le _⟩ (fun _ => rfl) rfl (fun r17 M17 _ => ?_)
        refine hz_if_le (tgt := 133) (n := 129) hC dL_hasPhone_126 (by decide) rfl (fun _ => ?_) (fun _ => ?_)
        · refine hz_iconst (v := (0 : Int32)) (n := 134) hC dL_hasPhone_133 (by decide +kernel) rfl ?_
          exact j134 _ _ _ _ _ _ _ _ _
        · refine hz_iconst (v := (1 : Int32)) (n := 130) hC dL_hasPhone_129 (by decide +kernel) rfl ?_
          refine hz_goto (n := 134) hC dL_hasPhone_130 (by decide) ?_
          exact j134 _ _ _ _ _ _ _ _ _
      have j94 : ∀ (y94_3 : Int32) (y94_4 : Int32) (y94_6 : Int32) (y94_7 : Int32) (y94_8 : Int32) (z94_0 : Int32) (z94_1 : Int32) (M : hp_M), hp_Z p l e (hp_rm 4) s m args below meth c 9 A D ids adr adV cA 0 0 (MQ below (hp_Q A D ids adr adV cA rep hp_oi G0) args s 0 0 A) G0 rep 94 [(0, .ref (adr 12 0)), (1, .int k23_1), (2, .int k23_2), (3, .int y94_3), (4, .int y94_4), (6, .int y94_6), (7, .int y94_7), (8, .int y94_8)] [.int z94_0, .int z94_1] M (A_L_hasPhone_94  (L_L_hasPhone_23 k23_1 k23_2 n23) k23_1 k23_2 y94_3 y94_4 y94_6 y94_7 y94_8 z94_0 z94_1 M) := by
        intro y94_3 y94_4 y94_6 y94_7 y94_8 z94_0 z94_1 M
        unfold A_L_hasPhone_94
        refine hz_iadd (n := 95) hC dL_hasPhone_94 rfl ?_
        refine hz_istore (L' := [(5, .int (z94_1 + z94_0)), (0, .ref (adr 12 0)), (1, .int k23_1), (2, .int k23_2), (3, .int y94_3), (4, .int y94_4), (6, .int y94_6), (7, .int y94_7), (8, .int y94_8)]) (n := 97) hC dL_hasPhone_95 (by decide) rfl rfl ?_
        refine hz_iload (a := 7) (n := 99) hC dL_hasPhone_97 rfl rfl ?_
        refine hz_if_lt (tgt := 179) (n := 102) hC dL_hasPhone_99 (by decide) rfl (fun _ => ?_) (fun _ => ?_)
        · refine hz_iconst (v := (0 : Int32)) (n := 180) hC dL_hasPhone_179 (by decide +kernel) rfl ?_
          exact hz_zret hC hr nz_0 dL_hasPhone_180
        · refine hz_iload (a := 7) (n := 104) hC dL_hasPhone_102 rfl rfl ?_
          refine hz_iconst (v := (3 : Int32)) (n := 105) hC dL_hasPhone_104 (by decide +kernel) rfl ?_
          refine hz_icmp_gt (tgt := 179) (n := 108) hC dL_hasPhone_105 (by decide) rfl (fun _ => ?_) (fun _ => ?_)
          · refine hz_iconst (v := (0 : Int32)) (n := 180) hC dL_hasPhone_179 (by decide +kernel) rfl ?_
            exact hz_zret hC hr nz_0 dL_hasPhone_180
          · refine hz_iload (a := 7) (n := 110) hC dL_hasPhone_108 rfl rfl ?_
            refine hz_iconst (v := (1 : Int32)) (n := 111) hC dL_hasPhone_110 (by decide +kernel) rfl ?_
            refine hz_icmp_ne (tgt := 118) (n := 114) hC dL_hasPhone_111 (by decide) rfl (fun _ => ?_) (fun _ => ?_)
            · refine hz_iconst (v := (1 : Int32)) (n := 115) hC dL_hasPhone_114 (by decide +kernel) rfl ?_
              refine hz_goto (n := 119) hC dL_hasPhone_115 (by decide) ?_
              refine hz_L (L' := [(0, .ref (adr 12 0)), (1, .int k23_1), (2, .int k23_2), (3, .int y94_3), (4, .int y94_4), (5, .int (z94_1 + z94_0)), (6, .int y94_6), (7, .int y94_7), (8, .int y94_8)]) [1, 2, 3, 4, 5, 0, 6, 7, 8] rfl ?_
              exact j119 _ _ _ _ _ _ _ _
            · refine hz_iconst (v := (0 : Int32)) (n := 119) hC dL_hasPhone_118 (by decide +kernel) rfl ?_
              refine hz_L (L' := [(0, .ref (adr 12 0)), (1, .int k23_1), (2, .int k23_2), (3, .int y94_3), (4, .int y94_4), (5, .int (z94_1 + z94_0)), (6, .int y94_6), (7, .int y94_7), (8, .int y94_8)]) [1, 2, 3, 4, 5, 0, 6, 7, 8] rfl ?_
              exact j119 _ _ _ _ _ _ _ _
      have j78 : ∀ (y78_3 : Int32) (y78_5 : Int32) (y78_6 : Int32) (y78_7 : Int32) (y78_8 : Int32) (z78_0 : Int32) (z78_1 : Int32) (M : hp_M), hp_Z p l e (hp_rm 4) s m args below meth c 9 A D ids adr adV cA 0 0 (MQ below (hp_Q A D ids adr adV cA rep hp_oi G0) args s 0 0 A) G0 rep 78 [(0, .ref (adr 12 0)), (1, .int k23_1), (2, .int k23_2), (3, .int y78_3), (5, .int y78_5), (6, .int y78_6), (7, .int y78_7), (8, .int y78_8)] [.int z78_0, .int z78_1] M (A_L_hasPhone_78  (L_L_hasPhone_23 k23_1 k23_2 n23) k23_1 k23_2 y78_3 y78_5 y78_6 y78_7 y78_8 z78_0 z78_1 M) := by
        intro y78_3 y78_5 y78_6 y78_7 y78_8 z78_0 z78_1 M
        unfold A_L_hasPhone_78
        refine hz_iadd (n := 79) hC dL_hasPhone_78 rfl ?_
        refine hz_istore (L' := [(4, .int (z78_1 + z78_0)), (0, .ref (adr 12 0)), (1, .int k23_1), (2, .int k23_2), (3, .int y78_3), (5, .int y78_5), (6, .int y78_6), (7, .int y78_7), (8, .int y78_8)]) (n := 81) hC dL_hasPhone_79 (by decide) rfl rfl ?_
        refine hz_iload (a := 5) (n := 83) hC dL_hasPhone_81 rfl rfl ?_
        refine hz_iload (a := 7) (n := 85) hC dL_hasPhone_83 rfl rfl ?_
        refine hz_iconst (v := (2 : Int32)) (n := 86) hC dL_hasPhone_85 (by decide +kernel) rfl ?_
        refine hz_icmp_ne (tgt := 93) (n := 89) hC dL_hasPhone_86 (by decide) rfl (fun _ => ?_) (fun _ => ?_)
        · refine hz_iconst (v := (1 : Int32)) (n := 90) hC dL_hasPhone_89 (by decide +kernel) rfl ?_
          refine hz_goto (n := 94) hC dL_hasPhone_90 (by decide) ?_
          refine hz_L (L' := [(0, .ref (adr 12 0)), (1, .int k23_1), (2, .int k23_2), (3, .int y78_3), (4, .int (z78_1 + z78_0)), (6, .int y78_6), (7, .int y78_7), (8, .int y78_8)]) [1, 2, 3, 4, 0, 6, 7, 8] rfl ?_
          exact j94 _ _ _ _ _ _ _ _
        · refine hz_iconst (v := (0 : Int32)) (n := 94) hC dL_hasPhone_93 (by decide +kernel) rfl ?_
          refine hz_L (L' := [(0, .ref (adr 12 0)), (1, .int k23_1), (2, .int k23_2), (3, .int y78_3), (4, .int (z78_1 + z78_0)), (6, .int y78_6), (7, .int y78_7), (8, .int y78_8)]) [1, 2, 3, 4, 0, 6, 7, 8] rfl ?_
          exact j94 _ _ _ _ _ _ _ _
      have j63 : ∀ (y63_4 : Int32) (y63_5 : Int32) (y63_6 : Int32) (y63_7 : Int32) (y63_8 : Int32) (z63_0 : Int32) (z63_1 : Int32) (M : hp_M), hp_Z p l e (hp_rm 4) s m args below meth c 9 A D ids adr adV cA 0 0 (MQ below (hp_Q A D ids adr adV cA rep hp_oi G0) args s 0 0 A) G0 rep 63 [(0, .ref (adr 12 0)), (1, .int k23_1), (2, .int k23_2), (4, .int y63_4), (5, .int y63_5), (6, .int y63_6), (7, .int y63_7), (8, .int y63_8)] [.int z63_0, .int z63_1] M (A_L_hasPhone_63  (L_L_hasPhone_23 k23_1 k23_2 n23) k23_1 k23_2 y63_4 y63_5 y63_6 y63_7 y63_8 z63_0 z63_1 M) := by
        intro y63_4 y63_5 y63_6 y63_7 y63_8 z63_0 z63_1 M
        unfold A_L_hasPhone_63
        refine hz_iadd (n := 64) hC dL_hasPhone_63 rfl ?_
        refine hz_istore_n (L' := [(3, .int (z63_1 + z63_0)), (0, .ref (adr 12 0)), (1, .int k23_1), (2, .int k23_2), (4, .int y63_4), (5, .int y63_5), (6, .int y63_6), (7, .int y63_7), (8, .int y63_8)]) (n := 65) hC dL_hasPhone_64 rfl (by decide) rfl rfl ?_
        refine hz_iload (a := 4) (n := 67) hC dL_hasPhone_65 rfl rfl ?_
        refine hz_iload (a := 7) (n := 69) hC dL_hasPhone_67 rfl rfl ?_
        refine hz_iconst (v := (1 : Int32)) (n := 70) hC dL_hasPhone_69 (by decide +kernel) rfl ?_
        refine hz_icmp_ne (tgt := 77) (n := 73) hC dL_hasPhone_70 (by decide) rfl (fun _ => ?_) (fun _ => ?_)
        · refine hz_iconst (v := (1 : Int32)) (n := 74) hC dL_hasPhone_73 (by decide +kernel) rfl ?_
          refine hz_goto (n := 78) hC dL_hasPhone_74 (by decide) ?_
          refine hz_L (L' := [(0, .ref (adr 12 0)), (1, .int k23_1), (2, .int k23_2), (3, .int (z63_1 + z63_0)), (5, .int y63_5), (6, .int y63_6), (7, .int y63_7), (8, .int y63_8)]) [1, 2, 3, 0, 5, 6, 7, 8] rfl ?_
          exact j78 _ _ _ _ _ _ _ _
        · refine hz_iconst (v := (0 : Int32)) (n := 78) hC dL_hasPhone_77 (by decide +kernel) rfl ?_
          refine hz_L (L' := [(0, .ref (adr 12 0)), (1, .int k23_1), (2, .int k23_2), (3, .int (z63_1 + z63_0)), (5, .int y63_5), (6, .int y63_6), (7, .int y63_7), (8, .int y63_8)]) [1, 2, 3, 0, 5, 6, 7, 8] rfl ?_
          exact j78 _ _ _ _ _ _ _ _
      refine hz_iload (a := 6) (n := 25) hC dL_hasPhone_23 rfl rfl ?_
      refine hz_aload_n (a := 0) (n := 26) hC dL_hasPhone_25 rfl rfl rfl ?_
      refine hz_iconst (v := (0 : Int32)) (n := 27) hC dL_hasPhone_26 (by decide +kernel) rfl ?_
      refine hz_callV (k := 1) (As := [.int (0 : Int32)]) (st := [.int x6]) (S1 := fun r => .int r :: [.int x6]) (n := 30) hC (c_X8_size l (0 : Int32)   M) kv_X8_size wd_3_151 hI dL_hasPhone_27 rfl (hI.2 0 (by decide)) he_X8 rfl rfl rfl (Nat.le_of_ble_eq_true rfl) ⟨Nat.le_of_ble_eq_true rfl, Nat.le_of_ble_eq_true rfl⟩ ⟨Nat.zero_le _, Nat.zero_le _⟩ (fun _ => rfl) rfl (fun r3 M3 _ => ?_)
      refine hz_icmp_ge (tgt := 286) (n := 33) hC dL_hasPhone_30 (by decide) rfl (fun _ => ?_) (fun _ => ?_)
      · refine hz_iload_n (a := 1) (n := 287) hC dL_hasPhone_286 rfl rfl rfl ?_
        refine hz_if_ne (tgt := 311) (n := 290) hC dL_hasPhone_287 (by decide) rfl (fun _ => ?_) (fun _ => ?_)
        · refine hz_iload_n (a := 3) (n := 291) hC dL_hasPhone_290 rfl rfl rfl ?_
          refine hz_if_ne (tgt := 348) (n := 294) hC dL_hasPhone_291 (by decide) rfl (fun _ => ?_) (fun _ => ?_)
          · refine hz_iload_n (a := 2) (n := 295) hC dL_hasPhone_294 rfl rfl rfl ?_
            refine hz_iconst (v := (-1 : Int32)) (n := 296) hC dL_hasPhone_295 (by decide +kernel) rfl ?_
            refine hz_icmp_ne (tgt := 348) (n := 299) hC dL_hasPhone_296 (by decide) rfl (fun _ => ?_) (fun _ => ?_)
            · refine hz_aload_n (a := 0) (n := 300) hC dL_hasPhone_299 rfl rfl rfl ?_
              refine hz_bipush (v := (6 : Int32)) (n := 302) hC dL_hasPhone_300 (by decide +kernel) rfl ?_
              refine hz_callV (k := 1) (As := [.int (6 : Int32)]) (st := []) (S1 := fun r => .int r :: []) (n := 305) hC (c_X8_size l (6 : Int32)   M3) kv_X8_size wd_3_151 hI dL_hasPhone_302 rfl (hI.2 0 (by decide)) he_X8 rfl rfl rfl (Nat.le_of_ble_eq_true rfl) ⟨Nat.le_of_ble_eq_true rfl, Nat.le_of_ble_eq_true rfl⟩ ⟨Nat.zero_le _, Nat.zero_le _⟩ (fun _ => rfl) rfl (fun r4 M4 _ => ?_)
              refine hz_if_eq (tgt := 350) (n := 308) hC dL_hasPhone_305 (by decide) rfl (fun _ => ?_) (fun _ => ?_)
              · refine hz_L (L' := [(0, .ref (adr 12 0)), (1, .int k23_1), (4, .int x4), (5, .int x5)]) [0, 1, 4, 5] rfl ?_
                exact j350 _ _ _ _
              · refine hz_goto (n := 348) hC dL_hasPhone_308 (by decide) ?_
                refine hz_iconst (v := (0 : Int32)) (n := 349) hC dL_hasPhone_348 (by decide +kernel) rfl ?_
                exact hz_zret hC hr nz_0 dL_hasPhone_349
            · refine hz_iconst (v := (0 : Int32)) (n := 349) hC dL_hasPhone_348 (by decide +kernel) rfl ?_
              exact hz_zret hC hr nz_0 dL_hasPhone_349
          · refine hz_iconst (v := (0 : Int32)) (n := 349) hC dL_hasPhone_348 (by decide +kernel) rfl ?_
            exact hz_zret hC hr nz_0 dL_hasPhone_349
        · refine hz_iload_n (a := 1) (n := 312) hC dL_hasPhone_311 rfl rfl rfl ?_
          refine hz_iconst (v := (1 : Int32)) (n := 313) hC dL_hasPhone_312 (by decide +kernel) rfl ?_
          refine hz_icmp_ne (tgt := 343) (n := 316) hC dL_hasPhone_313 (by decide) rfl (fun _ => ?_) (fun _ => ?_)
          · refine hz_iload_n (a := 3) (n := 317) hC dL_hasPhone_316 rfl rfl rfl ?_
            refine hz_if_ne (tgt := 348) (n := 320) hC dL_hasPhone_317 (by decide) rfl (fun _ => ?_) (fun _ => ?_)
            · refine hz_aload_n (a := 0) (n := 321) hC dL_hasPhone_320 rfl rfl rfl ?_
              refine hz_iload_n (a := 2) (n := 322) hC dL_hasPhone_321 rfl rfl rfl ?_
              refine hz_iconst (v := (2 : Int32)) (n := 323) hC dL_hasPhone_322 (by decide +kernel) rfl ?_
              refine hz_callV (k := 2) (As := [.int k23_2, .int (2 : Int32)]) (st := []) (S1 := fun r => .int r :: []) (n := 326) hC (c_X8_flat l k23_2 (2 : Int32)   M3) kv_X8_flat wd_3_181 hI dL_hasPhone_323 rfl (hI.2 0 (by decide)) he_X8 rfl rfl rfl (Nat.le_of_ble_eq_true rfl) ⟨Nat.le_of_ble_eq_true rfl, Nat.le_of_ble_eq_true rfl⟩ ⟨Nat.zero_le _, Nat.zero_le _⟩ (fun _ => rfl) rfl (fun r13 M13 _ => ?_)
              refine hz_iconst (v := (1 : Int32)) (n := 327) hC dL_hasPhone_326 (by decide +kernel) rfl ?_
              refine hz_icmp_ne (tgt := 348) (n := 330) hC dL_hasPhone_327 (by decide) rfl (fun _ => ?_) (fun _ => ?_)
              · refine hz_aload_n (a := 0) (n := 331) hC dL_hasPhone_330 rfl rfl rfl ?_
                refine hz_bipush (v := (6 : Int32)) (n := 333) hC dL_hasPhone_331 (by decide +kernel) rfl ?_
                refine hz_callV (k := 1) (As := [.int (6 : Int32)]) (st := []) (S1 := fun r => .int r :: []) (n := 336) hC (c_X8_size l (6 : Int32)   M13) kv_X8_size wd_3_151 hI dL_hasPhone_333 rfl (hI.2 0 (by decide)) he_X8 rfl rfl rfl (Nat.le_of_ble_eq_true rfl) ⟨Nat.le_of_ble_eq_true rfl, Nat.le_of_ble_eq_true rfl⟩ ⟨Nat.zero_le _, Nat.zero_le _⟩ (fun _ => rfl) rfl (fun r14 M14 _ => ?_)
                refine hz_iconst (v := (1 : Int32)) (n := 337) hC dL_hasPhone_336 (by decide +kernel) rfl ?_
                refine hz_icmp_eq (tgt := 350) (n := 340) hC dL_hasPhone_337 (by decide) rfl (fun _ => ?_) (fun _ => ?_)
                · refine hz_L (L' := [(0, .ref (adr 12 0)), (1, .int k23_1), (4, .int x4), (5, .int x5)]) [0, 1, 4, 5] rfl ?_
                  exact j350 _ _ _ _
                · refine hz_goto (n := 348) hC dL_hasPhone_340 (by decide) ?_
                  refine hz_iconst (v := (0 : Int32)) (n := 349) hC dL_hasPhone_348 (by decide +kernel) rfl ?_
                  exact hz_zret hC hr nz_0 dL_hasPhone_349
              · refine hz_iconst (v := (0 : Int32)) (n := 349) hC dL_hasPhone_348 (by decide +kernel) rfl ?_
                exact hz_zret hC hr nz_0 dL_hasPhone_349
            · refine hz_iconst (v := (0 : Int32)) (n := 349) hC dL_hasPhone_348 (by decide +kernel) rfl ?_
              exact hz_zret hC hr nz_0 dL_hasPhone_349
          · refine hz_iload_n (a := 3) (n := 344) hC dL_hasPhone_343 rfl rfl rfl ?_
            refine hz_iconst (v := (1 : Int32)) (n := 345) hC dL_hasPhone_344 (by decide +kernel) rfl ?_
            refine hz_icmp_eq (tgt := 350) (n := 348) hC dL_hasPhone_345 (by decide) rfl (fun _ => ?_) (fun _ => ?_)
            · refine hz_L (L' := [(0, .ref (adr 12 0)), (1, .int k23_1), (4, .int x4), (5, .int x5)]) [0, 1, 4, 5] rfl ?_
              exact j350 _ _ _ _
            · refine hz_iconst (v := (0 : Int32)) (n := 349) hC dL_hasPhone_348 (by decide +kernel) rfl ?_
              exact hz_zret hC hr nz_0 dL_hasPhone_349
      · refine hz_aload_n (a := 0) (n := 34) hC dL_hasPhone_33 rfl rfl rfl ?_
        refine hz_iload (a := 6) (n := 36) hC dL_hasPhone_34 rfl rfl ?_
        refine hz_iconst (v := (2 : Int32)) (n := 37) hC dL_hasPhone_36 (by decide +kernel) rfl ?_
        refine hz_callV (k := 2) (As := [.int x6, .int (2 : Int32)]) (st := []) (S1 := fun r => .int r :: []) (n := 40) hC (c_X8_flat l x6 (2 : Int32)   M3) kv_X8_flat wd_3_181 hI dL_hasPhone_37 rfl (hI.2 0 (by decide)) he_X8 rfl rfl rfl (Nat.le_of_ble_eq_true rfl) ⟨Nat.le_of_ble_eq_true rfl, Nat.le_of_ble_eq_true rfl⟩ ⟨Nat.zero_le _, Nat.zero_le _⟩ (fun _ => rfl) rfl (fun r15 M15 _ => ?_)
        refine hz_istore (L' := [(7, .int r15), (0, .ref (adr 12 0)), (1, .int k23_1), (2, .int k23_2), (3, .int x3), (4, .int x4), (5, .int x5), (6, .int x6)]) (n := 42) hC dL_hasPhone_40 (by decide) rfl rfl ?_
        refine hz_aload_n (a := 1) (n := 43) hC dL_hasPhone_42 rfl rfl rfl ?_
        refine hz_iload (a := 7) (n := 45) hC dL_hasPhone_43 rfl rfl ?_
        refine hz_iconst (v := (5 : Int32)) (n := 46) hC dL_hasPhone_45 (by decide +kernel) rfl ?_
        refine hz_callV (k := 2) (As := [.int x6, .int (5 : Int32)]) (st := []) (S1 := fun r => .int r :: []) (n := 49) hC (c_X8_flat l x6 (5 : Int32)   M15) kv_X8_flat wd_3_181 hI dL_hasPhone_46 rfl (hI.2 0 (by decide)) he_X8 rfl rfl rfl (Nat.le_of_ble_eq_true rfl) ⟨Nat.le_of_ble_eq_true rfl, Nat.le_of_ble_eq_true rfl⟩ ⟨Nat.zero_le _, Nat.zero_le _⟩ (fun _ => rfl) rfl (fun r16 M16 _ => ?_)
        refine hz_istore (L' := [(8, .int r16), (7, .int r15), (0, .ref (adr 12 0)), (1, .int k23_1), (2, .int k23_2), (3, .int x3), (4, .int x4), (5, .int x5), (6, .int x6)]) (n := 51) hC dL_hasPhone_49 (by decide) rfl rfl ?_
        refine hz_iload_n (a := 5) (n := 52) hC dL_hasPhone_51 rfl rfl rfl ?_
        refine hz_iload (a := 1) (n := 54) hC dL_hasPhone_52 rfl rfl ?_
        refine hz_iconst (v := (3 : Int32)) (n := 55) hC dL_hasPhone_54 (by decide +kernel) rfl ?_
        refine hz_icmp_ne (tgt := 62) (n := 58) hC dL_hasPhone_55 (by decide) rfl (fun _ => ?_) (fun _ => ?_)
        · refine hz_iconst (v := (1 : Int32)) (n := 59) hC dL_hasPhone_58 (by decide +kernel) rfl ?_
          refine hz_goto (n := 63) hC dL_hasPhone_59 (by decide) ?_
          refine hz_L (L' := [(0, .ref (adr 12 0)), (1, .int k23_1), (2, .int k23_2), (4, .int x4), (5, .int x5), (6, .int x6), (7, .int r15), (8, .int r16)]) [2, 3, 4, 6, 7, 8, 1, 0] rfl ?_
          exact j63 _ _ _ _ _ _ _ _
        · refine hz_iconst (v := (0 : Int32)) (n := 63) hC dL_hasPhone_62 (by decide +kernel) rfl ?_
          refine hz_L (L' := [(0, .ref (adr 12 0)), (1, .int k23_1), (2, .int k23_2), (4, .int x4), (5, .int x5), (6, .int x6), (7, .int r15), (8, .int r16)]) [2, 3, 4, 6, 7, 8, 1, 0] rfl ?_
          exact j63 _ _ _ _ _ _ _ _
  refine hz_aload_n (a := 0) (n := 1) hC dL_hasPhone_0 rfl rfl rfl ?_
  refine hz_iconst (v := (2 : Int32)) (n := 2) hC dL_hasPhone_1 (by decide +kernel) rfl ?_
  refine hz_callV (k := 1) (As := [.int (2 : Int32)]) (st := []) (S1 := fun r => .int r :: []) (n := 5) hC (c_X8_size l (2 : Int32)   M) kv_X8_size wd_3_151 hI dL_hasPhone_2 rfl (hI.2 0 (by decide)) he_X8 rfl rfl rfl (Nat.le_of_ble_eq_true rfl) ⟨Nat.le_of_ble_eq_true rfl, Nat.le_of_ble_eq_true rfl⟩ ⟨Nat.zero_le _, Nat.zero_le _⟩ (fun _ => rfl) rfl (fun r1 M1 _ => ?_)
  refine hz_istore_n (L' := [(1, .int r1), (0, .ref (adr 12 0))]) (n := 6) hC dL_hasPhone_5 rfl (by decide) rfl rfl ?_
  refine hz_aload_n (a := 1) (n := 7) hC dL_hasPhone_6 rfl rfl rfl ?_
  refine hz_iconst (v := (3 : Int32)) (n := 8) hC dL_hasPhone_7 (by decide +kernel) rfl ?_
  refine hz_callV (k := 1) (As := [.int (3 : Int32)]) (st := []) (S1 := fun r => .int r :: []) (n := 11) hC (c_X8_size l (3 : Int32)   M1) kv_X8_size wd_3_151 hI dL_hasPhone_8 rfl (hI.2 0 (by decide)) he_X8 rfl rfl rfl (Nat.le_of_ble_eq_true rfl) ⟨Nat.le_of_ble_eq_true rfl, Nat.le_of_ble_eq_true rfl⟩ ⟨Nat.zero_le _, Nat.zero_le _⟩ (fun _ => rfl) rfl (fun r2 M2 _ => ?_)
  refine hz_istore_n (L' := [(2, .int r2), (1, .int r1), (0, .ref (adr 12 0))]) (n := 12) hC dL_hasPhone_11 rfl (by decide) rfl rfl ?_
  refine hz_iconst (v := (0 : Int32)) (n := 13) hC dL_hasPhone_12 (by decide +kernel) rfl ?_
  refine hz_istore_n (L' := [(3, .int (0 : Int32)), (2, .int r2), (1, .int r1), (0, .ref (adr 12 0))]) (n := 14) hC dL_hasPhone_13 rfl (by decide) rfl rfl ?_
  refine hz_iconst (v := (0 : Int32)) (n := 15) hC dL_hasPhone_14 (by decide +kernel) rfl ?_
  refine hz_istore (L' := [(4, .int (0 : Int32)), (3, .int (0 : Int32)), (2, .int r2), (1, .int r1), (0, .ref (adr 12 0))]) (n := 17) hC dL_hasPhone_15 (by decide) rfl rfl ?_
  refine hz_iconst (v := (0 : Int32)) (n := 18) hC dL_hasPhone_17 (by decide +kernel) rfl ?_
  refine hz_istore (L' := [(5, .int (0 : Int32)), (4, .int (0 : Int32)), (3, .int (0 : Int32)), (2, .int r2), (1, .int r1), (0, .ref (adr 12 0))]) (n := 20) hC dL_hasPhone_18 (by decide) rfl rfl ?_
  refine hz_iconst (v := (0 : Int32)) (n := 21) hC dL_hasPhone_20 (by decide +kernel) rfl ?_
  refine hz_istore (L' := [(6, .int (0 : Int32)), (5, .int (0 : Int32)), (4, .int (0 : Int32)), (3, .int (0 : Int32)), (2, .int r2), (1, .int r1), (0, .ref (adr 12 0))]) (n := 23) hC dL_hasPhone_21 (by decide) rfl rfl ?_
  refine hz_L (L' := [(0, .ref (adr 12 0)), (1, .int r1), (2, .int r2), (3, .int (0 : Int32)), (4, .int (0 : Int32)), (5, .int (0 : Int32)), (6, .int (0 : Int32))]) [6, 5, 4, 3, 2, 1, 0] rfl ?_
  exact l23 _ _ hp_fu _ _ _ _ _
def L_L_hasFlats_157   (k157_1 : Int32) (k157_2 : Int32) (k157_3 : Int32) (k157_4 : Int32) (k157_5 : Int32) : Nat → Int32 → hp_M → Option (Int32 × hp_M)
  | 0, _, _ => none
  | n157 + 1, x6, M => (hp_b (F_X8_size (9 : Int32) M) (fun r2 M2 => (if r2 ≤ x6 then (hp_b (F_X8_size (10 : Int32) M2) (fun r3 M3 => (if r3 = k157_1 then (hp_b (F_X8_size (9 : Int32) M3) (fun r4 M4 => (if r4 = k157_2 then (if (8 : Int32) < k157_2 then (some ((0 : Int32), M4)) else (hp_b (F_X8_account (3 : Int32) M4) (fun r5 M5 => (if r5 = k157_3 then (hp_b (F_X8_account (1 : Int32) M5) (fun r6 M6 => (if r6 = k157_4 then (hp_b (F_X8_account (9 : Int32) M6) (fun r7 M7 => (if r7 = k157_5 then (some ((1 : Int32), M7)) else (some ((0 : Int32), M7))))) else (some ((0 : Int32), M6))))) else (some ((0 : Int32), M5)))))) else (some ((0 : Int32), M4))))) else (some ((0 : Int32), M3))))) else (hp_b (F_X8_message x6 (1 : Int32) M2) (fun r8 M8 => (hp_b (F_X8_size (1 : Int32) M8) (fun r9 M9 => (if r9 < r8 then (some ((0 : Int32), M9)) else (if x6 ≤ 0 then (L_L_hasFlats_157 k157_1 k157_2 k157_3 k157_4 k157_5 n157 (x6 + (1 : Int32)) M9) else (hp_b (F_X8_message x6 (1 : Int32) M9) (fun r10 M10 => (hp_b (F_X8_message (x6 - (1 : Int32)) (1 : Int32) M10) (fun r11 M11 => (if r11 ≤ r10 then (L_L_hasFlats_157 k157_1 k157_2 k157_3 k157_4 k157_5 n157 (x6 + (1 : Int32)) M11) else (some ((0 : Int32), M11))))))))))))))))
def L_L_hasFlats_98  (rec15 : Int32 → Int32 → Int32 → Int32 → Int32 → Int32 → hp_M → Option (Int32 × hp_M)) (k98_1 : Int32) (k98_2 : Int32) (k98_3 : Int32) (k98_4 : Int32) (k98_6 : Int32) : Nat → Int32 → Int32 → hp_M → Option (Int32 × hp_M)
  | 0, _, _, _ => none
  | n98 + 1, x5, x7, M => (hp_b (F_X8_size (0 : Int32) M) (fun r18 M18 => (if r18 ≤ x7 then (rec15 k98_1 k98_2 k98_3 k98_4 x5 (k98_6 + (1 : Int32)) M18) else (hp_b (F_X8_heard k98_6 x7 M18) (fun r19 M19 => (hp_b (F_X8_heard k98_6 x7 M19) (fun r20 M20 => (hp_b (F_X8_flat x7 (7 : Int32) M20) (fun r21 M21 => (if r20 ≤ r21 then (L_L_hasFlats_98 rec15 k98_1 k98_2 k98_3 k98_4 k98_6 n98 (x5 + r19) (x7 + (1 : Int32)) M21) else (some ((0 : Int32), M21))))))))))))
def L_L_hasFlats_15    : Nat → Int32 → Int32 → Int32 → Int32 → Int32 → Int32 → hp_M → Option (Int32 × hp_M)
  | 0, _, _, _, _, _, _, _ => none
  | n15 + 1, x1, x2, x3, x4, x5, x6, M => (hp_b (F_X8_size (0 : Int32) M) (fun r1 M1 => (if r1 ≤ x6 then (L_L_hasFlats_157 x1 x2 x3 x4 x5 hp_fu (0 : Int32) M1) else (hp_b (F_X8_flat x6 (6 : Int32) M1) (fun r12 M12 => (if r12 < 0 then (some ((0 : Int32), M12)) else (hp_b (F_X8_heard x6 x6 M12) (fun r13 M13 => (if r13 = 0 then (hp_b (F_X8_flat x6 (6 : Int32) M13) (fun r14 M14 => (hp_b (F_X8_flat x6 (9 : Int32) M14) (fun r15 M15 => (hp_b (F_X8_flat x6 (7 : Int32) M15) (fun r16 M16 => (hp_b (F_X8_flat x6 (8 : Int32) M16) (fun r17 M17 => (L_L_hasFlats_98 (L_L_hasFlats_15  n15) (x1 + r14) (x2 + r15) (x3 + r16) (x4 + r17) x6 hp_fu x5 (0 : Int32) M17))))))))) else (some ((0 : Int32), M13)))))))))))
def F_L_hasFlats  (M : hp_M) : Option (Int32 × hp_M) := (L_L_hasFlats_15 hp_fu (0 : Int32) (0 : Int32) (0 : Int32) (0 : Int32) (0 : Int32) (0 : Int32) M)
set_option maxRecDepth 20000 in
set_option maxHeartbeats 4000000 in
theorem c_L_hasFlats (l : Launch)   (M : hp_M) : hp_Ct l yL_hasFlats cL_hasFlats 8 (some .boolean) 4 hp_IC (fun adr adV => [.ref (adr 12 0)]) hp_oi M (F_L_hasFlats  M) := by
  refine hp_start "HallPhoneLaw" (fun adr adV => [(0, .ref (adr 12 0))]) (by decide) rfl (fun _ _ => by simp only [lg_sl]; exact Nat.le_of_ble_eq_true rfl) (fun _ _ => rfl) ?_
  intro p e s m args below meth c A D ids adr adV cA rep G0 hI hC hr
  unfold F_L_hasFlats
  have l157 : ∀ (k157_1 : Int32) (k157_2 : Int32) (k157_3 : Int32) (k157_4 : Int32) (k157_5 : Int32) (n157 : Nat) (x6 : Int32) (M : hp_M), hp_Z p l e (hp_rm 4) s m args below meth c 8 A D ids adr adV cA 0 0 (MQ below (hp_Q A D ids adr adV cA rep hp_oi G0) args s 0 0 A) G0 rep 157 [(0, .ref (adr 12 0)), (1, .int k157_1), (2, .int k157_2), (3, .int k157_3), (4, .int k157_4), (5, .int k157_5), (6, .int x6)] [] M (L_L_hasFlats_157 k157_1 k157_2 k157_3 k157_4 k157_5 n157 x6 M) := by
    intro k157_1 k157_2 k157_3 k157_4 k157_5 n157
    induction n157 with
    | zero => intro x6 M; exact hz_none hC
    | succ n157 ih157 =>
      intro x6 M
      rw [L_L_hasFlats_157.eq_2]
      refine hz_iload (a := 6) (n := 159) hC dL_hasFlats_157 rfl rfl ?_
      refine hz_aload_n (a := 0) (n := 160) hC dL_hasFlats_159 rfl rfl rfl ?_
      refine hz_bipush (v := (9 : Int32)) (n := 162) hC dL_hasFlats_160 (by decide +kernel) rfl ?_
      refine hz_callV (k := 1) (As := [.int (9 : Int32)]) (st := [.int x6]) (S1 := fun r => .int r :: [.int x6]) (n := 165) hC (c_X8_size l (9 : Int32)   M) kv_X8_size wd_3_151 hI dL_hasFlats_162 rfl (hI.2 0 (by decide)) he_X8 rfl rfl rfl (Nat.le_of_ble_eq_true rfl) ⟨Nat.le_of_ble_eq_true rfl, Nat.le_of_ble_eq_true rfl⟩ ⟨Nat.zero_le _, Nat.zero_le _⟩ (fun _ => rfl) rfl (fun r2 M2 _ => ?_)
      refine hz_icmp_ge (tgt := 215) (n := 168) hC dL_hasFlats_165 (by decide) rfl (fun _ => ?_) (fun _ => ?_)
      · refine hz_aload_n (a := 0) (n := 216) hC dL_hasFlats_215 rfl rfl rfl ?_
        refine hz_bipush (v := (10 : Int32)) (n := 218) hC dL_hasFlats_216 (by decide +kernel) rfl ?_
        refine hz_callV (k := 1) (As := [.int (10 : Int32)]) (st := []) (S1 := fun r => .int r :: []) (n := 221) hC (c_X8_size l (10 : Int32)   M2) kv_X8_size wd_3_151 hI dL_hasFlats_218 rfl (hI.2 0 (by decide)) he_X8 rfl rfl rfl (Nat.le_of_ble_eq_true rfl) ⟨Nat.le_of_ble_eq_true rfl, Nat.le_of_ble_eq_true rfl⟩ ⟨Nat.zero_le _, Nat.zero_le _⟩ (fun _ => rfl) rfl (fun r3 M3 _ => ?_)
        refine hz_iload_n (a := 1) (n := 222) hC dL_hasFlats_221 rfl rfl rfl ?_
        refine hz_icmp_ne (tgt := 275) (n := 225) hC dL_hasFlats_222 (by decide) rfl (fun _ => ?_) (fun _ => ?_)
        · refine hz_aload_n (a := 0) (n := 226) hC dL_hasFlats_225 rfl rfl rfl ?_
          refine hz_bipush (v := (9 : Int32)) (n := 228) hC dL_hasFlats_226 (by decide +kernel) rfl ?_
          refine hz_callV (k := 1) (As := [.int (9 : Int32)]) (st := []) (S1 := fun r => .int r :: []) (n := 231) hC (c_X8_size l (9 : Int32)   M3) kv_X8_size wd_3_151 hI dL_hasFlats_228 rfl (hI.2 0 (by decide)) he_X8 rfl rfl rfl (Nat.le_of_ble_eq_true rfl) ⟨Nat.le_of_ble_eq_true rfl, Nat.le_of_ble_eq_true rfl⟩ ⟨Nat.zero_le _, Nat.zero_le _⟩ (fun _ => rfl) rfl (fun r4 M4 _ => ?_)
          refine hz_iload_n (a := 2) (n := 232) hC dL_hasFlats_231 rfl rfl rfl ?_
          refine hz_icmp_ne (tgt := 275) (n := 235) hC dL_hasFlats_232 (by decide) rfl (fun _ => ?_) (fun _ => ?_)
          · refine hz_iload_n (a := 2) (n := 236) hC dL_hasFlats_235 rfl rfl rfl ?_
            refine hz_bipush (v := (8 : Int32)) (n := 238) hC dL_hasFlats_236 (by decide +kernel) rfl ?_
            refine hz_icmp_gt (tgt := 275) (n := 241) hC dL_hasFlats_238 (by decide) rfl (fun _ => ?_) (fun _ => ?_)
            · refine hz_iconst (v := (0 : Int32)) (n := 276) hC dL_hasFlats_275 (by decide +kernel) rfl ?_
              exact hz_zret hC hr nz_0 dL_hasFlats_276
            · refine hz_aload_n (a := 0) (n := 242) hC dL_hasFlats_241 rfl rfl rfl ?_
              refine hz_iconst (v := (3 : Int32)) (n := 243) hC dL_hasFlats_242 (by decide +kernel) rfl ?_
              refine hz_callV (k := 1) (As := [.int (3 : Int32)]) (st := []) (S1 := fun r => .int r :: []) (n := 246) hC (c_X8_account l (3 : Int32)   M4) kv_X8_account wd_3_233 hI dL_hasFlats_243 rfl (hI.2 0 (by decide)) he_X8 rfl rfl rfl (Nat.le_of_ble_eq_true rfl) ⟨Nat.le_of_ble_eq_true rfl, Nat.le_of_ble_eq_true rfl⟩ ⟨Nat.zero_le _, Nat.zero_le _⟩ (fun _ => rfl) rfl (fun r5 M5 _ => ?_)
              refine hz_iload_n (a := 3) (n := 247) hC dL_hasFlats_246 rfl rfl rfl ?_
              refine hz_icmp_ne (tgt := 275) (n := 250) hC dL_hasFlats_247 (by decide) rfl (fun _ => ?_) (fun _ => ?_)
              · refine hz_aload_n (a := 0) (n := 251) hC dL_hasFlats_250 rfl rfl rfl ?_
                refine hz_iconst (v := (1 : Int32)) (n := 252) hC dL_hasFlats_251 (by decide +kernel) rfl ?_
                refine hz_callV (k := 1) (As := [.int (1 : Int32)]) (st := []) (S1 := fun r => .int r :: []) (n := 255) hC (c_X8_account l (1 : Int32)   M5) kv_X8_account wd_3_233 hI dL_hasFlats_252 rfl (hI.2 0 (by decide)) he_X8 rfl rfl rfl (Nat.le_of_ble_eq_true rfl) ⟨Nat.le_of_ble_eq_true rfl, Nat.le_of_ble_eq_true rfl⟩ ⟨Nat.zero_le _, Nat.zero_le _⟩ (fun _ => rfl) rfl (fun r6 M6 _ => ?_)
                refine hz_iload (a := 4) (n := 257) hC dL_hasFlats_255 rfl rfl ?_
                refine hz_icmp_ne (tgt := 275) (n := 260) hC dL_hasFlats_257 (by decide) rfl (fun _ => ?_) (fun _ => ?_)
                · refine hz_aload_n (a := 0) (n := 261) hC dL_hasFlats_260 rfl rfl rfl ?_
                  refine hz_bipush (v := (9 : Int32)) (n := 263) hC dL_hasFlats_261 (by decide +kernel) rfl ?_
                  refine hz_callV (k := 1) (As := [.int (9 : Int32)]) (st := []) (S1 := fun r => .int r :: []) (n := 266) hC (c_X8_account l (9 : Int32)   M6) kv_X8_account wd_3_233 hI dL_hasFlats_263 rfl (hI.2 0 (by decide)) he_X8 rfl rfl rfl (Nat.le_of_ble_eq_true rfl) ⟨Nat.le_of_ble_eq_true rfl, Nat.le_of_ble_eq_true rfl⟩ ⟨Nat.zero_le _, Nat.zero_le _⟩ (fun _ => rfl) rfl (fun r7 M7 _ => ?_)
                  refine hz_iload (a := 5) (n := 268) hC dL_hasFlats_266 rfl rfl ?_
                  refine hz_icmp_ne (tgt := 275) (n := 271) hC dL_hasFlats_268 (by decide) rfl (fun _ => ?_) (fun _ => ?_)
                  · refine hz_iconst (v := (1 : Int32)) (n := 272) hC dL_hasFlats_271 (by decide +kernel) rfl ?_
                    refine hz_goto (n := 276) hC dL_hasFlats_272 (by decide) ?_
                    exact hz_zret hC hr nz_1 dL_hasFlats_276
                  · refine hz_iconst (v := (0 : Int32)) (n := 276) hC dL_hasFlats_275 (by decide +kernel) rfl ?_
                    exact hz_zret hC hr nz_0 dL_hasFlats_276
                · refine hz_iconst (v := (0 : Int32)) (n := 276) hC dL_hasFlats_275 (by decide +kernel) rfl ?_
                  exact hz_zret hC hr nz_0 dL_hasFlats_276
              · refine hz_iconst (v := (0 : Int32)) (n := 276) hC dL_hasFlats_275 (by decide +kernel) rfl ?_
                exact hz_zret hC hr nz_0 dL_hasFlats_276
          · refine hz_iconst (v := (0 : Int32)) (n := 276) hC dL_hasFlats_275 (by decide +kernel) rfl ?_
            exact hz_zret hC hr nz_0 dL_hasFlats_276
        · refine hz_iconst (v := (0 : Int32)) (n := 276) hC dL_hasFlats_275 (by decide +kernel) rfl ?_
          exact hz_zret hC hr nz_0 dL_hasFlats_276
      · refine hz_aload_n (a := 0) (n := 169) hC dL_hasFlats_168 rfl rfl rfl ?_
        refine hz_iload (a := 6) (n := 171) hC dL_hasFlats_169 rfl rfl ?_
        refine hz_iconst (v := (1 : Int32)) (n := 172) hC dL_hasFlats_171 (by decide +kernel) rfl ?_
        refine hz_callV (k := 2) (As := [.int x6, .int (1 : Int32)]) (st := []) (S1 := fun r => .int r :: []) (n := 175) hC (c_X8_message l x6 (1 : Int32)   M2) kv_X8_message wd_4_107 hI dL_hasFlats_172 rfl (hI.2 0 (by decide)) he_X8 rfl rfl rfl (Nat.le_of_ble_eq_true rfl) ⟨Nat.le_of_ble_eq_true rfl, Nat.le_of_ble_eq_true rfl⟩ ⟨Nat.zero_le _, Nat.zero_le _⟩ (fun _ => rfl) rfl (fun r8 M8 _ => ?_)
        refine hz_aload_n (a := 0) (n := 176) hC dL_hasFlats_175 rfl rfl rfl ?_
        refine hz_iconst (v := (1 : Int32)) (n := 177) hC dL_hasFlats_176 (by decide +kernel) rfl ?_
        refine hz_callV (k := 1) (As := [.int (1 : Int32)]) (st := [.int r8]) (S1 := fun r => .int r :: [.int r8]) (n := 180) hC (c_X8_size l (1 : Int32)   M8) kv_X8_size wd_3_151 hI dL_hasFlats_177 rfl (hI.2 0 (by decide)) he_X8 rfl rfl rfl (Nat.le_of_ble_eq_true rfl) ⟨Nat.le_of_ble_eq_true rfl, Nat.le_of_ble_eq_true rfl⟩ ⟨Nat.zero_le _, Nat.zero_le _⟩ (fun _ => rfl) rfl (fun r9 M9 _ => ?_)
        refine hz_icmp_gt (tgt := 207) (n := 183) hC dL_hasFlats_180 (by decide) rfl (fun _ => ?_) (fun _ => ?_)
        · refine hz_iconst (v := (0 : Int32)) (n := 208) hC dL_hasFlats_207 (by decide +kernel) rfl ?_
          exact hz_zret hC hr nz_0 dL_hasFlats_208
        · refine hz_iload (a := 6) (n := 185) hC dL_hasFlats_183 rfl rfl ?_
          refine hz_if_le (tgt := 209) (n := 188) hC dL_hasFlats_185 (by decide) rfl (fun _ => ?_) (fun _ => ?_)
          · refine hz_iinc (a := 6) (v := (x6 + (1 : Int32))) (L' := [(6, .int (x6 + (1 : Int32))), (0, .ref (adr 12 0)), (1, .int k157_1), (2, .int k157_2), (3, .int k157_3), (4, .int k157_4), (5, .int k157_5)]) (n := 212) hC dL_hasFlats_209 rfl rfl (by decide) rfl rfl ?_
            refine hz_goto (n := 157) hC dL_hasFlats_212 (by decide) ?_
            refine hz_L (L' := [(0, .ref (adr 12 0)), (1, .int k157_1), (2, .int k157_2), (3, .int k157_3), (4, .int k157_4), (5, .int k157_5), (6, .int (x6 + (1 : Int32)))]) [1, 2, 3, 4, 5, 6, 0] rfl ?_
            exact ih157 _ _
          · refine hz_aload_n (a := 0) (n := 189) hC dL_hasFlats_188 rfl rfl rfl ?_
            refine hz_iload (a := 6) (n := 191) hC dL_hasFlats_189 rfl rfl ?_
            refine hz_iconst (v := (1 : Int32)) (n := 192) hC dL_hasFlats_191 (by decide +kernel) rfl ?_
            refine hz_callV (k := 2) (As := [.int x6, .int (1 : Int32)]) (st := []) (S1 := fun r => .int r :: []) (n := 195) hC (c_X8_message l x6 (1 : Int32)   M9) kv_X8_message wd_4_107 hI dL_hasFlats_192 rfl (hI.2 0 (by decide)) he_X8 rfl rfl rfl (Nat.le_of_ble_eq_true rfl) ⟨Nat.le_of_ble_eq_true rfl, Nat.le_of_ble_eq_true rfl⟩ ⟨Nat.zero_le _, Nat.zero_le _⟩ (fun _ => rfl) rfl (fun r10 M10 _ => ?_)
            refine hz_aload_n (a := 0) (n := 196) hC dL_hasFlats_195 rfl rfl rfl ?_
            refine hz_iload (a := 6) (n := 198) hC dL_hasFlats_196 rfl rfl ?_
            refine hz_iconst (v := (1 : Int32)) (n := 199) hC dL_hasFlats_198 (by decide +kernel) rfl ?_
            refine hz_isub (n := 200) hC dL_hasFlats_199 rfl ?_
            refine hz_iconst (v := (1 : Int32)) (n := 201) hC dL_hasFlats_200 (by decide +kernel) rfl ?_
            refine hz_callV (k := 2) (As := [.int (x6 - (1 : Int32)), .int (1 : Int32)]) (st := [.int r10]) (S1 := fun r => .int r :: [.int r10]) (n := 204) hC (c_X8_message l (x6 - (1 : Int32)) (1 : Int32)   M10) kv_X8_message wd_4_107 hI dL_hasFlats_201 rfl (hI.2 0 (by decide)) he_X8 rfl rfl rfl (Nat.le_of_ble_eq_true rfl) ⟨Nat.le_of_ble_eq_true rfl, Nat.le_of_ble_eq_true rfl⟩ ⟨Nat.zero_le _, Nat.zero_le _⟩ (fun _ => rfl) rfl (fun r11 M11 _ => ?_)
            refine hz_icmp_ge (tgt := 209) (n := 207) hC dL_hasFlats_204 (by decide) rfl (fun _ => ?_) (fun _ => ?_)
            · refine hz_iinc (a := 6) (v := (x6 + (1 : Int32))) (L' := [(6, .int (x6 + (1 : Int32))), (0, .ref (adr 12 0)), (1, .int k157_1), (2, .int k157_2), (3, .int k157_3), (4, .int k157_4), (5, .int k157_5)]) (n := 212) hC dL_hasFlats_209 rfl rfl (by decide) rfl rfl ?_
              refine hz_goto (n := 157) hC dL_hasFlats_212 (by decide) ?_
              refine hz_L (L' := [(0, .ref (adr 12 0)), (1, .int k157_1), (2, .int k157_2), (3, .int k157_3), (4, .int k157_4), (5, .int k157_5), (6, .int (x6 + (1 : Int32)))]) [1, 2, 3, 4, 5, 6, 0] rfl ?_
              exact ih157 _ _
            · refine hz_iconst (v := (0 : Int32)) (n := 208) hC dL_hasFlats_207 (by decide +kernel) rfl ?_
              exact hz_zret hC hr nz_0 dL_hasFlats_208
  have l15 : ∀  (n15 : Nat) (x1 : Int32) (x2 : Int32) (x3 : Int32) (x4 : Int32) (x5 : Int32) (x6 : Int32) (M : hp_M), hp_Z p l e (hp_rm 4) s m args below meth c 8 A D ids adr adV cA 0 0 (MQ below (hp_Q A D ids adr adV cA rep hp_oi G0) args s 0 0 A) G0 rep 15 [(0, .ref (adr 12 0)), (1, .int x1), (2, .int x2), (3, .int x3), (4, .int x4), (5, .int x5), (6, .int x6)] [] M (L_L_hasFlats_15  n15 x1 x2 x3 x4 x5 x6 M) := by
    intro  n15
    induction n15 with
    | zero => intro x1 x2 x3 x4 x5 x6 M; exact hz_none hC
    | succ n15 ih15 =>
      intro x1 x2 x3 x4 x5 x6 M
      rw [L_L_hasFlats_15.eq_2]
      have l98 : ∀ (k98_1 : Int32) (k98_2 : Int32) (k98_3 : Int32) (k98_4 : Int32) (k98_6 : Int32) (n98 : Nat) (x5 : Int32) (x7 : Int32) (M : hp_M), hp_Z p l e (hp_rm 4) s m args below meth c 8 A D ids adr adV cA 0 0 (MQ below (hp_Q A D ids adr adV cA rep hp_oi G0) args s 0 0 A) G0 rep 98 [(0, .ref (adr 12 0)), (1, .int k98_1), (2, .int k98_2), (3, .int k98_3), (4, .int k98_4), (5, .int x5), (6, .int k98_6), (7, .int x7)] [] M (L_L_hasFlats_98 (L_L_hasFlats_15 n15) k98_1 k98_2 k98_3 k98_4 k98_6 n98 x5 x7 M) := by
        intro k98_1 k98_2 k98_3 k98_4 k98_6 n98
        induction n98 with
        | zero => intro x5 x7 M; exact hz_none hC
        | succ n98 ih98 =>
          intro x5 x7 M
          rw [L_L_hasFlats_98.eq_2]
          refine hz_iload (a := 7) (n := 100) hC dL_hasFlats_98 rfl rfl ?_
          refine hz_aload_n (a := 0) (n := 101) hC dL_hasFlats_100 rfl rfl rfl ?_
          refine hz_iconst (v := (0 : Int32)) (n := 102) hC dL_hasFlats_101 (by decide +kernel) rfl ?_
          refine hz_callV (k := 1) (As := [.int (0 : Int32)]) (st := [.int x7]) (S1 := fun r => .int r :: [.int x7]) (n := 105) hC (c_X8_size l (0 : Int32)   M) kv_X8_size wd_3_151 hI dL_hasFlats_102 rfl (hI.2 0 (by decide)) he_X8 rfl rfl rfl (Nat.le_of_ble_eq_true rfl) ⟨Nat.le_of_ble_eq_true rfl, Nat.le_of_ble_eq_true rfl⟩ ⟨Nat.zero_le _, Nat.zero_le _⟩ (fun _ => rfl) rfl (fun r18 M18 _ => ?_)
          refine hz_icmp_ge (tgt := 148) (n := 108) hC dL_hasFlats_105 (by decide) rfl (fun _ => ?_) (fun _ => ?_)
          · refine hz_iinc (a := 6) (v := (k98_6 + (1 : Int32))) (L' := [(6, .int (k98_6 + (1 : Int32))), (0, .ref (adr 12 0)), (1, .int k98_1), (2, .int k98_2), (3, .int k98_3), (4, .int k98_4), (5, .int x5), (7, .int x7)]) (n := 151) hC dL_hasFlats_148 rfl rfl (by decide) rfl rfl ?_
            refine hz_goto (n := 15) hC dL_hasFlats_151 (by decide) ?_
            refine hz_L (L' := [(0, .ref (adr 12 0)), (1, .int k98_1), (2, .int k98_2), (3, .int k98_3), (4, .int k98_4), (5, .int x5), (6, .int (k98_6 + (1 : Int32)))]) [1, 2, 3, 4, 5, 6, 0] rfl ?_
            exact ih15 _ _ _ _ _ _ _
          · refine hz_iload (a := 5) (n := 110) hC dL_hasFlats_108 rfl rfl ?_
            refine hz_aload_n (a := 0) (n := 111) hC dL_hasFlats_110 rfl rfl rfl ?_
            refine hz_iload (a := 6) (n := 113) hC dL_hasFlats_111 rfl rfl ?_
            refine hz_iload (a := 7) (n := 115) hC dL_hasFlats_113 rfl rfl ?_
            refine hz_callV (k := 2) (As := [.int k98_6, .int x7]) (st := [.int x5]) (S1 := fun r => .int r :: [.int x5]) (n := 118) hC (c_X8_heard l k98_6 x7   M18) kv_X8_heard wd_4_103 hI dL_hasFlats_115 rfl (hI.2 0 (by decide)) he_X8 rfl rfl rfl (Nat.le_of_ble_eq_true rfl) ⟨Nat.le_of_ble_eq_true rfl, Nat.le_of_ble_eq_true rfl⟩ ⟨Nat.zero_le _, Nat.zero_le _⟩ (fun _ => rfl) rfl (fun r19 M19 _ => ?_)
            refine hz_iadd (n := 119) hC dL_hasFlats_118 rfl ?_
            refine hz_istore (L' := [(5, .int (x5 + r19)), (0, .ref (adr 12 0)), (1, .int k98_1), (2, .int k98_2), (3, .int k98_3), (4, .int k98_4), (6, .int k98_6), (7, .int x7)]) (n := 121) hC dL_hasFlats_119 (by decide) rfl rfl ?_
            refine hz_aload_n (a := 1) (n := 122) hC dL_hasFlats_121 rfl rfl rfl ?_
            refine hz_iload (a := 6) (n := 124) hC dL_hasFlats_122 rfl rfl ?_
            refine hz_iload (a := 7) (n := 126) hC dL_hasFlats_124 rfl rfl ?_
            refine hz_callV (k := 2) (As := [.int k98_6, .int x7]) (st := []) (S1 := fun r => .int r :: []) (n := 129) hC (c_X8_heard l k98_6 x7   M19) kv_X8_heard wd_4_103 hI dL_hasFlats_126 rfl (hI.2 0 (by decide)) he_X8 rfl rfl rfl (Nat.le_of_ble_eq_true rfl) ⟨Nat.le_of_ble_eq_true rfl, Nat.le_of_ble_eq_true rfl⟩ ⟨Nat.zero_le _, Nat.zero_le _⟩ (fun _ => rfl) rfl (fun r20 M20 _ => ?_)
            refine hz_aload_n (a := 1) (n := 130) hC dL_hasFlats_129 rfl rfl rfl ?_
            refine hz_iload (a := 7) (n := 132) hC dL_hasFlats_130 rfl rfl ?_
            refine hz_bipush (v := (7 : Int32)) (n := 134) hC dL_hasFlats_132 (by decide +kernel) rfl ?_
            refine hz_callV (k := 2) (As := [.int x7, .int (7 : Int32)]) (st := [.int r20]) (S1 := fun r => .int r :: [.int r20]) (n := 137) hC (c_X8_flat l x7 (7 : Int32)   M20) kv_X8_flat wd_3_181 hI dL_hasFlats_134 rfl (hI.2 0 (by decide)) he_X8 rfl rfl rfl (Nat.le_of_ble_eq_true rfl) ⟨Nat.le_of_ble_eq_true rfl, Nat.le_of_ble_eq_true rfl⟩ ⟨Nat.zero_le _, Nat.zero_le _⟩ (fun _ => rfl) rfl (fun r21 M21 _ => ?_)
            refine hz_icmp_le (tgt := 142) (n := 140) hC dL_hasFlats_137 (by decide) rfl (fun _ => ?_) (fun _ => ?_)
            · refine hz_iinc (a := 7) (v := (x7 + (1 : Int32))) (L' := [(7, .int (x7 + (1 : Int32))), (5, .int (x5 + r19)), (0, .ref (adr 12 0)), (1, .int k98_1), (2, .int k98_2), (3, .int k98_3), (4, .int k98_4), (6, .int k98_6)]) (n := 145) hC dL_hasFlats_142 rfl rfl (by decide) rfl rfl ?_
              refine hz_goto (n := 98) hC dL_hasFlats_145 (by decide) ?_
              refine hz_L (L' := [(0, .ref (adr 12 0)), (1, .int k98_1), (2, .int k98_2), (3, .int k98_3), (4, .int k98_4), (5, .int (x5 + r19)), (6, .int k98_6), (7, .int (x7 + (1 : Int32)))]) [2, 3, 4, 5, 6, 1, 7, 0] rfl ?_
              exact ih98 _ _ _
            · refine hz_iconst (v := (0 : Int32)) (n := 141) hC dL_hasFlats_140 (by decide +kernel) rfl ?_
              exact hz_zret hC hr nz_0 dL_hasFlats_141
      refine hz_iload (a := 6) (n := 17) hC dL_hasFlats_15 rfl rfl ?_
      refine hz_aload_n (a := 0) (n := 18) hC dL_hasFlats_17 rfl rfl rfl ?_
      refine hz_iconst (v := (0 : Int32)) (n := 19) hC dL_hasFlats_18 (by decide +kernel) rfl ?_
      refine hz_callV (k := 1) (As := [.int (0 : Int32)]) (st := [.int x6]) (S1 := fun r => .int r :: [.int x6]) (n := 22) hC (c_X8_size l (0 : Int32)   M) kv_X8_size wd_3_151 hI dL_hasFlats_19 rfl (hI.2 0 (by decide)) he_X8 rfl rfl rfl (Nat.le_of_ble_eq_true rfl) ⟨Nat.le_of_ble_eq_true rfl, Nat.le_of_ble_eq_true rfl⟩ ⟨Nat.zero_le _, Nat.zero_le _⟩ (fun _ => rfl) rfl (fun r1 M1 _ => ?_)
      refine hz_icmp_ge (tgt := 154) (n := 25) hC dL_hasFlats_22 (by decide) rfl (fun _ => ?_) (fun _ => ?_)
      · refine hz_iconst (v := (0 : Int32)) (n := 155) hC dL_hasFlats_154 (by decide +kernel) rfl ?_
        refine hz_istore (L' := [(6, .int (0 : Int32)), (0, .ref (adr 12 0)), (1, .int x1), (2, .int x2), (3, .int x3), (4, .int x4), (5, .int x5)]) (n := 157) hC dL_hasFlats_155 (by decide) rfl rfl ?_
        refine hz_L (L' := [(0, .ref (adr 12 0)), (1, .int x1), (2, .int x2), (3, .int x3), (4, .int x4), (5, .int x5), (6, .int (0 : Int32))]) [1, 2, 3, 4, 5, 6, 0] rfl ?_
        exact l157 _ _ _ _ _ hp_fu _ _
      · refine hz_aload_n (a := 0) (n := 26) hC dL_hasFlats_25 rfl rfl rfl ?_
        refine hz_iload (a := 6) (n := 28) hC dL_hasFlats_26 rfl rfl ?_
        refine hz_bipush (v := (6 : Int32)) (n := 30) hC dL_hasFlats_28 (by decide +kernel) rfl ?_
        refine hz_callV (k := 2) (As := [.int x6, .int (6 : Int32)]) (st := []) (S1 := fun r => .int r :: []) (n := 33) hC (c_X8_flat l x6 (6 : Int32)   M1) kv_X8_flat wd_3_181 hI dL_hasFlats_30 rfl (hI.2 0 (by decide)) he_X8 rfl rfl rfl (Nat.le_of_ble_eq_true rfl) ⟨Nat.le_of_ble_eq_true rfl, Nat.le_of_ble_eq_true rfl⟩ ⟨Nat.zero_le _, Nat.zero_le _⟩ (fun _ => rfl) rfl (fun r12 M12 _ => ?_)
        refine hz_if_lt (tgt := 47) (n := 36) hC dL_hasFlats_33 (by decide) rfl (fun _ => ?_) (fun _ => ?_)
        · refine hz_iconst (v := (0 : Int32)) (n := 48) hC dL_hasFlats_47 (by decide +kernel) rfl ?_
          exact hz_zret hC hr nz_0 dL_hasFlats_48
        · refine hz_aload_n (a := 0) (n := 37) hC dL_hasFlats_36 rfl rfl rfl ?_
          refine hz_iload (a := 6) (n := 39) hC dL_hasFlats_37 rfl rfl ?_
          refine hz_iload (a := 6) (n := 41) hC dL_hasFlats_39 rfl rfl ?_
          refine hz_callV (k := 2) (As := [.int x6, .int x6]) (st := []) (S1 := fun r => .int r :: []) (n := 44) hC (c_X8_heard l x6 x6   M12) kv_X8_heard wd_4_103 hI dL_hasFlats_41 rfl (hI.2 0 (by decide)) he_X8 rfl rfl rfl (Nat.le_of_ble_eq_true rfl) ⟨Nat.le_of_ble_eq_true rfl, Nat.le_of_ble_eq_true rfl⟩ ⟨Nat.zero_le _, Nat.zero_le _⟩ (fun _ => rfl) rfl (fun r13 M13 _ => ?_)
          refine hz_if_eq (tgt := 49) (n := 47) hC dL_hasFlats_44 (by decide) rfl (fun _ => ?_) (fun _ => ?_)
          · refine hz_iload_n (a := 1) (n := 50) hC dL_hasFlats_49 rfl rfl rfl ?_
            refine hz_aload_n (a := 0) (n := 51) hC dL_hasFlats_50 rfl rfl rfl ?_
            refine hz_iload (a := 6) (n := 53) hC dL_hasFlats_51 rfl rfl ?_
            refine hz_bipush (v := (6 : Int32)) (n := 55) hC dL_hasFlats_53 (by decide +kernel) rfl ?_
            refine hz_callV (k := 2) (As := [.int x6, .int (6 : Int32)]) (st := [.int x1]) (S1 := fun r => .int r :: [.int x1]) (n := 58) hC (c_X8_flat l x6 (6 : Int32)   M13) kv_X8_flat wd_3_181 hI dL_hasFlats_55 rfl (hI.2 0 (by decide)) he_X8 rfl rfl rfl (Nat.le_of_ble_eq_true rfl) ⟨Nat.le_of_ble_eq_true rfl, Nat.le_of_ble_eq_true rfl⟩ ⟨Nat.zero_le _, Nat.zero_le _⟩ (fun _ => rfl) rfl (fun r14 M14 _ => ?_)
            refine hz_iadd (n := 59) hC dL_hasFlats_58 rfl ?_
            refine hz_istore_n (L' := [(1, .int (x1 + r14)), (0, .ref (adr 12 0)), (2, .int x2), (3, .int x3), (4, .int x4), (5, .int x5), (6, .int x6)]) (n := 60) hC dL_hasFlats_59 rfl (by decide) rfl rfl ?_
            refine hz_iload_n (a := 2) (n := 61) hC dL_hasFlats_60 rfl rfl rfl ?_
            refine hz_aload_n (a := 1) (n := 62) hC dL_hasFlats_61 rfl rfl rfl ?_
            refine hz_iload (a := 6) (n := 64) hC dL_hasFlats_62 rfl rfl ?_
            refine hz_bipush (v := (9 : Int32)) (n := 66) hC dL_hasFlats_64 (by decide +kernel) rfl ?_
            refine hz_callV (k := 2) (As := [.int x6, .int (9 : Int32)]) (st := [.int x2]) (S1 := fun r => .int r :: [.int x2]) (n := 69) hC (c_X8_flat l x6 (9 : Int32)   M14) kv_X8_flat wd_3_181 hI dL_hasFlats_66 rfl (hI.2 0 (by decide)) he_X8 rfl rfl rfl (Nat.le_of_ble_eq_true rfl) ⟨Nat.le_of_ble_eq_true rfl, Nat.le_of_ble_eq_true rfl⟩ ⟨Nat.zero_le _, Nat.zero_le _⟩ (fun _ => rfl) rfl (fun r15 M15 _ => ?_)
            refine hz_iadd (n := 70) hC dL_hasFlats_69 rfl ?_
            refine hz_istore_n (L' := [(2, .int (x2 + r15)), (1, .int (x1 + r14)), (0, .ref (adr 12 0)), (3, .int x3), (4, .int x4), (5, .int x5), (6, .int x6)]) (n := 71) hC dL_hasFlats_70 rfl (by decide) rfl rfl ?_
            refine hz_iload_n (a := 3) (n := 72) hC dL_hasFlats_71 rfl rfl rfl ?_
            refine hz_aload_n (a := 2) (n := 73) hC dL_hasFlats_72 rfl rfl rfl ?_
            refine hz_iload (a := 6) (n := 75) hC dL_hasFlats_73 rfl rfl ?_
            refine hz_bipush (v := (7 : Int32)) (n := 77) hC dL_hasFlats_75 (by decide +kernel) rfl ?_
            refine hz_callV (k := 2) (As := [.int x6, .int (7 : Int32)]) (st := [.int x3]) (S1 := fun r => .int r :: [.int x3]) (n := 80) hC (c_X8_flat l x6 (7 : Int32)   M15) kv_X8_flat wd_3_181 hI dL_hasFlats_77 rfl (hI.2 0 (by decide)) he_X8 rfl rfl rfl (Nat.le_of_ble_eq_true rfl) ⟨Nat.le_of_ble_eq_true rfl, Nat.le_of_ble_eq_true rfl⟩ ⟨Nat.zero_le _, Nat.zero_le _⟩ (fun _ => rfl) rfl (fun r16 M16 _ => ?_)
            refine hz_iadd (n := 81) hC dL_hasFlats_80 rfl ?_
            refine hz_istore_n (L' := [(3, .int (x3 + r16)), (2, .int (x2 + r15)), (1, .int (x1 + r14)), (0, .ref (adr 12 0)), (4, .int x4), (5, .int x5), (6, .int x6)]) (n := 82) hC dL_hasFlats_81 rfl (by decide) rfl rfl ?_
            refine hz_iload (a := 4) (n := 84) hC dL_hasFlats_82 rfl rfl ?_
            refine hz_aload_n (a := 3) (n := 85) hC dL_hasFlats_84 rfl rfl rfl ?_
            refine hz_iload (a := 6) (n := 87) hC dL_hasFlats_85 rfl rfl ?_
            refine hz_bipush (v := (8 : Int32)) (n := 89) hC dL_hasFlats_87 (by decide +kernel) rfl ?_
            refine hz_callV (k := 2) (As := [.int x6, .int (8 : Int32)]) (st := [.int x4]) (S1 := fun r => .int r :: [.int x4]) (n := 92) hC (c_X8_flat l x6 (8 : Int32)   M16) kv_X8_flat wd_3_181 hI dL_hasFlats_89 rfl (hI.2 0 (by decide)) he_X8 rfl rfl rfl (Nat.le_of_ble_eq_true rfl) ⟨Nat.le_of_ble_eq_true rfl, Nat.le_of_ble_eq_true rfl⟩ ⟨Nat.zero_le _, Nat.zero_le _⟩ (fun _ => rfl) rfl (fun r17 M17 _ => ?_)
            refine hz_iadd (n := 93) hC dL_hasFlats_92 rfl ?_
            refine hz_istore (L' := [(4, .int (x4 + r17)), (3, .int (x3 + r16)), (2, .int (x2 + r15)), (1, .int (x1 + r14)), (0, .ref (adr 12 0)), (5, .int x5), (6, .int x6)]) (n := 95) hC dL_hasFlats_93 (by decide) rfl rfl ?_
            refine hz_iconst (v := (0 : Int32)) (n := 96) hC dL_hasFlats_95 (by decide +kernel) rfl ?_
            refine hz_istore (L' := [(7, .int (0 : Int32)), (4, .int (x4 + r17)), (3, .int (x3 + r16)), (2, .int (x2 + r15)), (1, .int (x1 + r14)), (0, .ref (adr 12 0)), (5, .int x5), (6, .int x6)]) (n := 98) hC dL_hasFlats_96 (by decide) rfl rfl ?_
            refine hz_L (L' := [(0, .ref (adr 12 0)), (1, .int (x1 + r14)), (2, .int (x2 + r15)), (3, .int (x3 + r16)), (4, .int (x4 + r17)), (5, .int x5), (6, .int x6), (7, .int (0 : Int32))]) [5, 4, 3, 2, 1, 6, 7, 0] rfl ?_
            exact l98 _ _ _ _ _ hp_fu _ _ _
          · refine hz_iconst (v := (0 : Int32)) (n := 48) hC dL_hasFlats_47 (by decide +kernel) rfl ?_
            exact hz_zret hC hr nz_0 dL_hasFlats_48
  refine hz_iconst (v := (0 : Int32)) (n := 1) hC dL_hasFlats_0 (by decide +kernel) rfl ?_
  refine hz_istore_n (L' := [(1, .int (0 : Int32)), (0, .ref (adr 12 0))]) (n := 2) hC dL_hasFlats_1 rfl (by decide) rfl rfl ?_
  refine hz_iconst (v := (0 : Int32)) (n := 3) hC dL_hasFlats_2 (by decide +kernel) rfl ?_
  refine hz_istore_n (L' := [(2, .int (0 : Int32)), (1, .int (0 : Int32)), (0, .ref (adr 12 0))]) (n := 4) hC dL_hasFlats_3 rfl (by decide) rfl rfl ?_
  refine hz_iconst (v := (0 : Int32)) (n := 5) hC dL_hasFlats_4 (by decide +kernel) rfl ?_
  refine hz_istore_n (L' := [(3, .int (0 : Int32)), (2, .int (0 : Int32)), (1, .int (0 : Int32)), (0, .ref (adr 12 0))]) (n := 6) hC dL_hasFlats_5 rfl (by decide) rfl rfl ?_
  refine hz_iconst (v := (0 : Int32)) (n := 7) hC dL_hasFlats_6 (by decide +kernel) rfl ?_
  refine hz_istore (L' := [(4, .int (0 : Int32)), (3, .int (0 : Int32)), (2, .int (0 : Int32)), (1, .int (0 : Int32)), (0, .ref (adr 12 0))]) (n := 9) hC dL_hasFlats_7 (by decide) rfl rfl ?_
  refine hz_iconst (v := (0 : Int32)) (n := 10) hC dL_hasFlats_9 (by decide +kernel) rfl ?_
  refine hz_istore (L' := [(5, .int (0 : Int32)), (4, .int (0 : Int32)), (3, .int (0 : Int32)), (2, .int (0 : Int32)), (1, .int (0 : Int32)), (0, .ref (adr 12 0))]) (n := 12) hC dL_hasFlats_10 (by decide) rfl rfl ?_
  refine hz_iconst (v := (0 : Int32)) (n := 13) hC dL_hasFlats_12 (by decide +kernel) rfl ?_
  refine hz_istore (L' := [(6, .int (0 : Int32)), (5, .int (0 : Int32)), (4, .int (0 : Int32)), (3, .int (0 : Int32)), (2, .int (0 : Int32)), (1, .int (0 : Int32)), (0, .ref (adr 12 0))]) (n := 15) hC dL_hasFlats_13 (by decide) rfl rfl ?_
  refine hz_L (L' := [(0, .ref (adr 12 0)), (1, .int (0 : Int32)), (2, .int (0 : Int32)), (3, .int (0 : Int32)), (4, .int (0 : Int32)), (5, .int (0 : Int32)), (6, .int (0 : Int32))]) [6, 5, 4, 3, 2, 1, 0] rfl ?_
  exact l15 hp_fu _ _ _ _ _ _ _
def F_L_holds  (M : hp_M) : Option (Int32 × hp_M) := (hp_b (F_X8_account (10 : Int32) M) (fun r1 M1 => (if r1 = 0 then (hp_b (F_X8_account (0 : Int32) M1) (fun r2 M2 => (hp_b (F_X8_size (1 : Int32) M2) (fun r3 M3 => (if r2 = r3 then (hp_b (F_X8_account (2 : Int32) M3) (fun r4 M4 => (hp_b (F_X8_account (1 : Int32) M4) (fun r5 M5 => (if r5 < r4 then (some ((0 : Int32), M5)) else (hp_b (F_X8_account (3 : Int32) M5) (fun r6 M6 => (hp_b (F_X8_account (0 : Int32) M6) (fun r7 M7 => (if r7 < r6 then (some ((0 : Int32), M7)) else (hp_b (F_L_hasPhone M7) (fun r8 M8 => (if r8 = 0 then (some ((0 : Int32), M8)) else (hp_b (F_L_hasFlats M8) (fun r9 M9 => (if r9 = 0 then (some ((0 : Int32), M9)) else (some ((1 : Int32), M9)))))))))))))))))) else (some ((0 : Int32), M3))))))) else (some ((0 : Int32), M1)))))
set_option maxRecDepth 20000 in
set_option maxHeartbeats 4000000 in
theorem c_L_holds (l : Launch)   (M : hp_M) : hp_Ct l yL_holds cL_holds 1 (some .boolean) 5 hp_IC (fun adr adV => [.ref (adr 12 0)]) hp_oi M (F_L_holds  M) := by
  refine hp_start "HallPhoneLaw" (fun adr adV => [(0, .ref (adr 12 0))]) (by decide) rfl (fun _ _ => by simp only [lg_sl]; exact Nat.le_of_ble_eq_true rfl) (fun _ _ => rfl) ?_
  intro p e s m args below meth c A D ids adr adV cA rep G0 hI hC hr
  unfold F_L_holds
  refine hz_aload_n (a := 0) (n := 1) hC dL_holds_0 rfl rfl rfl ?_
  refine hz_bipush (v := (10 : Int32)) (n := 3) hC dL_holds_1 (by decide +kernel) rfl ?_
  refine hz_callV (k := 1) (As := [.int (10 : Int32)]) (st := []) (S1 := fun r => .int r :: []) (n := 6) hC (c_X8_account l (10 : Int32)   M) kv_X8_account wd_3_233 hI dL_holds_3 rfl (hI.2 0 (by decide)) he_X8 rfl rfl rfl (Nat.le_of_ble_eq_true rfl) ⟨Nat.le_of_ble_eq_true rfl, Nat.le_of_ble_eq_true rfl⟩ ⟨Nat.zero_le _, Nat.zero_le _⟩ (fun _ => rfl) rfl (fun r1 M1 _ => ?_)
  refine hz_if_ne (tgt := 66) (n := 9) hC dL_holds_6 (by decide) rfl (fun _ => ?_) (fun _ => ?_)
  · refine hz_aload_n (a := 0) (n := 10) hC dL_holds_9 rfl rfl rfl ?_
    refine hz_iconst (v := (0 : Int32)) (n := 11) hC dL_holds_10 (by decide +kernel) rfl ?_
    refine hz_callV (k := 1) (As := [.int (0 : Int32)]) (st := []) (S1 := fun r => .int r :: []) (n := 14) hC (c_X8_account l (0 : Int32)   M1) kv_X8_account wd_3_233 hI dL_holds_11 rfl (hI.2 0 (by decide)) he_X8 rfl rfl rfl (Nat.le_of_ble_eq_true rfl) ⟨Nat.le_of_ble_eq_true rfl, Nat.le_of_ble_eq_true rfl⟩ ⟨Nat.zero_le _, Nat.zero_le _⟩ (fun _ => rfl) rfl (fun r2 M2 _ => ?_)
    refine hz_aload_n (a := 0) (n := 15) hC dL_holds_14 rfl rfl rfl ?_
    refine hz_iconst (v := (1 : Int32)) (n := 16) hC dL_holds_15 (by decide +kernel) rfl ?_
    refine hz_callV (k := 1) (As := [.int (1 : Int32)]) (st := [.int r2]) (S1 := fun r => .int r :: [.int r2]) (n := 19) hC (c_X8_size l (1 : Int32)   M2) kv_X8_size wd_3_151 hI dL_holds_16 rfl (hI.2 0 (by decide)) he_X8 rfl rfl rfl (Nat.le_of_ble_eq_true rfl) ⟨Nat.le_of_ble_eq_true rfl, Nat.le_of_ble_eq_true rfl⟩ ⟨Nat.zero_le _, Nat.zero_le _⟩ (fun _ => rfl) rfl (fun r3 M3 _ => ?_)
    refine hz_icmp_ne (tgt := 66) (n := 22) hC dL_holds_19 (by decide) rfl (fun _ => ?_) (fun _ => ?_)
    · refine hz_aload_n (a := 0) (n := 23) hC dL_holds_22 rfl rfl rfl ?_
      refine hz_iconst (v := (2 : Int32)) (n := 24) hC dL_holds_23 (by decide +kernel) rfl ?_
      refine hz_callV (k := 1) (As := [.int (2 : Int32)]) (st := []) (S1 := fun r => .int r :: []) (n := 27) hC (c_X8_account l (2 : Int32)   M3) kv_X8_account wd_3_233 hI dL_holds_24 rfl (hI.2 0 (by decide)) he_X8 rfl rfl rfl (Nat.le_of_ble_eq_true rfl) ⟨Nat.le_of_ble_eq_true rfl, Nat.le_of_ble_eq_true rfl⟩ ⟨Nat.zero_le _, Nat.zero_le _⟩ (fun _ => rfl) rfl (fun r4 M4 _ => ?_)
      refine hz_aload_n (a := 0) (n := 28) hC dL_holds_27 rfl rfl rfl ?_
      refine hz_iconst (v := (1 : Int32)) (n := 29) hC dL_holds_28 (by decide +kernel) rfl ?_
      refine hz_callV (k := 1) (As := [.int (1 : Int32)]) (st := [.int r4]) (S1 := fun r => .int r :: [.int r4]) (n := 32) hC (c_X8_account l (1 : Int32)   M4) kv_X8_account wd_3_233 hI dL_holds_29 rfl (hI.2 0 (by decide)) he_X8 rfl rfl rfl (Nat.le_of_ble_eq_true rfl) ⟨Nat.le_of_ble_eq_true rfl, Nat.le_of_ble_eq_true rfl⟩ ⟨Nat.zero_le _, Nat.zero_le _⟩ (fun _ => rfl) rfl (fun r5 M5 _ => ?_)
      refine hz_icmp_gt (tgt := 66) (n := 35) hC dL_holds_32 (by decide) rfl (fun _ => ?_) (fun _ => ?_)
      · refine hz_iconst (v := (0 : Int32)) (n := 67) hC dL_holds_66 (by decide +kernel) rfl ?_
        exact hz_zret hC hr nz_0 dL_holds_67
      · refine hz_aload_n (a := 0) (n := 36) hC dL_holds_35 rfl rfl rfl ?_
        refine hz_iconst (v := (3 : Int32)) (n := 37) hC dL_holds_36 (by decide +kernel) rfl ?_
        refine hz_callV (k := 1) (As := [.int (3 : Int32)]) (st := []) (S1 := fun r => .int r :: []) (n := 40) hC (c_X8_account l (3 : Int32)   M5) kv_X8_account wd_3_233 hI dL_holds_37 rfl (hI.2 0 (by decide)) he_X8 rfl rfl rfl (Nat.le_of_ble_eq_true rfl) ⟨Nat.le_of_ble_eq_true rfl, Nat.le_of_ble_eq_true rfl⟩ ⟨Nat.zero_le _, Nat.zero_le _⟩ (fun _ => rfl) rfl (fun r6 M6 _ => ?_)
        refine hz_aload_n (a := 0) (n := 41) hC dL_holds_40 rfl rfl rfl ?_
        refine hz_iconst (v := (0 : Int32)) (n := 42) hC dL_holds_41 (by decide +kernel) rfl ?_
        refine hz_callV (k := 1) (As := [.int (0 : Int32)]) (st := [.int r6]) (S1 := fun r => .int r :: [.int r6]) (n := 45) hC (c_X8_account l (0 : Int32)   M6) kv_X8_account wd_3_233 hI dL_holds_42 rfl (hI.2 0 (by decide)) he_X8 rfl rfl rfl (Nat.le_of_ble_eq_true rfl) ⟨Nat.le_of_ble_eq_true rfl, Nat.le_of_ble_eq_true rfl⟩ ⟨Nat.zero_le _, Nat.zero_le _⟩ (fun _ => rfl) rfl (fun r7 M7 _ => ?_)
        refine hz_icmp_gt (tgt := 66) (n := 48) hC dL_holds_45 (by decide) rfl (fun _ => ?_) (fun _ => ?_)
        · refine hz_iconst (v := (0 : Int32)) (n := 67) hC dL_holds_66 (by decide +kernel) rfl ?_
          exact hz_zret hC hr nz_0 dL_holds_67
        · refine hz_aload_n (a := 0) (n := 49) hC dL_holds_48 rfl rfl rfl ?_
          refine hz_callS (k := 1) (As := [.ref (adr 12 0)]) (st := []) (S1 := fun r => .int r :: []) (n := 52) hC (c_L_hasPhone l    M7) ks_L_hasPhone wd_4_92 hI dL_holds_49 rfl rfl rfl (Nat.le_of_ble_eq_true rfl) ⟨Nat.le_of_ble_eq_true rfl, Nat.le_of_ble_eq_true rfl⟩ ⟨Nat.zero_le _, Nat.zero_le _⟩ (fun _ => rfl) rfl (fun r8 M8 _ => ?_)
          refine hz_if_eq (tgt := 66) (n := 55) hC dL_holds_52 (by decide) rfl (fun _ => ?_) (fun _ => ?_)
          · refine hz_iconst (v := (0 : Int32)) (n := 67) hC dL_holds_66 (by decide +kernel) rfl ?_
            exact hz_zret hC hr nz_0 dL_holds_67
          · refine hz_aload_n (a := 0) (n := 56) hC dL_holds_55 rfl rfl rfl ?_
            refine hz_callS (k := 1) (As := [.ref (adr 12 0)]) (st := []) (S1 := fun r => .int r :: []) (n := 59) hC (c_L_hasFlats l    M8) ks_L_hasFlats wd_4_100 hI dL_holds_56 rfl rfl rfl (Nat.le_of_ble_eq_true rfl) ⟨Nat.le_of_ble_eq_true rfl, Nat.le_of_ble_eq_true rfl⟩ ⟨Nat.zero_le _, Nat.zero_le _⟩ (fun _ => rfl) rfl (fun r9 M9 _ => ?_)
            refine hz_if_eq (tgt := 66) (n := 62) hC dL_holds_59 (by decide) rfl (fun _ => ?_) (fun _ => ?_)
            · refine hz_iconst (v := (0 : Int32)) (n := 67) hC dL_holds_66 (by decide +kernel) rfl ?_
              exact hz_zret hC hr nz_0 dL_holds_67
            · refine hz_iconst (v := (1 : Int32)) (n := 63) hC dL_holds_62 (by decide +kernel) rfl ?_
              refine hz_goto (n := 67) hC dL_holds_63 (by decide) ?_
              exact hz_zret hC hr nz_1 dL_holds_67
    · refine hz_iconst (v := (0 : Int32)) (n := 67) hC dL_holds_66 (by decide +kernel) rfl ?_
      exact hz_zret hC hr nz_0 dL_holds_67
  · refine hz_iconst (v := (0 : Int32)) (n := 67) hC dL_holds_66 (by decide +kernel) rfl ?_
    exact hz_zret hC hr nz_0 dL_holds_67
