/-! ===== contracts over the memory, and the rows that use them ===== -/
def hp_b {ρ α : Type} (o : Option (ρ × hp_M)) (K : ρ → hp_M → Option α) : Option α := match o with
  | none => none
  | some q => K q.1 q.2
theorem hp_b_some {ρ α : Type} (r : ρ) (M : hp_M) (K : ρ → hp_M → Option α) : hp_b (some (r, M)) K = K r M := rfl
theorem hp_b_none {ρ α : Type} (K : ρ → hp_M → Option α) : hp_b none K = none := rfl
def hp_fu : Nat := 2000000
abbrev hp_av : Type := (Nat → Nat → Nat) → (Nat → Nat) → List Value
abbrev hp_ov (ρ : Type) : Type := (Nat → Nat → Nat) → (Nat → Nat) → ρ → Option Value
abbrev hp_oi : hp_ov Int32 := fun _ _ r => some (.int r)
abbrev hp_ol : hp_ov Int64 := fun _ _ r => some (.long r)
abbrev hp_oo : hp_ov Unit := fun _ _ _ => none
abbrev hp_oh : hp_ov Nat := fun adr _ r => some (.ref (adr r 0))
abbrev hp_oe : hp_ov Int32 := fun _ adV r => some (hp_vr adV r)
abbrev hp_rm (d : Nat) : Room := { frames := d, cells := 0, slots := 0, locals := 43 * d }
def hp_Pre (A : Nat → Prop) (D : va_G) (ids : List (Nat × Nat)) (adr : Nat → Nat → Nat) (adV cA : Nat → Nat) (M : hp_M) (rep : hp_T) (U : State) : Prop := hp_Tab A D adV cA U U.heap ∧ (∀ q : Nat, U.heap.size ≤ q → A q) ∧ hp_W A D ids adr adV cA M rep U.heap
theorem hp_blind {A : Nat → Prop} {D : va_G} {ids : List (Nat × Nat)} {adr : Nat → Nat → Nat} {adV cA : Nat → Nat} {M : hp_M} {rep : hp_T} {av : List Value} : FrameBlind (va_Pc av (hp_Pre A D ids adr adV cA M rep)) := by
  intro a U g mk ⟨h0, h1, h2, h3⟩
  refine ⟨h0, ?_, h2, h3⟩
  obtain ⟨u0, b0, q1, q2, q3, q4, q5, q6⟩ := h1
  exact ⟨u0, b0, q1, q2, q3, q4, va_K.moved (u := U) (U := U.calling g mk a) (Vm.Alike.refl U.vm) q5, q6⟩
def hp_Q {ρ : Type} (A : Nat → Prop) (D : va_G) (ids : List (Nat × Nat)) (adr : Nat → Nat → Nat) (adV cA : Nat → Nat) (rep : hp_T) (ov : hp_ov ρ) (G : Option (ρ × hp_M)) : Array Value → State → Outcome → State → Prop := fun _ st oc t => (∃ (r : ρ) (M' : hp_M), oc = .returned (ov adr adV r) ∧ G = some (r, M') ∧ hp_W A D ids adr adV cA M' rep t.heap) ∧ va_F A st t
/-- a method's contract: where its answer G is defined, it returns it, and the memory is as G says -/
def hp_Ct {ρ : Type} (l : Launch) (y : MethodName) (cc : ByteArray) (nL : Nat) (rt : Option FieldType) (d : Nat) (I : List (Nat × Nat) → Prop) (av : hp_av) (ov : hp_ov ρ) (M : hp_M) (G : Option (ρ × hp_M)) : Prop :=
  ∀ (A : Nat → Prop) (D : va_G) (ids : List (Nat × Nat)) (adr : Nat → Nat → Nat) (adV cA : Nat → Nat) (rep : hp_T), I ids → G ≠ none →
    Met l y [Cond.code y cc nL rt] (hp_rm d) (va_Pc (av adr adV) (hp_Pre A D ids adr adV cA M rep)) (hp_Q A D ids adr adV cA rep ov G) 0 0 A
theorem hp_start {ρ : Type} {l : Launch} {y : MethodName} {cc : ByteArray} {nL : Nat} {rt : Option FieldType} {d : Nat} {I : List (Nat × Nat) → Prop} {av : hp_av} {ov : hp_ov ρ} {M : hp_M} {G : Option (ρ × hp_M)} (own : String) (L0 : (Nat → Nat → Nat) → (Nat → Nat) → List (Nat × Value)) (hy : plainName y.cls = true) (hown : y.cls = own) (hlen : ∀ adr adV, (lg_sl (av adr adV)).length ≤ nL) (hL0 : ∀ adr adV, lv_args 0 (av adr adV) = L0 adr adV)
    (body : ∀ (p : Program) (e : Env) (s : State) (m : MethodId) (args : Array Value) (below : List Frame) (meth : Method) (c : Code) (A : Nat → Prop) (D : va_G) (ids : List (Nat × Nat)) (adr : Nat → Nat → Nat) (adV cA : Nat → Nat) (rep : hp_T) (G0 : Option (ρ × hp_M)), I ids → hp_Cx p s m meth c cc nL own A D adV cA G0 → meth.sig.returnType = rt →
      hp_Z p l e (hp_rm d) s m args below meth c nL A D ids adr adV cA 0 0 (MQ below (hp_Q A D ids adr adV cA rep ov G0) args s 0 0 A) G0 rep 0 (L0 adr adV) [] M G) : hp_Ct l y cc nL rt d I av ov M G := by
  intro A D ids adr adV cA rep hI hG
  refine Met.ofW (cc := cc) (maxL := nL) (ret := rt) hy rfl ?_
  intro p e s m args below meth c s₁ B hml hv
  obtain ⟨rfl, hT, hA, hW⟩ := hv
  have hl := lv_entry (av adr adV) (n := nL) (hlen adr adV)
  rw [hL0] at hl
  rw [lg_entry_eq]
  subst hown
  exact body p e s m _ below meth c A D ids adr adV cA rep G hI ⟨B.exec, B.bytes, hml, findClass_of_methodNamed B.named, hT, hA, B.notSynchronized, hG⟩ B.returns s.heap [] _ rfl hW va_S.rf hl
/-- what the tables say of a method of an object -/
def hp_Kv (y : MethodName) (cc : ByteArray) (nL : Nat) (rt : Option FieldType) (k : Nat) : Prop := hp_ok (.instanceMethod y) ∧ hp_ok (.selects y.cls y y) ∧ hp_ok (.initialized y.cls) ∧ hp_ok (.code y cc nL rt) ∧ (y.cls ≠ "java/lang/invoke/MethodHandle" ∧ y.cls ≠ "java/lang/invoke/VarHandle" ∧ (parseMethodDescriptor y.desc).map (fun d => d.parameters.length) = some k) ∧ nL ≤ 24
def hp_Ks (y : MethodName) (cc : ByteArray) (nL : Nat) (rt : Option FieldType) (k : Nat) : Prop := hp_ok (.static y) ∧ hp_ok (.initialized y.cls) ∧ hp_ok (.code y cc nL rt) ∧ (y.cls ≠ "java/lang/invoke/MethodHandle" ∧ y.cls ≠ "java/lang/invoke/VarHandle" ∧ (parseMethodDescriptor y.desc).map (fun d => d.parameters.length) = some k) ∧ nL ≤ 24
section HPC
variable {p : Program} {l : Launch} {e : Env} {R : Room} {s : State} {m : MethodId} {args : Array Value} {below : List Frame} {meth : Method} {c : Code} {cells slots : Nat} {Q : State → Prop}
variable {cc : ByteArray} {nL : Nat} {own : String} {A : Nat → Prop} {D : va_G} {ids : List (Nat × Nat)} {adr : Nat → Nat → Nat} {adV cA : Nat → Nat} {α ρ : Type} {G0 G : Option α} {M : hp_M} {rep : hp_T} {pc n : Nat} {L : List (Nat × Value)} {st : List Value} {H : Heap} {locs : List Loc}
theorem hp_callR {ov : hp_ov ρ} {G1 : Option (ρ × hp_M)} {ls : Array Slot} {st0 : List Value} {a : Array Value} (hr : va_Run p l e R s m args below meth c H locs cells slots 0 0 (F0 m pc ls st0) st (hp_Q A D ids adr adV cA rep ov G1 a) A) (hS : va_S A s.heap H locs)
    (kk : ∀ (r : ρ) (M' : hp_M) (H1 : Heap) (locs1 : List Loc), G1 = some (r, M') → hp_W A D ids adr adV cA M' rep H1 → va_S A s.heap H1 locs1 → W p l e R s m args below meth c H1 locs1 cells slots Q (F0 m (pc + 3) ls ((ov adr adV r).toList ++ st))) : W p l e R s m args below meth c H locs cells slots Q (F0 m pc ls st0) := by
  intro T hT X
  obtain ⟨v, st₀, t, T', L, h0, X', hL, e1, e2, ⟨⟨r, M', hv, hg, hw⟩, hz, hk⟩, st⟩ := hr T hT X
  cases hv
  rw [h0] at hz hk
  obtain ⟨t2, a1, b1⟩ := kk r M' T'.heap (locs ++ L) hg (by rw [e1]; exact hw)
    ⟨Nat.le_trans hS.1 (by rw [e1]; exact hz), fun q h1 h2 => by rw [e1, hk q (Nat.lt_of_lt_of_le h1 hS.1) h2]; exact hS.2.1 q h1 h2, fun q hq => by
      rcases List.mem_append.mp hq with h | h
      · exact hS.2.2 q h
      · exact hL q h⟩ T' rfl X'
  exact ⟨t2, st t2 a1, b1⟩
theorem hp_pre (hC : hp_Cx p s m meth c cc nL own A D adV cA G0) (hS : va_S A s.heap H locs) (hW : hp_W A D ids adr adV cA M rep H) {av : List Value} {aa : Array Value} (hav : aa = av.toArray) (U : State) (hU : U.heap = H) (hWm : s.WarmedH U.vm) : va_Pc av (hp_Pre A D ids adr adV cA M rep) aa U := by
  refine ⟨hav, ?_, fun q hq => hC.2.2.2.2.2.1 q (Nat.le_trans hS.1 (by rw [← hU]; exact hq)), by rw [hU]; exact hW⟩
  exact hC.2.2.2.2.1.move hWm (fun q h1 h2 => by rw [hU]; exact hS.2.1 q h1 h2)
theorem hp_CB {y : MethodName} {cc1 : ByteArray} {nL1 k d1 idx : Nat} {rt1 : Option FieldType} (hT : hp_Tab A D adV cA s H) (hini : hp_ok (.initialized y.cls)) (hco : hp_ok (.code y cc1 nL1 rt1)) (hd : y.cls ≠ "java/lang/invoke/MethodHandle" ∧ y.cls ≠ "java/lang/invoke/VarHandle" ∧ (parseMethodDescriptor y.desc).map (fun d => d.parameters.length) = some k) (hx : nL1 ≤ 24) (hl : hp_ok (.methodLink own idx y)) (hR : d1 + 1 ≤ R.frames ∧ 43 * d1 + 43 ≤ R.locals) : CallB R s args own idx y cc1 nL1 rt1 [Cond.code y cc1 nL1 rt1] (hp_rm d1) 0 0 k := by
  refine ⟨rfl, rfl, hR.1, ?_, fun w hw a' U hWm => ?_, List.mem_cons_self, hp_wd hT hco args, hp_wd hT hini args, ⟨hd.1, hd.2.1⟩, fun sig h => ?_, hp_wd hT hl args⟩
  · show 8 + (nL1 + 11) + 43 * d1 ≤ R.locals
    omega
  · rcases List.mem_singleton.mp hw with rfl
    exact word_at hWm (good_of_word hco.2) (hp_wd hT hco args)
  · have h2 := hd.2.2
    rw [h] at h2
    exact (Option.some.inj h2).symm

theorem hp_CN {y : MethodName} {cc1 : ByteArray} {nL1 k d1 idx : Nat} {host : String} {rt1 : Option FieldType} (hT : hp_Tab A D adV cA s H) (hini : hp_ok (.initialized y.cls)) (hco : hp_ok (.code y cc1 nL1 rt1)) (hd : y.cls ≠ "java/lang/invoke/MethodHandle" ∧ y.cls ≠ "java/lang/invoke/VarHandle" ∧ (parseMethodDescriptor y.desc).map (fun d => d.parameters.length) = some k) (hx : nL1 ≤ 24) (hl : Cond.methodLinkNest own idx y host ∈ lw_tbl) (hR : d1 + 1 ≤ R.frames ∧ 43 * d1 + 43 ≤ R.locals) : va_CN R s args own idx y host cc1 nL1 rt1 [Cond.code y cc1 nL1 rt1] (hp_rm d1) 0 0 k := by
  refine ⟨⟨rfl, rfl, hR.1, ?_, fun w hw a' U hWm => ?_, List.mem_cons_self⟩, hp_wd hT hco args, hp_wd hT hini args, ⟨hd.1, hd.2.1⟩, fun sig h => ?_, va_Nw.use rfl (hp_wdM hT hl)⟩
  · show 8 + (nL1 + 11) + 43 * d1 ≤ R.locals
    omega
  · rcases List.mem_singleton.mp hw with rfl
    exact word_at hWm (good_of_word hco.2) (hp_wd hT hco args)
  · have h2 := hd.2.2
    rw [h] at h2
    exact (Option.some.inj h2).symm
theorem hz_callV (hC : hp_Cx p s m meth c cc nL own A D adV cA G0) {y : MethodName} {cc1 : ByteArray} {nL1 k d1 idx : Nat} {rt1 : Option FieldType} {I : List (Nat × Nat) → Prop} {av : hp_av} {ov : hp_ov ρ} {G1 : Option (ρ × hp_M)} {K : ρ → hp_M → Option α} {As st0 : List Value} {S1 : ρ → List Value} {g j ci N : Nat} {T : u_T} {F : (Nat → Int32) → List Value} (hct : hp_Ct l y cc1 nL1 rt1 d1 I av ov M G1) (hk : hp_Kv y cc1 nL1 rt1 k) (hl : hp_ok (.methodLink own idx y)) (hI : I ids) (hdg : decode cc pc = .ok (.invokevirtual idx, 3)) (hav : av adr adV = .ref (adr g j) :: As) (hq : (g, j) ∈ ids) (he : ∀ f : Nat → Int32, hp_c adr adV cA g j f = .inr (ci, F f)) (hc : vwCl[ci]? = some (y.cls, T, N)) (hlen : As.length = k) (hst : st0 = As.reverse ++ .ref (adr g j) :: st) (hcat : (st.map fun v => v.category).sum ≤ 8) (hR : d1 + 1 ≤ R.frames ∧ 43 * d1 + 43 ≤ R.locals) (hf : cells + 0 ≤ R.cells ∧ slots + 0 ≤ R.slots) (hs1 : ∀ r, (ov adr adV r).toList ++ st = S1 r) (hn : pc + 3 = n) (kk : ∀ (r : ρ) (M' : hp_M), G1 = some (r, M') → hp_Z p l e R s m args below meth c nL A D ids adr adV cA cells slots Q G0 rep n L (S1 r) M' (K r M')) : hp_Z p l e R s m args below meth c nL A D ids adr adV cA cells slots Q G0 rep pc L st0 M (hp_b G1 K) := by
  subst hn
  intro H locs ls hG hW hS hL
  have hne : G1 ≠ none := fun h => hC.2.2.2.2.2.2.2 (by rw [← hG, h]; rfl)
  obtain ⟨tl, hsb, hP, hD⟩ := id hW
  obtain ⟨q, hq2, -⟩ := hp_wl_at hD hq
  rw [he] at hq2
  obtain ⟨u0, b0, -, -, -, -, hK, -⟩ := id hC.2.2.2.2.1
  have hT := hC.2.2.2.2.1
  exact hp_callR (va_runV (As := As) (rest := st) ⟨hC.1, hC.2.1, hC.2.2.1, hC.2.2.2.1, fun w h => absurd h List.not_mem_nil⟩ (Ts := []) (hct A D ids adr adV cA rep hI hne) ⟨hp_CB hT hk.2.2.1 hk.2.2.2.1 hk.2.2.2.2.1 hk.2.2.2.2.2 hl hR, hp_wd hT hk.1 args, hp_wd hT hk.2.1 args⟩ ⟨hp_blind, va_recv hK hP hc hq2, hp_pre hC hS hW (by rw [hav])⟩ rfl hlen hL.1 hst (lv_room hcat) hdg hf) hS (fun r M' H1 locs1 hg hw1 hS1 => by rw [hs1]; exact kk r M' hg H1 locs1 ls (by rw [← hG, hg]; rfl) hw1 hS1 hL)
theorem hz_callVN (hC : hp_Cx p s m meth c cc nL own A D adV cA G0) {y : MethodName} {cc1 : ByteArray} {nL1 k d1 idx : Nat} {rt1 : Option FieldType} {I : List (Nat × Nat) → Prop} {av : hp_av} {ov : hp_ov ρ} {G1 : Option (ρ × hp_M)} {K : ρ → hp_M → Option α} {As st0 : List Value} {S1 : ρ → List Value} {g j ci N : Nat} {T : u_T} {F : (Nat → Int32) → List Value} (hct : hp_Ct l y cc1 nL1 rt1 d1 I av ov M G1) (hk : hp_Kv y cc1 nL1 rt1 k) {host : String} (hl : Cond.methodLinkNest own idx y host ∈ lw_tbl) (hI : I ids) (hdg : decode cc pc = .ok (.invokevirtual idx, 3)) (hav : av adr adV = .ref (adr g j) :: As) (hq : (g, j) ∈ ids) (he : ∀ f : Nat → Int32, hp_c adr adV cA g j f = .inr (ci, F f)) (hc : vwCl[ci]? = some (y.cls, T, N)) (hlen : As.length = k) (hst : st0 = As.reverse ++ .ref (adr g j) :: st) (hcat : (st.map fun v => v.category).sum ≤ 8) (hR : d1 + 1 ≤ R.frames ∧ 43 * d1 + 43 ≤ R.locals) (hf : cells + 0 ≤ R.cells ∧ slots + 0 ≤ R.slots) (hs1 : ∀ r, (ov adr adV r).toList ++ st = S1 r) (hn : pc + 3 = n) (kk : ∀ (r : ρ) (M' : hp_M), G1 = some (r, M') → hp_Z p l e R s m args below meth c nL A D ids adr adV cA cells slots Q G0 rep n L (S1 r) M' (K r M')) : hp_Z p l e R s m args below meth c nL A D ids adr adV cA cells slots Q G0 rep pc L st0 M (hp_b G1 K) := by
  subst hn
  intro H locs ls hG hW hS hL
  have hne : G1 ≠ none := fun h => hC.2.2.2.2.2.2.2 (by rw [← hG, h]; rfl)
  obtain ⟨tl, hsb, hP, hD⟩ := id hW
  obtain ⟨q, hq2, -⟩ := hp_wl_at hD hq
  rw [he] at hq2
  obtain ⟨u0, b0, -, -, -, -, hK, -⟩ := id hC.2.2.2.2.1
  have hT := hC.2.2.2.2.1
  exact hp_callR (va_runVN (As := As) (rest := st) (host := host) ⟨hC.1, hC.2.1, hC.2.2.1, hC.2.2.2.1, fun w h => absurd h List.not_mem_nil⟩ (Ts := []) (hct A D ids adr adV cA rep hI hne) ⟨hp_CN hT hk.2.2.1 hk.2.2.2.1 hk.2.2.2.2.1 hk.2.2.2.2.2 hl hR, hp_wd hT hk.1 args, hp_wd hT hk.2.1 args⟩ ⟨hp_blind, va_recv hK hP hc hq2, hp_pre hC hS hW (by rw [hav])⟩ rfl hlen hL.1 hst (lv_room hcat) hdg hf) hS (fun r M' H1 locs1 hg hw1 hS1 => by rw [hs1]; exact kk r M' hg H1 locs1 ls (by rw [← hG, hg]; rfl) hw1 hS1 hL)
theorem hz_callS (hC : hp_Cx p s m meth c cc nL own A D adV cA G0) {y : MethodName} {cc1 : ByteArray} {nL1 k d1 idx : Nat} {rt1 : Option FieldType} {I : List (Nat × Nat) → Prop} {av : hp_av} {ov : hp_ov ρ} {G1 : Option (ρ × hp_M)} {K : ρ → hp_M → Option α} {As st0 : List Value} {S1 : ρ → List Value} (hct : hp_Ct l y cc1 nL1 rt1 d1 I av ov M G1) (hk : hp_Ks y cc1 nL1 rt1 k) (hl : hp_ok (.methodLink own idx y)) (hI : I ids) (hdg : decode cc pc = .ok (.invokestatic idx, 3)) (hav : av adr adV = As) (hlen : As.length = k) (hst : st0 = As.reverse ++ st) (hcat : (st.map fun v => v.category).sum ≤ 8) (hR : d1 + 1 ≤ R.frames ∧ 43 * d1 + 43 ≤ R.locals) (hf : cells + 0 ≤ R.cells ∧ slots + 0 ≤ R.slots) (hs1 : ∀ r, (ov adr adV r).toList ++ st = S1 r) (hn : pc + 3 = n) (kk : ∀ (r : ρ) (M' : hp_M), G1 = some (r, M') → hp_Z p l e R s m args below meth c nL A D ids adr adV cA cells slots Q G0 rep n L (S1 r) M' (K r M')) : hp_Z p l e R s m args below meth c nL A D ids adr adV cA cells slots Q G0 rep pc L st0 M (hp_b G1 K) := by
  subst hn
  intro H locs ls hG hW hS hL
  have hne : G1 ≠ none := fun h => hC.2.2.2.2.2.2.2 (by rw [← hG, h]; rfl)
  have hT := hC.2.2.2.2.1
  exact hp_callR (va_runS (As := As) (rest := st) ⟨hC.1, hC.2.1, hC.2.2.1, hC.2.2.2.1, fun w h => absurd h List.not_mem_nil⟩ (Ts := []) (hct A D ids adr adV cA rep hI hne) ⟨hp_CB hT hk.2.1 hk.2.2.1 hk.2.2.2.1 hk.2.2.2.2 hl hR, hp_wd hT hk.1 args⟩ ⟨hp_blind, hp_pre hC hS hW (by rw [hav])⟩ rfl hlen hL.1 hst (lv_room hcat) hdg hf) hS (fun r M' H1 locs1 hg hw1 hS1 => by rw [hs1]; exact kk r M' hg H1 locs1 ls (by rw [← hG, hg]; rfl) hw1 hS1 hL)
theorem hz_callSN (hC : hp_Cx p s m meth c cc nL own A D adV cA G0) {y : MethodName} {cc1 : ByteArray} {nL1 k d1 idx : Nat} {rt1 : Option FieldType} {I : List (Nat × Nat) → Prop} {av : hp_av} {ov : hp_ov ρ} {G1 : Option (ρ × hp_M)} {K : ρ → hp_M → Option α} {As st0 : List Value} {S1 : ρ → List Value} (hct : hp_Ct l y cc1 nL1 rt1 d1 I av ov M G1) (hk : hp_Ks y cc1 nL1 rt1 k) {host : String} (hl : Cond.methodLinkNest own idx y host ∈ lw_tbl) (hI : I ids) (hdg : decode cc pc = .ok (.invokestatic idx, 3)) (hav : av adr adV = As) (hlen : As.length = k) (hst : st0 = As.reverse ++ st) (hcat : (st.map fun v => v.category).sum ≤ 8) (hR : d1 + 1 ≤ R.frames ∧ 43 * d1 + 43 ≤ R.locals) (hf : cells + 0 ≤ R.cells ∧ slots + 0 ≤ R.slots) (hs1 : ∀ r, (ov adr adV r).toList ++ st = S1 r) (hn : pc + 3 = n) (kk : ∀ (r : ρ) (M' : hp_M), G1 = some (r, M') → hp_Z p l e R s m args below meth c nL A D ids adr adV cA cells slots Q G0 rep n L (S1 r) M' (K r M')) : hp_Z p l e R s m args below meth c nL A D ids adr adV cA cells slots Q G0 rep pc L st0 M (hp_b G1 K) := by
  subst hn
  intro H locs ls hG hW hS hL
  have hne : G1 ≠ none := fun h => hC.2.2.2.2.2.2.2 (by rw [← hG, h]; rfl)
  have hT := hC.2.2.2.2.1
  exact hp_callR (va_runSN (As := As) (rest := st) (host := host) ⟨hC.1, hC.2.1, hC.2.2.1, hC.2.2.2.1, fun w h => absurd h List.not_mem_nil⟩ (Ts := []) (hct A D ids adr adV cA rep hI hne) ⟨hp_CN hT hk.2.1 hk.2.2.1 hk.2.2.2.1 hk.2.2.2.2 hl hR, hp_wd hT hk.1 args, trivial⟩ ⟨hp_blind, hp_pre hC hS hW (by rw [hav])⟩ rfl hlen hL.1 hst (lv_room hcat) hdg hf) hS (fun r M' H1 locs1 hg hw1 hS1 => by rw [hs1]; exact kk r M' hg H1 locs1 ls (by rw [← hG, hg]; rfl) hw1 hS1 hL)
theorem hz_iret {G0 : Option (Int32 × hp_M)} (hC : hp_Cx p s m meth c cc nL own A D adV cA G0) {v : Int32} (hr : meth.sig.returnType = some .int) (hdg : decode cc pc = .ok (.ireturn, 1)) : hp_Z p l e R s m args below meth c nL A D ids adr adV cA cells slots (MQ below (hp_Q A D ids adr adV cA rep hp_oi G0) args s cells slots A) G0 rep pc L [.int v] M (some (v, M)) := by
  intro H locs ls hG hW hS hL
  have hlocks := hC.2.2.2.2.2.2.1
  exact W.iret hC.1 hC.2.1 hr (fun t ht hWm => ⟨⟨v, M, rfl, hG.symm, by rw [ht]; exact hW⟩, hS.F ht⟩) hS.2.2 hdg hlocks
theorem hz_zret {G0 : Option (Int32 × hp_M)} (hC : hp_Cx p s m meth c cc nL own A D adV cA G0) {v : Int32} {ty : FieldType} (hr : meth.sig.returnType = some ty) (hv : narrow ty (.int v) = .int v) (hdg : decode cc pc = .ok (.ireturn, 1)) : hp_Z p l e R s m args below meth c nL A D ids adr adV cA cells slots (MQ below (hp_Q A D ids adr adV cA rep hp_oi G0) args s cells slots A) G0 rep pc L [.int v] M (some (v, M)) := by
  intro H locs ls hG hW hS hL
  have hlocks := hC.2.2.2.2.2.2.1
  exact W.zret hC.1 hC.2.1 hr hv (fun t ht hWm => ⟨⟨v, M, rfl, hG.symm, by rw [ht]; exact hW⟩, hS.F ht⟩) hS.2.2 hdg hlocks
theorem hz_lret {G0 : Option (Int64 × hp_M)} (hC : hp_Cx p s m meth c cc nL own A D adV cA G0) {v : Int64} (hr : meth.sig.returnType = some .long) (hdg : decode cc pc = .ok (.lreturn, 1)) : hp_Z p l e R s m args below meth c nL A D ids adr adV cA cells slots (MQ below (hp_Q A D ids adr adV cA rep hp_ol G0) args s cells slots A) G0 rep pc L [.long v] M (some (v, M)) := by
  intro H locs ls hG hW hS hL
  have hlocks := hC.2.2.2.2.2.2.1
  exact W.lret hC.1 hC.2.1 hr (fun t ht hWm => ⟨⟨v, M, rfl, hG.symm, by rw [ht]; exact hW⟩, hS.F ht⟩) hS.2.2 hdg hlocks
theorem hz_vret {G0 : Option (Unit × hp_M)} (hC : hp_Cx p s m meth c cc nL own A D adV cA G0)  (hr : meth.sig.returnType = none) (hdg : decode cc pc = .ok (.return_, 1)) : hp_Z p l e R s m args below meth c nL A D ids adr adV cA cells slots (MQ below (hp_Q A D ids adr adV cA rep hp_oo G0) args s cells slots A) G0 rep pc L [] M (some ((), M)) := by
  intro H locs ls hG hW hS hL
  have hlocks := hC.2.2.2.2.2.2.1
  exact W.vret hC.1 hC.2.1 hr (fun t ht hWm => ⟨⟨(), M, rfl, hG.symm, by rw [ht]; exact hW⟩, hS.F ht⟩) hS.2.2 hdg hlocks
theorem hz_hret {G0 : Option (Nat × hp_M)} (hC : hp_Cx p s m meth c cc nL own A D adV cA G0) {g : Nat} {ty : FieldType} (hr : meth.sig.returnType = some ty) (hrt : (∃ n, ty = .object n) ∨ ∃ t, ty = .array t) (hdg : decode cc pc = .ok (.areturn, 1)) : hp_Z p l e R s m args below meth c nL A D ids adr adV cA cells slots (MQ below (hp_Q A D ids adr adV cA rep hp_oh G0) args s cells slots A) G0 rep pc L [.ref (adr g 0)] M (some (g, M)) := by
  intro H locs ls hG hW hS hL
  have hlocks := hC.2.2.2.2.2.2.1
  exact W.aret hC.1 hC.2.1 hr hrt (Or.inr ⟨_, rfl⟩) (fun t ht hWm => ⟨⟨g, M, rfl, hG.symm, by rw [ht]; exact hW⟩, hS.F ht⟩) hS.2.2 hdg hlocks
theorem hz_eret {G0 : Option (Int32 × hp_M)} (hC : hp_Cx p s m meth c cc nL own A D adV cA G0) {x : Int32} {ty : FieldType} (hr : meth.sig.returnType = some ty) (hrt : (∃ n, ty = .object n) ∨ ∃ t, ty = .array t) (hdg : decode cc pc = .ok (.areturn, 1)) : hp_Z p l e R s m args below meth c nL A D ids adr adV cA cells slots (MQ below (hp_Q A D ids adr adV cA rep hp_oe G0) args s cells slots A) G0 rep pc L [hp_vr adV x] M (some (x, M)) := by
  intro H locs ls hG hW hS hL
  have hlocks := hC.2.2.2.2.2.2.1
  exact W.aret hC.1 hC.2.1 hr hrt (by unfold hp_vr; split; exact Or.inl rfl; exact Or.inr ⟨_, rfl⟩) (fun t ht hWm => ⟨⟨x, M, rfl, hG.symm, by rw [ht]; exact hW⟩, hS.F ht⟩) hS.2.2 hdg hlocks
theorem hz_bret {G0 : Option (Int32 × hp_M)} (hC : hp_Cx p s m meth c cc nL own A D adV cA G0) {v : Int32} {d : Decidable (v = 0 ∨ v = 1)} (hr : meth.sig.returnType = some .boolean) (hdg : decode cc pc = .ok (.ireturn, 1)) : hp_Z p l e R s m args below meth c nL A D ids adr adV cA cells slots (MQ below (hp_Q A D ids adr adV cA rep hp_oi G0) args s cells slots A) G0 rep pc L [.int v] M (@ite (Option (Int32 × hp_M)) (v = 0 ∨ v = 1) d (some (v, M)) none) := hz_case (fun h => hz_zret hC hr (by rcases h with rfl | rfl <;> rfl) hdg) (fun _ => hz_none hC)
theorem hz_ialdc (hC : hp_Cx p s m meth c cc nL own A D adV cA G0) {g j len k : Nat} {i : Int32} (hi : i.toNatClampNeg = k) (h0 : ¬ (i < 0 ∨ len ≤ k)) (hdg : decode cc pc = .ok (.iaload, 1)) (hq : (g, j) ∈ ids) (he : ∀ f : Nat → Int32, hp_c adr adV cA g j f = .inl (cA 0, len, .inl f)) (hn : pc + 1 = n) (kk : hp_Z p l e R s m args below meth c nL A D ids adr adV cA cells slots Q G0 rep n L (.int (M g j k) :: st) M G) : hp_Z p l e R s m args below meth c nL A D ids adr adV cA cells slots Q G0 rep pc L (.int i :: .ref (adr g j) :: st) M G := by
  subst hi
  intro H locs ls hG
  exact hz_iald (d := Classical.propDecidable _) hC hdg hq he hn (fun _ => kk) H locs ls (by rw [if_neg h0]; exact hG)
theorem hz_iastc (hC : hp_Cx p s m meth c cc nL own A D adV cA G0) {g j len k : Nat} {i x : Int32} (hi : i.toNatClampNeg = k) (h0 : ¬ (i < 0 ∨ len ≤ k)) (hdg : decode cc pc = .ok (.iastore, 1)) (hq : (g, j) ∈ ids) (he : ∀ f : Nat → Int32, hp_c adr adV cA g j f = .inl (cA 0, len, .inl f)) (hn : pc + 1 = n) (kk : hp_Z p l e R s m args below meth c nL A D ids adr adV cA cells slots Q G0 rep n L st (hp_p M g j k x) G) : hp_Z p l e R s m args below meth c nL A D ids adr adV cA cells slots Q G0 rep pc L (.int x :: .int i :: .ref (adr g j) :: st) M G := by
  subst hi
  intro H locs ls hG
  exact hz_iast (d := Classical.propDecidable _) hC hdg hq he hn (fun _ => kk) H locs ls (by rw [if_neg h0]; exact hG)
theorem nz_0 : narrow .boolean (.int 0) = .int 0 := rfl
theorem nz_1 : narrow .boolean (.int 1) = .int 1 := rfl
theorem nz_b {v : Int32} (h : v = 0 ∨ v = 1) : narrow .boolean (.int v) = .int v := by rcases h with rfl | rfl <;> rfl
def hp_IC (ids : List (Nat × Nat)) : Prop := (∀ g j : Nat, g < 12 → j < 11 → (g, j) ∈ ids) ∧ ∀ j : Nat, j < 6 → (12, j) ∈ ids
theorem he_X2 {g : Nat} (hg : g < 12) (f : Nat → Int32) : hp_c adr adV cA g 0 f = .inr (2, hp_F5 adr g f) := hp_c_h hg 0 f
theorem he_X3 {g : Nat} (hg : g < 12) (f : Nat → Int32) : hp_c adr adV cA g 5 f = .inr (3, hp_F6 f) := hp_c_h hg 5 f
theorem he_X4 {g : Nat} (hg : g < 12) (f : Nat → Int32) : hp_c adr adV cA g 6 f = .inr (4, hp_F7 adr g f) := hp_c_h hg 6 f
theorem he_X6 {g : Nat} (hg : g < 12) (f : Nat → Int32) : hp_c adr adV cA g 8 f = .inr (6, hp_F9 adr g f) := hp_c_h hg 8 f
theorem he_X8 (f : Nat → Int32) : hp_c adr adV cA 12 0 f = .inr (8, hp_F11 adr f) := hp_c_p 0 f
theorem he_X5 (f : Nat → Int32) : hp_c adr adV cA 12 1 f = .inr (5, hp_F8 adr adV f) := hp_c_p 1 f
theorem he_X1 (f : Nat → Int32) : hp_c adr adV cA 12 4 f = .inr (1, hp_F4 adr f) := hp_c_p 4 f
theorem ha_h1 {g : Nat} (hg : g < 12) (f : Nat → Int32) : hp_c adr adV cA g 1 f = .inl (cA 0, 6, .inl f) := hp_c_h hg 1 f
theorem ha_h2 {g : Nat} (hg : g < 12) (f : Nat → Int32) : hp_c adr adV cA g 2 f = .inl (cA 0, 10, .inl f) := hp_c_h hg 2 f
theorem ha_h3 {g : Nat} (hg : g < 12) (f : Nat → Int32) : hp_c adr adV cA g 3 f = .inl (cA 0, 110, .inl f) := hp_c_h hg 3 f
theorem ha_h4 {g : Nat} (hg : g < 12) (f : Nat → Int32) : hp_c adr adV cA g 4 f = .inl (cA 0, 100, .inl f) := hp_c_h hg 4 f
theorem ha_h7 {g : Nat} (hg : g < 12) (f : Nat → Int32) : hp_c adr adV cA g 7 f = .inl (cA 0, 10, .inl f) := hp_c_h hg 7 f
theorem ha_h9 {g : Nat} (hg : g < 12) (f : Nat → Int32) : hp_c adr adV cA g 9 f = .inl (cA 0, 8, .inl f) := hp_c_h hg 9 f
theorem ha_h10 {g : Nat} (hg : g < 12) (f : Nat → Int32) : hp_c adr adV cA g 10 f = .inl (cA 0, 8, .inl f) := hp_c_h hg 10 f
theorem ha_p2 (f : Nat → Int32) : hp_c adr adV cA 12 2 f = .inl (cA 0, 700, .inl f) := hp_c_p 2 f
theorem ha_p3 (f : Nat → Int32) : hp_c adr adV cA 12 3 f = .inl (cA 0, 700, .inl f) := hp_c_p 3 f
theorem ha_p5 (f : Nat → Int32) : hp_c adr adV cA 12 5 f = .inl (cA 3, 8, .inr (.inr (.inr (.inr (hp_vh adr))))) := hp_c_p 5 f
end HPC
