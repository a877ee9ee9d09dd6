def hp_bx {ρ σ : Type} (o : Option ((ρ ⊕ Nat) × hp_M)) (K : ρ → hp_M → Option ((σ ⊕ Nat) × hp_M)) : Option ((σ ⊕ Nat) × hp_M) := match o with
  | none => none
  | some (.inl r, M) => K r M
  | some (.inr k, M) => some (.inr k, M)
theorem hp_bx_l {ρ σ : Type} (r : ρ) (M : hp_M) (K : ρ → hp_M → Option ((σ ⊕ Nat) × hp_M)) : hp_bx (some (.inl r, M)) K = K r M := rfl
theorem hp_bx_r {ρ σ : Type} (k : Nat) (M : hp_M) (K : ρ → hp_M → Option ((σ ⊕ Nat) × hp_M)) : hp_bx (some (.inr k, M)) K = some (.inr k, M) := rfl
def hp_en : Nat → String
  | 0 => "java/lang/IllegalArgumentException"
  | 1 => "java/lang/IndexOutOfBoundsException"
  | _ => "java/util/NoSuchElementException"
abbrev hp_rmX (d k : Nat) : Room := { frames := d, cells := k, slots := 6 * k, locals := 60 * d }
def hp_QX {ρ : Type} (A : Nat → Prop) (D : va_G) (ids : List (Nat × Nat)) (adr : Nat → Nat → Nat) (adV cA : Nat → Nat) (rep : hp_T) (ov : hp_ov ρ) (G : Option ((ρ ⊕ Nat) × hp_M)) : Array Value → State → Outcome → State → Prop := fun _ st oc t => (∃ (r : ρ) (M' : hp_M), oc = .returned (ov adr adV r) ∧ G = some (.inl r, M') ∧ hp_W A D ids adr adV cA M' rep t.heap) ∧ va_F A st t
def hp_XX {ρ : Type} (A : Nat → Prop) (D : va_G) (ids : List (Nat × Nat)) (adr : Nat → Nat → Nat) (adV cA : Nat → Nat) (rep : hp_T) (G : Option ((ρ ⊕ Nat) × hp_M)) : String → State → State → Prop := fun E st t => (∃ (k : Nat) (M' : hp_M), E = hp_en k ∧ G = some (.inr k, M') ∧ hp_W A D ids adr adV cA M' rep t.heap) ∧ va_F A st t
/-- a method that may throw: it returns, or throws a new thing of class k, as G says -/
def hp_CtX {ρ : Type} (l : Launch) (y : MethodName) (cc : ByteArray) (nL : Nat) (rt : Option FieldType) (d k : Nat) (I : List (Nat × Nat) → Prop) (av : hp_av) (ov : hp_ov ρ) (M : hp_M) (G : Option ((ρ ⊕ Nat) × hp_M)) : Prop :=
  ∀ (A : Nat → Prop) (D : va_G) (ids : List (Nat × Nat)) (adr : Nat → Nat → Nat) (adV cA : Nat → Nat) (rep : hp_T), I ids → G ≠ none →
    vx_Met l y [Cond.code y cc nL rt] (hp_rmX d k) (va_Pc (av adr adV) (hp_Pre A D ids adr adV cA M rep)) (hp_QX A D ids adr adV cA rep ov G) (hp_XX A D ids adr adV cA rep G) k (6 * k) A
theorem hp_startX {ρ : Type} {l : Launch} {y : MethodName} {cc : ByteArray} {nL : Nat} {rt : Option FieldType} {d k : Nat} {I : List (Nat × Nat) → Prop} {av : hp_av} {ov : hp_ov ρ} {M : hp_M} {G : Option ((ρ ⊕ Nat) × hp_M)} (own : String) (L0 : (Nat → Nat → Nat) → (Nat → Nat) → List (Nat × Value)) (hy : plainName y.cls = true) (hown : y.cls = own) (hlen : ∀ adr adV, (lg_sl (av adr adV)).length ≤ nL) (hL0 : ∀ adr adV, lv_args 0 (av adr adV) = L0 adr adV)
    (body : ∀ (p : Program) (e : Env) (s : State) (m : MethodId) (args : Array Value) (below : List Frame) (meth : Method) (c : Code) (A : Nat → Prop) (D : va_G) (ids : List (Nat × Nat)) (adr : Nat → Nat → Nat) (adV cA : Nat → Nat) (rep : hp_T) (G0 : Option ((ρ ⊕ Nat) × hp_M)), I ids → hp_Cx p s m meth c cc nL own A D adV cA G0 → meth.sig.returnType = rt → (∀ x ∈ c.exceptionTable.toList, False) →
      hp_Z p l e (hp_rmX d k) s m args below meth c nL A D ids adr adV cA 0 0 (vx_MQ below (hp_QX A D ids adr adV cA rep ov G0) (hp_XX A D ids adr adV cA rep G0) args s k (6 * k) A) G0 rep 0 (L0 adr adV) [] M G) : hp_CtX l y cc nL rt d k I av ov M G := by
  intro A D ids adr adV cA rep hI hG
  refine vx_ofW (cc := cc) (maxL := nL) (ret := rt) hy rfl ?_
  intro p e s m args below meth c s₁ B hml hE hv
  obtain ⟨rfl, hT, hA, hW⟩ := hv
  have hl := lv_entry (av adr adV) (n := nL) (hlen adr adV)
  rw [hL0] at hl
  rw [lg_entry_eq]
  subst hown
  exact body p e s m _ below meth c A D ids adr adV cA rep G hI ⟨B.exec, B.bytes, hml, findClass_of_methodNamed B.named, hT, hA, B.notSynchronized, hG⟩ B.returns hE s.heap [] _ rfl hW va_S.rf hl
def hp_gx (w : Cond) : Bool := goodWord w || (match w with | .castable _ _ => true | .declares _ => true | _ => false)
theorem hp_wdX {A : Nat → Prop} {D : va_G} {adV cA : Nat → Nat} {s : State} {H : Heap} (h : hp_Tab A D adV cA s H) {w : Cond} (hw : w ∈ lw_tbl) (hg : hp_gx w = true) (args : Array Value) : w.before args s = true := by
  by_cases g : goodWord w = true
  · exact hp_wd h ⟨hw, g⟩ args
  · obtain ⟨u0, b0, h1, -, h3, -⟩ := h
    unfold hp_gx at hg
    rw [Bool.eq_false_iff.mpr g, Bool.false_or] at hg
    split at hg
    · exact va_Nw.use rfl (va_Nw.warmC h3 (va_Nw.of rfl (h1 _ hw)))
    · exact va_Nw.use rfl (va_Nw.warmD h3 (va_Nw.of rfl (h1 _ hw)))
    · cases hg
theorem hp_W_mono {A : Nat → Prop} {D : va_G} {ids : List (Nat × Nat)} {adr : Nat → Nat → Nat} {adV cA : Nat → Nat} {M : hp_M} {rep : hp_T} {H H1 : Heap} (h : hp_W A D ids adr adV cA M rep H) (hq : ∀ q : Nat, q < H.size → H1[q]? = H[q]?) : hp_W A D ids adr adV cA M rep H1 := by
  obtain ⟨tl, h1, h2, h3⟩ := h
  exact ⟨tl, h1, h2.kept (fun k q hk => hq _ (vx_lt h2 hk)), h3⟩
theorem hp_TXq {A : Nat → Prop} {D : va_G} {adV cA : Nat → Nat} {s : State} {H : Heap} {C n d : String} (h : hp_Tab A D adV cA s H) (hl : Cond.laysStatic C n d ∈ lw_tbl) (hi : Cond.initialized C ∈ lw_tbl) (hv : hp_is (Cond.isRef (.static C n d))) : vx_Zq C n d A s H := by
  obtain ⟨u0, b0, h1, h2, h3, h4, h5, h6⟩ := hp_prem h
  exact ((vx_Zqof (h1 _ hl) (h1 _ hi) (h2 _ hv) h4).moved h3.alike).kept h5
section HPX
variable {p : Program} {l : Launch} {e : Env} {R : Room} {s : State} {m : MethodId} {args : Array Value} {below : List Frame} {meth : Method} {c : Code} {cells slots K0 S0 : Nat} {Q : State → Prop}
variable {cc : ByteArray} {nL : Nat} {own : String} {A : Nat → Prop} {D : va_G} {ids : List (Nat × Nat)} {adr : Nat → Nat → Nat} {adV cA : Nat → Nat} {ρ σ : Type} {M : hp_M} {rep : hp_T} {pc n : Nat} {L : List (Nat × Value)} {st : List Value} {H : Heap} {locs : List Loc} {ov0 : hp_ov σ} {G0 : Option ((σ ⊕ Nat) × hp_M)}
theorem hp_CBX {y : MethodName} {cc1 : ByteArray} {nL1 k d1 k1 idx : Nat} {rt1 : Option FieldType} (hT : hp_Tab A D adV cA s H) (hini : hp_ok (.initialized y.cls)) (hco : hp_ok (.code y cc1 nL1 rt1)) (hd : y.cls ≠ "java/lang/invoke/MethodHandle" ∧ y.cls ≠ "java/lang/invoke/VarHandle" ∧ (parseMethodDescriptor y.desc).map (fun d => d.parameters.length) = some k) (hx : nL1 ≤ 41) (hl : hp_ok (.methodLink own idx y)) (hR : d1 + 1 ≤ R.frames ∧ 60 * d1 + 60 ≤ R.locals) : CallB R s args own idx y cc1 nL1 rt1 [Cond.code y cc1 nL1 rt1] (hp_rmX d1 k1) k1 (6 * k1) k := by
  refine ⟨rfl, rfl, hR.1, ?_, fun w hw a' U hWm => ?_, List.mem_cons_self, hp_wd hT hco args, hp_wd hT hini args, ⟨hd.1, hd.2.1⟩, fun sig h => ?_, hp_wd hT hl args⟩
  · show 8 + (nL1 + 11) + 60 * d1 ≤ R.locals
    omega
  · rcases List.mem_singleton.mp hw with rfl
    exact word_at hWm (good_of_word hco.2) (hp_wd hT hco args)
  · have h2 := hd.2.2
    rw [h] at h2
    exact (Option.some.inj h2).symm
theorem hp_callRX {ov : hp_ov ρ} {G1 : Option ((ρ ⊕ Nat) × hp_M)} {ls : Array Slot} {st0 : List Value} {a : Array Value} {mc ms : Nat} (hr : vx_Run p l e R s m args below meth c H locs cells slots mc ms (F0 m pc ls st0) st (hp_QX A D ids adr adV cA rep ov G1 a) (hp_XX A D ids adr adV cA rep G1) A) (hS : va_S A s.heap H locs)
    (kx : ∀ (k : Nat) (M' : hp_M) (H1 : Heap) (locs1 : List Loc) (q : Addr) (ce : Cell), G1 = some (.inr k, M') → hp_W A D ids adr adV cA M' rep H1 → va_S A s.heap H1 locs1 → H1[q]? = some ce → ce.vm = .none → s.vm.findClass (hp_en k) = some ce.cls → vx_W p l e R s m args below meth c H1 locs1 (cells + mc) (slots + ms) Q (F0 m pc ls st) q)
    (kk : ∀ (r : ρ) (M' : hp_M) (H1 : Heap) (locs1 : List Loc), G1 = some (.inl r, M') → hp_W A D ids adr adV cA M' rep H1 → va_S A s.heap H1 locs1 → W p l e R s m args below meth c H1 locs1 (cells + mc) (slots + ms) Q (F0 m (pc + 3) ls ((ov adr adV r).toList ++ st))) : W p l e R s m args below meth c H locs cells slots Q (F0 m pc ls st0) := by
  intro T hT X
  have hS1 : ∀ (st₀ t T' : State) (L : List Loc), st₀.heap = H → (∀ q ∈ L, A q.base) → T'.heap = t.heap → va_F A st₀ t → va_S A s.heap T'.heap (locs ++ L) := by
    intro st₀ t T' L h0 hL e1 hF
    obtain ⟨hz, hk⟩ := hF
    rw [h0] at hz hk
    exact ⟨Nat.le_trans hS.1 (by rw [e1]; exact hz), fun q h1 h2 => by rw [e1, hk q (Nat.lt_of_lt_of_le h1 hS.1) h2]; exact hS.2.1 q h1 h2, fun q hq => by
      rcases List.mem_append.mp hq with h | h
      · exact hS.2.2 q h
      · exact hL q h⟩
  rcases hr T hT X with ⟨v, st₀, t, T', L, h0, X', hL, e1, e2, ⟨⟨r, M', hv, hg, hw⟩, hF⟩, st⟩ | ⟨q, st₀, t, T', L, E, ce, h0, X', hL, e1, e2, ⟨⟨k, M', rfl, hg, hw⟩, hF⟩, hce, hcv, hcl, st⟩
  · cases hv
    obtain ⟨t2, a1, b1⟩ := kk r M' T'.heap (locs ++ L) hg (by rw [e1]; exact hw) (hS1 _ _ _ _ h0 hL e1 hF) T' rfl X'
    exact ⟨t2, st t2 a1, b1⟩
  · obtain ⟨t2, a1, b1⟩ := kx k M' T'.heap (locs ++ L) q ce hg (by rw [e1]; exact hw) (hS1 _ _ _ _ h0 hL e1 hF) (by rw [e1]; exact hce) hcv hcl T' rfl X'
    exact ⟨t2, st.trans a1, b1⟩

theorem hz_callVX (hC : hp_Cx p s m meth c cc nL own A D adV cA G0) (hE : ∀ x ∈ c.exceptionTable.toList, False) {y : MethodName} {cc1 : ByteArray} {nL1 k d1 k1 idx : Nat} {rt1 : Option FieldType} {I : List (Nat × Nat) → Prop} {av : hp_av} {ov : hp_ov ρ} {G1 : Option ((ρ ⊕ Nat) × hp_M)} {K : ρ → hp_M → Option ((σ ⊕ Nat) × hp_M)} {As st0 : List Value} {S1 : ρ → List Value} {g j ci N : Nat} {T : u_T} {F : (Nat → Int32) → List Value} (hct : hp_CtX l y cc1 nL1 rt1 d1 k1 I av ov M G1) (hk : hp_Kv y cc1 nL1 rt1 k) (hl : hp_ok (.methodLink own idx y)) (hI : I ids) (hdg : decode cc pc = .ok (.invokevirtual idx, 3)) (hav : av adr adV = .ref (adr g j) :: As) (hq : (g, j) ∈ ids) (he : ∀ f : Nat → Int32, hp_c adr adV cA g j f = .inr (ci, F f)) (hc : vwCl[ci]? = some (y.cls, T, N)) (hlen : As.length = k) (hst : st0 = As.reverse ++ .ref (adr g j) :: st) (hcat : (st.map fun v => v.category).sum ≤ 8) (hR : d1 + 1 ≤ R.frames ∧ 60 * d1 + 60 ≤ R.locals) (hf : cells + k1 ≤ R.cells ∧ slots + 6 * k1 ≤ R.slots) (hf2 : cells + k1 ≤ K0 ∧ slots + 6 * k1 ≤ S0) (hs1 : ∀ r, (ov adr adV r).toList ++ st = S1 r) (hn : pc + 3 = n) (kk : ∀ (r : ρ) (M' : hp_M), G1 = some (.inl r, M') → hp_Z p l e R s m args below meth c nL A D ids adr adV cA (cells + k1) (slots + 6 * k1) (vx_MQ below (hp_QX A D ids adr adV cA rep ov0 G0) (hp_XX A D ids adr adV cA rep G0) args s K0 S0 A) G0 rep n L (S1 r) M' (K r M')) : hp_Z p l e R s m args below meth c nL A D ids adr adV cA (cells) (slots) (vx_MQ below (hp_QX A D ids adr adV cA rep ov0 G0) (hp_XX A D ids adr adV cA rep G0) args s K0 S0 A) G0 rep pc L st0 M (hp_bx G1 K) := by
  subst hn
  intro H locs ls hG hW hS hL
  have hne : G1 ≠ none := fun h => hC.2.2.2.2.2.2.2 (by rw [← hG, h]; rfl)
  obtain ⟨tl, hsb, hP, hD⟩ := id hW
  obtain ⟨q, hq2, -⟩ := hp_wl_at hD hq
  rw [he] at hq2
  obtain ⟨u0, b0, -, -, -, -, hK, -⟩ := id hC.2.2.2.2.1
  have hT := hC.2.2.2.2.1
  refine hp_callRX (vx_runV (As := As) (rest := st) ⟨hC.1, hC.2.1, hC.2.2.1, hC.2.2.2.1, fun w h => absurd h List.not_mem_nil⟩ (Ts := []) (hct A D ids adr adV cA rep hI hne) ⟨hp_CBX hT hk.2.2.1 hk.2.2.2.1 hk.2.2.2.2.1 hk.2.2.2.2.2 hl hR, hp_wd hT hk.1 args, hp_wd hT hk.2.1 args⟩ ⟨hp_blind, va_recv hK hP hc hq2, hp_pre hC hS hW (by rw [hav])⟩ rfl hlen hL.1 hst (lv_room hcat) hdg hf) hS (fun kx M' H1 locs1 q ce hg hw1 hS1 hce hcv hcl => ?_) (fun r M' H1 locs1 hg hw1 hS1 => by rw [hs1]; exact kk r M' hg H1 locs1 ls (by rw [← hG, hg]; rfl) hw1 hS1 hL)
  exact vx_out (fun x hx => (hE x hx).elim) hC.2.2.2.2.2.2.1 hce hcv hcl (fun t ht _ => ⟨⟨kx, M', rfl, by rw [← hG, hg]; rfl, by rw [ht]; exact hw1⟩, hS1.F ht⟩) hS1.2.2 hf2.1 hf2.2
theorem hz_callSX (hC : hp_Cx p s m meth c cc nL own A D adV cA G0) (hE : ∀ x ∈ c.exceptionTable.toList, False) {y : MethodName} {cc1 : ByteArray} {nL1 k d1 k1 idx : Nat} {rt1 : Option FieldType} {I : List (Nat × Nat) → Prop} {av : hp_av} {ov : hp_ov ρ} {G1 : Option ((ρ ⊕ Nat) × hp_M)} {K : ρ → hp_M → Option ((σ ⊕ Nat) × hp_M)} {As st0 : List Value} {S1 : ρ → List Value} (hct : hp_CtX l y cc1 nL1 rt1 d1 k1 I av ov M G1) (hk : hp_Ks y cc1 nL1 rt1 k) (hl : hp_ok (.methodLink own idx y)) (hI : I ids) (hdg : decode cc pc = .ok (.invokestatic idx, 3)) (hav : av adr adV = As) (hlen : As.length = k) (hst : st0 = As.reverse ++ st) (hcat : (st.map fun v => v.category).sum ≤ 8) (hR : d1 + 1 ≤ R.frames ∧ 60 * d1 + 60 ≤ R.locals) (hf : cells + k1 ≤ R.cells ∧ slots + 6 * k1 ≤ R.slots) (hf2 : cells + k1 ≤ K0 ∧ slots + 6 * k1 ≤ S0) (hs1 : ∀ r, (ov adr adV r).toList ++ st = S1 r) (hn : pc + 3 = n) (kk : ∀ (r : ρ) (M' : hp_M), G1 = some (.inl r, M') → hp_Z p l e R s m args below meth c nL A D ids adr adV cA (cells + k1) (slots + 6 * k1) (vx_MQ below (hp_QX A D ids adr adV cA rep ov0 G0) (hp_XX A D ids adr adV cA rep G0) args s K0 S0 A) G0 rep n L (S1 r) M' (K r M')) : hp_Z p l e R s m args below meth c nL A D ids adr adV cA (cells) (slots) (vx_MQ below (hp_QX A D ids adr adV cA rep ov0 G0) (hp_XX A D ids adr adV cA rep G0) args s K0 S0 A) G0 rep pc L st0 M (hp_bx G1 K) := by
  subst hn
  intro H locs ls hG hW hS hL
  have hne : G1 ≠ none := fun h => hC.2.2.2.2.2.2.2 (by rw [← hG, h]; rfl)
  have hT := hC.2.2.2.2.1
  refine hp_callRX (vx_runS (As := As) (rest := st) ⟨hC.1, hC.2.1, hC.2.2.1, hC.2.2.2.1, fun w h => absurd h List.not_mem_nil⟩ (Ts := []) (hct A D ids adr adV cA rep hI hne) ⟨hp_CBX hT hk.2.1 hk.2.2.1 hk.2.2.2.1 hk.2.2.2.2 hl hR, hp_wd hT hk.1 args⟩ ⟨hp_blind, hp_pre hC hS hW (by rw [hav])⟩ rfl hlen hL.1 hst (lv_room hcat) hdg hf) hS (fun kx M' H1 locs1 q ce hg hw1 hS1 hce hcv hcl => ?_) (fun r M' H1 locs1 hg hw1 hS1 => by rw [hs1]; exact kk r M' hg H1 locs1 ls (by rw [← hG, hg]; rfl) hw1 hS1 hL)
  exact vx_out (fun x hx => (hE x hx).elim) hC.2.2.2.2.2.2.1 hce hcv hcl (fun t ht _ => ⟨⟨kx, M', rfl, by rw [← hG, hg]; rfl, by rw [ht]; exact hw1⟩, hS1.F ht⟩) hS1.2.2 hf2.1 hf2.2
theorem hz_throwS (hC : hp_Cx p s m meth c cc nL own A D adV cA G0) (hE : ∀ x ∈ c.exceptionTable.toList, False) (hl0 : l.stackTraces = false) (kx : Nat) {ik is ic sa : Nat} {text : String} {names : List String} (hcls : Bundle.fit (hp_en kx) = true) (hnames : ∀ n ∈ names, Bundle.fit n = true) (hk : hp_ok (.classLink own ik (hp_en kx))) (hini : hp_ok (.initialized (hp_en kx))) (hw : Cond.stringRef own is text ∈ lw_tbl) (hsa : (sa, Term.string own is) ∈ hp_st) (hat : ∀ w ∈ vx_atS own ic (hp_en kx) names, w ∈ lw_tbl ∧ hp_gx w = true) (hgood : ∀ w ∈ Cond.classLink own ik (hp_en kx) :: Cond.initialized (hp_en kx) :: vx_atS own ic (hp_en kx) names, vx_ot w = true) (hst : (Cond.laysStatic Bundle.tN "UNASSIGNED_STACK" Bundle.steD ∈ lw_tbl ∧ hp_is (Cond.isRef (.static Bundle.tN "UNASSIGNED_STACK" Bundle.steD))) ∧ (Cond.laysStatic Bundle.tN "SUPPRESSED_SENTINEL" Bundle.listD ∈ lw_tbl ∧ hp_is (Cond.isRef (.static Bundle.tN "SUPPRESSED_SENTINEL" Bundle.listD))) ∧ Cond.initialized Bundle.tN ∈ lw_tbl)
    (d0 : decode cc pc = .ok (.new ik, 3)) (d3 : decode cc (pc + 3) = .ok (.dup, 1)) (d4 : decode cc (pc + 4) = .ok (.ldc is, 2)) (d6 : decode cc (pc + 6) = .ok (.invokespecial ic, 3)) (d9 : decode cc (pc + 9) = .ok (.athrow, 1)) (hR : names.length + 3 < R.frames ∧ (st.map fun v => v.category).sum + (13 * (names.length + 1) + 43) ≤ R.locals ∧ cells + 1 ≤ R.cells ∧ slots + 6 ≤ R.slots) (hf2 : cells + 1 ≤ K0 ∧ slots + 6 ≤ S0) : hp_Z p l e R s m args below meth c nL A D ids adr adV cA (cells) (slots) (vx_MQ below (hp_QX A D ids adr adV cA rep ov0 G0) (hp_XX A D ids adr adV cA rep G0) args s K0 S0 A) G0 rep pc L st M (some (.inr kx, M)) := by
  intro H locs ls hG hW hS hL
  have hT := hC.2.2.2.2.1
  exact vx_throwS hC.1 hC.2.1 hl0 hC.2.2.2.1 hcls hnames (hp_wd hT hk args) (hp_wd hT hini args) (hp_TR hT hw hsa) (fun w h => hp_wdX hT (hat w h).1 (hat w h).2 args) hgood (hp_TXq hT hst.1.1 hst.2.2 hst.1.2) (hp_TXq hT hst.2.1.1 hst.2.2 hst.2.1.2) hS (hL.1.trans hC.2.2.1.symm) d0 d3 d4 d6 d9 (fun x hx => (hE x hx).elim) hR.1 hR.2.1 hR.2.2.1 hR.2.2.2 hC.2.2.2.2.2.2.1 (fun t _ h1 h2 => ⟨⟨kx, M, rfl, hG.symm, hp_W_mono hW h2⟩, ⟨Nat.le_trans hS.1 h1, fun q g1 g2 => by rw [h2 q (Nat.lt_of_lt_of_le g1 hS.1)]; exact hS.2.1 q g1 g2⟩⟩) hS.2.2 hf2.1 hf2.2
theorem hz_throwSW (hC : hp_Cx p s m meth c cc nL own A D adV cA G0) (hE : ∀ x ∈ c.exceptionTable.toList, False) (hl0 : l.stackTraces = false) (kx : Nat) {ik is ic sa : Nat} {text : String} {names : List String} (hcls : Bundle.fit (hp_en kx) = true) (hnames : ∀ n ∈ names, Bundle.fit n = true) (hk : hp_ok (.classLink own ik (hp_en kx))) (hini : hp_ok (.initialized (hp_en kx))) (hw : Cond.stringRef own is text ∈ lw_tbl) (hsa : (sa, Term.string own is) ∈ hp_st) (hat : ∀ w ∈ vx_atS own ic (hp_en kx) names, w ∈ lw_tbl ∧ hp_gx w = true) (hgood : ∀ w ∈ Cond.classLink own ik (hp_en kx) :: Cond.initialized (hp_en kx) :: vx_atS own ic (hp_en kx) names, vx_ot w = true) (hst : (Cond.laysStatic Bundle.tN "UNASSIGNED_STACK" Bundle.steD ∈ lw_tbl ∧ hp_is (Cond.isRef (.static Bundle.tN "UNASSIGNED_STACK" Bundle.steD))) ∧ (Cond.laysStatic Bundle.tN "SUPPRESSED_SENTINEL" Bundle.listD ∈ lw_tbl ∧ hp_is (Cond.isRef (.static Bundle.tN "SUPPRESSED_SENTINEL" Bundle.listD))) ∧ Cond.initialized Bundle.tN ∈ lw_tbl)
    (d0 : decode cc pc = .ok (.new ik, 3)) (d3 : decode cc (pc + 3) = .ok (.dup, 1)) (d4 : decode cc (pc + 4) = .ok (.ldc_w is, 3)) (d6 : decode cc (pc + 7) = .ok (.invokespecial ic, 3)) (d9 : decode cc (pc + 10) = .ok (.athrow, 1)) (hR : names.length + 3 < R.frames ∧ (st.map fun v => v.category).sum + (13 * (names.length + 1) + 43) ≤ R.locals ∧ cells + 1 ≤ R.cells ∧ slots + 6 ≤ R.slots) (hf2 : cells + 1 ≤ K0 ∧ slots + 6 ≤ S0) : hp_Z p l e R s m args below meth c nL A D ids adr adV cA (cells) (slots) (vx_MQ below (hp_QX A D ids adr adV cA rep ov0 G0) (hp_XX A D ids adr adV cA rep G0) args s K0 S0 A) G0 rep pc L st M (some (.inr kx, M)) := by
  intro H locs ls hG hW hS hL
  have hT := hC.2.2.2.2.1
  exact vx_throwSW hC.1 hC.2.1 hl0 hC.2.2.2.1 hcls hnames (hp_wd hT hk args) (hp_wd hT hini args) (hp_TR hT hw hsa) (fun w h => hp_wdX hT (hat w h).1 (hat w h).2 args) hgood (hp_TXq hT hst.1.1 hst.2.2 hst.1.2) (hp_TXq hT hst.2.1.1 hst.2.2 hst.2.1.2) hS (hL.1.trans hC.2.2.1.symm) d0 d3 d4 d6 d9 (fun x hx => (hE x hx).elim) hR.1 hR.2.1 hR.2.2.1 hR.2.2.2 hC.2.2.2.2.2.2.1 (fun t _ h1 h2 => ⟨⟨kx, M, rfl, hG.symm, hp_W_mono hW h2⟩, ⟨Nat.le_trans hS.1 h1, fun q g1 g2 => by rw [h2 q (Nat.lt_of_lt_of_le g1 hS.1)]; exact hS.2.1 q g1 g2⟩⟩) hS.2.2 hf2.1 hf2.2
theorem hz_iretX {G0 : Option ((Int32 ⊕ Nat) × hp_M)} (hC : hp_Cx p s m meth c cc nL own A D adV cA G0) {v : Int32} (hr : meth.sig.returnType = some .int) (hdg : decode cc pc = .ok (.ireturn, 1)) (hf2 : cells ≤ K0 ∧ slots ≤ S0) : hp_Z p l e R s m args below meth c nL A D ids adr adV cA cells slots (vx_MQ below (hp_QX A D ids adr adV cA rep hp_oi G0) (hp_XX A D ids adr adV cA rep G0) args s K0 S0 A) G0 rep pc L [.int v] M (some (.inl v, M)) := by
  intro H locs ls hG hW hS hL
  have hlocks := hC.2.2.2.2.2.2.1
  exact vx_ret (W.widen hf2.1 hf2.2 (W.iret hC.1 hC.2.1 hr (fun t ht hWm => ⟨⟨v, M, rfl, hG.symm, by rw [ht]; exact hW⟩, hS.F ht⟩) hS.2.2 hdg hlocks))
theorem hz_zretX {G0 : Option ((Int32 ⊕ Nat) × hp_M)} (hC : hp_Cx p s m meth c cc nL own A D adV cA G0) {v : Int32} {ty : FieldType} (hr : meth.sig.returnType = some ty) (hv : narrow ty (.int v) = .int v) (hdg : decode cc pc = .ok (.ireturn, 1)) (hf2 : cells ≤ K0 ∧ slots ≤ S0) : hp_Z p l e R s m args below meth c nL A D ids adr adV cA cells slots (vx_MQ below (hp_QX A D ids adr adV cA rep hp_oi G0) (hp_XX A D ids adr adV cA rep G0) args s K0 S0 A) G0 rep pc L [.int v] M (some (.inl v, M)) := by
  intro H locs ls hG hW hS hL
  have hlocks := hC.2.2.2.2.2.2.1
  exact vx_ret (W.widen hf2.1 hf2.2 (W.zret hC.1 hC.2.1 hr hv (fun t ht hWm => ⟨⟨v, M, rfl, hG.symm, by rw [ht]; exact hW⟩, hS.F ht⟩) hS.2.2 hdg hlocks))
theorem hz_vretX {G0 : Option ((Unit ⊕ Nat) × hp_M)} (hC : hp_Cx p s m meth c cc nL own A D adV cA G0)  (hr : meth.sig.returnType = none) (hdg : decode cc pc = .ok (.return_, 1)) (hf2 : cells ≤ K0 ∧ slots ≤ S0) : hp_Z p l e R s m args below meth c nL A D ids adr adV cA cells slots (vx_MQ below (hp_QX A D ids adr adV cA rep hp_oo G0) (hp_XX A D ids adr adV cA rep G0) args s K0 S0 A) G0 rep pc L [] M (some (.inl (), M)) := by
  intro H locs ls hG hW hS hL
  have hlocks := hC.2.2.2.2.2.2.1
  exact vx_ret (W.widen hf2.1 hf2.2 (W.vret hC.1 hC.2.1 hr (fun t ht hWm => ⟨⟨(), M, rfl, hG.symm, by rw [ht]; exact hW⟩, hS.F ht⟩) hS.2.2 hdg hlocks))
theorem hz_hretX {G0 : Option ((Nat ⊕ Nat) × hp_M)} (hC : hp_Cx p s m meth c cc nL own A D adV cA G0) {g : Nat} {ty : FieldType} (hr : meth.sig.returnType = some ty) (hrt : (∃ n, ty = .object n) ∨ ∃ t, ty = .array t) (hdg : decode cc pc = .ok (.areturn, 1)) (hf2 : cells ≤ K0 ∧ slots ≤ S0) : hp_Z p l e R s m args below meth c nL A D ids adr adV cA cells slots (vx_MQ below (hp_QX A D ids adr adV cA rep hp_oh G0) (hp_XX A D ids adr adV cA rep G0) args s K0 S0 A) G0 rep pc L [.ref (adr g 0)] M (some (.inl g, M)) := by
  intro H locs ls hG hW hS hL
  have hlocks := hC.2.2.2.2.2.2.1
  exact vx_ret (W.widen hf2.1 hf2.2 (W.aret hC.1 hC.2.1 hr hrt (Or.inr ⟨_, rfl⟩) (fun t ht hWm => ⟨⟨g, M, rfl, hG.symm, by rw [ht]; exact hW⟩, hS.F ht⟩) hS.2.2 hdg hlocks))
theorem hz_bretX {G0 : Option ((Int32 ⊕ Nat) × hp_M)} (hC : hp_Cx p s m meth c cc nL own A D adV cA G0) {v : Int32} {d : Decidable (v = 0 ∨ v = 1)} (hr : meth.sig.returnType = some .boolean) (hdg : decode cc pc = .ok (.ireturn, 1)) (hf2 : cells ≤ K0 ∧ slots ≤ S0) : hp_Z p l e R s m args below meth c nL A D ids adr adV cA cells slots (vx_MQ below (hp_QX A D ids adr adV cA rep hp_oi G0) (hp_XX A D ids adr adV cA rep G0) args s K0 S0 A) G0 rep pc L [.int v] M (@ite (Option ((Int32 ⊕ Nat) × hp_M)) (v = 0 ∨ v = 1) d (some (.inl v, M)) none) := hz_case (fun h => hz_zretX hC hr (by rcases h with rfl | rfl <;> rfl) hdg hf2) (fun _ => hz_none hC)
end HPX
theorem hp_thst : (Cond.laysStatic Bundle.tN "UNASSIGNED_STACK" Bundle.steD ∈ lw_tbl ∧ hp_is (Cond.isRef (.static Bundle.tN "UNASSIGNED_STACK" Bundle.steD))) ∧ (Cond.laysStatic Bundle.tN "SUPPRESSED_SENTINEL" Bundle.listD ∈ lw_tbl ∧ hp_is (Cond.isRef (.static Bundle.tN "SUPPRESSED_SENTINEL" Bundle.listD))) ∧ Cond.initialized Bundle.tN ∈ lw_tbl := ⟨⟨wd_4_115, 5673, by decide +kernel⟩, ⟨wd_4_117, 7721, by decide +kernel⟩, wd_1_21.1⟩
theorem hp_cl_251 : hp_ok (.classLink "HallPhone" 251 (hp_en 0)) := ⟨hp_m5 (List.mem_of_getElem? (i := 89) (by decide +kernel)), rfl⟩
theorem hp_ci_251 : hp_ok (.initialized (hp_en 0)) := wd_1_24
theorem hp_ca_251 : ∀ w ∈ vx_atS "HallPhone" 255 (hp_en 0) ["java/lang/RuntimeException", "java/lang/Exception"], w ∈ lw_tbl ∧ hp_gx w = true := by decide +kernel
theorem hp_cg_251 : ∀ w ∈ Cond.classLink "HallPhone" 251 (hp_en 0) :: Cond.initialized (hp_en 0) :: vx_atS "HallPhone" 255 (hp_en 0) ["java/lang/RuntimeException", "java/lang/Exception"], vx_ot w = true := by decide +kernel
theorem hp_cf_251 : Bundle.fit (hp_en 0) = true ∧ ∀ n ∈ ["java/lang/RuntimeException", "java/lang/Exception"], Bundle.fit n = true := by decide +kernel
theorem hp_cl_290 : hp_ok (.classLink "HallPhone" 290 (hp_en 1)) := ⟨hp_m5 (List.mem_of_getElem? (i := 132) (by decide +kernel)), rfl⟩
theorem hp_ci_290 : hp_ok (.initialized (hp_en 1)) := wd_1_27
theorem hp_ca_290 : ∀ w ∈ vx_atS "HallPhone" 294 (hp_en 1) ["java/lang/RuntimeException", "java/lang/Exception"], w ∈ lw_tbl ∧ hp_gx w = true := by decide +kernel
theorem hp_cg_290 : ∀ w ∈ Cond.classLink "HallPhone" 290 (hp_en 1) :: Cond.initialized (hp_en 1) :: vx_atS "HallPhone" 294 (hp_en 1) ["java/lang/RuntimeException", "java/lang/Exception"], vx_ot w = true := by decide +kernel
theorem hp_cf_290 : Bundle.fit (hp_en 1) = true ∧ ∀ n ∈ ["java/lang/RuntimeException", "java/lang/Exception"], Bundle.fit n = true := by decide +kernel
