/-! ===== constructors: the world is a list; what is made stands at its end ===== -/
def hp_Y (p : Program) (l : Launch) (e : Env) (R : Room) (s : State) (m : MethodId) (args : Array Value) (below : List Frame) (meth : Method) (c : Code) (nL : Nat) (A : Nat → Prop) (D : va_G) (cells slots : Nat) (Q : State → Prop) (pc : Nat) (L : List (Nat × Value)) (st : List Value) (ws t : va_W) : Prop :=
  ∀ (H : Heap) (locs : List Loc) (ls : Array Slot), va_P D vwCl (ws ++ t) H → va_D A (ws ++ t) → va_S A s.heap H locs → lv_has ls nL L → W p l e R s m args below meth c H locs cells slots Q (F0 m pc ls st)
theorem hy_at {ws t : va_W} {i : Nat} {x : Nat × va_E} (h : t[i]? = some x) : (ws ++ t)[ws.length + i]? = some x := by
  rw [List.getElem?_append_right (Nat.le_add_right _ _), Nat.add_sub_cancel_left]; exact h
theorem hy_set {ws t t' : va_W} {i : Nat} {x : Nat × va_E} (h : t.set i x = t') : (ws ++ t).set (ws.length + i) x = ws ++ t' := by
  subst h; rw [List.set_append_right _ _ (Nat.le_add_right _ _), Nat.add_sub_cancel_left]
def hp_rmN (d k sl : Nat) : Room := { frames := d, cells := k, slots := sl, locals := 43 * d }
def hp_WLt : Type := (Nat → Nat → Nat) → (Nat → Nat) → (Nat → Nat) → va_W
def hp_PN (A : Nat → Prop) (D : va_G) (adV cA : Nat → Nat) (w : va_W) (U : State) : Prop := hp_Tab A D adV cA U U.heap ∧ (∀ q : Nat, U.heap.size ≤ q → A q) ∧ va_P D vwCl w U.heap ∧ va_D A w
def hp_QN (A : Nat → Prop) (D : va_G) (adV cA : Nat → Nat) (at0 : (Nat → Nat → Nat) → Nat) (WL : hp_WLt) (h0 : Nat) (ws : va_W) : Array Value → State → Outcome → State → Prop := fun _ st oc t => (∃ adr : Nat → Nat → Nat, oc = .returned none ∧ at0 adr = h0 ∧ va_P D vwCl (ws ++ WL adr adV cA) t.heap ∧ va_D A (ws ++ WL adr adV cA)) ∧ va_F A st t
/-- a constructor: what it makes of the new object, beside any world -/
def hp_Ni (l : Launch) (y : MethodName) (cc : ByteArray) (nL d k sl : Nat) (As : List Value) (c0 : va_E) (at0 : (Nat → Nat → Nat) → Nat) (WL : hp_WLt) : Prop :=
  ∀ (A : Nat → Prop) (D : va_G) (adV cA : Nat → Nat) (ws : va_W) (h0 : Nat), Met l y [Cond.code y cc nL none] (hp_rmN d k sl) (va_Pc (.ref h0 :: As) (hp_PN A D adV cA (ws ++ [(h0, c0)]))) (hp_QN A D adV cA at0 WL h0 ws) k sl A
theorem hp_blindN {A : Nat → Prop} {D : va_G} {adV cA : Nat → Nat} {w : va_W} {av : List Value} : FrameBlind (va_Pc av (hp_PN A D adV cA w)) := by
  intro a U g mk ⟨h0, h1, h2, h3⟩
  refine ⟨h0, ?_, h2, h3⟩
  obtain ⟨u0, b0, q1, q2, q3, q4, q5, q6⟩ := h1
  exact ⟨u0, b0, q1, q2, q3, q4, va_K.moved (u := U) (U := U.calling g mk a) (Vm.Alike.refl U.vm) q5, q6⟩
theorem hp_startN {l : Launch} {y : MethodName} {cc : ByteArray} {nL d k sl : Nat} {As : List Value} {c0 : va_E} {at0 : (Nat → Nat → Nat) → Nat} {WL : hp_WLt} (own : String) (hy : plainName y.cls = true) (hown : y.cls = own) (hnm : y.name = "<init>") (hlen : ∀ h0 : Nat, (lg_sl (.ref h0 :: As)).length ≤ nL)
    (body : ∀ (p : Program) (e : Env) (s : State) (m : MethodId) (args : Array Value) (below : List Frame) (meth : Method) (c : Code) (A : Nat → Prop) (D : va_G) (adV cA : Nat → Nat) (ws : va_W) (h0 : Nat), hp_Cx p s m meth c cc nL own A D adV cA (some ()) → meth.sig.returnType = none → meth.name = "<init>" →
      hp_Y p l e (hp_rmN d k sl) s m args below meth c nL A D 0 0 (MQ below (hp_QN A D adV cA at0 WL h0 ws) args s k sl A) 0 (lv_args 0 (.ref h0 :: As)) [] ws [(h0, c0)]) : hp_Ni l y cc nL d k sl As c0 at0 WL := by
  intro A D adV cA ws h0
  refine Met.ofW (cc := cc) (maxL := nL) (ret := none) hy rfl ?_
  intro p e s m args below meth c s₁ B hml hv
  obtain ⟨rfl, hT, hA, hP, hD⟩ := hv
  have hl := lv_entry (.ref h0 :: As) (n := nL) (hlen h0)
  rw [lg_entry_eq]
  subst hown
  exact body p e s m _ below meth c A D adV cA ws h0 ⟨B.exec, B.bytes, hml, findClass_of_methodNamed B.named, hT, hA, B.notSynchronized, fun h => by cases h⟩ B.returns ((name_of_methodNamed B.named B.method).1.trans hnm) s.heap [] _ hP hD va_S.rf hl
def hp_Ki (y : MethodName) (cc : ByteArray) (nL k : Nat) : Prop := y.name = "<init>" ∧ hp_ok (.instanceMethod y) ∧ hp_ok (.initialized y.cls) ∧ hp_ok (.code y cc nL none) ∧ (y.cls ≠ "java/lang/invoke/MethodHandle" ∧ y.cls ≠ "java/lang/invoke/VarHandle" ∧ (parseMethodDescriptor y.desc).map (fun d => d.parameters.length) = some k) ∧ nL ≤ 24
theorem hp_AO {A : Nat → Prop} {D : va_G} {adV cA : Nat → Nat} {s : State} {H : Heap} (h : hp_Tab A D adV cA s H) : va_AO "HallPhone$House" s := by
  obtain ⟨u0, b0, h1, -, h3, -⟩ := h
  exact va_AO.moved h3.alike (va_AO.of (h1 _ (hp_m1 (List.mem_of_getElem? (i := 142) (by decide +kernel)))))
theorem hp_codeIn {A : Nat → Prop} {D : va_G} {adV cA : Nat → Nat} {s : State} {H : Heap} {y : MethodName} {cc1 : ByteArray} {nL1 : Nat} {rt1 : Option FieldType} (hT : hp_Tab A D adV cA s H) (hco : hp_ok (.code y cc1 nL1 rt1)) : ∀ w ∈ [Cond.code y cc1 nL1 rt1], ∀ (a' : Array Value) (U : State), s.WarmedH U.vm → w.before a' U = true := by
  intro w hw a' U hWm
  rcases List.mem_singleton.mp hw with rfl
  exact word_at hWm (good_of_word hco.2) (hp_wd hT hco #[])
theorem hp_oini : hp_ok (.instanceMethod Lib.objectInit) ∧ hp_ok (.code Lib.objectInit ⟨#[0xb1]⟩ 1 none) := ⟨⟨hp_m1 (List.mem_of_getElem? (i := 33) (by decide +kernel)), rfl⟩, ⟨hp_m1 (List.mem_of_getElem? (i := 34) (by decide +kernel)), rfl⟩⟩
theorem hp_acs : hp_ok (.arrayClass .int) ∧ hp_ok (.arrayClass .byte) := ⟨⟨hp_m1 (List.mem_of_getElem? (i := 68) (by decide +kernel)), rfl⟩, ⟨hp_m1 (List.mem_of_getElem? (i := 226) (by decide +kernel)), rfl⟩⟩
section HPY
variable {p : Program} {l : Launch} {e : Env} {R : Room} {s : State} {m : MethodId} {args : Array Value} {below : List Frame} {meth : Method} {c : Code} {cells slots K0 S0 : Nat} {Q : State → Prop}
variable {cc : ByteArray} {nL : Nat} {own : String} {A : Nat → Prop} {D : va_G} {adV cA : Nat → Nat} {α : Type} {G0 : Option α} {pc n : Nat} {L : List (Nat × Value)} {st : List Value} {ws t t' : va_W}
theorem hy_T (t' : va_W) (h : t = t') (k : hp_Y p l e R s m args below meth c nL A D cells slots Q pc L st ws t') : hp_Y p l e R s m args below meth c nL A D cells slots Q pc L st ws t := by subst h; exact k
theorem hy_L {L' : List (Nat × Value)} (ks : List Nat) (hl : lv_pick L ks = L') (k : hp_Y p l e R s m args below meth c nL A D cells slots Q pc L' st ws t) : hp_Y p l e R s m args below meth c nL A D cells slots Q pc L st ws t := fun H locs ls hP hD hS hL => k H locs ls hP hD hS (lv_sub hL ks hl)
theorem hy_widen {k0 s0 : Nat} (hc : cells ≤ k0 ∧ slots ≤ s0) (k : hp_Y p l e R s m args below meth c nL A D k0 s0 Q pc L st ws t) : hp_Y p l e R s m args below meth c nL A D cells slots Q pc L st ws t := fun H locs ls hP hD hS hL => W.widen hc.1 hc.2 (k H locs ls hP hD hS hL)
theorem hy_iconst (hC : hp_Cx p s m meth c cc nL own A D adV cA G0) {i : Int} {v : Int32} (hdg : decode cc pc = .ok (.iconst i, 1)) (hv : Int32.ofInt i = v) (hn : pc + 1 = n) (k : hp_Y p l e R s m args below meth c nL A D cells slots Q n L (.int v :: st) ws t) : hp_Y p l e R s m args below meth c nL A D cells slots Q pc L st ws t := by
  subst hn
  exact fun H locs ls hP hD hS hL => lv_iconst hC.1 hC.2.1 hdg hv (k H locs ls hP hD hS hL)
theorem hy_bipush (hC : hp_Cx p s m meth c cc nL own A D adV cA G0) {i : Int} {v : Int32} (hdg : decode cc pc = .ok (.bipush i, 2)) (hv : (Int8.ofInt i).toInt32 = v) (hn : pc + 2 = n) (k : hp_Y p l e R s m args below meth c nL A D cells slots Q n L (.int v :: st) ws t) : hp_Y p l e R s m args below meth c nL A D cells slots Q pc L st ws t := by
  subst hn
  exact fun H locs ls hP hD hS hL => lv_bipush hC.1 hC.2.1 hdg hv (k H locs ls hP hD hS hL)
theorem hy_sipush (hC : hp_Cx p s m meth c cc nL own A D adV cA G0) {i : Int} {v : Int32} (hdg : decode cc pc = .ok (.sipush i, 3)) (hv : (Int16.ofInt i).toInt32 = v) (hn : pc + 3 = n) (k : hp_Y p l e R s m args below meth c nL A D cells slots Q n L (.int v :: st) ws t) : hp_Y p l e R s m args below meth c nL A D cells slots Q pc L st ws t := by
  subst hn
  exact fun H locs ls hP hD hS hL => lv_sipush hC.1 hC.2.1 hdg hv (k H locs ls hP hD hS hL)
theorem hy_null (hC : hp_Cx p s m meth c cc nL own A D adV cA G0) (hdg : decode cc pc = .ok (.aconst_null, 1)) (hn : pc + 1 = n) (k : hp_Y p l e R s m args below meth c nL A D cells slots Q n L (.null :: st) ws t) : hp_Y p l e R s m args below meth c nL A D cells slots Q pc L st ws t := by
  subst hn
  exact fun H locs ls hP hD hS hL => lv_null hC.1 hC.2.1 hdg (k H locs ls hP hD hS hL)
theorem hy_aload_n (hC : hp_Cx p s m meth c cc nL own A D adV cA G0) {k : Fin 4} {i a x : Nat} (hdg : decode cc pc = .ok (.aload_n k, 1)) (hi : (k : Nat) = i) (ha : L[a]? = some (i, .ref x)) (hn : pc + 1 = n) (k : hp_Y p l e R s m args below meth c nL A D cells slots Q n L (.ref x :: st) ws t) : hp_Y p l e R s m args below meth c nL A D cells slots Q pc L st ws t := by
  subst hn
  exact fun H locs ls hP hD hS hL => lv_aload_n hC.1 hC.2.1 hdg hi (lv_at hL a ha) (k H locs ls hP hD hS hL)
theorem hy_iload_n (hC : hp_Cx p s m meth c cc nL own A D adV cA G0) {k : Fin 4} {i a : Nat} {x : Int32} (hdg : decode cc pc = .ok (.iload_n k, 1)) (hi : (k : Nat) = i) (ha : L[a]? = some (i, .int x)) (hn : pc + 1 = n) (k : hp_Y p l e R s m args below meth c nL A D cells slots Q n L (.int x :: st) ws t) : hp_Y p l e R s m args below meth c nL A D cells slots Q pc L st ws t := by
  subst hn
  exact fun H locs ls hP hD hS hL => lv_iload_n hC.1 hC.2.1 hdg hi (lv_at hL a ha) (k H locs ls hP hD hS hL)
theorem hy_dup (hC : hp_Cx p s m meth c cc nL own A D adV cA G0) {v : Value} (hdg : decode cc pc = .ok (.dup, 1)) (hc : v.category = 1) (hn : pc + 1 = n) (k : hp_Y p l e R s m args below meth c nL A D cells slots Q n L (v :: v :: st) ws t) : hp_Y p l e R s m args below meth c nL A D cells slots Q pc L (v :: st) ws t := by
  subst hn
  exact fun H locs ls hP hD hS hL => lv_dup hC.1 hC.2.1 hdg hc (k H locs ls hP hD hS hL)
theorem hy_goto (hC : hp_Cx p s m meth c cc nL own A D adV cA G0) {off : Int} (hdg : decode cc pc = .ok (.goto off, 3)) (ht : (pc : Int) + off = (n : Int)) (k : hp_Y p l e R s m args below meth c nL A D cells slots Q n L st ws t) : hp_Y p l e R s m args below meth c nL A D cells slots Q pc L st ws t := fun H locs ls hP hD hS hL => lv_goto hC.1 hC.2.1 hdg ht (k H locs ls hP hD hS hL)
theorem hy_istore_n (hC : hp_Cx p s m meth c cc nL own A D adV cA G0) {k : Fin 4} {i : Nat} {x : Int32} {L' : List (Nat × Value)} (hdg : decode cc pc = .ok (.istore_n k, 1)) (hi : (k : Nat) = i) (hlt : i < nL) (hl : (i, Value.int x) :: L.filter (fun q => !(q.1 == i) && !(q.1 + 1 == i && q.2.category == 2)) = L') (hn : pc + 1 = n) (k : hp_Y p l e R s m args below meth c nL A D cells slots Q n L' st ws t) : hp_Y p l e R s m args below meth c nL A D cells slots Q pc L (.int x :: st) ws t := by
  subst hn
  exact fun H locs ls hP hD hS hL => lv_istore_n hC.1 hC.2.1 hdg hi hL hlt hl (fun ls2 hL2 => k H locs ls2 hP hD hS hL2)
theorem hy_istore (hC : hp_Cx p s m meth c cc nL own A D adV cA G0) {i : Nat} {x : Int32} {L' : List (Nat × Value)} (hdg : decode cc pc = .ok (.istore i, 2)) (hlt : i < nL) (hl : (i, Value.int x) :: L.filter (fun q => !(q.1 == i) && !(q.1 + 1 == i && q.2.category == 2)) = L') (hn : pc + 2 = n) (k : hp_Y p l e R s m args below meth c nL A D cells slots Q n L' st ws t) : hp_Y p l e R s m args below meth c nL A D cells slots Q pc L (.int x :: st) ws t := by
  subst hn
  exact fun H locs ls hP hD hS hL => lv_istore hC.1 hC.2.1 hdg hL hlt hl (fun ls2 hL2 => k H locs ls2 hP hD hS hL2)
theorem hy_astore_n (hC : hp_Cx p s m meth c cc nL own A D adV cA G0) {k : Fin 4} {i x : Nat} {L' : List (Nat × Value)} (hdg : decode cc pc = .ok (.astore_n k, 1)) (hi : (k : Nat) = i) (hlt : i < nL) (hl : (i, Value.ref x) :: L.filter (fun q => !(q.1 == i) && !(q.1 + 1 == i && q.2.category == 2)) = L') (hn : pc + 1 = n) (k : hp_Y p l e R s m args below meth c nL A D cells slots Q n L' st ws t) : hp_Y p l e R s m args below meth c nL A D cells slots Q pc L (.ref x :: st) ws t := by
  subst hn
  exact fun H locs ls hP hD hS hL => lv_astore_n hC.1 hC.2.1 hdg hi hL hlt hl (fun ls2 hL2 => k H locs ls2 hP hD hS hL2)
theorem hy_iinc (hC : hp_Cx p s m meth c cc nL own A D adV cA G0) {i a : Nat} {z : Int} {x v : Int32} {L' : List (Nat × Value)} (hdg : decode cc pc = .ok (.iinc i z, 3)) (ha : L[a]? = some (i, .int x)) (hv : x + Int32.ofInt z = v) (hlt : i < nL) (hl : (i, Value.int v) :: L.filter (fun q => !(q.1 == i) && !(q.1 + 1 == i && q.2.category == 2)) = L') (hn : pc + 3 = n) (k : hp_Y p l e R s m args below meth c nL A D cells slots Q n L' st ws t) : hp_Y p l e R s m args below meth c nL A D cells slots Q pc L st ws t := by
  subst hn
  exact fun H locs ls hP hD hS hL => lv_iinc hC.1 hC.2.1 hdg hL ha hv hlt hl (fun ls2 hL2 => k H locs ls2 hP hD hS hL2)
theorem hy_ge_t (hC : hp_Cx p s m meth c cc nL own A D adV cA G0) {x y : Int32} {off : Int} (hdg : decode cc pc = .ok (.if_icmp .ge off, 3)) (ht : (pc : Int) + off = (n : Int)) (h : y ≤ x) (k : hp_Y p l e R s m args below meth c nL A D cells slots Q n L st ws t) : hp_Y p l e R s m args below meth c nL A D cells slots Q pc L (.int y :: .int x :: st) ws t := fun H locs ls hP hD hS hL => lv_icmp_ge hC.1 hC.2.1 hdg ht (fun _ => k H locs ls hP hD hS hL) (fun h2 => absurd h h2)
theorem hy_ge_f (hC : hp_Cx p s m meth c cc nL own A D adV cA G0) {x y : Int32} {off : Int} {tgt : Nat} (hdg : decode cc pc = .ok (.if_icmp .ge off, 3)) (ht : (pc : Int) + off = (tgt : Int)) (h : ¬ y ≤ x) (hn : pc + 3 = n) (k : hp_Y p l e R s m args below meth c nL A D cells slots Q n L st ws t) : hp_Y p l e R s m args below meth c nL A D cells slots Q pc L (.int y :: .int x :: st) ws t := by
  subst hn
  exact fun H locs ls hP hD hS hL => lv_icmp_ge hC.1 hC.2.1 hdg ht (fun h2 => absurd h2 h) (fun _ => k H locs ls hP hD hS hL)
theorem hy_eq_f (hC : hp_Cx p s m meth c cc nL own A D adV cA G0) {x : Int32} {off : Int} {tgt : Nat} (hdg : decode cc pc = .ok (.ifCond .eq off, 3)) (ht : (pc : Int) + off = (tgt : Int)) (h : ¬ x = 0) (hn : pc + 3 = n) (k : hp_Y p l e R s m args below meth c nL A D cells slots Q n L st ws t) : hp_Y p l e R s m args below meth c nL A D cells slots Q pc L (.int x :: st) ws t := by
  subst hn
  exact fun H locs ls hP hD hS hL => lv_if_eq hC.1 hC.2.1 hdg ht (fun h2 => absurd h2 h) (fun _ => k H locs ls hP hD hS hL)
theorem hy_obj (hC : hp_Cx p s m meth c cc nL own A D adV cA G0) {idx a : Nat} (hdg : decode cc pc = .ok (.invokespecial idx, 3)) (hl : hp_ok (.methodLink own idx Lib.objectInit)) (hcat : (st.map fun v => v.category).sum ≤ 8) (hR : 1 ≤ R.frames ∧ 20 ≤ R.locals) (hn : pc + 3 = n) (k : hp_Y p l e R s m args below meth c nL A D cells slots Q n L st ws t) : hp_Y p l e R s m args below meth c nL A D cells slots Q pc L (.ref a :: st) ws t := by
  subst hn
  intro H locs ls hP hD hS hL
  have hr : 2 * (F0 m pc ls (.ref a :: st)).monitorRoom + (st.map fun v => v.category).sum ≤ 8 := lv_room hcat
  refine W.objInit hC.1 hC.2.1 hC.2.2.2.1 (hp_wd hC.2.2.2.2.1 hl args) (hp_wd hC.2.2.2.2.1 hp_oini.1 args) (hp_wd hC.2.2.2.2.1 hp_oini.2 args) rfl (by rw [hC.2.2.1]; exact hL.1) rfl hdg hR.1 (by have := hR.2; omega) ?_
  exact W.eq (g2 := F0 m (pc + 3) ls st) rfl (k H locs ls hP hD hS hL)
theorem hy_get (hC : hp_Cx p s m meth c cc nL own A D adV cA G0) {ref C : String} {T : u_T} {N ci idx k i a : Nat} {fs : List Value} {v : Value} (hdg : decode cc pc = .ok (.getfield idx, 3)) (he : t[i]? = some (a, .inr (ci, fs))) (hin : ∀ w ∈ u_ws C T N, hp_ok w) (hc : vwCl[ci]? = some (C, T, N)) (hk : k < N) (hlink : hp_ok (.fieldLink own idx ref (T k).2.1 (T k).2.2.1)) (hr : (T k).1 = ref) (hv : fs[k]? = some v) (hn : pc + 3 = n) (kk : hp_Y p l e R s m args below meth c nL A D cells slots Q n L (v :: st) ws t) : hp_Y p l e R s m args below meth c nL A D cells slots Q pc L (.ref a :: st) ws t := by
  subst hn; subst hr
  intro H locs ls hP hD hS hL
  obtain ⟨u0, b0, -, -, -, -, hK, -⟩ := id hC.2.2.2.2.1
  exact va_get hC.1 hC.2.1 (Ts := u_ws C T N) (hp_lays hC.2.2.2.2.1 hin args) (fun _ h => h) hC.2.2.2.1 hK hP (ws.length + i) (hy_at he) hc k hk (hp_wd hC.2.2.2.2.1 hlink args) (fun _ h => h) hv hdg (kk H locs ls hP hD hS hL)
theorem hy_put (hC : hp_Cx p s m meth c cc nL own A D adV cA G0) {ref C : String} {T : u_T} {ty : Nat → FieldType} {N ci idx k i a : Nat} {fs : List Value} {v : Value} (hdg : decode cc pc = .ok (.putfield idx, 3)) (he : t[i]? = some (a, .inr (ci, fs))) (hin : ∀ w ∈ u_ws C T N, hp_ok w) (hty : ∀ k, k < N → parseFieldDescriptor (T k).2.2.1 = some (ty k)) (hnm : ∀ a, a < N → ∀ b, b < N → a ≠ b → (T a).2.1 ≠ (T b).2.1) (hc : vwCl[ci]? = some (C, T, N)) (hk : k < N) (hlink : hp_ok (.fieldLink own idx ref (T k).2.1 (T k).2.2.1)) (hr : (T k).1 = ref) (hfin : (T k).2.2.2 = false) (hnar : narrow (ty k) v = v) (hfit : fits (ty k) v = true) (hlen : k < fs.length) (ht : t.set i (a, .inr (ci, fs.set k v)) = t') (hn : pc + 3 = n) (kk : hp_Y p l e R s m args below meth c nL A D cells slots Q n L st ws t') : hp_Y p l e R s m args below meth c nL A D cells slots Q pc L (v :: .ref a :: st) ws t := by
  subst hn; subst hr
  intro H locs ls hP hD hS hL
  obtain ⟨u0, b0, -, -, -, -, hK, -⟩ := id hC.2.2.2.2.1
  refine va_put hC.1 hC.2.1 (Ts := u_ws C T N) (hp_lays hC.2.2.2.2.1 hin args) (fun _ h => h) ty hty hnm hC.2.2.2.1 hK hP hD hS (ws.length + i) (hy_at he) hc k hk (hp_wd hC.2.2.2.2.1 hlink args) (fun _ h => h) hfin (hty k hk) hnar hfit hlen hdg (fun H1 locs1 hP1 hD1 hS1 => ?_)
  rw [hy_set ht] at hP1 hD1
  exact kk H1 locs1 ls hP1 hD1 hS1 hL
theorem hy_putF (hC : hp_Cx p s m meth c cc nL own A D adV cA G0) (hni : meth.name = "<init>") {ref C : String} {T : u_T} {ty : Nat → FieldType} {N ci idx k i a : Nat} {fs : List Value} {v : Value} (hdg : decode cc pc = .ok (.putfield idx, 3)) (he : t[i]? = some (a, .inr (ci, fs))) (hin : ∀ w ∈ u_ws C T N, hp_ok w) (hty : ∀ k, k < N → parseFieldDescriptor (T k).2.2.1 = some (ty k)) (hnm : ∀ a, a < N → ∀ b, b < N → a ≠ b → (T a).2.1 ≠ (T b).2.1) (hc : vwCl[ci]? = some (C, T, N)) (hk : k < N) (hlink : hp_ok (.fieldLink own idx ref (T k).2.1 (T k).2.2.1)) (hr : (T k).1 = ref) (hfin : (T k).2.2.2 = true) (hdecl : (T k).1 = own) (hnar : narrow (ty k) v = v) (hfit : fits (ty k) v = true) (hlen : k < fs.length) (ht : t.set i (a, .inr (ci, fs.set k v)) = t') (hn : pc + 3 = n) (kk : hp_Y p l e R s m args below meth c nL A D cells slots Q n L st ws t') : hp_Y p l e R s m args below meth c nL A D cells slots Q pc L (v :: .ref a :: st) ws t := by
  subst hn; subst hr
  intro H locs ls hP hD hS hL
  obtain ⟨u0, b0, -, -, -, -, hK, -⟩ := id hC.2.2.2.2.1
  refine va_putF hC.1 hC.2.1 (Ts := u_ws C T N) (hp_lays hC.2.2.2.2.1 hin args) (fun _ h => h) ty hty hnm hC.2.2.2.1 hK hP hD hS (ws.length + i) (hy_at he) hc k hk (hp_wd hC.2.2.2.2.1 hlink args) (fun _ h => h) hfin hni hdecl (hty k hk) hnar hfit hlen hdg (fun H1 locs1 hP1 hD1 hS1 => ?_)
  rw [hy_set ht] at hP1 hD1
  exact kk H1 locs1 ls hP1 hD1 hS1 hL
theorem hy_newa (hC : hp_Cx p s m meth c cc nL own A D adV cA G0) {atype : ArrayType} {ty : FieldType} (j : Nat) {i : Int32} {N' : Nat} {a0 : vp_A} (hdg : decode cc pc = .ok (.newarray atype, 2)) (hty : newarray.typeOf atype = ty) (hac : hp_ok (.arrayClass (newarray.typeOf atype))) (hj : (hp_tys cA)[j]? = some (cA j, ty)) (hra : ∀ (U : State) (x y : ClassId), va_RA U x ty → va_RA U y ty → x = y) (ha : ∀ cB : ClassId, vp_cell cB a0 = arrV cB N' (fun _ => defaultValue ty)) (h0 : ¬ i < 0) (hN : i.toNatClampNeg = N') (hby : N' * componentBytes ty ≤ 536870912) (hf : cells + 1 ≤ R.cells ∧ slots + N' ≤ R.slots) (hn : pc + 2 = n) (kk : ∀ q : Nat, hp_Y p l e R s m args below meth c nL A D (cells + 1) (slots + N') Q n L (.ref q :: st) ws (t ++ [(q, .inl (cA j, a0))])) : hp_Y p l e R s m args below meth c nL A D cells slots Q pc L (.int i :: st) ws t := by
  subst hn
  intro H locs ls hP hD hS hL
  obtain ⟨u0, b0, -, -, -, -, hK, -⟩ := id hC.2.2.2.2.1
  refine va_newa (atype := atype) hC.1 hC.2.1 (hp_wd hC.2.2.2.2.1 hac _) hty hK hP hD hS hC.2.2.2.2.2.1 (a0 := a0) ha h0 hN hby hf.1 hf.2 hdg (fun q cB H1 hK1 hP1 hD1 hS1 => ?_)
  have h1 := (hK1.2 4 (cB, ty) rfl).2
  have h2 := (hK.2 j (cA j, ty) hj).2
  have hcB := hra _ _ _ h1 h2
  subst hcB
  rw [List.append_assoc] at hP1 hD1
  exact kk q H1 locs ls hP1 hD1 hS1 hL
theorem hy_newq (hC : hp_Cx p s m meth c cc nL own A D adV cA G0) {idx : Nat} {i : Int32} {N' : Nat} (hdg : decode cc pc = .ok (.anewarray idx, 3)) (hcl : hp_ok (.classLink own idx "HallPhone$House")) (h0 : ¬ i < 0) (hN : i.toNatClampNeg = N') (hby : N' * 4 ≤ 536870912) (hf : cells + 1 ≤ R.cells ∧ slots + N' ≤ R.slots) (hn : pc + 3 = n) (kk : ∀ q : Nat, hp_Y p l e R s m args below meth c nL A D (cells + 1) (slots + N') Q n L (.ref q :: st) ws (t ++ [(q, .inl (cA 3, N', .inr (.inr (.inr (.inr fun _ => none)))))])) : hp_Y p l e R s m args below meth c nL A D cells slots Q pc L (.int i :: st) ws t := by
  subst hn
  intro H locs ls hP hD hS hL
  obtain ⟨u0, b0, -, -, -, -, hK, -⟩ := id hC.2.2.2.2.1
  refine va_newq hC.1 hC.2.1 hC.2.2.2.1 (hp_wd hC.2.2.2.2.1 hcl _) (hp_AO hC.2.2.2.2.1) hK hP hD hS hC.2.2.2.2.2.1 h0 hN hby hf.1 hf.2 hdg (fun q cB H1 hK1 hP1 hD1 hS1 => ?_)
  have h1 := (hK1.2 4 (cB, .object "HallPhone$House") rfl).2
  have h2 := (hK.2 3 (cA 3, .object "HallPhone$House") rfl).2
  have hcB : cB = cA 3 := by
    obtain ⟨_, _, -, -, -, e1⟩ := h1
    obtain ⟨_, _, -, -, -, e2⟩ := h2
    exact Option.some.inj (e1.symm.trans e2)
  subst hcB
  rw [List.append_assoc] at hP1 hD1
  exact kk q H1 locs ls hP1 hD1 hS1 hL
theorem hy_new (hC : hp_Cx p s m meth c cc nL own A D adV cA G0) {C : String} {T : u_T} {ty : Nat → FieldType} {N ci idx : Nat} {fs : List Value} (hdg : decode cc pc = .ok (.new idx, 3)) (hcl : hp_ok (.classLink own idx C)) (hins : hp_ok (.instantiable C N)) (hini : hp_ok (.initialized C)) (hin : ∀ w ∈ u_ws C T N, hp_ok w) (hty : ∀ k, k < N → parseFieldDescriptor (T k).2.2.1 = some (ty k)) (hc : vwCl[ci]? = some (C, T, N)) (hfs : ∀ j, j < N → defaultValue (ty j) = vp_V fs j) (hf : cells + 1 ≤ R.cells ∧ slots + N ≤ R.slots) (hn : pc + 3 = n) (kk : ∀ q : Nat, hp_Y p l e R s m args below meth c nL A D (cells + 1) (slots + N) Q n L (.ref q :: st) ws (t ++ [(q, .inr (ci, fs))])) : hp_Y p l e R s m args below meth c nL A D cells slots Q pc L st ws t := by
  subst hn
  intro H locs ls hP hD hS hL
  obtain ⟨u0, b0, -, -, -, -, hK, -⟩ := id hC.2.2.2.2.1
  refine va_new (ci := ci) (fs := fs) hC.1 hC.2.1 (Ts := u_ws C T N) (hp_lays hC.2.2.2.2.1 hin args) (fun _ h => h) ty hty hC.2.2.2.1 (hp_wd hC.2.2.2.2.1 hcl _) (hp_wd hC.2.2.2.2.1 hins _) (hp_wd hC.2.2.2.2.1 hini _) hK hP hD hS hC.2.2.2.2.2.1 hc hfs hf.1 hf.2 hdg (fun q H1 hP1 hD1 hS1 => ?_)
  rw [List.append_assoc] at hP1 hD1
  exact kk q H1 locs ls hP1 hD1 hS1 hL
theorem hy_alen (hC : hp_Cx p s m meth c cc nL own A D adV cA G0) {i a j : Nat} {x : vp_A} {v : Int32} (hdg : decode cc pc = .ok (.arraylength, 1)) (he : t[i]? = some (a, .inl (cA j, x))) (hj : j = 3) (hv : Int32.ofNat x.1 = v) (hn : pc + 1 = n) (k : hp_Y p l e R s m args below meth c nL A D cells slots Q n L (.int v :: st) ws t) : hp_Y p l e R s m args below meth c nL A D cells slots Q pc L (.ref a :: st) ws t := by
  subst hn
  intro H locs ls hP hD hS hL
  obtain ⟨u0, b0, -, -, -, -, hK, -⟩ := id hC.2.2.2.2.1
  have hex : ∃ ty : FieldType, (hp_tys cA)[j]? = some (cA j, ty) := by
    subst hj; exact ⟨_, rfl⟩
  obtain ⟨ty, hty⟩ := hex
  exact va_alen hC.1 hC.2.1 hK hP (ws.length + i) j (hy_at he) hty hv hdg (k H locs ls hP hD hS hL)
theorem hy_aast (hC : hp_Cx p s m meth c cc nL own A D adV cA G0) {i0 k0 a v N : Nat} {vs : List Value} {f : Nat → Option Nat} {i : Int32} (hdg : decode cc pc = .ok (.aastore, 1)) (he : t[i0]? = some (a, .inl (cA 3, N, .inr (.inr (.inr (.inr f)))))) (hv : t[k0]? = some (v, .inr (2, vs))) (hin : vp_in i N) (ht : t.set i0 (a, .inl (cA 3, N, .inr (.inr (.inr (.inr (va_up f i.toNatClampNeg (some v))))))) = t') (hn : pc + 1 = n) (kk : hp_Y p l e R s m args below meth c nL A D cells slots Q n L st ws t') : hp_Y p l e R s m args below meth c nL A D cells slots Q pc L (.ref v :: .int i :: .ref a :: st) ws t := by
  subst hn
  intro H locs ls hP hD hS hL
  obtain ⟨u0, b0, -, -, -, -, hK, -⟩ := id hC.2.2.2.2.1
  refine va_astq hC.1 hC.2.1 hK hP hD hS (ws.length + i0) 3 (ws.length + k0) 2 (hy_at he) rfl (hy_at hv) rfl hin hdg (fun H1 locs1 hP1 hD1 hS1 => ?_)
  rw [hy_set ht] at hP1 hD1
  exact kk H1 locs1 ls hP1 hD1 hS1 hL
theorem hy_getsi (hC : hp_Cx p s m meth c cc nL own A D adV cA G0) {C nm d : String} {z : Int32} {idx : Nat} (hdg : decode cc pc = .ok (.getstatic idx, 3)) (hl : Cond.laysStatic C nm d ∈ lw_tbl) (hi : Cond.initialized C ∈ lw_tbl) (hv : hp_is (Cond.eq (.static C nm d) (.int z))) (hlink : hp_ok (.fieldLink own idx C nm d)) (hn : pc + 3 = n) (kk : hp_Y p l e R s m args below meth c nL A D cells slots Q n L (.int z :: st) ws t) : hp_Y p l e R s m args below meth c nL A D cells slots Q pc L st ws t := by
  subst hn
  intro H locs ls hP hD hS hL
  exact va_gets hC.1 hC.2.1 (hp_TZi hC.2.2.2.2.1 hl hi hv) hS hC.2.2.2.1 (hp_wd hC.2.2.2.2.1 hlink args) (fun _ h => h) hdg (kk H locs ls hP hD hS hL)
theorem hy_ret {at0 : (Nat → Nat → Nat) → Nat} {WL : hp_WLt} {h0 : Nat} (hC : hp_Cx p s m meth c cc nL own A D adV cA G0) (hr : meth.sig.returnType = none) (hdg : decode cc pc = .ok (.return_, 1)) (adr : Nat → Nat → Nat) (ha : at0 adr = h0) (hw : t = WL adr adV cA) (hf : cells ≤ K0 ∧ slots ≤ S0) : hp_Y p l e R s m args below meth c nL A D cells slots (MQ below (hp_QN A D adV cA at0 WL h0 ws) args s K0 S0 A) pc L [] ws t := by
  intro H locs ls hP hD hS hL
  subst hw
  have hlocks := hC.2.2.2.2.2.2.1
  exact W.widen hf.1 hf.2 (W.vret hC.1 hC.2.1 hr (fun t ht hWm => ⟨⟨adr, rfl, ha, by rw [ht]; exact hP, hD⟩, hS.F ht⟩) hS.2.2 hdg hlocks)
theorem hp_callRN {at0 : (Nat → Nat → Nat) → Nat} {WL : hp_WLt} {h0 : Nat} {w : va_W} {ls : Array Slot} {st0 : List Value} {a : Array Value} {mc ms : Nat} {H : Heap} {locs : List Loc} (hr : va_Run p l e R s m args below meth c H locs cells slots mc ms (F0 m pc ls st0) st (hp_QN A D adV cA at0 WL h0 w a) A) (hS : va_S A s.heap H locs)
    (kk : ∀ (adr : Nat → Nat → Nat) (H1 : Heap) (locs1 : List Loc), at0 adr = h0 → va_P D vwCl (w ++ WL adr adV cA) H1 → va_D A (w ++ WL adr adV cA) → va_S A s.heap H1 locs1 → W p l e R s m args below meth c H1 locs1 (cells + mc) (slots + ms) Q (F0 m (pc + 3) ls st)) : W p l e R s m args below meth c H locs cells slots Q (F0 m pc ls st0) := by
  intro T hT X
  obtain ⟨v, st₀, t, T', L, h0, X', hL, e1, e2, ⟨⟨adr, hv, ha, hw, hd⟩, hz, hk⟩, st⟩ := hr T hT X
  cases hv
  rw [h0] at hz hk
  obtain ⟨t2, a1, b1⟩ := kk adr T'.heap (locs ++ L) ha (by rw [e1]; exact hw) hd
    ⟨Nat.le_trans hS.1 (by rw [e1]; exact hz), fun q h1 h2 => by rw [e1, hk q (Nat.lt_of_lt_of_le h1 hS.1) h2]; exact hS.2.1 q h1 h2, fun q hq => by
      rcases List.mem_append.mp hq with h | h
      · exact hS.2.2 q h
      · exact hL q h⟩ T' rfl X'
  exact ⟨t2, st t2 a1, b1⟩
theorem hp_preN {w : va_W} {H : Heap} {locs : List Loc} (hC : hp_Cx p s m meth c cc nL own A D adV cA G0) (hS : va_S A s.heap H locs) (hP : va_P D vwCl w H) (hD : va_D A w) {av : List Value} (U : State) (hU : U.heap = H) (hWm : s.WarmedH U.vm) : va_Pc av (hp_PN A D adV cA w) av.toArray U := by
  refine ⟨rfl, ?_, fun q hq => hC.2.2.2.2.2.1 q (Nat.le_trans hS.1 (by rw [← hU]; exact hq)), by rw [hU]; exact hP, hD⟩
  exact hC.2.2.2.2.1.move hWm (fun q h1 h2 => by rw [hU]; exact hS.2.1 q h1 h2)
theorem hy_ctorN (hC : hp_Cx p s m meth c cc nL own A D adV cA G0) {y : MethodName} {cc1 : ByteArray} {nL1 k d1 k1 s1 idx q : Nat} {host : String} {As st0 : List Value} {c0 : va_E} {at0 : (Nat → Nat → Nat) → Nat} {WL : hp_WLt} {t1 : va_W} (hct : hp_Ni l y cc1 nL1 d1 k1 s1 As c0 at0 WL) (hk : hp_Ki y cc1 nL1 k) (hl : Cond.methodLinkNest own idx y host ∈ lw_tbl) (hdg : decode cc pc = .ok (.invokespecial idx, 3)) (ht : t = t1 ++ [(q, c0)]) (hlen : As.length = k) (hst : st0 = As.reverse ++ .ref q :: st) (hcat : (st.map fun v => v.category).sum ≤ 8) (hR : d1 + 1 ≤ R.frames ∧ 43 * d1 + 43 ≤ R.locals) (hf : cells + k1 ≤ R.cells ∧ slots + s1 ≤ R.slots) (hn : pc + 3 = n) (kk : ∀ adr : Nat → Nat → Nat, at0 adr = q → hp_Y p l e R s m args below meth c nL A D (cells + k1) (slots + s1) Q n L st ws (t1 ++ WL adr adV cA)) : hp_Y p l e R s m args below meth c nL A D cells slots Q pc L st0 ws t := by
  subst hn; subst ht
  intro H locs ls hP hD hS hL
  have hT := hC.2.2.2.2.1
  rw [← List.append_assoc] at hP hD
  have hCN : va_CN R s args own idx y host cc1 nL1 none [Cond.code y cc1 nL1 none] (hp_rmN d1 k1 s1) k1 s1 k := by
    refine ⟨⟨rfl, rfl, hR.1, ?_, hp_codeIn hT hk.2.2.2.1, List.mem_cons_self⟩, hp_wd hT hk.2.2.2.1 args, hp_wd hT hk.2.2.1 args, ⟨hk.2.2.2.2.1.1, hk.2.2.2.2.1.2.1⟩, fun sig h => ?_, va_Nw.use rfl (hp_wdM hT hl)⟩
    · have := hk.2.2.2.2.2
      show 8 + (nL1 + 11) + 43 * d1 ≤ R.locals
      omega
    · have h2 := hk.2.2.2.2.1.2.2
      rw [h] at h2
      exact (Option.some.inj h2).symm
  exact hp_callRN (va_runIN (As := As) (rest := st) (host := host) ⟨hC.1, hC.2.1, hC.2.2.1, hC.2.2.2.1, fun w h => absurd h List.not_mem_nil⟩ (Ts := []) (hct A D adV cA (ws ++ t1) q) ⟨hCN, hk.1, hp_wd hT hk.2.1 args⟩ ⟨hp_blindN, hp_preN hC hS hP hD⟩ rfl hlen hL.1 hst (lv_room hcat) hdg hf) hS (fun adr H1 locs1 ha hP1 hD1 hS1 => by rw [List.append_assoc] at hP1 hD1; exact kk adr ha H1 locs1 ls hP1 hD1 hS1 hL)
theorem hy_ctor (hC : hp_Cx p s m meth c cc nL own A D adV cA G0) {y : MethodName} {cc1 : ByteArray} {nL1 k d1 k1 s1 idx q : Nat} {As st0 : List Value} {c0 : va_E} {at0 : (Nat → Nat → Nat) → Nat} {WL : hp_WLt} {t1 : va_W} (hct : hp_Ni l y cc1 nL1 d1 k1 s1 As c0 at0 WL) (hk : hp_Ki y cc1 nL1 k) (hl : hp_ok (.methodLink own idx y)) (hdg : decode cc pc = .ok (.invokespecial idx, 3)) (ht : t = t1 ++ [(q, c0)]) (hlen : As.length = k) (hst : st0 = As.reverse ++ .ref q :: st) (hcat : (st.map fun v => v.category).sum ≤ 8) (hR : d1 + 1 ≤ R.frames ∧ 43 * d1 + 43 ≤ R.locals) (hf : cells + k1 ≤ R.cells ∧ slots + s1 ≤ R.slots) (hn : pc + 3 = n) (kk : ∀ adr : Nat → Nat → Nat, at0 adr = q → hp_Y p l e R s m args below meth c nL A D (cells + k1) (slots + s1) Q n L st ws (t1 ++ WL adr adV cA)) : hp_Y p l e R s m args below meth c nL A D cells slots Q pc L st0 ws t := by
  subst hn; subst ht
  intro H locs ls hP hD hS hL
  have hT := hC.2.2.2.2.1
  rw [← List.append_assoc] at hP hD
  have hCB : CallB R s args own idx y cc1 nL1 none [Cond.code y cc1 nL1 none] (hp_rmN d1 k1 s1) k1 s1 k := by
    refine ⟨rfl, rfl, hR.1, ?_, hp_codeIn hT hk.2.2.2.1, List.mem_cons_self, hp_wd hT hk.2.2.2.1 args, hp_wd hT hk.2.2.1 args, ⟨hk.2.2.2.2.1.1, hk.2.2.2.2.1.2.1⟩, fun sig h => ?_, hp_wd hT hl args⟩
    · have := hk.2.2.2.2.2
      show 8 + (nL1 + 11) + 43 * d1 ≤ R.locals
      omega
    · have h2 := hk.2.2.2.2.1.2.2
      rw [h] at h2
      exact (Option.some.inj h2).symm
  exact hp_callRN (va_runI (As := As) (rest := st) ⟨hC.1, hC.2.1, hC.2.2.1, hC.2.2.2.1, fun w h => absurd h List.not_mem_nil⟩ (Ts := []) (hct A D adV cA (ws ++ t1) q) ⟨hCB, hk.1, hp_wd hT hk.2.1 args⟩ ⟨hp_blindN, hp_preN hC hS hP hD⟩ rfl hlen hL.1 hst (lv_room hcat) hdg hf) hS (fun adr H1 locs1 ha hP1 hD1 hS1 => by rw [List.append_assoc] at hP1 hD1; exact kk adr ha H1 locs1 ls hP1 hD1 hS1 hL)
end HPY
