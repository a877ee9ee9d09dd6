/-! ===== the memory of the class and the reference: a group, a part, a place; what each cell holds ===== -/
abbrev hp_M : Type := Nat → Nat → Nat → Int32
abbrev hp_T : Type := Option (List Int32)
def hp_sr (M : hp_M) (g j : Nat) (f : Nat → Int32) : hp_M := fun g' j' => if g' = g ∧ j' = j then f else M g' j'
def hp_p (M : hp_M) (g j i : Nat) (v : Int32) : hp_M := fun g' j' i' => if g' = g ∧ j' = j ∧ i' = i then v else M g' j' i'
theorem hp_p_sr (M : hp_M) (g j i : Nat) (v : Int32) : hp_sr M g j (upd (M g j) i v) = hp_p M g j i v := by
  funext g' j' i'
  unfold hp_sr hp_p upd
  by_cases h : g' = g ∧ j' = j
  · obtain ⟨rfl, rfl⟩ := h
    simp
  · rw [if_neg h, if_neg (fun q => h ⟨q.1, q.2.1⟩)]
/-- a row that may be null: below 0 null, else the thing of that number -/
def hp_vr (adV : Nat → Nat) (x : Int32) : Value := if x < 0 then .null else .ref (adV x.toNatClampNeg)
def hp_vh (adr : Nat → Nat → Nat) : Nat → Option Nat := fun i => some (adr (2 + i) 0)
-- what the cells of each kind hold
abbrev hp_F4 (adr : Nat → Nat → Nat) (f : Nat → Int32) : List Value := [.ref (adr 12 5), .int (f 1), .int (f 2)]
abbrev hp_F5 (adr : Nat → Nat → Nat) (g : Nat) (f : Nat → Int32) : List Value := [.int (f 0), .int (f 1), .int (f 2), .ref (adr g 1), .ref (adr g 2), .ref (adr g 3), .ref (adr g 4), .ref (adr g 5), .ref (adr g 6), .ref (adr g 8)]
abbrev hp_F6 (f : Nat → Int32) : List Value := [.int (f 0), .int (f 1), .int (f 2), .int (f 3), .int (f 4)]
abbrev hp_F7 (adr : Nat → Nat → Nat) (g : Nat) (f : Nat → Int32) : List Value := [.ref (adr g 7), .int (f 1)]
abbrev hp_F8 (adr : Nat → Nat → Nat) (adV : Nat → Nat) (f : Nat → Int32) : List Value := [.ref (adr 12 2), .int (f 1), .int (f 2), .int (f 3), .int (f 4), .int (f 5), hp_vr adV (f 6), .int (f 7), .int (f 8), .int (f 9)]
abbrev hp_F9 (adr : Nat → Nat → Nat) (g : Nat) (f : Nat → Int32) : List Value := [.ref (adr g 9), .ref (adr g 10), .int (f 2)]
abbrev hp_F11 (adr : Nat → Nat → Nat) (f : Nat → Int32) : List Value := [.ref (adr 0 0), .ref (adr 1 0), .ref (adr 12 4), .ref (adr 10 0), .ref (adr 11 0), .int (f 5), .ref (adr 12 1), .ref (adr 12 3), .int (f 8), .ref (adr 14 0)]
def hp_ch (adr : Nat → Nat → Nat) (cA : Nat → Nat) (g j : Nat) (f : Nat → Int32) : va_E := match j with
  | 0 => .inr (2, hp_F5 adr g f)
  | 1 => .inl (cA 0, 6, .inl f)
  | 2 => .inl (cA 0, 10, .inl f)
  | 3 => .inl (cA 0, 110, .inl f)
  | 4 => .inl (cA 0, 100, .inl f)
  | 5 => .inr (3, hp_F6 f)
  | 6 => .inr (4, hp_F7 adr g f)
  | 7 => .inl (cA 0, 10, .inl f)
  | 8 => .inr (6, hp_F9 adr g f)
  | 9 => .inl (cA 0, 8, .inl f)
  | _ => .inl (cA 0, 8, .inl f)
def hp_cp (adr : Nat → Nat → Nat) (adV cA : Nat → Nat) (j : Nat) (f : Nat → Int32) : va_E := match j with
  | 0 => .inr (8, hp_F11 adr f)
  | 1 => .inr (5, hp_F8 adr adV f)
  | 2 => .inl (cA 0, 700, .inl f)
  | 3 => .inl (cA 0, 700, .inl f)
  | 4 => .inr (1, hp_F4 adr f)
  | _ => .inl (cA 3, 8, .inr (.inr (.inr (.inr (hp_vh adr)))))
abbrev hp_FB (adr : Nat → Nat → Nat) (f : Nat → Int32) : List Value := [.ref (adr 14 1), .int (f 1), .int (f 2), .int (f 3)]
/-- the report: the builder, and its row of bytes, whose length stands at the place 5000 -/
def hp_cb (adr : Nat → Nat → Nat) (cA : Nat → Nat) (j : Nat) (f : Nat → Int32) : va_E := match j with
  | 0 => .inr (0, hp_FB adr f)
  | _ => .inl (cA 2, (f 5000).toNatClampNeg, .inl f)
def hp_c (adr : Nat → Nat → Nat) (adV cA : Nat → Nat) (g j : Nat) (f : Nat → Int32) : va_E := if g < 12 then hp_ch adr cA g j f else if g = 12 then hp_cp adr adV cA j f else hp_cb adr cA j f
theorem hp_c_h {adr : Nat → Nat → Nat} {adV cA : Nat → Nat} {g : Nat} (h : g < 12) (j : Nat) (f : Nat → Int32) : hp_c adr adV cA g j f = hp_ch adr cA g j f := if_pos h
theorem hp_c_p {adr : Nat → Nat → Nat} {adV cA : Nat → Nat} (j : Nat) (f : Nat → Int32) : hp_c adr adV cA 12 j f = hp_cp adr adV cA j f := rfl
def hp_wl (ids : List (Nat × Nat)) (adr : Nat → Nat → Nat) (adV cA : Nat → Nat) (M : hp_M) : va_W := ids.map fun q => (adr q.1 q.2, hp_c adr adV cA q.1 q.2 (M q.1 q.2))
/-- the report's cells: the builder and its row of bytes -/
def hp_sb (adr : Nat → Nat → Nat) (cA : Nat → Nat) (rep : hp_T) (tl : va_W) : Prop := match rep with
  | none => tl = []
  | some r => ∃ (q cap : Nat) (f : Nat → Int32) (mb : Int32), tl = [(adr 12 6, .inr (0, [.ref q, .int 0, .int mb, .int (nI r.length)])), (q, .inl (cA 2, cap, .inl f))] ∧ r.length ≤ cap ∧ cap < 4096 ∧ ∀ (j : Nat) (x : Int32), r[j]? = some x → f j = x ∧ 0 ≤ x ∧ x ≤ 127
def hp_W (A : Nat → Prop) (D : va_G) (ids : List (Nat × Nat)) (adr : Nat → Nat → Nat) (adV cA : Nat → Nat) (M : hp_M) (rep : hp_T) (H : Heap) : Prop :=
  ∃ tl : va_W, hp_sb adr cA rep tl ∧ va_P D vwCl (hp_wl ids adr adV cA M ++ tl) H ∧ va_D A (hp_wl ids adr adV cA M ++ tl)
abbrev hp_tys (cA : Nat → Nat) : List (ClassId × FieldType) := [(cA 0, .int), (cA 0, .int), (cA 2, .byte), (cA 3, .object "HallPhone$House")]
def hp_st : List (Nat × Term) := [(0, .static "HallPhone$Verb" "LIMIT" "LHallPhone$Verb;"), (1, .static "HallPhone$Verb" "UNIT" "LHallPhone$Verb;"), (2, .static "HallPhone$Verb" "RATE" "LHallPhone$Verb;"), (3, .static "HallPhone$Verb" "EAR" "LHallPhone$Verb;"), (4, .static "HallPhone$Verb" "SECRET" "LHallPhone$Verb;"), (5, .static "HallPhone$Verb" "PATIENCE" "LHallPhone$Verb;"), (6, .static "HallPhone$Verb" "WANT" "LHallPhone$Verb;"), (7, .static "HallPhone$Verb" "DROP" "LHallPhone$Verb;"), (8, .static "HallPhone$Verb" "HANG" "LHallPhone$Verb;"), (9, .static "HallPhone$Verb" "RING" "LHallPhone$Verb;"), (10, .static "HallPhone$Verb" "PAY" "LHallPhone$Verb;"), (11, .static "HallPhone$Verb" "PASS" "LHallPhone$Verb;"), (12, .static "HallPhone" "FIRST_SETTINGS" "[I"), (13, .static "HallPhone$1" "$SwitchMap$HallPhone$Verb" "[I"), (14, .static "HallPhone$Verb" "ALL" "[LHallPhone$Verb;"), (20, .string "HallPhone" 57), (21, .string "HallPhone" 79), (22, .string "HallPhone" 81), (23, .string "HallPhone" 122), (24, .string "HallPhone" 253), (25, .string "HallPhone" 292), (26, .string "HallPhone" 295), (27, .string "HallPhone$Reader" 70), (28, .string "HallPhone$Reader" 85), (29, .string "HallPhone$Verb" 83), (30, .string "HallPhone$Verb" 89), (31, .string "HallPhone$Verb" 92), (32, .string "HallPhone$Verb" 95), (33, .string "HallPhone$Verb" 98), (34, .string "HallPhone$Verb" 101), (35, .string "HallPhone$Verb" 104), (36, .string "HallPhone$Verb" 107), (37, .string "HallPhone$Verb" 110), (38, .string "HallPhone$Verb" 113), (39, .string "HallPhone$Verb" 116), (40, .string "HallPhone$Verb" 119), (120, .field (.string "HallPhone" 57) "java/lang/String" "value" "[B"), (121, .field (.string "HallPhone" 79) "java/lang/String" "value" "[B"), (122, .field (.string "HallPhone" 81) "java/lang/String" "value" "[B"), (123, .field (.string "HallPhone" 122) "java/lang/String" "value" "[B"), (124, .field (.string "HallPhone" 253) "java/lang/String" "value" "[B"), (125, .field (.string "HallPhone" 292) "java/lang/String" "value" "[B"), (126, .field (.string "HallPhone" 295) "java/lang/String" "value" "[B"), (127, .field (.string "HallPhone$Reader" 70) "java/lang/String" "value" "[B"), (128, .field (.string "HallPhone$Reader" 85) "java/lang/String" "value" "[B"), (129, .field (.string "HallPhone$Verb" 83) "java/lang/String" "value" "[B"), (130, .field (.string "HallPhone$Verb" 89) "java/lang/String" "value" "[B"), (131, .field (.string "HallPhone$Verb" 92) "java/lang/String" "value" "[B"), (132, .field (.string "HallPhone$Verb" 95) "java/lang/String" "value" "[B"), (133, .field (.string "HallPhone$Verb" 98) "java/lang/String" "value" "[B"), (134, .field (.string "HallPhone$Verb" 101) "java/lang/String" "value" "[B"), (135, .field (.string "HallPhone$Verb" 104) "java/lang/String" "value" "[B"), (136, .field (.string "HallPhone$Verb" 107) "java/lang/String" "value" "[B"), (137, .field (.string "HallPhone$Verb" 110) "java/lang/String" "value" "[B"), (138, .field (.string "HallPhone$Verb" 113) "java/lang/String" "value" "[B"), (139, .field (.string "HallPhone$Verb" 116) "java/lang/String" "value" "[B"), (140, .field (.string "HallPhone$Verb" 119) "java/lang/String" "value" "[B")]
/-- the things that stand from the start on, by their numbers: the enum's constants, rows of numbers, texts and what they hold -/
def hp_E (adV : Nat → Nat) (u0 : State) (b0 : Nat) : Prop := ∀ q ∈ hp_st, q.2.eval #[Value.ref b0] u0 none [] u0 = some (.ref (adV q.1))
/-- what the tables say, and the start from which the run came: no cell of it has changed -/
def hp_Tab (A : Nat → Prop) (D : va_G) (adV cA : Nat → Nat) (U : State) (H : Heap) : Prop := ∃ (u0 : State) (b0 : Nat), (∀ w ∈ lw_tbl, w.before #[Value.ref b0] u0 = true) ∧ (Jvm.Cond.and given_1 narrow_1).before #[Value.ref b0] u0 = true ∧ u0.WarmedH U.vm ∧ (∀ a : Nat, a < u0.heap.size → ¬ A a ∧ H[a]? = u0.heap[a]?) ∧ va_K D vwCl (hp_tys cA) U ∧ hp_E adV u0 b0
theorem hp_Tab.move {A : Nat → Prop} {D : va_G} {adV cA : Nat → Nat} {s U : State} {H H1 : Heap} (h : hp_Tab A D adV cA s H) (hW : s.WarmedH U.vm) (hH : ∀ q : Nat, q < H.size → ¬ A q → H1[q]? = H[q]?) : hp_Tab A D adV cA U H1 := by
  obtain ⟨u0, b0, h1, h2, h3, h4, h5, h6⟩ := h
  refine ⟨u0, b0, h1, h2, State.WarmedH.trans h3 hW, fun a ha => ⟨(h4 a ha).1, ?_⟩, h5.moved hW.alike, h6⟩
  have e := (h4 a ha).2
  have hlt : a < H.size := by
    have e2 : H[a]? = some u0.heap[a] := by rw [e]; exact Array.getElem?_eq_getElem ha
    exact (Array.getElem?_eq_some_iff.mp e2).1
  rw [hH a hlt (h4 a ha).1, e]
def hp_ok (w : Cond) : Prop := w ∈ lw_tbl ∧ goodWord w = true
theorem hp_wd {A : Nat → Prop} {D : va_G} {adV cA : Nat → Nat} {s : State} {H : Heap} (h : hp_Tab A D adV cA s H) {w : Cond} (hw : hp_ok w) (args : Array Value) : w.before args s = true := by
  obtain ⟨u0, b0, h1, -, h3, -⟩ := h
  exact word_at h3 (good_of_word hw.2) (h1 w hw.1)
theorem hp_wdM {A : Nat → Prop} {D : va_G} {adV cA : Nat → Nat} {s : State} {H : Heap} (h : hp_Tab A D adV cA s H) {a : String} {i : Nat} {x : MethodName} {b : String} (hw : Cond.methodLinkNest a i x b ∈ lw_tbl) : va_Nw (.methodLinkNest a i x b) s := by
  obtain ⟨u0, b0, h1, -, h3, -⟩ := h
  exact va_Nw.warmM h3 (va_Nw.of rfl (h1 _ hw))
theorem hp_wdF {A : Nat → Prop} {D : va_G} {adV cA : Nat → Nat} {s : State} {H : Heap} (h : hp_Tab A D adV cA s H) {a : String} {i : Nat} {b n d : String} {x : String} (hw : Cond.fieldLinkNest a i b n d x ∈ lw_tbl) (args : Array Value) : (Cond.fieldLinkNest a i b n d x).before args s = true := by
  obtain ⟨u0, b0, h1, -, h3, -⟩ := h
  exact va_Nw.use rfl (va_Nw.warmF h3 (va_Nw.of rfl (h1 _ hw)))
theorem hp_wl_at {A : Nat → Prop} {ids : List (Nat × Nat)} {adr : Nat → Nat → Nat} {adV cA : Nat → Nat} {M : hp_M} {tl : va_W} {g j : Nat} (hD : va_D A (hp_wl ids adr adV cA M ++ tl)) (hq : (g, j) ∈ ids) : ∃ k : Nat, (hp_wl ids adr adV cA M ++ tl)[k]? = some (adr g j, hp_c adr adV cA g j (M g j)) ∧ ∀ f : Nat → Int32, (hp_wl ids adr adV cA M ++ tl).set k (adr g j, hp_c adr adV cA g j f) = hp_wl ids adr adV cA (hp_sr M g j f) ++ tl := by
  obtain ⟨k, hk⟩ := List.getElem?_of_mem hq
  have hl : k < ids.length := (List.getElem?_eq_some_iff.mp hk).1
  have hlw : (hp_wl ids adr adV cA M).length = ids.length := by simp [hp_wl]
  have at0 : ∀ (i : Nat) (q : Nat × Nat), ids[i]? = some q → (hp_wl ids adr adV cA M ++ tl)[i]? = some (adr q.1 q.2, hp_c adr adV cA q.1 q.2 (M q.1 q.2)) := by
    intro i q hi
    have hi2 : i < ids.length := (List.getElem?_eq_some_iff.mp hi).1
    rw [List.getElem?_append_left (by rw [hlw]; exact hi2)]
    simp [hp_wl, hi]
  refine ⟨k, at0 k _ hk, fun f => ?_⟩
  apply List.ext_getElem?
  intro i
  by_cases hik : i = k
  · subst hik
    rw [List.getElem?_set_self (by simp [hlw]; omega), List.getElem?_append_left (by simp [hp_wl]; omega)]
    simp [hp_wl, hk, hp_sr]
  · rw [List.getElem?_set_ne (Ne.symm hik)]
    by_cases hi : i < ids.length
    · have e0 : ids[i]? = some ids[i] := List.getElem?_eq_getElem hi
      rw [at0 i _ e0, List.getElem?_append_left (by simp [hp_wl]; omega)]
      have hne : ¬ ((ids[i]).1 = g ∧ (ids[i]).2 = j) := by
        rintro ⟨e1, e2⟩
        have e3 : ids[i]? = some (g, j) := by rw [e0]; exact congrArg some (Prod.ext e1 e2)
        exact hik (hD.1 i k _ _ (at0 i _ e3) (at0 k _ hk) rfl)
      simp only [hp_wl, List.getElem?_map, e0, Option.map_some, hp_sr, if_neg hne]
    · rw [List.getElem?_append_right (by rw [hlw]; omega), List.getElem?_append_right (by simp [hp_wl]; omega)]
      simp [hp_wl]
/-- what stands fixed while a method runs -/
def hp_Cx {α : Type} (p : Program) (s : State) (m : MethodId) (meth : Method) (c : Code) (cc : ByteArray) (nL : Nat) (own : String) (A : Nat → Prop) (D : va_G) (adV cA : Nat → Nat) (G0 : Option α) : Prop :=
  p.tables.exec = Jvm.exec ∧ c.code = cc ∧ c.maxLocals = nL ∧ s.vm.findClass own = some m.cls ∧ hp_Tab A D adV cA s s.heap ∧ (∀ q : Nat, s.heap.size ≤ q → A q) ∧ meth.locks = false ∧ G0 ≠ none
/-- from here the run comes to Q, whatever heap holds this memory: G is what is still to be computed, G0 the method's whole answer -/
def hp_Z {α : Type} (p : Program) (l : Launch) (e : Env) (R : Room) (s : State) (m : MethodId) (args : Array Value) (below : List Frame) (meth : Method) (c : Code) (nL : Nat) (A : Nat → Prop) (D : va_G) (ids : List (Nat × Nat)) (adr : Nat → Nat → Nat) (adV cA : Nat → Nat) (cells slots : Nat) (Q : State → Prop) (G0 : Option α) (rep : hp_T) (pc : Nat) (L : List (Nat × Value)) (st : List Value) (M : hp_M) (G : Option α) : Prop :=
  ∀ (H : Heap) (locs : List Loc) (ls : Array Slot), G = G0 → hp_W A D ids adr adV cA M rep H → va_S A s.heap H locs → lv_has ls nL L → W p l e R s m args below meth c H locs cells slots Q (F0 m pc ls st)
section HPZ
variable {p : Program} {l : Launch} {e : Env} {R : Room} {s : State} {m : MethodId} {args : Array Value} {below : List Frame} {meth : Method} {c : Code} {cells slots : Nat} {Q : State → Prop}
variable {cc : ByteArray} {nL : Nat} {own : String} {A : Nat → Prop} {D : va_G} {ids : List (Nat × Nat)} {adr : Nat → Nat → Nat} {adV cA : Nat → Nat} {α : Type} {G0 G G1 G2 : Option α} {M : hp_M} {rep : hp_T} {pc n : Nat} {L : List (Nat × Value)} {st : List Value}
theorem hz_none (hC : hp_Cx p s m meth c cc nL own A D adV cA G0) : hp_Z p l e R s m args below meth c nL A D ids adr adV cA cells slots Q G0 rep pc L st M none := fun _ _ _ hG _ _ _ => absurd hG.symm hC.2.2.2.2.2.2.2
theorem hz_case {P : Prop} {d : Decidable P} (k1 : P → hp_Z p l e R s m args below meth c nL A D ids adr adV cA cells slots Q G0 rep pc L st M G1) (k2 : ¬ P → hp_Z p l e R s m args below meth c nL A D ids adr adV cA cells slots Q G0 rep pc L st M G2) : hp_Z p l e R s m args below meth c nL A D ids adr adV cA cells slots Q G0 rep pc L st M (@ite (Option α) P d G1 G2) := by
  intro H locs ls hG hW hS hL
  by_cases h : P
  · rw [if_pos h] at hG; exact k1 h H locs ls hG hW hS hL
  · rw [if_neg h] at hG; exact k2 h H locs ls hG hW hS hL
theorem hz_chk {P : Prop} {d : Decidable P} (hC : hp_Cx p s m meth c cc nL own A D adV cA G0) (k2 : ¬ P → hp_Z p l e R s m args below meth c nL A D ids adr adV cA cells slots Q G0 rep pc L st M G2) : hp_Z p l e R s m args below meth c nL A D ids adr adV cA cells slots Q G0 rep pc L st M (@ite (Option α) P d none G2) := hz_case (fun _ => hz_none hC) k2
theorem hz_L {L' : List (Nat × Value)} (ks : List Nat) (hl : lv_pick L ks = L') (k : hp_Z p l e R s m args below meth c nL A D ids adr adV cA cells slots Q G0 rep pc L' st M G) : hp_Z p l e R s m args below meth c nL A D ids adr adV cA cells slots Q G0 rep pc L st M G := fun H locs ls hG hW hS hL => k H locs ls hG hW hS (lv_sub hL ks hl)
theorem hz_goto (hC : hp_Cx p s m meth c cc nL own A D adV cA G0) {off : Int} (hdg : decode cc pc = .ok (.goto off, 3)) (ht : (pc : Int) + off = (n : Int)) (k : hp_Z p l e R s m args below meth c nL A D ids adr adV cA cells slots Q G0 rep n L st M G) : hp_Z p l e R s m args below meth c nL A D ids adr adV cA cells slots Q G0 rep pc L st M G := fun H locs ls hG hW hS hL => lv_goto hC.1 hC.2.1 hdg ht (k H locs ls hG hW hS hL)

theorem hz_iconst (hC : hp_Cx p s m meth c cc nL own A D adV cA G0) {i : Int} {v : Int32} (hdg : decode cc pc = .ok (.iconst i, 1)) (hv : Int32.ofInt i = v) (hn : pc + 1 = n) (k : hp_Z p l e R s m args below meth c nL A D ids adr adV cA cells slots Q G0 rep n L (.int v :: st) M G) : hp_Z p l e R s m args below meth c nL A D ids adr adV cA cells slots Q G0 rep pc L st M G := by
  subst hn
  exact fun H locs ls hG hW hS hL => lv_iconst hC.1 hC.2.1 hdg hv (k H locs ls hG hW hS hL)
theorem hz_bipush (hC : hp_Cx p s m meth c cc nL own A D adV cA G0) {i : Int} {v : Int32} (hdg : decode cc pc = .ok (.bipush i, 2)) (hv : (Int8.ofInt i).toInt32 = v) (hn : pc + 2 = n) (k : hp_Z p l e R s m args below meth c nL A D ids adr adV cA cells slots Q G0 rep n L (.int v :: st) M G) : hp_Z p l e R s m args below meth c nL A D ids adr adV cA cells slots Q G0 rep pc L st M G := by
  subst hn
  exact fun H locs ls hG hW hS hL => lv_bipush hC.1 hC.2.1 hdg hv (k H locs ls hG hW hS hL)
theorem hz_sipush (hC : hp_Cx p s m meth c cc nL own A D adV cA G0) {i : Int} {v : Int32} (hdg : decode cc pc = .ok (.sipush i, 3)) (hv : (Int16.ofInt i).toInt32 = v) (hn : pc + 3 = n) (k : hp_Z p l e R s m args below meth c nL A D ids adr adV cA cells slots Q G0 rep n L (.int v :: st) M G) : hp_Z p l e R s m args below meth c nL A D ids adr adV cA cells slots Q G0 rep pc L st M G := by
  subst hn
  exact fun H locs ls hG hW hS hL => lv_sipush hC.1 hC.2.1 hdg hv (k H locs ls hG hW hS hL)
theorem hz_lconst (hC : hp_Cx p s m meth c cc nL own A D adV cA G0) {i : Fin 2} {v : Int64} (hdg : decode cc pc = .ok (.lconst i, 1)) (hv : Int64.ofNat (i : Nat) = v) (hn : pc + 1 = n) (k : hp_Z p l e R s m args below meth c nL A D ids adr adV cA cells slots Q G0 rep n L (.long v :: st) M G) : hp_Z p l e R s m args below meth c nL A D ids adr adV cA cells slots Q G0 rep pc L st M G := by
  subst hn
  exact fun H locs ls hG hW hS hL => lv_lconst hC.1 hC.2.1 hdg hv (k H locs ls hG hW hS hL)
theorem hz_null (hC : hp_Cx p s m meth c cc nL own A D adV cA G0)  (hdg : decode cc pc = .ok (.aconst_null, 1))  (hn : pc + 1 = n) (k : hp_Z p l e R s m args below meth c nL A D ids adr adV cA cells slots Q G0 rep n L (.null :: st) M G) : hp_Z p l e R s m args below meth c nL A D ids adr adV cA cells slots Q G0 rep pc L st M G := by
  subst hn
  exact fun H locs ls hG hW hS hL => lv_null hC.1 hC.2.1 hdg (k H locs ls hG hW hS hL)
theorem hz_iload_n (hC : hp_Cx p s m meth c cc nL own A D adV cA G0) {k : Fin 4} {i a : Nat} {x : Int32} (hdg : decode cc pc = .ok (.iload_n k, 1)) (hi : (k : Nat) = i) (ha : L[a]? = some (i, .int x)) (hn : pc + 1 = n) (k : hp_Z p l e R s m args below meth c nL A D ids adr adV cA cells slots Q G0 rep n L (.int x :: st) M G) : hp_Z p l e R s m args below meth c nL A D ids adr adV cA cells slots Q G0 rep pc L st M G := by
  subst hn
  exact fun H locs ls hG hW hS hL => lv_iload_n hC.1 hC.2.1 hdg hi (lv_at hL a ha) (k H locs ls hG hW hS hL)
theorem hz_iload (hC : hp_Cx p s m meth c cc nL own A D adV cA G0) {i a : Nat} {x : Int32} (hdg : decode cc pc = .ok (.iload i, 2)) (ha : L[a]? = some (i, .int x)) (hn : pc + 2 = n) (k : hp_Z p l e R s m args below meth c nL A D ids adr adV cA cells slots Q G0 rep n L (.int x :: st) M G) : hp_Z p l e R s m args below meth c nL A D ids adr adV cA cells slots Q G0 rep pc L st M G := by
  subst hn
  exact fun H locs ls hG hW hS hL => lv_iload hC.1 hC.2.1 hdg (lv_at hL a ha) (k H locs ls hG hW hS hL)
theorem hz_lload_n (hC : hp_Cx p s m meth c cc nL own A D adV cA G0) {k : Fin 4} {i a : Nat} {x : Int64} (hdg : decode cc pc = .ok (.lload_n k, 1)) (hi : (k : Nat) = i) (ha : L[a]? = some (i, .long x)) (hn : pc + 1 = n) (k : hp_Z p l e R s m args below meth c nL A D ids adr adV cA cells slots Q G0 rep n L (.long x :: st) M G) : hp_Z p l e R s m args below meth c nL A D ids adr adV cA cells slots Q G0 rep pc L st M G := by
  subst hn
  exact fun H locs ls hG hW hS hL => lv_lload_n hC.1 hC.2.1 hdg hi (lv_at hL a ha) (k H locs ls hG hW hS hL)
theorem hz_lload (hC : hp_Cx p s m meth c cc nL own A D adV cA G0) {i a : Nat} {x : Int64} (hdg : decode cc pc = .ok (.lload i, 2)) (ha : L[a]? = some (i, .long x)) (hn : pc + 2 = n) (k : hp_Z p l e R s m args below meth c nL A D ids adr adV cA cells slots Q G0 rep n L (.long x :: st) M G) : hp_Z p l e R s m args below meth c nL A D ids adr adV cA cells slots Q G0 rep pc L st M G := by
  subst hn
  exact fun H locs ls hG hW hS hL => lv_lload hC.1 hC.2.1 hdg (lv_at hL a ha) (k H locs ls hG hW hS hL)
theorem hz_aload_n (hC : hp_Cx p s m meth c cc nL own A D adV cA G0) {k : Fin 4} {i a : Nat} {x : Nat} (hdg : decode cc pc = .ok (.aload_n k, 1)) (hi : (k : Nat) = i) (ha : L[a]? = some (i, .ref x)) (hn : pc + 1 = n) (k : hp_Z p l e R s m args below meth c nL A D ids adr adV cA cells slots Q G0 rep n L (.ref x :: st) M G) : hp_Z p l e R s m args below meth c nL A D ids adr adV cA cells slots Q G0 rep pc L st M G := by
  subst hn
  exact fun H locs ls hG hW hS hL => lv_aload_n hC.1 hC.2.1 hdg hi (lv_at hL a ha) (k H locs ls hG hW hS hL)
theorem hz_aload (hC : hp_Cx p s m meth c cc nL own A D adV cA G0) {i a : Nat} {x : Nat} (hdg : decode cc pc = .ok (.aload i, 2)) (ha : L[a]? = some (i, .ref x)) (hn : pc + 2 = n) (k : hp_Z p l e R s m args below meth c nL A D ids adr adV cA cells slots Q G0 rep n L (.ref x :: st) M G) : hp_Z p l e R s m args below meth c nL A D ids adr adV cA cells slots Q G0 rep pc L st M G := by
  subst hn
  exact fun H locs ls hG hW hS hL => lv_aload hC.1 hC.2.1 hdg (lv_at hL a ha) (k H locs ls hG hW hS hL)
theorem hz_istore_n (hC : hp_Cx p s m meth c cc nL own A D adV cA G0) {k : Fin 4} {i : Nat} {x : Int32} {L' : List (Nat × Value)} (hdg : decode cc pc = .ok (.istore_n k, 1)) (hi : (k : Nat) = i) (hlt : i < nL) (hl : (i, Value.int x) :: L.filter (fun q => !(q.1 == i) && !(q.1 + 1 == i && q.2.category == 2)) = L') (hn : pc + 1 = n) (k : hp_Z p l e R s m args below meth c nL A D ids adr adV cA cells slots Q G0 rep n L' st M G) : hp_Z p l e R s m args below meth c nL A D ids adr adV cA cells slots Q G0 rep pc L (.int x :: st) M G := by
  subst hn
  exact fun H locs ls hG hW hS hL => lv_istore_n hC.1 hC.2.1 hdg hi hL hlt hl (fun ls2 hL2 => k H locs ls2 hG hW hS hL2)
theorem hz_istore (hC : hp_Cx p s m meth c cc nL own A D adV cA G0) {i : Nat} {x : Int32} {L' : List (Nat × Value)} (hdg : decode cc pc = .ok (.istore i, 2))  (hlt : i < nL) (hl : (i, Value.int x) :: L.filter (fun q => !(q.1 == i) && !(q.1 + 1 == i && q.2.category == 2)) = L') (hn : pc + 2 = n) (k : hp_Z p l e R s m args below meth c nL A D ids adr adV cA cells slots Q G0 rep n L' st M G) : hp_Z p l e R s m args below meth c nL A D ids adr adV cA cells slots Q G0 rep pc L (.int x :: st) M G := by
  subst hn
  exact fun H locs ls hG hW hS hL => lv_istore hC.1 hC.2.1 hdg hL hlt hl (fun ls2 hL2 => k H locs ls2 hG hW hS hL2)
theorem hz_lstore_n (hC : hp_Cx p s m meth c cc nL own A D adV cA G0) {k : Fin 4} {i : Nat} {x : Int64} {L' : List (Nat × Value)} (hdg : decode cc pc = .ok (.lstore_n k, 1)) (hi : (k : Nat) = i) (hlt : i + 1 < nL) (hl : (i, Value.long x) :: L.filter (fun q => !(q.1 == i) && (!(q.1 == i + 1) && !(q.1 + 1 == i && q.2.category == 2))) = L') (hn : pc + 1 = n) (k : hp_Z p l e R s m args below meth c nL A D ids adr adV cA cells slots Q G0 rep n L' st M G) : hp_Z p l e R s m args below meth c nL A D ids adr adV cA cells slots Q G0 rep pc L (.long x :: st) M G := by
  subst hn
  exact fun H locs ls hG hW hS hL => lv_lstore_n hC.1 hC.2.1 hdg hi hL hlt hl (fun ls2 hL2 => k H locs ls2 hG hW hS hL2)
theorem hz_lstore (hC : hp_Cx p s m meth c cc nL own A D adV cA G0) {i : Nat} {x : Int64} {L' : List (Nat × Value)} (hdg : decode cc pc = .ok (.lstore i, 2))  (hlt : i + 1 < nL) (hl : (i, Value.long x) :: L.filter (fun q => !(q.1 == i) && (!(q.1 == i + 1) && !(q.1 + 1 == i && q.2.category == 2))) = L') (hn : pc + 2 = n) (k : hp_Z p l e R s m args below meth c nL A D ids adr adV cA cells slots Q G0 rep n L' st M G) : hp_Z p l e R s m args below meth c nL A D ids adr adV cA cells slots Q G0 rep pc L (.long x :: st) M G := by
  subst hn
  exact fun H locs ls hG hW hS hL => lv_lstore hC.1 hC.2.1 hdg hL hlt hl (fun ls2 hL2 => k H locs ls2 hG hW hS hL2)
theorem hz_astore_n (hC : hp_Cx p s m meth c cc nL own A D adV cA G0) {k : Fin 4} {i : Nat} {x : Nat} {L' : List (Nat × Value)} (hdg : decode cc pc = .ok (.astore_n k, 1)) (hi : (k : Nat) = i) (hlt : i < nL) (hl : (i, Value.ref x) :: L.filter (fun q => !(q.1 == i) && !(q.1 + 1 == i && q.2.category == 2)) = L') (hn : pc + 1 = n) (k : hp_Z p l e R s m args below meth c nL A D ids adr adV cA cells slots Q G0 rep n L' st M G) : hp_Z p l e R s m args below meth c nL A D ids adr adV cA cells slots Q G0 rep pc L (.ref x :: st) M G := by
  subst hn
  exact fun H locs ls hG hW hS hL => lv_astore_n hC.1 hC.2.1 hdg hi hL hlt hl (fun ls2 hL2 => k H locs ls2 hG hW hS hL2)
theorem hz_astore (hC : hp_Cx p s m meth c cc nL own A D adV cA G0) {i : Nat} {x : Nat} {L' : List (Nat × Value)} (hdg : decode cc pc = .ok (.astore i, 2))  (hlt : i < nL) (hl : (i, Value.ref x) :: L.filter (fun q => !(q.1 == i) && !(q.1 + 1 == i && q.2.category == 2)) = L') (hn : pc + 2 = n) (k : hp_Z p l e R s m args below meth c nL A D ids adr adV cA cells slots Q G0 rep n L' st M G) : hp_Z p l e R s m args below meth c nL A D ids adr adV cA cells slots Q G0 rep pc L (.ref x :: st) M G := by
  subst hn
  exact fun H locs ls hG hW hS hL => lv_astore hC.1 hC.2.1 hdg hL hlt hl (fun ls2 hL2 => k H locs ls2 hG hW hS hL2)
theorem hz_iinc (hC : hp_Cx p s m meth c cc nL own A D adV cA G0) {i a : Nat} {z : Int} {x v : Int32} {L' : List (Nat × Value)} (hdg : decode cc pc = .ok (.iinc i z, 3)) (ha : L[a]? = some (i, .int x)) (hv : x + Int32.ofInt z = v) (hlt : i < nL) (hl : (i, Value.int v) :: L.filter (fun q => !(q.1 == i) && !(q.1 + 1 == i && q.2.category == 2)) = L') (hn : pc + 3 = n) (k : hp_Z p l e R s m args below meth c nL A D ids adr adV cA cells slots Q G0 rep n L' st M G) : hp_Z p l e R s m args below meth c nL A D ids adr adV cA cells slots Q G0 rep pc L st M G := by
  subst hn
  exact fun H locs ls hG hW hS hL => lv_iinc hC.1 hC.2.1 hdg hL ha hv hlt hl (fun ls2 hL2 => k H locs ls2 hG hW hS hL2)
theorem hz_iadd (hC : hp_Cx p s m meth c cc nL own A D adV cA G0) {x y : Int32} (hdg : decode cc pc = .ok (.iadd, 1))  (hn : pc + 1 = n) (k : hp_Z p l e R s m args below meth c nL A D ids adr adV cA cells slots Q G0 rep n L (.int (x + y) :: st) M G) : hp_Z p l e R s m args below meth c nL A D ids adr adV cA cells slots Q G0 rep pc L (.int y :: .int x :: st) M G := by
  subst hn
  exact fun H locs ls hG hW hS hL => lv_iadd hC.1 hC.2.1 hdg (k H locs ls hG hW hS hL)
theorem hz_isub (hC : hp_Cx p s m meth c cc nL own A D adV cA G0) {x y : Int32} (hdg : decode cc pc = .ok (.isub, 1))  (hn : pc + 1 = n) (k : hp_Z p l e R s m args below meth c nL A D ids adr adV cA cells slots Q G0 rep n L (.int (x - y) :: st) M G) : hp_Z p l e R s m args below meth c nL A D ids adr adV cA cells slots Q G0 rep pc L (.int y :: .int x :: st) M G := by
  subst hn
  exact fun H locs ls hG hW hS hL => lv_isub hC.1 hC.2.1 hdg (k H locs ls hG hW hS hL)
theorem hz_imul (hC : hp_Cx p s m meth c cc nL own A D adV cA G0) {x y : Int32} (hdg : decode cc pc = .ok (.imul, 1))  (hn : pc + 1 = n) (k : hp_Z p l e R s m args below meth c nL A D ids adr adV cA cells slots Q G0 rep n L (.int (x * y) :: st) M G) : hp_Z p l e R s m args below meth c nL A D ids adr adV cA cells slots Q G0 rep pc L (.int y :: .int x :: st) M G := by
  subst hn
  exact fun H locs ls hG hW hS hL => lv_imul hC.1 hC.2.1 hdg (k H locs ls hG hW hS hL)
theorem hz_iand (hC : hp_Cx p s m meth c cc nL own A D adV cA G0) {x y : Int32} (hdg : decode cc pc = .ok (.iand, 1))  (hn : pc + 1 = n) (k : hp_Z p l e R s m args below meth c nL A D ids adr adV cA cells slots Q G0 rep n L (.int (x &&& y) :: st) M G) : hp_Z p l e R s m args below meth c nL A D ids adr adV cA cells slots Q G0 rep pc L (.int y :: .int x :: st) M G := by
  subst hn
  exact fun H locs ls hG hW hS hL => lv_iand hC.1 hC.2.1 hdg (k H locs ls hG hW hS hL)
theorem hz_ior (hC : hp_Cx p s m meth c cc nL own A D adV cA G0) {x y : Int32} (hdg : decode cc pc = .ok (.ior, 1))  (hn : pc + 1 = n) (k : hp_Z p l e R s m args below meth c nL A D ids adr adV cA cells slots Q G0 rep n L (.int (x ||| y) :: st) M G) : hp_Z p l e R s m args below meth c nL A D ids adr adV cA cells slots Q G0 rep pc L (.int y :: .int x :: st) M G := by
  subst hn
  exact fun H locs ls hG hW hS hL => lv_ior hC.1 hC.2.1 hdg (k H locs ls hG hW hS hL)
theorem hz_ixor (hC : hp_Cx p s m meth c cc nL own A D adV cA G0) {x y : Int32} (hdg : decode cc pc = .ok (.ixor, 1))  (hn : pc + 1 = n) (k : hp_Z p l e R s m args below meth c nL A D ids adr adV cA cells slots Q G0 rep n L (.int (x ^^^ y) :: st) M G) : hp_Z p l e R s m args below meth c nL A D ids adr adV cA cells slots Q G0 rep pc L (.int y :: .int x :: st) M G := by
  subst hn
  exact fun H locs ls hG hW hS hL => lv_ixor hC.1 hC.2.1 hdg (k H locs ls hG hW hS hL)
theorem hz_ishl (hC : hp_Cx p s m meth c cc nL own A D adV cA G0) {x y : Int32} (hdg : decode cc pc = .ok (.ishl, 1))  (hn : pc + 1 = n) (k : hp_Z p l e R s m args below meth c nL A D ids adr adV cA cells slots Q G0 rep n L (.int (x <<< (y &&& 31)) :: st) M G) : hp_Z p l e R s m args below meth c nL A D ids adr adV cA cells slots Q G0 rep pc L (.int y :: .int x :: st) M G := by
  subst hn
  exact fun H locs ls hG hW hS hL => lv_ishl hC.1 hC.2.1 hdg (k H locs ls hG hW hS hL)
theorem hz_ishr (hC : hp_Cx p s m meth c cc nL own A D adV cA G0) {x y : Int32} (hdg : decode cc pc = .ok (.ishr, 1))  (hn : pc + 1 = n) (k : hp_Z p l e R s m args below meth c nL A D ids adr adV cA cells slots Q G0 rep n L (.int (x >>> (y &&& 31)) :: st) M G) : hp_Z p l e R s m args below meth c nL A D ids adr adV cA cells slots Q G0 rep pc L (.int y :: .int x :: st) M G := by
  subst hn
  exact fun H locs ls hG hW hS hL => lv_ishr hC.1 hC.2.1 hdg (k H locs ls hG hW hS hL)
theorem hz_iushr (hC : hp_Cx p s m meth c cc nL own A D adV cA G0) {x y v : Int32} (hdg : decode cc pc = .ok (.iushr, 1)) (hv : (x.toUInt32 >>> (y.toUInt32 &&& Int32.toUInt32 31)).toInt32 = v) (hn : pc + 1 = n) (k : hp_Z p l e R s m args below meth c nL A D ids adr adV cA cells slots Q G0 rep n L (.int v :: st) M G) : hp_Z p l e R s m args below meth c nL A D ids adr adV cA cells slots Q G0 rep pc L (.int y :: .int x :: st) M G := by
  subst hn
  exact fun H locs ls hG hW hS hL => lv_iushr hC.1 hC.2.1 hdg hv (k H locs ls hG hW hS hL)
theorem hz_ineg (hC : hp_Cx p s m meth c cc nL own A D adV cA G0) {x : Int32} (hdg : decode cc pc = .ok (.ineg, 1))  (hn : pc + 1 = n) (k : hp_Z p l e R s m args below meth c nL A D ids adr adV cA cells slots Q G0 rep n L (.int (-x) :: st) M G) : hp_Z p l e R s m args below meth c nL A D ids adr adV cA cells slots Q G0 rep pc L (.int x :: st) M G := by
  subst hn
  exact fun H locs ls hG hW hS hL => lv_ineg hC.1 hC.2.1 hdg (k H locs ls hG hW hS hL)
theorem hz_i2l (hC : hp_Cx p s m meth c cc nL own A D adV cA G0) {x : Int32} (hdg : decode cc pc = .ok (.i2l, 1))  (hn : pc + 1 = n) (k : hp_Z p l e R s m args below meth c nL A D ids adr adV cA cells slots Q G0 rep n L (.long x.toInt64 :: st) M G) : hp_Z p l e R s m args below meth c nL A D ids adr adV cA cells slots Q G0 rep pc L (.int x :: st) M G := by
  subst hn
  exact fun H locs ls hG hW hS hL => lv_i2l hC.1 hC.2.1 hdg rfl (k H locs ls hG hW hS hL)
theorem hz_i2c (hC : hp_Cx p s m meth c cc nL own A D adV cA G0) {x : Int32} (hdg : decode cc pc = .ok (.i2c, 1))  (hn : pc + 1 = n) (k : hp_Z p l e R s m args below meth c nL A D ids adr adV cA cells slots Q G0 rep n L (.int ((x.toUInt32 % 65536).toInt32) :: st) M G) : hp_Z p l e R s m args below meth c nL A D ids adr adV cA cells slots Q G0 rep pc L (.int x :: st) M G := by
  subst hn
  exact fun H locs ls hG hW hS hL => lv_i2c hC.1 hC.2.1 hdg rfl (k H locs ls hG hW hS hL)
theorem hz_ladd (hC : hp_Cx p s m meth c cc nL own A D adV cA G0) {x y : Int64} (hdg : decode cc pc = .ok (.ladd, 1))  (hn : pc + 1 = n) (k : hp_Z p l e R s m args below meth c nL A D ids adr adV cA cells slots Q G0 rep n L (.long (x + y) :: st) M G) : hp_Z p l e R s m args below meth c nL A D ids adr adV cA cells slots Q G0 rep pc L (.long y :: .long x :: st) M G := by
  subst hn
  exact fun H locs ls hG hW hS hL => lv_ladd hC.1 hC.2.1 hdg (k H locs ls hG hW hS hL)
theorem hz_lmul (hC : hp_Cx p s m meth c cc nL own A D adV cA G0) {x y : Int64} (hdg : decode cc pc = .ok (.lmul, 1))  (hn : pc + 1 = n) (k : hp_Z p l e R s m args below meth c nL A D ids adr adV cA cells slots Q G0 rep n L (.long (x * y) :: st) M G) : hp_Z p l e R s m args below meth c nL A D ids adr adV cA cells slots Q G0 rep pc L (.long y :: .long x :: st) M G := by
  subst hn
  exact fun H locs ls hG hW hS hL => lv_lmul hC.1 hC.2.1 hdg (k H locs ls hG hW hS hL)
theorem hz_idiv (hC : hp_Cx p s m meth c cc nL own A D adV cA G0) {x y : Int32} {d : Decidable (y = 0)} (hdg : decode cc pc = .ok (.idiv, 1)) (hn : pc + 1 = n) (k : ¬ y = 0 → hp_Z p l e R s m args below meth c nL A D ids adr adV cA cells slots Q G0 rep n L (.int (x / y) :: st) M G) : hp_Z p l e R s m args below meth c nL A D ids adr adV cA cells slots Q G0 rep pc L (.int y :: .int x :: st) M (@ite (Option α) (y = 0) d none G) := by
  subst hn
  exact hz_chk hC (fun h0 H locs ls hG hW hS hL => lv_idiv hC.1 hC.2.1 hdg h0 (k h0 H locs ls hG hW hS hL))
theorem hz_irem (hC : hp_Cx p s m meth c cc nL own A D adV cA G0) {x y : Int32} {d : Decidable (y = 0)} (hdg : decode cc pc = .ok (.irem, 1)) (hn : pc + 1 = n) (k : ¬ y = 0 → hp_Z p l e R s m args below meth c nL A D ids adr adV cA cells slots Q G0 rep n L (.int (x - x / y * y) :: st) M G) : hp_Z p l e R s m args below meth c nL A D ids adr adV cA cells slots Q G0 rep pc L (.int y :: .int x :: st) M (@ite (Option α) (y = 0) d none G) := by
  subst hn
  exact hz_chk hC (fun h0 H locs ls hG hW hS hL => lv_irem hC.1 hC.2.1 hdg h0 (k h0 H locs ls hG hW hS hL))
theorem hz_dup (hC : hp_Cx p s m meth c cc nL own A D adV cA G0) {v : Value} (hdg : decode cc pc = .ok (.dup, 1)) (hc : v.category = 1) (hn : pc + 1 = n) (k : hp_Z p l e R s m args below meth c nL A D ids adr adV cA cells slots Q G0 rep n L (v :: v :: st) M G) : hp_Z p l e R s m args below meth c nL A D ids adr adV cA cells slots Q G0 rep pc L (v :: st) M G := by
  subst hn
  exact fun H locs ls hG hW hS hL => lv_dup hC.1 hC.2.1 hdg hc (k H locs ls hG hW hS hL)
theorem hz_pop (hC : hp_Cx p s m meth c cc nL own A D adV cA G0) {v : Value} (hdg : decode cc pc = .ok (.pop, 1)) (hc : v.category = 1) (hn : pc + 1 = n) (k : hp_Z p l e R s m args below meth c nL A D ids adr adV cA cells slots Q G0 rep n L st M G) : hp_Z p l e R s m args below meth c nL A D ids adr adV cA cells slots Q G0 rep pc L (v :: st) M G := by
  subst hn
  exact fun H locs ls hG hW hS hL => lv_pop hC.1 hC.2.1 hdg hc (k H locs ls hG hW hS hL)
theorem hz_dup_x1 (hC : hp_Cx p s m meth c cc nL own A D adV cA G0) {v w : Value} (hdg : decode cc pc = .ok (.dup_x1, 1)) (hc : v.category = 1) (hw : w.category = 1) (hn : pc + 1 = n) (k : hp_Z p l e R s m args below meth c nL A D ids adr adV cA cells slots Q G0 rep n L (v :: w :: v :: st) M G) : hp_Z p l e R s m args below meth c nL A D ids adr adV cA cells slots Q G0 rep pc L (v :: w :: st) M G := by
  subst hn
  exact fun H locs ls hG hW hS hL => lv_dup_x1 hC.1 hC.2.1 hdg hc hw (k H locs ls hG hW hS hL)
theorem hz_dup2 (hC : hp_Cx p s m meth c cc nL own A D adV cA G0) {v w : Value} (hdg : decode cc pc = .ok (.dup2, 1)) (hc : v.category = 1) (hw : w.category = 1) (hn : pc + 1 = n) (k : hp_Z p l e R s m args below meth c nL A D ids adr adV cA cells slots Q G0 rep n L (v :: w :: v :: w :: st) M G) : hp_Z p l e R s m args below meth c nL A D ids adr adV cA cells slots Q G0 rep pc L (v :: w :: st) M G := by
  subst hn
  exact fun H locs ls hG hW hS hL => lv_dup2_11 hC.1 hC.2.1 hdg hc hw (k H locs ls hG hW hS hL)
theorem hz_if_eq (hC : hp_Cx p s m meth c cc nL own A D adV cA G0) {x : Int32} {d : Decidable (x = 0)} {off : Int} {tgt : Nat} (hdg : decode cc pc = .ok (.ifCond .eq off, 3)) (ht : (pc : Int) + off = (tgt : Int)) (hn : pc + 3 = n) (k1 : x = 0 → hp_Z p l e R s m args below meth c nL A D ids adr adV cA cells slots Q G0 rep tgt L st M G1) (k2 : ¬ (x = 0) → hp_Z p l e R s m args below meth c nL A D ids adr adV cA cells slots Q G0 rep n L st M G2) : hp_Z p l e R s m args below meth c nL A D ids adr adV cA cells slots Q G0 rep pc L (.int x :: st) M (@ite (Option α) (x = 0) d G1 G2) := by
  subst hn
  exact hz_case (fun h H locs ls hG hW hS hL => lv_if_eq hC.1 hC.2.1 hdg ht (fun _ => k1 h H locs ls hG hW hS hL) (fun h2 => absurd h h2)) (fun h H locs ls hG hW hS hL => lv_if_eq hC.1 hC.2.1 hdg ht (fun h2 => absurd h2 h) (fun _ => k2 h H locs ls hG hW hS hL))
theorem hz_icmp_eq (hC : hp_Cx p s m meth c cc nL own A D adV cA G0) {x y : Int32} {d : Decidable (x = y)} {off : Int} {tgt : Nat} (hdg : decode cc pc = .ok (.if_icmp .eq off, 3)) (ht : (pc : Int) + off = (tgt : Int)) (hn : pc + 3 = n) (k1 : x = y → hp_Z p l e R s m args below meth c nL A D ids adr adV cA cells slots Q G0 rep tgt L st M G1) (k2 : ¬ (x = y) → hp_Z p l e R s m args below meth c nL A D ids adr adV cA cells slots Q G0 rep n L st M G2) : hp_Z p l e R s m args below meth c nL A D ids adr adV cA cells slots Q G0 rep pc L (.int y :: .int x :: st) M (@ite (Option α) (x = y) d G1 G2) := by
  subst hn
  exact hz_case (fun h H locs ls hG hW hS hL => lv_icmp_eq hC.1 hC.2.1 hdg ht (fun _ => k1 h H locs ls hG hW hS hL) (fun h2 => absurd h h2)) (fun h H locs ls hG hW hS hL => lv_icmp_eq hC.1 hC.2.1 hdg ht (fun h2 => absurd h2 h) (fun _ => k2 h H locs ls hG hW hS hL))
theorem hz_if_ne (hC : hp_Cx p s m meth c cc nL own A D adV cA G0) {x : Int32} {d : Decidable (x = 0)} {off : Int} {tgt : Nat} (hdg : decode cc pc = .ok (.ifCond .ne off, 3)) (ht : (pc : Int) + off = (tgt : Int)) (hn : pc + 3 = n) (k1 : x = 0 → hp_Z p l e R s m args below meth c nL A D ids adr adV cA cells slots Q G0 rep n L st M G1) (k2 : ¬ (x = 0) → hp_Z p l e R s m args below meth c nL A D ids adr adV cA cells slots Q G0 rep tgt L st M G2) : hp_Z p l e R s m args below meth c nL A D ids adr adV cA cells slots Q G0 rep pc L (.int x :: st) M (@ite (Option α) (x = 0) d G1 G2) := by
  subst hn
  exact hz_case (fun h H locs ls hG hW hS hL => lv_if_ne hC.1 hC.2.1 hdg ht (fun h2 => absurd h h2) (fun _ => k1 h H locs ls hG hW hS hL)) (fun h H locs ls hG hW hS hL => lv_if_ne hC.1 hC.2.1 hdg ht (fun _ => k2 h H locs ls hG hW hS hL) (fun h2 => absurd h2 h))
theorem hz_icmp_ne (hC : hp_Cx p s m meth c cc nL own A D adV cA G0) {x y : Int32} {d : Decidable (x = y)} {off : Int} {tgt : Nat} (hdg : decode cc pc = .ok (.if_icmp .ne off, 3)) (ht : (pc : Int) + off = (tgt : Int)) (hn : pc + 3 = n) (k1 : x = y → hp_Z p l e R s m args below meth c nL A D ids adr adV cA cells slots Q G0 rep n L st M G1) (k2 : ¬ (x = y) → hp_Z p l e R s m args below meth c nL A D ids adr adV cA cells slots Q G0 rep tgt L st M G2) : hp_Z p l e R s m args below meth c nL A D ids adr adV cA cells slots Q G0 rep pc L (.int y :: .int x :: st) M (@ite (Option α) (x = y) d G1 G2) := by
  subst hn
  exact hz_case (fun h H locs ls hG hW hS hL => lv_icmp_ne hC.1 hC.2.1 hdg ht (fun h2 => absurd h h2) (fun _ => k1 h H locs ls hG hW hS hL)) (fun h H locs ls hG hW hS hL => lv_icmp_ne hC.1 hC.2.1 hdg ht (fun _ => k2 h H locs ls hG hW hS hL) (fun h2 => absurd h2 h))
theorem hz_if_lt (hC : hp_Cx p s m meth c cc nL own A D adV cA G0) {x : Int32} {d : Decidable (x < 0)} {off : Int} {tgt : Nat} (hdg : decode cc pc = .ok (.ifCond .lt off, 3)) (ht : (pc : Int) + off = (tgt : Int)) (hn : pc + 3 = n) (k1 : x < 0 → hp_Z p l e R s m args below meth c nL A D ids adr adV cA cells slots Q G0 rep tgt L st M G1) (k2 : ¬ (x < 0) → hp_Z p l e R s m args below meth c nL A D ids adr adV cA cells slots Q G0 rep n L st M G2) : hp_Z p l e R s m args below meth c nL A D ids adr adV cA cells slots Q G0 rep pc L (.int x :: st) M (@ite (Option α) (x < 0) d G1 G2) := by
  subst hn
  exact hz_case (fun h H locs ls hG hW hS hL => lv_if_lt hC.1 hC.2.1 hdg ht (fun _ => k1 h H locs ls hG hW hS hL) (fun h2 => absurd h h2)) (fun h H locs ls hG hW hS hL => lv_if_lt hC.1 hC.2.1 hdg ht (fun h2 => absurd h2 h) (fun _ => k2 h H locs ls hG hW hS hL))
theorem hz_icmp_lt (hC : hp_Cx p s m meth c cc nL own A D adV cA G0) {x y : Int32} {d : Decidable (x < y)} {off : Int} {tgt : Nat} (hdg : decode cc pc = .ok (.if_icmp .lt off, 3)) (ht : (pc : Int) + off = (tgt : Int)) (hn : pc + 3 = n) (k1 : x < y → hp_Z p l e R s m args below meth c nL A D ids adr adV cA cells slots Q G0 rep tgt L st M G1) (k2 : ¬ (x < y) → hp_Z p l e R s m args below meth c nL A D ids adr adV cA cells slots Q G0 rep n L st M G2) : hp_Z p l e R s m args below meth c nL A D ids adr adV cA cells slots Q G0 rep pc L (.int y :: .int x :: st) M (@ite (Option α) (x < y) d G1 G2) := by
  subst hn
  exact hz_case (fun h H locs ls hG hW hS hL => lv_icmp_lt hC.1 hC.2.1 hdg ht (fun _ => k1 h H locs ls hG hW hS hL) (fun h2 => absurd h h2)) (fun h H locs ls hG hW hS hL => lv_icmp_lt hC.1 hC.2.1 hdg ht (fun h2 => absurd h2 h) (fun _ => k2 h H locs ls hG hW hS hL))
theorem hz_if_ge (hC : hp_Cx p s m meth c cc nL own A D adV cA G0) {x : Int32} {d : Decidable (0 ≤ x)} {off : Int} {tgt : Nat} (hdg : decode cc pc = .ok (.ifCond .ge off, 3)) (ht : (pc : Int) + off = (tgt : Int)) (hn : pc + 3 = n) (k1 : 0 ≤ x → hp_Z p l e R s m args below meth c nL A D ids adr adV cA cells slots Q G0 rep tgt L st M G1) (k2 : ¬ (0 ≤ x) → hp_Z p l e R s m args below meth c nL A D ids adr adV cA cells slots Q G0 rep n L st M G2) : hp_Z p l e R s m args below meth c nL A D ids adr adV cA cells slots Q G0 rep pc L (.int x :: st) M (@ite (Option α) (0 ≤ x) d G1 G2) := by
  subst hn
  exact hz_case (fun h H locs ls hG hW hS hL => lv_if_ge hC.1 hC.2.1 hdg ht (fun _ => k1 h H locs ls hG hW hS hL) (fun h2 => absurd h h2)) (fun h H locs ls hG hW hS hL => lv_if_ge hC.1 hC.2.1 hdg ht (fun h2 => absurd h2 h) (fun _ => k2 h H locs ls hG hW hS hL))
theorem hz_icmp_ge (hC : hp_Cx p s m meth c cc nL own A D adV cA G0) {x y : Int32} {d : Decidable (y ≤ x)} {off : Int} {tgt : Nat} (hdg : decode cc pc = .ok (.if_icmp .ge off, 3)) (ht : (pc : Int) + off = (tgt : Int)) (hn : pc + 3 = n) (k1 : y ≤ x → hp_Z p l e R s m args below meth c nL A D ids adr adV cA cells slots Q G0 rep tgt L st M G1) (k2 : ¬ (y ≤ x) → hp_Z p l e R s m args below meth c nL A D ids adr adV cA cells slots Q G0 rep n L st M G2) : hp_Z p l e R s m args below meth c nL A D ids adr adV cA cells slots Q G0 rep pc L (.int y :: .int x :: st) M (@ite (Option α) (y ≤ x) d G1 G2) := by
  subst hn
  exact hz_case (fun h H locs ls hG hW hS hL => lv_icmp_ge hC.1 hC.2.1 hdg ht (fun _ => k1 h H locs ls hG hW hS hL) (fun h2 => absurd h h2)) (fun h H locs ls hG hW hS hL => lv_icmp_ge hC.1 hC.2.1 hdg ht (fun h2 => absurd h2 h) (fun _ => k2 h H locs ls hG hW hS hL))
theorem hz_if_gt (hC : hp_Cx p s m meth c cc nL own A D adV cA G0) {x : Int32} {d : Decidable (0 < x)} {off : Int} {tgt : Nat} (hdg : decode cc pc = .ok (.ifCond .gt off, 3)) (ht : (pc : Int) + off = (tgt : Int)) (hn : pc + 3 = n) (k1 : 0 < x → hp_Z p l e R s m args below meth c nL A D ids adr adV cA cells slots Q G0 rep tgt L st M G1) (k2 : ¬ (0 < x) → hp_Z p l e R s m args below meth c nL A D ids adr adV cA cells slots Q G0 rep n L st M G2) : hp_Z p l e R s m args below meth c nL A D ids adr adV cA cells slots Q G0 rep pc L (.int x :: st) M (@ite (Option α) (0 < x) d G1 G2) := by
  subst hn
  exact hz_case (fun h H locs ls hG hW hS hL => lv_if_gt hC.1 hC.2.1 hdg ht (fun _ => k1 h H locs ls hG hW hS hL) (fun h2 => absurd h h2)) (fun h H locs ls hG hW hS hL => lv_if_gt hC.1 hC.2.1 hdg ht (fun h2 => absurd h2 h) (fun _ => k2 h H locs ls hG hW hS hL))
theorem hz_icmp_gt (hC : hp_Cx p s m meth c cc nL own A D adV cA G0) {x y : Int32} {d : Decidable (y < x)} {off : Int} {tgt : Nat} (hdg : decode cc pc = .ok (.if_icmp .gt off, 3)) (ht : (pc : Int) + off = (tgt : Int)) (hn : pc + 3 = n) (k1 : y < x → hp_Z p l e R s m args below meth c nL A D ids adr adV cA cells slots Q G0 rep tgt L st M G1) (k2 : ¬ (y < x) → hp_Z p l e R s m args below meth c nL A D ids adr adV cA cells slots Q G0 rep n L st M G2) : hp_Z p l e R s m args below meth c nL A D ids adr adV cA cells slots Q G0 rep pc L (.int y :: .int x :: st) M (@ite (Option α) (y < x) d G1 G2) := by
  subst hn
  exact hz_case (fun h H locs ls hG hW hS hL => lv_icmp_gt hC.1 hC.2.1 hdg ht (fun _ => k1 h H locs ls hG hW hS hL) (fun h2 => absurd h h2)) (fun h H locs ls hG hW hS hL => lv_icmp_gt hC.1 hC.2.1 hdg ht (fun h2 => absurd h2 h) (fun _ => k2 h H locs ls hG hW hS hL))
theorem hz_if_le (hC : hp_Cx p s m meth c cc nL own A D adV cA G0) {x : Int32} {d : Decidable (x ≤ 0)} {off : Int} {tgt : Nat} (hdg : decode cc pc = .ok (.ifCond .le off, 3)) (ht : (pc : Int) + off = (tgt : Int)) (hn : pc + 3 = n) (k1 : x ≤ 0 → hp_Z p l e R s m args below meth c nL A D ids adr adV cA cells slots Q G0 rep tgt L st M G1) (k2 : ¬ (x ≤ 0) → hp_Z p l e R s m args below meth c nL A D ids adr adV cA cells slots Q G0 rep n L st M G2) : hp_Z p l e R s m args below meth c nL A D ids adr adV cA cells slots Q G0 rep pc L (.int x :: st) M (@ite (Option α) (x ≤ 0) d G1 G2) := by
  subst hn
  exact hz_case (fun h H locs ls hG hW hS hL => lv_if_le hC.1 hC.2.1 hdg ht (fun _ => k1 h H locs ls hG hW hS hL) (fun h2 => absurd h h2)) (fun h H locs ls hG hW hS hL => lv_if_le hC.1 hC.2.1 hdg ht (fun h2 => absurd h2 h) (fun _ => k2 h H locs ls hG hW hS hL))
theorem hz_icmp_le (hC : hp_Cx p s m meth c cc nL own A D adV cA G0) {x y : Int32} {d : Decidable (x ≤ y)} {off : Int} {tgt : Nat} (hdg : decode cc pc = .ok (.if_icmp .le off, 3)) (ht : (pc : Int) + off = (tgt : Int)) (hn : pc + 3 = n) (k1 : x ≤ y → hp_Z p l e R s m args below meth c nL A D ids adr adV cA cells slots Q G0 rep tgt L st M G1) (k2 : ¬ (x ≤ y) → hp_Z p l e R s m args below meth c nL A D ids adr adV cA cells slots Q G0 rep n L st M G2) : hp_Z p l e R s m args below meth c nL A D ids adr adV cA cells slots Q G0 rep pc L (.int y :: .int x :: st) M (@ite (Option α) (x ≤ y) d G1 G2) := by
  subst hn
  exact hz_case (fun h H locs ls hG hW hS hL => lv_icmp_le hC.1 hC.2.1 hdg ht (fun _ => k1 h H locs ls hG hW hS hL) (fun h2 => absurd h h2)) (fun h H locs ls hG hW hS hL => lv_icmp_le hC.1 hC.2.1 hdg ht (fun h2 => absurd h2 h) (fun _ => k2 h H locs ls hG hW hS hL))
theorem hz_ifnonnull (hC : hp_Cx p s m meth c cc nL own A D adV cA G0) {x : Nat} {off : Int} (hdg : decode cc pc = .ok (.ifnonnull off, 3)) (ht : (pc : Int) + off = (n : Int)) (k : hp_Z p l e R s m args below meth c nL A D ids adr adV cA cells slots Q G0 rep n L st M G) : hp_Z p l e R s m args below meth c nL A D ids adr adV cA cells slots Q G0 rep pc L (.ref x :: st) M G := fun H locs ls hG hW hS hL => lv_ifnonnull hC.1 hC.2.1 hdg ht (k H locs ls hG hW hS hL)
theorem hz_ifnull (hC : hp_Cx p s m meth c cc nL own A D adV cA G0) {x : Nat} {off : Int} (hdg : decode cc pc = .ok (.ifnull off, 3)) (hn : pc + 3 = n) (k : hp_Z p l e R s m args below meth c nL A D ids adr adV cA cells slots Q G0 rep n L st M G) : hp_Z p l e R s m args below meth c nL A D ids adr adV cA cells slots Q G0 rep pc L (.ref x :: st) M G := by
  subst hn
  exact fun H locs ls hG hW hS hL => lv_ifnull hC.1 hC.2.1 hdg (k H locs ls hG hW hS hL)
theorem hz_tabIn (hC : hp_Cx p s m meth c cc nL own A D adV cA G0) {x v : Int32} {dflt lo hi off : Int} {offs : Array Int} {len : Nat} (hx : x = v) (hdg : decode cc pc = .ok (.tableswitch dflt lo hi offs, len)) (h1 : ¬ v.toInt < lo) (h2 : ¬ hi < v.toInt) (ho : offs[(v.toInt - lo).toNat]? = some off) (ht : (pc : Int) + off = (n : Int)) (k : hp_Z p l e R s m args below meth c nL A D ids adr adV cA cells slots Q G0 rep n L st M G) : hp_Z p l e R s m args below meth c nL A D ids adr adV cA cells slots Q G0 rep pc L (.int x :: st) M G := by
  subst hx
  exact fun H locs ls hG hW hS hL => lv_tableIn hC.1 hC.2.1 hdg h1 h2 ho ht (k H locs ls hG hW hS hL)
theorem hz_tabOut (hC : hp_Cx p s m meth c cc nL own A D adV cA G0) {x : Int32} {dflt lo hi : Int} {offs : Array Int} {len : Nat} (hx : x.toInt < lo ∨ hi < x.toInt) (hdg : decode cc pc = .ok (.tableswitch dflt lo hi offs, len)) (ht : (pc : Int) + dflt = (n : Int)) (k : hp_Z p l e R s m args below meth c nL A D ids adr adV cA cells slots Q G0 rep n L st M G) : hp_Z p l e R s m args below meth c nL A D ids adr adV cA cells slots Q G0 rep pc L (.int x :: st) M G := fun H locs ls hG hW hS hL => lv_tableOut hC.1 hC.2.1 hdg hx ht (k H locs ls hG hW hS hL)
theorem hz_lookup (hC : hp_Cx p s m meth c cc nL own A D adV cA G0) {x : Int32} {dflt off : Int} {ps : Array (Int × Int)} {len : Nat} (hdg : decode cc pc = .ok (.lookupswitch dflt ps, len)) (hp : (ps.toList.zip (ps.toList.drop 1)).all (fun (a, next) => a.1 < next.1) = true) (ho : Op.lookupswitch.offset ps.toList dflt x.toInt = off) (ht : (pc : Int) + off = (n : Int)) (k : hp_Z p l e R s m args below meth c nL A D ids adr adV cA cells slots Q G0 rep n L st M G) : hp_Z p l e R s m args below meth c nL A D ids adr adV cA cells slots Q G0 rep pc L (.int x :: st) M G := fun H locs ls hG hW hS hL => lv_lookup hC.1 hC.2.1 hdg hp ho ht (k H locs ls hG hW hS hL)
theorem hz_ldc2 (hC : hp_Cx p s m meth c cc nL own A D adV cA G0) {i : Nat} {v : Int64} (hdg : decode cc pc = .ok (.ldc2_w i, 3)) (hw : hp_ok (.constantLong own i v)) (hn : pc + 3 = n) (k : hp_Z p l e R s m args below meth c nL A D ids adr adV cA cells slots Q G0 rep n L (.long v :: st) M G) : hp_Z p l e R s m args below meth c nL A D ids adr adV cA cells slots Q G0 rep pc L st M G := by
  subst hn
  exact fun H locs ls hG hW hS hL => lv_ldc2 hC.1 hC.2.1 hC.2.2.2.1 (hp_wd hC.2.2.2.2.1 hw args) hdg (k H locs ls hG hW hS hL)
theorem hp_lays {s : State} {H : Heap} (h : hp_Tab A D adV cA s H) {C : String} {T : u_T} {N : Nat} (hin : ∀ w ∈ u_ws C T N, hp_ok w) (args : Array Value) : ∀ w ∈ u_ws C T N, w.before args s = true := fun w hw => hp_wd h (hin w hw) args
theorem hz_get (hC : hp_Cx p s m meth c cc nL own A D adV cA G0) {ref C : String} {T : u_T} {N ci idx k g j : Nat} {F : (Nat → Int32) → List Value} {v : Value} (hdg : decode cc pc = .ok (.getfield idx, 3)) (hq : (g, j) ∈ ids) (he : ∀ f : Nat → Int32, hp_c adr adV cA g j f = .inr (ci, F f)) (hin : ∀ w ∈ u_ws C T N, hp_ok w) (hc : vwCl[ci]? = some (C, T, N)) (hk : k < N) (hlink : hp_ok (.fieldLink own idx ref (T k).2.1 (T k).2.2.1)) (hr : (T k).1 = ref) (hv : (F (M g j))[k]? = some v) (hn : pc + 3 = n) (kk : hp_Z p l e R s m args below meth c nL A D ids adr adV cA cells slots Q G0 rep n L (v :: st) M G) : hp_Z p l e R s m args below meth c nL A D ids adr adV cA cells slots Q G0 rep pc L (.ref (adr g j) :: st) M G := by
  subst hn; subst hr
  intro H locs ls hG hW hS hL
  obtain ⟨tl, hsb, hP, hD⟩ := id hW
  obtain ⟨q, hq2, -⟩ := hp_wl_at hD hq
  rw [he] at hq2
  obtain ⟨u0, b0, -, -, -, -, hK, -⟩ := id hC.2.2.2.2.1
  exact va_get hC.1 hC.2.1 (Ts := u_ws C T N) (hp_lays hC.2.2.2.2.1 hin args) (fun _ h => h) hC.2.2.2.1 hK hP q hq2 hc k hk (hp_wd hC.2.2.2.2.1 hlink args) (fun _ h => h) hv hdg (kk H locs ls hG hW hS hL)
theorem hz_getN (hC : hp_Cx p s m meth c cc nL own A D adV cA G0) {ref C host : String} {T : u_T} {N ci idx k g j : Nat} {F : (Nat → Int32) → List Value} {v : Value} (hdg : decode cc pc = .ok (.getfield idx, 3)) (hq : (g, j) ∈ ids) (he : ∀ f : Nat → Int32, hp_c adr adV cA g j f = .inr (ci, F f)) (hin : ∀ w ∈ u_ws C T N, hp_ok w) (hc : vwCl[ci]? = some (C, T, N)) (hk : k < N) (hlink : Cond.fieldLinkNest own idx ref (T k).2.1 (T k).2.2.1 host ∈ lw_tbl) (hr : (T k).1 = ref) (hv : (F (M g j))[k]? = some v) (hn : pc + 3 = n) (kk : hp_Z p l e R s m args below meth c nL A D ids adr adV cA cells slots Q G0 rep n L (v :: st) M G) : hp_Z p l e R s m args below meth c nL A D ids adr adV cA cells slots Q G0 rep pc L (.ref (adr g j) :: st) M G := by
  subst hn; subst hr
  intro H locs ls hG hW hS hL
  obtain ⟨tl, hsb, hP, hD⟩ := id hW
  obtain ⟨q, hq2, -⟩ := hp_wl_at hD hq
  rw [he] at hq2
  obtain ⟨u0, b0, -, -, -, -, hK, -⟩ := id hC.2.2.2.2.1
  exact va_getN hC.1 hC.2.1 (Ts := u_ws C T N) (hp_lays hC.2.2.2.2.1 hin args) (fun _ h => h) hC.2.2.2.1 hK hP q hq2 hc k hk (hp_wdF hC.2.2.2.2.1 hlink args) (fun _ h => h) hv hdg (kk H locs ls hG hW hS hL)
theorem hz_put (hC : hp_Cx p s m meth c cc nL own A D adV cA G0) {ref C : String} {T : u_T} {ty : Nat → FieldType} {N ci idx k g j : Nat} {F : (Nat → Int32) → List Value} {v : Value} {x : Int32} (hdg : decode cc pc = .ok (.putfield idx, 3)) (hq : (g, j) ∈ ids) (he : ∀ f : Nat → Int32, hp_c adr adV cA g j f = .inr (ci, F f)) (hin : ∀ w ∈ u_ws C T N, hp_ok w) (hty : ∀ k, k < N → parseFieldDescriptor (T k).2.2.1 = some (ty k)) (hnm : ∀ a, a < N → ∀ b, b < N → a ≠ b → (T a).2.1 ≠ (T b).2.1) (hc : vwCl[ci]? = some (C, T, N)) (hk : k < N) (hlink : hp_ok (.fieldLink own idx ref (T k).2.1 (T k).2.2.1)) (hr : (T k).1 = ref) (hfin : (T k).2.2.2 = false) (hnar : narrow (ty k) v = v) (hfit : fits (ty k) v = true) (hlen : k < (F (M g j)).length) (hF : ∀ f : Nat → Int32, (F f).set k v = F (upd f k x)) (hn : pc + 3 = n) (kk : hp_Z p l e R s m args below meth c nL A D ids adr adV cA cells slots Q G0 rep n L st (hp_p M g j k x) G) : hp_Z p l e R s m args below meth c nL A D ids adr adV cA cells slots Q G0 rep pc L (v :: .ref (adr g j) :: st) M G := by
  subst hn; subst hr
  intro H locs ls hG hW hS hL
  obtain ⟨tl, hsb, hP, hD⟩ := id hW
  obtain ⟨q, hq2, hset⟩ := hp_wl_at hD hq
  rw [he] at hq2
  obtain ⟨u0, b0, -, -, -, -, hK, -⟩ := id hC.2.2.2.2.1
  refine va_put hC.1 hC.2.1 (Ts := u_ws C T N) (hp_lays hC.2.2.2.2.1 hin args) (fun _ h => h) ty hty hnm hC.2.2.2.1 hK hP hD hS q hq2 hc k hk (hp_wd hC.2.2.2.2.1 hlink args) (fun _ h => h) hfin (hty k hk) hnar hfit hlen hdg (fun H1 locs1 hP1 hD1 hS1 => ?_)
  rw [hF] at hP1 hD1
  have h9 := hset (upd (M g j) k x)
  rw [he] at h9
  rw [h9, hp_p_sr] at hP1 hD1
  exact kk H1 locs1 ls hG ⟨tl, hsb, hP1, hD1⟩ hS1 hL
theorem hz_putN (hC : hp_Cx p s m meth c cc nL own A D adV cA G0) {ref C host : String} {T : u_T} {ty : Nat → FieldType} {N ci idx k g j : Nat} {F : (Nat → Int32) → List Value} {v : Value} {x : Int32} (hdg : decode cc pc = .ok (.putfield idx, 3)) (hq : (g, j) ∈ ids) (he : ∀ f : Nat → Int32, hp_c adr adV cA g j f = .inr (ci, F f)) (hin : ∀ w ∈ u_ws C T N, hp_ok w) (hty : ∀ k, k < N → parseFieldDescriptor (T k).2.2.1 = some (ty k)) (hnm : ∀ a, a < N → ∀ b, b < N → a ≠ b → (T a).2.1 ≠ (T b).2.1) (hc : vwCl[ci]? = some (C, T, N)) (hk : k < N) (hlink : Cond.fieldLinkNest own idx ref (T k).2.1 (T k).2.2.1 host ∈ lw_tbl) (hr : (T k).1 = ref) (hfin : (T k).2.2.2 = false) (hnar : narrow (ty k) v = v) (hfit : fits (ty k) v = true) (hlen : k < (F (M g j)).length) (hF : ∀ f : Nat → Int32, (F f).set k v = F (upd f k x)) (hn : pc + 3 = n) (kk : hp_Z p l e R s m args below meth c nL A D ids adr adV cA cells slots Q G0 rep n L st (hp_p M g j k x) G) : hp_Z p l e R s m args below meth c nL A D ids adr adV cA cells slots Q G0 rep pc L (v :: .ref (adr g j) :: st) M G := by
  subst hn; subst hr
  intro H locs ls hG hW hS hL
  obtain ⟨tl, hsb, hP, hD⟩ := id hW
  obtain ⟨q, hq2, hset⟩ := hp_wl_at hD hq
  rw [he] at hq2
  obtain ⟨u0, b0, -, -, -, -, hK, -⟩ := id hC.2.2.2.2.1
  refine va_putN hC.1 hC.2.1 (Ts := u_ws C T N) (hp_lays hC.2.2.2.2.1 hin args) (fun _ h => h) ty hty hnm hC.2.2.2.1 hK hP hD hS q hq2 hc k hk (hp_wdF hC.2.2.2.2.1 hlink args) (fun _ h => h) hfin (hty k hk) hnar hfit hlen hdg (fun H1 locs1 hP1 hD1 hS1 => ?_)
  rw [hF] at hP1 hD1
  have h9 := hset (upd (M g j) k x)
  rw [he] at h9
  rw [h9, hp_p_sr] at hP1 hD1
  exact kk H1 locs1 ls hG ⟨tl, hsb, hP1, hD1⟩ hS1 hL
theorem hz_alen (hC : hp_Cx p s m meth c cc nL own A D adV cA G0) {g j len t : Nat} {ty : FieldType} {x : (Nat → Int32) → (Nat → Int32) ⊕ (Nat → Int64) ⊕ (Nat → UInt32) ⊕ (Nat → UInt64) ⊕ (Nat → Option Nat)} {v : Int32} (hdg : decode cc pc = .ok (.arraylength, 1)) (hq : (g, j) ∈ ids) (he : ∀ f : Nat → Int32, hp_c adr adV cA g j f = .inl (cA t, len, x f)) (ht : (hp_tys cA)[t]? = some (cA t, ty)) (hv : Int32.ofNat len = v) (hn : pc + 1 = n) (kk : hp_Z p l e R s m args below meth c nL A D ids adr adV cA cells slots Q G0 rep n L (.int v :: st) M G) : hp_Z p l e R s m args below meth c nL A D ids adr adV cA cells slots Q G0 rep pc L (.ref (adr g j) :: st) M G := by
  subst hn
  intro H locs ls hG hW hS hL
  obtain ⟨tl, hsb, hP, hD⟩ := id hW
  obtain ⟨q, hq2, -⟩ := hp_wl_at hD hq
  rw [he] at hq2
  obtain ⟨u0, b0, -, -, -, -, hK, -⟩ := id hC.2.2.2.2.1
  exact va_alen hC.1 hC.2.1 hK hP q t hq2 ht hv hdg (kk H locs ls hG hW hS hL)
theorem hz_iald (hC : hp_Cx p s m meth c cc nL own A D adV cA G0) {g j len : Nat} {i : Int32} {d : Decidable (i < 0 ∨ len ≤ i.toNatClampNeg)} (hdg : decode cc pc = .ok (.iaload, 1)) (hq : (g, j) ∈ ids) (he : ∀ f : Nat → Int32, hp_c adr adV cA g j f = .inl (cA 0, len, .inl f)) (hn : pc + 1 = n) (kk : ¬ (i < 0 ∨ len ≤ i.toNatClampNeg) → hp_Z p l e R s m args below meth c nL A D ids adr adV cA cells slots Q G0 rep n L (.int (M g j i.toNatClampNeg) :: st) M G) : hp_Z p l e R s m args below meth c nL A D ids adr adV cA cells slots Q G0 rep pc L (.int i :: .ref (adr g j) :: st) M (@ite (Option α) (i < 0 ∨ len ≤ i.toNatClampNeg) d none G) := by
  subst hn
  refine hz_chk hC (fun h0 H locs ls hG hW hS hL => ?_)
  obtain ⟨tl, hsb, hP, hD⟩ := id hW
  obtain ⟨q, hq2, -⟩ := hp_wl_at hD hq
  rw [he] at hq2
  obtain ⟨u0, b0, -, -, -, -, hK, -⟩ := id hC.2.2.2.2.1
  exact va_iald hC.1 hC.2.1 hK hP q 0 hq2 rfl h0 hdg (kk h0 H locs ls hG hW hS hL)
theorem hz_iast (hC : hp_Cx p s m meth c cc nL own A D adV cA G0) {g j len : Nat} {i x : Int32} {d : Decidable (i < 0 ∨ len ≤ i.toNatClampNeg)} (hdg : decode cc pc = .ok (.iastore, 1)) (hq : (g, j) ∈ ids) (he : ∀ f : Nat → Int32, hp_c adr adV cA g j f = .inl (cA 0, len, .inl f)) (hn : pc + 1 = n) (kk : ¬ (i < 0 ∨ len ≤ i.toNatClampNeg) → hp_Z p l e R s m args below meth c nL A D ids adr adV cA cells slots Q G0 rep n L st (hp_p M g j i.toNatClampNeg x) G) : hp_Z p l e R s m args below meth c nL A D ids adr adV cA cells slots Q G0 rep pc L (.int x :: .int i :: .ref (adr g j) :: st) M (@ite (Option α) (i < 0 ∨ len ≤ i.toNatClampNeg) d none G) := by
  subst hn
  refine hz_chk hC (fun h0 H locs ls hG hW hS hL => ?_)
  obtain ⟨tl, hsb, hP, hD⟩ := id hW
  obtain ⟨q, hq2, hset⟩ := hp_wl_at hD hq
  rw [he] at hq2
  obtain ⟨u0, b0, -, -, -, -, hK, -⟩ := id hC.2.2.2.2.1
  refine va_iast hC.1 hC.2.1 hK hP hD hS q 0 hq2 rfl h0 hdg (fun H1 locs1 hP1 hD1 hS1 => ?_)
  have h9 := hset (upd (M g j) i.toNatClampNeg x)
  rw [he] at h9
  rw [h9, hp_p_sr] at hP1 hD1
  exact kk h0 H1 locs1 ls hG ⟨tl, hsb, hP1, hD1⟩ hS1 hL
theorem hz_aald (hC : hp_Cx p s m meth c cc nL own A D adV cA G0) {i : Int32} {d : Decidable (i < 0 ∨ 8 ≤ i.toNatClampNeg)} (hdg : decode cc pc = .ok (.aaload, 1)) (hq : (12, 5) ∈ ids) (hn : pc + 1 = n) (kk : ¬ (i < 0 ∨ 8 ≤ i.toNatClampNeg) → hp_Z p l e R s m args below meth c nL A D ids adr adV cA cells slots Q G0 rep n L (.ref (adr (2 + i.toNatClampNeg) 0) :: st) M G) : hp_Z p l e R s m args below meth c nL A D ids adr adV cA cells slots Q G0 rep pc L (.int i :: .ref (adr 12 5) :: st) M (@ite (Option α) (i < 0 ∨ 8 ≤ i.toNatClampNeg) d none G) := by
  subst hn
  refine hz_chk hC (fun h0 H locs ls hG hW hS hL => ?_)
  obtain ⟨tl, hsb, hP, hD⟩ := id hW
  obtain ⟨q, hq2, -⟩ := hp_wl_at hD hq
  obtain ⟨u0, b0, -, -, -, -, hK, -⟩ := id hC.2.2.2.2.1
  exact va_aldq hC.1 hC.2.1 hK hP q 3 hq2 rfl h0 hdg (kk h0 H locs ls hG hW hS hL)

end HPZ
