theorem hp_kn {s : State} {b : Nat} (hts : ∀ w ∈ lw_tbl, w.before #[Value.ref b] s = true) : ∀ c : Nat, ∃ (x : ClassId) (i : Nat → Nat), ∀ q : vw_C, vwCl[c]? = some q → u_Kn s q.1 q.2.1 q.2.2 x i := by
  intro c
  match c with
  | 0 =>
    obtain ⟨x, i, h⟩ := u_known (C := RJ0) (T := TJ0) (N := 4) (n := 4) hts (by decide +kernel) (hts _ (hp_m4 (List.mem_of_getElem? (i := 57) (by decide +kernel))))
    exact ⟨x, i, fun q hq => by cases hq; exact h⟩
  | 1 =>
    obtain ⟨x, i, h⟩ := u_known (C := RJ4) (T := TJ4) (N := 4) (n := 4) hts (by decide +kernel) (hts _ (hp_m1 (List.mem_of_getElem? (i := 206) (by decide +kernel))))
    exact ⟨x, i, fun q hq => by cases hq; exact h⟩
  | 2 =>
    obtain ⟨x, i, h⟩ := u_known (C := RJx00060) (T := TJx00060) (N := 6) (n := 6) hts (by decide +kernel) (hts _ (hp_m4 (List.mem_of_getElem? (i := 207) (by decide +kernel))))
    exact ⟨x, i, fun q hq => by cases hq; exact h⟩
  | 3 =>
    obtain ⟨x, i, h⟩ := u_known (C := RJx7c733) (T := TJx7c733) (N := 6) (n := 6) hts (by decide +kernel) (hts _ (hp_m3 (List.mem_of_getElem? (i := 163) (by decide +kernel))))
    exact ⟨x, i, fun q hq => by cases hq; exact h⟩
  | 4 =>
    obtain ⟨x, i, h⟩ := u_known (C := RX1) (T := TX1) (N := 3) (n := 3) hts (by decide +kernel) (hts _ (hp_m1 (List.mem_of_getElem? (i := 145) (by decide +kernel))))
    exact ⟨x, i, fun q hq => by cases hq; exact h⟩
  | 5 =>
    obtain ⟨x, i, h⟩ := u_known (C := RX2) (T := TX2) (N := 10) (n := 10) hts (by decide +kernel) (hts _ (hp_m1 (List.mem_of_getElem? (i := 41) (by decide +kernel))))
    exact ⟨x, i, fun q hq => by cases hq; exact h⟩
  | 6 =>
    obtain ⟨x, i, h⟩ := u_known (C := RX3) (T := TX3) (N := 5) (n := 5) hts (by decide +kernel) (hts _ (hp_m1 (List.mem_of_getElem? (i := 47) (by decide +kernel))))
    exact ⟨x, i, fun q hq => by cases hq; exact h⟩
  | 7 =>
    obtain ⟨x, i, h⟩ := u_known (C := RX4) (T := TX4) (N := 2) (n := 2) hts (by decide +kernel) (hts _ (hp_m1 (List.mem_of_getElem? (i := 76) (by decide +kernel))))
    exact ⟨x, i, fun q hq => by cases hq; exact h⟩
  | 8 =>
    obtain ⟨x, i, h⟩ := u_known (C := RX5) (T := TX5) (N := 10) (n := 10) hts (by decide +kernel) (hts _ (hp_m1 (List.mem_of_getElem? (i := 165) (by decide +kernel))))
    exact ⟨x, i, fun q hq => by cases hq; exact h⟩
  | 9 =>
    obtain ⟨x, i, h⟩ := u_known (C := RX6) (T := TX6) (N := 3) (n := 3) hts (by decide +kernel) (hts _ (hp_m1 (List.mem_of_getElem? (i := 90) (by decide +kernel))))
    exact ⟨x, i, fun q hq => by cases hq; exact h⟩
  | 10 =>
    obtain ⟨x, i, h⟩ := u_known (C := RX7) (T := TX7) (N := 0) (n := 8) hts (by decide +kernel) (hts _ (hp_m2 (List.mem_of_getElem? (i := 142) (by decide +kernel))))
    exact ⟨x, i, fun q hq => by cases hq; exact h⟩
  | 11 =>
    obtain ⟨x, i, h⟩ := u_known (C := RX8) (T := TX8) (N := 10) (n := 10) hts (by decide +kernel) (hts _ (hp_m1 (List.mem_of_getElem? (i := 33) (by decide +kernel))))
    exact ⟨x, i, fun q hq => by cases hq; exact h⟩
  | 12 =>
    obtain ⟨x, i, h⟩ := u_known (C := RX9) (T := TX9) (N := 21) (n := 21) hts (by decide +kernel) (hts _ (hp_m6 (List.mem_of_getElem? (i := 147) (by decide +kernel))))
    exact ⟨x, i, fun q hq => by cases hq; exact h⟩
  | c + 13 => exact ⟨0, id, fun q hq => by simp [vwCl] at hq⟩
theorem hp_ar_int {s : State} {b : Nat} (hts : ∀ w ∈ lw_tbl, w.before #[Value.ref b] s = true) : ∃ c : ClassId, ArrOfT s c .int ∧ va_RA s c .int := by
  obtain ⟨c, k, comp, h1, h2, h3⟩ := Cond.arrayClass_spec (type := .int) (hts _ (hp_m1 (List.mem_of_getElem? (i := 74) (by decide +kernel))))
  exact ⟨c, fun n z => ⟨(fun k h => by cases h), k, h2, comp, h3⟩, h1⟩
theorem hp_ar_char {s : State} {b : Nat} (hts : ∀ w ∈ lw_tbl, w.before #[Value.ref b] s = true) : ∃ c : ClassId, ArrOfT s c .char ∧ va_RA s c .char := by
  obtain ⟨c, k, comp, h1, h2, h3⟩ := Cond.arrayClass_spec (type := .char) (hts _ (hp_m7 (List.mem_of_getElem? (i := 164) (by decide +kernel))))
  exact ⟨c, fun n z => ⟨(fun k h => by cases h), k, h2, comp, h3⟩, h1⟩
theorem hp_ar_byte {s : State} {b : Nat} (hts : ∀ w ∈ lw_tbl, w.before #[Value.ref b] s = true) : ∃ c : ClassId, ArrOfT s c .byte ∧ va_RA s c .byte := by
  obtain ⟨c, k, comp, h1, h2, h3⟩ := Cond.arrayClass_spec (type := .byte) (hts _ (hp_m1 (List.mem_of_getElem? (i := 237) (by decide +kernel))))
  exact ⟨c, fun n z => ⟨(fun k h => by cases h), k, h2, comp, h3⟩, h1⟩
theorem hp_ar_long {s : State} {b : Nat} (hts : ∀ w ∈ lw_tbl, w.before #[Value.ref b] s = true) : ∃ c : ClassId, ArrOfT s c .long ∧ va_RA s c .long := by
  obtain ⟨c, k, comp, h1, h2, h3⟩ := Cond.arrayClass_spec (type := .long) (hts _ (hp_m8 (List.mem_of_getElem? (i := 193) (by decide +kernel))))
  exact ⟨c, fun n z => ⟨(fun k h => by cases h), k, h2, comp, h3⟩, h1⟩
theorem hp_ar_house {s : State} {b : Nat} (hts : ∀ w ∈ lw_tbl, w.before #[Value.ref b] s = true) : ∃ c : ClassId, ArrOfT s c (.object "HallPhone$House") ∧ va_RA s c (.object "HallPhone$House") := by
  obtain ⟨comp, c, k, h1, -, h3, h4, h5⟩ := Cond.arrayOver_spec (n := "HallPhone$House") (hts _ (hp_m1 (List.mem_of_getElem? (i := 151) (by decide +kernel))))
  exact ⟨c, fun n z => ⟨(fun k h => by cases h), k, h3, comp, h4⟩, k, comp, h3, h4, h1, h5⟩
theorem hp_arR {s : State} {args : Array Value} {t : Term} {ty : FieldType} (h : (Cond.arrayOf t ty).before args s = true) : ∃ a : Nat, t.eval args s none [] s = some (.ref a) := by
  simp only [Cond.before, Cond.holds, Cond.value] at h
  cases hv : t.eval args s none [] s with
  | none => simp [hv] at h
  | some v =>
    cases v with
    | ref a => exact ⟨a, rfl⟩
    | _ => simp [hv] at h
theorem hp_exR {s : State} {args : Array Value} {t : Term} {C : String} (h : (Cond.exactly t C).before args s = true) : ∃ a : Nat, t.eval args s none [] s = some (.ref a) := by
  obtain ⟨a, c, cell, k, h1, -⟩ := Cond.exactly_spec h
  exact ⟨a, h1⟩
def hp_st5 : List (Nat × Term) := [(12, .static "HallPhone" "FIRST_SETTINGS" "[I"), (13, .static "HallPhone$1" "$SwitchMap$HallPhone$Verb" "[I"), (14, .static "HallPhone$Verb" "ALL" "[LHallPhone$Verb;"), (15, .static "java/lang/Integer" "DigitOnes" "[B"), (16, .static "java/lang/Integer" "DigitTens" "[B")]
theorem hp_st_all : hp_st = (List.range 12).map (fun i => (i, hp_vn i)) ++ hp_st5 ++ (List.range 46).map (fun j => (20 + j, hp_ts j)) ++ (List.range 46).map (fun j => (120 + j, Term.field (hp_ts j) "java/lang/String" "value" "[B")) := by decide +kernel
theorem hp_st_ref {s : State} {b : Nat} (hg : (Jvm.Cond.and given_1 narrow_1).before #[Value.ref b] s = true) : ∀ q ∈ hp_st, ∃ a : Nat, q.2.eval #[Value.ref b] s none [] s = some (.ref a) := by
  have H : ∀ c : Cond, hp_is c → c.before #[Value.ref b] s = true := fun c hc => hp_is_b hc hg
  intro q hq
  rw [hp_st_all] at hq
  rcases List.mem_append.mp hq with hq | hq
  · rcases List.mem_append.mp hq with hq | hq
    · rcases List.mem_append.mp hq with hq | hq
      · obtain ⟨i, hi, rfl⟩ := List.mem_map.mp hq
        exact hp_exR (H _ (hp_vexa_p i (List.mem_range.mp hi)))
      · rcases (by simpa [hp_st5] using hq : q = (12, Term.static "HallPhone" "FIRST_SETTINGS" "[I") ∨ q = (13, Term.static "HallPhone$1" "$SwitchMap$HallPhone$Verb" "[I") ∨ q = (14, Term.static "HallPhone$Verb" "ALL" "[LHallPhone$Verb;") ∨ q = (15, Term.static "java/lang/Integer" "DigitOnes" "[B") ∨ q = (16, Term.static "java/lang/Integer" "DigitTens" "[B")) with rfl | rfl | rfl | rfl | rfl
        · exact hp_arR (ty := .int) (H _ ⟨7425, by decide +kernel⟩)
        · exact hp_arR (ty := .int) (H _ ⟨2881, by decide +kernel⟩)
        · exact hp_arR (ty := .object "HallPhone$Verb") (H _ ⟨2433, by decide +kernel⟩)
        · exact hp_arR (ty := .byte) (H _ ⟨8129, by decide +kernel⟩)
        · exact hp_arR (ty := .byte) (H _ ⟨7217, by decide +kernel⟩)
    · obtain ⟨j, hj, rfl⟩ := List.mem_map.mp hq
      exact hp_exR (H _ (hp_s_ex_p j (List.mem_range.mp hj)))
  · obtain ⟨j, hj, rfl⟩ := List.mem_map.mp hq
    exact hp_arR (H _ (hp_s_ar_p j (List.mem_range.mp hj)))
theorem hp_st_key : ∀ q ∈ hp_st, hp_st.find? (fun r => r.1 == q.1) = some q := by decide +kernel
def hp_adV (s : State) (b : Nat) (n : Nat) : Nat := match hp_st.find? (fun r => r.1 == n) with
  | some q => (match q.2.eval #[Value.ref b] s none [] s with
    | some (.ref a) => a
    | _ => 0)
  | none => 0
theorem hp_Est {s : State} {b : Nat} (hg : (Jvm.Cond.and given_1 narrow_1).before #[Value.ref b] s = true) : hp_E (hp_adV s b) s b := by
  intro q hq
  obtain ⟨a, ha⟩ := hp_st_ref hg q hq
  rw [ha]
  unfold hp_adV
  rw [hp_st_key q hq]
  show some (Value.ref a) = some (Value.ref (match q.2.eval #[Value.ref b] s none [] s with | some (.ref a) => a | _ => 0))
  rw [ha]
/-- the tables at the law's entry -/
theorem hp_Tab0 {s : State} {b : Nat} (hts : ∀ w ∈ lw_tbl, w.before #[Value.ref b] s = true) (hg : (Jvm.Cond.and given_1 narrow_1).before #[Value.ref b] s = true) : ∃ (D : va_G) (adV cA : Nat → Nat), hp_Tab (fun q : Nat => s.heap.size ≤ q) D adV cA s s.heap := by
  have hk := hp_kn hts
  obtain ⟨a0, h0⟩ := hp_ar_int hts
  obtain ⟨a1, h1⟩ := hp_ar_char hts
  obtain ⟨a2, h2⟩ := hp_ar_byte hts
  obtain ⟨a3, h3⟩ := hp_ar_house hts
  obtain ⟨a4, h4⟩ := hp_ar_long hts
  refine ⟨(fun c => Classical.choose (hk c), fun c => Classical.choose (Classical.choose_spec (hk c))), hp_adV s b, fun k => match k with | 0 => a0 | 1 => a1 | 2 => a2 | 3 => a3 | _ => a4, s, b, hts, hg, State.WarmedH.refl s, fun a ha => ⟨Nat.not_le.mpr ha, rfl⟩, ⟨fun c q hq => Classical.choose_spec (Classical.choose_spec (hk c)) q hq, fun k q hq => ?_⟩, hp_Est hg⟩
  match k, hq with
  | 0, hq => cases hq; exact h0
  | 1, hq => cases hq; exact h1
  | 2, hq => cases hq; exact h2
  | 3, hq => cases hq; exact h3
  | 4, hq => cases hq; exact h4
  | k + 5, hq => simp at hq
theorem hz_eqG {p : Program} {l : Launch} {e : Env} {R : Room} {s : State} {m : MethodId} {args : Array Value} {below : List Frame} {meth : Method} {c : Code} {nL : Nat} {A : Nat → Prop} {D : va_G} {ids : List (Nat × Nat)} {adr : Nat → Nat → Nat} {adV cA : Nat → Nat} {cells slots : Nat} {Q : State → Prop} {α : Type} {G0 G G' : Option α} {rep : hp_T} {pc : Nat} {L : List (Nat × Value)} {st : List Value} {M : hp_M} (h : G = G') (k : hp_Z p l e R s m args below meth c nL A D ids adr adV cA cells slots Q G0 rep pc L st M G') : hp_Z p l e R s m args below meth c nL A D ids adr adV cA cells slots Q G0 rep pc L st M G := by subst h; exact k
/-- the law's pure answer -/
def hp_law (N : Nat) (xs : Nat → Int32) : Option Unit := hp_b hp_G8 (fun _ M1 => hp_b (hp_G9 M1) (fun _ M2 => L_law 513 N xs 0 (hp_z13 M2 10)))
theorem hp_ids_10 : ∀ q ∈ hp_idP ++ hp_idM, ¬ (q.1 = 13 ∧ 10 ≤ q.2) := by decide +kernel
theorem wd_1_33 : hp_ok (Cond.instantiable "HallPhone" 10) := ⟨hp_m1 (List.mem_of_getElem? (i := 33) (by decide +kernel)), rfl⟩
theorem wd_6_147 : hp_ok (Cond.instantiable "HallPhoneModel" 21) := ⟨hp_m6 (List.mem_of_getElem? (i := 147) (by decide +kernel)), rfl⟩
set_option maxRecDepth 20000 in
set_option maxHeartbeats 4000000 in
theorem hp_walk {p : Program} {e : Env} {s : State} {m : MethodId} {below : List Frame} {meth : Method} {c : Code} (l : Launch) (hl0 : l.stackTraces = false) {b L : Nat} {xs : Nat → Int32} (hG : hp_law L xs ≠ none) (C0 : lw_At p s m meth c b L xs) : W p l e room_1 s m #[Value.ref b] below meth c s.heap [] 0 0 (lw_Z below #[Value.ref b] s) (entryFrame m ([Value.ref b] : List Value).toArray 9) := by
  obtain ⟨hx, hb, hr, hml, hown, hts, hX, hbl, hlocks, hgv⟩ := id C0
  have hbA : ¬ (fun q : Nat => s.heap.size ≤ q) b := Nat.not_le.mpr hbl
  obtain ⟨D, adV, cA, hT⟩ := hp_Tab0 hts hgv
  have hC : hp_Cx p s m meth c cL_law 9 "HallPhoneLaw" (fun q : Nat => s.heap.size ≤ q) D adV cA (hp_law L xs) := ⟨hx, hb, hml, hown, hT, fun q hq => hq, hlocks, hG⟩
  have hl := lv_entry ([.ref b]) (n := 9) (Nat.le_of_ble_eq_true rfl)
  rw [lg_entry_eq]
  generalize (lg_sl ([.ref b]) ++ List.replicate (9 - (lg_sl ([.ref b])).length) Slot.unset).toArray = ls at hl ⊢
  have hl : lv_has ls 9 [(0, .ref b)] := hl
  suffices hY : hp_Y p l e room_1 s m #[Value.ref b] below meth c 9 (fun q : Nat => s.heap.size ≤ q) D 0 0 (lw_Z below #[Value.ref b] s) 0 [(0, .ref b)] [] [] [] from
    hY s.heap [] ls (fun k q h => by simp at h) ⟨fun i j p q h => by simp at h, fun k q h => by simp at h⟩ va_S.rf hl
  have h8 : hp_G8 ≠ none := fun h => hG (by unfold hp_law; rw [h]; rfl)
  refine hy_new (ci := 11) (C := RX8) (T := TX8) (ty := tyX8) (N := 10) (fs := [.null, .null, .null, .null, .null, .int 0, .null, .null, .int 0, .null]) (n := 3) hC dL_law_0 wd_1_32 wd_1_33 wd_1_1 in_X8 tyX8_ok rfl (fun j hj => by match j, hj with | 0, _ => rfl | 1, _ => rfl | 2, _ => rfl | 3, _ => rfl | 4, _ => rfl | 5, _ => rfl | 6, _ => rfl | 7, _ => rfl | 8, _ => rfl | 9, _ => rfl | j + 10, h => exact absurd h (by omega)) ⟨Nat.le_of_ble_eq_true rfl, Nat.le_of_ble_eq_true rfl⟩ rfl (fun q1 => ?_)
  refine hy_T (t' := [(q1, .inr (11, [.null, .null, .null, .null, .null, .int 0, .null, .null, .int 0, .null]))]) rfl ?_
  refine hy_dup (n := 4) hC dL_law_3 rfl rfl ?_
  refine hy_ctorB (n := 7) hC (c_X8_init l h8 _ D adV cA q1) ki_X8_init wd_1_34 dL_law_4 rfl (Nat.le_of_ble_eq_true rfl) ⟨Nat.le_of_ble_eq_true rfl, Nat.le_of_ble_eq_true rfl⟩ ⟨Nat.le_of_ble_eq_true rfl, Nat.le_of_ble_eq_true rfl⟩ rfl (fun b1 hb1 => ?_)
  obtain ⟨hq1, hg8⟩ := hb1
  have h9 : hp_G9 b1.2 ≠ none := fun h => hG (by unfold hp_law; rw [hg8, hp_b_some, h]; rfl)
  refine hy_astore_n (L' := [(1, .ref q1), (0, .ref b)]) (n := 8) hC dL_law_7 rfl (by decide) rfl rfl ?_
  refine hy_new (ci := 12) (C := RX9) (T := TX9) (ty := tyX9) (N := 21) (fs := [.null, .null, .null, .null, .null, .int 0, .int 0, .null, .null, .int 0, .int 0, .null, .int 0, .int 0, .int 0, .int 0, .int 0, .int 0, .int 0, .int 0, .null]) (n := 11) hC dL_law_8 wd_6_146 wd_6_147 wd_1_20 in_X9 tyX9_ok rfl (fun j hj => by match j, hj with | 0, _ => rfl | 1, _ => rfl | 2, _ => rfl | 3, _ => rfl | 4, _ => rfl | 5, _ => rfl | 6, _ => rfl | 7, _ => rfl | 8, _ => rfl | 9, _ => rfl | 10, _ => rfl | 11, _ => rfl | 12, _ => rfl | 13, _ => rfl | 14, _ => rfl | 15, _ => rfl | 16, _ => rfl | 17, _ => rfl | 18, _ => rfl | 19, _ => rfl | 20, _ => rfl | j + 21, h => exact absurd h (by omega)) ⟨Nat.le_of_ble_eq_true rfl, Nat.le_of_ble_eq_true rfl⟩ rfl (fun q2 => ?_)
  refine hy_T (t' := [(q2, .inr (12, [.null, .null, .null, .null, .null, .int 0, .int 0, .null, .null, .int 0, .int 0, .null, .int 0, .int 0, .int 0, .int 0, .int 0, .int 0, .int 0, .int 0, .null]))]) rfl ?_
  refine hy_dup (n := 12) hC dL_law_11 rfl rfl ?_
  refine hy_ctorB (n := 15) hC (c_X9_init l b1.2 h9 _ D b1.1 adV cA q2) ki_X9_init wd_6_148 dL_law_12 rfl (Nat.le_of_ble_eq_true rfl) ⟨Nat.le_of_ble_eq_true rfl, Nat.le_of_ble_eq_true rfl⟩ ⟨Nat.le_of_ble_eq_true rfl, Nat.le_of_ble_eq_true rfl⟩ rfl (fun b2 hb2 => ?_)
  obtain ⟨hq2, hoff, hg9⟩ := hb2
  have hEq : hp_law L xs = L_law 513 L xs 0 (hp_z13 b2.2 10) := by unfold hp_law; rw [hg8, hp_b_some, hg9, hp_b_some]
  refine hy_astore_n (L' := [(2, .ref q2), (1, .ref q1), (0, .ref b)]) (n := 16) hC dL_law_15 rfl (by decide) rfl rfl ?_
  refine hy_iconst (v := (1 : Int32)) (n := 17) hC dL_law_16 (by decide +kernel) rfl ?_
  refine hy_newa (ty := .long) (N' := 1) (a0 := (1, .inr (.inl fun _ => 0))) (j := 4) (n := 19) hC dL_law_17 rfl hp_acs.2.2.2 rfl (fun _ _ _ h1 h2 => Option.some.inj (h1.symm.trans h2)) (fun _ => rfl) (by decide +kernel) (by decide +kernel) (Nat.le_of_ble_eq_true rfl) ⟨Nat.le_of_ble_eq_true rfl, Nat.le_of_ble_eq_true rfl⟩ rfl (fun q3 => ?_)
  refine hy_astore_n (L' := [(3, .ref q3), (2, .ref q2), (1, .ref q1), (0, .ref b)]) (n := 20) hC dL_law_19 rfl (by decide) rfl rfl ?_
  refine hy_iconst (v := (0 : Int32)) (n := 21) hC dL_law_20 (by decide +kernel) rfl ?_
  refine hy_istore (L' := [(4, .int (0 : Int32)), (3, .ref q3), (2, .ref q2), (1, .ref q1), (0, .ref b)]) (n := 23) hC dL_law_21 (by decide) rfl rfl ?_
  generalize hadr : (fun (g j : Nat) => if g = 13 ∧ 10 ≤ j then q3 else b2.1 g j) = adr
  have hoff2 : ∀ g j : Nat, ¬ (g = 13 ∧ 10 ≤ j) → adr g j = b2.1 g j := fun g j h => by rw [← hadr]; exact if_neg h
  have e3 : adr 13 10 = q3 := by rw [← hadr]; exact if_pos ⟨rfl, Nat.le_refl _⟩
  have e2 : adr 13 0 = q2 := (hoff2 13 0 (by omega)).trans hq2
  have e1 : adr 12 0 = q1 := ((hoff2 12 0 (by omega)).trans (hoff 12 0 (by omega))).trans hq1
  show hp_Y p l e room_1 s m #[Value.ref b] below meth c 9 (fun q : Nat => s.heap.size ≤ q) D _ _ _ 23 _ [] (hp_wl (hp_idP ++ hp_idM) b2.1 adV cA b2.2) [(q3, .inl (cA 4, 1, .inr (.inl fun _ => 0)))]
  refine hy_same (k := 10) (adr' := adr) (M' := hp_z13 b2.2 10) (Or.inr rfl) hp_ids_10 hoff2 (fun g j h => funext fun i => if_neg h) ?_
  refine hy_cell (i := 0) (a := q3) (u := .inl (cA 4, 1, .inr (.inl fun _ => 0))) (.inl (cA 4, 1, .inr (.inl fun i => (hp_z13 b2.2 10 13 10 i).toInt64))) rfl (fun H => hp_atL (fun i hi => by rw [show hp_z13 b2.2 10 13 10 i = 0 from if_pos ⟨rfl, Nat.le_refl _⟩]; rfl)) rfl ?_
  refine hy_Z (adV := adV) (cA := cA) (G0 := hp_law L xs) (ids := hp_idP ++ hp_idM ++ [(13, 10)]) (adr := adr) (M := hp_z13 b2.2 10) ?_ ?_
  · rw [show hp_wl (hp_idP ++ hp_idM ++ [(13, 10)]) adr adV cA (hp_z13 b2.2 10) = hp_wl (hp_idP ++ hp_idM) adr adV cA (hp_z13 b2.2 10) ++ hp_wl [(13, 10)] adr adV cA (hp_z13 b2.2 10) from List.map_append]
    congr 1
    show [(q3, _)] = [(adr 13 10, _)]
    rw [e3]
    rfl
  refine hz_eqG hEq ?_
  refine hz_L (L' := [(0, .ref b), (1, .ref (adr 12 0)), (2, .ref (adr 13 0)), (3, .ref (adr 13 10)), (4, .int (0 : Int32))]) [4, 3, 2, 1, 0] (by rw [e1, e2, e3]; rfl) ?_
  exact zl_law hl0 hp_id_IL hC hX hbl hbA (zl_end (d0 := s.drawn) (Drawn.sameBut.refl s.drawn lw_cs) hx hb hr hlocks) 513 0 _ adr _ _ (Nat.le_of_ble_eq_true rfl) (Nat.le_of_ble_eq_true rfl)
theorem hp_start0 {p : Program} {e : Env} {s : State} {m : MethodId} {below : List Frame} {meth : Method} {c : Code} (l : Launch) (hflags : l.flags = flags0) {b L : Nat} {xs : Nat → Int32} (hG : hp_law L xs ≠ none) (C0 : lw_At p s m meth c b L xs) : W p l e room_1 s m #[Value.ref b] below meth c s.heap [] 0 0 (lw_Z below #[Value.ref b] s) (entryFrame m ([Value.ref b] : List Value).toArray 9) := by
  refine hp_walk l ?_ hG C0
  unfold Launch.stackTraces
  rw [hflags]
  decide +kernel
