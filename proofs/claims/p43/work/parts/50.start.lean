theorem hp_kn {s : State} {b : Nat} (hts : ∀ w ∈ lw_tbl, w.before #[Value.ref b] s = true) : ∀ c : Nat, ∃ (x : ClassId) (i : Nat → Nat), ∀ q : vw_C, vwCl[c]? = some q → u_Kn s q.1 q.2.1 q.2.2 x i := by
  intro c
  match c with
  | 0 =>
    obtain ⟨x, i, h⟩ := u_known (C := RJ4) (T := TJ4) (N := 4) (n := 4) hts (by decide +kernel) (hts _ (hp_m1 (List.mem_of_getElem? (i := 197) (by decide +kernel))))
    exact ⟨x, i, fun q hq => by cases hq; exact h⟩
  | 1 =>
    obtain ⟨x, i, h⟩ := u_known (C := RX1) (T := TX1) (N := 3) (n := 3) hts (by decide +kernel) (hts _ (hp_m1 (List.mem_of_getElem? (i := 136) (by decide +kernel))))
    exact ⟨x, i, fun q hq => by cases hq; exact h⟩
  | 2 =>
    obtain ⟨x, i, h⟩ := u_known (C := RX2) (T := TX2) (N := 10) (n := 10) hts (by decide +kernel) (hts _ (hp_m1 (List.mem_of_getElem? (i := 36) (by decide +kernel))))
    exact ⟨x, i, fun q hq => by cases hq; exact h⟩
  | 3 =>
    obtain ⟨x, i, h⟩ := u_known (C := RX3) (T := TX3) (N := 5) (n := 5) hts (by decide +kernel) (hts _ (hp_m1 (List.mem_of_getElem? (i := 42) (by decide +kernel))))
    exact ⟨x, i, fun q hq => by cases hq; exact h⟩
  | 4 =>
    obtain ⟨x, i, h⟩ := u_known (C := RX4) (T := TX4) (N := 2) (n := 2) hts (by decide +kernel) (hts _ (hp_m1 (List.mem_of_getElem? (i := 70) (by decide +kernel))))
    exact ⟨x, i, fun q hq => by cases hq; exact h⟩
  | 5 =>
    obtain ⟨x, i, h⟩ := u_known (C := RX5) (T := TX5) (N := 10) (n := 10) hts (by decide +kernel) (hts _ (hp_m1 (List.mem_of_getElem? (i := 156) (by decide +kernel))))
    exact ⟨x, i, fun q hq => by cases hq; exact h⟩
  | 6 =>
    obtain ⟨x, i, h⟩ := u_known (C := RX6) (T := TX6) (N := 3) (n := 3) hts (by decide +kernel) (hts _ (hp_m1 (List.mem_of_getElem? (i := 84) (by decide +kernel))))
    exact ⟨x, i, fun q hq => by cases hq; exact h⟩
  | 7 =>
    obtain ⟨x, i, h⟩ := u_known (C := RX7) (T := TX7) (N := 0) (n := 8) hts (by decide +kernel) (hts _ (hp_m2 (List.mem_of_getElem? (i := 131) (by decide +kernel))))
    exact ⟨x, i, fun q hq => by cases hq; exact h⟩
  | 8 =>
    obtain ⟨x, i, h⟩ := u_known (C := RX8) (T := TX8) (N := 10) (n := 10) hts (by decide +kernel) (hts _ (hp_m1 (List.mem_of_getElem? (i := 28) (by decide +kernel))))
    exact ⟨x, i, fun q hq => by cases hq; exact h⟩
  | c + 9 => exact ⟨0, id, fun q hq => by simp [vwCl] at hq⟩
theorem hp_ar_int {s : State} {b : Nat} (hts : ∀ w ∈ lw_tbl, w.before #[Value.ref b] s = true) : ∃ c : ClassId, ArrOfT s c .int ∧ va_RA s c .int := by
  obtain ⟨c, k, comp, h1, h2, h3⟩ := Cond.arrayClass_spec (type := .int) (hts _ (hp_m1 (List.mem_of_getElem? (i := 68) (by decide +kernel))))
  exact ⟨c, fun n z => ⟨(fun k h => by cases h), k, h2, comp, h3⟩, h1⟩
theorem hp_ar_byte {s : State} {b : Nat} (hts : ∀ w ∈ lw_tbl, w.before #[Value.ref b] s = true) : ∃ c : ClassId, ArrOfT s c .byte ∧ va_RA s c .byte := by
  obtain ⟨c, k, comp, h1, h2, h3⟩ := Cond.arrayClass_spec (type := .byte) (hts _ (hp_m1 (List.mem_of_getElem? (i := 226) (by decide +kernel))))
  exact ⟨c, fun n z => ⟨(fun k h => by cases h), k, h2, comp, h3⟩, h1⟩
theorem hp_ar_house {s : State} {b : Nat} (hts : ∀ w ∈ lw_tbl, w.before #[Value.ref b] s = true) : ∃ c : ClassId, ArrOfT s c (.object "HallPhone$House") ∧ va_RA s c (.object "HallPhone$House") := by
  obtain ⟨comp, c, k, h1, -, h3, h4, h5⟩ := Cond.arrayOver_spec (n := "HallPhone$House") (hts _ (hp_m1 (List.mem_of_getElem? (i := 142) (by decide +kernel))))
  exact ⟨c, fun n z => ⟨(fun k h => by cases h), k, h3, comp, h4⟩, k, comp, h3, h4, h1, h5⟩
theorem hp_arR {s : State} {args : Array Value} {t : Term} {ty : FieldType} (h : (Cond.arrayOf t ty).before args s = true) : ∃ a : Nat, t.eval args s none [] s = some (.ref a) := by
  simp only [Cond.before, Cond.holds, Cond.value] at h
  cases hv : t.eval args s none [] s with
  | none => simp [hv] at h
  | some v =>
    cases v with
    | ref a => exact ⟨a, rfl⟩
    | _ => simp [hv] at h
theorem hp_exR {s : State} {args : Array Value} {t : Term} {C : String} (h : (Cond.exactly t C).before args s = true) : ∃ a : Nat, t.eval args s none [] s = some (.ref a) := by
  obtain ⟨a, c, cell, k, h1, -⟩ := Cond.exactly_spec h
  exact ⟨a, h1⟩
def hp_st5 : List (Nat × Term) := [(12, .static "HallPhone" "FIRST_SETTINGS" "[I"), (13, .static "HallPhone$1" "$SwitchMap$HallPhone$Verb" "[I"), (14, .static "HallPhone$Verb" "ALL" "[LHallPhone$Verb;")]
theorem hp_st_all : hp_st = (List.range 12).map (fun i => (i, hp_vn i)) ++ hp_st5 ++ (List.range 21).map (fun j => (20 + j, hp_ts j)) ++ (List.range 21).map (fun j => (120 + j, Term.field (hp_ts j) "java/lang/String" "value" "[B")) := by decide +kernel
theorem hp_st_ref {s : State} {b : Nat} (hg : (Jvm.Cond.and given_1 narrow_1).before #[Value.ref b] s = true) : ∀ q ∈ hp_st, ∃ a : Nat, q.2.eval #[Value.ref b] s none [] s = some (.ref a) := by
  have H : ∀ c : Cond, hp_is c → c.before #[Value.ref b] s = true := fun c hc => hp_is_b hc hg
  intro q hq
  rw [hp_st_all] at hq
  rcases List.mem_append.mp hq with hq | hq
  · rcases List.mem_append.mp hq with hq | hq
    · rcases List.mem_append.mp hq with hq | hq
      · obtain ⟨i, hi, rfl⟩ := List.mem_map.mp hq
        exact hp_exR (H _ (hp_vexa_p i (List.mem_range.mp hi)))
      · rcases (by simpa [hp_st5] using hq : q = (12, Term.static "HallPhone" "FIRST_SETTINGS" "[I") ∨ q = (13, Term.static "HallPhone$1" "$SwitchMap$HallPhone$Verb" "[I") ∨ q = (14, Term.static "HallPhone$Verb" "ALL" "[LHallPhone$Verb;")) with rfl | rfl | rfl
        · exact hp_arR (ty := .int) (H _ ⟨2689, by decide +kernel⟩)
        · exact hp_arR (ty := .int) (H _ ⟨2849, by decide +kernel⟩)
        · exact hp_arR (ty := .object "HallPhone$Verb") (H _ ⟨3393, by decide +kernel⟩)
    · obtain ⟨j, hj, rfl⟩ := List.mem_map.mp hq
      exact hp_exR (H _ (hp_s_ex_p j (List.mem_range.mp hj)))
  · obtain ⟨j, hj, rfl⟩ := List.mem_map.mp hq
    exact hp_arR (H _ (hp_s_ar_p j (List.mem_range.mp hj)))
theorem hp_st_key : ∀ q ∈ hp_st, hp_st.find? (fun r => r.1 == q.1) = some q := by decide +kernel
def hp_adV (s : State) (b : Nat) (n : Nat) : Nat := match hp_st.find? (fun r => r.1 == n) with
  | some q => (match q.2.eval #[Value.ref b] s none [] s with
    | some (.ref a) => a
    | _ => 0)
  | none => 0
theorem hp_Est {s : State} {b : Nat} (hg : (Jvm.Cond.and given_1 narrow_1).before #[Value.ref b] s = true) : hp_E (hp_adV s b) s b := by
  intro q hq
  obtain ⟨a, ha⟩ := hp_st_ref hg q hq
  rw [ha]
  unfold hp_adV
  rw [hp_st_key q hq]
  show some (Value.ref a) = some (Value.ref (match q.2.eval #[Value.ref b] s none [] s with | some (.ref a) => a | _ => 0))
  rw [ha]
/-- the tables at the law's entry -/
theorem hp_Tab0 {s : State} {b : Nat} (hts : ∀ w ∈ lw_tbl, w.before #[Value.ref b] s = true) (hg : (Jvm.Cond.and given_1 narrow_1).before #[Value.ref b] s = true) : ∃ (D : va_G) (adV cA : Nat → Nat), hp_Tab (fun q : Nat => s.heap.size ≤ q) D adV cA s s.heap := by
  have hk := hp_kn hts
  obtain ⟨a0, h0⟩ := hp_ar_int hts
  obtain ⟨a2, h2⟩ := hp_ar_byte hts
  obtain ⟨a3, h3⟩ := hp_ar_house hts
  refine ⟨(fun c => Classical.choose (hk c), fun c => Classical.choose (Classical.choose_spec (hk c))), hp_adV s b, fun k => match k with | 0 => a0 | 1 => a0 | 2 => a2 | _ => a3, s, b, hts, hg, State.WarmedH.refl s, fun a ha => ⟨Nat.not_le.mpr ha, rfl⟩, ⟨fun c q hq => Classical.choose_spec (Classical.choose_spec (hk c)) q hq, fun k q hq => ?_⟩, hp_Est hg⟩
  match k, hq with
  | 0, hq => cases hq; exact h0
  | 1, hq => cases hq; exact h0
  | 2, hq => cases hq; exact h2
  | 3, hq => cases hq; exact h3
  | k + 4, hq => simp at hq
theorem hz_eqG {p : Program} {l : Launch} {e : Env} {R : Room} {s : State} {m : MethodId} {args : Array Value} {below : List Frame} {meth : Method} {c : Code} {nL : Nat} {A : Nat → Prop} {D : va_G} {ids : List (Nat × Nat)} {adr : Nat → Nat → Nat} {adV cA : Nat → Nat} {cells slots : Nat} {Q : State → Prop} {α : Type} {G0 G G' : Option α} {rep : hp_T} {pc : Nat} {L : List (Nat × Value)} {st : List Value} {M : hp_M} (h : G = G') (k : hp_Z p l e R s m args below meth c nL A D ids adr adV cA cells slots Q G0 rep pc L st M G') : hp_Z p l e R s m args below meth c nL A D ids adr adV cA cells slots Q G0 rep pc L st M G := by subst h; exact k
/-- the law's pure answer -/
def hp_law (N : Nat) (xs : Nat → Int32) : Option (Int32 × hp_M) := hp_b hp_G8 (fun _ M1 => F_L_law N xs M1)
theorem wd_1_27 : hp_ok (Cond.classLink "HallPhoneLaw" 8 "HallPhone") := ⟨hp_m1 (List.mem_of_getElem? (i := 27) (by decide +kernel)), rfl⟩
theorem wd_1_28 : hp_ok (Cond.instantiable "HallPhone" 10) := ⟨hp_m1 (List.mem_of_getElem? (i := 28) (by decide +kernel)), rfl⟩
set_option maxRecDepth 20000 in
set_option maxHeartbeats 4000000 in
theorem hp_walk {p : Program} {e : Env} {s : State} {m : MethodId} {below : List Frame} {meth : Method} {c : Code} (l : Launch) {b L : Nat} {xs : Nat → Int32} (hG : hp_law L xs ≠ none) (C0 : lw_At p s m meth c b L xs) : W p l e room_1 s m #[Value.ref b] below meth c s.heap [] 0 0 (lw_Z below #[Value.ref b] s) (entryFrame m ([Value.ref b] : List Value).toArray 17) := by
  obtain ⟨hx, hb, hr, hml, hown, hts, hX, hbl, hlocks, hgv⟩ := id C0
  have hbA : ¬ (fun q : Nat => s.heap.size ≤ q) b := Nat.not_le.mpr hbl
  obtain ⟨D, adV, cA, hT⟩ := hp_Tab0 hts hgv
  have hC : hp_Cx p s m meth c cL_law 17 "HallPhoneLaw" (fun q : Nat => s.heap.size ≤ q) D adV cA (hp_law L xs) := ⟨hx, hb, hml, hown, hT, fun q hq => hq, hlocks, hG⟩
  have hl := lv_entry ([.ref b]) (n := 17) (Nat.le_of_ble_eq_true rfl)
  rw [lg_entry_eq]
  generalize (lg_sl ([.ref b]) ++ List.replicate (17 - (lg_sl ([.ref b])).length) Slot.unset).toArray = ls at hl ⊢
  have hl : lv_has ls 17 [(0, .ref b)] := hl
  suffices hY : hp_Y p l e room_1 s m #[Value.ref b] below meth c 17 (fun q : Nat => s.heap.size ≤ q) D 0 0 (lw_Z below #[Value.ref b] s) 0 [(0, .ref b)] [] [] [] from
    hY s.heap [] ls (fun k q h => by simp at h) ⟨fun i j p q h => by simp at h, fun k q h => by simp at h⟩ va_S.rf hl
  have h8 : hp_G8 ≠ none := fun h => hG (by unfold hp_law; rw [h]; rfl)
  refine hy_new (ci := 8) (C := RX8) (T := TX8) (ty := tyX8) (N := 10) (fs := [.null, .null, .null, .null, .null, .int 0, .null, .null, .int 0, .null]) (n := 3) hC dL_law_0 wd_1_27 wd_1_28 wd_1_1 in_X8 tyX8_ok rfl (fun j hj => by match j, hj with | 0, _ => rfl | 1, _ => rfl | 2, _ => rfl | 3, _ => rfl | 4, _ => rfl | 5, _ => rfl | 6, _ => rfl | 7, _ => rfl | 8, _ => rfl | 9, _ => rfl | j + 10, h => exact absurd h (by omega)) ⟨Nat.le_of_ble_eq_true rfl, Nat.le_of_ble_eq_true rfl⟩ rfl (fun q1 => ?_)
  refine hy_T (t' := [(q1, .inr (8, [.null, .null, .null, .null, .null, .int 0, .null, .null, .int 0, .null]))]) rfl ?_
  refine hy_dup (n := 4) hC dL_law_3 rfl rfl ?_
  refine hy_ctorB (n := 7) hC (c_X8_init l h8 _ D adV cA q1) ki_X8_init wd_1_29 dL_law_4 rfl (Nat.le_of_ble_eq_true rfl) ⟨Nat.le_of_ble_eq_true rfl, Nat.le_of_ble_eq_true rfl⟩ ⟨Nat.le_of_ble_eq_true rfl, Nat.le_of_ble_eq_true rfl⟩ rfl (fun b1 hb1 => ?_)
  obtain ⟨hq1, hg8⟩ := hb1
  have hEq : hp_law L xs = F_L_law L xs b1.2 := by unfold hp_law; rw [hg8, hp_b_some]
  refine hy_astore_n (L' := [(1, .ref q1), (0, .ref b)]) (n := 8) hC dL_law_7 rfl (by decide) rfl rfl ?_
  refine hy_Z (adV := adV) (cA := cA) (G0 := hp_law L xs) (ids := hp_idP) (adr := b1.1) (M := b1.2) (List.append_nil _) ?_
  refine hz_eqG hEq ?_
  refine hz_L (L' := [(0, .ref b), (1, .ref (b1.1 12 0))]) [1, 0] (by rw [hq1]; rfl) ?_
  exact zl_law hp_idP_C hC hX hbl hbA ⟨Nat.le_of_ble_eq_true rfl, Nat.le_of_ble_eq_true rfl⟩ (fun H locs ls hS => zl_end hx hb hr hlocks H locs ls _ _ (Nat.le_of_ble_eq_true rfl) (Nat.le_of_ble_eq_true rfl) hS) b1.2
theorem hp_start0 {p : Program} {e : Env} {s : State} {m : MethodId} {below : List Frame} {meth : Method} {c : Code} (l : Launch) {b L : Nat} {xs : Nat → Int32} (hG : hp_law L xs ≠ none) (C0 : lw_At p s m meth c b L xs) : W p l e room_1 s m #[Value.ref b] below meth c s.heap [] 0 0 (lw_Z below #[Value.ref b] s) (entryFrame m ([Value.ref b] : List Value).toArray 17) := hp_walk l hG C0
