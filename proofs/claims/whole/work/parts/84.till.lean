/-! ===== what would be: minutes till something ===== -/
def hv_ts : Nat → Nat → HV → Nat → Int32
  | 0, _, _, _ => -1
  | n + 1, k, v, f => if v.num f 2 = 3 then nI k else hv_ts n (k + 1) (hv_tick v) f
def hv_tf : Nat → Nat → HV → Int32
  | 0, _, _ => -1
  | n + 1, k, v => if v.ph = 0 then nI k else hv_tf n (k + 1) (hv_tick v)
/-- the set without who speaks -/
def hv_less (v : HV) (s : Int32) : Int32 := if v.ph = 2 then s &&& (((1 : Int32) <<< (nI v.who &&& 31)) ^^^ (-1)) else s
def hv_ta : Nat → Nat → HV → Int32 → Int32
  | 0, _, _, _ => -1
  | n + 1, k, v, s => if hv_less v s = 0 then nI k else hv_ta n (k + 1) (hv_tick v) (hv_less v s)
theorem hv_t_fl (w : HV) (t : Int32) : (w.s_time t).flats = w.flats := rfl
theorem hv_less_t (w : HV) (t s : Int32) : hv_less (w.s_time t) s = hv_less w s := rfl
theorem hv_ts_t (t : Int32) : ∀ (n k : Nat) (v : HV) (f : Nat), hv_ts n k (v.s_time t) f = hv_ts n k v f := by
  intro n
  induction n with
  | zero => exact fun _ _ _ => rfl
  | succ n ih =>
    intro k v f
    show (if (v.s_time t).num f 2 = 3 then nI k else hv_ts n (k + 1) (hv_tick (v.s_time t)) f) = if v.num f 2 = 3 then nI k else hv_ts n (k + 1) (hv_tick v) f
    rw [hv_tick_t, ih]
theorem hv_tf_t (t : Int32) : ∀ (n k : Nat) (v : HV), hv_tf n k (v.s_time t) = hv_tf n k v := by
  intro n
  induction n with
  | zero => exact fun _ _ => rfl
  | succ n ih =>
    intro k v
    show (if (v.s_time t).ph = 0 then nI k else hv_tf n (k + 1) (hv_tick (v.s_time t))) = if v.ph = 0 then nI k else hv_tf n (k + 1) (hv_tick v)
    rw [hv_tick_t, ih]
theorem hv_ta_t (t : Int32) : ∀ (n k : Nat) (v : HV) (s : Int32), hv_ta n k (v.s_time t) s = hv_ta n k v s := by
  intro n
  induction n with
  | zero => exact fun _ _ _ => rfl
  | succ n ih =>
    intro k v s
    show (if hv_less v s = 0 then nI k else hv_ta n (k + 1) (hv_tick (v.s_time t)) (hv_less v s)) = if hv_less v s = 0 then nI k else hv_ta n (k + 1) (hv_tick v) (hv_less v s)
    rw [hv_tick_t, ih]
theorem hv_ts_quiet {v : HV} (h : hv_ok v) (hq : hv_quiet v) {f : Nat} (hf : f < v.flats) : ∀ n k : Nat, hv_ts n k v f = -1 := by
  intro n
  induction n with
  | zero => exact fun _ => rfl
  | succ n ih =>
    intro k
    have h3 : ¬ v.num f 2 = 3 := fun q => by
      have := (ok_sp2 h f hf q).1
      rw [hq.1] at this
      exact absurd this (by decide)
    show (if v.num f 2 = 3 then nI k else hv_ts n (k + 1) (hv_tick v) f) = -1
    rw [if_neg h3, (hv_quiet_tick hq).1]
    exact ih (k + 1)
theorem hv_tick_fl (v : HV) : (hv_tick v).flats = v.flats := by
  have h1 : ∀ w : HV, (hv_next w).flats = w.flats := by
    intro w
    unfold hv_next
    split
    · split
      · rfl
      · rfl
    · rfl
  have h2 : ∀ w : HV, (hv_fin w).flats = w.flats := by
    intro w
    unfold hv_fin
    split
    · rfl
    · rfl
  have h3 : ∀ (w : HV) (i : Nat), (hv_downs i w).flats = w.flats := by
    intro w i
    induction i with
    | zero => rfl
    | succ i ih => exact (hv_down_fl (hv_downs i w) i).trans ih
  have h4 : (hv_told v).flats = v.flats := by
    unfold hv_told
    split
    · exact (hv_hear_k v.flats (hv_talk0 v)).1
    · rfl
  have h5 : ∀ w : HV, (hv_waits w).flats = w.flats := fun _ => rfl
  unfold hv_tick hv_tick0
  rw [h5, h1, h2, h3, h4]
theorem hv_run_fl : ∀ (k : Nat) (v : HV), (hv_run k v).flats = v.flats := by
  intro k
  induction k with
  | zero => exact fun _ => rfl
  | succ k ih => exact fun v => (ih (hv_tick v)).trans (hv_tick_fl v)
section TILL
variable {g : Nat} {M : hp_M} {v : HV}
theorem x2_pass1 (c : CRep (M g) v) (h : hv_ok2 v) : ∃ (M' : hp_M) (r : Int32), F_X2_letPass g 1 M = some (r, M') ∧ CS g M ((hv_tick v).s_time (v.time + 1)) M' := by
  obtain ⟨M', e, c1⟩ := x2_pass (k := 1) (a0 := 1) c h rfl (by decide)
  exact ⟨M', _, e, c1⟩
theorem x2_ts (c : CRep (M g) v) (h : hv_ok2 v) {f : Nat} {a0 : Int32} (e0 : a0 = nI f) (hf : f < v.flats) : ∃ M' w, F_X2_minutesTillSpeaking g a0 M = some (hv_ts 501 0 v f, M') ∧ CS g M w M' := by
  have key : ∀ (n k fuel : Nat) (M1 : hp_M) (w : HV), k + n = 501 → n < fuel → CRep (M1 g) w → hv_ok2 w → f < w.flats → ∃ M' w', L_X2_minutesTillSpeaking_2 g a0 fuel (nI k) M1 = some (hv_ts n k w f, M') ∧ CS g M1 w' M' := by
    intro n
    induction n with
    | zero =>
      intro k fuel M1 w hi hfu c1 h1 hw
      obtain ⟨m, rfl⟩ : ∃ m, fuel = m + 1 := ⟨fuel - 1, by omega⟩
      rw [L_X2_minutesTillSpeaking_2.eq_2, if_pos (show (500 : Int32) < nI k from nI_lt (a := 500) (by omega) (by omega))]
      exact ⟨M1, w, rfl, CS.rf c1⟩
    | succ n ih =>
      intro k fuel M1 w hi hfu c1 h1 hw
      have h10 : f < 10 := Nat.lt_of_lt_of_le hw (ok_fl h1.1)
      obtain ⟨m, rfl⟩ : ∃ m, fuel = m + 1 := ⟨fuel - 1, by omega⟩
      obtain ⟨r, er, hr⟩ := x2_quiet c1
      rw [L_X2_minutesTillSpeaking_2.eq_2, if_neg (show ¬ (500 : Int32) < nI k from nI_nlt (a := 500) (by omega) (by decide)), er, hp_b_some]
      by_cases hq : hv_quiet w
      · rw [if_neg (fun q => hr.mp q hq), hv_ts_quiet h1.1 hq hw]
        exact ⟨M1, w, rfl, CS.rf c1⟩
      · rw [if_pos (hr.mpr hq), x2_g2 c1 e0 h10, hp_b_some]
        show ∃ M' w', _ = some (if w.num f 2 = 3 then nI k else hv_ts n (k + 1) (hv_tick w) f, M') ∧ _
        by_cases h3 : w.num f 2 = 3
        · rw [if_pos h3, if_pos h3]
          exact ⟨M1, w, rfl, CS.rf c1⟩
        · rw [if_neg h3, if_neg h3]
          obtain ⟨M2, r2, e2, c2⟩ := x2_pass1 c1 h1
          obtain ⟨M3, w3, e3, c3⟩ := ih (k + 1) m M2 _ (by omega) (by omega) c2.1 (ok2_time (ok2_tick h1)) (by rw [hv_t_fl, hv_tick_fl]; exact hw)
          rw [hv_ts_t] at e3
          rw [e2, hp_b_some, nI_1, e3]
          exact ⟨M3, w3, rfl, c2.tr c3⟩
  unfold F_X2_minutesTillSpeaking
  obtain ⟨M', w, e, c1⟩ := key 501 0 hp_fu M v (by omega) (by unfold hp_fu; omega) c h hf
  exact ⟨M', w, e, c1⟩
theorem x2_tf (c : CRep (M g) v) (h : hv_ok2 v) : ∃ M' w, F_X2_minutesTillFree g M = some (hv_tf 501 0 v, M') ∧ CS g M w M' := by
  have key : ∀ (n k fuel : Nat) (M1 : hp_M) (w : HV), k + n = 501 → n < fuel → CRep (M1 g) w → hv_ok2 w → ∃ M' w', L_X2_minutesTillFree_2 g fuel (nI k) M1 = some (hv_tf n k w, M') ∧ CS g M1 w' M' := by
    intro n
    induction n with
    | zero =>
      intro k fuel M1 w hi hfu c1 h1
      obtain ⟨m, rfl⟩ : ∃ m, fuel = m + 1 := ⟨fuel - 1, by omega⟩
      rw [L_X2_minutesTillFree_2.eq_2, if_pos (show (500 : Int32) < nI k from nI_lt (a := 500) (by omega) (by omega))]
      exact ⟨M1, w, rfl, CS.rf c1⟩
    | succ n ih =>
      intro k fuel M1 w hi hfu c1 h1
      obtain ⟨m, rfl⟩ : ∃ m, fuel = m + 1 := ⟨fuel - 1, by omega⟩
      rw [L_X2_minutesTillFree_2.eq_2, if_neg (show ¬ (500 : Int32) < nI k from nI_nlt (a := 500) (by omega) (by decide)), c1.ph]
      show ∃ M' w', _ = some (if w.ph = 0 then nI k else hv_tf n (k + 1) (hv_tick w), M') ∧ _
      by_cases h3 : w.ph = 0
      · rw [if_pos h3, if_pos h3]
        exact ⟨M1, w, rfl, CS.rf c1⟩
      · rw [if_neg h3, if_neg h3]
        obtain ⟨M2, r2, e2, c2⟩ := x2_pass1 c1 h1
        obtain ⟨M3, w3, e3, c3⟩ := ih (k + 1) m M2 _ (by omega) (by omega) c2.1 (ok2_time (ok2_tick h1))
        rw [hv_tf_t] at e3
        rw [e2, hp_b_some, nI_1, e3]
        exact ⟨M3, w3, rfl, c2.tr c3⟩
  unfold F_X2_minutesTillFree
  obtain ⟨M', w, e, c1⟩ := key 501 0 hp_fu M v (by omega) (by unfold hp_fu; omega) c h
  exact ⟨M', w, e, c1⟩
theorem r_ts (c : RRep (M 13 1) v) (h : hv_ok2 v) {f : Nat} {a0 : Int32} (e0 : a0 = nI f) (hf : f < v.flats) : ∃ M' w, F_X9_tillSpeaks a0 M = some (hv_ts 501 0 v f, M') ∧ RS M w M' := by
  have key : ∀ (n k fuel : Nat) (M1 : hp_M) (w : HV), k + n = 501 → n < fuel → RRep (M1 13 1) w → hv_ok2 w → f < w.flats → ∃ M' w', L_X9_tillSpeaks_2 a0 fuel (nI k) M1 = some (hv_ts n k w f, M') ∧ RS M1 w' M' := by
    intro n
    induction n with
    | zero =>
      intro k fuel M1 w hi hfu c1 h1 hw
      obtain ⟨m, rfl⟩ : ∃ m, fuel = m + 1 := ⟨fuel - 1, by omega⟩
      rw [L_X9_tillSpeaks_2.eq_2, if_pos (show (500 : Int32) < nI k from nI_lt (a := 500) (by omega) (by omega))]
      exact ⟨M1, w, rfl, RS.rf c1⟩
    | succ n ih =>
      intro k fuel M1 w hi hfu c1 h1 hw
      have h10 : f < 10 := Nat.lt_of_lt_of_le hw (ok_fl h1.1)
      obtain ⟨m, rfl⟩ : ∃ m, fuel = m + 1 := ⟨fuel - 1, by omega⟩
      rw [L_X9_tillSpeaks_2.eq_2, if_neg (show ¬ (500 : Int32) < nI k from nI_nlt (a := 500) (by omega) (by decide)), r_g2 c1 e0 h10, hp_b_some]
      show ∃ M' w', _ = some (if w.num f 2 = 3 then nI k else hv_ts n (k + 1) (hv_tick w) f, M') ∧ _
      by_cases h3 : w.num f 2 = 3
      · rw [if_pos h3, if_pos h3]
        exact ⟨M1, w, rfl, RS.rf c1⟩
      · rw [if_neg h3, if_neg h3]
        obtain ⟨M2, e2, c2⟩ := r_minute c1 h1
        obtain ⟨M3, w3, e3, c3⟩ := ih (k + 1) m M2 _ (by omega) (by omega) c2.1 (ok2_time (ok2_tick h1)) (by rw [hv_t_fl, hv_tick_fl]; exact hw)
        rw [hv_ts_t] at e3
        rw [e2, hp_b_some, nI_1, e3]
        exact ⟨M3, w3, rfl, c2.tr c3⟩
  unfold F_X9_tillSpeaks
  obtain ⟨M', w, e, c1⟩ := key 501 0 hp_fu M v (by omega) (by unfold hp_fu; omega) c h hf
  exact ⟨M', w, e, c1⟩
theorem r_tf (c : RRep (M 13 1) v) (h : hv_ok2 v) : ∃ M1 w M', L_X9_freeIn_11 hp_fu 0 M = some (hv_tf 501 0 v, M') ∧ RS M w M1 ∧ F_X9_bringBack M1 = some ((), M') := by
  have key : ∀ (n k fuel : Nat) (M1 : hp_M) (w : HV), k + n = 501 → n < fuel → RRep (M1 13 1) w → hv_ok2 w → ∃ M2 w' M', L_X9_freeIn_11 fuel (nI k) M1 = some (hv_tf n k w, M') ∧ RS M1 w' M2 ∧ F_X9_bringBack M2 = some ((), M') := by
    intro n
    induction n with
    | zero =>
      intro k fuel M1 w hi hfu c1 h1
      obtain ⟨m, rfl⟩ : ∃ m, fuel = m + 1 := ⟨fuel - 1, by omega⟩
      obtain ⟨M2, e2, -, -⟩ := r_bringBack M1
      have h5 : (500 : Int32) < nI k := nI_lt (a := 500) (by omega) (by omega)
      rw [L_X9_freeIn_11.eq_2, if_pos h5, e2, hp_b_some, if_pos h5]
      exact ⟨M1, w, M2, rfl, RS.rf c1, e2⟩
    | succ n ih =>
      intro k fuel M1 w hi hfu c1 h1
      obtain ⟨m, rfl⟩ : ∃ m, fuel = m + 1 := ⟨fuel - 1, by omega⟩
      have h5 : ¬ (500 : Int32) < nI k := nI_nlt (a := 500) (by omega) (by decide)
      rw [L_X9_freeIn_11.eq_2, if_neg h5, c1.ph]
      show ∃ M2 w' M', _ = some (if w.ph = 0 then nI k else hv_tf n (k + 1) (hv_tick w), M') ∧ _
      by_cases h3 : w.ph = 0
      · obtain ⟨M2, e2, -, -⟩ := r_bringBack M1
        rw [if_pos h3, if_pos h3, e2, hp_b_some, if_neg h5]
        exact ⟨M1, w, M2, rfl, RS.rf c1, e2⟩
      · rw [if_neg h3, if_neg h3]
        obtain ⟨M2, e2, c2⟩ := r_minute c1 h1
        obtain ⟨M3, w3, M4, e3, c3, e4⟩ := ih (k + 1) m M2 _ (by omega) (by omega) c2.1 (ok2_time (ok2_tick h1))
        rw [hv_tf_t] at e3
        rw [e2, hp_b_some, nI_1, e3]
        exact ⟨M3, w3, M4, rfl, c2.tr c3, e4⟩
  exact key 501 0 hp_fu M v (by omega) (by unfold hp_fu; omega) c h
/-- who speaks, as a set -/
theorem hv_bits_one (p : Nat → Bool) (x : Nat) (hp : ∀ f : Nat, p f = decide (f = x)) : ∀ n : Nat, n ≤ 10 → hv_bits p n = if x < n then (1 : Int32) <<< (nI x &&& 31) else 0 := by
  intro n
  induction n with
  | zero => exact fun _ => rfl
  | succ n ih =>
    intro hn
    have e1 : hv_bits p (n + 1) = if p n then hv_bits p n ||| ((1 : Int32) <<< (nI n &&& 31)) else hv_bits p n := rfl
    rw [e1, ih (by omega), hp]
    by_cases h : n = x
    · subst h
      rw [if_pos (decide_eq_true rfl), if_neg (by omega), if_pos (by omega), Int32.zero_or]
    · rw [if_neg (fun q => h (of_decide_eq_true q))]
      exact ite_iff (by omega)
theorem hv_spk (h : hv_ok v) (s : Int32) : s &&& (hv_bits (fun f => decide (v.num f 2 = 3)) v.flats ^^^ (-1)) = hv_less v s := by
  have hfl := ok_fl h
  unfold hv_less
  by_cases hp : v.ph = 2
  · have hw := ok_wh h (by rw [hp]; decide)
    have e : hv_bits (fun f => decide (v.num f 2 = 3)) v.flats = hv_bits (fun f => decide (f = v.who)) v.flats := by
      have key : ∀ n : Nat, n ≤ v.flats → hv_bits (fun f => decide (v.num f 2 = 3)) n = hv_bits (fun f => decide (f = v.who)) n := by
        intro n
        induction n with
        | zero => exact fun _ => rfl
        | succ n ih =>
          intro hn
          have e0 : decide (v.num n 2 = 3) = decide (n = v.who) := by
            by_cases hq : n = v.who
            · rw [decide_eq_true hq, decide_eq_true (by rw [hq]; exact ok_sp h hp)]
            · rw [decide_eq_false hq, decide_eq_false (fun z => hq (ok_sp2 h n (by omega) z).2.symm)]
          show (if decide (v.num n 2 = 3) = true then hv_bits (fun f => decide (v.num f 2 = 3)) n ||| ((1 : Int32) <<< (nI n &&& 31)) else hv_bits (fun f => decide (v.num f 2 = 3)) n) = (if decide (n = v.who) = true then hv_bits (fun f => decide (f = v.who)) n ||| ((1 : Int32) <<< (nI n &&& 31)) else hv_bits (fun f => decide (f = v.who)) n)
          rw [e0, ih (by omega)]
      exact key _ (Nat.le_refl _)
    rw [if_pos hp, e, hv_bits_one _ v.who (fun _ => rfl) v.flats hfl, if_pos hw]
  · have e : hv_bits (fun f => decide (v.num f 2 = 3)) v.flats = 0 := (hv_bits_0 _ v.flats hfl).mpr (fun f hf => decide_eq_false (fun z => hp (ok_sp2 h f hf z).1))
    rw [if_neg hp, e, Int32.zero_xor, Int32.and_neg_one]
theorem x2_ta (c : CRep (M g) v) (h : hv_ok2 v) {s : Int32} (hs : hv_less v s = s) (hs0 : s ≠ 0) {b : Nat} (hb : b ≤ 501) (hb1 : 1 ≤ b) : ∃ M' w, F_X2_minutesTillAllSpoke g s (nI b) M = some (if hv_ta 501 0 v s ≠ -1 ∧ hv_ta 501 0 v s < nI b then hv_ta 501 0 v s else nI b, M') ∧ CS g M w M' := by
  have key : ∀ (n k fuel : Nat) (M1 : hp_M) (w : HV) (s' : Int32), k + 1 + n = 501 → n < fuel → k + 1 ≤ b → CRep (M1 g) w → hv_ok2 w → ∃ M' w', L_X2_minutesTillAllSpoke_5 g s (nI b) fuel s' (nI (k + 1)) M1 = some (if hv_ta n (k + 1) (hv_tick w) s' ≠ -1 ∧ hv_ta n (k + 1) (hv_tick w) s' < nI b then hv_ta n (k + 1) (hv_tick w) s' else nI b, M') ∧ CS g M1 w' M' := by
    intro n
    induction n with
    | zero =>
      intro k fuel M1 w s' hi hfu hk c1 h1
      obtain ⟨m, rfl⟩ : ∃ m, fuel = m + 1 := ⟨fuel - 1, by omega⟩
      rw [L_X2_minutesTillAllSpoke_5.eq_2, if_pos (nI_le (by omega) (by omega)), if_neg (fun q => q.1 rfl)]
      exact ⟨M1, w, rfl, CS.rf c1⟩
    | succ n ih =>
      intro k fuel M1 w s' hi hfu hk c1 h1
      obtain ⟨m, rfl⟩ : ∃ m, fuel = m + 1 := ⟨fuel - 1, by omega⟩
      have hta : ∀ z, hv_ta (n + 1) (k + 1) (hv_tick w) z = if hv_less (hv_tick w) z = 0 then nI (k + 1) else hv_ta n (k + 1 + 1) (hv_tick (hv_tick w)) (hv_less (hv_tick w) z) := fun z => rfl
      have hlow : ∀ (n k : Nat) (w : HV) (z : Int32), k + n ≤ 501 → hv_ta n k w z = -1 ∨ ∃ j : Nat, k ≤ j ∧ j < 501 ∧ hv_ta n k w z = nI j := by
        intro n
        induction n with
        | zero => exact fun _ _ _ _ => Or.inl rfl
        | succ n ih =>
          intro k w z hkn
          show (if hv_less w z = 0 then nI k else hv_ta n (k + 1) (hv_tick w) (hv_less w z)) = -1 ∨ ∃ j : Nat, k ≤ j ∧ j < 501 ∧ (if hv_less w z = 0 then nI k else hv_ta n (k + 1) (hv_tick w) (hv_less w z)) = nI j
          by_cases hz : hv_less w z = 0
          · rw [if_pos hz]; exact Or.inr ⟨k, Nat.le_refl _, by omega, rfl⟩
          · rw [if_neg hz]
            rcases ih (k + 1) (hv_tick w) (hv_less w z) (by omega) with q | ⟨j, q1, q2, q3⟩
            · exact Or.inl q
            · exact Or.inr ⟨j, by omega, q2, q3⟩
      rw [L_X2_minutesTillAllSpoke_5.eq_2]
      by_cases hkb : k + 1 = b
      · rw [if_pos (nI_le (by omega) (by omega)), if_neg (fun q => by
          rcases hlow (n + 1) (k + 1) (hv_tick w) s' (by omega) with z | ⟨j, z1, z2, z3⟩
          · exact q.1 z
          · have := q.2
            rw [z3] at this
            exact nI_nlt (show b ≤ j by omega) (by omega) this)]
        exact ⟨M1, w, rfl, CS.rf c1⟩
      · rw [if_neg (nI_ge (by omega) (by omega)), if_neg (show ¬ (500 : Int32) < nI (k + 1) from nI_nlt (a := 500) (by omega) (by decide))]
        obtain ⟨M2, r2, e2, c2⟩ := x2_pass1 c1 h1
        have h2 : hv_ok2 ((hv_tick w).s_time (w.time + 1)) := ok2_time (ok2_tick h1)
        rw [e2, hp_b_some, x2_are c2.1 3, hp_b_some, hv_spk h2.1, hta, nI_1]
        rw [hv_less_t]
        by_cases hz : hv_less (hv_tick w) s' = 0
        · rw [if_pos hz, if_pos hz, if_pos ⟨fun q => nI_pos (n := k + 1) (by omega) (by rw [q]; decide), nI_lt (by omega) (by omega)⟩]
          exact ⟨M2, _, rfl, c2⟩
        · rw [if_neg hz, if_neg hz]
          obtain ⟨M3, w3, e3, c3⟩ := ih (k + 1) m M2 _ (hv_less (hv_tick w) s') (by omega) (by omega) (by omega) c2.1 h2
          rw [hv_tick_t (w.time + 1) (hv_tick w), hv_ta_t (w.time + 1) n (k + 1 + 1) (hv_tick (hv_tick w)) (hv_less (hv_tick w) s')] at e3
          rw [e3]
          exact ⟨M3, w3, rfl, c2.tr c3⟩
  have h0 : hv_ta 501 0 v s = hv_ta 500 1 (hv_tick v) s := by
    show (if hv_less v s = 0 then nI 0 else hv_ta 500 1 (hv_tick v) (hv_less v s)) = _
    rw [hs, if_neg hs0]
  unfold F_X2_minutesTillAllSpoke
  rw [h0]
  obtain ⟨M', w, e, c1⟩ := key 500 0 hp_fu M v s (by omega) (by unfold hp_fu; omega) (by omega) c h
  exact ⟨M', w, e, c1⟩
theorem r_ta (c : RRep (M 13 1) v) (h : hv_ok2 v) {s : Int32} : ∃ M' w, F_X9_tillAll s M = some (hv_ta 501 0 v s, M') ∧ RS M w M' := by
  have key : ∀ (n k fuel : Nat) (M1 : hp_M) (w : HV) (s' : Int32), k + n = 501 → n < fuel → RRep (M1 13 1) w → hv_ok2 w → ∃ M' w', L_X9_tillAll_4 s fuel s' (nI k) M1 = some (hv_ta n k w s', M') ∧ RS M1 w' M' := by
    intro n
    induction n with
    | zero =>
      intro k fuel M1 w s' hi hfu c1 h1
      obtain ⟨m, rfl⟩ : ∃ m, fuel = m + 1 := ⟨fuel - 1, by omega⟩
      rw [L_X9_tillAll_4.eq_2, if_pos (show (500 : Int32) < nI k from nI_lt (a := 500) (by omega) (by omega))]
      exact ⟨M1, w, rfl, RS.rf c1⟩
    | succ n ih =>
      intro k fuel M1 w s' hi hfu c1 h1
      obtain ⟨m, rfl⟩ : ∃ m, fuel = m + 1 := ⟨fuel - 1, by omega⟩
      obtain ⟨M2, e2, c2⟩ := r_minute c1 h1
      obtain ⟨M3, w3, e3, c3⟩ := ih (k + 1) m M2 _ (hv_less w s') (by omega) (by omega) c2.1 (ok2_time (ok2_tick h1))
      rw [hv_ta_t] at e3
      rw [L_X9_tillAll_4.eq_2, if_neg (show ¬ (500 : Int32) < nI k from nI_nlt (a := 500) (by omega) (by decide)), c1.ph, c1.wh]
      show ∃ M' w', _ = some (if hv_less w s' = 0 then nI k else hv_ta n (k + 1) (hv_tick w) (hv_less w s'), M') ∧ _
      by_cases hp : w.ph = 2
      · have el : hv_less w s' = s' &&& (((1 : Int32) <<< (nI w.who &&& 31)) ^^^ (-1)) := if_pos hp
        rw [if_pos hp, ← el]
        by_cases hz : hv_less w s' = 0
        · rw [if_pos hz, if_pos hz]
          exact ⟨M1, w, rfl, RS.rf c1⟩
        · rw [if_neg hz, if_neg hz, e2, hp_b_some, nI_1, e3]
          exact ⟨M3, w3, rfl, c2.tr c3⟩
      · have el : hv_less w s' = s' := if_neg hp
        rw [if_neg hp]
        rw [el] at e3 ⊢
        by_cases hz : s' = 0
        · rw [if_pos hz, if_pos hz]
          exact ⟨M1, w, rfl, RS.rf c1⟩
        · rw [if_neg hz, if_neg hz, e2, hp_b_some, nI_1, e3]
          exact ⟨M3, w3, rfl, c2.tr c3⟩
  unfold F_X9_tillAll
  obtain ⟨M', w, e, c1⟩ := key 501 0 hp_fu M v s (by omega) (by unfold hp_fu; omega) c h
  exact ⟨M', w, e, c1⟩
end TILL
