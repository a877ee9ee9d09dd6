/-! ===== letting minutes pass: TIME aside, and the quiet house ===== -/
theorem hv_bit_ne : ∀ n : Nat, n < 10 → ¬ ((1 : Int32) <<< (nI n &&& 31)) = 0 := by decide +kernel
theorem hv_bits_0 (p : Nat → Bool) : ∀ n : Nat, n ≤ 10 → (hv_bits p n = 0 ↔ ∀ f : Nat, f < n → p f = false) := by
  intro n
  induction n with
  | zero => exact fun _ => ⟨fun _ f h => absurd h (by omega), fun _ => rfl⟩
  | succ n ih =>
    intro hn
    have e : hv_bits p (n + 1) = if p n then hv_bits p n ||| ((1 : Int32) <<< (nI n &&& 31)) else hv_bits p n := rfl
    rw [e]
    have h1 := ih (by omega)
    cases hp : p n with
    | true =>
      rw [if_pos rfl]
      constructor
      · intro q
        exact absurd (Int32.or_eq_zero_iff.mp q).2 (hv_bit_ne n (by omega))
      · intro q
        have := q n (by omega)
        rw [hp] at this
        cases this
    | false =>
      rw [if_neg (by decide), h1]
      constructor
      · intro q f hf
        by_cases hfn : f = n
        · rw [hfn]; exact hp
        · exact q f (by omega)
      · exact fun q f hf => q f (by omega)
section CLS8
variable {g : Nat} {M : hp_M} {v : HV}
theorem hv_hear_t (t : Int32) (v : HV) : ∀ n : Nat, hv_hear n (v.s_time t) = (hv_hear n v).s_time t := by
  intro n
  induction n with
  | zero => rfl
  | succ n ih =>
    show hv_hear1 (hv_hear n (v.s_time t)) n = (hv_hear1 (hv_hear n v) n).s_time t
    rw [ih]
    unfold hv_hear1
    by_cases h : (hv_hear n v).num n 2 = 0 ∧ (hv_hear n v).num n 1 = 1 ∧ (hv_hear n v).num n 0 ≤ (hv_hear n v).set 3
    · rw [if_pos h]
      first | (rw [if_pos h]; done) | (rw [if_pos h]; rfl)
    · rw [if_neg h]
      first | (rw [if_neg h]; done) | (rw [if_neg h]; rfl)
theorem hv_told_t (t : Int32) (v : HV) : hv_told (v.s_time t) = (hv_told v).s_time t := by
  unfold hv_told
  by_cases h : v.ph = 2
  · rw [if_pos h, if_pos (show (v.s_time t).ph = 2 from h)]
    exact hv_hear_t t (hv_talk0 v) v.flats
  · rw [if_neg h, if_neg (show ¬ (v.s_time t).ph = 2 from h)]
theorem hv_down_t (t : Int32) (v : HV) (f : Nat) : hv_down (v.s_time t) f = (hv_down v f).s_time t := by
  unfold hv_down
  by_cases h1 : v.num f 2 = 1
  · rw [if_pos h1, if_pos (show (v.s_time t).num f 2 = 1 from h1)]
    by_cases h2 : v.num f 3 - 1 ≤ 0
    · rw [if_pos h2, if_pos (show (v.s_time t).num f 3 - 1 ≤ 0 from h2)]
      unfold hv_arrive
      by_cases h3 : v.ph = 1 ∧ v.who = f
      · rw [if_pos (show (hv_wipe (hv_put v f 3 (v.num f 3 - 1)) f).ph = 1 ∧ (hv_wipe (hv_put v f 3 (v.num f 3 - 1)) f).who = f from h3)]
        exact if_pos h3
      · rw [if_neg (show ¬ ((hv_wipe (hv_put v f 3 (v.num f 3 - 1)) f).ph = 1 ∧ (hv_wipe (hv_put v f 3 (v.num f 3 - 1)) f).who = f) from h3)]
        exact if_neg h3
    · rw [if_neg h2, if_neg (show ¬ (v.s_time t).num f 3 - 1 ≤ 0 from h2)]
      rfl
  · rw [if_neg h1, if_neg (show ¬ (v.s_time t).num f 2 = 1 from h1)]
theorem hv_downs_t (t : Int32) (v : HV) : ∀ n : Nat, hv_downs n (v.s_time t) = (hv_downs n v).s_time t := by
  intro n
  induction n with
  | zero => rfl
  | succ n ih =>
    show hv_down (hv_downs n (v.s_time t)) n = (hv_down (hv_downs n v) n).s_time t
    rw [ih, hv_down_t]
theorem hv_fin_t (t : Int32) (v : HV) : hv_fin (v.s_time t) = (hv_fin v).s_time t := by
  unfold hv_fin
  by_cases h : hv_over v
  · rw [if_pos h, if_pos (show hv_over (v.s_time t) from h)]; rfl
  · rw [if_neg h, if_neg (show ¬ hv_over (v.s_time t) from h)]
theorem hv_next_t (t : Int32) (v : HV) : hv_next (v.s_time t) = (hv_next v).s_time t := by
  unfold hv_next
  by_cases h : v.ph = 0
  · rw [if_pos h, if_pos (show (v.s_time t).ph = 0 from h)]
    have e : (v.s_time t).queue = v.queue := rfl
    rw [e]
    cases v.queue with
    | nil => rfl
    | cons f l => rfl
  · rw [if_neg h, if_neg (show ¬ (v.s_time t).ph = 0 from h)]
theorem hv_tick_t (t : Int32) (v : HV) : hv_tick (v.s_time t) = (hv_tick v).s_time t := by
  unfold hv_tick hv_tick0
  rw [hv_told_t]
  have e : ((hv_told v).s_time t).flats = (hv_told v).flats := rfl
  rw [e, hv_downs_t, hv_fin_t, hv_next_t]
  rfl
theorem hv_ends_t (t : Int32) (v : HV) : hv_ends (v.s_time t) = hv_ends v := by
  unfold hv_ends
  rw [hv_told_t]
  have e : ((hv_told v).s_time t).flats = (hv_told v).flats := rfl
  rw [e, hv_downs_t]
theorem hv_run_t (t : Int32) : ∀ (n : Nat) (v : HV), hv_run n (v.s_time t) = (hv_run n v).s_time t := by
  intro n
  induction n with
  | zero => exact fun _ => rfl
  | succ n ih =>
    intro v
    show hv_run n (hv_tick (v.s_time t)) = (hv_run n (hv_tick v)).s_time t
    rw [hv_tick_t, ih]
theorem hv_runE_t (t : Int32) : ∀ (n : Nat) (v : HV) (e : Int32), hv_runE n (v.s_time t) e = hv_runE n v e := by
  intro n
  induction n with
  | zero => exact fun _ _ => rfl
  | succ n ih =>
    intro v e
    show hv_runE n (hv_tick (v.s_time t)) (e + hv_ends (v.s_time t)) = hv_runE n (hv_tick v) (e + hv_ends v)
    rw [hv_tick_t, hv_ends_t, ih]
theorem hv_quiet_tick (h : hv_quiet v) : hv_tick v = v ∧ hv_ends v = 0 := by
  obtain ⟨h1, h2, h3⟩ := h
  have e1 : hv_told v = v := if_neg (by rw [h1]; decide)
  have e2 : ∀ n : Nat, n ≤ v.flats → hv_downs n v = v := by
    intro n
    induction n with
    | zero => exact fun _ => rfl
    | succ n ih =>
      intro hn
      show hv_down (hv_downs n v) n = v
      rw [ih (by omega)]
      exact if_neg (h3 n (by omega))
  have e3 : ¬ hv_over v := fun q => absurd (h1.symm.trans q.1) (by decide)
  have e4 : hv_fin v = v := if_neg e3
  have e5 : hv_next v = v := by
    unfold hv_next
    rw [if_pos h1, h2]
  have e6 : hv_waits v = v := by
    unfold hv_waits
    have e : (fun f k => if k = 10 ∧ f ∈ v.queue then v.num f 10 + 1 else v.num f k) = v.num := by
      funext f k
      rw [h2]
      exact if_neg (fun q => by simp at q)
    rw [e]
  constructor
  · unfold hv_tick hv_tick0
    rw [e1, e2 _ (Nat.le_refl _), e4, e5, e6]
  · unfold hv_ends
    rw [e1, e2 _ (Nat.le_refl _), if_neg e3]
theorem hv_quiet_run (h : hv_quiet v) : ∀ (n : Nat) (e : Int32), hv_run n v = v ∧ hv_runE n v e = e := by
  intro n
  induction n with
  | zero => exact fun _ => ⟨rfl, rfl⟩
  | succ n ih =>
    intro e
    show hv_run n (hv_tick v) = v ∧ hv_runE n (hv_tick v) (e + hv_ends v) = e
    rw [(hv_quiet_tick h).1, (hv_quiet_tick h).2, show e + 0 = e by grind]
    exact ih e
theorem x2_quiet (c : CRep (M g) v) : ∃ r : Int32, F_X2_isQuiet g M = some (r, M) ∧ (r = 0 ↔ ¬ hv_quiet v) := by
  have h10 := c.q10
  unfold F_X2_isQuiet
  rw [c.ph, c.ql, x2_are c 1]
  by_cases h1 : v.ph = 0
  · rw [if_pos h1]
    by_cases h2 : v.queue = []
    · have hl : v.queue.length = 0 := by rw [h2]; rfl
      rw [hl, if_pos (by decide), hp_b_some]
      have hb := hv_bits_0 (fun f => decide (v.num f 2 = 1)) v.flats c.fl10
      by_cases h3 : hv_bits (fun f => decide (v.num f 2 = 1)) v.flats = 0
      · rw [if_pos h3]
        refine ⟨1, rfl, ⟨fun q => absurd q (by decide), fun q => absurd ⟨h1, h2, fun f hf => ?_⟩ q⟩⟩
        have := hb.mp h3 f hf
        simpa using this
      · rw [if_neg h3]
        refine ⟨0, rfl, ⟨fun _ q => h3 (hb.mpr fun f hf => ?_), fun _ => rfl⟩⟩
        simpa using q.2.2 f hf
    · have h4 : 0 < v.queue.length := List.length_pos_iff.mpr h2
      rw [if_neg (nI_ne0 h4 (by omega))]
      exact ⟨0, rfl, ⟨fun _ q => h2 q.2.1, fun _ => rfl⟩⟩
  · rw [if_neg h1]
    exact ⟨0, rfl, ⟨fun _ q => h1 q.1, fun _ => rfl⟩⟩
theorem x2_pass (c : CRep (M g) v) (h : hv_ok2 v) {k : Nat} {a0 : Int32} (e0 : a0 = nI k) (hk : k < 1000) : ∃ M', F_X2_letPass g a0 M = some (hv_runE k v 0, M') ∧ CS g M ((hv_run k v).s_time (v.time + nI k)) M' := by
  subst e0
  have key : ∀ (n i fuel : Nat) (M1 : hp_M) (w : HV) (e : Int32), i + n = k → n < fuel → CRep (M1 g) w → hv_ok2 w → ∃ M', L_X2_letPass_14 g (nI k) fuel e (nI i) M1 = some (hv_runE n w e, M') ∧ CS g M1 (hv_run n w) M' := by
    intro n
    induction n with
    | zero =>
      intro i fuel M1 w e hi hf c1 h1
      obtain ⟨m, rfl⟩ : ∃ m, fuel = m + 1 := ⟨fuel - 1, by omega⟩
      rw [L_X2_letPass_14.eq_2, if_pos (nI_le (by omega) (by omega))]
      exact ⟨M1, rfl, CS.rf c1⟩
    | succ n ih =>
      intro i fuel M1 w e hi hf c1 h1
      obtain ⟨m, rfl⟩ : ∃ m, fuel = m + 1 := ⟨fuel - 1, by omega⟩
      obtain ⟨r, er, hr⟩ := x2_quiet c1
      rw [L_X2_letPass_14.eq_2, if_neg (nI_ge (by omega) (by omega)), er, hp_b_some]
      by_cases hq : hv_quiet w
      · rw [if_neg (fun q => hr.mp q hq)]
        have := hv_quiet_run hq (n + 1) e
        rw [this.1, this.2]
        exact ⟨M1, rfl, CS.rf c1⟩
      · rw [if_pos (hr.mpr hq), c1.ph]
        show ∃ M', _ = some (hv_runE n (hv_tick w) (e + hv_ends w), M') ∧ CS g M1 (hv_run n (hv_tick w)) M'
        have h2 := ok2_tick h1
        have ht := ok_told h1
        by_cases hp : w.ph = 2
        · rw [if_pos hp]
          have et : hv_told w = hv_talk w := if_pos hp
          rw [et] at ht
          obtain ⟨M2, e2, c2⟩ := x2_talk c1 hp (ok_w10 h1.1 (by rw [hp]; decide))
          obtain ⟨M3, e3, c3⟩ := x2_minute c2.1 ht (nI k) (L_X2_letPass_14 g (nI k) m) e (nI i)
          have e4 : hv_tick0 (hv_talk w) = hv_tick w := by unfold hv_tick; rw [et]
          rw [e4] at c3
          obtain ⟨M4, e5, c4⟩ := ih (i + 1) m M3 (hv_tick w) (e + hv_ends w) (by omega) (by omega) c3.1 h2
          refine ⟨M4, ?_, (c2.tr c3).tr c4⟩
          rw [e2, hp_b_some, e3, nI_1, ← e5]
          congr 1
          unfold hv_ends
          rw [et]
        · rw [if_neg hp]
          have et : hv_told w = w := if_neg hp
          rw [et] at ht
          obtain ⟨M3, e3, c3⟩ := x2_minute c1 ht (nI k) (L_X2_letPass_14 g (nI k) m) e (nI i)
          have e4 : hv_tick0 w = hv_tick w := by unfold hv_tick; rw [et]
          rw [e4] at c3
          obtain ⟨M4, e5, c4⟩ := ih (i + 1) m M3 (hv_tick w) (e + hv_ends w) (by omega) (by omega) c3.1 h2
          refine ⟨M4, ?_, c3.tr c4⟩
          rw [e3, nI_1, ← e5]
          congr 1
          unfold hv_ends
          rw [et]
  unfold F_X2_letPass
  rw [c.ti]
  have c1 := CS.time (d := v.time + nI k) c
  obtain ⟨M', e, c2⟩ := key k 0 hp_fu _ (v.s_time (v.time + nI k)) 0 (by omega) (by unfold hp_fu; omega) c1.1 ⟨ok_time h.1, h.2⟩
  rw [hv_run_t, hv_runE_t] at *
  exact ⟨M', e, c1.tr c2⟩
end CLS8
