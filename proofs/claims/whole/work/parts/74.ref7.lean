/-! ===== minutes of the reference ===== -/
section REF5
variable {M : hp_M} {v : HV}
theorem r_waits (c : RRep (M 13 1) v) (h : hv_ok v) : ∃ M', A_X9_minute_213 M = some ((), M') ∧ RS M (hv_waits v) M' := by
  have h10 := c.fl10
  unfold A_X9_minute_213
  obtain ⟨n', M', e, hh⟩ := hp_runs (T := fun n i M1 => L_X9_minute_215 n (nI i) M1) (I := fun i M1 => RS M (v.s_num (fun f k => if k = 10 ∧ f < i ∧ f ∈ v.queue then v.num f 10 + 1 else v.num f k)) M1) (N := v.flats) (fun n i M1 hi hM => by
    show ∃ M2, L_X9_minute_215 (n + 1) (nI i) M1 = L_X9_minute_215 n (nI (i + 1)) M2 ∧ RS M _ M2
    generalize hw : v.s_num (fun f k => if k = 10 ∧ f < i ∧ f ∈ v.queue then v.num f 10 + 1 else v.num f k) = w at hM
    have wf : w.flats = v.flats := by rw [← hw]
    have w2 : w.num i 2 = v.num i 2 := by
      rw [← hw]
      show (if (2 : Nat) = 10 ∧ i < i ∧ i ∈ v.queue then v.num i 10 + 1 else v.num i 2) = _
      rw [if_neg (by omega)]
    have w10 : w.num i 10 = v.num i 10 := by
      rw [← hw]
      show (if (10 : Nat) = 10 ∧ i < i ∧ i ∈ v.queue then v.num i 10 + 1 else v.num i 10) = _
      rw [if_neg (by omega)]
    have hq : v.num i 2 = 2 ↔ i ∈ v.queue := ⟨fun q => ok_qall h i hi q, fun q => (ok_qin h i q).2⟩
    have hnew : ∀ x : Int32, (i ∈ v.queue → x = 1) → (i ∉ v.queue → x = 0) → hv_put w i 10 (w.num i 10 + x) = v.s_num (fun f k => if k = 10 ∧ f < i + 1 ∧ f ∈ v.queue then v.num f 10 + 1 else v.num f k) := by
      intro x hx1 hx0
      rw [w10, ← hw]
      show v.s_num (up2 (fun f k => if k = 10 ∧ f < i ∧ f ∈ v.queue then v.num f 10 + 1 else v.num f k) i 10 (v.num i 10 + x)) = _
      congr 1
      congr 1
      congr 1
      congr 1
      congr 1
      congr 1
      funext f k
      unfold up2
      by_cases hfk : f = i ∧ k = 10
      · rw [if_pos hfk, hfk.1, hfk.2]
        by_cases hiq : i ∈ v.queue
        · rw [if_pos ⟨rfl, by omega, hiq⟩, hx1 hiq]
        · rw [if_neg (fun q => hiq q.2.2), hx0 hiq]; grind
      · rw [if_neg hfk]
        exact ite_iff (by constructor <;> intro q <;> grind)
    rw [L_X9_minute_215.eq_2, hM.1.fl, wf, if_neg (nI_ge hi (by omega)), r_g2 hM.1 rfl (by omega), hp_b_some, w2, nI_1]
    by_cases h2 : v.num i 2 = 2
    · rw [if_pos h2]
      obtain ⟨M2, e2, c2⟩ := r_a8 (a0 := nI i) (f := i) (x := 1) hM.1 rfl (by omega)
      rw [hnew 1 (fun _ => rfl) (fun q => absurd (hq.mp h2) q)] at c2
      rw [e2, hp_b_some]
      exact ⟨M2, rfl, hM.tr c2⟩
    · rw [if_neg h2]
      obtain ⟨M2, e2, c2⟩ := r_a8 (a0 := nI i) (f := i) (x := 0) hM.1 rfl (by omega)
      rw [hnew 0 (fun q => absurd (hq.mpr q) h2) (fun _ => rfl)] at c2
      rw [e2, hp_b_some]
      exact ⟨M2, rfl, hM.tr c2⟩) hp_fu M (by unfold hp_fu; omega) (by
      have e : v.s_num (fun f k => if k = 10 ∧ f < 0 ∧ f ∈ v.queue then v.num f 10 + 1 else v.num f k) = v := by
        have e2 : (fun f k => if k = 10 ∧ f < 0 ∧ f ∈ v.queue then v.num f 10 + 1 else v.num f k) = v.num := by funext f k; rw [if_neg (by omega)]
        rw [e2]
      rw [e]
      exact RS.rf c)
  have e3 : v.s_num (fun f k => if k = 10 ∧ f < v.flats ∧ f ∈ v.queue then v.num f 10 + 1 else v.num f k) = hv_waits v := by
    unfold hv_waits
    have : (fun f k => if k = 10 ∧ f < v.flats ∧ f ∈ v.queue then v.num f 10 + 1 else v.num f k) = (fun f k => if k = 10 ∧ f ∈ v.queue then v.num f 10 + 1 else v.num f k) := by
      funext f k
      exact ite_iff ⟨fun q => ⟨q.1, q.2.2⟩, fun q => ⟨q.1, (ok_qin h f q.2).1, q.2⟩⟩
    rw [this]
  rw [e3] at hh
  refine ⟨M', e.trans ?_, hh⟩
  show L_X9_minute_215 (n' + 1) (nI v.flats) M' = _
  rw [L_X9_minute_215.eq_2, hh.1.fl, show (hv_waits v).flats = v.flats from rfl, if_pos (nI_le (Nat.le_refl _) (by show v.flats < 2 ^ 31; omega))]
theorem r_a167 (c : RRep (M 13 1) v) (h : hv_ok v) : ∃ M', A_X9_minute_167 M = some ((), M') ∧ RS M (hv_waits (hv_next v)) M' := by
  have h10 := c.q10
  unfold A_X9_minute_167 hv_next
  rw [c.ph, c.ql]
  by_cases hp : v.ph = 0
  · rw [if_pos hp, if_pos hp]
    cases hq : v.queue with
    | nil =>
      rw [if_pos (by decide)]
      exact r_waits c h
    | cons f l =>
      have hm : f ∈ v.queue := by rw [hq]; exact List.mem_cons_self
      have hf := ok_q10 h f hm
      have hl : (f :: l).length < 2 ^ 31 := by rw [← hq]; omega
      have e31 : M 13 1 31 = nI f := c.qu 0 f (by rw [hq]; rfl)
      rw [if_neg (nI_nle (by simp) hl), e31, r_g4 c rfl hf, hp_b_some]
      obtain ⟨M1, e1, c1⟩ := r_leave c (ok_q10 h) (ok_qnd h) (f := f) (a0 := nI f) rfl hf hm
      obtain ⟨M2, e2, c2⟩ := r_speaks (f := f) (a0 := nI f) (m := v.num f 4) (u := 0) c1.1 rfl hf (Or.inl rfl)
      have h2 := ok_next h hp hm
      obtain ⟨M3, e3, c3⟩ := r_waits c2.1 h2
      rw [e1, hp_b_some, e2, hp_b_some]
      exact ⟨M3, e3, (c1.tr c2).tr c3⟩
  · rw [if_neg hp, if_neg hp]
    exact r_waits c h
theorem r_a144 (c : RRep (M 13 1) v) (h : hv_ok v) (ho : hv_over v) : ∃ M', A_X9_minute_144 M = some ((), M') ∧ RS M (hv_waits (hv_next (hv_fin v))) M' := by
  have hp : v.ph ≠ 0 := by rw [ho.1]; decide
  have key : ∀ z : Int32, (z = if v.left ≤ 0 then 0 else 1) → ∃ M', A_X9_minute_160 z 2 M = some ((), M') ∧ RS M (hv_waits (hv_next (hv_fin v))) M' := by
    intro z hz
    unfold A_X9_minute_160 hv_fin
    rw [if_pos ho]
    obtain ⟨M1, e1, c1⟩ := r_c2 (x := z) c
    obtain ⟨M2, e2, c2⟩ := r_ends c1.1 (show v.who < 10 from ok_w10 h hp) (by have := (ok_un h).1; show 0 < v.set 1; grind) (ok_ou h)
    have h2 : hv_ok (hv_end (hv_acc v 2 z)) := ok_end (ok_acc h) ho.1
    obtain ⟨M3, e3, c3⟩ := r_a167 c2.1 h2
    rw [e1, hp_b_some, e2, hp_b_some]
    subst hz
    exact ⟨M3, e3, (c1.tr c2).tr c3⟩
  unfold A_X9_minute_144
  rw [c.le]
  by_cases hl : v.left ≤ 0
  · rw [if_pos hl]; exact key 0 (by rw [if_pos hl])
  · rw [if_neg hl]; exact key 1 (by rw [if_neg hl])
theorem r_fin (c : RRep (M 13 1) v) (h : hv_ok v) (n : Nat) : ∃ M', L_X9_minute_32 (n + 1) (nI v.flats) M = some ((), M') ∧ RS M (hv_waits (hv_next (hv_fin v))) M' := by
  have h10 := c.q10
  have hf10 := c.fl10
  have hle := ok_le h
  have hno : ¬ hv_over v → ∃ M', A_X9_minute_167 M = some ((), M') ∧ RS M (hv_waits (hv_next (hv_fin v))) M' := by
    intro q
    have e : hv_fin v = v := if_neg q
    rw [e]
    exact r_a167 c h
  have key0 : ¬ (0 < v.set 0 ∧ v.set 0 ≤ v.spoken ∧ v.queue ≠ []) → ∃ M', A_X9_minute_119 M = some ((), M') ∧ RS M (hv_waits (hv_next (hv_fin v))) M' := by
    intro hl
    unfold A_X9_minute_119 A_X9_minute_120
    rw [c.ph, c.le]
    by_cases h1 : v.ph = 2
    · rw [if_pos h1]
      by_cases h2 : v.left = 0
      · rw [if_pos h2]
        exact r_a144 c h ⟨h1, Or.inl (by rw [h2]; decide)⟩
      · rw [if_neg h2, if_pos rfl]
        refine hno (fun q => ?_)
        rcases q.2 with q2 | q2
        · exact h2 (by grind)
        · exact hl q2
    · rw [if_neg h1]
      exact hno (fun q => h1 q.1)
  rw [L_X9_minute_32.eq_2, c.fl, if_pos (nI_le (Nat.le_refl _) (by omega)), show M 13 1 7 = v.set 0 from c.st 0 (by decide), c.sp, c.ql]
  by_cases h1 : v.set 0 ≤ 0
  · rw [if_pos h1]; exact key0 (fun q => by grind)
  · rw [if_neg h1]
    by_cases h2 : v.spoken < v.set 0
    · rw [if_pos h2]; exact key0 (fun q => by grind)
    · rw [if_neg h2]
      by_cases h3 : v.queue = []
      · have hl : v.queue.length = 0 := by rw [h3]; rfl
        rw [hl, if_pos (by decide)]; exact key0 (fun q => q.2.2 h3)
      · have h4 : 0 < v.queue.length := List.length_pos_iff.mpr h3
        rw [if_neg (nI_nle h4 (by omega))]
        unfold A_X9_minute_120
        rw [c.ph, c.le]
        by_cases h5 : v.ph = 2
        · have ho : hv_over v := ⟨h5, Or.inr ⟨by grind, by grind, h3⟩⟩
          rw [if_pos h5]
          split
          · exact r_a144 c h ho
          · rw [if_neg (by decide)]
            exact r_a144 c h ho
        · rw [if_neg h5]
          exact hno (fun q => h5 q.1)
theorem RS.time (c : RRep (M 13 1) v) {x : Int32} : RS M (v.s_time x) (hp_p (hp_p M 13 1 1 x) 13 1 42 x) := ⟨c.ptime (fun i h1 h2 => by rw [hp_p_ro _ _ _ h2, hp_p_ro _ _ _ h1]) (by rw [hp_p_ro _ _ _ (by decide), hp_p_rs]) (hp_p_rs _ _ _), fun g j h => by rw [hp_p_r _ _ _ h, hp_p_r _ _ _ h]⟩
theorem ok2_time (h : hv_ok2 v) {x : Int32} : hv_ok2 (v.s_time x) := ⟨ok_time h.1, h.2⟩
theorem r_minute (c : RRep (M 13 1) v) (h : hv_ok2 v) : ∃ M', F_X9_minute M = some ((), M') ∧ RS M ((hv_tick v).s_time (v.time + 1)) M' := by
  have key : ∀ (u : HV) (M2 : hp_M), RS M u M2 → hv_ok u → ∃ M', A_X9_minute_30 M2 = some ((), M') ∧ RS M (hv_tick0 u) M' := by
    intro u M2 cu hu
    obtain ⟨n', M3, e3, c3⟩ := r_downs cu.1 hu
    obtain ⟨h1, hfl⟩ := ok_downs hu u.flats (Nat.le_refl _)
    obtain ⟨M4, e4, c4⟩ := r_fin c3.1 h1 n'
    rw [hfl] at e4
    exact ⟨M4, e3.trans e4, (cu.tr c3).tr c4⟩
  unfold F_X9_minute
  have e42 : hp_p M 13 1 1 (v.time + 1) 13 1 (42 + 0) = v.time := (hp_p_ro _ _ _ (by decide)).trans c.t2
  rw [r_counts0 (a0 := 0) (i := 0) rfl (by decide), hp_b_some, c.ti, e42]
  have c1 : RS M (v.s_time (v.time + 1)) (hp_p (hp_p M 13 1 1 (v.time + 1)) 13 1 (42 + 0) (v.time + 1)) := RS.time c
  have h2 : hv_ok2 (v.s_time (v.time + 1)) := ok2_time h
  have ht := ok_told h2
  rw [c1.1.ph, ← hv_tick_t]
  unfold hv_tick
  by_cases hp : (v.s_time (v.time + 1)).ph = 2
  · rw [if_pos hp]
    have et : hv_told (v.s_time (v.time + 1)) = hv_talk (v.s_time (v.time + 1)) := if_pos hp
    rw [et] at ht ⊢
    obtain ⟨M2, e2, c2⟩ := r_talks c1.1 (ok_w10 h2.1 (by rw [hp]; decide)) (ok_sp h2.1 hp)
    rw [e2, hp_b_some]
    exact key _ _ (c1.tr c2) ht
  · rw [if_neg hp]
    have et : hv_told (v.s_time (v.time + 1)) = v.s_time (v.time + 1) := if_neg hp
    rw [et] at ht ⊢
    exact key _ _ c1 ht
theorem hv_acc_t (w : HV) (x : Int32) : (w.s_time x).acc 1 = w.acc 1 := rfl
theorem hv_t_t (w u : HV) (x y : Int32) : (w.s_time x).s_time ((u.s_time x).time + y) = w.s_time (x + y) := rfl
theorem hv_run_time : ∀ (n : Nat) (v : HV), (hv_run n v).time = v.time := by
  have h : ∀ v : HV, (hv_tick v).time = v.time := by
    intro v
    have := congrArg HV.time (hv_tick_t v.time v)
    exact this
  intro n
  induction n with
  | zero => exact fun _ => rfl
  | succ n ih => intro v; exact (ih (hv_tick v)).trans (h v)
theorem r_minutes (k : Nat) (hk : k < 1000) : ∀ (c : RRep (M 13 1) v) (h : hv_ok2 v) {a0 : Int32} (e0 : a0 = nI k), ∃ M', F_X9_minutes a0 M = some ((hv_run k v).acc 1 - v.acc 1, M') ∧ RS M ((hv_run k v).s_time (v.time + nI k)) M' := by
  intro c h a0 e0
  subst e0
  have key : ∀ (n i fuel : Nat) (M1 : hp_M) (w : HV), i + n = k → n < fuel → RRep (M1 13 1) w → hv_ok2 w → ∃ M', L_X9_minutes_10 (nI k) (v.acc 1) fuel (nI i) M1 = some ((hv_run n w).acc 1 - v.acc 1, M') ∧ RS M1 ((hv_run n w).s_time (w.time + nI n)) M' := by
    intro n
    induction n with
    | zero =>
      intro i fuel M1 w hi hf c1 h1
      obtain ⟨m, rfl⟩ : ∃ m, fuel = m + 1 := ⟨fuel - 1, by omega⟩
      rw [L_X9_minutes_10.eq_2, if_pos (nI_le (by omega) (by omega)), show M1 13 1 43 = w.acc 1 from c1.ac 1 (by decide) (by decide)]
      have e : (hv_run 0 w).s_time (w.time + nI 0) = w := by
        show w.s_time (w.time + nI 0) = w
        rw [nI_0, show w.time + 0 = w.time by grind]
      rw [e]
      exact ⟨M1, rfl, RS.rf c1⟩
    | succ n ih =>
      intro i fuel M1 w hi hf c1 h1
      obtain ⟨m, rfl⟩ : ∃ m, fuel = m + 1 := ⟨fuel - 1, by omega⟩
      obtain ⟨M2, e2, c2⟩ := r_minute c1 h1
      have h2 : hv_ok2 ((hv_tick w).s_time (w.time + 1)) := ok2_time (ok2_tick h1)
      obtain ⟨M3, e3, c3⟩ := ih (i + 1) m M2 _ (by omega) (by omega) c2.1 h2
      rw [L_X9_minutes_10.eq_2, if_neg (nI_ge (by omega) (by omega)), e2, hp_b_some, nI_1, e3]
      refine ⟨M3, ?_, ?_⟩
      · have e9 : (hv_run n ((hv_tick w).s_time (w.time + 1))).acc 1 = (hv_run (n + 1) w).acc 1 := by rw [hv_run_t]; exact hv_acc_t _ _
        rw [e9]
      · have c4 := c2.tr c3
        rw [hv_run_t] at c4
        have e : ((hv_run n (hv_tick w)).s_time (w.time + 1)).s_time (((hv_tick w).s_time (w.time + 1)).time + nI n) = (hv_run (n + 1) w).s_time (w.time + nI (n + 1)) := by
          rw [show w.time + nI (n + 1) = w.time + 1 + nI n by rw [nI_succ n]; grind]
          exact hv_t_t _ (hv_tick w) _ _
        rw [e] at c4
        exact c4
  unfold F_X9_minutes
  rw [show M 13 1 43 = v.acc 1 from c.ac 1 (by decide) (by decide)]
  exact key k 0 hp_fu M v (by omega) (by unfold hp_fu; omega) c h
end REF5
