/-! ===== a minute of the reference ===== -/
section REF4
variable {M : hp_M} {v : HV}
theorem r_hears (c : RRep (M 13 1) v) {f : Nat} {a0 a1 : Int32} (e0 : a0 = nI f) (e1 : a1 = nI v.who) (hf : f < 10) (hw : v.who < 10) (hs : v.num v.who 2 = 3) : F_X9_hears a0 a1 M = some (if v.num f 2 = 0 ∧ v.num f 1 = 1 ∧ v.num f 0 ≤ v.set 3 then 1 else 0, M) := by
  unfold F_X9_hears
  by_cases h0 : f = v.who
  · rw [if_pos (by rw [e0, e1, h0]), if_neg (fun q => by have := q.1; rw [h0, hs] at this; exact absurd this (by decide))]
  · rw [if_neg (fun q => h0 (by rw [e0, e1] at q; exact (nI_eq (by omega) (by omega)).mp q)), r_g2 c e0 hf, hp_b_some, r_g1 c e0 hf, hp_b_some, r_g0 c e0 hf, hp_b_some, show M 13 1 10 = v.set 3 from c.st 3 (by decide)]
    by_cases h1 : v.num f 2 = 0
    · rw [if_pos h1]
      by_cases h2 : v.num f 1 = 1
      · rw [if_pos h2]
        by_cases h3 : v.set 3 < v.num f 0
        · rw [if_pos h3, if_neg (fun q => by have := q.2.2; grind)]
        · rw [if_neg h3, if_pos ⟨h1, h2, by grind⟩]
      · rw [if_neg h2, if_neg (fun q => h2 q.2.1)]
    · rw [if_neg h1, if_neg (fun q => h1 q.1)]
theorem r_hearl (c : RRep (M 13 1) v) (hw : v.who < 10) (hs : v.num v.who 2 = 3) : ∃ M', L_X9_talks_43 (nI v.who) hp_fu 0 M = some ((), M') ∧ RS M (hv_hear v.flats v) M' := by
  have h10 := c.fl10
  obtain ⟨n', M', e, h⟩ := hp_runs (T := fun n i M1 => L_X9_talks_43 (nI v.who) n (nI i) M1) (I := fun i M1 => RS M (hv_hear i v) M1) (N := v.flats) (fun n i M1 hi hM => by
    have hk := hv_hear_k i v
    show ∃ M2, L_X9_talks_43 (nI v.who) (n + 1) (nI i) M1 = L_X9_talks_43 (nI v.who) n (nI (i + 1)) M2 ∧ RS M (hv_hear1 (hv_hear i v) i) M2
    rw [L_X9_talks_43.eq_2, hM.1.fl, hk.1, if_neg (nI_ge hi (by omega)), r_hears (f := i) (a0 := nI i) hM.1 rfl (by rw [hk.2.2.1]) (by omega) (by rw [hk.2.2.1]; exact hw) (by rw [hk.2.1, hk.2.2.1]; exact hs), hp_b_some, nI_1]
    unfold hv_hear1
    by_cases hl : (hv_hear i v).num i 2 = 0 ∧ (hv_hear i v).num i 1 = 1 ∧ (hv_hear i v).num i 0 ≤ (hv_hear i v).set 3
    · rw [if_pos hl, if_pos hl, if_neg (by decide)]
      obtain ⟨b1, b2⟩ := hp_rix (f := i) (k := v.who) (b := 142) (m := 10) (by omega)
      rw [show (142 : Int32) = nI 142 from rfl, show (10 : Int32) = nI 10 from rfl, if_neg b1, if_neg b1, b2]
      have hh := hM.1.he i v.who (by omega) hw
      rw [hh]
      have c2 := RS.heard (x := (hv_hear i v).heard i v.who + 1) hM.1 (f := i) (k := v.who) (by omega) hw
      obtain ⟨M3, e3, c3⟩ := r_c9 (x := 1) c2.1
      rw [e3, hp_b_some]
      refine ⟨M3, rfl, (hM.tr c2).tr ?_⟩
      rw [hk.2.2.1]
      exact c3
    · rw [if_neg hl, if_neg hl, if_pos rfl]
      exact ⟨M1, rfl, hM⟩) hp_fu M (by unfold hp_fu; omega) (RS.rf c)
  refine ⟨M', e.trans ?_, h⟩
  show L_X9_talks_43 (nI v.who) (n' + 1) (nI v.flats) M' = _
  rw [L_X9_talks_43.eq_2, h.1.fl, (hv_hear_k v.flats v).1, if_pos (nI_le (Nat.le_refl _) (by omega))]
theorem r_talks (c : RRep (M 13 1) v) (hw : v.who < 10) (hs : v.num v.who 2 = 3) : ∃ M', F_X9_talks M = some ((), M') ∧ RS M (hv_talk v) M' := by
  unfold F_X9_talks
  rw [c.wh, c.sp]
  have c1 := RS.spoken (x := v.spoken + 1) c
  rw [c1.1.le]
  have c2 := RS.left (x := v.left - 1) c1.1
  rw [show (v.s_spoken (v.spoken + 1)).left = v.left from rfl]
  obtain ⟨M3, e3, c3⟩ := r_a6 (a0 := nI v.who) (f := v.who) (x := 1) c2.1 rfl hw
  rw [e3, hp_b_some]
  obtain ⟨M4, e4, c4⟩ := r_c3 (x := 1) c3.1
  rw [e4, hp_b_some]
  have hs2 : (hv_acc (hv_put ((v.s_spoken (v.spoken + 1)).s_left (v.left - 1)) v.who 7 (((v.s_spoken (v.spoken + 1)).s_left (v.left - 1)).num v.who 7 + 1)) 3 1).num v.who 2 = 3 := by
    show up2 v.num v.who 7 (v.num v.who 7 + 1) v.who 2 = 3
    simp [up2, hs]
  obtain ⟨M5, e5, c5⟩ := r_hearl c4.1 hw hs2
  exact ⟨M5, e5, (((c1.tr c2).tr c3).tr c4).tr c5⟩
theorem r_join (c : RRep (M 13 1) v) {f : Nat} (hl : v.queue.length < 10) : RS M (hv_join v f) (hp_p (hp_p M 13 1 (31 + v.queue.length) (nI f)) 13 1 30 (nI (v.queue.length + 1))) := by
  refine ⟨c.pqueue (fun j h => ?_) ?_ (by simp; omega) (fun i x hx => ?_), fun g j h => by rw [hp_p_r _ _ _ h, hp_p_r _ _ _ h]⟩
  · rw [hp_p_ro _ _ _ (by omega), hp_p_ro _ _ _ (by omega)]
  · rw [hp_p_rs, List.length_append]; rfl
  · rw [hp_p_ro _ _ _ (by omega)]
    by_cases hi : i < v.queue.length
    · rw [hp_p_ro _ _ _ (by omega)]
      rw [List.getElem?_append_left hi] at hx
      exact c.qu i x hx
    · rw [List.getElem?_append_right (by omega)] at hx
      have hz : i - v.queue.length < 1 := (List.getElem?_eq_some_iff.mp hx).1
      have hz2 : i = v.queue.length := by omega
      subst hz2
      rw [Nat.sub_self] at hx
      cases hx
      rw [hp_p_rs]
theorem r_arrives (c : RRep (M 13 1) v) (hs : ∀ x ∈ v.slate, x.1 < 10) (hw : v.who < 10) (hl : v.queue.length < 10) {f : Nat} {a0 : Int32} (e0 : a0 = nI f) (hf : f < 10) (h0 : v.num f 3 = 0) : ∃ M', F_X9_arrives a0 M = some ((), M') ∧ RS M (hv_arrive (hv_wipe v f) f) M' := by
  unfold F_X9_arrives
  obtain ⟨M1, e1, c1⟩ := r_t3 (x := 0) c e0 hf
  have eid : hv_put v f 3 0 = v := by
    unfold hv_put
    have : up2 v.num f 3 0 = v.num := by
      funext f' k'; unfold up2
      by_cases h : f' = f ∧ k' = 3
      · rw [if_pos h, h.1, h.2, h0]
      · rw [if_neg h]
    rw [this]
  rw [eid] at c1
  obtain ⟨M2, e2, c2⟩ := r_reads c1.1 hs e0 hf
  rw [e1, hp_b_some, e2, hp_b_some, r_called c2.1 e0 hf hw, hp_b_some]
  have c12 := c1.tr c2
  unfold hv_arrive
  by_cases h : (hv_wipe v f).ph = 1 ∧ (hv_wipe v f).who = f
  · rw [if_pos h, if_pos h, if_neg (by decide), c2.1.le]
    obtain ⟨M3, e3, c3⟩ := r_speaks (m := (hv_wipe v f).left) c2.1 e0 hf (Or.inr rfl)
    rw [e3, hp_b_some]
    exact ⟨M3, rfl, c12.tr c3⟩
  · rw [if_neg h, if_neg h, if_pos rfl]
    obtain ⟨M3, e3, c3⟩ := r_t2 (x := 2) c2.1 e0 hf
    rw [e3, hp_b_some, c3.1.ql, show (hv_put (hv_wipe v f) f 2 2).queue = v.queue from rfl, show (31 : Int32) = nI 31 from rfl, nI_add, if_neg (nI_in (by omega) (by decide)), nI_clamp (by omega), hp_p_ro _ _ _ (by omega), c3.1.ql, show (hv_put (hv_wipe v f) f 2 2).queue = v.queue from rfl, nI_1]
    subst e0
    have c4 := r_join (f := f) c3.1 hl
    exact ⟨_, rfl, (c12.tr c3).tr c4⟩
theorem r_downs (c : RRep (M 13 1) v) (h : hv_ok v) : ∃ n' M', A_X9_minute_30 M = L_X9_minute_32 (n' + 1) (nI v.flats) M' ∧ RS M (hv_downs v.flats v) M' := by
  have h10 := c.fl10
  unfold A_X9_minute_30
  exact hp_runs (T := fun n i M1 => L_X9_minute_32 n (nI i) M1) (I := fun i M1 => RS M (hv_downs i v) M1) (N := v.flats) (fun n i M1 hi hM => by
    obtain ⟨h1, h2⟩ := ok_downs h i (by omega)
    show ∃ M2, L_X9_minute_32 (n + 1) (nI i) M1 = L_X9_minute_32 n (nI (i + 1)) M2 ∧ RS M (hv_down (hv_downs i v) i) M2
    generalize hv_downs i v = w at h1 h2 hM ⊢
    have hif : i < w.flats := by rw [h2]; exact hi
    rw [L_X9_minute_32.eq_2, hM.1.fl, h2, if_neg (nI_ge hi (by omega)), r_g2 hM.1 rfl (by omega), hp_b_some, nI_1]
    unfold hv_down
    by_cases hc : w.num i 2 = 1
    · rw [if_pos hc, if_pos hc]
      obtain ⟨M2, e2, c2⟩ := r_a3 (a0 := nI i) (f := i) (x := -1) hM.1 rfl (by omega)
      rw [e2, hp_b_some, r_g3 c2.1 rfl (by omega), hp_b_some]
      have hst := ok_sts h1 i hif hc
      have em : w.num i 3 + -1 = w.num i 3 - 1 := by grind
      have ev : (hv_put w i 3 (w.num i 3 + -1)).num i 3 = w.num i 3 - 1 := by
        show up2 w.num i 3 (w.num i 3 + -1) i 3 = _
        simp [up2, em]
      rw [em] at c2
      rw [em] at ev
      rw [em, ev]
      by_cases h3 : w.num i 3 - 1 ≤ 0
      · have h4 : w.num i 3 - 1 = 0 := by grind
        rw [if_pos h3, if_pos h4]
        have hnq : i ∉ w.queue := fun q => by have := (ok_qin h1 i q).2; rw [hc] at this; exact absurd this (by decide)
        obtain ⟨M3, e3, c3⟩ := r_arrives (f := i) (a0 := nI i) c2.1 (show ∀ x ∈ w.slate, x.1 < 10 from ok_s10 h1) (show w.who < 10 from ok_w10' h1) (show w.queue.length < 10 from ok_room h1 hif hnq) rfl (by omega) (by rw [ev]; exact h4)
        rw [e3, hp_b_some]
        exact ⟨M3, rfl, (hM.tr c2).tr c3⟩
      · have h4 : ¬ w.num i 3 - 1 = 0 := by grind
        rw [if_neg h3, if_neg h4]
        exact ⟨M2, rfl, hM.tr c2⟩
    · rw [if_neg hc, if_neg hc]
      exact ⟨M1, rfl, hM⟩) hp_fu M (by unfold hp_fu; omega) (RS.rf c)
end REF4
