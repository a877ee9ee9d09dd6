/-! ===== calls ended in minutes; the reference's deeds ===== -/
theorem hv_hear_a1 (n : Nat) (v : HV) : (hv_hear n v).acc 1 = v.acc 1 := by
  induction n with
  | zero => rfl
  | succ n ih =>
    have e : hv_hear (n + 1) v = hv_hear1 (hv_hear n v) n := rfl
    rw [e]
    unfold hv_hear1
    split
    · show up1 (hv_hear n v).acc 9 ((hv_hear n v).acc 9 + 1) 1 = _
      rw [← ih]
      exact if_neg (by decide)
    · exact ih
theorem hv_told_a1 (v : HV) : (hv_told v).acc 1 = v.acc 1 := by
  unfold hv_told
  split
  · refine (hv_hear_a1 v.flats (hv_talk0 v)).trans ?_
    show up1 v.acc 3 (v.acc 3 + 1) 1 = _
    exact if_neg (by decide)
  · rfl
theorem hv_down_a1 (v : HV) (f : Nat) : (hv_down v f).acc 1 = v.acc 1 := by
  have h : ∀ (w : HV) (x : Int32), up1 w.acc 7 x 1 = w.acc 1 := fun w x => if_neg (by decide)
  unfold hv_down
  split
  · split
    · unfold hv_arrive
      split
      · exact h v (v.acc 7 + (nI v.slate.length - nI (hv_rest v.slate f).length))
      · exact h v (v.acc 7 + (nI v.slate.length - nI (hv_rest v.slate f).length))
    · rfl
  · rfl
theorem hv_downs_a1 (v : HV) : ∀ n : Nat, (hv_downs n v).acc 1 = v.acc 1 := by
  intro n
  induction n with
  | zero => rfl
  | succ n ih => exact (hv_down_a1 (hv_downs n v) n).trans ih
theorem hv_end_a1 (w : HV) : (hv_end w).acc 1 = w.acc 1 + 1 := by
  show up1 (up1 w.acc 1 (w.acc 1 + 1)) 4 (up1 w.acc 1 (w.acc 1 + 1) 4 + hv_due w) 1 = _
  simp [up1]
theorem hv_fin_a1 (v : HV) : (hv_fin v).acc 1 = v.acc 1 + if hv_over v then 1 else 0 := by
  unfold hv_fin
  by_cases h : hv_over v
  · rw [if_pos h, if_pos h]
    rw [hv_end_a1]
    congr 1
  · rw [if_neg h, if_neg h]; grind
theorem hv_next_a1 (v : HV) : (hv_next v).acc 1 = v.acc 1 := by
  unfold hv_next
  split
  · split
    · rfl
    · rfl
  · rfl
theorem hv_tick_a1 (v : HV) : (hv_tick v).acc 1 = v.acc 1 + hv_ends v := by
  show (hv_next (hv_fin (hv_downs (hv_told v).flats (hv_told v)))).acc 1 = _
  rw [hv_next_a1, hv_fin_a1, hv_downs_a1, hv_told_a1]
  rfl
theorem hv_runE_a1 : ∀ (n : Nat) (v : HV) (e : Int32), hv_runE n v e = e + ((hv_run n v).acc 1 - v.acc 1) := by
  intro n
  induction n with
  | zero => intro v e; show e = e + (v.acc 1 - v.acc 1); grind
  | succ n ih =>
    intro v e
    show hv_runE n (hv_tick v) (e + hv_ends v) = e + ((hv_run n (hv_tick v)).acc 1 - v.acc 1)
    rw [ih, hv_tick_a1]
    grind
/-- what comes of a call from outside while the telephone is FREE -/
def hv_outc (v : HV) (f : Nat) : Int32 := if v.num f 2 = 0 ∧ v.num f 0 ≤ v.set 5 then 0 else if v.num f 2 = 2 then 1 else if v.slate.length < 8 then 2 else 3
def hv_write (v : HV) (f : Nat) : HV := hv_acc (v.s_slate (v.slate ++ [(f, v.time)])) 6 1
section REF6
variable {M : hp_M} {v : HV}
theorem r_wants (c : RRep (M 13 1) v) {f : Nat} {a0 w : Int32} (e0 : a0 = nI f) (hf : f < 10) : ∃ M', F_X9_wants a0 w M = some (if v.num f 2 = 0 then 1 + v.num f 0 else -2, M') ∧ RS M (if v.num f 2 = 0 then hv_out v f w else v) M' := by
  unfold F_X9_wants
  rw [r_g2 c e0 hf, hp_b_some]
  by_cases h : v.num f 2 = 0
  · rw [if_pos h, if_pos h, if_pos h]
    obtain ⟨M1, e1, c1⟩ := r_t2 (x := 1) c e0 hf
    rw [e1, hp_b_some, r_g0 c1.1 e0 hf, hp_b_some, show (hv_put v f 2 1).num f 0 = v.num f 0 by show up2 v.num f 2 1 f 0 = _; simp [up2]]
    obtain ⟨M2, e2, c2⟩ := r_t3 (x := 1 + v.num f 0) c1.1 e0 hf
    obtain ⟨M3, e3, c3⟩ := r_t4 (x := w) c2.1 e0 hf
    rw [e2, hp_b_some, e3, hp_b_some, r_g3 c3.1 e0 hf, hp_b_some]
    refine ⟨M3, ?_, (c1.tr c2).tr c3⟩
    congr 2
    show up2 (up2 (up2 v.num f 2 1) f 3 (1 + v.num f 0)) f 4 w f 3 = _
    simp [up2]
  · rw [if_neg h, if_neg h, if_neg h]
    exact ⟨M, rfl, RS.rf c⟩
theorem r_pays (c : RRep (M 13 1) v) {f : Nat} {a0 x : Int32} (e0 : a0 = nI f) (hf : f < 10) : ∃ M', F_X9_pays a0 x M = some (if x ≤ v.num f 6 then v.num f 6 - x else -6, M') ∧ RS M (if x ≤ v.num f 6 then hv_pay v f x else v) M' := by
  unfold F_X9_pays
  rw [r_g5 c e0 hf, hp_b_some]
  by_cases h : x ≤ v.num f 6
  · rw [if_pos h, if_pos h, if_pos h]
    obtain ⟨M1, e1, c1⟩ := r_a5 (f := f) (x := -x) c e0 hf
    obtain ⟨M2, e2, c2⟩ := r_c5 (x := x) c1.1
    rw [e1, hp_b_some, e2, hp_b_some, r_g5 c2.1 e0 hf, hp_b_some]
    have e : v.num f 6 + -x = v.num f 6 - x := by grind
    rw [e] at c1 c2 ⊢
    refine ⟨M2, ?_, c1.tr c2⟩
    congr 2
    show up2 v.num f 6 (v.num f 6 - x) f 6 = _
    simp [up2]
  · rw [if_neg h, if_neg h, if_neg h]
    exact ⟨M, rfl, RS.rf c⟩
theorem r_hangs (c : RRep (M 13 1) v) (hk : hv_ok v) {f : Nat} {a0 : Int32} (e0 : a0 = nI f) (hf : f < 10) (hw : v.num f 2 = 3 → v.who = f) : ∃ M', F_X9_hangs a0 M = some (if v.num f 2 = 3 then v.spoken else -4, M') ∧ RS M (if v.num f 2 = 3 then hv_end v else v) M' := by
  unfold F_X9_hangs
  rw [r_g2 c e0 hf, hp_b_some]
  by_cases h : v.num f 2 = 3
  · rw [if_pos h, if_pos h, if_pos h]
    obtain ⟨M1, e1, c1⟩ := r_ends c (ok_w10' hk) (by have := (ok_un hk).1; grind) (ok_ou hk)
    rw [e1, hp_b_some, c.sp]
    exact ⟨M1, rfl, c1⟩
  · rw [if_neg h, if_neg h, if_neg h]
    exact ⟨M, rfl, RS.rf c⟩
theorem r_outcome (c : RRep (M 13 1) v) {f : Nat} {a0 : Int32} (e0 : a0 = nI f) (hf : f < 10) : F_X9_outcome a0 M = some (if v.ph = 0 then hv_outc v f else 5, M) := by
  have h8 := c.s8
  have key : ¬ (v.num f 2 = 0 ∧ v.num f 0 ≤ v.set 5) → A_X9_outcome_38 a0 M = some (hv_outc v f, M) := by
    intro h
    unfold A_X9_outcome_38 hv_outc
    rw [r_g2 c e0 hf, hp_b_some, if_neg h, c.sl]
    by_cases h2 : v.num f 2 = 2
    · rw [if_pos h2, if_pos h2]
    · rw [if_neg h2, if_neg h2]
      by_cases h3 : v.slate.length < 8
      · rw [if_pos h3, if_neg (show ¬ (8 : Int32) ≤ nI v.slate.length from nI_ge (b := 8) h3 (by decide))]
      · rw [if_neg h3, if_pos (show (8 : Int32) ≤ nI v.slate.length from nI_le (a := 8) (by omega) (by omega))]
  unfold F_X9_outcome
  rw [c.ph]
  by_cases hp : v.ph = 0
  · rw [if_pos hp, if_pos hp, r_g2 c e0 hf, hp_b_some]
    by_cases h1 : v.num f 2 = 0
    · rw [if_pos h1, r_g0 c e0 hf, hp_b_some, show M 13 1 12 = v.set 5 from c.st 5 (by decide)]
      by_cases h2 : v.set 5 < v.num f 0
      · rw [if_pos h2]; exact key (fun q => by have := q.2; grind)
      · rw [if_neg h2]
        unfold hv_outc
        rw [if_pos ⟨h1, by grind⟩]
    · rw [if_neg h1]; exact key (fun q => h1 q.1)
  · rw [if_neg hp, if_neg hp]
theorem r_gives (c : RRep (M 13 1) v) (hk : hv_ok v) {f : Nat} {a0 : Int32} (e0 : a0 = nI f) (hf : f < v.flats) : ∃ M', F_X9_gives a0 M = some (if v.num f 2 = 2 ∨ (v.num f 2 = 1 ∧ ¬ (v.ph = 1 ∧ v.who = f)) then v.num f 4 else -3, M') ∧ RS M (if v.num f 2 = 2 ∨ (v.num f 2 = 1 ∧ ¬ (v.ph = 1 ∧ v.who = f)) then hv_give v f else v) M' := by
  have h10 : f < 10 := Nat.lt_of_lt_of_le hf (ok_fl hk)
  have key : ∀ (w : HV) (M1 : hp_M), RS M w M1 → w.num f 4 = v.num f 4 → ∃ M', A_X9_gives_50 a0 M1 = some (v.num f 4, M') ∧ RS M (hv_put (hv_put (hv_put w f 2 0) f 3 0) f 4 0) M' := by
    intro w M1 cw e4
    unfold A_X9_gives_50
    rw [r_g4 cw.1 e0 h10, hp_b_some, e4]
    obtain ⟨M2, e2, c2⟩ := r_t2 (x := 0) cw.1 e0 h10
    obtain ⟨M3, e3, c3⟩ := r_t3 (x := 0) c2.1 e0 h10
    obtain ⟨M4, e4', c4⟩ := r_t4 (x := 0) c3.1 e0 h10
    rw [e2, hp_b_some, e3, hp_b_some, e4', hp_b_some]
    exact ⟨M4, rfl, ((cw.tr c2).tr c3).tr c4⟩
  have k22 : ¬ (v.num f 2 = 1 ∧ ¬ (v.ph = 1 ∧ v.who = f)) → ∃ M', A_X9_gives_22 a0 M = some (if v.num f 2 = 2 then v.num f 4 else -3, M') ∧ RS M (if v.num f 2 = 2 then hv_give v f else v) M' := by
    intro hn
    unfold A_X9_gives_22 A_X9_gives_23
    rw [if_pos rfl, r_g2 c e0 h10, hp_b_some]
    by_cases h2 : v.num f 2 = 2
    · rw [if_pos h2, if_pos h2, if_pos h2]
      unfold A_X9_gives_41
      rw [if_pos rfl]
      obtain ⟨M1, e1, c1⟩ := r_leave c (ok_q10 hk) (ok_qnd hk) e0 h10 (ok_qall hk f hf h2)
      rw [e1, hp_b_some]
      exact key _ M1 c1 rfl
    · rw [if_neg h2, if_neg h2, if_neg h2]
      exact ⟨M, rfl, RS.rf c⟩
  have kf : ∀ P : Prop, [Decidable P] → ¬ P → ∀ M' : hp_M, (F_X9_gives a0 M = some (if v.num f 2 = 2 then v.num f 4 else -3, M') ∧ RS M (if v.num f 2 = 2 then hv_give v f else v) M') → (F_X9_gives a0 M = some (if v.num f 2 = 2 ∨ P then v.num f 4 else -3, M') ∧ RS M (if v.num f 2 = 2 ∨ P then hv_give v f else v) M') := by
    intro P _ hP M' h
    by_cases h2 : v.num f 2 = 2
    · rw [if_pos h2, if_pos h2] at h; rw [if_pos (Or.inl h2), if_pos (Or.inl h2)]; exact h
    · rw [if_neg h2, if_neg h2] at h; rw [if_neg (fun q => q.elim h2 hP), if_neg (fun q => q.elim h2 hP)]; exact h
  by_cases h1 : v.num f 2 = 1
  · have hu : F_X9_gives a0 M = (if (if v.ph = 1 ∧ v.who = f then (1 : Int32) else 0) = 0 then A_X9_gives_23 a0 1 M else A_X9_gives_22 a0 M) := by
      unfold F_X9_gives
      rw [r_g2 c e0 h10, hp_b_some, if_pos h1, r_called c e0 h10 (ok_w10' hk), hp_b_some]
    by_cases hc : v.ph = 1 ∧ v.who = f
    · have hn : ¬ (v.num f 2 = 1 ∧ ¬ (v.ph = 1 ∧ v.who = f)) := fun q => q.2 hc
      rw [if_pos hc, if_neg (by decide)] at hu
      obtain ⟨M', h⟩ := k22 hn
      rw [← hu] at h
      exact ⟨M', kf _ hn M' h⟩
    · rw [if_neg hc, if_pos rfl] at hu
      rw [hu, if_pos (Or.inr ⟨h1, hc⟩), if_pos (Or.inr ⟨h1, hc⟩)]
      unfold A_X9_gives_23 A_X9_gives_41
      rw [if_neg (by decide), if_neg (by decide)]
      have hnq : f ∉ v.queue := fun q => by have := (ok_qin hk f q).2; rw [h1] at this; exact absurd this (by decide)
      have := key v M (RS.rf c) rfl
      unfold hv_give
      rw [hv_leave_no hnq]
      exact this
  · have hu : F_X9_gives a0 M = A_X9_gives_22 a0 M := by
      unfold F_X9_gives
      rw [r_g2 c e0 h10, hp_b_some, if_neg h1]
    have hn : ¬ (v.num f 2 = 1 ∧ ¬ (v.ph = 1 ∧ v.who = f)) := fun q => h1 q.1
    obtain ⟨M', h⟩ := k22 hn
    rw [← hu] at h
    exact ⟨M', kf _ hn M' h⟩
end REF6
