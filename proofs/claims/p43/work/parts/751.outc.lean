/-! ===== calls ended in minutes; the reference's deeds ===== -/
theorem hv_hear_a1 (n : Nat) (v : HV) : (hv_hear n v).acc 1 = v.acc 1 := by
  induction n with
  | zero => rfl
  | succ n ih =>
    have e : hv_hear (n + 1) v = hv_hear1 (hv_hear n v) n := rfl
    rw [e]
    unfold hv_hear1
    split
    · show up1 (hv_hear n v).acc 9 ((hv_hear n v).acc 9 + 1) 1 = _
      rw [← ih]
      exact if_neg (by decide)
    · exact ih
theorem hv_told_a1 (v : HV) : (hv_told v).acc 1 = v.acc 1 := by
  unfold hv_told
  split
  · refine (hv_hear_a1 v.flats (hv_talk0 v)).trans ?_
    show up1 v.acc 3 (v.acc 3 + 1) 1 = _
    exact if_neg (by decide)
  · rfl
theorem hv_down_a1 (v : HV) (f : Nat) : (hv_down v f).acc 1 = v.acc 1 := by
  have h : ∀ (w : HV) (x : Int32), up1 w.acc 7 x 1 = w.acc 1 := fun w x => if_neg (by decide)
  unfold hv_down
  split
  · split
    · unfold hv_arrive
      split
      · exact h v (v.acc 7 + (nI v.slate.length - nI (hv_rest v.slate f).length))
      · exact h v (v.acc 7 + (nI v.slate.length - nI (hv_rest v.slate f).length))
    · rfl
  · rfl
theorem hv_downs_a1 (v : HV) : ∀ n : Nat, (hv_downs n v).acc 1 = v.acc 1 := by
  intro n
  induction n with
  | zero => rfl
  | succ n ih => exact (hv_down_a1 (hv_downs n v) n).trans ih
theorem hv_end_a1 (w : HV) : (hv_end w).acc 1 = w.acc 1 + 1 := by
  show up1 (up1 w.acc 1 (w.acc 1 + 1)) 4 (up1 w.acc 1 (w.acc 1 + 1) 4 + hv_due w) 1 = _
  simp [up1]
theorem hv_fin_a1 (v : HV) : (hv_fin v).acc 1 = v.acc 1 + if hv_over v then 1 else 0 := by
  unfold hv_fin
  by_cases h : hv_over v
  · rw [if_pos h, if_pos h]
    rw [hv_end_a1]
    congr 1
  · rw [if_neg h, if_neg h]; grind
theorem hv_next_a1 (v : HV) : (hv_next v).acc 1 = v.acc 1 := by
  unfold hv_next
  split
  · split
    · rfl
    · rfl
  · rfl
theorem hv_tick_a1 (v : HV) : (hv_tick v).acc 1 = v.acc 1 + hv_ends v := by
  show (hv_next (hv_fin (hv_downs (hv_told v).flats (hv_told v)))).acc 1 = _
  rw [hv_next_a1, hv_fin_a1, hv_downs_a1, hv_told_a1]
  rfl
theorem hv_runE_a1 : ∀ (n : Nat) (v : HV) (e : Int32), hv_runE n v e = e + ((hv_run n v).acc 1 - v.acc 1) := by
  intro n
  induction n with
  | zero => intro v e; show e = e + (v.acc 1 - v.acc 1); grind
  | succ n ih =>
    intro v e
    show hv_runE n (hv_tick v) (e + hv_ends v) = e + ((hv_run n (hv_tick v)).acc 1 - v.acc 1)
    rw [ih, hv_tick_a1]
    grind
/-- what comes of a call from outside while the telephone is FREE -/
def hv_outc (v : HV) (f : Nat) : Int32 := if v.num f 2 = 0 ∧ v.num f 0 ≤ v.set 5 then 0 else if v.num f 2 = 2 then 1 else if v.slate.length < 8 then 2 else 3
def hv_write (v : HV) (f : Nat) : HV := hv_acc (v.s_slate (v.slate ++ [(f, v.time)])) 6 1
section REF6
variable {M : hp_M} {v : HV}
end REF6
