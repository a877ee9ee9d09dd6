/-! ===== how long a flat wants to speak does not matter till it speaks ===== -/
theorem up2_comm {n : Nat → Nat → Int32} {f k f' k' : Nat} {x y : Int32} (h : ¬ (f = f' ∧ k = k')) : up2 (up2 n f k x) f' k' y = up2 (up2 n f' k' y) f k x := by
  funext a b
  unfold up2
  grind
theorem up2_same {n : Nat → Nat → Int32} {f k : Nat} {x y : Int32} : up2 (up2 n f k x) f k y = up2 n f k y := by
  funext a b
  unfold up2
  grind
theorem up2_o {n : Nat → Nat → Int32} {f k f' k' : Nat} {x : Int32} (h : ¬ (f' = f ∧ k' = k)) : up2 n f k x f' k' = n f' k' := if_neg h
section WISH
variable {v : HV} {f : Nat} {x : Int32}
theorem ww_num {k j : Nat} (h : ¬ (k = f ∧ j = 4)) : (hv_put v f 4 x).num k j = v.num k j := if_neg h
theorem ww_hear : ∀ n : Nat, hv_hear n (hv_put v f 4 x) = hv_put (hv_hear n v) f 4 x := by
  intro n
  induction n with
  | zero => rfl
  | succ n ih =>
    show hv_hear1 (hv_hear n (hv_put v f 4 x)) n = hv_put (hv_hear1 (hv_hear n v) n) f 4 x
    rw [ih]
    generalize hv_hear n v = w
    unfold hv_hear1
    have es : (hv_put w f 4 x).set = w.set := rfl
    rw [ww_num (k := n) (j := 2) (by omega), ww_num (k := n) (j := 1) (by omega), ww_num (k := n) (j := 0) (by omega), es]
    by_cases h : w.num n 2 = 0 ∧ w.num n 1 = 1 ∧ w.num n 0 ≤ w.set 3
    · rw [if_pos h, if_pos h]
      rfl
    · rw [if_neg h, if_neg h]
theorem ww_talk0 : hv_talk0 (hv_put v f 4 x) = hv_put (hv_talk0 v) f 4 x := by
  have e : up2 (up2 v.num f 4 x) v.who 7 (up2 v.num f 4 x v.who 7 + 1) = up2 (up2 v.num v.who 7 (v.num v.who 7 + 1)) f 4 x := by
    rw [up2_o (f := f) (k := 4) (by omega), up2_comm (by omega)]
  show (hv_acc ((v.s_spoken (v.spoken + 1)).s_left (v.left - 1)) 3 1).s_num (up2 (up2 v.num f 4 x) v.who 7 (up2 v.num f 4 x v.who 7 + 1)) = (hv_acc ((v.s_spoken (v.spoken + 1)).s_left (v.left - 1)) 3 1).s_num (up2 (up2 v.num v.who 7 (v.num v.who 7 + 1)) f 4 x)
  rw [e]
theorem ww_told : hv_told (hv_put v f 4 x) = hv_put (hv_told v) f 4 x := by
  unfold hv_told
  by_cases h : v.ph = 2
  · rw [if_pos h, if_pos (show (hv_put v f 4 x).ph = 2 from h)]
    show hv_hear v.flats (hv_talk0 (hv_put v f 4 x)) = hv_put (hv_hear v.flats (hv_talk0 v)) f 4 x
    rw [ww_talk0, ww_hear]
  · rw [if_neg h, if_neg (show ¬ (hv_put v f 4 x).ph = 2 from h)]
theorem ww_arrive {k : Nat} (hP : ¬ (v.ph = 1 ∧ v.who = f)) : hv_arrive (hv_put v f 4 x) k = hv_put (hv_arrive v k) f 4 x := by
  unfold hv_arrive
  by_cases h : v.ph = 1 ∧ v.who = k
  · have hkf : k ≠ f := fun q => hP (by rw [← q]; exact h)
    rw [if_pos h, if_pos (show (hv_put v f 4 x).ph = 1 ∧ (hv_put v f 4 x).who = k from h)]
    have e : up2 (up2 (up2 v.num f 4 x) k 2 3) k 4 0 = up2 (up2 (up2 v.num k 2 3) k 4 0) f 4 x := by
      rw [up2_comm (f := f) (k := 4) (f' := k) (k' := 2) (by omega), up2_comm (f := f) (k := 4) (f' := k) (k' := 4) (by omega)]
    show hv_phone (v.s_num (up2 (up2 (up2 v.num f 4 x) k 2 3) k 4 0)) 2 k v.left 1 = hv_phone (v.s_num (up2 (up2 (up2 v.num k 2 3) k 4 0) f 4 x)) 2 k v.left 1
    rw [e]
  · rw [if_neg h, if_neg (show ¬ ((hv_put v f 4 x).ph = 1 ∧ (hv_put v f 4 x).who = k) from h)]
    show (v.s_num (up2 (up2 v.num f 4 x) k 2 2)).s_queue (v.queue ++ [k]) = (v.s_num (up2 (up2 v.num k 2 2) f 4 x)).s_queue (v.queue ++ [k])
    rw [up2_comm (by omega)]
theorem ww_down {k : Nat} (hP : ¬ (v.ph = 1 ∧ v.who = f)) : hv_down (hv_put v f 4 x) k = hv_put (hv_down v k) f 4 x := by
  unfold hv_down
  rw [ww_num (k := k) (j := 2) (by omega), ww_num (k := k) (j := 3) (by omega)]
  by_cases h1 : v.num k 2 = 1
  · rw [if_pos h1, if_pos h1]
    have e : hv_put (hv_put v f 4 x) k 3 (v.num k 3 - 1) = hv_put (hv_put v k 3 (v.num k 3 - 1)) f 4 x := by
      show v.s_num (up2 (up2 v.num f 4 x) k 3 (v.num k 3 - 1)) = v.s_num (up2 (up2 v.num k 3 (v.num k 3 - 1)) f 4 x)
      rw [up2_comm (by omega)]
    rw [e]
    by_cases h2 : v.num k 3 - 1 ≤ 0
    · rw [if_pos h2, if_pos h2]
      have e2 : hv_wipe (hv_put (hv_put v k 3 (v.num k 3 - 1)) f 4 x) k = hv_put (hv_wipe (hv_put v k 3 (v.num k 3 - 1)) k) f 4 x := rfl
      rw [e2]
      exact ww_arrive (v := hv_wipe (hv_put v k 3 (v.num k 3 - 1)) k) hP
    · rw [if_neg h2, if_neg h2]
  · rw [if_neg h1, if_neg h1]
theorem pp_down {k : Nat} (hP : ¬ (v.ph = 1 ∧ v.who = f)) : ¬ ((hv_down v k).ph = 1 ∧ (hv_down v k).who = f) := by
  unfold hv_down
  split
  · split
    · unfold hv_arrive
      split
      · exact fun q => absurd q.1 (by show ¬ (2 : Int32) = 1; decide)
      · exact hP
    · exact hP
  · exact hP
theorem pp_downs (hP : ¬ (v.ph = 1 ∧ v.who = f)) : ∀ n : Nat, ¬ ((hv_downs n v).ph = 1 ∧ (hv_downs n v).who = f) := by
  intro n
  induction n with
  | zero => exact hP
  | succ n ih => exact pp_down (v := hv_downs n v) ih
theorem ww_downs (hP : ¬ (v.ph = 1 ∧ v.who = f)) : ∀ n : Nat, hv_downs n (hv_put v f 4 x) = hv_put (hv_downs n v) f 4 x := by
  intro n
  induction n with
  | zero => rfl
  | succ n ih =>
    show hv_down (hv_downs n (hv_put v f 4 x)) n = hv_put (hv_down (hv_downs n v) n) f 4 x
    rw [ih]
    exact ww_down (pp_downs hP n)
theorem pp_told (hP : ¬ (v.ph = 1 ∧ v.who = f)) : ¬ ((hv_told v).ph = 1 ∧ (hv_told v).who = f) := by
  unfold hv_told
  split
  · rename_i h
    have hk := hv_hear_k v.flats (hv_talk0 v)
    intro q
    have q1 := q.1
    unfold hv_talk at q1
    rw [hk.2.2.2.1] at q1
    have q2 : v.ph = 1 := q1
    rw [h] at q2
    exact absurd q2 (by decide)
  · exact hP
theorem ww_fin : hv_fin (hv_put v f 4 x) = hv_put (hv_fin v) f 4 x := by
  unfold hv_fin
  by_cases h : hv_over v
  · rw [if_pos h, if_pos (show hv_over (hv_put v f 4 x) from h)]
    generalize hz : (if v.left ≤ 0 then (0 : Int32) else 1) = z
    have hz2 : (if (hv_put v f 4 x).left ≤ 0 then (0 : Int32) else 1) = z := hz
    rw [hz2]
    show hv_end (hv_put (v.s_acc (up1 v.acc 2 (v.acc 2 + z))) f 4 x) = hv_put (hv_end (v.s_acc (up1 v.acc 2 (v.acc 2 + z)))) f 4 x
    generalize v.s_acc (up1 v.acc 2 (v.acc 2 + z)) = u
    have e : up2 (up2 (up2 (up2 u.num f 4 x) u.who 2 0) u.who 6 (up2 u.num f 4 x u.who 6 + hv_due u)) u.who 8 (up2 u.num f 4 x u.who 8 + 1) = up2 (up2 (up2 (up2 u.num u.who 2 0) u.who 6 (u.num u.who 6 + hv_due u)) u.who 8 (u.num u.who 8 + 1)) f 4 x := by
      rw [up2_o (f := f) (k := 4) (f' := u.who) (k' := 6) (by omega), up2_o (f := f) (k := 4) (f' := u.who) (k' := 8) (by omega)]
      rw [up2_comm (f := f) (k := 4) (f' := u.who) (k' := 2) (by omega), up2_comm (f := f) (k := 4) (f' := u.who) (k' := 6) (by omega), up2_comm (f := f) (k := 4) (f' := u.who) (k' := 8) (by omega)]
    show hv_free ((hv_acc (hv_acc (u.s_num (up2 (up2 (up2 (up2 u.num f 4 x) u.who 2 0) u.who 6 (up2 u.num f 4 x u.who 6 + hv_due u)) u.who 8 (up2 u.num f 4 x u.who 8 + 1))) 1 1) 4 (hv_due u)).s_ended (u.ended + u.spoken)) = hv_free ((hv_acc (hv_acc (u.s_num (up2 (up2 (up2 (up2 u.num u.who 2 0) u.who 6 (u.num u.who 6 + hv_due u)) u.who 8 (u.num u.who 8 + 1)) f 4 x)) 1 1) 4 (hv_due u)).s_ended (u.ended + u.spoken))
    rw [e]
  · rw [if_neg h, if_neg (show ¬ hv_over (hv_put v f 4 x) from h)]
theorem pp_fin (hP : ¬ (v.ph = 1 ∧ v.who = f)) : ¬ ((hv_fin v).ph = 1 ∧ (hv_fin v).who = f) := by
  unfold hv_fin
  split
  · exact fun q => absurd q.1 (by show ¬ (0 : Int32) = 1; decide)
  · exact hP
theorem pp_next (hP : ¬ (v.ph = 1 ∧ v.who = f)) : ¬ ((hv_next v).ph = 1 ∧ (hv_next v).who = f) := by
  unfold hv_next
  split
  · split
    · exact hP
    · exact fun q => absurd q.1 (by show ¬ (2 : Int32) = 1; decide)
  · exact hP
theorem pp_waits {w : HV} (h : ¬ (w.ph = 1 ∧ w.who = f)) : ¬ ((hv_waits w).ph = 1 ∧ (hv_waits w).who = f) := h
theorem pp_tick (hP : ¬ (v.ph = 1 ∧ v.who = f)) : ¬ ((hv_tick v).ph = 1 ∧ (hv_tick v).who = f) := by
  have h := pp_next (pp_fin (pp_downs (pp_told hP) (hv_told v).flats))
  unfold hv_tick hv_tick0
  exact pp_waits h
theorem ww_next : hv_next (hv_put v f 4 x) = hv_put (hv_next v) f 4 x ∨ ((hv_next (hv_put v f 4 x)).num f 2 = 3 ∧ (hv_next v).num f 2 = 3) := by
  unfold hv_next
  by_cases h : v.ph = 0
  · rw [if_pos h, if_pos (show (hv_put v f 4 x).ph = 0 from h)]
    have eq : (hv_put v f 4 x).queue = v.queue := rfl
    rw [eq]
    cases hq : v.queue with
    | nil => exact Or.inl rfl
    | cons y l =>
      by_cases hy : y = f
      · subst hy
        refine Or.inr ⟨?_, ?_⟩
        · show up2 (up2 (up2 v.num y 4 x) y 2 3) y 4 0 y 2 = 3
          rw [up2_o (by omega)]
          exact if_pos ⟨rfl, rfl⟩
        · show up2 (up2 v.num y 2 3) y 4 0 y 2 = 3
          rw [up2_o (by omega)]
          exact if_pos ⟨rfl, rfl⟩
      · refine Or.inl ?_
        have e : up2 (up2 (up2 v.num f 4 x) y 2 3) y 4 0 = up2 (up2 (up2 v.num y 2 3) y 4 0) f 4 x := by
          rw [up2_comm (f := f) (k := 4) (f' := y) (k' := 2) (by omega), up2_comm (f := f) (k := 4) (f' := y) (k' := 4) (by omega)]
        have e4 : (hv_put v f 4 x).num y 4 = v.num y 4 := ww_num (by omega)
        show hv_speak (hv_leave (hv_put v f 4 x) y) y ((hv_put v f 4 x).num y 4) 0 = hv_put (hv_speak (hv_leave v y) y (v.num y 4) 0) f 4 x
        rw [e4]
        show hv_phone ((v.s_num (up2 (up2 (up2 v.num f 4 x) y 2 3) y 4 0)).s_queue (v.queue.filter (fun z => decide (z ≠ y)))) 2 y (v.num y 4) 0 = hv_phone ((v.s_num (up2 (up2 (up2 v.num y 2 3) y 4 0) f 4 x)).s_queue (v.queue.filter (fun z => decide (z ≠ y)))) 2 y (v.num y 4) 0
        rw [e]
  · rw [if_neg h, if_neg (show ¬ (hv_put v f 4 x).ph = 0 from h)]
    exact Or.inl rfl
theorem ww_waits : hv_waits (hv_put v f 4 x) = hv_put (hv_waits v) f 4 x := by
  have e : (fun f' k' => if k' = 10 ∧ f' ∈ v.queue then up2 v.num f 4 x f' 10 + 1 else up2 v.num f 4 x f' k') = up2 (fun f' k' => if k' = 10 ∧ f' ∈ v.queue then v.num f' 10 + 1 else v.num f' k') f 4 x := by
    funext a b
    unfold up2
    grind
  show v.s_num (fun f' k' => if k' = 10 ∧ f' ∈ v.queue then up2 v.num f 4 x f' 10 + 1 else up2 v.num f 4 x f' k') = v.s_num (up2 (fun f' k' => if k' = 10 ∧ f' ∈ v.queue then v.num f' 10 + 1 else v.num f' k') f 4 x)
  rw [e]
theorem waits_2 (w : HV) (k : Nat) : (hv_waits w).num k 2 = w.num k 2 := by
  show (if (2 : Nat) = 10 ∧ k ∈ w.queue then w.num k 10 + 1 else w.num k 2) = w.num k 2
  exact if_neg (fun q => absurd q.1 (by decide))
theorem ww_tick (hP : ¬ (v.ph = 1 ∧ v.who = f)) : hv_tick (hv_put v f 4 x) = hv_put (hv_tick v) f 4 x ∨ ((hv_tick (hv_put v f 4 x)).num f 2 = 3 ∧ (hv_tick v).num f 2 = 3) := by
  unfold hv_tick hv_tick0
  rw [ww_told]
  have e : (hv_put (hv_told v) f 4 x).flats = (hv_told v).flats := rfl
  rw [e, ww_downs (pp_told hP), ww_fin]
  rcases ww_next (v := hv_fin (hv_downs (hv_told v).flats (hv_told v))) (f := f) (x := x) with q | ⟨q1, q2⟩
  · rw [q, ww_waits]; exact Or.inl rfl
  · exact Or.inr ⟨by rw [waits_2]; exact q1, by rw [waits_2]; exact q2⟩
end WISH
theorem ww_ts {f : Nat} {x : Int32} : ∀ (n k : Nat) (v : HV), ¬ (v.ph = 1 ∧ v.who = f) → hv_ts n k (hv_put v f 4 x) f = hv_ts n k v f := by
  intro n
  induction n with
  | zero => exact fun _ _ _ => rfl
  | succ n ih =>
    intro k v hP
    show (if (hv_put v f 4 x).num f 2 = 3 then nI k else hv_ts n (k + 1) (hv_tick (hv_put v f 4 x)) f) = if v.num f 2 = 3 then nI k else hv_ts n (k + 1) (hv_tick v) f
    rw [ww_num (by omega)]
    rcases ww_tick (x := x) hP with q | ⟨q1, q2⟩
    · rw [q, ih (k + 1) (hv_tick v) (pp_tick hP)]
    · have e : hv_ts n (k + 1) (hv_tick (hv_put v f 4 x)) f = hv_ts n (k + 1) (hv_tick v) f := by
        cases n with
        | zero => rfl
        | succ n =>
          show (if (hv_tick (hv_put v f 4 x)).num f 2 = 3 then nI (k + 1) else _) = if (hv_tick v).num f 2 = 3 then nI (k + 1) else _
          rw [if_pos q1, if_pos q2]
      rw [e]
theorem hv_out_ts {v : HV} (h : hv_ok v) {f : Nat} {x y : Int32} (h0 : v.num f 2 = 0) (n k : Nat) : hv_ts n k (hv_out v f x) f = hv_ts n k (hv_out v f y) f := by
  have hP : ∀ z : Int32, ¬ ((hv_out v f z).ph = 1 ∧ (hv_out v f z).who = f) := by
    intro z q
    have q1 : v.ph = 1 := q.1
    have q2 : v.who = f := q.2
    have := (ok_he h q1).1
    rw [q2, h0] at this
    exact absurd this (by decide)
  have e : hv_out v f x = hv_put (hv_out v f y) f 4 x := by
    show v.s_num (up2 (up2 (up2 v.num f 2 1) f 3 (1 + v.num f 0)) f 4 x) = v.s_num (up2 (up2 (up2 (up2 v.num f 2 1) f 3 (1 + v.num f 0)) f 4 y) f 4 x)
    rw [up2_same]
  rw [e]
  exact ww_ts n k _ (hP y)
