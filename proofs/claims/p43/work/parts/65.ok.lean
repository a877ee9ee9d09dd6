/-! ===== what holds of a house at all times ===== -/
def hv_ok (v : HV) : Prop := (v.flats ≤ 10) ∧ (∀ x : Nat, x ∈ v.queue → x < v.flats ∧ v.num x 2 = 2) ∧ (v.queue.Nodup) ∧ (∀ f : Nat, f < v.flats → v.num f 2 = 2 → f ∈ v.queue) ∧ (∀ f : Nat, f < v.flats → v.num f 2 = 0 ∨ v.num f 2 = 1 ∨ v.num f 2 = 2 ∨ v.num f 2 = 3) ∧ (v.ph = 0 ∨ v.ph = 1 ∨ v.ph = 2) ∧ (v.ph = 0 → v.who = 0 ∧ v.spoken = 0 ∧ v.left = 0 ∧ v.out = 0) ∧ (v.ph ≠ 0 → v.who < v.flats) ∧ (v.ph = 2 → v.num v.who 2 = 3) ∧ (∀ f : Nat, f < v.flats → v.num f 2 = 3 → v.ph = 2 ∧ v.who = f) ∧ (v.ph = 1 → v.num v.who 2 = 1 ∧ v.out = 1 ∧ v.spoken = 0) ∧ (v.out = 0 ∨ v.out = 1) ∧ (∀ x : Nat × Int32, x ∈ v.slate → x.1 < v.flats) ∧ (v.slate.length ≤ 8) ∧ (1 ≤ v.set 1 ∧ v.set 1 ≤ 30) ∧ (0 ≤ v.left ∧ v.left ≤ 99) ∧ (∀ f : Nat, f < v.flats → v.num f 2 = 1 → 1 ≤ v.num f 3 ∧ v.num f 3 ≤ 10) ∧ (∀ f : Nat, f < v.flats → v.num f 2 = 2 ∨ (v.num f 2 = 1 ∧ ¬ (v.ph = 1 ∧ v.who = f)) → 1 ≤ v.num f 4 ∧ v.num f 4 ≤ 99) ∧ (∀ f : Nat, f < v.flats → v.num f 2 = 0 ∨ v.num f 2 = 3 → v.num f 4 = 0) ∧ (∀ f : Nat, f < v.flats → 0 ≤ v.num f 0 ∧ v.num f 0 ≤ 9)
theorem ok_fl {v : HV} (c : hv_ok v) : v.flats ≤ 10 := c.1
theorem ok_qin {v : HV} (c : hv_ok v) : ∀ x : Nat, x ∈ v.queue → x < v.flats ∧ v.num x 2 = 2 := c.2.1
theorem ok_qnd {v : HV} (c : hv_ok v) : v.queue.Nodup := c.2.2.1
theorem ok_qall {v : HV} (c : hv_ok v) : ∀ f : Nat, f < v.flats → v.num f 2 = 2 → f ∈ v.queue := c.2.2.2.1
theorem ok_st {v : HV} (c : hv_ok v) : ∀ f : Nat, f < v.flats → v.num f 2 = 0 ∨ v.num f 2 = 1 ∨ v.num f 2 = 2 ∨ v.num f 2 = 3 := c.2.2.2.2.1
theorem ok_ph {v : HV} (c : hv_ok v) : v.ph = 0 ∨ v.ph = 1 ∨ v.ph = 2 := c.2.2.2.2.2.1
theorem ok_p0 {v : HV} (c : hv_ok v) : v.ph = 0 → v.who = 0 ∧ v.spoken = 0 ∧ v.left = 0 ∧ v.out = 0 := c.2.2.2.2.2.2.1
theorem ok_wh {v : HV} (c : hv_ok v) : v.ph ≠ 0 → v.who < v.flats := c.2.2.2.2.2.2.2.1
theorem ok_sp {v : HV} (c : hv_ok v) : v.ph = 2 → v.num v.who 2 = 3 := c.2.2.2.2.2.2.2.2.1
theorem ok_sp2 {v : HV} (c : hv_ok v) : ∀ f : Nat, f < v.flats → v.num f 2 = 3 → v.ph = 2 ∧ v.who = f := c.2.2.2.2.2.2.2.2.2.1
theorem ok_he {v : HV} (c : hv_ok v) : v.ph = 1 → v.num v.who 2 = 1 ∧ v.out = 1 ∧ v.spoken = 0 := c.2.2.2.2.2.2.2.2.2.2.1
theorem ok_ou {v : HV} (c : hv_ok v) : v.out = 0 ∨ v.out = 1 := c.2.2.2.2.2.2.2.2.2.2.2.1
theorem ok_sl {v : HV} (c : hv_ok v) : ∀ x : Nat × Int32, x ∈ v.slate → x.1 < v.flats := c.2.2.2.2.2.2.2.2.2.2.2.2.1
theorem ok_s8 {v : HV} (c : hv_ok v) : v.slate.length ≤ 8 := c.2.2.2.2.2.2.2.2.2.2.2.2.2.1
theorem ok_un {v : HV} (c : hv_ok v) : 1 ≤ v.set 1 ∧ v.set 1 ≤ 30 := c.2.2.2.2.2.2.2.2.2.2.2.2.2.2.1
theorem ok_le {v : HV} (c : hv_ok v) : 0 ≤ v.left ∧ v.left ≤ 99 := c.2.2.2.2.2.2.2.2.2.2.2.2.2.2.2.1
theorem ok_sts {v : HV} (c : hv_ok v) : ∀ f : Nat, f < v.flats → v.num f 2 = 1 → 1 ≤ v.num f 3 ∧ v.num f 3 ≤ 10 := c.2.2.2.2.2.2.2.2.2.2.2.2.2.2.2.2.1
theorem ok_wi {v : HV} (c : hv_ok v) : ∀ f : Nat, f < v.flats → v.num f 2 = 2 ∨ (v.num f 2 = 1 ∧ ¬ (v.ph = 1 ∧ v.who = f)) → 1 ≤ v.num f 4 ∧ v.num f 4 ≤ 99 := c.2.2.2.2.2.2.2.2.2.2.2.2.2.2.2.2.2.1
theorem ok_w0 {v : HV} (c : hv_ok v) : ∀ f : Nat, f < v.flats → v.num f 2 = 0 ∨ v.num f 2 = 3 → v.num f 4 = 0 := c.2.2.2.2.2.2.2.2.2.2.2.2.2.2.2.2.2.2.1
theorem ok_flr {v : HV} (c : hv_ok v) : ∀ f : Nat, f < v.flats → 0 ≤ v.num f 0 ∧ v.num f 0 ≤ 9 := c.2.2.2.2.2.2.2.2.2.2.2.2.2.2.2.2.2.2.2
theorem hv_len {n : Nat} : ∀ {l : List Nat}, l.Nodup → (∀ x ∈ l, x < n) → l.length ≤ n := by
  induction n with
  | zero => intro l _ h; cases l with
    | nil => simp
    | cons x xs => exact absurd (h x List.mem_cons_self) (by omega)
  | succ n ih =>
    intro l hd h
    have h1 := ih (l := l.filter (fun x => decide (x ≠ n))) (hd.filter _) (fun x hx => by
      have h2 := List.mem_filter.mp hx
      have h3 := h x h2.1
      have h4 : x ≠ n := by simpa using h2.2
      omega)
    have h5 : l.length ≤ (l.filter (fun x => decide (x ≠ n))).length + 1 := by
      have h6 := List.nodup_iff_count.mp hd n
      clear h1 ih h
      have key : ∀ l : List Nat, l.length = (l.filter (fun x => decide (x ≠ n))).length + l.count n := by
        intro l
        induction l with
        | nil => rfl
        | cons x xs ih2 =>
          by_cases hx : x = n
          · subst hx; simp [ih2]; omega
          · simp [hx, ih2]; omega
      have := key l
      omega
    omega
/-- a minute of speaking, without the listeners -/
def hv_talk0 (v : HV) : HV := hv_put (hv_acc ((v.s_spoken (v.spoken + 1)).s_left (v.left - 1)) 3 1) v.who 7 (v.num v.who 7 + 1)
def hv_listens (v : HV) (f : Nat) : Prop := v.num f 2 = 0 ∧ v.num f 1 = 1 ∧ v.num f 0 ≤ v.set 3
def hv_join (v : HV) (f : Nat) : HV := v.s_queue (v.queue ++ [f])
def hv_wipe (v : HV) (f : Nat) : HV := (v.s_slate (hv_rest v.slate f)).s_acc (up1 v.acc 7 (v.acc 7 + (nI v.slate.length - nI (hv_rest v.slate f).length)))
set_option maxHeartbeats 4000000 in
theorem ok_out {v : HV} (c : hv_ok v) {f : Nat} {w : Int32} (hf : f < v.flats) (h0 : v.num f 2 = 0) (hw : 1 ≤ w ∧ w ≤ 99) : hv_ok (hv_out v f w) := by
  obtain ⟨v1, v2, v3, v4, v5, v6, v7, v8, v9, v10, v11, v12, v13, v14⟩ := v
  obtain ⟨c1, c2, c3, c4, c5, c6, c7, c8, c9, c10, c11, c12, c13, c14, c15, c16, c17, c18, c19, c20⟩ := c
  refine ⟨?_, ?_, ?_, ?_, ?_, ?_, ?_, ?_, ?_, ?_, ?_, ?_, ?_, ?_, ?_, ?_, ?_, ?_, ?_, ?_⟩
  all_goals (simp only [HV.flats, HV.time, HV.ended, HV.set, HV.acc, HV.num, HV.heard, HV.ph, HV.who, HV.spoken, HV.left, HV.out, HV.queue, HV.slate, HV.s_flats, HV.s_time, HV.s_ended, HV.s_set, HV.s_acc, HV.s_num, HV.s_heard, HV.s_ph, HV.s_who, HV.s_spoken, HV.s_left, HV.s_out, HV.s_queue, HV.s_slate, hv_out, hv_put, up1, up2] at *; first | assumption | (intros; grind))
set_option maxHeartbeats 4000000 in
theorem ok_give {v : HV} (c : hv_ok v) {f : Nat} (hf : f < v.flats) (h0 : v.num f 2 = 2 ∨ (v.num f 2 = 1 ∧ ¬ (v.ph = 1 ∧ v.who = f))) : hv_ok (hv_give v f) := by
  obtain ⟨v1, v2, v3, v4, v5, v6, v7, v8, v9, v10, v11, v12, v13, v14⟩ := v
  obtain ⟨c1, c2, c3, c4, c5, c6, c7, c8, c9, c10, c11, c12, c13, c14, c15, c16, c17, c18, c19, c20⟩ := c
  refine ⟨?_, ?_, ?_, ?_, ?_, ?_, ?_, ?_, ?_, ?_, ?_, ?_, ?_, ?_, ?_, ?_, ?_, ?_, ?_, ?_⟩
  all_goals (simp only [HV.flats, HV.time, HV.ended, HV.set, HV.acc, HV.num, HV.heard, HV.ph, HV.who, HV.spoken, HV.left, HV.out, HV.queue, HV.slate, HV.s_flats, HV.s_time, HV.s_ended, HV.s_set, HV.s_acc, HV.s_num, HV.s_heard, HV.s_ph, HV.s_who, HV.s_spoken, HV.s_left, HV.s_out, HV.s_queue, HV.s_slate, hv_give, hv_leave, hv_put, up1, up2] at *; first | assumption | (intros; grind))
set_option maxHeartbeats 4000000 in
theorem ok_pay {v : HV} (c : hv_ok v) {f : Nat} {x : Int32} : hv_ok (hv_pay v f x) := by
  obtain ⟨v1, v2, v3, v4, v5, v6, v7, v8, v9, v10, v11, v12, v13, v14⟩ := v
  obtain ⟨c1, c2, c3, c4, c5, c6, c7, c8, c9, c10, c11, c12, c13, c14, c15, c16, c17, c18, c19, c20⟩ := c
  refine ⟨?_, ?_, ?_, ?_, ?_, ?_, ?_, ?_, ?_, ?_, ?_, ?_, ?_, ?_, ?_, ?_, ?_, ?_, ?_, ?_⟩
  all_goals (simp only [HV.flats, HV.time, HV.ended, HV.set, HV.acc, HV.num, HV.heard, HV.ph, HV.who, HV.spoken, HV.left, HV.out, HV.queue, HV.slate, HV.s_flats, HV.s_time, HV.s_ended, HV.s_set, HV.s_acc, HV.s_num, HV.s_heard, HV.s_ph, HV.s_who, HV.s_spoken, HV.s_left, HV.s_out, HV.s_queue, HV.s_slate, hv_pay, hv_acc, hv_put, up1, up2] at *; first | assumption | (intros; grind))
set_option maxHeartbeats 4000000 in
theorem ok_end {v : HV} (c : hv_ok v) (hp : v.ph = 2) : hv_ok (hv_end v) := by
  obtain ⟨v1, v2, v3, v4, v5, v6, v7, v8, v9, v10, v11, v12, v13, v14⟩ := v
  obtain ⟨c1, c2, c3, c4, c5, c6, c7, c8, c9, c10, c11, c12, c13, c14, c15, c16, c17, c18, c19, c20⟩ := c
  refine ⟨?_, ?_, ?_, ?_, ?_, ?_, ?_, ?_, ?_, ?_, ?_, ?_, ?_, ?_, ?_, ?_, ?_, ?_, ?_, ?_⟩
  all_goals (simp only [HV.flats, HV.time, HV.ended, HV.set, HV.acc, HV.num, HV.heard, HV.ph, HV.who, HV.spoken, HV.left, HV.out, HV.queue, HV.slate, HV.s_flats, HV.s_time, HV.s_ended, HV.s_set, HV.s_acc, HV.s_num, HV.s_heard, HV.s_ph, HV.s_who, HV.s_spoken, HV.s_left, HV.s_out, HV.s_queue, HV.s_slate, hv_end, hv_free, hv_acc, hv_put, up1, up2] at *; first | assumption | (intros; grind))
set_option maxHeartbeats 4000000 in
theorem ok_talk0 {v : HV} (c : hv_ok v) (hp : v.ph = 2) (hl : 1 ≤ v.left) : hv_ok (hv_talk0 v) := by
  obtain ⟨v1, v2, v3, v4, v5, v6, v7, v8, v9, v10, v11, v12, v13, v14⟩ := v
  obtain ⟨c1, c2, c3, c4, c5, c6, c7, c8, c9, c10, c11, c12, c13, c14, c15, c16, c17, c18, c19, c20⟩ := c
  refine ⟨?_, ?_, ?_, ?_, ?_, ?_, ?_, ?_, ?_, ?_, ?_, ?_, ?_, ?_, ?_, ?_, ?_, ?_, ?_, ?_⟩
  all_goals (simp only [HV.flats, HV.time, HV.ended, HV.set, HV.acc, HV.num, HV.heard, HV.ph, HV.who, HV.spoken, HV.left, HV.out, HV.queue, HV.slate, HV.s_flats, HV.s_time, HV.s_ended, HV.s_set, HV.s_acc, HV.s_num, HV.s_heard, HV.s_ph, HV.s_who, HV.s_spoken, HV.s_left, HV.s_out, HV.s_queue, HV.s_slate, hv_talk0, hv_acc, hv_put, up1, up2] at *; first | assumption | (intros; grind))
set_option maxHeartbeats 4000000 in
theorem ok_hear1 {v : HV} (c : hv_ok v) {f : Nat} : hv_ok (v.s_heard (up2 v.heard f v.who (v.heard f v.who + 1))) := by
  obtain ⟨v1, v2, v3, v4, v5, v6, v7, v8, v9, v10, v11, v12, v13, v14⟩ := v
  obtain ⟨c1, c2, c3, c4, c5, c6, c7, c8, c9, c10, c11, c12, c13, c14, c15, c16, c17, c18, c19, c20⟩ := c
  refine ⟨?_, ?_, ?_, ?_, ?_, ?_, ?_, ?_, ?_, ?_, ?_, ?_, ?_, ?_, ?_, ?_, ?_, ?_, ?_, ?_⟩
  all_goals (simp only [HV.flats, HV.time, HV.ended, HV.set, HV.acc, HV.num, HV.heard, HV.ph, HV.who, HV.spoken, HV.left, HV.out, HV.queue, HV.slate, HV.s_flats, HV.s_time, HV.s_ended, HV.s_set, HV.s_acc, HV.s_num, HV.s_heard, HV.s_ph, HV.s_who, HV.s_spoken, HV.s_left, HV.s_out, HV.s_queue, HV.s_slate, up1, up2] at *; first | assumption | (intros; grind))
set_option maxHeartbeats 4000000 in
theorem ok_acc {v : HV} (c : hv_ok v) {f : Nat → Int32} : hv_ok (v.s_acc f) := by
  obtain ⟨v1, v2, v3, v4, v5, v6, v7, v8, v9, v10, v11, v12, v13, v14⟩ := v
  obtain ⟨c1, c2, c3, c4, c5, c6, c7, c8, c9, c10, c11, c12, c13, c14, c15, c16, c17, c18, c19, c20⟩ := c
  refine ⟨?_, ?_, ?_, ?_, ?_, ?_, ?_, ?_, ?_, ?_, ?_, ?_, ?_, ?_, ?_, ?_, ?_, ?_, ?_, ?_⟩
  all_goals (simp only [HV.flats, HV.time, HV.ended, HV.set, HV.acc, HV.num, HV.heard, HV.ph, HV.who, HV.spoken, HV.left, HV.out, HV.queue, HV.slate, HV.s_flats, HV.s_time, HV.s_ended, HV.s_set, HV.s_acc, HV.s_num, HV.s_heard, HV.s_ph, HV.s_who, HV.s_spoken, HV.s_left, HV.s_out, HV.s_queue, HV.s_slate, up1, up2] at *; first | assumption | (intros; grind))
set_option maxHeartbeats 4000000 in
theorem ok_time {v : HV} (c : hv_ok v) {x : Int32} : hv_ok (v.s_time x) := by
  obtain ⟨v1, v2, v3, v4, v5, v6, v7, v8, v9, v10, v11, v12, v13, v14⟩ := v
  obtain ⟨c1, c2, c3, c4, c5, c6, c7, c8, c9, c10, c11, c12, c13, c14, c15, c16, c17, c18, c19, c20⟩ := c
  refine ⟨?_, ?_, ?_, ?_, ?_, ?_, ?_, ?_, ?_, ?_, ?_, ?_, ?_, ?_, ?_, ?_, ?_, ?_, ?_, ?_⟩
  all_goals (simp only [HV.flats, HV.time, HV.ended, HV.set, HV.acc, HV.num, HV.heard, HV.ph, HV.who, HV.spoken, HV.left, HV.out, HV.queue, HV.slate, HV.s_flats, HV.s_time, HV.s_ended, HV.s_set, HV.s_acc, HV.s_num, HV.s_heard, HV.s_ph, HV.s_who, HV.s_spoken, HV.s_left, HV.s_out, HV.s_queue, HV.s_slate, up1, up2] at *; first | assumption | (intros; grind))
set_option maxHeartbeats 4000000 in
theorem ok_step {v : HV} (c : hv_ok v) {f : Nat} (hf : f < v.flats) (h1 : v.num f 2 = 1) (h2 : ¬ v.num f 3 - 1 ≤ 0) : hv_ok (hv_put v f 3 (v.num f 3 - 1)) := by
  obtain ⟨v1, v2, v3, v4, v5, v6, v7, v8, v9, v10, v11, v12, v13, v14⟩ := v
  obtain ⟨c1, c2, c3, c4, c5, c6, c7, c8, c9, c10, c11, c12, c13, c14, c15, c16, c17, c18, c19, c20⟩ := c
  refine ⟨?_, ?_, ?_, ?_, ?_, ?_, ?_, ?_, ?_, ?_, ?_, ?_, ?_, ?_, ?_, ?_, ?_, ?_, ?_, ?_⟩
  all_goals (simp only [HV.flats, HV.time, HV.ended, HV.set, HV.acc, HV.num, HV.heard, HV.ph, HV.who, HV.spoken, HV.left, HV.out, HV.queue, HV.slate, HV.s_flats, HV.s_time, HV.s_ended, HV.s_set, HV.s_acc, HV.s_num, HV.s_heard, HV.s_ph, HV.s_who, HV.s_spoken, HV.s_left, HV.s_out, HV.s_queue, HV.s_slate, hv_put, up1, up2] at *; first | assumption | (intros; grind))
set_option maxHeartbeats 4000000 in
theorem ok_rest {v : HV} (c : hv_ok v) {f : Nat} : hv_ok (v.s_slate (hv_rest v.slate f)) := by
  obtain ⟨v1, v2, v3, v4, v5, v6, v7, v8, v9, v10, v11, v12, v13, v14⟩ := v
  obtain ⟨c1, c2, c3, c4, c5, c6, c7, c8, c9, c10, c11, c12, c13, c14, c15, c16, c17, c18, c19, c20⟩ := c
  refine ⟨?_, ?_, ?_, ?_, ?_, ?_, ?_, ?_, ?_, ?_, ?_, ?_, ?_, ?_, ?_, ?_, ?_, ?_, ?_, ?_⟩
  all_goals (simp only [HV.flats, HV.time, HV.ended, HV.set, HV.acc, HV.num, HV.heard, HV.ph, HV.who, HV.spoken, HV.left, HV.out, HV.queue, HV.slate, HV.s_flats, HV.s_time, HV.s_ended, HV.s_set, HV.s_acc, HV.s_num, HV.s_heard, HV.s_ph, HV.s_who, HV.s_spoken, HV.s_left, HV.s_out, HV.s_queue, HV.s_slate, hv_rest, up1, up2] at *; first | assumption | (intros; grind))
set_option maxHeartbeats 4000000 in
theorem ok_arr1 {v : HV} (c : hv_ok v) {f : Nat} (hf : f < v.flats) (h1 : v.num f 2 = 1) (h2 : v.ph = 1) (h3 : v.who = f) : hv_ok (hv_speak (hv_put v f 3 0) f v.left 1) := by
  obtain ⟨v1, v2, v3, v4, v5, v6, v7, v8, v9, v10, v11, v12, v13, v14⟩ := v
  obtain ⟨c1, c2, c3, c4, c5, c6, c7, c8, c9, c10, c11, c12, c13, c14, c15, c16, c17, c18, c19, c20⟩ := c
  refine ⟨?_, ?_, ?_, ?_, ?_, ?_, ?_, ?_, ?_, ?_, ?_, ?_, ?_, ?_, ?_, ?_, ?_, ?_, ?_, ?_⟩
  all_goals (simp only [HV.flats, HV.time, HV.ended, HV.set, HV.acc, HV.num, HV.heard, HV.ph, HV.who, HV.spoken, HV.left, HV.out, HV.queue, HV.slate, HV.s_flats, HV.s_time, HV.s_ended, HV.s_set, HV.s_acc, HV.s_num, HV.s_heard, HV.s_ph, HV.s_who, HV.s_spoken, HV.s_left, HV.s_out, HV.s_queue, HV.s_slate, hv_speak, hv_phone, hv_put, up1, up2] at *; first | assumption | (intros; grind))
set_option maxHeartbeats 4000000 in
theorem ok_wait {v : HV} (c : hv_ok v) {f : Nat} {x : Int32} : hv_ok (hv_put v f 10 x) := by
  obtain ⟨v1, v2, v3, v4, v5, v6, v7, v8, v9, v10, v11, v12, v13, v14⟩ := v
  obtain ⟨c1, c2, c3, c4, c5, c6, c7, c8, c9, c10, c11, c12, c13, c14, c15, c16, c17, c18, c19, c20⟩ := c
  refine ⟨?_, ?_, ?_, ?_, ?_, ?_, ?_, ?_, ?_, ?_, ?_, ?_, ?_, ?_, ?_, ?_, ?_, ?_, ?_, ?_⟩
  all_goals (simp only [HV.flats, HV.time, HV.ended, HV.set, HV.acc, HV.num, HV.heard, HV.ph, HV.who, HV.spoken, HV.left, HV.out, HV.queue, HV.slate, HV.s_flats, HV.s_time, HV.s_ended, HV.s_set, HV.s_acc, HV.s_num, HV.s_heard, HV.s_ph, HV.s_who, HV.s_spoken, HV.s_left, HV.s_out, HV.s_queue, HV.s_slate, hv_put, up1, up2] at *; first | assumption | (intros; grind))
set_option maxHeartbeats 4000000 in
theorem ok_arrA {v : HV} (c : hv_ok v) {f : Nat} (hf : f < v.flats) (h1 : v.num f 2 = 1) (h2 : v.ph = 1 ∧ v.who = f) : hv_ok (hv_speak (hv_wipe (hv_put v f 3 (v.num f 3 - 1)) f) f v.left 1) := by
  obtain ⟨v1, v2, v3, v4, v5, v6, v7, v8, v9, v10, v11, v12, v13, v14⟩ := v
  obtain ⟨c1, c2, c3, c4, c5, c6, c7, c8, c9, c10, c11, c12, c13, c14, c15, c16, c17, c18, c19, c20⟩ := c
  refine ⟨?_, ?_, ?_, ?_, ?_, ?_, ?_, ?_, ?_, ?_, ?_, ?_, ?_, ?_, ?_, ?_, ?_, ?_, ?_, ?_⟩
  all_goals (simp only [HV.flats, HV.time, HV.ended, HV.set, HV.acc, HV.num, HV.heard, HV.ph, HV.who, HV.spoken, HV.left, HV.out, HV.queue, HV.slate, HV.s_flats, HV.s_time, HV.s_ended, HV.s_set, HV.s_acc, HV.s_num, HV.s_heard, HV.s_ph, HV.s_who, HV.s_spoken, HV.s_left, HV.s_out, HV.s_queue, HV.s_slate, hv_speak, hv_phone, hv_put, hv_wipe, hv_rest, up1, up2] at *; first | assumption | (intros; grind))
set_option maxHeartbeats 4000000 in
theorem ok_arrB {v : HV} (c : hv_ok v) {f : Nat} (hf : f < v.flats) (h1 : v.num f 2 = 1) (h2 : ¬ (v.ph = 1 ∧ v.who = f)) : hv_ok (hv_join (hv_put (hv_wipe (hv_put v f 3 (v.num f 3 - 1)) f) f 2 2) f) := by
  obtain ⟨v1, v2, v3, v4, v5, v6, v7, v8, v9, v10, v11, v12, v13, v14⟩ := v
  obtain ⟨c1, c2, c3, c4, c5, c6, c7, c8, c9, c10, c11, c12, c13, c14, c15, c16, c17, c18, c19, c20⟩ := c
  refine ⟨?_, ?_, ?_, ?_, ?_, ?_, ?_, ?_, ?_, ?_, ?_, ?_, ?_, ?_, ?_, ?_, ?_, ?_, ?_, ?_⟩
  all_goals (simp only [HV.flats, HV.time, HV.ended, HV.set, HV.acc, HV.num, HV.heard, HV.ph, HV.who, HV.spoken, HV.left, HV.out, HV.queue, HV.slate, HV.s_flats, HV.s_time, HV.s_ended, HV.s_set, HV.s_acc, HV.s_num, HV.s_heard, HV.s_ph, HV.s_who, HV.s_spoken, HV.s_left, HV.s_out, HV.s_queue, HV.s_slate, hv_join, hv_phone, hv_put, hv_wipe, hv_rest, List.nodup_append, List.mem_append, List.mem_singleton, up1, up2] at *; first | assumption | (intros; grind))
set_option maxHeartbeats 4000000 in
theorem ok_next {v : HV} (c : hv_ok v) {f : Nat} (h0 : v.ph = 0) (hq : f ∈ v.queue) : hv_ok (hv_speak (hv_leave v f) f (v.num f 4) 0) := by
  obtain ⟨v1, v2, v3, v4, v5, v6, v7, v8, v9, v10, v11, v12, v13, v14⟩ := v
  obtain ⟨c1, c2, c3, c4, c5, c6, c7, c8, c9, c10, c11, c12, c13, c14, c15, c16, c17, c18, c19, c20⟩ := c
  refine ⟨?_, ?_, ?_, ?_, ?_, ?_, ?_, ?_, ?_, ?_, ?_, ?_, ?_, ?_, ?_, ?_, ?_, ?_, ?_, ?_⟩
  all_goals (simp only [HV.flats, HV.time, HV.ended, HV.set, HV.acc, HV.num, HV.heard, HV.ph, HV.who, HV.spoken, HV.left, HV.out, HV.queue, HV.slate, HV.s_flats, HV.s_time, HV.s_ended, HV.s_set, HV.s_acc, HV.s_num, HV.s_heard, HV.s_ph, HV.s_who, HV.s_spoken, HV.s_left, HV.s_out, HV.s_queue, HV.s_slate, hv_speak, hv_phone, hv_put, hv_leave, up1, up2] at *; first | assumption | (intros; grind))
set_option maxHeartbeats 4000000 in
theorem ok_hold {v : HV} (c : hv_ok v) {f : Nat} {m : Int32} (hf : f < v.flats) (h0 : v.ph = 0) (h1 : v.num f 2 = 0) (hm : 1 ≤ m ∧ m ≤ 99) : hv_ok (hv_phone (hv_out v f 0) 1 f m 1) := by
  obtain ⟨v1, v2, v3, v4, v5, v6, v7, v8, v9, v10, v11, v12, v13, v14⟩ := v
  obtain ⟨c1, c2, c3, c4, c5, c6, c7, c8, c9, c10, c11, c12, c13, c14, c15, c16, c17, c18, c19, c20⟩ := c
  refine ⟨?_, ?_, ?_, ?_, ?_, ?_, ?_, ?_, ?_, ?_, ?_, ?_, ?_, ?_, ?_, ?_, ?_, ?_, ?_, ?_⟩
  all_goals (simp only [HV.flats, HV.time, HV.ended, HV.set, HV.acc, HV.num, HV.heard, HV.ph, HV.who, HV.spoken, HV.left, HV.out, HV.queue, HV.slate, HV.s_flats, HV.s_time, HV.s_ended, HV.s_set, HV.s_acc, HV.s_num, HV.s_heard, HV.s_ph, HV.s_who, HV.s_spoken, HV.s_left, HV.s_out, HV.s_queue, HV.s_slate, hv_phone, hv_out, hv_put, up1, up2] at *; first | assumption | (intros; grind))
set_option maxHeartbeats 4000000 in
theorem ok_ringq {v : HV} (c : hv_ok v) {f : Nat} {m : Int32} (hf : f < v.flats) (h0 : v.ph = 0) (h1 : v.num f 2 = 2) (hm : 1 ≤ m ∧ m ≤ 99) : hv_ok (hv_speak (hv_leave v f) f m 1) := by
  obtain ⟨v1, v2, v3, v4, v5, v6, v7, v8, v9, v10, v11, v12, v13, v14⟩ := v
  obtain ⟨c1, c2, c3, c4, c5, c6, c7, c8, c9, c10, c11, c12, c13, c14, c15, c16, c17, c18, c19, c20⟩ := c
  refine ⟨?_, ?_, ?_, ?_, ?_, ?_, ?_, ?_, ?_, ?_, ?_, ?_, ?_, ?_, ?_, ?_, ?_, ?_, ?_, ?_⟩
  all_goals (simp only [HV.flats, HV.time, HV.ended, HV.set, HV.acc, HV.num, HV.heard, HV.ph, HV.who, HV.spoken, HV.left, HV.out, HV.queue, HV.slate, HV.s_flats, HV.s_time, HV.s_ended, HV.s_set, HV.s_acc, HV.s_num, HV.s_heard, HV.s_ph, HV.s_who, HV.s_spoken, HV.s_left, HV.s_out, HV.s_queue, HV.s_slate, hv_speak, hv_phone, hv_put, hv_leave, up1, up2] at *; first | assumption | (intros; grind))
set_option maxHeartbeats 4000000 in
theorem ok_write {v : HV} (c : hv_ok v) {f : Nat} (hf : f < v.flats) (h8 : v.slate.length < 8) : hv_ok (v.s_slate (v.slate ++ [(f, v.time)])) := by
  obtain ⟨v1, v2, v3, v4, v5, v6, v7, v8, v9, v10, v11, v12, v13, v14⟩ := v
  obtain ⟨c1, c2, c3, c4, c5, c6, c7, c8, c9, c10, c11, c12, c13, c14, c15, c16, c17, c18, c19, c20⟩ := c
  refine ⟨?_, ?_, ?_, ?_, ?_, ?_, ?_, ?_, ?_, ?_, ?_, ?_, ?_, ?_, ?_, ?_, ?_, ?_, ?_, ?_⟩
  all_goals (simp only [HV.flats, HV.time, HV.ended, HV.set, HV.acc, HV.num, HV.heard, HV.ph, HV.who, HV.spoken, HV.left, HV.out, HV.queue, HV.slate, HV.s_flats, HV.s_time, HV.s_ended, HV.s_set, HV.s_acc, HV.s_num, HV.s_heard, HV.s_ph, HV.s_who, HV.s_spoken, HV.s_left, HV.s_out, HV.s_queue, HV.s_slate, List.mem_append, List.mem_singleton, List.length_append, List.length_cons, List.length_nil, up1, up2] at *; first | assumption | (intros; grind))
set_option maxHeartbeats 4000000 in
theorem ok_set {v : HV} (c : hv_ok v) {i : Nat} {x : Int32} (hx : i = 1 → 1 ≤ x ∧ x ≤ 30) : hv_ok (v.s_set (up1 v.set i x)) := by
  obtain ⟨v1, v2, v3, v4, v5, v6, v7, v8, v9, v10, v11, v12, v13, v14⟩ := v
  obtain ⟨c1, c2, c3, c4, c5, c6, c7, c8, c9, c10, c11, c12, c13, c14, c15, c16, c17, c18, c19, c20⟩ := c
  refine ⟨?_, ?_, ?_, ?_, ?_, ?_, ?_, ?_, ?_, ?_, ?_, ?_, ?_, ?_, ?_, ?_, ?_, ?_, ?_, ?_⟩
  all_goals (simp only [HV.flats, HV.time, HV.ended, HV.set, HV.acc, HV.num, HV.heard, HV.ph, HV.who, HV.spoken, HV.left, HV.out, HV.queue, HV.slate, HV.s_flats, HV.s_time, HV.s_ended, HV.s_set, HV.s_acc, HV.s_num, HV.s_heard, HV.s_ph, HV.s_who, HV.s_spoken, HV.s_left, HV.s_out, HV.s_queue, HV.s_slate, up1, up2] at *; first | assumption | (intros; grind))
set_option maxHeartbeats 4000000 in
theorem ok_cur {v : HV} (c : hv_ok v) {f : Nat} {x : Int32} : hv_ok (hv_put v f 1 x) := by
  obtain ⟨v1, v2, v3, v4, v5, v6, v7, v8, v9, v10, v11, v12, v13, v14⟩ := v
  obtain ⟨c1, c2, c3, c4, c5, c6, c7, c8, c9, c10, c11, c12, c13, c14, c15, c16, c17, c18, c19, c20⟩ := c
  refine ⟨?_, ?_, ?_, ?_, ?_, ?_, ?_, ?_, ?_, ?_, ?_, ?_, ?_, ?_, ?_, ?_, ?_, ?_, ?_, ?_⟩
  all_goals (simp only [HV.flats, HV.time, HV.ended, HV.set, HV.acc, HV.num, HV.heard, HV.ph, HV.who, HV.spoken, HV.left, HV.out, HV.queue, HV.slate, HV.s_flats, HV.s_time, HV.s_ended, HV.s_set, HV.s_acc, HV.s_num, HV.s_heard, HV.s_ph, HV.s_who, HV.s_spoken, HV.s_left, HV.s_out, HV.s_queue, HV.s_slate, hv_put, up1, up2] at *; first | assumption | (intros; grind))
set_option maxHeartbeats 4000000 in
theorem ok_wts {v : HV} (c : hv_ok v)  : hv_ok (v.s_num (fun f k => if k = 10 ∧ f ∈ v.queue then v.num f 10 + 1 else v.num f k)) := by
  obtain ⟨v1, v2, v3, v4, v5, v6, v7, v8, v9, v10, v11, v12, v13, v14⟩ := v
  obtain ⟨c1, c2, c3, c4, c5, c6, c7, c8, c9, c10, c11, c12, c13, c14, c15, c16, c17, c18, c19, c20⟩ := c
  refine ⟨?_, ?_, ?_, ?_, ?_, ?_, ?_, ?_, ?_, ?_, ?_, ?_, ?_, ?_, ?_, ?_, ?_, ?_, ?_, ?_⟩
  all_goals (simp only [HV.flats, HV.time, HV.ended, HV.set, HV.acc, HV.num, HV.heard, HV.ph, HV.who, HV.spoken, HV.left, HV.out, HV.queue, HV.slate, HV.s_flats, HV.s_time, HV.s_ended, HV.s_set, HV.s_acc, HV.s_num, HV.s_heard, HV.s_ph, HV.s_who, HV.s_spoken, HV.s_left, HV.s_out, HV.s_queue, HV.s_slate, up1, up2] at *; first | assumption | (intros; grind))
