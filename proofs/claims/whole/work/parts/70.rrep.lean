/-! ===== the reference: its row of numbers ===== -/
/-- the reference numbers the numbers of a flat without its place and its messages -/
def hv_ck (k : Nat) : Nat := if k < 5 then k else if k < 8 then k + 1 else 10
set_option maxHeartbeats 4000000 in
theorem RRep.pnum {W W' : Nat → Int32} {v : HV} (c : RRep W v) {f k : Nat} {x : Int32} (hf : f < 10) (hk : k < 9) (hh : ∀ i : Nat, i ≠ 52 + 9 * f + k → W' i = W i) (h1 : W' (52 + 9 * f + k) = x) : RRep W' (v.s_num (up2 v.num f (hv_ck k) x)) := by
  obtain ⟨v1, v2, v3, v4, v5, v6, v7, v8, v9, v10, v11, v12, v13, v14⟩ := v
  obtain ⟨c1, c2, c3, c4, c5, c6, c7, c8, c9, c10, c11, c12, c13, c14, c15, c16, c17, c18, c19, c20, c21, c22⟩ := c
  refine ⟨?_, ?_, ?_, ?_, ?_, ?_, ?_, ?_, ?_, ?_, ?_, ?_, ?_, ?_, ?_, ?_, ?_, ?_, ?_, ?_, ?_, ?_⟩
  all_goals (simp only [HV.flats, HV.time, HV.ended, HV.set, HV.acc, HV.num, HV.heard, HV.ph, HV.who, HV.spoken, HV.left, HV.out, HV.queue, HV.slate, HV.s_flats, HV.s_time, HV.s_ended, HV.s_set, HV.s_acc, HV.s_num, HV.s_heard, HV.s_ph, HV.s_who, HV.s_spoken, HV.s_left, HV.s_out, HV.s_queue, HV.s_slate, up1, up2, hv_ck] at *; first | assumption | (intros; grind))
set_option maxHeartbeats 4000000 in
theorem RRep.pset {W W' : Nat → Int32} {v : HV} (c : RRep W v) {i0 : Nat} {x : Int32} (hi : i0 < 6) (hh : ∀ i : Nat, i ≠ 7 + i0 → W' i = W i) (h1 : W' (7 + i0) = x) : RRep W' (v.s_set (up1 v.set i0 x)) := by
  obtain ⟨v1, v2, v3, v4, v5, v6, v7, v8, v9, v10, v11, v12, v13, v14⟩ := v
  obtain ⟨c1, c2, c3, c4, c5, c6, c7, c8, c9, c10, c11, c12, c13, c14, c15, c16, c17, c18, c19, c20, c21, c22⟩ := c
  refine ⟨?_, ?_, ?_, ?_, ?_, ?_, ?_, ?_, ?_, ?_, ?_, ?_, ?_, ?_, ?_, ?_, ?_, ?_, ?_, ?_, ?_, ?_⟩
  all_goals (simp only [HV.flats, HV.time, HV.ended, HV.set, HV.acc, HV.num, HV.heard, HV.ph, HV.who, HV.spoken, HV.left, HV.out, HV.queue, HV.slate, HV.s_flats, HV.s_time, HV.s_ended, HV.s_set, HV.s_acc, HV.s_num, HV.s_heard, HV.s_ph, HV.s_who, HV.s_spoken, HV.s_left, HV.s_out, HV.s_queue, HV.s_slate, up1, up2, hv_ck] at *; first | assumption | (intros; grind))
set_option maxHeartbeats 4000000 in
theorem RRep.pacc {W W' : Nat → Int32} {v : HV} (c : RRep W v) {i0 : Nat} {x : Int32} (hi : 1 ≤ i0) (hi2 : i0 < 10) (hh : ∀ i : Nat, i ≠ 42 + i0 → W' i = W i) (h1 : W' (42 + i0) = x) : RRep W' (v.s_acc (up1 v.acc i0 x)) := by
  obtain ⟨v1, v2, v3, v4, v5, v6, v7, v8, v9, v10, v11, v12, v13, v14⟩ := v
  obtain ⟨c1, c2, c3, c4, c5, c6, c7, c8, c9, c10, c11, c12, c13, c14, c15, c16, c17, c18, c19, c20, c21, c22⟩ := c
  refine ⟨?_, ?_, ?_, ?_, ?_, ?_, ?_, ?_, ?_, ?_, ?_, ?_, ?_, ?_, ?_, ?_, ?_, ?_, ?_, ?_, ?_, ?_⟩
  all_goals (simp only [HV.flats, HV.time, HV.ended, HV.set, HV.acc, HV.num, HV.heard, HV.ph, HV.who, HV.spoken, HV.left, HV.out, HV.queue, HV.slate, HV.s_flats, HV.s_time, HV.s_ended, HV.s_set, HV.s_acc, HV.s_num, HV.s_heard, HV.s_ph, HV.s_who, HV.s_spoken, HV.s_left, HV.s_out, HV.s_queue, HV.s_slate, up1, up2, hv_ck] at *; first | assumption | (intros; grind))
set_option maxHeartbeats 4000000 in
theorem RRep.pheard {W W' : Nat → Int32} {v : HV} (c : RRep W v) {f k : Nat} {x : Int32} (hf : f < 10) (hk : k < 10) (hh : ∀ i : Nat, i ≠ 142 + 10 * f + k → W' i = W i) (h1 : W' (142 + 10 * f + k) = x) : RRep W' (v.s_heard (up2 v.heard f k x)) := by
  obtain ⟨v1, v2, v3, v4, v5, v6, v7, v8, v9, v10, v11, v12, v13, v14⟩ := v
  obtain ⟨c1, c2, c3, c4, c5, c6, c7, c8, c9, c10, c11, c12, c13, c14, c15, c16, c17, c18, c19, c20, c21, c22⟩ := c
  refine ⟨?_, ?_, ?_, ?_, ?_, ?_, ?_, ?_, ?_, ?_, ?_, ?_, ?_, ?_, ?_, ?_, ?_, ?_, ?_, ?_, ?_, ?_⟩
  all_goals (simp only [HV.flats, HV.time, HV.ended, HV.set, HV.acc, HV.num, HV.heard, HV.ph, HV.who, HV.spoken, HV.left, HV.out, HV.queue, HV.slate, HV.s_flats, HV.s_time, HV.s_ended, HV.s_set, HV.s_acc, HV.s_num, HV.s_heard, HV.s_ph, HV.s_who, HV.s_spoken, HV.s_left, HV.s_out, HV.s_queue, HV.s_slate, up1, up2, hv_ck] at *; first | assumption | (intros; grind))
set_option maxHeartbeats 4000000 in
theorem RRep.pended {W W' : Nat → Int32} {v : HV} (c : RRep W v) {x : Int32} (hh : ∀ i : Nat, i ≠ 41 → W' i = W i) (h1 : W' (41) = x) : RRep W' (v.s_ended x) := by
  obtain ⟨v1, v2, v3, v4, v5, v6, v7, v8, v9, v10, v11, v12, v13, v14⟩ := v
  obtain ⟨c1, c2, c3, c4, c5, c6, c7, c8, c9, c10, c11, c12, c13, c14, c15, c16, c17, c18, c19, c20, c21, c22⟩ := c
  refine ⟨?_, ?_, ?_, ?_, ?_, ?_, ?_, ?_, ?_, ?_, ?_, ?_, ?_, ?_, ?_, ?_, ?_, ?_, ?_, ?_, ?_, ?_⟩
  all_goals (simp only [HV.flats, HV.time, HV.ended, HV.set, HV.acc, HV.num, HV.heard, HV.ph, HV.who, HV.spoken, HV.left, HV.out, HV.queue, HV.slate, HV.s_flats, HV.s_time, HV.s_ended, HV.s_set, HV.s_acc, HV.s_num, HV.s_heard, HV.s_ph, HV.s_who, HV.s_spoken, HV.s_left, HV.s_out, HV.s_queue, HV.s_slate, up1, up2, hv_ck] at *; first | assumption | (intros; grind))
set_option maxHeartbeats 4000000 in
theorem RRep.pph {W W' : Nat → Int32} {v : HV} (c : RRep W v) {x : Int32} (hh : ∀ i : Nat, i ≠ 2 → W' i = W i) (h1 : W' (2) = x) : RRep W' (v.s_ph x) := by
  obtain ⟨v1, v2, v3, v4, v5, v6, v7, v8, v9, v10, v11, v12, v13, v14⟩ := v
  obtain ⟨c1, c2, c3, c4, c5, c6, c7, c8, c9, c10, c11, c12, c13, c14, c15, c16, c17, c18, c19, c20, c21, c22⟩ := c
  refine ⟨?_, ?_, ?_, ?_, ?_, ?_, ?_, ?_, ?_, ?_, ?_, ?_, ?_, ?_, ?_, ?_, ?_, ?_, ?_, ?_, ?_, ?_⟩
  all_goals (simp only [HV.flats, HV.time, HV.ended, HV.set, HV.acc, HV.num, HV.heard, HV.ph, HV.who, HV.spoken, HV.left, HV.out, HV.queue, HV.slate, HV.s_flats, HV.s_time, HV.s_ended, HV.s_set, HV.s_acc, HV.s_num, HV.s_heard, HV.s_ph, HV.s_who, HV.s_spoken, HV.s_left, HV.s_out, HV.s_queue, HV.s_slate, up1, up2, hv_ck] at *; first | assumption | (intros; grind))
set_option maxHeartbeats 4000000 in
theorem RRep.pwho {W W' : Nat → Int32} {v : HV} (c : RRep W v) {w : Nat} (hh : ∀ i : Nat, i ≠ 3 → W' i = W i) (h1 : W' (3) = nI w) : RRep W' (v.s_who w) := by
  obtain ⟨v1, v2, v3, v4, v5, v6, v7, v8, v9, v10, v11, v12, v13, v14⟩ := v
  obtain ⟨c1, c2, c3, c4, c5, c6, c7, c8, c9, c10, c11, c12, c13, c14, c15, c16, c17, c18, c19, c20, c21, c22⟩ := c
  refine ⟨?_, ?_, ?_, ?_, ?_, ?_, ?_, ?_, ?_, ?_, ?_, ?_, ?_, ?_, ?_, ?_, ?_, ?_, ?_, ?_, ?_, ?_⟩
  all_goals (simp only [HV.flats, HV.time, HV.ended, HV.set, HV.acc, HV.num, HV.heard, HV.ph, HV.who, HV.spoken, HV.left, HV.out, HV.queue, HV.slate, HV.s_flats, HV.s_time, HV.s_ended, HV.s_set, HV.s_acc, HV.s_num, HV.s_heard, HV.s_ph, HV.s_who, HV.s_spoken, HV.s_left, HV.s_out, HV.s_queue, HV.s_slate, up1, up2, hv_ck] at *; first | assumption | (intros; grind))
set_option maxHeartbeats 4000000 in
theorem RRep.pspoken {W W' : Nat → Int32} {v : HV} (c : RRep W v) {x : Int32} (hh : ∀ i : Nat, i ≠ 4 → W' i = W i) (h1 : W' (4) = x) : RRep W' (v.s_spoken x) := by
  obtain ⟨v1, v2, v3, v4, v5, v6, v7, v8, v9, v10, v11, v12, v13, v14⟩ := v
  obtain ⟨c1, c2, c3, c4, c5, c6, c7, c8, c9, c10, c11, c12, c13, c14, c15, c16, c17, c18, c19, c20, c21, c22⟩ := c
  refine ⟨?_, ?_, ?_, ?_, ?_, ?_, ?_, ?_, ?_, ?_, ?_, ?_, ?_, ?_, ?_, ?_, ?_, ?_, ?_, ?_, ?_, ?_⟩
  all_goals (simp only [HV.flats, HV.time, HV.ended, HV.set, HV.acc, HV.num, HV.heard, HV.ph, HV.who, HV.spoken, HV.left, HV.out, HV.queue, HV.slate, HV.s_flats, HV.s_time, HV.s_ended, HV.s_set, HV.s_acc, HV.s_num, HV.s_heard, HV.s_ph, HV.s_who, HV.s_spoken, HV.s_left, HV.s_out, HV.s_queue, HV.s_slate, up1, up2, hv_ck] at *; first | assumption | (intros; grind))
set_option maxHeartbeats 4000000 in
theorem RRep.pleft {W W' : Nat → Int32} {v : HV} (c : RRep W v) {x : Int32} (hh : ∀ i : Nat, i ≠ 5 → W' i = W i) (h1 : W' (5) = x) : RRep W' (v.s_left x) := by
  obtain ⟨v1, v2, v3, v4, v5, v6, v7, v8, v9, v10, v11, v12, v13, v14⟩ := v
  obtain ⟨c1, c2, c3, c4, c5, c6, c7, c8, c9, c10, c11, c12, c13, c14, c15, c16, c17, c18, c19, c20, c21, c22⟩ := c
  refine ⟨?_, ?_, ?_, ?_, ?_, ?_, ?_, ?_, ?_, ?_, ?_, ?_, ?_, ?_, ?_, ?_, ?_, ?_, ?_, ?_, ?_, ?_⟩
  all_goals (simp only [HV.flats, HV.time, HV.ended, HV.set, HV.acc, HV.num, HV.heard, HV.ph, HV.who, HV.spoken, HV.left, HV.out, HV.queue, HV.slate, HV.s_flats, HV.s_time, HV.s_ended, HV.s_set, HV.s_acc, HV.s_num, HV.s_heard, HV.s_ph, HV.s_who, HV.s_spoken, HV.s_left, HV.s_out, HV.s_queue, HV.s_slate, up1, up2, hv_ck] at *; first | assumption | (intros; grind))
set_option maxHeartbeats 4000000 in
theorem RRep.pout {W W' : Nat → Int32} {v : HV} (c : RRep W v) {x : Int32} (hh : ∀ i : Nat, i ≠ 6 → W' i = W i) (h1 : W' (6) = x) : RRep W' (v.s_out x) := by
  obtain ⟨v1, v2, v3, v4, v5, v6, v7, v8, v9, v10, v11, v12, v13, v14⟩ := v
  obtain ⟨c1, c2, c3, c4, c5, c6, c7, c8, c9, c10, c11, c12, c13, c14, c15, c16, c17, c18, c19, c20, c21, c22⟩ := c
  refine ⟨?_, ?_, ?_, ?_, ?_, ?_, ?_, ?_, ?_, ?_, ?_, ?_, ?_, ?_, ?_, ?_, ?_, ?_, ?_, ?_, ?_, ?_⟩
  all_goals (simp only [HV.flats, HV.time, HV.ended, HV.set, HV.acc, HV.num, HV.heard, HV.ph, HV.who, HV.spoken, HV.left, HV.out, HV.queue, HV.slate, HV.s_flats, HV.s_time, HV.s_ended, HV.s_set, HV.s_acc, HV.s_num, HV.s_heard, HV.s_ph, HV.s_who, HV.s_spoken, HV.s_left, HV.s_out, HV.s_queue, HV.s_slate, up1, up2, hv_ck] at *; first | assumption | (intros; grind))
set_option maxHeartbeats 4000000 in
theorem RRep.ptime {W W' : Nat → Int32} {v : HV} (c : RRep W v) {x : Int32} (hh : ∀ i : Nat, i ≠ 1 → i ≠ 42 → W' i = W i) (h1 : W' 1 = x) (h2 : W' 42 = x) : RRep W' (v.s_time x) := by
  obtain ⟨v1, v2, v3, v4, v5, v6, v7, v8, v9, v10, v11, v12, v13, v14⟩ := v
  obtain ⟨c1, c2, c3, c4, c5, c6, c7, c8, c9, c10, c11, c12, c13, c14, c15, c16, c17, c18, c19, c20, c21, c22⟩ := c
  refine ⟨?_, ?_, ?_, ?_, ?_, ?_, ?_, ?_, ?_, ?_, ?_, ?_, ?_, ?_, ?_, ?_, ?_, ?_, ?_, ?_, ?_, ?_⟩
  all_goals (simp only [HV.flats, HV.time, HV.ended, HV.set, HV.acc, HV.num, HV.heard, HV.ph, HV.who, HV.spoken, HV.left, HV.out, HV.queue, HV.slate, HV.s_flats, HV.s_time, HV.s_ended, HV.s_set, HV.s_acc, HV.s_num, HV.s_heard, HV.s_ph, HV.s_who, HV.s_spoken, HV.s_left, HV.s_out, HV.s_queue, HV.s_slate, up1, up2, hv_ck] at *; first | assumption | (intros; grind))
set_option maxHeartbeats 4000000 in
theorem RRep.pqueue {W W' : Nat → Int32} {v : HV} (c : RRep W v) {q : List Nat} (hh : ∀ i : Nat, ¬ (30 ≤ i ∧ i < 41) → W' i = W i) (h1 : W' 30 = nI q.length) (h2 : q.length ≤ 10) (h3 : ∀ (i : Nat) (x : Nat), q[i]? = some x → W' (31 + i) = nI x) : RRep W' (v.s_queue q) := by
  obtain ⟨v1, v2, v3, v4, v5, v6, v7, v8, v9, v10, v11, v12, v13, v14⟩ := v
  obtain ⟨c1, c2, c3, c4, c5, c6, c7, c8, c9, c10, c11, c12, c13, c14, c15, c16, c17, c18, c19, c20, c21, c22⟩ := c
  refine ⟨?_, ?_, ?_, ?_, ?_, ?_, ?_, ?_, ?_, ?_, ?_, ?_, ?_, ?_, ?_, ?_, ?_, ?_, ?_, ?_, ?_, ?_⟩
  all_goals (simp only [HV.flats, HV.time, HV.ended, HV.set, HV.acc, HV.num, HV.heard, HV.ph, HV.who, HV.spoken, HV.left, HV.out, HV.queue, HV.slate, HV.s_flats, HV.s_time, HV.s_ended, HV.s_set, HV.s_acc, HV.s_num, HV.s_heard, HV.s_ph, HV.s_who, HV.s_spoken, HV.s_left, HV.s_out, HV.s_queue, HV.s_slate, up1, up2, hv_ck] at *; first | assumption | (intros; grind))
set_option maxHeartbeats 4000000 in
theorem RRep.pslate {W W' : Nat → Int32} {v : HV} (c : RRep W v) {q : List (Nat × Int32)} (hh : ∀ i : Nat, ¬ (13 ≤ i ∧ i < 30) → W' i = W i) (h1 : W' 13 = nI q.length) (h2 : q.length ≤ 8) (h3 : ∀ (i : Nat) (x : Nat × Int32), q[i]? = some x → W' (14 + 2 * i) = nI x.1 ∧ W' (15 + 2 * i) = x.2) : RRep W' (v.s_slate q) := by
  obtain ⟨v1, v2, v3, v4, v5, v6, v7, v8, v9, v10, v11, v12, v13, v14⟩ := v
  obtain ⟨c1, c2, c3, c4, c5, c6, c7, c8, c9, c10, c11, c12, c13, c14, c15, c16, c17, c18, c19, c20, c21, c22⟩ := c
  refine ⟨?_, ?_, ?_, ?_, ?_, ?_, ?_, ?_, ?_, ?_, ?_, ?_, ?_, ?_, ?_, ?_, ?_, ?_, ?_, ?_, ?_, ?_⟩
  all_goals (simp only [HV.flats, HV.time, HV.ended, HV.set, HV.acc, HV.num, HV.heard, HV.ph, HV.who, HV.spoken, HV.left, HV.out, HV.queue, HV.slate, HV.s_flats, HV.s_time, HV.s_ended, HV.s_set, HV.s_acc, HV.s_num, HV.s_heard, HV.s_ph, HV.s_who, HV.s_spoken, HV.s_left, HV.s_out, HV.s_queue, HV.s_slate, up1, up2, hv_ck] at *; first | assumption | (intros; grind))
/-- the reference's row is now so; all else is as it was -/
def RS (M : hp_M) (v : HV) (M' : hp_M) : Prop := RRep (M' 13 1) v ∧ ∀ g j : Nat, ¬ (g = 13 ∧ j = 1) → M' g j = M g j
theorem RS.tr {M M1 M2 : hp_M} {v1 v2 : HV} (h1 : RS M v1 M1) (h2 : RS M1 v2 M2) : RS M v2 M2 := ⟨h2.1, fun g j h => (h2.2 g j h).trans (h1.2 g j h)⟩
theorem RS.rf {M : hp_M} {v : HV} (c : RRep (M 13 1) v) : RS M v M := ⟨c, fun _ _ _ => rfl⟩
theorem hp_p_r (M : hp_M) (i : Nat) (x : Int32) {g j : Nat} (h : ¬ (g = 13 ∧ j = 1)) : hp_p M 13 1 i x g j = M g j := by
  funext i'; exact if_neg (fun q => h ⟨q.1, q.2.1⟩)
theorem hp_p_rs (M : hp_M) (i : Nat) (x : Int32) : hp_p M 13 1 i x 13 1 i = x := if_pos ⟨rfl, rfl, rfl⟩
theorem hp_p_ro (M : hp_M) (i : Nat) (x : Int32) {k : Nat} (h : k ≠ i) : hp_p M 13 1 i x 13 1 k = M 13 1 k := if_neg (fun q => h q.2.2)
section REF
variable {M : hp_M} {v : HV}
theorem RS.num (c : RRep (M 13 1) v) {f k : Nat} {x : Int32} (hf : f < 10) (hk : k < 9) : RS M (v.s_num (up2 v.num f (hv_ck k) x)) (hp_p M 13 1 (52 + 9 * f + k) x) := ⟨c.pnum hf hk (fun i h => hp_p_ro _ _ _ h) (hp_p_rs _ _ _), fun g j h => hp_p_r _ _ _ h⟩
theorem RS.set (c : RRep (M 13 1) v) {i : Nat} {x : Int32} (hi : i < 6) : RS M (v.s_set (up1 v.set i x)) (hp_p M 13 1 (7 + i) x) := ⟨c.pset hi (fun i h => hp_p_ro _ _ _ h) (hp_p_rs _ _ _), fun g j h => hp_p_r _ _ _ h⟩
theorem RS.acc (c : RRep (M 13 1) v) {i : Nat} {x : Int32} (hi : 1 ≤ i) (hi2 : i < 10) : RS M (v.s_acc (up1 v.acc i x)) (hp_p M 13 1 (42 + i) x) := ⟨c.pacc hi hi2 (fun i h => hp_p_ro _ _ _ h) (hp_p_rs _ _ _), fun g j h => hp_p_r _ _ _ h⟩
theorem RS.heard (c : RRep (M 13 1) v) {f k : Nat} {x : Int32} (hf : f < 10) (hk : k < 10) : RS M (v.s_heard (up2 v.heard f k x)) (hp_p M 13 1 (142 + 10 * f + k) x) := ⟨c.pheard hf hk (fun i h => hp_p_ro _ _ _ h) (hp_p_rs _ _ _), fun g j h => hp_p_r _ _ _ h⟩
theorem RS.ended (c : RRep (M 13 1) v) {x : Int32} : RS M (v.s_ended x) (hp_p M 13 1 41 x) := ⟨c.pended (fun i h => hp_p_ro _ _ _ h) (hp_p_rs _ _ _), fun g j h => hp_p_r _ _ _ h⟩
theorem RS.ph (c : RRep (M 13 1) v) {x : Int32} : RS M (v.s_ph x) (hp_p M 13 1 2 x) := ⟨c.pph (fun i h => hp_p_ro _ _ _ h) (hp_p_rs _ _ _), fun g j h => hp_p_r _ _ _ h⟩
theorem RS.who (c : RRep (M 13 1) v) {w : Nat} : RS M (v.s_who w) (hp_p M 13 1 3 (nI w)) := ⟨c.pwho (fun i h => hp_p_ro _ _ _ h) (hp_p_rs _ _ _), fun g j h => hp_p_r _ _ _ h⟩
theorem RS.spoken (c : RRep (M 13 1) v) {x : Int32} : RS M (v.s_spoken x) (hp_p M 13 1 4 x) := ⟨c.pspoken (fun i h => hp_p_ro _ _ _ h) (hp_p_rs _ _ _), fun g j h => hp_p_r _ _ _ h⟩
theorem RS.left (c : RRep (M 13 1) v) {x : Int32} : RS M (v.s_left x) (hp_p M 13 1 5 x) := ⟨c.pleft (fun i h => hp_p_ro _ _ _ h) (hp_p_rs _ _ _), fun g j h => hp_p_r _ _ _ h⟩
theorem RS.out (c : RRep (M 13 1) v) {x : Int32} : RS M (v.s_out x) (hp_p M 13 1 6 x) := ⟨c.pout (fun i h => hp_p_ro _ _ _ h) (hp_p_rs _ _ _), fun g j h => hp_p_r _ _ _ h⟩
theorem hp_rix {f k b m : Nat} (hm : b + m * f + k < 242) : ¬ (nI b + nI m * nI f + nI k < 0 ∨ 242 ≤ (nI b + nI m * nI f + nI k).toNatClampNeg) ∧ (nI b + nI m * nI f + nI k).toNatClampNeg = b + m * f + k := by
  rw [nI_mul, nI_add, nI_add]
  exact ⟨nI_in hm (by decide), nI_clamp (by omega)⟩
/-- what a number of a flat is -/
theorem RRep.nu (c : RRep (M 13 1) v) {f k : Nat} (hf : f < 10) (hk : k < 9) : M 13 1 (52 + 9 * f + k) = v.num f (hv_ck k) := by
  unfold hv_ck
  by_cases h1 : k < 5
  · rw [if_pos h1]; exact c.n0 f k hf h1
  · rw [if_neg h1]
    by_cases h2 : k < 8
    · rw [if_pos h2]; exact c.n5 f k hf (by omega) h2
    · rw [if_neg h2, show k = 8 by omega]; exact c.n8 f hf
theorem r_of (c : RRep (M 13 1) v) {f k : Nat} {a0 a1 : Int32} (e0 : a0 = nI f) (e1 : a1 = nI k) (hf : f < 10) (hk : k < 9) : F_X9_of a0 a1 M = some (v.num f (hv_ck k), M) := by
  subst e0; subst e1
  obtain ⟨h1, h2⟩ := hp_rix (f := f) (k := k) (b := 52) (m := 9) (by omega)
  unfold F_X9_of
  rw [show (52 : Int32) = nI 52 from rfl, show (9 : Int32) = nI 9 from rfl, if_neg h1, h2, c.nu hf hk]
theorem r_to {f k : Nat} {a0 a1 x : Int32} (e0 : a0 = nI f) (e1 : a1 = nI k) (hf : f < 10) (hk : k < 9) : F_X9_to a0 a1 x M = some ((), hp_p M 13 1 (52 + 9 * f + k) x) := by
  subst e0; subst e1
  obtain ⟨h1, h2⟩ := hp_rix (f := f) (k := k) (b := 52) (m := 9) (by omega)
  unfold F_X9_to
  rw [show (52 : Int32) = nI 52 from rfl, show (9 : Int32) = nI 9 from rfl, if_neg h1, h2]
theorem r_adds (c : RRep (M 13 1) v) {f k : Nat} {a0 a1 x : Int32} (e0 : a0 = nI f) (e1 : a1 = nI k) (hf : f < 10) (hk : k < 9) : F_X9_adds a0 a1 x M = some ((), hp_p M 13 1 (52 + 9 * f + k) (v.num f (hv_ck k) + x)) := by
  subst e0; subst e1
  obtain ⟨h1, h2⟩ := hp_rix (f := f) (k := k) (b := 52) (m := 9) (by omega)
  unfold F_X9_adds
  rw [show (52 : Int32) = nI 52 from rfl, show (9 : Int32) = nI 9 from rfl, if_neg h1, if_neg h1, h2, c.nu hf hk]
theorem r_counts (c : RRep (M 13 1) v) {i : Nat} {a0 x : Int32} (e0 : a0 = nI i) (hi : 1 ≤ i) (hi2 : i < 10) : F_X9_counts a0 x M = some ((), hp_p M 13 1 (42 + i) (v.acc i + x)) := by
  subst e0
  unfold F_X9_counts
  have h1 : ¬ (nI 42 + nI i < 0 ∨ 242 ≤ (nI 42 + nI i).toNatClampNeg) := by rw [nI_add]; exact nI_in (by omega) (by decide)
  rw [show (42 : Int32) = nI 42 from rfl, if_neg h1, if_neg h1, show (nI 42 + nI i).toNatClampNeg = 42 + i by rw [nI_add]; exact nI_clamp (by omega), c.ac i hi hi2]
theorem r_heard (c : RRep (M 13 1) v) {f k : Nat} {a0 a1 : Int32} (e0 : a0 = nI f) (e1 : a1 = nI k) (hf : f < 10) (hk : k < 10) : F_X9_heardOf a0 a1 M = some (v.heard f k, M) := by
  subst e0; subst e1
  obtain ⟨h1, h2⟩ := hp_rix (f := f) (k := k) (b := 142) (m := 10) (by omega)
  unfold F_X9_heardOf
  rw [show (142 : Int32) = nI 142 from rfl, show (10 : Int32) = nI 10 from rfl, if_neg h1, h2, c.he f k hf hk]
end REF
