/-! ===== the pure part: a house as a value, and what class and reference hold of it ===== -/
abbrev HV : Type := Nat × Int32 × Int32 × (Nat → Int32) × (Nat → Int32) × (Nat → Nat → Int32) × (Nat → Nat → Int32) × Int32 × Nat × Int32 × Int32 × Int32 × (List Nat) × (List (Nat × Int32))
abbrev HV.flats (v : HV) : Nat := v.1
abbrev HV.time (v : HV) : Int32 := v.2.1
abbrev HV.ended (v : HV) : Int32 := v.2.2.1
abbrev HV.set (v : HV) : (Nat → Int32) := v.2.2.2.1
abbrev HV.acc (v : HV) : (Nat → Int32) := v.2.2.2.2.1
abbrev HV.num (v : HV) : (Nat → Nat → Int32) := v.2.2.2.2.2.1
abbrev HV.heard (v : HV) : (Nat → Nat → Int32) := v.2.2.2.2.2.2.1
abbrev HV.ph (v : HV) : Int32 := v.2.2.2.2.2.2.2.1
abbrev HV.who (v : HV) : Nat := v.2.2.2.2.2.2.2.2.1
abbrev HV.spoken (v : HV) : Int32 := v.2.2.2.2.2.2.2.2.2.1
abbrev HV.left (v : HV) : Int32 := v.2.2.2.2.2.2.2.2.2.2.1
abbrev HV.out (v : HV) : Int32 := v.2.2.2.2.2.2.2.2.2.2.2.1
abbrev HV.queue (v : HV) : (List Nat) := v.2.2.2.2.2.2.2.2.2.2.2.2.1
abbrev HV.slate (v : HV) : (List (Nat × Int32)) := v.2.2.2.2.2.2.2.2.2.2.2.2.2
abbrev HV.s_flats (v : HV) (x : Nat) : HV := (x, v.2.1, v.2.2.1, v.2.2.2.1, v.2.2.2.2.1, v.2.2.2.2.2.1, v.2.2.2.2.2.2.1, v.2.2.2.2.2.2.2.1, v.2.2.2.2.2.2.2.2.1, v.2.2.2.2.2.2.2.2.2.1, v.2.2.2.2.2.2.2.2.2.2.1, v.2.2.2.2.2.2.2.2.2.2.2.1, v.2.2.2.2.2.2.2.2.2.2.2.2.1, v.2.2.2.2.2.2.2.2.2.2.2.2.2)
abbrev HV.s_time (v : HV) (x : Int32) : HV := (v.1, x, v.2.2.1, v.2.2.2.1, v.2.2.2.2.1, v.2.2.2.2.2.1, v.2.2.2.2.2.2.1, v.2.2.2.2.2.2.2.1, v.2.2.2.2.2.2.2.2.1, v.2.2.2.2.2.2.2.2.2.1, v.2.2.2.2.2.2.2.2.2.2.1, v.2.2.2.2.2.2.2.2.2.2.2.1, v.2.2.2.2.2.2.2.2.2.2.2.2.1, v.2.2.2.2.2.2.2.2.2.2.2.2.2)
abbrev HV.s_ended (v : HV) (x : Int32) : HV := (v.1, v.2.1, x, v.2.2.2.1, v.2.2.2.2.1, v.2.2.2.2.2.1, v.2.2.2.2.2.2.1, v.2.2.2.2.2.2.2.1, v.2.2.2.2.2.2.2.2.1, v.2.2.2.2.2.2.2.2.2.1, v.2.2.2.2.2.2.2.2.2.2.1, v.2.2.2.2.2.2.2.2.2.2.2.1, v.2.2.2.2.2.2.2.2.2.2.2.2.1, v.2.2.2.2.2.2.2.2.2.2.2.2.2)
abbrev HV.s_set (v : HV) (x : (Nat → Int32)) : HV := (v.1, v.2.1, v.2.2.1, x, v.2.2.2.2.1, v.2.2.2.2.2.1, v.2.2.2.2.2.2.1, v.2.2.2.2.2.2.2.1, v.2.2.2.2.2.2.2.2.1, v.2.2.2.2.2.2.2.2.2.1, v.2.2.2.2.2.2.2.2.2.2.1, v.2.2.2.2.2.2.2.2.2.2.2.1, v.2.2.2.2.2.2.2.2.2.2.2.2.1, v.2.2.2.2.2.2.2.2.2.2.2.2.2)
abbrev HV.s_acc (v : HV) (x : (Nat → Int32)) : HV := (v.1, v.2.1, v.2.2.1, v.2.2.2.1, x, v.2.2.2.2.2.1, v.2.2.2.2.2.2.1, v.2.2.2.2.2.2.2.1, v.2.2.2.2.2.2.2.2.1, v.2.2.2.2.2.2.2.2.2.1, v.2.2.2.2.2.2.2.2.2.2.1, v.2.2.2.2.2.2.2.2.2.2.2.1, v.2.2.2.2.2.2.2.2.2.2.2.2.1, v.2.2.2.2.2.2.2.2.2.2.2.2.2)
abbrev HV.s_num (v : HV) (x : (Nat → Nat → Int32)) : HV := (v.1, v.2.1, v.2.2.1, v.2.2.2.1, v.2.2.2.2.1, x, v.2.2.2.2.2.2.1, v.2.2.2.2.2.2.2.1, v.2.2.2.2.2.2.2.2.1, v.2.2.2.2.2.2.2.2.2.1, v.2.2.2.2.2.2.2.2.2.2.1, v.2.2.2.2.2.2.2.2.2.2.2.1, v.2.2.2.2.2.2.2.2.2.2.2.2.1, v.2.2.2.2.2.2.2.2.2.2.2.2.2)
abbrev HV.s_heard (v : HV) (x : (Nat → Nat → Int32)) : HV := (v.1, v.2.1, v.2.2.1, v.2.2.2.1, v.2.2.2.2.1, v.2.2.2.2.2.1, x, v.2.2.2.2.2.2.2.1, v.2.2.2.2.2.2.2.2.1, v.2.2.2.2.2.2.2.2.2.1, v.2.2.2.2.2.2.2.2.2.2.1, v.2.2.2.2.2.2.2.2.2.2.2.1, v.2.2.2.2.2.2.2.2.2.2.2.2.1, v.2.2.2.2.2.2.2.2.2.2.2.2.2)
abbrev HV.s_ph (v : HV) (x : Int32) : HV := (v.1, v.2.1, v.2.2.1, v.2.2.2.1, v.2.2.2.2.1, v.2.2.2.2.2.1, v.2.2.2.2.2.2.1, x, v.2.2.2.2.2.2.2.2.1, v.2.2.2.2.2.2.2.2.2.1, v.2.2.2.2.2.2.2.2.2.2.1, v.2.2.2.2.2.2.2.2.2.2.2.1, v.2.2.2.2.2.2.2.2.2.2.2.2.1, v.2.2.2.2.2.2.2.2.2.2.2.2.2)
abbrev HV.s_who (v : HV) (x : Nat) : HV := (v.1, v.2.1, v.2.2.1, v.2.2.2.1, v.2.2.2.2.1, v.2.2.2.2.2.1, v.2.2.2.2.2.2.1, v.2.2.2.2.2.2.2.1, x, v.2.2.2.2.2.2.2.2.2.1, v.2.2.2.2.2.2.2.2.2.2.1, v.2.2.2.2.2.2.2.2.2.2.2.1, v.2.2.2.2.2.2.2.2.2.2.2.2.1, v.2.2.2.2.2.2.2.2.2.2.2.2.2)
abbrev HV.s_spoken (v : HV) (x : Int32) : HV := (v.1, v.2.1, v.2.2.1, v.2.2.2.1, v.2.2.2.2.1, v.2.2.2.2.2.1, v.2.2.2.2.2.2.1, v.2.2.2.2.2.2.2.1, v.2.2.2.2.2.2.2.2.1, x, v.2.2.2.2.2.2.2.2.2.2.1, v.2.2.2.2.2.2.2.2.2.2.2.1, v.2.2.2.2.2.2.2.2.2.2.2.2.1, v.2.2.2.2.2.2.2.2.2.2.2.2.2)
abbrev HV.s_left (v : HV) (x : Int32) : HV := (v.1, v.2.1, v.2.2.1, v.2.2.2.1, v.2.2.2.2.1, v.2.2.2.2.2.1, v.2.2.2.2.2.2.1, v.2.2.2.2.2.2.2.1, v.2.2.2.2.2.2.2.2.1, v.2.2.2.2.2.2.2.2.2.1, x, v.2.2.2.2.2.2.2.2.2.2.2.1, v.2.2.2.2.2.2.2.2.2.2.2.2.1, v.2.2.2.2.2.2.2.2.2.2.2.2.2)
abbrev HV.s_out (v : HV) (x : Int32) : HV := (v.1, v.2.1, v.2.2.1, v.2.2.2.1, v.2.2.2.2.1, v.2.2.2.2.2.1, v.2.2.2.2.2.2.1, v.2.2.2.2.2.2.2.1, v.2.2.2.2.2.2.2.2.1, v.2.2.2.2.2.2.2.2.2.1, v.2.2.2.2.2.2.2.2.2.2.1, x, v.2.2.2.2.2.2.2.2.2.2.2.2.1, v.2.2.2.2.2.2.2.2.2.2.2.2.2)
abbrev HV.s_queue (v : HV) (x : (List Nat)) : HV := (v.1, v.2.1, v.2.2.1, v.2.2.2.1, v.2.2.2.2.1, v.2.2.2.2.2.1, v.2.2.2.2.2.2.1, v.2.2.2.2.2.2.2.1, v.2.2.2.2.2.2.2.2.1, v.2.2.2.2.2.2.2.2.2.1, v.2.2.2.2.2.2.2.2.2.2.1, v.2.2.2.2.2.2.2.2.2.2.2.1, x, v.2.2.2.2.2.2.2.2.2.2.2.2.2)
abbrev HV.s_slate (v : HV) (x : (List (Nat × Int32))) : HV := (v.1, v.2.1, v.2.2.1, v.2.2.2.1, v.2.2.2.2.1, v.2.2.2.2.2.1, v.2.2.2.2.2.2.1, v.2.2.2.2.2.2.2.1, v.2.2.2.2.2.2.2.2.1, v.2.2.2.2.2.2.2.2.2.1, v.2.2.2.2.2.2.2.2.2.2.1, v.2.2.2.2.2.2.2.2.2.2.2.1, v.2.2.2.2.2.2.2.2.2.2.2.2.1, x)
def CRep (h : Nat → Nat → Int32) (v : HV) : Prop := (h 0 0 = nI v.flats) ∧ (v.flats ≤ 10) ∧ (h 0 1 = v.time) ∧ (h 0 2 = v.ended) ∧ (∀ i : Nat, i < 6 → h 1 i = v.set i) ∧ (∀ i : Nat, 1 ≤ i → i < 10 → h 2 i = v.acc i) ∧ (∀ f k : Nat, f < 10 → k < 11 → k ≠ 5 → k ≠ 9 → h 3 (11 * f + k) = v.num f k) ∧ (∀ f k : Nat, f < 10 → k < 10 → h 4 (10 * f + k) = v.heard f k) ∧ (h 5 0 = v.ph) ∧ (h 5 1 = if v.ph = 0 then -1 else nI v.who) ∧ (h 5 2 = v.spoken) ∧ (h 5 3 = v.left) ∧ (h 5 4 = v.out) ∧ (h 6 1 = nI v.queue.length) ∧ (v.queue.length ≤ 10) ∧ (∀ (i : Nat) (x : Nat), v.queue[i]? = some x → h 7 i = nI x) ∧ (h 8 2 = nI v.slate.length) ∧ (v.slate.length ≤ 8) ∧ (∀ (i : Nat) (x : Nat × Int32), v.slate[i]? = some x → h 9 i = nI x.1 ∧ h 10 i = x.2)
theorem CRep.fl {h : Nat → Nat → Int32} {v : HV} (c : CRep h v) : h 0 0 = nI v.flats := c.1
theorem CRep.fl10 {h : Nat → Nat → Int32} {v : HV} (c : CRep h v) : v.flats ≤ 10 := c.2.1
theorem CRep.ti {h : Nat → Nat → Int32} {v : HV} (c : CRep h v) : h 0 1 = v.time := c.2.2.1
theorem CRep.en {h : Nat → Nat → Int32} {v : HV} (c : CRep h v) : h 0 2 = v.ended := c.2.2.2.1
theorem CRep.st {h : Nat → Nat → Int32} {v : HV} (c : CRep h v) : ∀ i : Nat, i < 6 → h 1 i = v.set i := c.2.2.2.2.1
theorem CRep.ac {h : Nat → Nat → Int32} {v : HV} (c : CRep h v) : ∀ i : Nat, 1 ≤ i → i < 10 → h 2 i = v.acc i := c.2.2.2.2.2.1
theorem CRep.nu {h : Nat → Nat → Int32} {v : HV} (c : CRep h v) : ∀ f k : Nat, f < 10 → k < 11 → k ≠ 5 → k ≠ 9 → h 3 (11 * f + k) = v.num f k := c.2.2.2.2.2.2.1
theorem CRep.he {h : Nat → Nat → Int32} {v : HV} (c : CRep h v) : ∀ f k : Nat, f < 10 → k < 10 → h 4 (10 * f + k) = v.heard f k := c.2.2.2.2.2.2.2.1
theorem CRep.ph {h : Nat → Nat → Int32} {v : HV} (c : CRep h v) : h 5 0 = v.ph := c.2.2.2.2.2.2.2.2.1
theorem CRep.wh {h : Nat → Nat → Int32} {v : HV} (c : CRep h v) : h 5 1 = if v.ph = 0 then -1 else nI v.who := c.2.2.2.2.2.2.2.2.2.1
theorem CRep.sp {h : Nat → Nat → Int32} {v : HV} (c : CRep h v) : h 5 2 = v.spoken := c.2.2.2.2.2.2.2.2.2.2.1
theorem CRep.le {h : Nat → Nat → Int32} {v : HV} (c : CRep h v) : h 5 3 = v.left := c.2.2.2.2.2.2.2.2.2.2.2.1
theorem CRep.ou {h : Nat → Nat → Int32} {v : HV} (c : CRep h v) : h 5 4 = v.out := c.2.2.2.2.2.2.2.2.2.2.2.2.1
theorem CRep.ql {h : Nat → Nat → Int32} {v : HV} (c : CRep h v) : h 6 1 = nI v.queue.length := c.2.2.2.2.2.2.2.2.2.2.2.2.2.1
theorem CRep.q10 {h : Nat → Nat → Int32} {v : HV} (c : CRep h v) : v.queue.length ≤ 10 := c.2.2.2.2.2.2.2.2.2.2.2.2.2.2.1
theorem CRep.qu {h : Nat → Nat → Int32} {v : HV} (c : CRep h v) : ∀ (i : Nat) (x : Nat), v.queue[i]? = some x → h 7 i = nI x := c.2.2.2.2.2.2.2.2.2.2.2.2.2.2.2.1
theorem CRep.sl {h : Nat → Nat → Int32} {v : HV} (c : CRep h v) : h 8 2 = nI v.slate.length := c.2.2.2.2.2.2.2.2.2.2.2.2.2.2.2.2.1
theorem CRep.s8 {h : Nat → Nat → Int32} {v : HV} (c : CRep h v) : v.slate.length ≤ 8 := c.2.2.2.2.2.2.2.2.2.2.2.2.2.2.2.2.2.1
theorem CRep.sf {h : Nat → Nat → Int32} {v : HV} (c : CRep h v) : ∀ (i : Nat) (x : Nat × Int32), v.slate[i]? = some x → h 9 i = nI x.1 ∧ h 10 i = x.2 := c.2.2.2.2.2.2.2.2.2.2.2.2.2.2.2.2.2.2
def up1 (f : Nat → Int32) (k : Nat) (x : Int32) : Nat → Int32 := fun k' => if k' = k then x else f k'
def up2 (n : Nat → Nat → Int32) (f k : Nat) (x : Int32) : Nat → Nat → Int32 := fun f' k' => if f' = f ∧ k' = k then x else n f' k'
theorem hp_p_eq (M : hp_M) (g j i : Nat) (x : Int32) : hp_p M g j i x g = up2 (M g) j i x := by
  funext j' i'; simp [hp_p, up2]
theorem hp_p_ne (M : hp_M) {g g' : Nat} (j i : Nat) (x : Int32) (h : g' ≠ g) : hp_p M g j i x g' = M g' := by
  funext j' i'; simp [hp_p, h]
theorem hp_p_at (M : hp_M) (g j i : Nat) (x : Int32) (g' j' i' : Nat) : hp_p M g j i x g' j' i' = if g' = g ∧ j' = j ∧ i' = i then x else M g' j' i' := rfl
theorem CRep.pnum {h : Nat → Nat → Int32} {v : HV} (c : CRep h v) {f k : Nat} {x : Int32} (hf : f < 10) (hk : k < 11) : CRep (up2 h 3 (11 * f + k) x) (v.s_num (up2 v.num f k x)) := by
  obtain ⟨v1, v2, v3, v4, v5, v6, v7, v8, v9, v10, v11, v12, v13, v14⟩ := v
  obtain ⟨c1, c2, c3, c4, c5, c6, c7, c8, c9, c10, c11, c12, c13, c14, c15, c16, c17, c18, c19⟩ := c
  refine ⟨?_, ?_, ?_, ?_, ?_, ?_, ?_, ?_, ?_, ?_, ?_, ?_, ?_, ?_, ?_, ?_, ?_, ?_, ?_⟩
  all_goals first | assumption | (simp only [HV.flats, HV.time, HV.ended, HV.set, HV.acc, HV.num, HV.heard, HV.ph, HV.who, HV.spoken, HV.left, HV.out, HV.queue, HV.slate, HV.s_flats, HV.s_time, HV.s_ended, HV.s_set, HV.s_acc, HV.s_num, HV.s_heard, HV.s_ph, HV.s_who, HV.s_spoken, HV.s_left, HV.s_out, HV.s_queue, HV.s_slate, up2, up1] at *; intros; grind)
theorem CRep.pset {h : Nat → Nat → Int32} {v : HV} (c : CRep h v) {i : Nat} {x : Int32} (hi : i < 6) : CRep (up2 h 1 i x) (v.s_set (up1 v.set i x)) := by
  obtain ⟨v1, v2, v3, v4, v5, v6, v7, v8, v9, v10, v11, v12, v13, v14⟩ := v
  obtain ⟨c1, c2, c3, c4, c5, c6, c7, c8, c9, c10, c11, c12, c13, c14, c15, c16, c17, c18, c19⟩ := c
  refine ⟨?_, ?_, ?_, ?_, ?_, ?_, ?_, ?_, ?_, ?_, ?_, ?_, ?_, ?_, ?_, ?_, ?_, ?_, ?_⟩
  all_goals first | assumption | (simp only [HV.flats, HV.time, HV.ended, HV.set, HV.acc, HV.num, HV.heard, HV.ph, HV.who, HV.spoken, HV.left, HV.out, HV.queue, HV.slate, HV.s_flats, HV.s_time, HV.s_ended, HV.s_set, HV.s_acc, HV.s_num, HV.s_heard, HV.s_ph, HV.s_who, HV.s_spoken, HV.s_left, HV.s_out, HV.s_queue, HV.s_slate, up2, up1] at *; intros; grind)
theorem CRep.pacc {h : Nat → Nat → Int32} {v : HV} (c : CRep h v) {i : Nat} {x : Int32} : CRep (up2 h 2 i x) (v.s_acc (up1 v.acc i x)) := by
  obtain ⟨v1, v2, v3, v4, v5, v6, v7, v8, v9, v10, v11, v12, v13, v14⟩ := v
  obtain ⟨c1, c2, c3, c4, c5, c6, c7, c8, c9, c10, c11, c12, c13, c14, c15, c16, c17, c18, c19⟩ := c
  refine ⟨?_, ?_, ?_, ?_, ?_, ?_, ?_, ?_, ?_, ?_, ?_, ?_, ?_, ?_, ?_, ?_, ?_, ?_, ?_⟩
  all_goals first | assumption | (simp only [HV.flats, HV.time, HV.ended, HV.set, HV.acc, HV.num, HV.heard, HV.ph, HV.who, HV.spoken, HV.left, HV.out, HV.queue, HV.slate, HV.s_flats, HV.s_time, HV.s_ended, HV.s_set, HV.s_acc, HV.s_num, HV.s_heard, HV.s_ph, HV.s_who, HV.s_spoken, HV.s_left, HV.s_out, HV.s_queue, HV.s_slate, up2, up1] at *; intros; grind)
theorem CRep.pheard {h : Nat → Nat → Int32} {v : HV} (c : CRep h v) {f k : Nat} {x : Int32} (hf : f < 10) (hk : k < 10) : CRep (up2 h 4 (10 * f + k) x) (v.s_heard (up2 v.heard f k x)) := by
  obtain ⟨v1, v2, v3, v4, v5, v6, v7, v8, v9, v10, v11, v12, v13, v14⟩ := v
  obtain ⟨c1, c2, c3, c4, c5, c6, c7, c8, c9, c10, c11, c12, c13, c14, c15, c16, c17, c18, c19⟩ := c
  refine ⟨?_, ?_, ?_, ?_, ?_, ?_, ?_, ?_, ?_, ?_, ?_, ?_, ?_, ?_, ?_, ?_, ?_, ?_, ?_⟩
  all_goals first | assumption | (simp only [HV.flats, HV.time, HV.ended, HV.set, HV.acc, HV.num, HV.heard, HV.ph, HV.who, HV.spoken, HV.left, HV.out, HV.queue, HV.slate, HV.s_flats, HV.s_time, HV.s_ended, HV.s_set, HV.s_acc, HV.s_num, HV.s_heard, HV.s_ph, HV.s_who, HV.s_spoken, HV.s_left, HV.s_out, HV.s_queue, HV.s_slate, up2, up1] at *; intros; grind)
theorem CRep.pqueue {h h' : Nat → Nat → Int32} {v : HV} (c : CRep h v) {q : List Nat} (hh : ∀ j i : Nat, j ≠ 7 → ¬ (j = 6 ∧ i = 1) → h' j i = h j i) (h1 : h' 6 1 = nI q.length) (h2 : q.length ≤ 10) (h3 : ∀ (i : Nat) (x : Nat), q[i]? = some x → h' 7 i = nI x) : CRep h' (v.s_queue q) := by
  obtain ⟨v1, v2, v3, v4, v5, v6, v7, v8, v9, v10, v11, v12, v13, v14⟩ := v
  obtain ⟨c1, c2, c3, c4, c5, c6, c7, c8, c9, c10, c11, c12, c13, c14, c15, c16, c17, c18, c19⟩ := c
  refine ⟨?_, ?_, ?_, ?_, ?_, ?_, ?_, ?_, ?_, ?_, ?_, ?_, ?_, ?_, ?_, ?_, ?_, ?_, ?_⟩
  all_goals (simp only [HV.flats, HV.time, HV.ended, HV.set, HV.acc, HV.num, HV.heard, HV.ph, HV.who, HV.spoken, HV.left, HV.out, HV.queue, HV.slate, HV.s_flats, HV.s_time, HV.s_ended, HV.s_set, HV.s_acc, HV.s_num, HV.s_heard, HV.s_ph, HV.s_who, HV.s_spoken, HV.s_left, HV.s_out, HV.s_queue, HV.s_slate] at *; first | assumption | (intros; grind))
theorem CRep.pslate {h h' : Nat → Nat → Int32} {v : HV} (c : CRep h v) {q : List (Nat × Int32)} (hh : ∀ j i : Nat, j ≠ 9 → j ≠ 10 → ¬ (j = 8 ∧ i = 2) → h' j i = h j i) (h1 : h' 8 2 = nI q.length) (h2 : q.length ≤ 8) (h3 : ∀ (i : Nat) (x : Nat × Int32), q[i]? = some x → h' 9 i = nI x.1 ∧ h' 10 i = x.2) : CRep h' (v.s_slate q) := by
  obtain ⟨v1, v2, v3, v4, v5, v6, v7, v8, v9, v10, v11, v12, v13, v14⟩ := v
  obtain ⟨c1, c2, c3, c4, c5, c6, c7, c8, c9, c10, c11, c12, c13, c14, c15, c16, c17, c18, c19⟩ := c
  refine ⟨?_, ?_, ?_, ?_, ?_, ?_, ?_, ?_, ?_, ?_, ?_, ?_, ?_, ?_, ?_, ?_, ?_, ?_, ?_⟩
  all_goals (simp only [HV.flats, HV.time, HV.ended, HV.set, HV.acc, HV.num, HV.heard, HV.ph, HV.who, HV.spoken, HV.left, HV.out, HV.queue, HV.slate, HV.s_flats, HV.s_time, HV.s_ended, HV.s_set, HV.s_acc, HV.s_num, HV.s_heard, HV.s_ph, HV.s_who, HV.s_spoken, HV.s_left, HV.s_out, HV.s_queue, HV.s_slate] at *; first | assumption | (intros; grind))
theorem CRep.pphone {h h' : Nat → Nat → Int32} {v : HV} (c : CRep h v) {p sp l u : Int32} {w : Nat} (hh : ∀ j i : Nat, j ≠ 5 → h' j i = h j i) (h0 : h' 5 0 = p) (h1 : h' 5 1 = if p = 0 then -1 else nI w) (h2 : h' 5 2 = sp) (h3 : h' 5 3 = l) (h4 : h' 5 4 = u) : CRep h' (((((v.s_ph p).s_who w).s_spoken sp).s_left l).s_out u) := by
  obtain ⟨v1, v2, v3, v4, v5, v6, v7, v8, v9, v10, v11, v12, v13, v14⟩ := v
  obtain ⟨c1, c2, c3, c4, c5, c6, c7, c8, c9, c10, c11, c12, c13, c14, c15, c16, c17, c18, c19⟩ := c
  refine ⟨?_, ?_, ?_, ?_, ?_, ?_, ?_, ?_, ?_, ?_, ?_, ?_, ?_, ?_, ?_, ?_, ?_, ?_, ?_⟩
  all_goals (simp only [HV.flats, HV.time, HV.ended, HV.set, HV.acc, HV.num, HV.heard, HV.ph, HV.who, HV.spoken, HV.left, HV.out, HV.queue, HV.slate, HV.s_flats, HV.s_time, HV.s_ended, HV.s_set, HV.s_acc, HV.s_num, HV.s_heard, HV.s_ph, HV.s_who, HV.s_spoken, HV.s_left, HV.s_out, HV.s_queue, HV.s_slate] at *; first | assumption | (intros; grind))
theorem CRep.phouse {h h' : Nat → Nat → Int32} {v : HV} (c : CRep h v) {t d : Int32} (hh : ∀ j i : Nat, ¬ (j = 0 ∧ (i = 1 ∨ i = 2)) → h' j i = h j i) (h0 : h' 0 1 = t) (h1 : h' 0 2 = d) : CRep h' ((v.s_time t).s_ended d) := by
  obtain ⟨v1, v2, v3, v4, v5, v6, v7, v8, v9, v10, v11, v12, v13, v14⟩ := v
  obtain ⟨c1, c2, c3, c4, c5, c6, c7, c8, c9, c10, c11, c12, c13, c14, c15, c16, c17, c18, c19⟩ := c
  refine ⟨?_, ?_, ?_, ?_, ?_, ?_, ?_, ?_, ?_, ?_, ?_, ?_, ?_, ?_, ?_, ?_, ?_, ?_, ?_⟩
  all_goals (simp only [HV.flats, HV.time, HV.ended, HV.set, HV.acc, HV.num, HV.heard, HV.ph, HV.who, HV.spoken, HV.left, HV.out, HV.queue, HV.slate, HV.s_flats, HV.s_time, HV.s_ended, HV.s_set, HV.s_acc, HV.s_num, HV.s_heard, HV.s_ph, HV.s_who, HV.s_spoken, HV.s_left, HV.s_out, HV.s_queue, HV.s_slate] at *; first | assumption | (intros; grind))
theorem CRep.pflats {h h' : Nat → Nat → Int32} {v : HV} (c : CRep h v) {k : Nat} (hh : ∀ j i : Nat, ¬ (j = 0 ∧ i = 0) → h' j i = h j i) (h0 : h' 0 0 = nI k) (h1 : k ≤ 10) : CRep h' (v.s_flats k) := by
  obtain ⟨v1, v2, v3, v4, v5, v6, v7, v8, v9, v10, v11, v12, v13, v14⟩ := v
  obtain ⟨c1, c2, c3, c4, c5, c6, c7, c8, c9, c10, c11, c12, c13, c14, c15, c16, c17, c18, c19⟩ := c
  refine ⟨?_, ?_, ?_, ?_, ?_, ?_, ?_, ?_, ?_, ?_, ?_, ?_, ?_, ?_, ?_, ?_, ?_, ?_, ?_⟩
  all_goals (simp only [HV.flats, HV.time, HV.ended, HV.set, HV.acc, HV.num, HV.heard, HV.ph, HV.who, HV.spoken, HV.left, HV.out, HV.queue, HV.slate, HV.s_flats, HV.s_time, HV.s_ended, HV.s_set, HV.s_acc, HV.s_num, HV.s_heard, HV.s_ph, HV.s_who, HV.s_spoken, HV.s_left, HV.s_out, HV.s_queue, HV.s_slate] at *; first | assumption | (intros; grind))
