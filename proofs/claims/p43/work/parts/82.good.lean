/-! ===== bounds that hold between calls ===== -/
def hv_lt (B : Nat) (x : Int32) : Prop := ∃ t : Nat, x = nI t ∧ t ≤ B
def hv_bd (B : Nat) (v : HV) : Prop := hv_lt B v.time ∧ hv_lt B (v.acc 1) ∧ ∀ x ∈ v.slate, hv_lt B x.2
def hv_in (v : HV) : Prop := (0 ≤ v.spoken ∧ v.spoken ≤ 99 ∧ v.spoken + v.left ≤ 99) ∧ ∀ i : Nat, i < 6 → 0 ≤ v.set i
/-- all that holds of a house between calls -/
def hv_g (B : Nat) (v : HV) : Prop := hv_ok2 v ∧ hv_in v ∧ hv_bd B v
theorem hv_lt_mono {B C : Nat} {x : Int32} (h : hv_lt B x) (hBC : B ≤ C) : hv_lt C x := by
  obtain ⟨t, h1, h2⟩ := h
  exact ⟨t, h1, by omega⟩
theorem hv_lt_add {B k : Nat} {x : Int32} (h : hv_lt B x) : hv_lt (B + k) (x + nI k) := by
  obtain ⟨t, h1, h2⟩ := h
  exact ⟨t + k, by rw [h1, nI_add], by omega⟩
section GOOD
variable {v : HV} {B : Nat}
theorem g_mono {C : Nat} (h : hv_g B v) (hBC : B ≤ C) : hv_g C v := ⟨h.1, h.2.1, hv_lt_mono h.2.2.1 hBC, hv_lt_mono h.2.2.2.1 hBC, fun x hx => hv_lt_mono (h.2.2.2.2 x hx) hBC⟩
theorem in_of {w : HV} (h : hv_in v) (hl : w.left = v.left) (hs : w.spoken = v.spoken ∨ w.spoken = 0) (h0 : 0 ≤ v.left ∧ v.left ≤ 99) (hset : w.set = v.set) : hv_in w := by
  obtain ⟨⟨h1, h2, h3⟩, h4⟩ := h
  refine ⟨?_, fun i hi => by rw [hset]; exact h4 i hi⟩
  rw [hl]
  rcases hs with e | e
  · rw [e]; exact ⟨h1, h2, h3⟩
  · rw [e]
    refine ⟨by decide, by decide, ?_⟩
    grind
theorem hv_hear_sp (n : Nat) (v : HV) : (hv_hear n v).spoken = v.spoken := by
  induction n with
  | zero => rfl
  | succ n ih =>
    have e : hv_hear (n + 1) v = hv_hear1 (hv_hear n v) n := rfl
    rw [e]
    unfold hv_hear1
    split
    · exact ih
    · exact ih
theorem in_told (h : hv_ok2 v) (hi : hv_in v) : hv_in (hv_told v) := by
  unfold hv_told
  by_cases hp : v.ph = 2
  · rw [if_pos hp]
    have hk := hv_hear_k v.flats (hv_talk0 v)
    have hs := hv_hear_sp v.flats (hv_talk0 v)
    have h1 := h.2 (by rw [hp]; decide)
    have h2 := ok_le h.1
    obtain ⟨⟨i1, i2, i3⟩, i4⟩ := hi
    refine ⟨?_, fun i hi => ?_⟩
    · show 0 ≤ (hv_hear v.flats (hv_talk0 v)).spoken ∧ (hv_hear v.flats (hv_talk0 v)).spoken ≤ 99 ∧ (hv_hear v.flats (hv_talk0 v)).spoken + (hv_hear v.flats (hv_talk0 v)).left ≤ 99
      rw [hs, hk.2.2.2.2.2.2.1]
      show 0 ≤ v.spoken + 1 ∧ v.spoken + 1 ≤ 99 ∧ v.spoken + 1 + (v.left - 1) ≤ 99
      refine ⟨?_, ?_, ?_⟩ <;> grind
    · show 0 ≤ (hv_hear v.flats (hv_talk0 v)).set i
      rw [hk.2.2.2.2.1]
      exact i4 i hi
  · rw [if_neg hp]; exact hi
theorem hv_down_in (v : HV) (f : Nat) : (hv_down v f).set = v.set ∧ ((hv_down v f).spoken = v.spoken ∨ (hv_down v f).spoken = 0) := by
  unfold hv_down
  split
  · split
    · unfold hv_arrive
      split
      · exact ⟨rfl, Or.inr rfl⟩
      · exact ⟨rfl, Or.inl rfl⟩
    · exact ⟨rfl, Or.inl rfl⟩
  · exact ⟨rfl, Or.inl rfl⟩
theorem in_downs (h : hv_ok v) (hi : hv_in v) : ∀ i : Nat, i ≤ v.flats → hv_in (hv_downs i v) := by
  intro i
  induction i with
  | zero => exact fun _ => hi
  | succ i ih =>
    intro hif
    have e : hv_downs (i + 1) v = hv_down (hv_downs i v) i := rfl
    rw [e]
    have h1 := (ok_downs h i (by omega)).1
    exact in_of (ih (by omega)) (hv_down_ph _ _).1 (hv_down_in _ _).2 (ok_le h1) (hv_down_in _ _).1
theorem in_end (w : HV) (h : ∀ i : Nat, i < 6 → 0 ≤ w.set i) : hv_in (hv_end w) := by
  refine ⟨?_, h⟩
  show (0 : Int32) ≤ 0 ∧ (0 : Int32) ≤ 99 ∧ (0 : Int32) + 0 ≤ 99
  decide
theorem in_waits {w : HV} (h : hv_in w) : hv_in (hv_waits w) := h
theorem in_fin (hi : hv_in v) : hv_in (hv_fin v) := by
  unfold hv_fin
  by_cases h1 : hv_over v
  · rw [if_pos h1]
    exact in_end _ hi.2
  · rw [if_neg h1]; exact hi
theorem in_next (h : hv_ok v) (hi : hv_in v) : hv_in (hv_next v) := by
  unfold hv_next
  by_cases h1 : v.ph = 0
  · rw [if_pos h1]
    cases hq : v.queue with
    | nil => exact hi
    | cons f l =>
      have hf := ok_qin h f (by rw [hq]; exact List.mem_cons_self)
      have hw := ok_wi h f hf.1 (Or.inl hf.2)
      refine ⟨?_, hi.2⟩
      show (0 : Int32) ≤ 0 ∧ (0 : Int32) ≤ 99 ∧ 0 + v.num f 4 ≤ 99
      refine ⟨by decide, by decide, ?_⟩
      grind
  · rw [if_neg h1]; exact hi
theorem in_tick (h : hv_ok2 v) (hi : hv_in v) : hv_in (hv_tick v) := by
  have h1 := ok_told h
  have h2 := (ok_downs h1 (hv_told v).flats (Nat.le_refl _)).1
  have h3 := ok_fin h2
  have h4 := in_next h3 (in_fin (in_downs h1 (in_told h hi) _ (Nat.le_refl _)))
  unfold hv_tick hv_tick0
  exact in_waits h4
theorem hv_down_sl (v : HV) (f : Nat) : ∀ x ∈ (hv_down v f).slate, x ∈ v.slate := by
  have key : ∀ x ∈ hv_rest v.slate f, x ∈ v.slate := fun x hx => (List.mem_filter.mp hx).1
  unfold hv_down
  split
  · split
    · unfold hv_arrive
      split
      · exact key
      · exact key
    · exact fun x hx => hx
  · exact fun x hx => hx
theorem hv_downs_sl (v : HV) : ∀ i : Nat, ∀ x ∈ (hv_downs i v).slate, x ∈ v.slate := by
  intro i
  induction i with
  | zero => exact fun x hx => hx
  | succ i ih => exact fun x hx => ih x (hv_down_sl (hv_downs i v) i x hx)
theorem hv_told_sl (v : HV) : (hv_told v).slate = v.slate := by
  unfold hv_told
  split
  · exact (hv_hear_k v.flats (hv_talk0 v)).2.2.2.2.2.2.2
  · rfl
theorem hv_fin_sl (v : HV) : (hv_fin v).slate = v.slate := by
  unfold hv_fin
  split
  · rfl
  · rfl
theorem hv_next_sl (v : HV) : (hv_next v).slate = v.slate := by
  unfold hv_next
  split
  · split
    · rfl
    · rfl
  · rfl
theorem hv_tick_sl (v : HV) : ∀ x ∈ (hv_tick v).slate, x ∈ v.slate := by
  intro x hx
  have hx2 : x ∈ (hv_next (hv_fin (hv_downs (hv_told v).flats (hv_told v)))).slate := hx
  rw [hv_next_sl, hv_fin_sl] at hx2
  have hx3 := hv_downs_sl (hv_told v) _ x hx2
  rw [hv_told_sl] at hx3
  exact hx3
theorem hv_ends_01 (v : HV) : hv_ends v = 0 ∨ hv_ends v = 1 := by
  unfold hv_ends
  split
  · exact Or.inr rfl
  · exact Or.inl rfl
theorem g_run : ∀ (k : Nat) (v : HV), hv_ok2 v → hv_in v → hv_ok2 (hv_run k v) ∧ hv_in (hv_run k v) ∧ (∀ x ∈ (hv_run k v).slate, x ∈ v.slate) ∧ ∃ e : Nat, e ≤ k ∧ (hv_run k v).acc 1 = v.acc 1 + nI e := by
  intro k
  induction k with
  | zero => exact fun v h1 h2 => ⟨h1, h2, fun x hx => hx, 0, Nat.le_refl _, by rw [nI_0]; show v.acc 1 = v.acc 1 + 0; grind⟩
  | succ k ih =>
    intro v h1 h2
    obtain ⟨a1, a2, a3, e, a4, a5⟩ := ih (hv_tick v) (ok2_tick h1) (in_tick h1 h2)
    refine ⟨a1, a2, fun x hx => hv_tick_sl v x (a3 x hx), ?_⟩
    show ∃ e' : Nat, e' ≤ k + 1 ∧ (hv_run k (hv_tick v)).acc 1 = v.acc 1 + nI e'
    rw [a5, hv_tick_a1]
    rcases hv_ends_01 v with q | q
    · exact ⟨e, by omega, by rw [q]; grind⟩
    · exact ⟨e + 1, by omega, by rw [q, nI_succ]; grind⟩
theorem hv_runE_nat (h1 : hv_ok2 v) (h2 : hv_in v) (k : Nat) : ∃ e : Nat, e ≤ k ∧ hv_runE k v 0 = nI e ∧ (hv_run k v).acc 1 - v.acc 1 = nI e := by
  obtain ⟨-, -, -, e, a4, a5⟩ := g_run k v h1 h2
  refine ⟨e, a4, ?_, ?_⟩
  · rw [hv_runE_a1, a5]; grind
  · rw [a5]; grind
theorem g_pass (h : hv_g B v) {k : Nat} (hk : k < 1000) : hv_g (B + 1000) ((hv_run k v).s_time (v.time + nI k)) := by
  obtain ⟨a1, a2, a3, e, a4, a5⟩ := g_run k v h.1 h.2.1
  refine ⟨ok2_time a1, a2, ?_, ?_, fun x hx => ?_⟩
  · exact hv_lt_mono (hv_lt_add h.2.2.1) (by omega)
  · show hv_lt (B + 1000) ((hv_run k v).acc 1)
    rw [a5]
    exact hv_lt_mono (hv_lt_add h.2.2.2.1) (by omega)
  · exact hv_lt_mono (h.2.2.2.2 x (a3 x hx)) (by omega)
theorem g_out (h : hv_g B v) {f : Nat} {w : Int32} (hf : f < v.flats) (h0 : v.num f 2 = 0) (hw : 1 ≤ w ∧ w ≤ 99) : hv_g B (hv_out v f w) := ⟨ok2_out h.1 hf h0 hw, h.2.1, h.2.2⟩
theorem g_give (h : hv_g B v) {f : Nat} (hf : f < v.flats) (h0 : v.num f 2 = 2 ∨ (v.num f 2 = 1 ∧ ¬ (v.ph = 1 ∧ v.who = f))) : hv_g B (hv_give v f) := ⟨ok2_give h.1 hf h0, h.2.1, h.2.2⟩
theorem g_pay (h : hv_g B v) {f : Nat} {x : Int32} : hv_g B (hv_pay v f x) := by
  refine ⟨ok2_pay h.1, h.2.1, h.2.2.1, ?_, h.2.2.2.2⟩
  show hv_lt B (up1 v.acc 5 (v.acc 5 + x) 1)
  rw [show up1 v.acc 5 (v.acc 5 + x) 1 = v.acc 1 from if_neg (by decide)]
  exact h.2.2.2.1
theorem g_end (h : hv_g B v) (hp : v.ph = 2) : hv_g (B + 1) (hv_end v) := by
  refine ⟨ok2_end h.1 hp, in_end v h.2.1.2, hv_lt_mono h.2.2.1 (by omega), ?_, fun x hx => hv_lt_mono (h.2.2.2.2 x hx) (by omega)⟩
  rw [hv_end_a1]
  exact hv_lt_add (k := 1) h.2.2.2.1
theorem g_cur (h : hv_g B v) {f : Nat} {x : Int32} : hv_g B (hv_put v f 1 x) := ⟨ok2_cur h.1, h.2.1, h.2.2⟩
theorem g_set (h : hv_g B v) {i : Nat} {x : Int32} (hx : i = 1 → 1 ≤ x ∧ x ≤ 30) (h0 : 0 ≤ x) : hv_g B (v.s_set (up1 v.set i x)) := by
  refine ⟨ok2_set h.1 hx, ⟨h.2.1.1, fun j hj => ?_⟩, h.2.2⟩
  show 0 ≤ up1 v.set i x j
  unfold up1
  split
  · exact h0
  · exact h.2.1.2 j hj
theorem g_ring (h : hv_g B v) {f : Nat} {m : Int32} (hf : f < v.flats) (hp : v.ph = 0) (hm : 1 ≤ m ∧ m ≤ 99) : hv_g B (hv_ring v f m) := by
  have h1 := ok2_ring h.1 hf hp hm
  refine ⟨h1, ?_⟩
  have hin : hv_in (hv_phone v 1 f m 1) := by
    refine ⟨?_, h.2.1.2⟩
    show (0 : Int32) ≤ 0 ∧ (0 : Int32) ≤ 99 ∧ (0 : Int32) + m ≤ 99
    refine ⟨by decide, by decide, ?_⟩
    grind
  unfold hv_ring
  by_cases q0 : hv_outc v f = 0
  · rw [if_pos q0]
    exact ⟨hin, h.2.2⟩
  · rw [if_neg q0]
    by_cases q1 : hv_outc v f = 1
    · rw [if_pos q1]
      exact ⟨hin, h.2.2⟩
    · rw [if_neg q1]
      by_cases q2 : hv_outc v f = 2
      · rw [if_pos q2]
        refine ⟨h.2.1, h.2.2.1, ?_, fun x hx => ?_⟩
        · show hv_lt B (up1 v.acc 6 (v.acc 6 + 1) 1)
          rw [show up1 v.acc 6 (v.acc 6 + 1) 1 = v.acc 1 from if_neg (by decide)]
          exact h.2.2.2.1
        · have hx : x ∈ v.slate ++ [(f, v.time)] := hx
          rcases List.mem_append.mp hx with q | q
          · exact h.2.2.2.2 x q
          · rw [List.mem_singleton.mp q]
            exact h.2.2.1
      · rw [if_neg q2]
        refine ⟨h.2.1, h.2.2.1, ?_, h.2.2.2.2⟩
        show hv_lt B (up1 v.acc 8 (v.acc 8 + 1) 1)
        rw [show up1 v.acc 8 (v.acc 8 + 1) 1 = v.acc 1 from if_neg (by decide)]
        exact h.2.2.2.1
end GOOD
