/-! ===== minutes spoken against TIME; the messages by their minutes; nobody waits while the telephone is free ===== -/
theorem hv_told_a3 (v : HV) : (hv_told v).acc 3 = v.acc 3 + if v.ph = 2 then 1 else 0 := by
  have hh : ∀ (n : Nat) (u : HV), (hv_hear n u).acc 3 = u.acc 3 := by
    intro n u
    induction n with
    | zero => rfl
    | succ n ih =>
      have e : hv_hear (n + 1) u = hv_hear1 (hv_hear n u) n := rfl
      rw [e]
      unfold hv_hear1
      split
      · show up1 (hv_hear n u).acc 9 ((hv_hear n u).acc 9 + 1) 3 = _
        rw [← ih]
        exact if_neg (by decide)
      · exact ih
  unfold hv_told
  by_cases h : v.ph = 2
  · rw [if_pos h, if_pos h]
    refine (hh v.flats (hv_talk0 v)).trans ?_
    show up1 v.acc 3 (v.acc 3 + 1) 3 = _
    exact if_pos rfl
  · rw [if_neg h, if_neg h]; grind
theorem hv_down_a3 (v : HV) (f : Nat) : (hv_down v f).acc 3 = v.acc 3 := by
  have h : ∀ (w : HV) (x : Int32), up1 w.acc 7 x 3 = w.acc 3 := fun w x => if_neg (by decide)
  unfold hv_down
  split
  · split
    · unfold hv_arrive
      split
      · exact h v (v.acc 7 + (nI v.slate.length - nI (hv_rest v.slate f).length))
      · exact h v (v.acc 7 + (nI v.slate.length - nI (hv_rest v.slate f).length))
    · rfl
  · rfl
theorem hv_downs_a3 (v : HV) : ∀ n : Nat, (hv_downs n v).acc 3 = v.acc 3 := by
  intro n
  induction n with
  | zero => rfl
  | succ n ih => exact (hv_down_a3 (hv_downs n v) n).trans ih
theorem hv_end_a3 (w : HV) : (hv_end w).acc 3 = w.acc 3 := by
  show up1 (up1 w.acc 1 (w.acc 1 + 1)) 4 (up1 w.acc 1 (w.acc 1 + 1) 4 + hv_due w) 3 = _
  simp [up1]
theorem hv_fin_a3 (v : HV) : (hv_fin v).acc 3 = v.acc 3 := by
  unfold hv_fin
  split
  · rw [hv_end_a3]
    show up1 v.acc 2 (v.acc 2 + if v.left ≤ 0 then 0 else 1) 3 = _
    exact if_neg (by decide)
  · rfl
theorem hv_next_a3 (v : HV) : (hv_next v).acc 3 = v.acc 3 := by
  unfold hv_next
  split
  · split
    · rfl
    · rfl
  · rfl
theorem hv_tick_a3 (v : HV) : (hv_tick v).acc 3 = v.acc 3 + if v.ph = 2 then 1 else 0 := by
  show (hv_next (hv_fin (hv_downs (hv_told v).flats (hv_told v)))).acc 3 = _
  rw [hv_next_a3, hv_fin_a3, hv_downs_a3, hv_told_a3]
theorem hv_run_a3 : ∀ (k : Nat) (v : HV), ∃ e : Nat, e ≤ k ∧ (hv_run k v).acc 3 = v.acc 3 + nI e := by
  intro k
  induction k with
  | zero => exact fun v => ⟨0, Nat.le_refl _, by rw [nI_0]; show v.acc 3 = v.acc 3 + 0; grind⟩
  | succ k ih =>
    intro v
    obtain ⟨e, h1, h2⟩ := ih (hv_tick v)
    show ∃ e' : Nat, e' ≤ k + 1 ∧ (hv_run k (hv_tick v)).acc 3 = v.acc 3 + nI e'
    rw [h2, hv_tick_a3]
    split
    · exact ⟨e + 1, by omega, by rw [nI_succ]; grind⟩
    · exact ⟨e, by omega, by grind⟩
theorem hv_down_sub (v : HV) (f : Nat) : (hv_down v f).slate.Sublist v.slate := by
  have key : (hv_rest v.slate f).Sublist v.slate := List.filter_sublist
  unfold hv_down
  split
  · split
    · unfold hv_arrive
      split
      · exact key
      · exact key
    · exact List.Sublist.refl _
  · exact List.Sublist.refl _
theorem hv_downs_sub (v : HV) : ∀ i : Nat, (hv_downs i v).slate.Sublist v.slate := by
  intro i
  induction i with
  | zero => exact List.Sublist.refl _
  | succ i ih => exact (hv_down_sub (hv_downs i v) i).trans ih
theorem hv_tick_sub (v : HV) : (hv_tick v).slate.Sublist v.slate := by
  show (hv_next (hv_fin (hv_downs (hv_told v).flats (hv_told v)))).slate.Sublist v.slate
  rw [hv_next_sl, hv_fin_sl]
  have h := hv_downs_sub (hv_told v) (hv_told v).flats
  rw [hv_told_sl] at h
  exact h
theorem hv_run_sub : ∀ (k : Nat) (v : HV), (hv_run k v).slate.Sublist v.slate := by
  intro k
  induction k with
  | zero => exact fun v => List.Sublist.refl _
  | succ k ih => exact fun v => (ih (hv_tick v)).trans (hv_tick_sub v)
/-- at the end of a minute nobody waits while the telephone is free -/
theorem hv_next_q (v : HV) : (hv_next v).ph = 0 → (hv_next v).queue = [] := by
  unfold hv_next
  split
  · rename_i h
    split
    · rename_i hq; exact fun _ => hq
    · intro q
      exact absurd q (by show ¬ (2 : Int32) = 0; decide)
  · rename_i h
    exact fun q => absurd q h
theorem hv_waits_pq (v : HV) : (hv_waits v).ph = v.ph ∧ (hv_waits v).queue = v.queue := ⟨rfl, rfl⟩
theorem hv_tick_q (v : HV) : (hv_tick v).ph = 0 → (hv_tick v).queue = [] := by
  unfold hv_tick hv_tick0
  generalize hv_fin (hv_downs (hv_told v).flats (hv_told v)) = u
  rw [(hv_waits_pq _).1, (hv_waits_pq _).2]
  exact hv_next_q u
theorem hv_run_q : ∀ (k : Nat) (v : HV), (hv_run (k + 1) v).ph = 0 → (hv_run (k + 1) v).queue = [] := by
  intro k
  induction k with
  | zero => exact fun v => hv_tick_q v
  | succ k ih => exact fun v => ih (hv_tick v)
/-- what holds of TIME -/
def hv_n (v : HV) : Prop := v.acc 3 ≤ v.time ∧ v.slate.Pairwise (fun a b => a.2 ≤ b.2) ∧ ∀ x ∈ v.slate, x.2 ≤ v.time
/-- all that holds between two deeds -/
def hv_k (B : Nat) (v : HV) : Prop := hv_g B v ∧ hv_m B v ∧ hv_n v
section KEEP
variable {B : Nat} {v w : HV}
theorem k_mono {C : Nat} (h : hv_k B v) (hBC : B ≤ C) : hv_k C v := ⟨g_mono h.1 hBC, m_mono h.2.1 hBC, h.2.2⟩
theorem n_pass (hB : B < 100000) (h : hv_n v) (ht : hv_lt B v.time) {k : Nat} (hk : k < 1000) : hv_n ((hv_run k v).s_time (v.time + nI k)) := by
  obtain ⟨h1, h2, h3⟩ := h
  obtain ⟨e, e1, e2⟩ := hv_run_a3 k v
  obtain ⟨t, ht1, ht2⟩ := ht
  have a1 : nI e ≤ nI k := nI_le e1 (by omega)
  have a2 : nI k ≤ nI 1000 := nI_le (by omega) (by decide)
  have a3 : nI t ≤ nI 100000 := nI_le (by omega) (by decide)
  have a4 : (0 : Int32) ≤ nI e := nI_pos' (by omega)
  have a5 : (0 : Int32) ≤ nI t := nI_pos' (by omega)
  have b1 : nI 1000 = (1000 : Int32) := by decide
  have b2 : nI 100000 = (100000 : Int32) := by decide
  rw [b1] at a2
  rw [b2] at a3
  rw [ht1] at h1 h3 ⊢
  refine ⟨?_, h2.sublist (hv_run_sub k v), fun x hx => ?_⟩
  · show (hv_run k v).acc 3 ≤ nI t + nI k
    rw [e2]
    grind
  · have := h3 x ((hv_run_sub k v).subset hx)
    show x.2 ≤ nI t + nI k
    grind
theorem n_write (h : hv_n v) {f : Nat} : hv_n (hv_write v f) := by
  obtain ⟨h1, h2, h3⟩ := h
  refine ⟨?_, ?_, ?_⟩
  · show up1 v.acc 6 (v.acc 6 + 1) 3 ≤ v.time
    rw [show up1 v.acc 6 (v.acc 6 + 1) 3 = v.acc 3 from if_neg (by decide)]
    exact h1
  · show (v.slate ++ [(f, v.time)]).Pairwise (fun a b => a.2 ≤ b.2)
    refine List.pairwise_append.mpr ⟨h2, List.pairwise_singleton _ _, fun a ha b hb => ?_⟩
    rw [List.mem_singleton.mp hb]
    exact h3 a ha
  · show ∀ x ∈ v.slate ++ [(f, v.time)], x.2 ≤ v.time
    intro x hx
    rcases List.mem_append.mp hx with q | q
    · exact h3 x q
    · rw [List.mem_singleton.mp q]
      show v.time ≤ v.time
      grind
theorem n_of (h : hv_n v) (e1 : w.acc 3 = v.acc 3) (e2 : w.time = v.time) (e3 : w.slate = v.slate) : hv_n w := by
  unfold hv_n
  rw [e1, e2, e3]
  exact h
theorem n_ring (h : hv_n v) {f : Nat} {x : Int32} : hv_n (hv_ring v f x) := by
  unfold hv_ring
  split
  · exact h
  · split
    · exact h
    · split
      · exact n_write h
      · exact n_of h (show up1 v.acc 8 (v.acc 8 + 1) 3 = v.acc 3 from if_neg (by decide)) rfl rfl
theorem k_out (h : hv_k B v) {f : Nat} {x : Int32} (hf : f < v.flats) (h0 : v.num f 2 = 0) (hw : 1 ≤ x ∧ x ≤ 99) : hv_k B (hv_out v f x) := ⟨g_out h.1 hf h0 hw, m_out h.1.1.1 h.2.1 hf h0, h.2.2⟩
theorem k_give (h : hv_k B v) {f : Nat} (hf : f < v.flats) (h0 : v.num f 2 = 2 ∨ (v.num f 2 = 1 ∧ ¬ (v.ph = 1 ∧ v.who = f))) : hv_k B (hv_give v f) := ⟨g_give h.1 hf h0, m_give h.2.1, h.2.2⟩
theorem k_pay (hB : 10000 * B < 2 ^ 31) (h : hv_k B v) {f : Nat} {x : Int32} (hf : f < v.flats) (h0 : 0 ≤ x) (h1 : x ≤ v.num f 6) : hv_k B (hv_pay v f x) := ⟨g_pay h.1, m_pay hB h.2.1 hf h0 h1, n_of h.2.2 (show up1 v.acc 5 (v.acc 5 + x) 3 = v.acc 3 from if_neg (by decide)) rfl rfl⟩
theorem k_end (hB : 10000 * (B + 1) < 2 ^ 31) (h : hv_k B v) (hp : v.ph = 2) : hv_k (B + 1) (hv_end v) := ⟨g_end h.1 hp, m_end hB h.1.1.1 h.1.2.1 h.2.1 hp, n_of h.2.2 (hv_end_a3 v) rfl rfl⟩
theorem k_cur (h : hv_k B v) {f : Nat} {x : Int32} : hv_k B (hv_put v f 1 x) := ⟨g_cur h.1, m_cur h.2.1, h.2.2⟩
theorem k_set (h : hv_k B v) {i : Nat} {x : Int32} (hx : i = 1 → 1 ≤ x ∧ x ≤ 30) (h2 : i = 2 → 0 ≤ x ∧ x ≤ 99) (h0 : 0 ≤ x) : hv_k B (v.s_set (up1 v.set i x)) := ⟨g_set h.1 hx h0, m_set h.2.1 h2, h.2.2⟩
theorem k_ring (h : hv_k B v) {f : Nat} {x : Int32} (hf : f < v.flats) (hp : v.ph = 0) (hm : 1 ≤ x ∧ x ≤ 99) : hv_k B (hv_ring v f x) := ⟨g_ring h.1 hf hp hm, m_ring h.1.1.1 h.2.1 hf hp, n_ring h.2.2⟩
theorem k_pass (hB : B < 100000) (h : hv_k B v) {k : Nat} (hk : k < 1000) : hv_k (B + 2000) ((hv_run k v).s_time (v.time + nI k)) := ⟨g_mono (g_pass h.1 hk) (by omega), m_mono (m_run k B v (by omega) h.1.1 h.1.2.1 h.2.1) (by omega), n_pass hB h.2.2 h.1.2.2.1 hk⟩
end KEEP
