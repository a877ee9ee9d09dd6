/-! ===== the sums in a minute, and in many ===== -/
section TICK
variable {B : Nat} {v u : HV}
theorem hear_m (hu : u.num u.who 2 ≠ 0) (hw : u.who < u.flats) (b9 : hv_dsum u.heard u.flats = u.acc 9) (b4 : ∀ f : Nat, f < u.flats → u.heard f f = 0) (b5 : ∀ f k : Nat, f < u.flats → k < u.flats → u.heard f k ≤ u.num k 7) (b6 : ∀ f : Nat, f < u.flats → u.heard f u.who + 1 ≤ u.num u.who 7) : ∀ n : Nat, n ≤ u.flats → (∀ i : Nat, i ≠ 9 → (hv_hear n u).acc i = u.acc i) ∧ hv_dsum (hv_hear n u).heard u.flats = (hv_hear n u).acc 9 ∧ (∀ f k : Nat, n ≤ f → (hv_hear n u).heard f k = u.heard f k) ∧ (∀ f : Nat, f < u.flats → (hv_hear n u).heard f f = 0) ∧ ∀ f k : Nat, f < u.flats → k < u.flats → (hv_hear n u).heard f k ≤ u.num k 7 := by
  intro n
  induction n with
  | zero => exact fun _ => ⟨fun _ _ => rfl, b9, fun _ _ _ => rfl, b4, b5⟩
  | succ n ih =>
    intro hn
    obtain ⟨c1, c2, c3, c4, c5⟩ := ih (by omega)
    obtain ⟨k1, k2, k3, k4, k5, -⟩ := hv_hear_k n u
    have e : hv_hear (n + 1) u = hv_hear1 (hv_hear n u) n := rfl
    rw [e]
    unfold hv_hear1
    split
    · rename_i q
      have hne : n ≠ u.who := fun z => by
        have := q.1
        rw [k2, z] at this
        exact hu this
      rw [k3]
      have hx : (hv_hear n u).heard n u.who = u.heard n u.who := c3 n _ (Nat.le_refl _)
      refine ⟨fun i hi => ?_, ?_, fun f k hf => ?_, fun f hf => ?_, fun f k hf hk => ?_⟩
      · show up1 (hv_hear n u).acc 9 _ i = _
        rw [show up1 (hv_hear n u).acc 9 ((hv_hear n u).acc 9 + 1) i = (hv_hear n u).acc i from if_neg hi]
        exact c1 i hi
      · show hv_dsum (up2 (hv_hear n u).heard n u.who ((hv_hear n u).heard n u.who + 1)) u.flats = up1 (hv_hear n u).acc 9 ((hv_hear n u).acc 9 + 1) 9
        rw [hv_dsum_up (by omega) hw, c2, show up1 (hv_hear n u).acc 9 ((hv_hear n u).acc 9 + 1) 9 = (hv_hear n u).acc 9 + 1 from if_pos rfl]
        grind
      · show up2 (hv_hear n u).heard n u.who ((hv_hear n u).heard n u.who + 1) f k = _
        rw [show up2 (hv_hear n u).heard n u.who ((hv_hear n u).heard n u.who + 1) f k = (hv_hear n u).heard f k from if_neg (by omega)]
        exact c3 f k (by omega)
      · show up2 (hv_hear n u).heard n u.who ((hv_hear n u).heard n u.who + 1) f f = 0
        rw [show up2 (hv_hear n u).heard n u.who ((hv_hear n u).heard n u.who + 1) f f = (hv_hear n u).heard f f from if_neg (by omega)]
        exact c4 f hf
      · show up2 (hv_hear n u).heard n u.who ((hv_hear n u).heard n u.who + 1) f k ≤ _
        by_cases z : f = n ∧ k = u.who
        · rw [show up2 (hv_hear n u).heard n u.who ((hv_hear n u).heard n u.who + 1) f k = (hv_hear n u).heard n u.who + 1 from if_pos z, hx, z.2]
          exact b6 n (by omega)
        · rw [show up2 (hv_hear n u).heard n u.who ((hv_hear n u).heard n u.who + 1) f k = (hv_hear n u).heard f k from if_neg z]
          exact c5 f k hf hk
    · exact ⟨c1, c2, fun f k hf => c3 f k (by omega), c4, c5⟩
theorem m_told (hB : B + 1 < 2 ^ 31) (h : hv_ok v) (m : hv_m B v) : hv_m (B + 1) (hv_told v) := by
  unfold hv_told
  by_cases hp : v.ph = 2
  · rw [if_pos hp]
    obtain ⟨a1, a2, a3, a4, a5, a6, a7, a8, a9, a10, a11, a12, a13⟩ := m
    have hw : v.who < v.flats := ok_wh h (by rw [hp]; decide)
    have e : ∀ k j : Nat, j ≠ 7 → (hv_talk0 v).num k j = v.num k j := fun k j hj => by simp [HV.flats, HV.time, HV.ended, HV.set, HV.acc, HV.num, HV.heard, HV.ph, HV.who, HV.spoken, HV.left, HV.out, HV.queue, HV.slate, HV.s_flats, HV.s_time, HV.s_ended, HV.s_set, HV.s_acc, HV.s_num, HV.s_heard, HV.s_ph, HV.s_who, HV.s_spoken, HV.s_left, HV.s_out, HV.s_queue, HV.s_slate, hv_talk0, hv_acc, hv_put, up2, hj]
    have e7 : (hv_talk0 v).num v.who 7 = v.num v.who 7 + 1 := by simp [HV.flats, HV.time, HV.ended, HV.set, HV.acc, HV.num, HV.heard, HV.ph, HV.who, HV.spoken, HV.left, HV.out, HV.queue, HV.slate, HV.s_flats, HV.s_time, HV.s_ended, HV.s_set, HV.s_acc, HV.s_num, HV.s_heard, HV.s_ph, HV.s_who, HV.s_spoken, HV.s_left, HV.s_out, HV.s_queue, HV.s_slate, hv_talk0, hv_acc, hv_put, up2]
    have e7n : ∀ k : Nat, k ≠ v.who → (hv_talk0 v).num k 7 = v.num k 7 := fun k hk => by simp [HV.flats, HV.time, HV.ended, HV.set, HV.acc, HV.num, HV.heard, HV.ph, HV.who, HV.spoken, HV.left, HV.out, HV.queue, HV.slate, HV.s_flats, HV.s_time, HV.s_ended, HV.s_set, HV.s_acc, HV.s_num, HV.s_heard, HV.s_ph, HV.s_who, HV.s_spoken, HV.s_left, HV.s_out, HV.s_queue, HV.s_slate, hv_talk0, hv_acc, hv_put, up2, hk]
    have ea : ∀ i : Nat, i ≠ 3 → (hv_talk0 v).acc i = v.acc i := fun i hi => by simp [HV.flats, HV.time, HV.ended, HV.set, HV.acc, HV.num, HV.heard, HV.ph, HV.who, HV.spoken, HV.left, HV.out, HV.queue, HV.slate, HV.s_flats, HV.s_time, HV.s_ended, HV.s_set, HV.s_acc, HV.s_num, HV.s_heard, HV.s_ph, HV.s_who, HV.s_spoken, HV.s_left, HV.s_out, HV.s_queue, HV.s_slate, hv_talk0, hv_acc, hv_put, up1, hi]
    have ea3 : (hv_talk0 v).acc 3 = v.acc 3 + 1 := by simp [HV.flats, HV.time, HV.ended, HV.set, HV.acc, HV.num, HV.heard, HV.ph, HV.who, HV.spoken, HV.left, HV.out, HV.queue, HV.slate, HV.s_flats, HV.s_time, HV.s_ended, HV.s_set, HV.s_acc, HV.s_num, HV.s_heard, HV.s_ph, HV.s_who, HV.s_spoken, HV.s_left, HV.s_out, HV.s_queue, HV.s_slate, hv_talk0, hv_acc, hv_put, up1]
    obtain ⟨c1, c2, -, c4, c5⟩ := hear_m (u := hv_talk0 v) (by rw [e _ _ (by decide)]; show v.num v.who 2 ≠ 0; rw [ok_sp h hp]; decide) hw (by rw [ea _ (by decide)]; exact a9) a4 (fun f k hf hk => by
        show v.heard f k ≤ _
        by_cases q : k = v.who
        · rw [q, e7]; exact hv_le_2 hB (a6 _ hw) (a5 f _ hf hw)
        · rw [e7n k q]; exact a5 f k hf hk) (fun f hf => by
        show v.heard f v.who + 1 ≤ (hv_talk0 v).num v.who 7
        rw [e7]; exact hv_le_1 hB (a6 _ hw) (a5 f _ hf hw)) v.flats (Nat.le_refl _)
    obtain ⟨k1, k2, k3, k4, k5, k6, k7, k8⟩ := hv_hear_k v.flats (hv_talk0 v)
    unfold hv_talk
    have hfl : (hv_hear v.flats (hv_talk0 v)).flats = v.flats := k1
    have hs : ∀ j : Nat, j ≠ 7 → hv_sum (fun f => (hv_hear v.flats (hv_talk0 v)).num f j) v.flats = hv_sum (fun f => v.num f j) v.flats := fun j hj => by rw [k2]; exact hv_sum_cg (fun i _ => e _ _ hj)
    refine ⟨?_, ?_, ?_, ?_, ?_, ?_, ?_, ?_, ?_, ?_, ?_, ?_, ?_⟩
    · rw [hfl, k2]
      intro f hf hne
      rw [e _ _ (by decide)] at hne ⊢
      exact a1 f hf hne
    · rw [k4]
      intro q
      exact absurd ((show (hv_talk0 v).ph = v.ph from rfl).symm.trans q) (by rw [hp]; decide)
    · rw [hfl, k2]
      intro f hf
      rw [e _ _ (by decide)]
      exact hv_lt_mono (a3 f hf) (by omega)
    · rw [hfl]; exact c4
    · rw [hfl, k2]; exact c5
    · rw [hfl, k2]
      intro f hf
      by_cases q : f = v.who
      · rw [q, e7]; exact hv_lt_1 (a6 _ hw) (Nat.le_refl _)
      · rw [e7n f q]; exact hv_lt_mono (a6 f hf) (by omega)
    · rw [hfl, k2, c1 3 (by decide), ea3]
      have es : hv_sum (fun f => (hv_talk0 v).num f 7) v.flats = hv_sum (fun f => v.num f 7) v.flats + ((v.num v.who 7 + 1) - v.num v.who 7) := hv_sum_up (n := v.num) hw
      rw [es, a7]
      grind
    · rw [hfl, hs _ (by decide), c1 1 (by decide), ea _ (by decide)]; exact a8
    · rw [hfl]; exact c2
    · rw [hfl, hs _ (by decide), k8, c1 4 (by decide), c1 5 (by decide), c1 6 (by decide), c1 7 (by decide), ea 4 (by decide), ea 5 (by decide), ea 6 (by decide), ea 7 (by decide)]; exact a10
    · rw [c1 1 (by decide), c1 2 (by decide), ea 1 (by decide), ea 2 (by decide)]; exact a11
    · rw [k5]; exact a12
    · rw [c1 1 (by decide), ea 1 (by decide)]; exact hv_lt_mono a13 (by omega)
  · rw [if_neg hp]
    exact m_mono m (by omega)
theorem m_tick (hB : 10000 * (B + 2) < 2 ^ 31) (h : hv_ok2 v) (hi : hv_in v) (m : hv_m B v) : hv_m (B + 2) (hv_tick v) := by
  have o1 := ok_told h
  have i1 := in_told h hi
  have m1 := m_told (by omega) h.1 m
  obtain ⟨o2, hfl⟩ := ok_downs o1 (hv_told v).flats (Nat.le_refl _)
  have m2 := m_downs o1 m1 (hv_told v).flats (Nat.le_refl _)
  have i2 := in_downs o1 i1 (hv_told v).flats (Nat.le_refl _)
  have m3 := m_fin (by omega) o2 i2 m2
  exact m_waits (m_next (ok_fin o2) m3)
theorem m_run : ∀ (k B : Nat) (v : HV), 10000 * (B + 2 * k) < 2 ^ 31 → hv_ok2 v → hv_in v → hv_m B v → hv_m (B + 2 * k) (hv_run k v) := by
  intro k
  induction k with
  | zero => exact fun B v _ _ _ m => m
  | succ k ih =>
    intro B v hB h hi m
    have m1 := m_tick (by omega) h hi m
    have m2 := ih (B + 2) (hv_tick v) (by omega) (ok2_tick h) (in_tick h hi) m1
    rw [show B + 2 * (k + 1) = B + 2 + 2 * k by omega]
    exact m2
theorem m_ring (h : hv_ok v) (m : hv_m B v) {f : Nat} {x : Int32} (hf : f < v.flats) (hp : v.ph = 0) : hv_m B (hv_ring v f x) := by
  unfold hv_ring
  by_cases h0 : hv_outc v f = 0
  · rw [if_pos h0]
    have h2 : v.num f 2 = 0 := by
      unfold hv_outc at h0
      split at h0
      · rename_i q; exact q.1
      · split at h0
        · exact absurd h0 (by decide)
        · split at h0 <;> exact absurd h0 (by decide)
    have m1 := m_out h m (x := 0) hf h2
    refine m_same m1 rfl m1.1 (fun _ => ?_) (fun _ => rfl) (fun _ => rfl) (fun _ => rfl) rfl rfl rfl rfl
    show (hv_out v f 0).num f 4 = 0
    simp [HV.flats, HV.time, HV.ended, HV.set, HV.acc, HV.num, HV.heard, HV.ph, HV.who, HV.spoken, HV.left, HV.out, HV.queue, HV.slate, HV.s_flats, HV.s_time, HV.s_ended, HV.s_set, HV.s_acc, HV.s_num, HV.s_heard, HV.s_ph, HV.s_who, HV.s_spoken, HV.s_left, HV.s_out, HV.s_queue, HV.s_slate, hv_out, hv_put, up2]
  · rw [if_neg h0]
    by_cases h1 : hv_outc v f = 1
    · rw [if_pos h1]
      have h2 : v.num f 2 = 2 := by
        unfold hv_outc at h1
        split at h1
        · exact absurd h1 (by decide)
        · split at h1
          · assumption
          · split at h1 <;> exact absurd h1 (by decide)
      exact m_speak (w := hv_leave v f) m (m.1 f hf (by rw [h2]; decide))
    · rw [if_neg h1]
      obtain ⟨a1, a2, a3, a4, a5, a6, a7, a8, a9, a10, a11, a12, a13⟩ := m
      by_cases h2 : hv_outc v f = 2
      · rw [if_pos h2]
        have ea : ∀ i : Nat, i ≠ 6 → (hv_write v f).acc i = v.acc i := fun i hi => by simp [HV.flats, HV.time, HV.ended, HV.set, HV.acc, HV.num, HV.heard, HV.ph, HV.who, HV.spoken, HV.left, HV.out, HV.queue, HV.slate, HV.s_flats, HV.s_time, HV.s_ended, HV.s_set, HV.s_acc, HV.s_num, HV.s_heard, HV.s_ph, HV.s_who, HV.s_spoken, HV.s_left, HV.s_out, HV.s_queue, HV.s_slate, hv_write, hv_acc, up1, hi]
        have e6 : (hv_write v f).acc 6 = v.acc 6 + 1 := by simp [HV.flats, HV.time, HV.ended, HV.set, HV.acc, HV.num, HV.heard, HV.ph, HV.who, HV.spoken, HV.left, HV.out, HV.queue, HV.slate, HV.s_flats, HV.s_time, HV.s_ended, HV.s_set, HV.s_acc, HV.s_num, HV.s_heard, HV.s_ph, HV.s_who, HV.s_spoken, HV.s_left, HV.s_out, HV.s_queue, HV.s_slate, hv_write, hv_acc, up1]
        have el : nI (hv_write v f).slate.length = nI v.slate.length + 1 := by
          have : (hv_write v f).slate.length = v.slate.length + 1 := by simp [HV.flats, HV.time, HV.ended, HV.set, HV.acc, HV.num, HV.heard, HV.ph, HV.who, HV.spoken, HV.left, HV.out, HV.queue, HV.slate, HV.s_flats, HV.s_time, HV.s_ended, HV.s_set, HV.s_acc, HV.s_num, HV.s_heard, HV.s_ph, HV.s_who, HV.s_spoken, HV.s_left, HV.s_out, HV.s_queue, HV.s_slate, hv_write, hv_acc]
          rw [this, nI_succ]
        refine ⟨a1, a2, a3, a4, a5, a6, ?_, ?_, ?_, ?_, ?_, a12, ?_⟩
        · rw [ea _ (by decide)]; exact a7
        · rw [ea _ (by decide)]; exact a8
        · rw [ea _ (by decide)]; exact a9
        · show (hv_write v f).acc 4 - (hv_write v f).acc 5 - hv_sum (fun i => v.num i 6) v.flats + (hv_write v f).acc 6 - (hv_write v f).acc 7 - nI (hv_write v f).slate.length = 0
          rw [el, e6, ea 4 (by decide), ea 5 (by decide), ea 7 (by decide)]
          grind
        · rw [ea _ (by decide), ea _ (by decide)]; exact a11
        · rw [ea _ (by decide)]; exact a13
      · rw [if_neg h2]
        have ea : ∀ i : Nat, i ≠ 8 → (hv_acc v 8 1).acc i = v.acc i := fun i hi => by simp [HV.flats, HV.time, HV.ended, HV.set, HV.acc, HV.num, HV.heard, HV.ph, HV.who, HV.spoken, HV.left, HV.out, HV.queue, HV.slate, HV.s_flats, HV.s_time, HV.s_ended, HV.s_set, HV.s_acc, HV.s_num, HV.s_heard, HV.s_ph, HV.s_who, HV.s_spoken, HV.s_left, HV.s_out, HV.s_queue, HV.s_slate, hv_acc, up1, hi]
        refine ⟨a1, a2, a3, a4, a5, a6, ?_, ?_, ?_, ?_, ?_, a12, ?_⟩
        · rw [ea _ (by decide)]; exact a7
        · rw [ea _ (by decide)]; exact a8
        · rw [ea _ (by decide)]; exact a9
        · show (hv_acc v 8 1).acc 4 - (hv_acc v 8 1).acc 5 - hv_sum (fun i => v.num i 6) v.flats + (hv_acc v 8 1).acc 6 - (hv_acc v 8 1).acc 7 - nI v.slate.length = 0
          rw [ea 4 (by decide), ea 5 (by decide), ea 6 (by decide), ea 7 (by decide)]; exact a10
        · rw [ea _ (by decide), ea _ (by decide)]; exact a11
        · rw [ea _ (by decide)]; exact a13
end TICK
