/-! ===== the sums under every deed ===== -/
theorem cost_tab : ∀ s : Nat, s < 100 → ∀ u : Nat, u < 31 → 0 < u → (nI s + nI u - 1) / nI u = nI ((s + u - 1) / u) ∧ (s + u - 1) / u ≤ 99 := by decide +kernel
section DEEDS
variable {B : Nat} {v w : HV}
theorem nI_up {x : Int32} {n : Nat} (hn : n < 2 ^ 31) (h0 : 0 ≤ x) (h1 : x ≤ nI n) : ∃ j : Nat, j ≤ n ∧ x = nI j := by
  obtain ⟨j, hj, rfl⟩ := nI_of (x := x) (by grind)
  exact ⟨j, (nI_leI hj hn).mp h1, rfl⟩
theorem hv_cost_lt (hu : 1 ≤ v.set 1 ∧ v.set 1 ≤ 30) (hr : 0 ≤ v.set 2 ∧ v.set 2 ≤ 99) {m : Int32} (hm : 0 ≤ m ∧ m ≤ 99) : hv_lt 9801 (hv_cost v m) := by
  obtain ⟨u, hu1, hu2⟩ := nI_up (n := 30) (by decide) (by grind) hu.2
  obtain ⟨r, hr1, hr2⟩ := nI_up (n := 99) (by decide) hr.1 hr.2
  obtain ⟨s, hs1, rfl⟩ := nI_up (n := 99) (by decide) hm.1 hm.2
  have hu0 : 0 < u := by
    have h1 := hu.1
    rw [hu2] at h1
    have := (nI_leI (a := 1) (by decide) (by omega)).mp h1
    omega
  obtain ⟨e1, e2⟩ := cost_tab s (by omega) u (by omega) hu0
  unfold hv_cost
  rw [hu2, hr2, e1, nI_mul]
  refine ⟨_, rfl, ?_⟩
  calc r * ((s + u - 1) / u) ≤ 99 * 99 := Nat.mul_le_mul hr1 e2
    _ = 9801 := by decide
theorem hv_due_lt (h : hv_ok v) (hi : hv_in v) (hr : 0 ≤ v.set 2 ∧ v.set 2 ≤ 99) : hv_lt 9801 (hv_due v) := by
  unfold hv_due
  split
  · exact hv_cost_lt (ok_un h) hr ⟨hi.1.1, hi.1.2.1⟩
  · exact hv_lt_0
theorem hv_cost_0 (hu : 1 ≤ v.set 1 ∧ v.set 1 ≤ 30) : hv_cost v 0 = 0 := by
  obtain ⟨u, hu1, hu2⟩ := nI_up (n := 30) (by decide) (by grind) hu.2
  have hu0 : 0 < u := by
    have h1 := hu.1
    rw [hu2] at h1
    have := (nI_leI (a := 1) (by decide) (by omega)).mp h1
    omega
  obtain ⟨e1, e2⟩ := cost_tab 0 (by omega) u (by omega) hu0
  have e3 : (0 + u - 1) / u = 0 := Nat.div_eq_of_lt (by omega)
  unfold hv_cost
  rw [hu2, show (0 : Int32) = nI 0 from nI_0.symm, e1, e3, nI_0]
  grind
theorem m_endG (hB : 10000 * (B + 1) < 2 ^ 31) (h : hv_ok v) (hi : hv_in v) (m : hv_m B v) (hp : v.ph = 2) {a : Nat → Int32} (ha : ∀ i : Nat, i ≠ 2 → a i = v.acc i) (h2 : a 2 ≤ v.acc 1 + 1) : hv_m (B + 1) (hv_end (v.s_acc a)) := by
  obtain ⟨a1, a2, a3, a4, a5, a6, a7, a8, a9, a10, a11, a12, a13⟩ := m
  have hw : v.who < v.flats := ok_wh h (by rw [hp]; decide)
  have hd := hv_due_lt h hi a12
  have e : ∀ k j : Nat, j ≠ 2 → j ≠ 6 → j ≠ 8 → (hv_end (v.s_acc a)).num k j = v.num k j := fun k j h1 h2 h3 => by simp [HV.flats, HV.time, HV.ended, HV.set, HV.acc, HV.num, HV.heard, HV.ph, HV.who, HV.spoken, HV.left, HV.out, HV.queue, HV.slate, HV.s_flats, HV.s_time, HV.s_ended, HV.s_set, HV.s_acc, HV.s_num, HV.s_heard, HV.s_ph, HV.s_who, HV.s_spoken, HV.s_left, HV.s_out, HV.s_queue, HV.s_slate, hv_end, hv_free, hv_acc, hv_put, up2, h1, h2, h3]
  have ea : ∀ i : Nat, i ≠ 1 → i ≠ 4 → (hv_end (v.s_acc a)).acc i = a i := fun i h1 h4 => by simp [HV.flats, HV.time, HV.ended, HV.set, HV.acc, HV.num, HV.heard, HV.ph, HV.who, HV.spoken, HV.left, HV.out, HV.queue, HV.slate, HV.s_flats, HV.s_time, HV.s_ended, HV.s_set, HV.s_acc, HV.s_num, HV.s_heard, HV.s_ph, HV.s_who, HV.s_spoken, HV.s_left, HV.s_out, HV.s_queue, HV.s_slate, hv_end, hv_free, hv_acc, hv_put, up1, h1, h4]
  have ea1 : (hv_end (v.s_acc a)).acc 1 = v.acc 1 + 1 := by
    have : (hv_end (v.s_acc a)).acc 1 = a 1 + 1 := by simp [HV.flats, HV.time, HV.ended, HV.set, HV.acc, HV.num, HV.heard, HV.ph, HV.who, HV.spoken, HV.left, HV.out, HV.queue, HV.slate, HV.s_flats, HV.s_time, HV.s_ended, HV.s_set, HV.s_acc, HV.s_num, HV.s_heard, HV.s_ph, HV.s_who, HV.s_spoken, HV.s_left, HV.s_out, HV.s_queue, HV.s_slate, hv_end, hv_free, hv_acc, hv_put, up1]
    rw [this, ha 1 (by decide)]
  have ea4 : (hv_end (v.s_acc a)).acc 4 = v.acc 4 + hv_due v := by
    have : (hv_end (v.s_acc a)).acc 4 = a 4 + hv_due (v.s_acc a) := by simp [HV.flats, HV.time, HV.ended, HV.set, HV.acc, HV.num, HV.heard, HV.ph, HV.who, HV.spoken, HV.left, HV.out, HV.queue, HV.slate, HV.s_flats, HV.s_time, HV.s_ended, HV.s_set, HV.s_acc, HV.s_num, HV.s_heard, HV.s_ph, HV.s_who, HV.s_spoken, HV.s_left, HV.s_out, HV.s_queue, HV.s_slate, hv_end, hv_free, hv_acc, hv_put, up1]
    rw [this, ha 4 (by decide)]
    rfl
  refine ⟨fun k hk hne => ?_, fun q => absurd q (by show ¬ (0 : Int32) = 1; decide), fun k hk => ?_, a4, fun k j hk hj => ?_, fun k hk => ?_, ?_, ?_, ?_, ?_, ?_, a12, ?_⟩
  · rw [e _ _ (by decide) (by decide) (by decide)]
    by_cases q : k = v.who
    · subst q
      exact a1 _ hw (by rw [ok_sp h hp]; decide)
    · have e2 : (hv_end (v.s_acc a)).num k 2 = v.num k 2 := by simp [HV.flats, HV.time, HV.ended, HV.set, HV.acc, HV.num, HV.heard, HV.ph, HV.who, HV.spoken, HV.left, HV.out, HV.queue, HV.slate, HV.s_flats, HV.s_time, HV.s_ended, HV.s_set, HV.s_acc, HV.s_num, HV.s_heard, HV.s_ph, HV.s_who, HV.s_spoken, HV.s_left, HV.s_out, HV.s_queue, HV.s_slate, hv_end, hv_free, hv_acc, hv_put, up2, q]
      rw [e2] at hne
      exact a1 k hk hne
  · by_cases q : k = v.who
    · subst q
      have e2 : (hv_end (v.s_acc a)).num v.who 6 = v.num v.who 6 + hv_due v := by
        have : (hv_end (v.s_acc a)).num v.who 6 = v.num v.who 6 + hv_due (v.s_acc a) := by simp [HV.flats, HV.time, HV.ended, HV.set, HV.acc, HV.num, HV.heard, HV.ph, HV.who, HV.spoken, HV.left, HV.out, HV.queue, HV.slate, HV.s_flats, HV.s_time, HV.s_ended, HV.s_set, HV.s_acc, HV.s_num, HV.s_heard, HV.s_ph, HV.s_who, HV.s_spoken, HV.s_left, HV.s_out, HV.s_queue, HV.s_slate, hv_end, hv_free, hv_acc, hv_put, up2]
        rw [this]; rfl
      rw [e2]
      exact hv_lt_pl (a3 _ hw) hd (by omega)
    · have e2 : (hv_end (v.s_acc a)).num k 6 = v.num k 6 := by simp [HV.flats, HV.time, HV.ended, HV.set, HV.acc, HV.num, HV.heard, HV.ph, HV.who, HV.spoken, HV.left, HV.out, HV.queue, HV.slate, HV.s_flats, HV.s_time, HV.s_ended, HV.s_set, HV.s_acc, HV.s_num, HV.s_heard, HV.s_ph, HV.s_who, HV.s_spoken, HV.s_left, HV.s_out, HV.s_queue, HV.s_slate, hv_end, hv_free, hv_acc, hv_put, up2, q]
      rw [e2]
      exact hv_lt_mono (a3 k hk) (by omega)
  · rw [e _ _ (by decide) (by decide) (by decide)]; exact a5 k j hk hj
  · rw [e _ _ (by decide) (by decide) (by decide)]; exact hv_lt_mono (a6 k hk) (by omega)
  · rw [ea _ (by decide) (by decide), ha _ (by decide), ← a7]; exact hv_sum_cg (fun i _ => e _ _ (by decide) (by decide) (by decide))
  · have es : hv_sum (fun i => (hv_end (v.s_acc a)).num i 8) v.flats = hv_sum (fun i => v.num i 8) v.flats + ((v.num v.who 8 + 1) - v.num v.who 8) := by
      rw [← hv_sum_up (n := v.num) (k := 8) (x := v.num v.who 8 + 1) hw]
      refine hv_sum_cg (fun i _ => ?_)
      by_cases q : i = v.who <;> simp [HV.flats, HV.time, HV.ended, HV.set, HV.acc, HV.num, HV.heard, HV.ph, HV.who, HV.spoken, HV.left, HV.out, HV.queue, HV.slate, HV.s_flats, HV.s_time, HV.s_ended, HV.s_set, HV.s_acc, HV.s_num, HV.s_heard, HV.s_ph, HV.s_who, HV.s_spoken, HV.s_left, HV.s_out, HV.s_queue, HV.s_slate, hv_end, hv_free, hv_acc, hv_put, up2, q]
    show hv_sum (fun i => (hv_end (v.s_acc a)).num i 8) v.flats = _
    rw [es, ea1, a8]
    grind
  · rw [ea _ (by decide) (by decide), ha _ (by decide)]; exact a9
  · have es : hv_sum (fun i => (hv_end (v.s_acc a)).num i 6) v.flats = hv_sum (fun i => v.num i 6) v.flats + ((v.num v.who 6 + hv_due v) - v.num v.who 6) := by
      rw [← hv_sum_up (n := v.num) (k := 6) (x := v.num v.who 6 + hv_due v) hw]
      refine hv_sum_cg (fun i _ => ?_)
      have hdd : hv_due (v.s_acc a) = hv_due v := rfl
      by_cases q : i = v.who <;> simp [HV.flats, HV.time, HV.ended, HV.set, HV.acc, HV.num, HV.heard, HV.ph, HV.who, HV.spoken, HV.left, HV.out, HV.queue, HV.slate, HV.s_flats, HV.s_time, HV.s_ended, HV.s_set, HV.s_acc, HV.s_num, HV.s_heard, HV.s_ph, HV.s_who, HV.s_spoken, HV.s_left, HV.s_out, HV.s_queue, HV.s_slate, hv_end, hv_free, hv_acc, hv_put, up2, q, hdd]
    show (hv_end (v.s_acc a)).acc 4 - (hv_end (v.s_acc a)).acc 5 - hv_sum (fun i => (hv_end (v.s_acc a)).num i 6) v.flats + (hv_end (v.s_acc a)).acc 6 - (hv_end (v.s_acc a)).acc 7 - nI v.slate.length = 0
    rw [es, ea4, ea 5 (by decide) (by decide), ea 6 (by decide) (by decide), ea 7 (by decide) (by decide), ha 5 (by decide), ha 6 (by decide), ha 7 (by decide)]
    grind
  · rw [ea _ (by decide) (by decide), ea1]; exact h2
  · rw [ea1]; exact hv_lt_1 a13 (Nat.le_refl _)
theorem m_end (hB : 10000 * (B + 1) < 2 ^ 31) (h : hv_ok v) (hi : hv_in v) (m : hv_m B v) (hp : v.ph = 2) : hv_m (B + 1) (hv_end v) :=
  m_endG hB h hi m hp (a := v.acc) (fun _ _ => rfl) (hv_le_2 (by omega) m.2.2.2.2.2.2.2.2.2.2.2.2 m.2.2.2.2.2.2.2.2.2.2.1)
theorem m_speak (m : hv_m B w) {f : Nat} {x u : Int32} (h3 : w.num f 3 = 0) : hv_m B (hv_speak w f x u) := by
  refine m_same m rfl (fun k hk hne => ?_) (fun hp => absurd hp (by show ¬ (2 : Int32) = 1; decide)) (fun k => by simp [HV.flats, HV.time, HV.ended, HV.set, HV.acc, HV.num, HV.heard, HV.ph, HV.who, HV.spoken, HV.left, HV.out, HV.queue, HV.slate, HV.s_flats, HV.s_time, HV.s_ended, HV.s_set, HV.s_acc, HV.s_num, HV.s_heard, HV.s_ph, HV.s_who, HV.s_spoken, HV.s_left, HV.s_out, HV.s_queue, HV.s_slate, hv_speak, hv_phone, hv_put, up2]) (fun k => by simp [HV.flats, HV.time, HV.ended, HV.set, HV.acc, HV.num, HV.heard, HV.ph, HV.who, HV.spoken, HV.left, HV.out, HV.queue, HV.slate, HV.s_flats, HV.s_time, HV.s_ended, HV.s_set, HV.s_acc, HV.s_num, HV.s_heard, HV.s_ph, HV.s_who, HV.s_spoken, HV.s_left, HV.s_out, HV.s_queue, HV.s_slate, hv_speak, hv_phone, hv_put, up2]) (fun k => by simp [HV.flats, HV.time, HV.ended, HV.set, HV.acc, HV.num, HV.heard, HV.ph, HV.who, HV.spoken, HV.left, HV.out, HV.queue, HV.slate, HV.s_flats, HV.s_time, HV.s_ended, HV.s_set, HV.s_acc, HV.s_num, HV.s_heard, HV.s_ph, HV.s_who, HV.s_spoken, HV.s_left, HV.s_out, HV.s_queue, HV.s_slate, hv_speak, hv_phone, hv_put, up2]) rfl rfl rfl rfl
  have e3 : (hv_speak w f x u).num k 3 = w.num k 3 := by simp [HV.flats, HV.time, HV.ended, HV.set, HV.acc, HV.num, HV.heard, HV.ph, HV.who, HV.spoken, HV.left, HV.out, HV.queue, HV.slate, HV.s_flats, HV.s_time, HV.s_ended, HV.s_set, HV.s_acc, HV.s_num, HV.s_heard, HV.s_ph, HV.s_who, HV.s_spoken, HV.s_left, HV.s_out, HV.s_queue, HV.s_slate, hv_speak, hv_phone, hv_put, up2]
  rw [e3]
  by_cases q : k = f
  · rw [q]; exact h3
  · have e2 : (hv_speak w f x u).num k 2 = w.num k 2 := by simp [HV.flats, HV.time, HV.ended, HV.set, HV.acc, HV.num, HV.heard, HV.ph, HV.who, HV.spoken, HV.left, HV.out, HV.queue, HV.slate, HV.s_flats, HV.s_time, HV.s_ended, HV.s_set, HV.s_acc, HV.s_num, HV.s_heard, HV.s_ph, HV.s_who, HV.s_spoken, HV.s_left, HV.s_out, HV.s_queue, HV.s_slate, hv_speak, hv_phone, hv_put, up2, q]
    rw [e2] at hne
    exact m.1 k hk hne
theorem m_join (m : hv_m B w) {f : Nat} (h3 : w.num f 3 = 0) : hv_m B (hv_join (hv_put w f 2 2) f) := by
  refine m_same m rfl (fun k hk hne => ?_) (fun hp => ?_) (fun k => by simp [HV.flats, HV.time, HV.ended, HV.set, HV.acc, HV.num, HV.heard, HV.ph, HV.who, HV.spoken, HV.left, HV.out, HV.queue, HV.slate, HV.s_flats, HV.s_time, HV.s_ended, HV.s_set, HV.s_acc, HV.s_num, HV.s_heard, HV.s_ph, HV.s_who, HV.s_spoken, HV.s_left, HV.s_out, HV.s_queue, HV.s_slate, hv_join, hv_put, up2]) (fun k => by simp [HV.flats, HV.time, HV.ended, HV.set, HV.acc, HV.num, HV.heard, HV.ph, HV.who, HV.spoken, HV.left, HV.out, HV.queue, HV.slate, HV.s_flats, HV.s_time, HV.s_ended, HV.s_set, HV.s_acc, HV.s_num, HV.s_heard, HV.s_ph, HV.s_who, HV.s_spoken, HV.s_left, HV.s_out, HV.s_queue, HV.s_slate, hv_join, hv_put, up2]) (fun k => by simp [HV.flats, HV.time, HV.ended, HV.set, HV.acc, HV.num, HV.heard, HV.ph, HV.who, HV.spoken, HV.left, HV.out, HV.queue, HV.slate, HV.s_flats, HV.s_time, HV.s_ended, HV.s_set, HV.s_acc, HV.s_num, HV.s_heard, HV.s_ph, HV.s_who, HV.s_spoken, HV.s_left, HV.s_out, HV.s_queue, HV.s_slate, hv_join, hv_put, up2]) rfl rfl rfl rfl
  · have e3 : (hv_join (hv_put w f 2 2) f).num k 3 = w.num k 3 := by simp [HV.flats, HV.time, HV.ended, HV.set, HV.acc, HV.num, HV.heard, HV.ph, HV.who, HV.spoken, HV.left, HV.out, HV.queue, HV.slate, HV.s_flats, HV.s_time, HV.s_ended, HV.s_set, HV.s_acc, HV.s_num, HV.s_heard, HV.s_ph, HV.s_who, HV.s_spoken, HV.s_left, HV.s_out, HV.s_queue, HV.s_slate, hv_join, hv_put, up2]
    rw [e3]
    by_cases q : k = f
    · rw [q]; exact h3
    · have e2 : (hv_join (hv_put w f 2 2) f).num k 2 = w.num k 2 := by simp [HV.flats, HV.time, HV.ended, HV.set, HV.acc, HV.num, HV.heard, HV.ph, HV.who, HV.spoken, HV.left, HV.out, HV.queue, HV.slate, HV.s_flats, HV.s_time, HV.s_ended, HV.s_set, HV.s_acc, HV.s_num, HV.s_heard, HV.s_ph, HV.s_who, HV.s_spoken, HV.s_left, HV.s_out, HV.s_queue, HV.s_slate, hv_join, hv_put, up2, q]
      rw [e2] at hne
      exact m.1 k hk hne
  · have e2 : (hv_join (hv_put w f 2 2) f).num w.who 4 = w.num w.who 4 := by simp [HV.flats, HV.time, HV.ended, HV.set, HV.acc, HV.num, HV.heard, HV.ph, HV.who, HV.spoken, HV.left, HV.out, HV.queue, HV.slate, HV.s_flats, HV.s_time, HV.s_ended, HV.s_set, HV.s_acc, HV.s_num, HV.s_heard, HV.s_ph, HV.s_who, HV.s_spoken, HV.s_left, HV.s_out, HV.s_queue, HV.s_slate, hv_join, hv_put, up2]
    show (hv_join (hv_put w f 2 2) f).num w.who 4 = 0
    rw [e2]
    exact m.2.1 hp
theorem m_wipe (m : hv_m B v) {f : Nat} : hv_m B (hv_wipe v f) := by
  obtain ⟨a1, a2, a3, a4, a5, a6, a7, a8, a9, a10, a11, a12, a13⟩ := m
  have ea : ∀ i : Nat, i ≠ 7 → (hv_wipe v f).acc i = v.acc i := fun i hi => by simp [HV.flats, HV.time, HV.ended, HV.set, HV.acc, HV.num, HV.heard, HV.ph, HV.who, HV.spoken, HV.left, HV.out, HV.queue, HV.slate, HV.s_flats, HV.s_time, HV.s_ended, HV.s_set, HV.s_acc, HV.s_num, HV.s_heard, HV.s_ph, HV.s_who, HV.s_spoken, HV.s_left, HV.s_out, HV.s_queue, HV.s_slate, hv_wipe, up1, hi]
  have e7 : (hv_wipe v f).acc 7 = v.acc 7 + (nI v.slate.length - nI (hv_rest v.slate f).length) := by simp [HV.flats, HV.time, HV.ended, HV.set, HV.acc, HV.num, HV.heard, HV.ph, HV.who, HV.spoken, HV.left, HV.out, HV.queue, HV.slate, HV.s_flats, HV.s_time, HV.s_ended, HV.s_set, HV.s_acc, HV.s_num, HV.s_heard, HV.s_ph, HV.s_who, HV.s_spoken, HV.s_left, HV.s_out, HV.s_queue, HV.s_slate, hv_wipe, up1]
  refine ⟨a1, a2, a3, a4, a5, a6, ?_, ?_, ?_, ?_, ?_, a12, ?_⟩
  · rw [ea _ (by decide)]; exact a7
  · rw [ea _ (by decide)]; exact a8
  · rw [ea _ (by decide)]; exact a9
  · show (hv_wipe v f).acc 4 - (hv_wipe v f).acc 5 - hv_sum (fun i => v.num i 6) v.flats + (hv_wipe v f).acc 6 - (hv_wipe v f).acc 7 - nI (hv_rest v.slate f).length = 0
    rw [e7, ea 4 (by decide), ea 5 (by decide), ea 6 (by decide)]
    grind
  · rw [ea _ (by decide), ea _ (by decide)]; exact a11
  · rw [ea _ (by decide)]; exact a13
theorem m_step (m : hv_m B v) {f : Nat} {x : Int32} (h2 : v.num f 2 = 1) : hv_m B (hv_put v f 3 x) := by
  refine m_same m rfl (fun k hk hne => ?_) (fun hp => ?_) (fun k => by simp [HV.flats, HV.time, HV.ended, HV.set, HV.acc, HV.num, HV.heard, HV.ph, HV.who, HV.spoken, HV.left, HV.out, HV.queue, HV.slate, HV.s_flats, HV.s_time, HV.s_ended, HV.s_set, HV.s_acc, HV.s_num, HV.s_heard, HV.s_ph, HV.s_who, HV.s_spoken, HV.s_left, HV.s_out, HV.s_queue, HV.s_slate, hv_put, up2]) (fun k => by simp [HV.flats, HV.time, HV.ended, HV.set, HV.acc, HV.num, HV.heard, HV.ph, HV.who, HV.spoken, HV.left, HV.out, HV.queue, HV.slate, HV.s_flats, HV.s_time, HV.s_ended, HV.s_set, HV.s_acc, HV.s_num, HV.s_heard, HV.s_ph, HV.s_who, HV.s_spoken, HV.s_left, HV.s_out, HV.s_queue, HV.s_slate, hv_put, up2]) (fun k => by simp [HV.flats, HV.time, HV.ended, HV.set, HV.acc, HV.num, HV.heard, HV.ph, HV.who, HV.spoken, HV.left, HV.out, HV.queue, HV.slate, HV.s_flats, HV.s_time, HV.s_ended, HV.s_set, HV.s_acc, HV.s_num, HV.s_heard, HV.s_ph, HV.s_who, HV.s_spoken, HV.s_left, HV.s_out, HV.s_queue, HV.s_slate, hv_put, up2]) rfl rfl rfl rfl
  · have e2 : (hv_put v f 3 x).num k 2 = v.num k 2 := by simp [HV.flats, HV.time, HV.ended, HV.set, HV.acc, HV.num, HV.heard, HV.ph, HV.who, HV.spoken, HV.left, HV.out, HV.queue, HV.slate, HV.s_flats, HV.s_time, HV.s_ended, HV.s_set, HV.s_acc, HV.s_num, HV.s_heard, HV.s_ph, HV.s_who, HV.s_spoken, HV.s_left, HV.s_out, HV.s_queue, HV.s_slate, hv_put, up2]
    rw [e2] at hne
    have q : k ≠ f := fun q => hne (by rw [q]; exact h2)
    have e3 : (hv_put v f 3 x).num k 3 = v.num k 3 := by simp [HV.flats, HV.time, HV.ended, HV.set, HV.acc, HV.num, HV.heard, HV.ph, HV.who, HV.spoken, HV.left, HV.out, HV.queue, HV.slate, HV.s_flats, HV.s_time, HV.s_ended, HV.s_set, HV.s_acc, HV.s_num, HV.s_heard, HV.s_ph, HV.s_who, HV.s_spoken, HV.s_left, HV.s_out, HV.s_queue, HV.s_slate, hv_put, up2, q]
    rw [e3]
    exact m.1 k hk hne
  · have e4 : (hv_put v f 3 x).num v.who 4 = v.num v.who 4 := by simp [HV.flats, HV.time, HV.ended, HV.set, HV.acc, HV.num, HV.heard, HV.ph, HV.who, HV.spoken, HV.left, HV.out, HV.queue, HV.slate, HV.s_flats, HV.s_time, HV.s_ended, HV.s_set, HV.s_acc, HV.s_num, HV.s_heard, HV.s_ph, HV.s_who, HV.s_spoken, HV.s_left, HV.s_out, HV.s_queue, HV.s_slate, hv_put, up2]
    show (hv_put v f 3 x).num v.who 4 = 0
    rw [e4]
    exact m.2.1 hp
theorem m_down (h : hv_ok v) (m : hv_m B v) {f : Nat} (hf : f < v.flats) : hv_m B (hv_down v f) := by
  unfold hv_down
  by_cases h1 : v.num f 2 = 1
  · rw [if_pos h1]
    by_cases h2 : v.num f 3 - 1 ≤ 0
    · rw [if_pos h2]
      have h3 := ok_sts h f hf h1
      have h0 : v.num f 3 - 1 = 0 := by grind
      have m1 := m_wipe (m_step m (x := v.num f 3 - 1) h1) (f := f)
      have e3 : (hv_wipe (hv_put v f 3 (v.num f 3 - 1)) f).num f 3 = 0 := by
        show (hv_put v f 3 (v.num f 3 - 1)).num f 3 = 0
        rw [h0]
        simp [HV.flats, HV.time, HV.ended, HV.set, HV.acc, HV.num, HV.heard, HV.ph, HV.who, HV.spoken, HV.left, HV.out, HV.queue, HV.slate, HV.s_flats, HV.s_time, HV.s_ended, HV.s_set, HV.s_acc, HV.s_num, HV.s_heard, HV.s_ph, HV.s_who, HV.s_spoken, HV.s_left, HV.s_out, HV.s_queue, HV.s_slate, hv_put, up2]
      unfold hv_arrive
      split
      · exact m_speak m1 e3
      · exact m_join m1 e3
    · rw [if_neg h2]
      exact m_step m h1
  · rw [if_neg h1]
    exact m
theorem m_downs (h : hv_ok v) (m : hv_m B v) : ∀ i : Nat, i ≤ v.flats → hv_m B (hv_downs i v) := by
  intro i
  induction i with
  | zero => exact fun _ => m
  | succ i ih =>
    intro hi
    obtain ⟨o1, o2⟩ := ok_downs h i (by omega)
    exact m_down o1 (ih (by omega)) (by rw [o2]; omega)
theorem m_fin (hB : 10000 * (B + 1) < 2 ^ 31) (h : hv_ok v) (hi : hv_in v) (m : hv_m B v) : hv_m (B + 1) (hv_fin v) := by
  unfold hv_fin
  split
  · rename_i q
    refine m_endG hB h hi m q.1 (a := up1 v.acc 2 (v.acc 2 + if v.left ≤ 0 then 0 else 1)) (fun i hne => if_neg hne) ?_
    rw [show up1 v.acc 2 (v.acc 2 + if v.left ≤ 0 then 0 else 1) 2 = v.acc 2 + if v.left ≤ 0 then 0 else 1 from if_pos rfl]
    have c1 := m.2.2.2.2.2.2.2.2.2.2.2.2
    have c2 := m.2.2.2.2.2.2.2.2.2.2.1
    split
    · rw [show v.acc 2 + 0 = v.acc 2 by grind]
      exact hv_le_2 (by omega) c1 c2
    · exact hv_le_1 (by omega) c1 c2
  · exact m_mono m (by omega)
theorem m_next (h : hv_ok v) (m : hv_m B v) : hv_m B (hv_next v) := by
  unfold hv_next
  split
  · split
    · exact m
    · rename_i f _ hq
      have hf := ok_qin h f (by rw [hq]; exact List.mem_cons_self)
      exact m_speak (w := hv_leave v f) m (m.1 f hf.1 (by rw [hf.2]; decide))
  · exact m
theorem m_waits (m : hv_m B v) : hv_m B (hv_waits v) := by
  refine m_same m rfl (fun k hk hne => ?_) (fun hp => ?_) (fun k => by simp [HV.flats, HV.time, HV.ended, HV.set, HV.acc, HV.num, HV.heard, HV.ph, HV.who, HV.spoken, HV.left, HV.out, HV.queue, HV.slate, HV.s_flats, HV.s_time, HV.s_ended, HV.s_set, HV.s_acc, HV.s_num, HV.s_heard, HV.s_ph, HV.s_who, HV.s_spoken, HV.s_left, HV.s_out, HV.s_queue, HV.s_slate, hv_waits]) (fun k => by simp [HV.flats, HV.time, HV.ended, HV.set, HV.acc, HV.num, HV.heard, HV.ph, HV.who, HV.spoken, HV.left, HV.out, HV.queue, HV.slate, HV.s_flats, HV.s_time, HV.s_ended, HV.s_set, HV.s_acc, HV.s_num, HV.s_heard, HV.s_ph, HV.s_who, HV.s_spoken, HV.s_left, HV.s_out, HV.s_queue, HV.s_slate, hv_waits]) (fun k => by simp [HV.flats, HV.time, HV.ended, HV.set, HV.acc, HV.num, HV.heard, HV.ph, HV.who, HV.spoken, HV.left, HV.out, HV.queue, HV.slate, HV.s_flats, HV.s_time, HV.s_ended, HV.s_set, HV.s_acc, HV.s_num, HV.s_heard, HV.s_ph, HV.s_who, HV.s_spoken, HV.s_left, HV.s_out, HV.s_queue, HV.s_slate, hv_waits]) rfl rfl rfl rfl
  · have e2 : (hv_waits v).num k 2 = v.num k 2 := by simp [HV.flats, HV.time, HV.ended, HV.set, HV.acc, HV.num, HV.heard, HV.ph, HV.who, HV.spoken, HV.left, HV.out, HV.queue, HV.slate, HV.s_flats, HV.s_time, HV.s_ended, HV.s_set, HV.s_acc, HV.s_num, HV.s_heard, HV.s_ph, HV.s_who, HV.s_spoken, HV.s_left, HV.s_out, HV.s_queue, HV.s_slate, hv_waits]
    have e3 : (hv_waits v).num k 3 = v.num k 3 := by simp [HV.flats, HV.time, HV.ended, HV.set, HV.acc, HV.num, HV.heard, HV.ph, HV.who, HV.spoken, HV.left, HV.out, HV.queue, HV.slate, HV.s_flats, HV.s_time, HV.s_ended, HV.s_set, HV.s_acc, HV.s_num, HV.s_heard, HV.s_ph, HV.s_who, HV.s_spoken, HV.s_left, HV.s_out, HV.s_queue, HV.s_slate, hv_waits]
    rw [e2] at hne
    rw [e3]
    exact m.1 k hk hne
  · have e4 : (hv_waits v).num v.who 4 = v.num v.who 4 := by simp [HV.flats, HV.time, HV.ended, HV.set, HV.acc, HV.num, HV.heard, HV.ph, HV.who, HV.spoken, HV.left, HV.out, HV.queue, HV.slate, HV.s_flats, HV.s_time, HV.s_ended, HV.s_set, HV.s_acc, HV.s_num, HV.s_heard, HV.s_ph, HV.s_who, HV.s_spoken, HV.s_left, HV.s_out, HV.s_queue, HV.s_slate, hv_waits]
    show (hv_waits v).num v.who 4 = 0
    rw [e4]
    exact m.2.1 hp
end DEEDS
