/-! ===== what else holds of a house: money and minutes add up ===== -/
def hv_m (B : Nat) (v : HV) : Prop :=
  (∀ f : Nat, f < v.flats → v.num f 2 ≠ 1 → v.num f 3 = 0) ∧
  (v.ph = 1 → v.num v.who 4 = 0) ∧
  (∀ f : Nat, f < v.flats → hv_lt (10000 * B) (v.num f 6)) ∧
  (∀ f : Nat, f < v.flats → v.heard f f = 0) ∧
  (∀ f k : Nat, f < v.flats → k < v.flats → v.heard f k ≤ v.num k 7) ∧
  (∀ f : Nat, f < v.flats → hv_lt B (v.num f 7)) ∧
  hv_sum (fun f => v.num f 7) v.flats = v.acc 3 ∧
  hv_sum (fun f => v.num f 8) v.flats = v.acc 1 ∧
  hv_dsum v.heard v.flats = v.acc 9 ∧
  v.acc 4 - v.acc 5 - hv_sum (fun f => v.num f 6) v.flats + v.acc 6 - v.acc 7 - nI v.slate.length = 0 ∧
  v.acc 2 ≤ v.acc 1 ∧
  (0 ≤ v.set 2 ∧ v.set 2 ≤ 99) ∧
  hv_lt B (v.acc 1)
section MORE
variable {B : Nat} {v w : HV}
theorem m_mono {C : Nat} (m : hv_m B v) (h : B ≤ C) : hv_m C v := by
  obtain ⟨a1, a2, a3, a4, a5, a6, a7, a8, a9, a10, a11, a12, a13⟩ := m
  exact ⟨a1, a2, fun f hf => hv_lt_mono (a3 f hf) (Nat.mul_le_mul_left _ h), a4, a5, fun f hf => hv_lt_mono (a6 f hf) h, a7, a8, a9, a10, a11, a12, hv_lt_mono a13 h⟩
/-- a step that moves neither money nor minutes -/
theorem m_same (m : hv_m B v) (hfl : w.flats = v.flats) (h1 : ∀ f : Nat, f < v.flats → w.num f 2 ≠ 1 → w.num f 3 = 0) (h2 : w.ph = 1 → w.num w.who 4 = 0)
    (e6 : ∀ f : Nat, w.num f 6 = v.num f 6) (e7 : ∀ f : Nat, w.num f 7 = v.num f 7) (e8 : ∀ f : Nat, w.num f 8 = v.num f 8) (eh : w.heard = v.heard) (ea : w.acc = v.acc) (es : w.slate.length = v.slate.length) (ez : w.set 2 = v.set 2) : hv_m B w := by
  obtain ⟨a1, a2, a3, a4, a5, a6, a7, a8, a9, a10, a11, a12, a13⟩ := m
  have s6 : (fun f => w.num f 6) = fun f => v.num f 6 := funext e6
  have s7 : (fun f => w.num f 7) = fun f => v.num f 7 := funext e7
  have s8 : (fun f => w.num f 8) = fun f => v.num f 8 := funext e8
  refine ⟨by rw [hfl]; exact h1, h2, ?_, ?_, ?_, ?_, ?_, ?_, ?_, ?_, ?_, ?_, ?_⟩
  · rw [hfl]; intro f hf; rw [e6]; exact a3 f hf
  · rw [hfl, eh]; exact a4
  · rw [hfl, eh]; intro f k hf hk; rw [e7]; exact a5 f k hf hk
  · rw [hfl]; intro f hf; rw [e7]; exact a6 f hf
  · rw [hfl, s7, ea]; exact a7
  · rw [hfl, s8, ea]; exact a8
  · rw [hfl, eh, ea]; exact a9
  · rw [hfl, s6, ea, es]; exact a10
  · rw [ea]; exact a11
  · rw [ez]; exact a12
  · rw [ea]; exact a13
theorem m_out (h : hv_ok v) (m : hv_m B v) {f : Nat} {x : Int32} (hf : f < v.flats) (h0 : v.num f 2 = 0) : hv_m B (hv_out v f x) := by
  have hw := ok_he h
  refine m_same m rfl (fun k hk hne => ?_) (fun hp => ?_) (fun k => by simp [HV.flats, HV.time, HV.ended, HV.set, HV.acc, HV.num, HV.heard, HV.ph, HV.who, HV.spoken, HV.left, HV.out, HV.queue, HV.slate, HV.s_flats, HV.s_time, HV.s_ended, HV.s_set, HV.s_acc, HV.s_num, HV.s_heard, HV.s_ph, HV.s_who, HV.s_spoken, HV.s_left, HV.s_out, HV.s_queue, HV.s_slate, hv_out, hv_put, up2]) (fun k => by simp [HV.flats, HV.time, HV.ended, HV.set, HV.acc, HV.num, HV.heard, HV.ph, HV.who, HV.spoken, HV.left, HV.out, HV.queue, HV.slate, HV.s_flats, HV.s_time, HV.s_ended, HV.s_set, HV.s_acc, HV.s_num, HV.s_heard, HV.s_ph, HV.s_who, HV.s_spoken, HV.s_left, HV.s_out, HV.s_queue, HV.s_slate, hv_out, hv_put, up2]) (fun k => by simp [HV.flats, HV.time, HV.ended, HV.set, HV.acc, HV.num, HV.heard, HV.ph, HV.who, HV.spoken, HV.left, HV.out, HV.queue, HV.slate, HV.s_flats, HV.s_time, HV.s_ended, HV.s_set, HV.s_acc, HV.s_num, HV.s_heard, HV.s_ph, HV.s_who, HV.s_spoken, HV.s_left, HV.s_out, HV.s_queue, HV.s_slate, hv_out, hv_put, up2]) rfl rfl rfl rfl
  · by_cases e : k = f
    · subst e
      exact absurd (by simp [HV.flats, HV.time, HV.ended, HV.set, HV.acc, HV.num, HV.heard, HV.ph, HV.who, HV.spoken, HV.left, HV.out, HV.queue, HV.slate, HV.s_flats, HV.s_time, HV.s_ended, HV.s_set, HV.s_acc, HV.s_num, HV.s_heard, HV.s_ph, HV.s_who, HV.s_spoken, HV.s_left, HV.s_out, HV.s_queue, HV.s_slate, hv_out, hv_put, up2]) hne
    · have e1 : (hv_out v f x).num k 2 = v.num k 2 := by simp [HV.flats, HV.time, HV.ended, HV.set, HV.acc, HV.num, HV.heard, HV.ph, HV.who, HV.spoken, HV.left, HV.out, HV.queue, HV.slate, HV.s_flats, HV.s_time, HV.s_ended, HV.s_set, HV.s_acc, HV.s_num, HV.s_heard, HV.s_ph, HV.s_who, HV.s_spoken, HV.s_left, HV.s_out, HV.s_queue, HV.s_slate, hv_out, hv_put, up2, e]
      have e2 : (hv_out v f x).num k 3 = v.num k 3 := by simp [HV.flats, HV.time, HV.ended, HV.set, HV.acc, HV.num, HV.heard, HV.ph, HV.who, HV.spoken, HV.left, HV.out, HV.queue, HV.slate, HV.s_flats, HV.s_time, HV.s_ended, HV.s_set, HV.s_acc, HV.s_num, HV.s_heard, HV.s_ph, HV.s_who, HV.s_spoken, HV.s_left, HV.s_out, HV.s_queue, HV.s_slate, hv_out, hv_put, up2, e]
      rw [e1] at hne
      rw [e2]
      exact m.1 k hk hne
  · have hp2 : v.ph = 1 := hp
    have e : v.who ≠ f := fun e => by
      have h3 := (hw hp2).1
      rw [e, h0] at h3
      exact absurd h3 (by decide)
    have e2 : (hv_out v f x).num (hv_out v f x).who 4 = v.num v.who 4 := by
      show (hv_out v f x).num v.who 4 = _
      simp [HV.flats, HV.time, HV.ended, HV.set, HV.acc, HV.num, HV.heard, HV.ph, HV.who, HV.spoken, HV.left, HV.out, HV.queue, HV.slate, HV.s_flats, HV.s_time, HV.s_ended, HV.s_set, HV.s_acc, HV.s_num, HV.s_heard, HV.s_ph, HV.s_who, HV.s_spoken, HV.s_left, HV.s_out, HV.s_queue, HV.s_slate, hv_out, hv_put, up2, e]
    rw [e2]
    exact m.2.1 hp2
theorem m_give (m : hv_m B v) {f : Nat} : hv_m B (hv_give v f) := by
  refine m_same m rfl (fun k hk hne => ?_) (fun hp => ?_) (fun k => by simp [HV.flats, HV.time, HV.ended, HV.set, HV.acc, HV.num, HV.heard, HV.ph, HV.who, HV.spoken, HV.left, HV.out, HV.queue, HV.slate, HV.s_flats, HV.s_time, HV.s_ended, HV.s_set, HV.s_acc, HV.s_num, HV.s_heard, HV.s_ph, HV.s_who, HV.s_spoken, HV.s_left, HV.s_out, HV.s_queue, HV.s_slate, hv_give, hv_leave, hv_put, up2]) (fun k => by simp [HV.flats, HV.time, HV.ended, HV.set, HV.acc, HV.num, HV.heard, HV.ph, HV.who, HV.spoken, HV.left, HV.out, HV.queue, HV.slate, HV.s_flats, HV.s_time, HV.s_ended, HV.s_set, HV.s_acc, HV.s_num, HV.s_heard, HV.s_ph, HV.s_who, HV.s_spoken, HV.s_left, HV.s_out, HV.s_queue, HV.s_slate, hv_give, hv_leave, hv_put, up2]) (fun k => by simp [HV.flats, HV.time, HV.ended, HV.set, HV.acc, HV.num, HV.heard, HV.ph, HV.who, HV.spoken, HV.left, HV.out, HV.queue, HV.slate, HV.s_flats, HV.s_time, HV.s_ended, HV.s_set, HV.s_acc, HV.s_num, HV.s_heard, HV.s_ph, HV.s_who, HV.s_spoken, HV.s_left, HV.s_out, HV.s_queue, HV.s_slate, hv_give, hv_leave, hv_put, up2]) rfl rfl rfl rfl
  · by_cases e : k = f
    · subst e
      simp [HV.flats, HV.time, HV.ended, HV.set, HV.acc, HV.num, HV.heard, HV.ph, HV.who, HV.spoken, HV.left, HV.out, HV.queue, HV.slate, HV.s_flats, HV.s_time, HV.s_ended, HV.s_set, HV.s_acc, HV.s_num, HV.s_heard, HV.s_ph, HV.s_who, HV.s_spoken, HV.s_left, HV.s_out, HV.s_queue, HV.s_slate, hv_give, hv_leave, hv_put, up2]
    · have e1 : (hv_give v f).num k 2 = v.num k 2 := by simp [HV.flats, HV.time, HV.ended, HV.set, HV.acc, HV.num, HV.heard, HV.ph, HV.who, HV.spoken, HV.left, HV.out, HV.queue, HV.slate, HV.s_flats, HV.s_time, HV.s_ended, HV.s_set, HV.s_acc, HV.s_num, HV.s_heard, HV.s_ph, HV.s_who, HV.s_spoken, HV.s_left, HV.s_out, HV.s_queue, HV.s_slate, hv_give, hv_leave, hv_put, up2, e]
      have e2 : (hv_give v f).num k 3 = v.num k 3 := by simp [HV.flats, HV.time, HV.ended, HV.set, HV.acc, HV.num, HV.heard, HV.ph, HV.who, HV.spoken, HV.left, HV.out, HV.queue, HV.slate, HV.s_flats, HV.s_time, HV.s_ended, HV.s_set, HV.s_acc, HV.s_num, HV.s_heard, HV.s_ph, HV.s_who, HV.s_spoken, HV.s_left, HV.s_out, HV.s_queue, HV.s_slate, hv_give, hv_leave, hv_put, up2, e]
      rw [e1] at hne
      rw [e2]
      exact m.1 k hk hne
  · have hp2 : v.ph = 1 := hp
    show (hv_give v f).num v.who 4 = 0
    by_cases e : v.who = f
    · simp [HV.flats, HV.time, HV.ended, HV.set, HV.acc, HV.num, HV.heard, HV.ph, HV.who, HV.spoken, HV.left, HV.out, HV.queue, HV.slate, HV.s_flats, HV.s_time, HV.s_ended, HV.s_set, HV.s_acc, HV.s_num, HV.s_heard, HV.s_ph, HV.s_who, HV.s_spoken, HV.s_left, HV.s_out, HV.s_queue, HV.s_slate, hv_give, hv_leave, hv_put, up2, e]
    · have e2 : (hv_give v f).num v.who 4 = v.num v.who 4 := by simp [HV.flats, HV.time, HV.ended, HV.set, HV.acc, HV.num, HV.heard, HV.ph, HV.who, HV.spoken, HV.left, HV.out, HV.queue, HV.slate, HV.s_flats, HV.s_time, HV.s_ended, HV.s_set, HV.s_acc, HV.s_num, HV.s_heard, HV.s_ph, HV.s_who, HV.s_spoken, HV.s_left, HV.s_out, HV.s_queue, HV.s_slate, hv_give, hv_leave, hv_put, up2, e]
      rw [e2]
      exact m.2.1 hp2
theorem m_cur (m : hv_m B v) {f : Nat} {x : Int32} : hv_m B (hv_put v f 1 x) := by
  refine m_same m rfl (fun k hk hne => ?_) (fun hp => ?_) (fun k => by simp [HV.flats, HV.time, HV.ended, HV.set, HV.acc, HV.num, HV.heard, HV.ph, HV.who, HV.spoken, HV.left, HV.out, HV.queue, HV.slate, HV.s_flats, HV.s_time, HV.s_ended, HV.s_set, HV.s_acc, HV.s_num, HV.s_heard, HV.s_ph, HV.s_who, HV.s_spoken, HV.s_left, HV.s_out, HV.s_queue, HV.s_slate, hv_put, up2]) (fun k => by simp [HV.flats, HV.time, HV.ended, HV.set, HV.acc, HV.num, HV.heard, HV.ph, HV.who, HV.spoken, HV.left, HV.out, HV.queue, HV.slate, HV.s_flats, HV.s_time, HV.s_ended, HV.s_set, HV.s_acc, HV.s_num, HV.s_heard, HV.s_ph, HV.s_who, HV.s_spoken, HV.s_left, HV.s_out, HV.s_queue, HV.s_slate, hv_put, up2]) (fun k => by simp [HV.flats, HV.time, HV.ended, HV.set, HV.acc, HV.num, HV.heard, HV.ph, HV.who, HV.spoken, HV.left, HV.out, HV.queue, HV.slate, HV.s_flats, HV.s_time, HV.s_ended, HV.s_set, HV.s_acc, HV.s_num, HV.s_heard, HV.s_ph, HV.s_who, HV.s_spoken, HV.s_left, HV.s_out, HV.s_queue, HV.s_slate, hv_put, up2]) rfl rfl rfl rfl
  · have e1 : (hv_put v f 1 x).num k 2 = v.num k 2 := by simp [HV.flats, HV.time, HV.ended, HV.set, HV.acc, HV.num, HV.heard, HV.ph, HV.who, HV.spoken, HV.left, HV.out, HV.queue, HV.slate, HV.s_flats, HV.s_time, HV.s_ended, HV.s_set, HV.s_acc, HV.s_num, HV.s_heard, HV.s_ph, HV.s_who, HV.s_spoken, HV.s_left, HV.s_out, HV.s_queue, HV.s_slate, hv_put, up2]
    have e2 : (hv_put v f 1 x).num k 3 = v.num k 3 := by simp [HV.flats, HV.time, HV.ended, HV.set, HV.acc, HV.num, HV.heard, HV.ph, HV.who, HV.spoken, HV.left, HV.out, HV.queue, HV.slate, HV.s_flats, HV.s_time, HV.s_ended, HV.s_set, HV.s_acc, HV.s_num, HV.s_heard, HV.s_ph, HV.s_who, HV.s_spoken, HV.s_left, HV.s_out, HV.s_queue, HV.s_slate, hv_put, up2]
    rw [e1] at hne
    rw [e2]
    exact m.1 k hk hne
  · have e2 : (hv_put v f 1 x).num v.who 4 = v.num v.who 4 := by simp [HV.flats, HV.time, HV.ended, HV.set, HV.acc, HV.num, HV.heard, HV.ph, HV.who, HV.spoken, HV.left, HV.out, HV.queue, HV.slate, HV.s_flats, HV.s_time, HV.s_ended, HV.s_set, HV.s_acc, HV.s_num, HV.s_heard, HV.s_ph, HV.s_who, HV.s_spoken, HV.s_left, HV.s_out, HV.s_queue, HV.s_slate, hv_put, up2]
    show (hv_put v f 1 x).num v.who 4 = 0
    rw [e2]
    exact m.2.1 hp
theorem m_time (m : hv_m B v) {x : Int32} : hv_m B (v.s_time x) := m
theorem m_set (m : hv_m B v) {i : Nat} {x : Int32} (hx : i = 2 → 0 ≤ x ∧ x ≤ 99) : hv_m B (v.s_set (up1 v.set i x)) := by
  obtain ⟨a1, a2, a3, a4, a5, a6, a7, a8, a9, a10, a11, a12, a13⟩ := m
  refine ⟨a1, a2, a3, a4, a5, a6, a7, a8, a9, a10, a11, ?_, a13⟩
  show 0 ≤ up1 v.set i x 2 ∧ up1 v.set i x 2 ≤ 99
  unfold up1
  by_cases e : 2 = i
  · rw [if_pos e]; exact hx e.symm
  · rw [if_neg e]; exact a12
theorem m_pay (hB : 10000 * B < 2 ^ 31) (m : hv_m B v) {f : Nat} {x : Int32} (hf : f < v.flats) (h0 : 0 ≤ x) (h1 : x ≤ v.num f 6) : hv_m B (hv_pay v f x) := by
  obtain ⟨a1, a2, a3, a4, a5, a6, a7, a8, a9, a10, a11, a12, a13⟩ := m
  have e : ∀ k j : Nat, j ≠ 6 → (hv_pay v f x).num k j = v.num k j := fun k j hj => by simp [HV.flats, HV.time, HV.ended, HV.set, HV.acc, HV.num, HV.heard, HV.ph, HV.who, HV.spoken, HV.left, HV.out, HV.queue, HV.slate, HV.s_flats, HV.s_time, HV.s_ended, HV.s_set, HV.s_acc, HV.s_num, HV.s_heard, HV.s_ph, HV.s_who, HV.s_spoken, HV.s_left, HV.s_out, HV.s_queue, HV.s_slate, hv_pay, hv_acc, hv_put, up2, hj]
  have ea : ∀ i : Nat, i ≠ 5 → (hv_pay v f x).acc i = v.acc i := fun i hi => by simp [HV.flats, HV.time, HV.ended, HV.set, HV.acc, HV.num, HV.heard, HV.ph, HV.who, HV.spoken, HV.left, HV.out, HV.queue, HV.slate, HV.s_flats, HV.s_time, HV.s_ended, HV.s_set, HV.s_acc, HV.s_num, HV.s_heard, HV.s_ph, HV.s_who, HV.s_spoken, HV.s_left, HV.s_out, HV.s_queue, HV.s_slate, hv_pay, hv_acc, hv_put, up1, hi]
  refine ⟨fun k hk hne => ?_, fun hp => ?_, fun k hk => ?_, a4, fun k j hk hj => ?_, fun k hk => ?_, ?_, ?_, ?_, ?_, ?_, a12, ?_⟩
  · rw [e _ _ (by decide)] at hne ⊢; exact a1 k hk hne
  · rw [e _ _ (by decide)]; exact a2 hp
  · by_cases q : k = f
    · subst q
      have e2 : (hv_pay v k x).num k 6 = v.num k 6 - x := by simp [HV.flats, HV.time, HV.ended, HV.set, HV.acc, HV.num, HV.heard, HV.ph, HV.who, HV.spoken, HV.left, HV.out, HV.queue, HV.slate, HV.s_flats, HV.s_time, HV.s_ended, HV.s_set, HV.s_acc, HV.s_num, HV.s_heard, HV.s_ph, HV.s_who, HV.s_spoken, HV.s_left, HV.s_out, HV.s_queue, HV.s_slate, hv_pay, hv_acc, hv_put, up2]
      rw [e2]
      exact hv_lt_sub hB (a3 k hk) h0 h1
    · have e2 : (hv_pay v f x).num k 6 = v.num k 6 := by simp [HV.flats, HV.time, HV.ended, HV.set, HV.acc, HV.num, HV.heard, HV.ph, HV.who, HV.spoken, HV.left, HV.out, HV.queue, HV.slate, HV.s_flats, HV.s_time, HV.s_ended, HV.s_set, HV.s_acc, HV.s_num, HV.s_heard, HV.s_ph, HV.s_who, HV.s_spoken, HV.s_left, HV.s_out, HV.s_queue, HV.s_slate, hv_pay, hv_acc, hv_put, up2, q]
      rw [e2]
      exact a3 k hk
  · rw [e _ _ (by decide)]; exact a5 k j hk hj
  · rw [e _ _ (by decide)]; exact a6 k hk
  · rw [ea _ (by decide), ← a7]; exact hv_sum_cg (fun i _ => e _ _ (by decide))
  · rw [ea _ (by decide), ← a8]; exact hv_sum_cg (fun i _ => e _ _ (by decide))
  · rw [ea _ (by decide)]; exact a9
  · have es : hv_sum (fun i => (hv_pay v f x).num i 6) v.flats = hv_sum (fun i => v.num i 6) v.flats + ((v.num f 6 - x) - v.num f 6) := hv_sum_up (n := v.num) hf
    have e5 : (hv_pay v f x).acc 5 = v.acc 5 + x := by simp [HV.flats, HV.time, HV.ended, HV.set, HV.acc, HV.num, HV.heard, HV.ph, HV.who, HV.spoken, HV.left, HV.out, HV.queue, HV.slate, HV.s_flats, HV.s_time, HV.s_ended, HV.s_set, HV.s_acc, HV.s_num, HV.s_heard, HV.s_ph, HV.s_who, HV.s_spoken, HV.s_left, HV.s_out, HV.s_queue, HV.s_slate, hv_pay, hv_acc, hv_put, up1]
    show (hv_pay v f x).acc 4 - (hv_pay v f x).acc 5 - hv_sum (fun i => (hv_pay v f x).num i 6) v.flats + (hv_pay v f x).acc 6 - (hv_pay v f x).acc 7 - nI v.slate.length = 0
    rw [es, e5, ea _ (by decide), ea _ (by decide), ea _ (by decide)]
    grind
  · rw [ea _ (by decide), ea _ (by decide)]; exact a11
  · rw [ea _ (by decide)]; exact a13
end MORE
