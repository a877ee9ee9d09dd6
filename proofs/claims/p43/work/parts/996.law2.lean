section LAW2
variable {B C nx ln N : Nat} {v w : HV} {M : hp_M} {xs : Nat → Int32} {rc : Int32 → Int32 → hp_M → Option (Int32 × hp_M)} {y4 y5 k3 : Int32}
theorem c_ring (hC : 10000 * C < 2 ^ 31) (J : KJ B v nx ln M) (hBC : B + 2000 ≤ C) (hrec : RecOK C v.flats rc (y4 + 1)) {f b : Nat} (hf : f < v.flats) (hb : b < 1024) : hp_b (F_X8_ifRung (nI f) M) (fun r36 M36 => (hp_b (F_X8_size (9 : Int32) M36) (fun r37 M37 => (hp_b (F_X8_account (8 : Int32) M37) (fun r38 M38 => (if (99 : Int32) = 0 then none else (hp_b (F_X8_ring (nI f) ((1 : Int32) + (nI b - nI b / (99 : Int32) * (99 : Int32))) M38) (fun r39 M39 => (if r36 = (5 : Int32) then (A_L_law_520 N xs rc (nI ln) k3 y4 y5 (nI f) (nI b) (if v.ph = 0 then -1 else nI v.who) r39 (hv_cs v) r36 r37 r38 (-5 : Int32) r39 M39) else (A_L_law_520 N xs rc (nI ln) k3 y4 y5 (nI f) (nI b) (if v.ph = 0 then -1 else nI v.who) r39 (hv_cs v) r36 r37 r38 r36 r39 M39)))))))))) ≠ none := by
  have ho := J.2.1.1.1.1
  have h10 := ok_fl ho
  have e1 : (1 : Int32) + (nI b - nI b / (99 : Int32) * (99 : Int32)) = nI (1 + b % 99) := by rw [t_99 b hb]; exact nI_add 1 _
  have hx : 1 ≤ nI (1 + b % 99) ∧ nI (1 + b % 99) ≤ 99 := n_in (m := 98) (by omega) (by decide)
  have g8 : F_X8_account 8 M = some (v.acc 8, M) := a_n J.1 8 (by decide) (by decide) (by decide)
  rw [q_ifr J.1 ho hf, hp_b_some, s_9 J.1 ho, hp_b_some, g8, hp_b_some, if_neg (by decide), e1]
  rcases d_ring J hf hx with ⟨h, e⟩ | ⟨h, M2, e, p⟩
  · have hw : ¬ nI v.who = -1 := fun q => nI_pos (n := v.who) (by have := ok_w10 ho h; omega) (by rw [q]; decide)
    rw [e, hp_b_some, if_neg h, if_pos rfl, if_neg h]
    unfold A_L_law_520
    rw [if_pos rfl, if_pos rfl]
    unfold A_L_law_534
    rw [if_neg hw]
    unfold A_L_law_545
    rw [if_pos rfl, if_neg (by decide)]
    unfold A_L_law_574
    rw [if_neg (by decide)]
    unfold A_L_law_614
    rw [if_neg (by decide)]
    unfold A_L_law_633
    rw [if_neg (by decide)]
    exact law_A hC J (by omega) hrec (by decide)
  · have p := p.mono (C := C) (by omega)
    have ow := p.2.1.1.1.1
    have hfl : (hv_ring v f (nI (1 + b % 99))).flats = v.flats := by
      unfold hv_ring
      split
      · rfl
      · split
        · rfl
        · split <;> rfl
    have kC := k_mono (C := C) J.2.1 (by omega)
    have open1 : ∀ r : Int32, ¬ r = 5 → A_L_law_545 N xs rc (nI ln) k3 y4 y5 (nI f) (nI b) r (hv_cs v) (nI v.slate.length) (v.acc 8) 0 0 M2 ≠ none → A_L_law_520 N xs rc (nI ln) k3 y4 y5 (nI f) (nI b) (-1) r (hv_cs v) r (nI v.slate.length) (v.acc 8) r r M2 ≠ none := by
      intro r hr hh
      unfold A_L_law_520
      rw [if_pos rfl, if_neg hr]
      unfold A_L_law_534
      rw [if_pos rfl]
      exact hh
    have h4 := hv_outc_4 v f
    have h5 : ¬ hv_outc v f = 5 := by
      rcases h4 with q | q | q | q <;> rw [q] <;> decide
    rw [e, hp_b_some, if_pos h, if_neg h5, if_pos h]
    refine open1 _ h5 ?_
    unfold A_L_law_545
    rw [if_pos rfl]
    rcases h4 with q | q | q | q
    · have hr : hv_ring v f (nI (1 + b % 99)) = hv_phone (hv_out v f 0) 1 f (nI (1 + b % 99)) 1 := by unfold hv_ring; rw [if_pos q]
      rw [hr] at p ow hfl
      have hph : ¬ (hv_phone (hv_out v f 0) 1 f (nI (1 + b % 99)) 1).ph = 0 := by show ¬ (1 : Int32) = 0; decide
      have s2 : F_X8_size 2 M2 = some (1, M2) := s_2 p.1 ow
      have s3 : F_X8_size 3 M2 = some (nI f, M2) := (s_3 p.1 ow).trans (congrArg (fun z => some (z, M2)) (if_neg hph))
      rw [q, if_pos rfl, s2, hp_b_some, if_pos rfl, s3, hp_b_some, if_pos rfl]
      unfold A_L_law_574
      rw [if_neg (by decide)]
      unfold A_L_law_614
      rw [if_neg (by decide)]
      unfold A_L_law_633
      rw [if_neg (by decide)]
      exact law_B hC kC p hfl hrec (by decide)
    · have hr : hv_ring v f (nI (1 + b % 99)) = hv_speak (hv_leave v f) f (nI (1 + b % 99)) 1 := by unfold hv_ring; rw [if_neg (by rw [q]; decide), if_pos q]
      rw [hr] at p ow hfl
      have hph : ¬ (hv_speak (hv_leave v f) f (nI (1 + b % 99)) 1).ph = 0 := by show ¬ (2 : Int32) = 0; decide
      have hp2 : (hv_speak (hv_leave v f) f (nI (1 + b % 99)) 1).ph = 2 := rfl
      have s2 : F_X8_size 2 M2 = some (2, M2) := s_2 p.1 ow
      have s3 : F_X8_size 3 M2 = some (nI f, M2) := (s_3 p.1 ow).trans (congrArg (fun z => some (z, M2)) (if_neg hph))
      have s5 : F_X8_size 5 M2 = some (nI (1 + b % 99), M2) := (s_5 p.1 ow).trans (congrArg (fun z => some (z, M2)) (if_pos hp2))
      rw [q, if_neg (by decide)]
      unfold A_L_law_574
      rw [if_pos rfl, s2, hp_b_some, if_pos rfl, s3, hp_b_some, if_pos rfl, s5, hp_b_some, if_neg (by decide), if_pos e1.symm]
      unfold A_L_law_614
      rw [if_neg (by decide)]
      unfold A_L_law_633
      rw [if_neg (by decide)]
      exact law_B hC kC p hfl hrec (by decide)
    · have hr : hv_ring v f (nI (1 + b % 99)) = hv_write v f := by unfold hv_ring; rw [if_neg (by rw [q]; decide), if_neg (by rw [q]; decide), if_pos q]
      rw [hr] at p ow hfl
      have el : nI (hv_write v f).slate.length = nI v.slate.length + 1 := by
        have : (hv_write v f).slate.length = v.slate.length + 1 := by simp [HV.flats, HV.time, HV.ended, HV.set, HV.acc, HV.num, HV.heard, HV.ph, HV.who, HV.spoken, HV.left, HV.out, HV.queue, HV.slate, HV.s_flats, HV.s_time, HV.s_ended, HV.s_set, HV.s_acc, HV.s_num, HV.s_heard, HV.s_ph, HV.s_who, HV.s_spoken, HV.s_left, HV.s_out, HV.s_queue, HV.s_slate, hv_write, hv_acc]
        rw [this, nI_succ]
      have s9 : F_X8_size 9 M2 = some (nI v.slate.length + 1, M2) := (s_9 p.1 ow).trans (by rw [el])
      rw [q, if_neg (by decide)]
      unfold A_L_law_574
      rw [if_neg (by decide)]
      unfold A_L_law_614
      rw [if_pos rfl, s9, hp_b_some, if_pos rfl]
      unfold A_L_law_633
      rw [if_neg (by decide)]
      exact law_B hC kC p hfl hrec (by decide)
    · have hr : hv_ring v f (nI (1 + b % 99)) = hv_acc v 8 1 := by unfold hv_ring; rw [if_neg (by rw [q]; decide), if_neg (by rw [q]; decide), if_neg (by rw [q]; decide)]
      rw [hr] at p ow hfl
      have e8 : (hv_acc v 8 1).acc 8 = v.acc 8 + 1 := (show up1 v.acc 8 (v.acc 8 + 1) 8 = v.acc 8 + 1 from if_pos rfl)
      have g8' : F_X8_account 8 M2 = some (v.acc 8 + 1, M2) := (a_n p.1 8 (by decide) (by decide) (by decide)).trans (by rw [e8])
      rw [q, if_neg (by decide)]
      unfold A_L_law_574
      rw [if_neg (by decide)]
      unfold A_L_law_614
      rw [if_neg (by decide)]
      unfold A_L_law_633
      rw [if_pos rfl, g8', hp_b_some, if_pos rfl]
      exact law_B hC kC p hfl hrec (by decide)
theorem c_pay (hC : 10000 * C < 2 ^ 31) (J : KJ B v nx ln M) (hBC : B + 2000 ≤ C) (hrec : RecOK C v.flats rc (y4 + 1)) {f b : Nat} (hf : f < v.flats) (hb : b < 1024) : hp_b (F_X8_flat (nI f) (6 : Int32) M) (fun r55 M55 => (hp_b (F_X8_pay (nI f) ((1 : Int32) + (nI b - nI b / (40 : Int32) * (40 : Int32))) M55) (fun r56 M56 => (if ((1 : Int32) + (nI b - nI b / (40 : Int32) * (40 : Int32))) ≤ r55 then (A_L_law_702 N xs rc (nI ln) k3 y4 y5 r56 (hv_cs v) (r55 - ((1 : Int32) + (nI b - nI b / (40 : Int32) * (40 : Int32)))) r56 M56) else (A_L_law_702 N xs rc (nI ln) k3 y4 y5 r56 (hv_cs v) (-6 : Int32) r56 M56))))) ≠ none := by
  have ho := J.2.1.1.1.1
  have e1 : (1 : Int32) + (nI b - nI b / (40 : Int32) * (40 : Int32)) = nI (1 + b % 40) := by rw [t_40 b hb]; exact nI_add 1 _
  have hx : 1 ≤ nI (1 + b % 40) ∧ nI (1 + b % 40) ≤ 9999 := n_in (m := 9998) (by omega) (by decide)
  have g6 : F_X8_flat (nI f) 6 M = some (v.num f 6, M) := l_n J.1 ho hf 6 (by decide) (by decide) (by decide)
  rw [g6, hp_b_some, e1]
  rcases d_pay (by omega) J hf hx with ⟨h, e⟩ | ⟨h, M2, e, p⟩
  · rw [e, hp_b_some, if_neg h]
    unfold A_L_law_702
    rw [if_pos rfl]
    exact law_A hC J (by omega) hrec (by decide)
  · have p := p.mono (C := C) (by omega)
    rw [e, hp_b_some, if_pos h]
    unfold A_L_law_702
    rw [if_pos rfl]
    have h0 : 0 ≤ v.num f 6 - nI (1 + b % 40) := by
      have := hx.1
      grind
    exact law_B hC (k_mono J.2.1 (by omega)) p rfl hrec h0
theorem c_cur (hC : 10000 * C < 2 ^ 31) (J : KJ B v nx ln M) (hBC : B + 2000 ≤ C) (hrec : RecOK C v.flats rc (y4 + 1)) {f : Nat} {y7 : Int32} (hf : f < v.flats) : hp_b (F_X8_flat (nI f) (1 : Int32) M) (fun r57 M57 => (if r57 = (1 : Int32) then (A_L_law_723 N xs rc (nI ln) k3 y4 y5 (nI f) y7 0 (hv_cs v) (1 : Int32) M57) else (A_L_law_723 N xs rc (nI ln) k3 y4 y5 (nI f) y7 0 (hv_cs v) (0 : Int32) M57))) ≠ none := by
  have ho := J.2.1.1.1.1
  have g1 : F_X8_flat (nI f) 1 M = some (v.num f 1, M) := l_n J.1 ho hf 1 (by decide) (by decide) (by decide)
  have key : ∀ (z had : Int32), (had = if v.num f 1 = 1 then 1 else 0) → (y7 &&& 1 = 0 → z = 1) → (¬ y7 &&& 1 = 0 → z = 0) → A_L_law_740 N xs rc (nI ln) k3 y4 y5 (nI f) y7 0 (hv_cs v) had z (nI f) M ≠ none := by
    intro z had hh h1 h0
    obtain ⟨M2, e, p⟩ := d_cur J hf (z := z)
    have p := p.mono (C := C) (by omega)
    have w1 : (hv_put v f 1 (if z = 0 then 0 else 1)).num f 1 = if z = 0 then 0 else 1 := by simp [HV.flats, HV.time, HV.ended, HV.set, HV.acc, HV.num, HV.heard, HV.ph, HV.who, HV.spoken, HV.left, HV.out, HV.queue, HV.slate, HV.s_flats, HV.s_time, HV.s_ended, HV.s_set, HV.s_acc, HV.s_num, HV.s_heard, HV.s_ph, HV.s_who, HV.s_spoken, HV.s_left, HV.s_out, HV.s_queue, HV.s_slate, hv_put, up2]
    have g : F_X8_flat (nI f) 1 M2 = some (if z = 0 then 0 else 1, M2) := l_x p.1 p.2.1.1.1.1 hf 1 (by decide) (by decide) (by decide) w1
    have fin : A_L_law_1000 N xs rc (nI ln) k3 y4 y5 0 (hv_cs v) M2 ≠ none := law_B hC (k_mono J.2.1 (by omega)) p rfl hrec (by decide)
    unfold A_L_law_740
    rw [e, hp_b_some, if_pos hh.symm, g, hp_b_some]
    by_cases q : y7 &&& 1 = 0
    · have e2 : (if z = 0 then (0 : Int32) else 1) = 1 := by rw [h1 q]; decide
      rw [if_pos e2]
      unfold A_L_law_764
      rw [if_pos q]
      unfold A_L_law_776
      rw [if_pos rfl]
      exact fin
    · have e3 : ¬ (if z = 0 then (0 : Int32) else 1) = 1 := by rw [h0 q]; decide
      rw [if_neg e3]
      unfold A_L_law_764
      rw [if_neg q]
      unfold A_L_law_776
      rw [if_pos rfl]
      exact fin
  have k2 : ∀ had : Int32, (had = if v.num f 1 = 1 then 1 else 0) → A_L_law_723 N xs rc (nI ln) k3 y4 y5 (nI f) y7 0 (hv_cs v) had M ≠ none := by
    intro had hh
    unfold A_L_law_723
    by_cases q : y7 &&& 1 = 0
    · rw [if_pos q]
      exact key 1 had hh (fun _ => rfl) (fun z => absurd q z)
    · rw [if_neg q]
      exact key 0 had hh (fun z => absurd z q) (fun _ => rfl)
  rw [g1, hp_b_some]
  by_cases h : v.num f 1 = 1
  · rw [if_pos h]; exact k2 1 (by rw [if_pos h])
  · rw [if_neg h]; exact k2 0 (by rw [if_neg h])
theorem c_884 (hC : 10000 * C < 2 ^ 31) (J : KJ B v nx ln M) (hBC : B + 2000 ≤ C) (hrec : RecOK C v.flats rc (y4 + 1)) {k : Nat} {x : Int32} (hk : k < 6) (hr : hp_vlea.getD k 0 ≤ x ∧ x ≤ hp_vgre.getD k 0) : A_L_law_884 N xs rc (nI ln) k3 y4 y5 (hv_cs v) (nI k) x M ≠ none := by
  obtain ⟨M2, e, p⟩ := d_set J hk hr
  have p := p.mono (C := C) (by omega)
  have g2 : F_X8_setting (nI k) M2 = some (x, M2) := by
    rw [q_set p.1 hk]
    show some (up1 v.set k x k, M2) = _
    rw [show up1 v.set k x k = x from if_pos rfl]
  unfold A_L_law_884
  rw [q_set J.1 hk, hp_b_some, e, hp_b_some, if_pos rfl, g2, hp_b_some, if_pos rfl]
  exact law_B hC (k_mono J.2.1 (by omega)) p rfl hrec (J.2.1.1.2.1.2 k hk)
theorem c_pass (hC : 10000 * C < 2 ^ 31) (hB : B < 100000) (J : KJ B v nx ln M) (hBC : B + 2000 ≤ C) (hrec : RecOK C v.flats rc (y4 + 1)) {b : Nat} (hb : b < 1024) : hp_b (F_X8_size (1 : Int32) M) (fun r63 M63 => (hp_b (F_X8_account (1 : Int32) M63) (fun r64 M64 => (hp_b (F_X8_pass ((1 : Int32) + (nI b - nI b / (30 : Int32) * (30 : Int32))) M64) (fun r65 M65 => (hp_b (F_X8_size (1 : Int32) M65) (fun r66 M66 => (if r66 = (r63 + ((1 : Int32) + (nI b - nI b / (30 : Int32) * (30 : Int32)))) then (hp_b (F_X8_account (1 : Int32) M66) (fun r67 M67 => (if r65 = (r67 - r64) then (hp_b (F_X8_size (2 : Int32) M67) (fun r68 M68 => (if r68 = 0 then (hp_b (F_X8_size (7 : Int32) M68) (fun r69 M69 => (if r69 ≤ 0 then (A_L_law_1000 N xs rc (nI ln) k3 y4 y5 r65 (hv_cs v) M69) else none))) else (A_L_law_1000 N xs rc (nI ln) k3 y4 y5 r65 (hv_cs v) M68)))) else none))) else none)))))))) ≠ none := by
  have ho := J.2.1.1.1.1
  have e1 : (1 : Int32) + (nI b - nI b / (30 : Int32) * (30 : Int32)) = nI (b % 30 + 1) := by rw [t_30 b hb, Nat.add_comm]; exact nI_add 1 _
  obtain ⟨M2, e, p⟩ := d_pass hB J (n := b % 30 + 1) (by omega) (by omega)
  have p := p.mono (C := C) (by omega)
  have ow := p.2.1.1.1.1
  obtain ⟨ee, ee1, ee2, ee3⟩ := hv_runE_nat J.2.1.1.1 J.2.1.1.2.1 (b % 30 + 1)
  have hq := hv_run_q (b % 30) v
  have hflat := run_flats (b % 30 + 1) v J.2.1.1.1 J.2.1.1.2.1
  obtain ⟨u, hu⟩ : ∃ u, hv_run (b % 30 + 1) v = u := ⟨_, rfl⟩
  rw [hu] at p ow ee3 hq hflat
  have hEq : hv_runE (b % 30 + 1) v 0 = u.acc 1 - v.acc 1 := ee2.trans ee3.symm
  have g1 : F_X8_account 1 M = some (v.acc 1, M) := a_n J.1 1 (by decide) (by decide) (by decide)
  have g1' : F_X8_account 1 M2 = some (u.acc 1, M2) := a_n p.1 1 (by decide) (by decide) (by decide)
  have s1' : F_X8_size 1 M2 = some (v.time + nI (b % 30 + 1), M2) := s_1 p.1 ow
  have s2' : F_X8_size 2 M2 = some (u.ph, M2) := s_2 (v := u.s_time (v.time + nI (b % 30 + 1))) p.1 ow
  have s7' : F_X8_size 7 M2 = some (nI u.queue.length, M2) := s_7 (v := u.s_time (v.time + nI (b % 30 + 1))) p.1 ow
  have fin : A_L_law_1000 N xs rc (nI ln) k3 y4 y5 (hv_runE (b % 30 + 1) v 0) (hv_cs v) M2 ≠ none := law_B hC (k_mono J.2.1 (by omega)) p hflat hrec (by rw [ee2]; exact nI_pos' (by omega))
  rw [s_1 J.1 ho, hp_b_some, g1, hp_b_some, e1, e, hp_b_some, s1', hp_b_some, if_pos rfl, g1', hp_b_some, if_pos hEq, s2', hp_b_some]
  by_cases h0 : u.ph = 0
  · rw [if_pos h0, s7', hp_b_some, hq h0, if_pos (by decide)]
    exact fin
  · rw [if_neg h0]
    exact fin
end LAW2
