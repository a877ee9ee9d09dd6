/-! ===== one deed of the law, and what it looks at ===== -/
theorem i32_mask (y : Int32) (k : Nat) (hk : k ≤ 31) : y &&& nI (2 ^ k - 1) = nI (y.toBitVec.toNat % 2 ^ k) := by
  have hp : 2 ^ k ≤ 2 ^ 31 := Nat.pow_le_pow_right (by decide) hk
  have h0 : 0 < 2 ^ k := Nat.two_pow_pos k
  have hm : y.toBitVec.toNat % 2 ^ k < 2 ^ k := Nat.mod_lt _ h0
  apply Int32.toBitVec_inj.mp
  apply BitVec.eq_of_toNat_eq
  rw [Int32.toBitVec_and, BitVec.toNat_and]
  show y.toBitVec.toNat &&& ((2 ^ k - 1) % 2 ^ 32) = (y.toBitVec.toNat % 2 ^ k) % 2 ^ 32
  rw [Nat.mod_eq_of_lt (by omega : 2 ^ k - 1 < 2 ^ 32), Nat.and_two_pow_sub_one_eq_mod, Nat.mod_eq_of_lt (by omega : y.toBitVec.toNat % 2 ^ k < 2 ^ 32)]
theorem i32_and (y : Int32) {k m : Nat} (hk : k ≤ 31) (hm : 2 ^ k - 1 = m) : ∃ a : Nat, a ≤ m ∧ y &&& nI m = nI a := by
  subst hm
  have := Nat.mod_lt y.toBitVec.toNat (Nat.two_pow_pos k)
  exact ⟨y.toBitVec.toNat % 2 ^ k, by omega, i32_mask y k hk⟩
theorem t_f : ∀ n : Nat, n < 11 → 0 < n → ∀ a : Nat, a < 16 → nI a - nI a / nI n * nI n = nI (a % n) := fun n hn h0 a ha => pk_rem (by omega) h0 (by omega)
theorem t_99 : ∀ b : Nat, b < 1024 → nI b - nI b / 99 * 99 = nI (b % 99) := fun b hb => pk_rem (d := 99) (by omega) (by decide) (by decide)
theorem t_40 : ∀ b : Nat, b < 1024 → nI b - nI b / 40 * 40 = nI (b % 40) := fun b hb => pk_rem (d := 40) (by omega) (by decide) (by decide)
theorem t_30 : ∀ b : Nat, b < 1024 → nI b - nI b / 30 * 30 = nI (b % 30) := fun b hb => pk_rem (d := 30) (by omega) (by decide) (by decide)
theorem t_6 : ∀ b : Nat, b < 1024 → nI b - nI b / 6 * 6 = nI (b % 6) ∧ nI b / 6 = nI (b / 6) := fun b hb => ⟨pk_rem (d := 6) (by omega) (by decide) (by decide), pk_div (d := 6) (by omega) (by decide) (by decide)⟩
theorem t_s : ∀ b : Nat, b < 171 → nI b - nI b / 61 * 61 = nI (b % 61) ∧ nI b - nI b / 100 * 100 = nI (b % 100) ∧ nI b - nI b / 10 * 10 = nI (b % 10) ∧ nI b - nI b / 21 * 21 = nI (b % 21) := fun b hb => ⟨pk_rem (d := 61) (by omega) (by decide) (by decide), pk_rem (d := 100) (by omega) (by decide) (by decide), pk_rem (d := 10) (by omega) (by decide) (by decide), pk_rem (d := 21) (by omega) (by decide) (by decide)⟩
theorem d_0 : ∀ n : Nat, n < 9 → (if nI n + 0 < 8 then nI n + 0 else 8) = nI n := by decide +kernel
theorem d_1 : ∀ n : Nat, n < 9 → (if nI n + 1 < 8 then nI n + 1 else 8) = nI (min (n + 1) 8) := by decide +kernel
theorem d_2 : ∀ n : Nat, n < 9 → nI (min (n + 1) 8 - 1) = nI (min (n + 1) 8) + (-1) := by decide +kernel
theorem lg_cmp_s (x : Int64) : lg_cmp x x = 0 := by
  unfold lg_cmp
  rw [if_neg (by exact Int64.lt_irrefl), if_pos rfl]
theorem n_in {a m : Nat} (h : a ≤ m) (hm : m < 10000) : 1 ≤ nI (1 + a) ∧ nI (1 + a) ≤ nI (1 + m) := ⟨(nI_le (by omega) (by omega) : nI 1 ≤ nI (1 + a)), nI_le (by omega) (by omega)⟩
/-- what the rest of the law may use of a turn's end -/
def RecOK (C n : Nat) (rc : Int32 → Int32 → hp_M → Option (Int32 × hp_M)) (k : Int32) : Prop := ∀ (v : HV) (nx ln : Nat) (M : hp_M), KJ C v nx ln M → v.flats = n → rc (nI ln) k M ≠ none
section LAW
variable {B C nx ln N : Nat} {v w : HV} {M : hp_M} {xs : Nat → Int32} {rc : Int32 → Int32 → hp_M → Option (Int32 × hp_M)} {y4 y5 k3 : Int32}
theorem KJ.mono (J : KJ B v nx ln M) (h : B ≤ C) : KJ C v nx ln M := ⟨J.1, k_mono J.2.1 h, J.2.2⟩
theorem KP.mono (p : KP B v w nx ln M) (h : B ≤ C) : KP C v w nx ln M := ⟨p.1, k_mono p.2.1 h, p.2.2⟩
/-- a refused deed -/
theorem law_A (hC : 10000 * C < 2 ^ 31) (J : KJ B v nx ln M) (hBC : B ≤ C) (hrec : RecOK C v.flats rc (y4 + 1)) {r : Int32} (hr : r < 0) : A_L_law_1000 N xs rc (nI ln) k3 y4 y5 r (hv_cs v) M ≠ none := by
  have ho := J.2.1.1.1.1
  unfold A_L_law_1000
  rw [if_pos hr]
  unfold A_L_law_1010
  rw [if_pos rfl]
  unfold A_L_law_1025
  rw [q_size11, hp_b_some, J.2.2.2.2.2, d_0 ln (by have := J.2.2.2.1; omega), if_pos rfl, h_holds J.1 J.2.1 (by omega), hp_b_some, if_neg (by decide), if_pos rfl, q_sum J.1 ho, hp_b_some, if_pos (lg_cmp_s _)]
  unfold A_L_law_1064
  rw [if_pos rfl]
  exact hrec v nx ln M (J.mono hBC) rfl
/-- a deed that changes -/
theorem law_B (hC : 10000 * C < 2 ^ 31) (hv : hv_k C v) (p : KP C v w nx ln M) (hw : w.flats = v.flats) (hrec : RecOK C v.flats rc (y4 + 1)) {r : Int32} (hr : 0 ≤ r) : A_L_law_1000 N xs rc (nI ln) k3 y4 y5 r (hv_cs v) M ≠ none := by
  have J := p.j
  have hl : ln < 9 := by have := p.2.2.2.2.1; omega
  have hr2 : ¬ r < 0 := by grind
  unfold A_L_law_1000
  rw [if_neg hr2]
  unfold A_L_law_1010
  rw [if_neg (by decide)]
  unfold A_L_law_1025
  rw [q_size11, hp_b_some, J.2.2.2.2.2, d_1 ln hl, if_pos rfl, h_holds J.1 J.2.1 hC, hp_b_some, if_neg (by decide), if_neg (by decide)]
  unfold A_L_law_1064
  rw [if_neg (by decide)]
  have last : rc (nI (min (ln + 1) 8)) (y4 + 1) M ≠ none := hrec w _ _ M J hw
  obtain ⟨M2, e, J2⟩ := d_undo hv p
  by_cases hu : ((y5.toUInt32 >>> ((29 : Int32).toUInt32 &&& Int32.toUInt32 31)).toInt32) &&& (3 : Int32) = (1 : Int32)
  · rw [if_pos hu, e, hp_b_some, if_pos (d_2 ln hl), q_sum J2.1 hv.1.1.1, hp_b_some, if_pos (lg_cmp_s _), ← d_2 ln hl]
    exact hrec v _ _ M2 J2 rfl
  · rw [if_neg hu]
    exact last
theorem c_want (hC : 10000 * C < 2 ^ 31) (J : KJ B v nx ln M) (hBC : B + 2000 ≤ C) (hrec : RecOK C v.flats rc (y4 + 1)) {f b : Nat} (hf : f < v.flats) (hb : b < 1024) : hp_b (F_X8_want (nI f) ((1 : Int32) + (nI b - nI b / (99 : Int32) * (99 : Int32))) M) (fun r11 M11 => (if v.num f 2 = 0 then (hp_b (F_X8_flat (nI f) (0 : Int32) M11) (fun r12 M12 => (A_L_law_236 N xs rc (nI ln) k3 y4 y5 (nI f) (nI b) (v.num f 2) r11 (hv_cs v) ((1 : Int32) + r12) r11 M12))) else (A_L_law_236 N xs rc (nI ln) k3 y4 y5 (nI f) (nI b) (v.num f 2) r11 (hv_cs v) (-2 : Int32) r11 M11))) ≠ none := by
  have e1 : (1 : Int32) + (nI b - nI b / (99 : Int32) * (99 : Int32)) = nI (1 + b % 99) := by rw [t_99 b hb]; exact nI_add 1 _
  have hx : 1 ≤ nI (1 + b % 99) ∧ nI (1 + b % 99) ≤ 99 := n_in (m := 98) (by omega) (by decide)
  rcases d_want J hf hx with ⟨h, e⟩ | ⟨h, M2, e, p⟩
  · rw [e1, e, hp_b_some, if_neg h]
    unfold A_L_law_236
    rw [if_pos rfl, if_neg h]
    exact law_A hC J (by omega) hrec (by decide)
  · have p := p.mono (C := C) (by omega)
    have ho := p.2.1.1.1.1
    have w0 : (hv_out v f (nI (1 + b % 99))).num f 0 = v.num f 0 := by simp [HV.flats, HV.time, HV.ended, HV.set, HV.acc, HV.num, HV.heard, HV.ph, HV.who, HV.spoken, HV.left, HV.out, HV.queue, HV.slate, HV.s_flats, HV.s_time, HV.s_ended, HV.s_set, HV.s_acc, HV.s_num, HV.s_heard, HV.s_ph, HV.s_who, HV.s_spoken, HV.s_left, HV.s_out, HV.s_queue, HV.s_slate, hv_out, hv_put, up2]
    have w2 : (hv_out v f (nI (1 + b % 99))).num f 2 = 1 := by simp [HV.flats, HV.time, HV.ended, HV.set, HV.acc, HV.num, HV.heard, HV.ph, HV.who, HV.spoken, HV.left, HV.out, HV.queue, HV.slate, HV.s_flats, HV.s_time, HV.s_ended, HV.s_set, HV.s_acc, HV.s_num, HV.s_heard, HV.s_ph, HV.s_who, HV.s_spoken, HV.s_left, HV.s_out, HV.s_queue, HV.s_slate, hv_out, hv_put, up2]
    have w3 : (hv_out v f (nI (1 + b % 99))).num f 3 = 1 + v.num f 0 := by simp [HV.flats, HV.time, HV.ended, HV.set, HV.acc, HV.num, HV.heard, HV.ph, HV.who, HV.spoken, HV.left, HV.out, HV.queue, HV.slate, HV.s_flats, HV.s_time, HV.s_ended, HV.s_set, HV.s_acc, HV.s_num, HV.s_heard, HV.s_ph, HV.s_who, HV.s_spoken, HV.s_left, HV.s_out, HV.s_queue, HV.s_slate, hv_out, hv_put, up2]
    have w4 : (hv_out v f (nI (1 + b % 99))).num f 4 = nI (1 + b % 99) := by simp [HV.flats, HV.time, HV.ended, HV.set, HV.acc, HV.num, HV.heard, HV.ph, HV.who, HV.spoken, HV.left, HV.out, HV.queue, HV.slate, HV.s_flats, HV.s_time, HV.s_ended, HV.s_set, HV.s_acc, HV.s_num, HV.s_heard, HV.s_ph, HV.s_who, HV.s_spoken, HV.s_left, HV.s_out, HV.s_queue, HV.s_slate, hv_out, hv_put, up2]
    have g0 : F_X8_flat (nI f) 0 M2 = some (v.num f 0, M2) := l_x p.1 ho hf 0 (by decide) (by decide) (by decide) w0
    have g2 : F_X8_flat (nI f) 2 M2 = some (1, M2) := l_x p.1 ho hf 2 (by decide) (by decide) (by decide) w2
    have g3 : F_X8_flat (nI f) 3 M2 = some (1 + v.num f 0, M2) := l_x p.1 ho hf 3 (by decide) (by decide) (by decide) w3
    have g4 : F_X8_flat (nI f) 4 M2 = some (nI (1 + b % 99), M2) := l_x p.1 ho hf 4 (by decide) (by decide) (by decide) w4
    have hfl := ok_flr J.2.1.1.1.1 f hf
    rw [e1, e, hp_b_some, if_pos h, g0, hp_b_some]
    unfold A_L_law_236
    rw [if_pos rfl, if_pos h, g2, hp_b_some, if_pos rfl, g3, hp_b_some, if_pos rfl, g4, hp_b_some, if_neg (by decide), if_pos e1.symm]
    exact law_B hC (k_mono J.2.1 (by omega)) p rfl hrec (by grind)
theorem held_iff (h : hv_k B v) {f : Nat} (hf : f < v.flats) (h1 : v.num f 2 = 1) : v.num f 4 = 0 ↔ v.ph = 1 ∧ v.who = f := by
  constructor
  · intro h4
    by_cases q : v.ph = 1 ∧ v.who = f
    · exact q
    · have := ok_wi h.1.1.1 f hf (Or.inr ⟨h1, q⟩)
      rw [h4] at this
      exact absurd this.1 (by decide)
  · intro q
    rw [← q.2]
    exact h.2.1.2.1 q.1
theorem c_drop (hC : 10000 * C < 2 ^ 31) (J : KJ B v nx ln M) (hBC : B + 2000 ≤ C) (hrec : RecOK C v.flats rc (y4 + 1)) {f : Nat} (hf : f < v.flats) {z : Int32} (hz : z = if v.num f 2 = 1 ∧ v.num f 4 = 0 then 1 else 0) : hp_b (F_X8_flat (nI f) (4 : Int32) M) (fun r25 M25 => (hp_b (F_X8_drop (nI f) M25) (fun r26 M26 => (if v.num f 2 = (2 : Int32) then (A_L_law_322 N xs rc (nI ln) k3 y4 y5 (nI f) r26 (hv_cs v) r25 r26 M26) else (if v.num f 2 = (1 : Int32) then (if z = 0 then (A_L_law_322 N xs rc (nI ln) k3 y4 y5 (nI f) r26 (hv_cs v) r25 r26 M26) else (A_L_law_327 N xs rc (nI ln) k3 y4 y5 (nI f) r26 (hv_cs v) r26 M26)) else (A_L_law_327 N xs rc (nI ln) k3 y4 y5 (nI f) r26 (hv_cs v) r26 M26)))))) ≠ none := by
  have ho := J.2.1.1.1.1
  have g4 : F_X8_flat (nI f) 4 M = some (v.num f 4, M) := l_n J.1 ho hf 4 (by decide) (by decide) (by decide)
  rw [g4, hp_b_some]
  rcases d_drop J hf with ⟨h, e⟩ | ⟨h, M2, e, p⟩
  · have no : A_L_law_327 N xs rc (nI ln) k3 y4 y5 (nI f) (-3) (hv_cs v) (-3) M ≠ none := by
      unfold A_L_law_327 A_L_law_329
      rw [if_pos rfl, if_pos (by decide)]
      exact law_A hC J (by omega) hrec (by decide)
    rw [e, hp_b_some, if_neg (fun q => h (Or.inl q))]
    by_cases h1 : v.num f 2 = 1
    · have hh : v.ph = 1 ∧ v.who = f := by
        by_cases q : v.ph = 1 ∧ v.who = f
        · exact q
        · exact absurd (Or.inr ⟨h1, q⟩) h
      have h4 := (held_iff J.2.1 hf h1).mpr hh
      have hz1 : z = 1 := by rw [hz, if_pos ⟨h1, h4⟩]
      rw [if_pos h1, hz1, if_neg (show ¬ (1 : Int32) = 0 by decide)]
      exact no
    · rw [if_neg h1]
      exact no
  · have p := p.mono (C := C) (by omega)
    have w2 : (hv_give v f).num f 2 = 0 := by simp [HV.flats, HV.time, HV.ended, HV.set, HV.acc, HV.num, HV.heard, HV.ph, HV.who, HV.spoken, HV.left, HV.out, HV.queue, HV.slate, HV.s_flats, HV.s_time, HV.s_ended, HV.s_set, HV.s_acc, HV.s_num, HV.s_heard, HV.s_ph, HV.s_who, HV.s_spoken, HV.s_left, HV.s_out, HV.s_queue, HV.s_slate, hv_give, hv_leave, hv_put, up2]
    have g2 : F_X8_flat (nI f) 2 M2 = some (0, M2) := l_x p.1 p.2.1.1.1.1 hf 2 (by decide) (by decide) (by decide) w2
    have hwi := ok_wi ho f hf (h.elim Or.inl (fun q => Or.inr q))
    have h0 : ¬ v.num f 4 < 0 := by
      have := hwi.1
      grind
    have yes : A_L_law_322 N xs rc (nI ln) k3 y4 y5 (nI f) (v.num f 4) (hv_cs v) (v.num f 4) (v.num f 4) M2 ≠ none := by
      unfold A_L_law_322 A_L_law_329
      rw [if_pos rfl, if_neg h0, g2, hp_b_some, if_pos rfl]
      exact law_B hC (k_mono J.2.1 (by omega)) p rfl hrec (by grind)
    rw [e, hp_b_some]
    by_cases h2 : v.num f 2 = 2
    · rw [if_pos h2]; exact yes
    · rcases h with q | ⟨h1, hh⟩
      · exact absurd q h2
      · have hz0 : z = 0 := by rw [hz, if_neg (fun q => hh ((held_iff J.2.1 hf h1).mp q.2))]
        rw [if_neg h2, if_pos h1, hz0, if_pos rfl]
        exact yes
theorem c_hang (hC : 10000 * C < 2 ^ 31) (J : KJ B v nx ln M) (hBC : B + 2000 ≤ C) (hrec : RecOK C v.flats rc (y4 + 1)) {f : Nat} (hf : f < v.flats) : hp_b (F_X8_size (4 : Int32) M) (fun r28 M28 => (hp_b (F_X8_flat (nI f) (6 : Int32) M28) (fun r29 M29 => (if v.num f 2 = (3 : Int32) then (hp_b (F_X8_size (6 : Int32) M29) (fun r30 M30 => (if r30 = 0 then (if r28 ≤ 0 then (A_L_law_395 N xs rc (nI ln) k3 y4 y5 (nI f) (v.num f 2) (hv_cs v) r28 r29 M30) else (hp_b (F_X8_cost r28 M30) (fun r35 M35 => (A_L_law_396 N xs rc (nI ln) k3 y4 y5 (nI f) (v.num f 2) (hv_cs v) r28 r29 r35 M35)))) else (A_L_law_395 N xs rc (nI ln) k3 y4 y5 (nI f) (v.num f 2) (hv_cs v) r28 r29 M30)))) else (A_L_law_395 N xs rc (nI ln) k3 y4 y5 (nI f) (v.num f 2) (hv_cs v) r28 r29 M29))))) ≠ none := by
  have ho := J.2.1.1.1.1
  have hi := J.2.1.1.2.1
  have g6 : F_X8_flat (nI f) 6 M = some (v.num f 6, M) := l_n J.1 ho hf 6 (by decide) (by decide) (by decide)
  rw [s_4 J.1 ho, hp_b_some, g6, hp_b_some]
  rcases d_hang (by omega) J hf with ⟨h, e⟩ | ⟨h, M2, e, p⟩
  · rw [if_neg h]
    unfold A_L_law_395 A_L_law_396
    rw [e, hp_b_some, if_neg h]
    unfold A_L_law_421
    rw [if_pos rfl, if_neg h]
    exact law_A hC J (by omega) hrec (by decide)
  · have p := p.mono (C := C) (by omega)
    obtain ⟨hp, hw⟩ := ok_sp2 ho f hf h
    have ow := p.2.1.1.1.1
    have w2 : (hv_end v).num f 2 = 0 := by rw [← hw]; simp [HV.flats, HV.time, HV.ended, HV.set, HV.acc, HV.num, HV.heard, HV.ph, HV.who, HV.spoken, HV.left, HV.out, HV.queue, HV.slate, HV.s_flats, HV.s_time, HV.s_ended, HV.s_set, HV.s_acc, HV.s_num, HV.s_heard, HV.s_ph, HV.s_who, HV.s_spoken, HV.s_left, HV.s_out, HV.s_queue, HV.s_slate, hv_end, hv_free, hv_acc, hv_put, up2]
    have w6 : (hv_end v).num f 6 = v.num f 6 + hv_due v := by rw [← hw]; simp [HV.flats, HV.time, HV.ended, HV.set, HV.acc, HV.num, HV.heard, HV.ph, HV.who, HV.spoken, HV.left, HV.out, HV.queue, HV.slate, HV.s_flats, HV.s_time, HV.s_ended, HV.s_set, HV.s_acc, HV.s_num, HV.s_heard, HV.s_ph, HV.s_who, HV.s_spoken, HV.s_left, HV.s_out, HV.s_queue, HV.s_slate, hv_end, hv_free, hv_acc, hv_put, up2]
    have g2 : F_X8_flat (nI f) 2 M2 = some (0, M2) := l_x p.1 ow hf 2 (by decide) (by decide) (by decide) w2
    have g6 : F_X8_flat (nI f) 6 M2 = some (v.num f 6 + hv_due v, M2) := l_x p.1 ow hf 6 (by decide) (by decide) (by decide) w6
    have s2 : F_X8_size 2 M2 = some (0, M2) := s_2 p.1 ow
    have yes : ∀ z : Int32, z = hv_due v → A_L_law_396 N xs rc (nI ln) k3 y4 y5 (nI f) (v.num f 2) (hv_cs v) v.spoken (v.num f 6) z M ≠ none := by
      intro z hz
      unfold A_L_law_396
      rw [e, hp_b_some, if_pos h]
      unfold A_L_law_421
      rw [if_pos rfl, if_pos h, s2, hp_b_some, if_pos rfl, g2, hp_b_some, if_pos rfl, g6, hp_b_some, if_pos (by rw [hz])]
      exact law_B hC (k_mono J.2.1 (by omega)) p rfl hrec hi.1.1
    rw [if_pos h, s_6 J.1 ho, hp_b_some]
    by_cases h0 : v.out = 0
    · rw [if_pos h0]
      have hd : hv_due v = hv_cost v v.spoken := by unfold hv_due; rw [if_pos h0]
      by_cases hs : v.spoken ≤ 0
      · have hs0 : v.spoken = 0 := by have := hi.1.1; grind
        rw [if_pos hs]
        unfold A_L_law_395
        exact yes 0 (by rw [hd, hs0, hv_cost_0 (ok_un ho)])
      · have hs1 : 1 ≤ v.spoken := by grind
        rw [if_neg hs, q_cost J.1 (by have := (ok_un ho).1; grind) ⟨hs1, hi.1.2.1⟩, hp_b_some]
        exact yes _ hd.symm
    · rw [if_neg h0]
      unfold A_L_law_395
      exact yes 0 (by unfold hv_due; rw [if_neg h0])
end LAW
