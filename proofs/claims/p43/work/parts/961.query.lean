/-! ===== the questions of the class, as far as the law asks them: they change nothing ===== -/
section PURE
variable {M : hp_M} {v : HV}
theorem q_ri {a lo hi : Int32} (h : lo ≤ a ∧ a ≤ hi) : F_X8_checkRange a lo hi M = some ((), M) := by
  unfold F_X8_checkRange
  rw [if_neg (by grind), if_pos h.2]
theorem q_fi (c : CRep (M 0) v) {f : Nat} (hf : f < v.flats) : F_X8_checkFlat (nI f) M = some ((), M) := by
  have := c.fl10
  unfold F_X8_checkFlat
  rw [c.fl, if_neg (nI_pos (by omega)), if_pos (nI_lt hf (by omega))]
theorem q_k {k n : Nat} (h : k ≤ n) (hn : n < 100) : (0 : Int32) ≤ nI k ∧ nI k ≤ nI n := ⟨nI_pos' (by omega), nI_le h (by omega)⟩
theorem q_size (c : CRep (M 0) v) (ho : v.out = 0 ∨ v.out = 1) {k : Nat} (hk : k < 11) : F_X8_size (nI k) M = some (hv_hn v k, M) := by
  have e11 : ¬ nI k = (11 : Int32) := fun e => absurd ((nI_eq (b := 11) (by omega) (by decide)).mp e) (by omega)
  have e12 : ¬ nI k = (12 : Int32) := fun e => absurd ((nI_eq (b := 12) (by omega) (by decide)).mp e) (by omega)
  have e13 : ¬ nI k = (13 : Int32) := fun e => absurd ((nI_eq (b := 13) (by omega) (by decide)).mp e) (by omega)
  unfold F_X8_size
  rw [q_ri (a := nI k) (lo := 0) (hi := 13) (q_k (n := 13) (by omega) (by decide)), hp_b_some, if_neg e11, if_neg e12, if_neg e13, x2_hn c ho hk, hp_b_some]
theorem q_size11 : F_X8_size 11 M = some (M 12 4 2, M) := by
  unfold F_X8_size
  rw [q_ri (by decide), hp_b_some, if_pos rfl]
theorem q_set (c : CRep (M 0) v) {k : Nat} (hk : k < 6) : F_X8_setting (nI k) M = some (v.set k, M) := by
  unfold F_X8_setting
  rw [q_ri (a := nI k) (lo := 0) (hi := 5) (q_k (n := 5) (by omega) (by decide)), hp_b_some, x2_sn c rfl hk, hp_b_some]
theorem q_flat (c : CRep (M 0) v) (h : hv_ok v) {f k : Nat} (hf : f < v.flats) (hk : k < 11) : F_X8_flat (nI f) (nI k) M = some (hv_fn v f k, M) := by
  have := c.fl10
  unfold F_X8_flat
  rw [q_fi c hf, hp_b_some, q_ri (a := nI k) (lo := 0) (hi := 10) (q_k (n := 10) (by omega) (by decide)), hp_b_some, x2_fn c h rfl (by omega) hk, hp_b_some]
theorem q_heard (c : CRep (M 0) v) {f k : Nat} (hf : f < v.flats) (hk : k < v.flats) : F_X8_heard (nI f) (nI k) M = some (v.heard f k, M) := by
  have := c.fl10
  unfold F_X8_heard
  rw [q_fi c hf, hp_b_some, q_fi c hk, hp_b_some, x2_mh c rfl rfl (by omega) (by omega), hp_b_some]
theorem q_cost (c : CRep (M 0) v) (hu : 0 < v.set 1) {m : Int32} (hm : 1 ≤ m ∧ m ≤ 99) : F_X8_cost m M = some (hv_cost v m, M) := by
  unfold F_X8_cost
  rw [q_ri hm, hp_b_some, x2_cost c hu, hp_b_some]
theorem q_acc (c : CRep (M 0) v) {k : Nat} (hk : k < 11) : F_X8_account (nI k) M = some (hv_an v k, M) := by
  unfold F_X8_account
  rw [q_ri (a := nI k) (lo := 0) (hi := 10) (q_k (n := 10) (by omega) (by decide)), hp_b_some, x2_an c hk, hp_b_some]
theorem q_ifr (c : CRep (M 0) v) (h : hv_ok v) {f : Nat} (hf : f < v.flats) : F_X8_ifRung (nI f) M = some (if v.ph = 0 then hv_outc v f else 5, M) := by
  have := c.fl10
  unfold F_X8_ifRung
  rw [q_fi c hf, hp_b_some, x2_refusal (k := 9) c h rfl (by omega) (by decide) (by decide), hp_b_some, hv_ref9]
  by_cases hp : v.ph = 0
  · rw [if_pos hp, if_pos rfl, x2_outc c rfl (by omega), hp_b_some, if_pos hp]
  · rw [if_neg hp, if_neg (by decide), if_neg hp]
theorem q_q (c : CRep (M 0) v) {i x : Nat} (hx : v.queue[i]? = some x) : F_X8_queued (nI i) M = some (nI x, M) := by
  unfold F_X8_queued
  rw [x4_at c rfl hx, hp_b_some]
theorem q_qn (c : CRep (M 0) v) : F_X8_queued (nI v.queue.length) M = some (-1, M) := by
  have := c.q10
  unfold F_X8_queued F_X4_at
  rw [if_neg (nI_pos (by omega)), c.ql, if_pos (nI_le (Nat.le_refl _) (by omega)), hp_b_some]
theorem q_qm : F_X8_queued (-1) M = some (-1, M) := by
  unfold F_X8_queued F_X4_at
  rw [if_pos (by decide), hp_b_some]
theorem q_msg (c : CRep (M 0) v) {i : Nat} {x : Nat × Int32} (hx : v.slate[i]? = some x) : F_X8_message (nI i) 1 M = some (x.2, M) := by
  have h8 := c.s8
  have hi := (List.getElem?_eq_some_iff.mp hx).1
  unfold F_X8_message
  rw [if_neg (nI_pos (by omega)), c.sl, if_pos (nI_lt hi (by omega)), q_ri (by decide), hp_b_some, if_neg (by decide), x6_minuteAt c rfl hx, hp_b_some]
theorem q_sum (c : CRep (M 0) v) (h : hv_ok v) : F_X8_checksum M = some (hv_cs v, M) := x8_cs c h
end PURE
