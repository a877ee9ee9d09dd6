/-! ===== the deeds of the class: what the law may look at behind each ===== -/
theorem x7_of6 {k : Nat} (hk : k < 6) (M : hp_M) : F_X7_ofSetting (nI k) M = some (nI k, M) := by
  have step : ∀ (a : Int32) (m j : Nat), j < 12 → L_X7_ofSetting_9 a (nI 12) (m + 1) (nI j) M = if hp_vset.getD j 0 = a then (if a = -1 then L_X7_ofSetting_9 a (nI 12) m (nI (j + 1)) M else some (nI j, M)) else L_X7_ofSetting_9 a (nI 12) m (nI (j + 1)) M := by
    intro a m j hj
    rw [L_X7_ofSetting_9.eq_2, if_neg (nI_ge hj (by decide)), if_neg (nI_in hj (by decide)), nI_clamp (by omega), nI_1]
  have e0 : (0 : Int32) = nI 0 := nI_0.symm
  have hne : nI k ≠ -1 := fun q => nI_pos (n := k) (by omega) (by rw [q]; decide)
  unfold F_X7_ofSetting
  have go : ∀ (d j m : Nat), j + d = k → L_X7_ofSetting_9 (nI k) (nI 12) (m + d + 1) (nI j) M = some (nI k, M) := by
    intro d
    induction d with
    | zero =>
      intro j m hj
      obtain rfl : j = k := by omega
      have hv : hp_vset.getD j 0 = nI j := by
        have : ∀ j : Nat, j < 6 → hp_vset.getD j 0 = nI j := by decide
        exact this j (by omega)
      rw [step _ _ _ (by omega), if_pos hv, if_neg hne]
    | succ d ih =>
      intro j m hj
      have hv : hp_vset.getD j 0 = nI j := by
        have : ∀ j : Nat, j < 6 → hp_vset.getD j 0 = nI j := by decide
        exact this j (by omega)
      rw [step _ _ _ (by omega), if_neg (by rw [hv]; exact fun q => by have := (nI_eq (by omega) (by omega)).mp q; omega)]
      exact ih (j + 1) m (by omega)
  rw [e0, show hp_fu = (hp_fu - k - 1) + k + 1 by unfold hp_fu; omega]
  exact go k 0 _ (by omega)
/-- between two deeds: the house is v, and the history's numbers are right -/
def KJ (B : Nat) (v : HV) (nx ln : Nat) (M : hp_M) : Prop := CRep (M 0) v ∧ hv_k B v ∧ nx < 8 ∧ ln ≤ 8 ∧ M 12 4 1 = nI nx ∧ M 12 4 2 = nI ln
/-- behind a change from v to w: what was is kept -/
def KP (B : Nat) (v w : HV) (nx ln : Nat) (M : hp_M) : Prop := CRep (M 0) w ∧ hv_k B w ∧ CRep (M (2 + nx)) v ∧ nx < 8 ∧ ln ≤ 8 ∧ M 12 4 1 = nI ((nx + 1) % 8) ∧ M 12 4 2 = nI (min (ln + 1) 8)
section CHG
variable {B nx ln : Nat} {v w : HV} {M : hp_M}
theorem KP.j (p : KP B v w nx ln M) : KJ B w ((nx + 1) % 8) (min (ln + 1) 8) M := ⟨p.1, p.2.1, by omega, by omega, p.2.2.2.2.2.1, p.2.2.2.2.2.2⟩
theorem d_keep (J : KJ B v nx ln M) : ∃ M1, F_X1_keep 0 M = some ((), M1) ∧ CRep (M1 0) v ∧ CRep (M1 (2 + nx)) v ∧ M1 12 4 1 = nI ((nx + 1) % 8) ∧ M1 12 4 2 = nI (min (ln + 1) 8) := by
  obtain ⟨c, hk, hx, hl, e1, e2⟩ := J
  obtain ⟨M1, a1, a2, a3, a4, a5⟩ := x1_keep c (ok_ou hk.1.1.1) e1 hx e2 hl
  exact ⟨M1, a1, c.same (fun j i => a5 0 j i (by omega) (by omega)), a2, a3, a4⟩
theorem d_kp {C : Nat} {M1 M2 : hp_M} (J : KJ B v nx ln M) (b2 : CRep (M1 (2 + nx)) v) (b3 : M1 12 4 1 = nI ((nx + 1) % 8)) (b4 : M1 12 4 2 = nI (min (ln + 1) 8)) (s : CS 0 M1 w M2) (hk : hv_k C w) : KP C v w nx ln M2 := ⟨s.1, hk, by rw [s.2 (2 + nx) (by omega)]; exact b2, J.2.2.1, J.2.2.2.1, by rw [s.2 12 (by decide)]; exact b3, by rw [s.2 12 (by decide)]; exact b4⟩
theorem d_no (J : KJ B v nx ln M) {k f : Nat} {x : Int32} (hf : f < v.flats) (hk6 : 6 ≤ k) (hk : k < 11) (hr : hp_vlea.getD k 0 ≤ x ∧ x ≤ hp_vgre.getD k 0) (h0 : hv_ref v k f x ≠ 0) : F_X8_changeOfFlat k (nI f) x M = some (-(hv_ref v k f x), M) := by
  have h10 := J.1.fl10
  unfold F_X8_changeOfFlat
  rw [q_fi J.1 hf, hp_b_some, q_ri hr, hp_b_some, x2_refusal J.1 J.2.1.1.1.1 rfl (by omega) hk6 hk, hp_b_some, if_neg h0]
theorem d_yes (J : KJ B v nx ln M) {k f C : Nat} {x r : Int32} (hf : f < v.flats) (hk6 : 6 ≤ k) (hk : k < 11) (hr : hp_vlea.getD k 0 ≤ x ∧ x ≤ hp_vgre.getD k 0) (h0 : hv_ref v k f x = 0) (hw : hv_k C w) (hp : ∀ M1 : hp_M, CRep (M1 0) v → ∃ M2, F_X2_perform 0 k (nI f) x M1 = some (r, M2) ∧ CS 0 M1 w M2) : ∃ M2, F_X8_changeOfFlat k (nI f) x M = some (r, M2) ∧ KP C v w nx ln M2 := by
  have h10 := J.1.fl10
  obtain ⟨M1, a1, b1, b2, b3, b4⟩ := d_keep J
  obtain ⟨M2, a2, s⟩ := hp M1 b1
  refine ⟨M2, ?_, d_kp J b2 b3 b4 s hw⟩
  unfold F_X8_changeOfFlat
  rw [q_fi J.1 hf, hp_b_some, q_ri hr, hp_b_some, x2_refusal J.1 J.2.1.1.1.1 rfl (by omega) hk6 hk, hp_b_some, if_pos h0, a1, hp_b_some, a2, hp_b_some]
theorem d_want (J : KJ B v nx ln M) {f : Nat} {x : Int32} (hf : f < v.flats) (hx : 1 ≤ x ∧ x ≤ 99) : (v.num f 2 ≠ 0 ∧ F_X8_want (nI f) x M = some (-2, M)) ∨ (v.num f 2 = 0 ∧ ∃ M2, F_X8_want (nI f) x M = some (1 + v.num f 0, M2) ∧ KP B v (hv_out v f x) nx ln M2) := by
  have h10 := J.1.fl10
  have hr : hp_vlea.getD 6 0 ≤ x ∧ x ≤ hp_vgre.getD 6 0 := hx
  unfold F_X8_want
  by_cases h : v.num f 2 = 0
  · refine Or.inr ⟨h, ?_⟩
    obtain ⟨M2, e, p⟩ := d_yes (k := 6) J hf (by decide) (by decide) hr (by rw [hv_ref6, if_pos h]) (k_out J.2.1 hf h hx) (fun M1 c => x2_perf6 c rfl (by omega))
    exact ⟨M2, by rw [e, hp_b_some], p⟩
  · refine Or.inl ⟨h, ?_⟩
    have e : hv_ref v 6 f x = 2 := by rw [hv_ref6, if_neg h]
    rw [d_no (k := 6) J hf (by decide) (by decide) hr (by rw [e]; decide), e, hp_b_some]
theorem d_drop (J : KJ B v nx ln M) {f : Nat} (hf : f < v.flats) : (¬ (v.num f 2 = 2 ∨ (v.num f 2 = 1 ∧ ¬ (v.ph = 1 ∧ v.who = f))) ∧ F_X8_drop (nI f) M = some (-3, M)) ∨ ((v.num f 2 = 2 ∨ (v.num f 2 = 1 ∧ ¬ (v.ph = 1 ∧ v.who = f))) ∧ ∃ M2, F_X8_drop (nI f) M = some (v.num f 4, M2) ∧ KP B v (hv_give v f) nx ln M2) := by
  have h10 := J.1.fl10
  have hr : hp_vlea.getD 7 0 ≤ (0 : Int32) ∧ (0 : Int32) ≤ hp_vgre.getD 7 0 := by decide
  unfold F_X8_drop
  by_cases h : v.num f 2 = 2 ∨ (v.num f 2 = 1 ∧ ¬ (v.ph = 1 ∧ v.who = f))
  · refine Or.inr ⟨h, ?_⟩
    obtain ⟨M2, e, p⟩ := d_yes (k := 7) J hf (by decide) (by decide) hr (by rw [hv_ref7, if_pos h]) (k_give J.2.1 hf h) (fun M1 c => x2_perf7 c J.2.1.1.1.1 rfl (by omega))
    exact ⟨M2, by rw [e, hp_b_some], p⟩
  · refine Or.inl ⟨h, ?_⟩
    have e : hv_ref v 7 f 0 = 3 := by rw [hv_ref7, if_neg h]
    rw [d_no (k := 7) J hf (by decide) (by decide) hr (by rw [e]; decide), e, hp_b_some]
theorem d_hang (hB : 10000 * (B + 1) < 2 ^ 31) (J : KJ B v nx ln M) {f : Nat} (hf : f < v.flats) : (v.num f 2 ≠ 3 ∧ F_X8_hang (nI f) M = some (-4, M)) ∨ (v.num f 2 = 3 ∧ ∃ M2, F_X8_hang (nI f) M = some (v.spoken, M2) ∧ KP (B + 1) v (hv_end v) nx ln M2) := by
  have h10 := J.1.fl10
  have hr : hp_vlea.getD 8 0 ≤ (0 : Int32) ∧ (0 : Int32) ≤ hp_vgre.getD 8 0 := by decide
  unfold F_X8_hang
  by_cases h : v.num f 2 = 3
  · refine Or.inr ⟨h, ?_⟩
    have hp := (ok_sp2 J.2.1.1.1.1 f hf h).1
    obtain ⟨M2, e, p⟩ := d_yes (k := 8) J hf (by decide) (by decide) hr (by rw [hv_ref8, if_pos h]) (k_end hB J.2.1 hp) (fun M1 c => x2_perf8 c J.2.1.1.1.1 hp)
    exact ⟨M2, by rw [e, hp_b_some], p⟩
  · refine Or.inl ⟨h, ?_⟩
    have e : hv_ref v 8 f 0 = 4 := by rw [hv_ref8, if_neg h]
    rw [d_no (k := 8) J hf (by decide) (by decide) hr (by rw [e]; decide), e, hp_b_some]
theorem d_ring (J : KJ B v nx ln M) {f : Nat} {x : Int32} (hf : f < v.flats) (hx : 1 ≤ x ∧ x ≤ 99) : (v.ph ≠ 0 ∧ F_X8_ring (nI f) x M = some (-5, M)) ∨ (v.ph = 0 ∧ ∃ M2, F_X8_ring (nI f) x M = some (hv_outc v f, M2) ∧ KP B v (hv_ring v f x) nx ln M2) := by
  have h10 := J.1.fl10
  have hr : hp_vlea.getD 9 0 ≤ x ∧ x ≤ hp_vgre.getD 9 0 := hx
  unfold F_X8_ring
  by_cases h : v.ph = 0
  · refine Or.inr ⟨h, ?_⟩
    obtain ⟨M2, e, p⟩ := d_yes (k := 9) J hf (by decide) (by decide) hr (by rw [hv_ref9, if_pos h]) (k_ring J.2.1 hf h hx) (fun M1 c => x2_perf9 c J.2.1.1.1.1 rfl (by omega))
    exact ⟨M2, by rw [e, hp_b_some], p⟩
  · refine Or.inl ⟨h, ?_⟩
    have e : hv_ref v 9 f x = 5 := by rw [hv_ref9, if_neg h]
    rw [d_no (k := 9) J hf (by decide) (by decide) hr (by rw [e]; decide), e, hp_b_some]
theorem d_pay (hB : 10000 * B < 2 ^ 31) (J : KJ B v nx ln M) {f : Nat} {x : Int32} (hf : f < v.flats) (hx : 1 ≤ x ∧ x ≤ 9999) : (¬ x ≤ v.num f 6 ∧ F_X8_pay (nI f) x M = some (-6, M)) ∨ (x ≤ v.num f 6 ∧ ∃ M2, F_X8_pay (nI f) x M = some (v.num f 6 - x, M2) ∧ KP B v (hv_pay v f x) nx ln M2) := by
  have h10 := J.1.fl10
  have hr : hp_vlea.getD 10 0 ≤ x ∧ x ≤ hp_vgre.getD 10 0 := hx
  unfold F_X8_pay
  by_cases h : x ≤ v.num f 6
  · refine Or.inr ⟨h, ?_⟩
    obtain ⟨M2, e, p⟩ := d_yes (k := 10) J hf (by decide) (by decide) hr (by rw [hv_ref10, if_pos h]) (k_pay hB J.2.1 hf (by have := hx.1; grind) h) (fun M1 c => x2_perf10 c rfl (by omega))
    exact ⟨M2, by rw [e, hp_b_some], p⟩
  · refine Or.inl ⟨h, ?_⟩
    have e : hv_ref v 10 f x = 6 := by rw [hv_ref10, if_neg h]
    rw [d_no (k := 10) J hf (by decide) (by decide) hr (by rw [e]; decide), e, hp_b_some]
theorem d_cur (J : KJ B v nx ln M) {f : Nat} {z : Int32} (hf : f < v.flats) : ∃ M2, F_X8_setCurious (nI f) z M = some (if v.num f 1 = 1 then 1 else 0, M2) ∧ KP B v (hv_put v f 1 (if z = 0 then 0 else 1)) nx ln M2 := by
  have h10 := J.1.fl10
  obtain ⟨M1, a1, b1, b2, b3, b4⟩ := d_keep J
  have key : ∀ r : Int32, r = 0 ∨ r = 1 → ∃ M2, A_X8_setCurious_23 (nI f) z r M = some (r, M2) ∧ KP B v (hv_put v f 1 (if z = 0 then 0 else 1)) nx ln M2 := by
    intro r hr
    unfold A_X8_setCurious_23
    rw [a1, hp_b_some]
    by_cases hz : z = 0
    · rw [if_pos hz, if_pos hz, x2_p1 rfl (by omega), hp_b_some, if_pos hr]
      exact ⟨_, rfl, d_kp J b2 b3 b4 (CS.num b1 (by omega) (by decide)) (k_cur J.2.1)⟩
    · rw [if_neg hz, if_neg hz, x2_p1 rfl (by omega), hp_b_some, if_pos hr]
      exact ⟨_, rfl, d_kp J b2 b3 b4 (CS.num b1 (by omega) (by decide)) (k_cur J.2.1)⟩
  unfold F_X8_setCurious
  rw [q_fi J.1 hf, hp_b_some, x2_g1 J.1 rfl (by omega), hp_b_some]
  by_cases h : v.num f 1 = 1
  · rw [if_pos h, if_pos h]; exact key 1 (Or.inr rfl)
  · rw [if_neg h, if_neg h]; exact key 0 (Or.inl rfl)
theorem d_set (J : KJ B v nx ln M) {k : Nat} {x : Int32} (hk : k < 6) (hr : hp_vlea.getD k 0 ≤ x ∧ x ≤ hp_vgre.getD k 0) : ∃ M2, F_X8_set (nI k) x M = some (v.set k, M2) ∧ KP B v (v.s_set (up1 v.set k x)) nx ln M2 := by
  obtain ⟨M1, a1, b1, b2, b3, b4⟩ := d_keep J
  obtain ⟨M2, a2, s⟩ := x2_perfS (a1 := -1) (x := x) b1 hk
  have hk2 : hv_k B (v.s_set (up1 v.set k x)) := by
    refine k_set J.2.1 (fun e => ?_) (fun e => ?_) ?_
    · subst e; exact hr
    · subst e; exact hr
    · have : ∀ k : Nat, k < 6 → (0 : Int32) ≤ hp_vlea.getD k 0 := by decide
      have := this k hk
      have := hr.1
      grind
  refine ⟨M2, ?_, d_kp J b2 b3 b4 s hk2⟩
  unfold F_X8_set
  rw [x7_of6 hk, hp_b_some, if_neg (nI_pos (by omega)), nI_clamp (by omega), if_pos (by omega), q_ri hr, hp_b_some, a1, hp_b_some, a2, hp_b_some]
theorem d_pass (hB : B < 100000) (J : KJ B v nx ln M) {n : Nat} (h1 : 1 ≤ n) (hn : n < 1000) : ∃ M2, F_X8_pass (nI n) M = some (hv_runE n v 0, M2) ∧ KP (B + 2000) v ((hv_run n v).s_time (v.time + nI n)) nx ln M2 := by
  obtain ⟨M1, a1, b1, b2, b3, b4⟩ := d_keep J
  obtain ⟨M2, a2, s⟩ := x2_perf11 (a1 := -1) b1 J.2.1.1.1 rfl hn
  refine ⟨M2, ?_, d_kp J b2 b3 b4 s (k_pass hB J.2.1 hn)⟩
  have hr : hp_vlea.getD 11 0 ≤ nI n ∧ nI n ≤ hp_vgre.getD 11 0 := ⟨(nI_le h1 (by omega) : nI 1 ≤ nI n), (nI_le (by omega) (by decide) : nI n ≤ nI 999)⟩
  unfold F_X8_pass
  rw [q_ri hr, hp_b_some, a1, hp_b_some, a2, hp_b_some]
theorem d_undo {C : Nat} (hv : hv_k C v) (p : KP B v w nx ln M) : ∃ M2, F_X8_undo M = some (nI (min (ln + 1) 8 - 1), M2) ∧ KJ C v nx (min (ln + 1) 8 - 1) M2 := by
  obtain ⟨c1, k1, c2, h1, h2, e1, e2⟩ := p
  have hl : min (ln + 1) 8 = (min (ln + 1) 8 - 1) + 1 := by omega
  rw [hl] at e2
  obtain ⟨M2, a1, a2, a3, a4, -⟩ := x1_backK h1 e1 (by omega) e2 c2 (ok_ou hv.1.1.1)
  refine ⟨M2, ?_, a2, hv, h1, by omega, a3, a4⟩
  unfold F_X8_undo
  rw [a1, hp_b_some, if_neg (by decide), a4]
end CHG
