/-! ===== letting minutes pass in the class ===== -/
def hv_run : Nat → HV → HV
  | 0, v => v
  | n + 1, v => hv_run n (hv_tick v)
def hv_runE : Nat → HV → Int32 → Int32
  | 0, _, e => e
  | n + 1, v, e => hv_runE n (hv_tick v) (e + hv_ends v)
/-- at the end of a minute, and between calls -/
def hv_ok2 (v : HV) : Prop := hv_ok v ∧ (v.ph ≠ 0 → 1 ≤ v.left)
section CLS7
variable {g : Nat} {M : hp_M} {v : HV}
theorem ok_fin (h : hv_ok v) : hv_ok (hv_fin v) := by
  unfold hv_fin
  by_cases h1 : hv_over v
  · rw [if_pos h1]; exact ok_end (ok_acc h) h1.1
  · rw [if_neg h1]; exact h
theorem ok_nx (h : hv_ok v) : hv_ok (hv_next v) := by
  unfold hv_next
  by_cases h1 : v.ph = 0
  · rw [if_pos h1]
    split
    · exact h
    · rename_i f l hq
      exact ok_next h h1 (by rw [hq]; exact List.mem_cons_self)
  · rw [if_neg h1]; exact h
theorem hv_down_ph (v : HV) (f : Nat) : (hv_down v f).left = v.left ∧ ((hv_down v f).ph = v.ph ∨ (hv_down v f).ph = 2) := by
  unfold hv_down
  split
  · split
    · unfold hv_arrive
      split
      · exact ⟨rfl, Or.inr rfl⟩
      · exact ⟨rfl, Or.inl rfl⟩
    · exact ⟨rfl, Or.inl rfl⟩
  · exact ⟨rfl, Or.inl rfl⟩
theorem hv_downs_ph (v : HV) : ∀ i : Nat, (hv_downs i v).left = v.left ∧ ((hv_downs i v).ph = v.ph ∨ (hv_downs i v).ph = 2) := by
  intro i
  induction i with
  | zero => exact ⟨rfl, Or.inl rfl⟩
  | succ i ih =>
    have e : hv_downs (i + 1) v = hv_down (hv_downs i v) i := rfl
    have h1 := hv_down_ph (hv_downs i v) i
    rw [e]
    refine ⟨h1.1.trans ih.1, ?_⟩
    rcases h1.2 with h | h
    · rw [h]; exact ih.2
    · exact Or.inr h
theorem ok_told (h : hv_ok2 v) : hv_ok (hv_told v) := by
  unfold hv_told
  by_cases hp : v.ph = 2
  · rw [if_pos hp]
    exact ok_hear _ (ok_talk0 h.1 hp (h.2 (by rw [hp]; decide)))
  · rw [if_neg hp]; exact h.1
theorem ok2_tick0 (h : hv_ok v) (hl : v.ph = 1 → 1 ≤ v.left) : hv_ok2 (hv_tick0 v) := by
  obtain ⟨h1, h2⟩ := ok_downs h v.flats (Nat.le_refl _)
  have h3 := hv_downs_ph v v.flats
  have h4 := ok_fin h1
  refine ⟨ok_wts (ok_nx h4), fun hp => ?_⟩
  show 1 ≤ (hv_next (hv_fin (hv_downs v.flats v))).left
  have hp : (hv_next (hv_fin (hv_downs v.flats v))).ph ≠ 0 := hp
  unfold hv_next at hp ⊢
  by_cases h5 : (hv_fin (hv_downs v.flats v)).ph = 0
  · rw [if_pos h5] at hp ⊢
    cases hq : (hv_fin (hv_downs v.flats v)).queue with
    | nil => simp only [hq] at hp; exact absurd h5 hp
    | cons f l =>
      have hf := ok_qin h4 f (by rw [hq]; exact List.mem_cons_self)
      exact (ok_wi h4 f hf.1 (Or.inl hf.2)).1
  · rw [if_neg h5]
    unfold hv_fin at h5 ⊢
    by_cases h6 : hv_over (hv_downs v.flats v)
    · rw [if_pos h6] at h5; exact absurd rfl h5
    · rw [if_neg h6] at h5 ⊢
      rcases ok_ph h1 with q | q | q
      · exact absurd q h5
      · rcases h3.2 with r | r
        · rw [h3.1]; exact hl (r.symm.trans q)
        · rw [q] at r; exact absurd r (by decide)
      · have h7 : ¬ (hv_downs v.flats v).left ≤ 0 := fun r => h6 ⟨q, Or.inl r⟩
        have h8 := ok_le h1
        grind
theorem ok2_tick (h : hv_ok2 v) : hv_ok2 (hv_tick v) := by
  unfold hv_tick
  refine ok2_tick0 (ok_told h) (fun hp => ?_)
  unfold hv_told at hp ⊢
  by_cases h2 : v.ph = 2
  · rw [if_pos h2] at hp
    have : (hv_talk v).ph = v.ph := (hv_hear_k _ _).2.2.2.1
    rw [this, h2] at hp
    exact absurd hp (by decide)
  · rw [if_neg h2] at hp ⊢
    exact h.2 (by rw [hp]; decide)
theorem x2_a104 (c : CRep (M g) v) (h : hv_ok v) (a0 : Int32) (rec14 : Int32 → Int32 → hp_M → Option (Int32 × hp_M)) (k2 k3 : Int32) : ∃ M', A_X2_letPass_104 g a0 rec14 k2 k3 M = rec14 k2 (k3 + 1) M' ∧ CS g M (hv_waits (hv_next v)) M' := by
  have h10 := c.q10
  unfold A_X2_letPass_104 hv_next
  rw [c.ph, c.ql]
  by_cases hp : v.ph = 0
  · rw [if_pos hp, if_pos hp]
    cases hq : v.queue with
    | nil =>
      rw [if_pos (by decide)]
      obtain ⟨M', e, c1⟩ := x2_waits c (ok_q10 h) (ok_qnd h)
      rw [e, hp_b_some]
      exact ⟨M', rfl, c1⟩
    | cons f l =>
      have hm : f ∈ v.queue := by rw [hq]; exact List.mem_cons_self
      have hf := ok_q10 h f hm
      have hl : (f :: l).length < 2 ^ 31 := by rw [← hq]; omega
      rw [if_neg (nI_nle (by simp) hl), x4_at (a0 := 0) (i := 0) (x := f) c rfl (by rw [hq]; rfl), hp_b_some, x2_g4 c rfl hf, hp_b_some]
      obtain ⟨M1, e1, c1⟩ := x2_conn (m := v.num f 4) c (ok_q10 h) (f := f) (a0 := nI f) rfl hf (Or.inl rfl)
      have h2 := ok_next h hp hm
      obtain ⟨M2, e2, c2⟩ := x2_waits c1.1 (ok_q10 h2) (ok_qnd h2)
      rw [e1, hp_b_some, e2, hp_b_some]
      exact ⟨M2, rfl, c1.tr c2⟩
  · rw [if_neg hp, if_neg hp]
    obtain ⟨M', e, c1⟩ := x2_waits c (ok_q10 h) (ok_qnd h)
    rw [e, hp_b_some]
    exact ⟨M', rfl, c1⟩
theorem x2_a94 (c : CRep (M g) v) (h : hv_ok v) (ho : hv_over v) (a0 : Int32) (rec14 : Int32 → Int32 → hp_M → Option (Int32 × hp_M)) (k2 k3 z : Int32) (hz : z = if v.left ≤ 0 then 0 else 1) : ∃ M', A_X2_letPass_94 g a0 rec14 k2 k3 z (M g 2 2) 2 M = rec14 (k2 + 1) (k3 + 1) M' ∧ CS g M (hv_waits (hv_next (hv_fin v))) M' := by
  unfold A_X2_letPass_94 hv_fin
  rw [if_neg (by decide), if_pos ho, show (2 : Int32).toNatClampNeg = 2 from by decide, c.ac 2 (by decide) (by decide)]
  have c1 := CS.acc (i := 2) (x := v.acc 2 + z) c
  have hp : v.ph ≠ 0 := by rw [ho.1]; decide
  obtain ⟨M2, e2, c2⟩ := x2_end c1.1 hp (ok_w10 h hp) (by have := (ok_un h).1; show 0 < v.set 1; grind)
  rw [e2, hp_b_some]
  have h2 : hv_ok (hv_end (v.s_acc (up1 v.acc 2 (v.acc 2 + z)))) := ok_end (ok_acc h) ho.1
  obtain ⟨M3, e3, c3⟩ := x2_a104 c2.1 h2 a0 rec14 (k2 + 1) k3
  subst hz
  exact ⟨M3, e3, (c1.tr c2).tr c3⟩
theorem x2_minute (c : CRep (M g) v) (h : hv_ok v) (a0 : Int32) (rec14 : Int32 → Int32 → hp_M → Option (Int32 × hp_M)) (k2 k3 : Int32) : ∃ M', A_X2_letPass_41 g a0 rec14 k2 k3 M = rec14 (k2 + (if hv_over (hv_downs v.flats v) then 1 else 0)) (k3 + 1) M' ∧ CS g M (hv_tick0 v) M' := by
  have h10 := c.fl10
  unfold A_X2_letPass_41
  obtain ⟨n', M1, e1, c1⟩ := x2_downs c h a0 rec14 k2 k3
  obtain ⟨h1, h2⟩ := ok_downs h v.flats (Nat.le_refl _)
  rw [e1, L_X2_letPass_44.eq_2, c1.1.fl, h2, if_pos (nI_le (Nat.le_refl _) (by omega)), x2_over c1.1, hp_b_some]
  by_cases ho : hv_over (hv_downs v.flats v)
  · rw [if_pos ho, if_neg (by decide), c1.1.le]
    by_cases hl : (hv_downs v.flats v).left ≤ 0
    · rw [if_pos hl]
      obtain ⟨M2, e2, c2⟩ := x2_a94 c1.1 h1 ho a0 rec14 k2 k3 0 (by rw [if_pos hl])
      exact ⟨M2, e2, c1.tr c2⟩
    · rw [if_neg hl]
      obtain ⟨M2, e2, c2⟩ := x2_a94 c1.1 h1 ho a0 rec14 k2 k3 1 (by rw [if_neg hl])
      exact ⟨M2, e2, c1.tr c2⟩
  · rw [if_neg ho, if_pos rfl]
    obtain ⟨M2, e2, c2⟩ := x2_a104 c1.1 h1 a0 rec14 k2 k3
    have e : hv_tick0 v = hv_waits (hv_next (hv_downs v.flats v)) := by unfold hv_tick0 hv_fin; rw [if_neg ho]
    rw [e]
    exact ⟨M2, by rw [e2]; congr 1; grind, c1.tr c2⟩
end CLS7
