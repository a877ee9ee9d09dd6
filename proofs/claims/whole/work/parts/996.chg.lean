/-! ===== the changes, class and reference together ===== -/
/-- the class has kept the house as it was, and changed it -/
def CP (M M1 : hp_M) (v w : HV) (nx ln : Nat) : Prop := CRep (M1 0) w ∧ CRep (M1 (2 + nx)) v ∧ M1 12 4 1 = nI ((nx + 1) % 8) ∧ M1 12 4 2 = nI (min (ln + 1) 8) ∧ ∀ g j i : Nat, g ≠ 0 → g ≠ 2 + nx → ¬ (g = 12 ∧ j = 4) → M1 g j i = M g j i
/-- and so has the reference -/
def RP (M M2 : hp_M) (v w : HV) (ln : Nat) : Prop := RRep (M2 13 1) w ∧ M2 13 0 5 = nI (min (ln + 1) 8) ∧ RRep (fun i => M2 13 4 (242 * (min (ln + 1) 8 - 1) + i)) v ∧ (ln < 8 → ∀ i : Nat, i < 242 * ln → M2 13 4 i = M 13 4 i) ∧ (ln = 8 → ∀ i : Nat, i < 1694 → M2 13 4 i = M 13 4 (i + 242)) ∧ ∀ g j i : Nat, ¬ (g = 13 ∧ (j = 1 ∨ j = 2 ∨ j = 4 ∨ (j = 0 ∧ (i = 5 ∨ i = 13)))) → M2 g j i = M g j i
section CHG
variable {B : Nat} {v w : HV} {ps : List HV} {nx b ty : Nat} {rp : List Int32} {M M1 M2 : hp_M}
theorem hp_push (h : hp_J B v ps nx b ty rp M) (hc : CP M M1 v w nx ps.length) {x : Int32} (hr : RP (hp_p M1 13 10 0 x) M2 v w ps.length) (hg : hv_g (B + 1000) w) : hp_I (B + 1000) M2 := by
  obtain ⟨h1, h2, h3, h4, h5, h6, h7, h8, h9, h10⟩ := h
  obtain ⟨c1, c2, c3, c4, c5⟩ := hc
  obtain ⟨r1, r2, r3, r4, r5, r6⟩ := hr
  have hnx := h4.1
  have z : ∀ g j i : Nat, ¬ (g = 13 ∧ j = 10) → hp_p M1 13 10 0 x g j i = M1 g j i := fun g j i h => hp_p_o _ _ _ _ _ (by omega)
  have e : ∀ g j i : Nat, g ≠ 0 → g ≠ 2 + nx → ¬ (g = 12 ∧ j = 4) → ¬ (g = 13 ∧ (j = 1 ∨ j = 2 ∨ j = 4 ∨ j = 10 ∨ (j = 0 ∧ (i = 5 ∨ i = 13)))) → M2 g j i = M g j i := fun g j i a b c d => by rw [r6 g j i (by omega), z g j i (by omega), c5 g j i a b c]
  have e1 : ∀ g j i : Nat, g ≠ 13 → M2 g j i = M1 g j i := fun g j i a => by rw [r6 g j i (by omega), z g j i (by omega)]
  have e4 : ∀ i : Nat, hp_p M1 13 10 0 x 13 4 i = M 13 4 i := fun i => by rw [z _ _ _ (by omega), c5 _ _ _ (by omega) (by omega) (by omega)]
  refine ⟨w, v :: ps.take 7, (nx + 1) % 8, b, ty, rp, c1.same (fun j i => e1 0 j i (by decide)), r1, hg, ?_, ?_, ?_, h7, h8, ?_, ?_⟩
  · refine hI_push (hI_mono h4 (by omega)) (g_mono h3 (by omega)) (c2.same (fun j i => e1 _ j i (by omega))) ((e1 _ _ _ (by decide)).trans c3) ((e1 _ _ _ (by decide)).trans c4) (fun g j i ha hb hc => e g j i (by omega) hc (by omega) (by omega)) r2 r3 (fun q i hi => (r4 q i hi).trans (e4 i)) (fun q i hi => (r5 q i hi).trans (e4 _))
  · exact sI_same (sI_mono h5 (by omega)) (e _ _ _ (by omega) (by omega) (by omega) (by omega)) (e _ _ _ (by omega) (by omega) (by omega) (by omega)) (fun g j i ha hb => e g j i (by omega) (by omega) (by omega) (by omega)) (fun i => e _ _ _ (by omega) (by omega) (by omega) (by omega))
  · exact bI_same h6 (e _ _ _ (by omega) (by omega) (by omega) (by omega)) (e _ _ _ (by omega) (by omega) (by omega) (by omega)) (fun i => e _ _ _ (by omega) (by omega) (by omega) (by omega)) (fun i => e _ _ _ (by omega) (by omega) (by omega) (by omega))
  · exact h9.same (fun j i => e _ _ _ (by omega) (by omega) (by omega) (by omega))
  · exact h10.same (e _ _ _ (by omega) (by omega) (by omega) (by omega)) (fun i => e _ _ _ (by omega) (by omega) (by omega) (by omega))
/-- keep, then a change of the house alone -/
theorem CP.of (h : hp_J B v ps nx b ty rp M) : ∃ Mk, F_X1_keep 0 M = some ((), Mk) ∧ CRep (Mk 0) v ∧ ∀ (w : HV) (M1 : hp_M), CS 0 Mk w M1 → CP M M1 v w nx ps.length := by
  obtain ⟨h1, h2, h3, h4, -⟩ := h
  obtain ⟨Mk, a1, a2, a3, a4, a5⟩ := x1_keep h1 (ok_ou h3.1.1) h4.2.2.1 h4.1 h4.2.2.2.1 h4.2.1
  have hnx := h4.1
  refine ⟨Mk, a1, h1.same (fun j i => a5 0 j i (by omega) (by omega)), fun w M1 hc => ⟨hc.1, ?_, ?_, ?_, fun g j i hg hg2 hj => ?_⟩⟩
  · exact a2.same (fun j i => by rw [hc.2 _ (by omega)])
  · rw [hc.2 12 (by omega)]; exact a3
  · rw [hc.2 12 (by omega)]; exact a4
  · rw [hc.2 g hg]; exact a5 g j i hg2 hj
/-- begins, a change of the row alone, remember -/
theorem RP.of {M : hp_M} {ln : Nat} (c : RRep (M 13 1) v) (hl : M 13 0 5 = nI ln) (hln : ln ≤ 8) : ∃ Mb, F_X9_begins (hp_p M 13 0 13 0) = some ((), Mb) ∧ RRep (Mb 13 1) v ∧ (∀ g j : Nat, ¬ (g = 13 ∧ j = 2) → Mb g j = hp_p M 13 0 13 0 g j) ∧ ∀ (w : HV) (Md : hp_M) (r : Int32), 0 ≤ r → RS Mb w Md → ∃ M2, F_X9_remember r Md = some (r, M2) ∧ RP M M2 v w ln ∧ M2 13 0 13 = 0 ∧ M2 13 10 0 = M 13 10 0 := by
  obtain ⟨Mb, b1, b2, b3⟩ := r_begins (hp_p M 13 0 13 0)
  have zb : ∀ g j i : Nat, ¬ (g = 13 ∧ j = 2) → Mb g j i = hp_p M 13 0 13 0 g j i := fun g j i h => by rw [b3 g j h]
  have z0 : ∀ g j i : Nat, ¬ (g = 13 ∧ j = 0 ∧ i = 13) → hp_p M 13 0 13 0 g j i = M g j i := fun g j i h => hp_p_o _ _ _ _ _ h
  refine ⟨Mb, b1, c.row (fun i _ => by rw [zb _ _ _ (by omega), z0 _ _ _ (by omega)]), b3, fun w Md r hr hs => ?_⟩
  have zd : ∀ g j i : Nat, ¬ (g = 13 ∧ j = 1) → Md g j i = Mb g j i := fun g j i h => by rw [hs.2 g j h]
  obtain ⟨M2, d1, d2, d3, d4, d5, d6⟩ := r_rem (M := Md) hr (ln := ln) (by rw [zd _ _ _ (by omega), zb _ _ _ (by omega), z0 _ _ _ (by omega)]; exact hl) hln
  refine ⟨M2, d1, ⟨hs.1.row (fun i _ => d6 _ _ _ (by omega)), d2, c.row (fun i hi => ?_), fun q i hi => ?_, fun q i hi => ?_, fun g j i h => ?_⟩, ?_, ?_⟩
  · rw [d3 i hi, zd _ _ _ (by omega), b2 i hi, z0 _ _ _ (by omega)]
  · rw [d4 q i hi, zd _ _ _ (by omega), zb _ _ _ (by omega), z0 _ _ _ (by omega)]
  · rw [d5 q i hi, zd _ _ _ (by omega), zb _ _ _ (by omega), z0 _ _ _ (by omega)]
  · rw [d6 g j i (by omega), zd _ _ _ (by omega), zb _ _ _ (by omega), z0 _ _ _ (by omega)]
  · rw [d6 _ _ _ (by omega), zd _ _ _ (by omega), zb _ _ _ (by omega), hp_p_s]
  · rw [d6 _ _ _ (by omega), zd _ _ _ (by omega), zb _ _ _ (by omega), z0 _ _ _ (by omega)]
/-- a deed of a flat, in the class -/
theorem x8_deed (h : hp_J B v ps nx b ty rp M) {j f : Nat} {x : Int32} (hj : 6 ≤ j ∧ j < 11) (hf : f < v.flats) (hx : hp_vlea.getD j 0 ≤ x ∧ x ≤ hp_vgre.getD j 0) (hok : tk_ok v.flats j f x) : ∃ M1, (hv_ref v j f x = 0 ∧ F_X8_changeOfFlat j (nI f) x M = some (.inl (hv_res v j f x), M1) ∧ CP M M1 v (hv_do v j f x) nx ps.length) ∨ (hv_ref v j f x ≠ 0 ∧ M1 = M ∧ F_X8_changeOfFlat j (nI f) x M = some (.inl (-hv_ref v j f x), M)) := by
  obtain ⟨f1, f2, f3⟩ := h.fl
  have hA : (hp_vnam.getD j 0 = 0 ∧ nI f = -1) ∨ (hp_vnam.getD j 0 ≠ 0 ∧ nI f = nI f ∧ f < 10) := by
    refine Or.inr ⟨?_, rfl, by omega⟩
    have : ∀ j : Nat, j < 11 → 6 ≤ j → hp_vnam.getD j 0 ≠ 0 := by decide
    exact this j hj.2 hj.1
  unfold F_X8_changeOfFlat
  rw [x_fi f1 f2 hf, hp_bx_l, x_ri hx, hp_bx_l, x2_refusal h.1 h.2.2.1.1.1 rfl (by omega) hj.1 hj.2, hp_b_some]
  by_cases q : hv_ref v j f x = 0
  · obtain ⟨Mk, k1, k2, k3⟩ := CP.of h
    obtain ⟨M1, e1, e2⟩ := x2_do2 k2 h.2.2.1 hok q hA
    rw [if_pos q, k1, hp_b_some, e1, hp_b_some]
    exact ⟨M1, Or.inl ⟨q, rfl, k3 _ _ e2⟩⟩
  · rw [if_neg q]
    exact ⟨M, Or.inr ⟨q, rfl, rfl⟩⟩
/-- together: a flat's deed -/
theorem q_deed (h : hp_J B v ps nx b ty rp M) {j f : Nat} {x : Int32} {Lx : List (Nat × Int32)} {X : hp_M → Option ((Int32 ⊕ Nat) × hp_M)} {R : hp_M → Option (Int32 × hp_M)} (hj : 6 ≤ j ∧ j < 11) (hf : f < v.flats) (hx : hp_vlea.getD j 0 ≤ x ∧ x ≤ hp_vgre.getD j 0) (hok : tk_ok v.flats j f x) (hX : X M = hp_bx (F_X8_changeOfFlat j (nI f) x M) (fun r1 M1 => (some (.inl r1, M1)))) (D : hp_M → Option (Int32 × hp_M)) (hR : ∀ M', M' 13 1 0 = nI v.flats → R M' = hp_b (F_X9_begins (hp_p M' 13 0 13 0)) (fun _ M4 => (hp_b (D M4) (fun r5 M5 => (hp_b (F_X9_remember r5 M5) (fun r6 M6 => (some (r6, M6)))))))) (hD : ∀ M', RRep (M' 13 1) v → RD M' v j f x (D M')) : QM Lx B X R M := by
  have hln := h.2.2.2.1.2.1
  have h5 := h.2.2.2.1.2.2.2.2.1
  obtain ⟨M1, ⟨q, a1, a2⟩ | ⟨q, a0, a1⟩⟩ := x8_deed h hj hf hx hok
  · have cr : RRep (hp_p M1 13 10 0 (hv_res v j f x) 13 1) v := h.2.1.row (fun i _ => by rw [hp_p_o (h := by omega), a2.2.2.2.2 _ _ _ (by omega) (by have := h.2.2.2.1.1; omega) (by omega)])
    have c5 : hp_p M1 13 10 0 (hv_res v j f x) 13 0 5 = nI ps.length := by rw [hp_p_o (h := by omega), a2.2.2.2.2 _ _ _ (by omega) (by have := h.2.2.2.1.1; omega) (by omega)]; exact h5
    obtain ⟨Mb, b1, b2, b3, b4⟩ := RP.of cr c5 hln
    obtain ⟨r, Md, d1, ⟨d2, d3, d4, d5⟩ | ⟨d2, -⟩⟩ := hD Mb b2
    · obtain ⟨M2, e1, e2, e3, e4⟩ := b4 _ _ r d3 d5
      refine Or.inl ⟨hv_res v j f x, M1, M2, ?_, ?_, hp_push h a2 e2 (g_do h.2.2.1 hok q), e3, ?_⟩
      · rw [hX, a1, hp_bx_l]
      · rw [hR _ cr.fl, b1, hp_b_some, d1, hp_b_some, e1, hp_b_some, d4]
      · rw [e4, hp_p_s]
    · exact absurd q d2
  · subst a0
    have j1 := h.same (hp_Sm.o M1 (-hv_ref v j f x))
    obtain ⟨Mb, b1, b2, b3⟩ := r_begins (hp_p (hp_p M1 13 10 0 (-hv_ref v j f x)) 13 0 13 0)
    have cb : RRep (Mb 13 1) v := (j1.r0 0).row (fun i _ => by rw [b3 13 1 (by omega)])
    obtain ⟨r, Md, d1, ⟨d2, -⟩ | ⟨d2, d3, d4, d5⟩⟩ := hD Mb cb
    · exact absurd d2 q
    · have hrem : F_X9_remember r Md = some (r, Md) := by
        unfold F_X9_remember
        rw [if_neg (by grind)]
      have zd : ∀ g' j' i' : Nat, ¬ (g' = 13 ∧ (j' = 1 ∨ j' = 2)) → Md g' j' i' = hp_p (hp_p M1 13 10 0 (-hv_ref v j f x)) 13 0 13 0 g' j' i' := fun g' j' i' hh => by rw [d5.2 g' j' (by omega), b3 g' j' (by omega)]
      obtain ⟨k1, k2, k3, k4, k5, k6, k7, k8, k9, k10⟩ := (j1.same (hp_Sm.t _ 0)).mono (C := B + 1000) (by omega)
      have hI2 : hp_I (B + 1000) Md := ⟨v, ps, nx, b, ty, rp, k1.same (fun j i => zd _ _ _ (by omega)), d5.1, k3, hI_same k4 (zd _ _ _ (by omega)) (zd _ _ _ (by omega)) (zd _ _ _ (by omega)) (fun g j i _ _ => zd _ _ _ (by omega)) (fun i => zd _ _ _ (by omega)), sI_same k5 (zd _ _ _ (by omega)) (zd _ _ _ (by omega)) (fun g j i _ _ => zd _ _ _ (by omega)) (fun i => zd _ _ _ (by omega)), bI_same k6 (zd _ _ _ (by omega)) (zd _ _ _ (by omega)) (fun i => zd _ _ _ (by omega)) (fun i => zd _ _ _ (by omega)), k7, k8, k9.same (fun j i => zd _ _ _ (by omega)), k10.same (zd _ _ _ (by omega)) (fun i => zd _ _ _ (by omega))⟩
      refine Or.inl ⟨-hv_ref v j f x, M1, Md, ?_, ?_, hI2, ?_, ?_⟩
      · rw [hX, a1, hp_bx_l]
      · rw [hR _ j1.2.1.fl, b1, hp_b_some, d1, hp_b_some, hrem, hp_b_some, d4]
      · rw [zd _ _ _ (by omega), hp_p_s]
      · rw [zd _ _ _ (by omega), hp_p_o (h := by omega), hp_p_s]
theorem tk_ok_of {n j f : Nat} {x : Int32} (hj : 6 ≤ j ∧ j < 11) (hf : f < n) (hx : hp_vlea.getD j 0 ≤ x ∧ x ≤ hp_vgre.getD j 0) : tk_ok n j f x := by
  refine ⟨by omega, fun _ => hf, ?_⟩
  rcases (show j = 6 ∨ j = 7 ∨ j = 8 ∨ j = 9 ∨ j = 10 by omega) with rfl | rfl | rfl | rfl | rfl
  · obtain ⟨y, h1, h2⟩ := hp_rn (a := x) (hi := 99) (N := 99) (by decide) rfl ⟨by have := hx.1; have : (1 : Int32) ≤ x := this; grind, hx.2⟩
    exact Or.inr ⟨by decide, hx.1, hx.2, y, h1, by omega⟩
  · have h0 : (0 : Int32) ≤ x := hx.1
    have h1 : x ≤ 0 := hx.2
    exact Or.inl ⟨by decide, by grind⟩
  · have h0 : (0 : Int32) ≤ x := hx.1
    have h1 : x ≤ 0 := hx.2
    exact Or.inl ⟨by decide, by grind⟩
  · obtain ⟨y, h1, h2⟩ := hp_rn (a := x) (hi := 99) (N := 99) (by decide) rfl ⟨by have := hx.1; have : (1 : Int32) ≤ x := this; grind, hx.2⟩
    exact Or.inr ⟨by decide, hx.1, hx.2, y, h1, by omega⟩
  · obtain ⟨y, h1, h2⟩ := hp_rn (a := x) (hi := 9999) (N := 9999) (by decide) rfl ⟨by have := hx.1; have : (1 : Int32) ≤ x := this; grind, hx.2⟩
    exact Or.inr ⟨by decide, hx.1, hx.2, y, h1, by omega⟩
theorem q_want (h : hp_J B v ps nx b ty rp M) (a1 a2 : Int32) : QM [(1, 1), (0, 2)] B (F_X8_want a1 a2) (F_X9_want a1 a2) M := by
  obtain ⟨f1, f2, f3⟩ := h.fl
  rcases hp_fl a1 v.flats f1 with ⟨f, hf, rfl⟩ | hno
  · by_cases hx : 1 ≤ a2 ∧ a2 ≤ 99
    · refine q_deed h (j := 6) (by omega) hf hx (tk_ok_of (by omega) hf hx) rfl (F_X9_wants (nI f) a2) (fun M' e => ?_) (fun M' c => rd_6 c h.2.2.1 hf rfl)
      unfold F_X9_want A_X9_want_14 A_X9_want_29
      rw [r_fi f1 e hf, hp_b_some, if_neg (by decide), r_ri hx, hp_b_some, if_neg (by decide), r_th00, hp_b_some, if_pos rfl]
    · refine QM.x h (kx := 0) (t := 2) (x := 0) (by simp) ?_ ?_
      · unfold F_X8_want F_X8_changeOfFlat
        rw [x_fi f1 f2 hf, hp_bx_l, x_ro (lo := hp_vlea.getD 6 0) (hi := hp_vgre.getD 6 0) hx, hp_bx_r, hp_bx_r]
      · unfold F_X9_want A_X9_want_14 A_X9_want_29
        rw [r_fi f1 f3 hf, hp_b_some, if_neg (by decide), r_ro hx, hp_b_some, if_pos rfl, r_th01, hp_b_some, if_neg (by decide)]
  · refine QM.x h (kx := 1) (t := 1) (x := 0) (by simp) ?_ ?_
    · unfold F_X8_want F_X8_changeOfFlat
      rw [x_fo f2 hno, hp_bx_r, hp_bx_r]
    · unfold F_X9_want A_X9_want_14 A_X9_want_29
      rw [r_fo f1 f3 hno, hp_b_some, if_pos rfl]
      by_cases hx : 1 ≤ a2 ∧ a2 ≤ 99
      · rw [r_ri hx, hp_b_some, if_neg (by decide), r_th10, hp_b_some, if_neg (by decide)]
      · rw [r_ro hx, hp_b_some, if_pos rfl, r_th11, hp_b_some, if_neg (by decide)]
theorem q_ring (h : hp_J B v ps nx b ty rp M) (a1 a2 : Int32) : QM [(1, 1), (0, 2)] B (F_X8_ring a1 a2) (F_X9_ring a1 a2) M := by
  obtain ⟨f1, f2, f3⟩ := h.fl
  rcases hp_fl a1 v.flats f1 with ⟨f, hf, rfl⟩ | hno
  · by_cases hx : 1 ≤ a2 ∧ a2 ≤ 99
    · refine q_deed h (j := 9) (by omega) hf hx (tk_ok_of (by omega) hf hx) rfl (F_X9_rings (nI f) a2) (fun M' e => ?_) (fun M' c => rd_9 c h.2.2.1 hf rfl)
      unfold F_X9_ring A_X9_ring_14 A_X9_ring_29
      rw [r_fi f1 e hf, hp_b_some, if_neg (by decide), r_ri hx, hp_b_some, if_neg (by decide), r_th00, hp_b_some, if_pos rfl]
    · refine QM.x h (kx := 0) (t := 2) (x := 0) (by simp) ?_ ?_
      · unfold F_X8_ring F_X8_changeOfFlat
        rw [x_fi f1 f2 hf, hp_bx_l, x_ro (lo := hp_vlea.getD 9 0) (hi := hp_vgre.getD 9 0) hx, hp_bx_r, hp_bx_r]
      · unfold F_X9_ring A_X9_ring_14 A_X9_ring_29
        rw [r_fi f1 f3 hf, hp_b_some, if_neg (by decide), r_ro hx, hp_b_some, if_pos rfl, r_th01, hp_b_some, if_neg (by decide)]
  · refine QM.x h (kx := 1) (t := 1) (x := 0) (by simp) ?_ ?_
    · unfold F_X8_ring F_X8_changeOfFlat
      rw [x_fo f2 hno, hp_bx_r, hp_bx_r]
    · unfold F_X9_ring A_X9_ring_14 A_X9_ring_29
      rw [r_fo f1 f3 hno, hp_b_some, if_pos rfl]
      by_cases hx : 1 ≤ a2 ∧ a2 ≤ 99
      · rw [r_ri hx, hp_b_some, if_neg (by decide), r_th10, hp_b_some, if_neg (by decide)]
      · rw [r_ro hx, hp_b_some, if_pos rfl, r_th11, hp_b_some, if_neg (by decide)]
theorem q_pay (h : hp_J B v ps nx b ty rp M) (a1 a2 : Int32) : QM [(1, 1), (0, 2)] B (F_X8_pay a1 a2) (F_X9_pay a1 a2) M := by
  obtain ⟨f1, f2, f3⟩ := h.fl
  rcases hp_fl a1 v.flats f1 with ⟨f, hf, rfl⟩ | hno
  · by_cases hx : 1 ≤ a2 ∧ a2 ≤ 9999
    · refine q_deed h (j := 10) (by omega) hf hx (tk_ok_of (by omega) hf hx) rfl (F_X9_pays (nI f) a2) (fun M' e => ?_) (fun M' c => rd_10 c h.2.2.1 hf rfl hx.1)
      unfold F_X9_pay A_X9_pay_14 A_X9_pay_30
      rw [r_fi f1 e hf, hp_b_some, if_neg (by decide), r_ri hx, hp_b_some, if_neg (by decide), r_th00, hp_b_some, if_pos rfl]
    · refine QM.x h (kx := 0) (t := 2) (x := 0) (by simp) ?_ ?_
      · unfold F_X8_pay F_X8_changeOfFlat
        rw [x_fi f1 f2 hf, hp_bx_l, x_ro (lo := hp_vlea.getD 10 0) (hi := hp_vgre.getD 10 0) hx, hp_bx_r, hp_bx_r]
      · unfold F_X9_pay A_X9_pay_14 A_X9_pay_30
        rw [r_fi f1 f3 hf, hp_b_some, if_neg (by decide), r_ro hx, hp_b_some, if_pos rfl, r_th01, hp_b_some, if_neg (by decide)]
  · refine QM.x h (kx := 1) (t := 1) (x := 0) (by simp) ?_ ?_
    · unfold F_X8_pay F_X8_changeOfFlat
      rw [x_fo f2 hno, hp_bx_r, hp_bx_r]
    · unfold F_X9_pay A_X9_pay_14 A_X9_pay_30
      rw [r_fo f1 f3 hno, hp_b_some, if_pos rfl]
      by_cases hx : 1 ≤ a2 ∧ a2 ≤ 9999
      · rw [r_ri hx, hp_b_some, if_neg (by decide), r_th10, hp_b_some, if_neg (by decide)]
      · rw [r_ro hx, hp_b_some, if_pos rfl, r_th11, hp_b_some, if_neg (by decide)]
theorem q_drop (h : hp_J B v ps nx b ty rp M) (a1 : Int32) : QM [(1, 1)] B (F_X8_drop a1) (F_X9_drop a1) M := by
  obtain ⟨f1, f2, f3⟩ := h.fl
  rcases hp_fl a1 v.flats f1 with ⟨f, hf, rfl⟩ | hno
  · have hx : hp_vlea.getD 7 0 ≤ 0 ∧ (0 : Int32) ≤ hp_vgre.getD 7 0 := by decide
    refine q_deed h (j := 7) (by omega) hf hx (tk_ok_of (by omega) hf hx) rfl (F_X9_gives (nI f)) (fun M' e => ?_) (fun M' c => rd_7 c h.2.2.1 hf rfl)
    unfold F_X9_drop A_X9_drop_14
    rw [r_fi f1 e hf, hp_b_some, if_neg (by decide), r_th0, hp_b_some, if_pos rfl]
  · refine QM.x h (kx := 1) (t := 1) (x := 0) (by simp) ?_ ?_
    · unfold F_X8_drop F_X8_changeOfFlat
      rw [x_fo f2 hno, hp_bx_r, hp_bx_r]
    · unfold F_X9_drop A_X9_drop_14
      rw [r_fo f1 f3 hno, hp_b_some, if_pos rfl, r_th1, hp_b_some, if_neg (by decide)]
theorem q_hang (h : hp_J B v ps nx b ty rp M) (a1 : Int32) : QM [(1, 1)] B (F_X8_hang a1) (F_X9_hang a1) M := by
  obtain ⟨f1, f2, f3⟩ := h.fl
  rcases hp_fl a1 v.flats f1 with ⟨f, hf, rfl⟩ | hno
  · have hx : hp_vlea.getD 8 0 ≤ 0 ∧ (0 : Int32) ≤ hp_vgre.getD 8 0 := by decide
    refine q_deed h (j := 8) (by omega) hf hx (tk_ok_of (by omega) hf hx) rfl (F_X9_hangs (nI f)) (fun M' e => ?_) (fun M' c => rd_8 c h.2.2.1 hf rfl)
    unfold F_X9_hang A_X9_hang_14
    rw [r_fi f1 e hf, hp_b_some, if_neg (by decide), r_th0, hp_b_some, if_pos rfl]
  · refine QM.x h (kx := 1) (t := 1) (x := 0) (by simp) ?_ ?_
    · unfold F_X8_hang F_X8_changeOfFlat
      rw [x_fo f2 hno, hp_bx_r, hp_bx_r]
    · unfold F_X9_hang A_X9_hang_14
      rw [r_fo f1 f3 hno, hp_b_some, if_pos rfl, r_th1, hp_b_some, if_neg (by decide)]
/-- the verb of a setting -/
theorem x7_of (a : Int32) (M : hp_M) : (∃ k : Nat, k < 6 ∧ a = nI k ∧ F_X7_ofSetting a M = some (nI k, M)) ∨ (¬ (0 ≤ a ∧ a ≤ 5) ∧ F_X7_ofSetting a M = some (-1, M)) := by
  have step : ∀ (m j : Nat), j < 12 → L_X7_ofSetting_9 a (nI 12) (m + 1) (nI j) M = if hp_vset.getD j 0 = a then (if a = -1 then L_X7_ofSetting_9 a (nI 12) m (nI (j + 1)) M else some (nI j, M)) else L_X7_ofSetting_9 a (nI 12) m (nI (j + 1)) M := by
    intro m j hj
    rw [L_X7_ofSetting_9.eq_2, if_neg (nI_ge hj (by decide)), if_neg (nI_in hj (by decide)), nI_clamp (by omega), nI_1]
  obtain ⟨m, hm⟩ : ∃ m, hp_fu = m + 13 := ⟨hp_fu - 13, by unfold hp_fu; omega⟩
  have e0 : (0 : Int32) = nI 0 := nI_0.symm
  by_cases h : 0 ≤ a ∧ a ≤ 5
  · obtain ⟨k, rfl, hk⟩ := hp_rn (N := 5) (by decide) rfl h
    have hne : nI k ≠ -1 := fun q => nI_pos (n := k) (by omega) (by rw [q]; decide)
    refine Or.inl ⟨k, by omega, rfl, ?_⟩
    unfold F_X7_ofSetting
    have go : ∀ (d j m : Nat), j + d = k → L_X7_ofSetting_9 (nI k) (nI 12) (m + d + 1) (nI j) M = some (nI k, M) := by
      intro d
      induction d with
      | zero =>
        intro j m hj
        obtain rfl : j = k := by omega
        have hv : hp_vset.getD j 0 = nI j := by
          have : ∀ j : Nat, j < 6 → hp_vset.getD j 0 = nI j := by decide
          exact this j (by omega)
        rw [step _ _ (by omega), if_pos hv, if_neg hne]
      | succ d ih =>
        intro j m hj
        have hv : hp_vset.getD j 0 = nI j := by
          have : ∀ j : Nat, j < 6 → hp_vset.getD j 0 = nI j := by decide
          exact this j (by omega)
        rw [step _ _ (by omega), if_neg (by rw [hv]; exact fun q => by have := (nI_eq (by omega) (by omega)).mp q; omega)]
        exact ih (j + 1) m (by omega)
    rw [e0, show hp_fu = (hp_fu - k - 1) + k + 1 by unfold hp_fu; omega]
    exact go k 0 _ (by omega)
  · refine Or.inr ⟨h, ?_⟩
    unfold F_X7_ofSetting
    have no : ∀ j : Nat, j < 12 → hp_vset.getD j 0 = a → a = -1 := by
      intro j hj q
      have : ∀ j : Nat, j < 12 → (0 ≤ hp_vset.getD j 0 ∧ hp_vset.getD j 0 ≤ 5) ∨ hp_vset.getD j 0 = -1 := by decide
      rcases this j hj with z | z
      · rw [q] at z; exact absurd z h
      · rw [← q]; exact z
    have go : ∀ (d j m : Nat), j + d = 12 → L_X7_ofSetting_9 a (nI 12) (m + d + 1) (nI j) M = some (-1, M) := by
      intro d
      induction d with
      | zero =>
        intro j m hj
        rw [L_X7_ofSetting_9.eq_2, if_pos (nI_le (by omega) (by omega))]
      | succ d ih =>
        intro j m hj
        rw [step _ _ (by omega)]
        by_cases q : hp_vset.getD j 0 = a
        · rw [if_pos q, if_pos (no j (by omega) q)]
          exact ih (j + 1) m (by omega)
        · rw [if_neg q]
          exact ih (j + 1) m (by omega)
    rw [e0, hm]
    exact go 12 0 m (by omega)
theorem q_set (h : hp_J B v ps nx b ty rp M) (a1 a2 : Int32) : QM [(0, 1)] B (F_X8_set a1 a2) (F_X9_set a1 a2) M := by
  rcases x7_of a1 M with ⟨k, hk, rfl, e1⟩ | ⟨hno, e1⟩
  · have h05 : 0 ≤ nI k ∧ nI k ≤ 5 := ⟨nI_pos' (by omega), nI_le (b := 5) (by omega) (by decide)⟩
    by_cases hx : hp_vlea.getD k 0 ≤ a2 ∧ a2 ≤ hp_vgre.getD k 0
    · have hln := h.2.2.2.1.2.1
      have h5 := h.2.2.2.1.2.2.2.2.1
      have hnx := h.2.2.2.1.1
      obtain ⟨Mk, k1, k2, k3⟩ := CP.of h
      obtain ⟨M1, p1, p2⟩ := x2_perfS (a1 := -1) (x := a2) k2 hk
      have cp := k3 _ _ p2
      have z1 : ∀ g j i : Nat, g = 13 → j ≠ 10 → hp_p M1 13 10 0 (v.set k) g j i = M g j i := fun g j i a c => by rw [hp_p_o (h := by omega), cp.2.2.2.2 _ _ _ (by omega) (by omega) (by omega)]
      have cr : RRep (hp_p M1 13 10 0 (v.set k) 13 1) v := h.2.1.row (fun i _ => z1 _ _ _ rfl (by omega))
      obtain ⟨Mb, b1, b2, b3, b4⟩ := RP.of cr ((z1 13 0 5 rfl (by omega)).trans h5) hln
      have c3 := RS.set (i := k) (x := a2) b2 hk
      obtain ⟨M2, d1, d2, d3, d4⟩ := b4 _ _ (v.set k) (h.2.2.1.2.1.2 k hk) c3
      have ex : (7 : Int32) + nI k = nI (7 + k) := by rw [show (7 : Int32) = nI 7 from rfl, nI_add]
      have hg : hv_g (B + 1000) (v.s_set (up1 v.set k a2)) := by
        refine g_mono (g_set h.2.2.1 (fun q => ?_) ?_) (by omega)
        · subst q; exact hx
        · have : ∀ k : Nat, k < 6 → (0 : Int32) ≤ hp_vlea.getD k 0 := by decide
          have h0 := this k hk
          have h1 := hx.1
          have h2 := (show ∀ k : Nat, k < 6 → hp_vlea.getD k 0 ≤ (1 : Int32) by decide) k hk
          grind
      refine Or.inl ⟨v.set k, M1, M2, ?_, ?_, hp_push h cp d2 hg, d3, d4.trans (hp_p_s _ _ _ _ _)⟩
      · unfold F_X8_set
        rw [e1, hp_b_some, if_neg (nI_pos (by omega)), nI_clamp (by omega), if_pos (by omega), x_ri hx, hp_bx_l, k1, hp_b_some, p1, hp_b_some]
      · unfold F_X9_set A_X9_set_30
        rw [r_ri h05, hp_b_some, if_neg (by decide), (r_lm k hk _).1, hp_b_some, (r_lm k hk _).2, hp_b_some, r_ri hx, hp_b_some, if_neg (by decide), r_th0, hp_b_some, if_pos rfl, b1, hp_b_some, ex, if_neg (nI_in (by omega) (by decide)), if_neg (nI_in (by omega) (by decide)), nI_clamp (by omega), b2.st k hk, d1, hp_b_some]
    · refine QM.x h (kx := 0) (t := 1) (x := 0) (by simp) ?_ ?_
      · unfold F_X8_set
        rw [e1, hp_b_some, if_neg (nI_pos (by omega)), nI_clamp (by omega), if_pos (by omega), x_ro hx, hp_bx_r]
      · unfold F_X9_set A_X9_set_25 A_X9_set_30
        rw [r_ri h05, hp_b_some, if_neg (by decide), (r_lm k hk _).1, hp_b_some, (r_lm k hk _).2, hp_b_some, r_ro hx, hp_b_some, if_pos rfl, r_th1, hp_b_some, if_neg (by decide)]
  · refine QM.x h (kx := 0) (t := 1) (x := 0) (by simp) ?_ ?_
    · unfold F_X8_set
      rw [e1, hp_b_some, if_pos (by decide)]
    · unfold F_X9_set A_X9_set_25 A_X9_set_30
      rw [r_ro hno, hp_b_some, if_pos rfl, r_th1, hp_b_some, if_neg (by decide)]
theorem q_pass (h : hp_J B v ps nx b ty rp M) (a1 : Int32) : QM [(0, 1)] B (F_X8_pass a1) (F_X9_pass a1) M := by
  by_cases hx : 1 ≤ a1 ∧ a1 ≤ 999
  · obtain ⟨y, rfl, hy⟩ := hp_rn (a := a1) (N := 999) (by decide) rfl ⟨by have := hx.1; grind, hx.2⟩
    have hln := h.2.2.2.1.2.1
    have h5 := h.2.2.2.1.2.2.2.2.1
    have hnx := h.2.2.2.1.1
    obtain ⟨Mk, k1, k2, k3⟩ := CP.of h
    obtain ⟨M1, p1, p2⟩ := x2_perf11 (a1 := -1) (x := nI y) (k := y) k2 h.2.2.1.1 rfl (by omega)
    have cp := k3 _ _ p2
    obtain ⟨e, w1, w2, w3⟩ := hv_runE_nat h.2.2.1.1 h.2.2.1.2.1 y
    have z1 : ∀ g j i : Nat, g = 13 → j ≠ 10 → hp_p M1 13 10 0 (hv_runE y v 0) g j i = M g j i := fun g j i a c => by rw [hp_p_o (h := by omega), cp.2.2.2.2 _ _ _ (by omega) (by omega) (by omega)]
    have cr : RRep (hp_p M1 13 10 0 (hv_runE y v 0) 13 1) v := h.2.1.row (fun i _ => z1 _ _ _ rfl (by omega))
    obtain ⟨Mb, b1, b2, b3, b4⟩ := RP.of cr ((z1 13 0 5 rfl (by omega)).trans h5) hln
    obtain ⟨Md, m1, m2⟩ := r_minutes y (by omega) b2 h.2.2.1.1 (a0 := nI y) rfl
    obtain ⟨M2, d1, d2, d3, d4⟩ := b4 _ _ (hv_runE y v 0) (by rw [w2]; exact nI_pos' (by omega)) m2
    refine Or.inl ⟨hv_runE y v 0, M1, M2, ?_, ?_, hp_push h cp d2 (g_pass h.2.2.1 (by omega)), d3, d4.trans (hp_p_s _ _ _ _ _)⟩
    · unfold F_X8_pass
      rw [x_ri (lo := hp_vlea.getD 11 0) (hi := hp_vgre.getD 11 0) hx, hp_bx_l, k1, hp_b_some, p1, hp_b_some]
    · unfold F_X9_pass A_X9_pass_17
      rw [r_ri hx, hp_b_some, if_neg (by decide), r_th0, hp_b_some, if_pos rfl, b1, hp_b_some, m1, hp_b_some, w3, ← w2, d1, hp_b_some]
  · refine QM.x h (kx := 0) (t := 1) (x := 0) (by simp) ?_ ?_
    · unfold F_X8_pass
      rw [x_ro (lo := hp_vlea.getD 11 0) (hi := hp_vgre.getD 11 0) hx, hp_bx_r]
    · unfold F_X9_pass A_X9_pass_17
      rw [r_ro hx, hp_b_some, if_pos rfl, r_th1, hp_b_some, if_neg (by decide)]
end CHG
