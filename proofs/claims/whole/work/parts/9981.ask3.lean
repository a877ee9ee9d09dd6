/-! ===== the answers without a refusal, together ===== -/
def QE {τ : Type} (B : Nat) (X R : hp_M → Option (τ × hp_M)) (M : hp_M) : Prop := ∃ r M1 M2, X M = some (r, M1) ∧ R M1 = some (r, M2) ∧ hp_I (B + 1000) M2
/-- the flat best known: which, and how many know it -/
def hv_mk (v : HV) : Nat → Int32 × Int32
  | 0 => (-1, 0)
  | n + 1 => if nI (hv_ct (hv_knp v n) v.flats) ≤ (hv_mk v n).2 then hv_mk v n else (nI n, nI (hv_ct (hv_knp v n) v.flats))
theorem x8_mk {M : hp_M} {v : HV} (c : CRep (M 0) v) : F_X8_mostKnown M = some ((hv_mk v v.flats).1, M) := by
  have h10 := c.fl10
  unfold F_X8_mostKnown
  obtain ⟨n', M', e, h⟩ := hp_runs (T := fun n i M1 => L_X8_mostKnown_6 n (hv_mk v i).1 (hv_mk v i).2 (nI i) M1) (I := fun _ M1 => M1 = M) (N := v.flats) (fun n i M1 hi hM => by
    subst hM
    refine ⟨M1, ?_, rfl⟩
    show L_X8_mostKnown_6 (n + 1) _ _ (nI i) M1 = L_X8_mostKnown_6 n _ _ (nI (i + 1)) M1
    rw [L_X8_mostKnown_6.eq_2, c.fl, if_neg (nI_ge hi (by omega)), x2_knowers (f := i) c rfl (by omega), hp_b_some, x_bitCount _ (by omega), hp_b_some, nI_1]
    by_cases q : nI (hv_ct (hv_knp v i) v.flats) ≤ (hv_mk v i).2
    · rw [if_pos q, show hv_mk v (i + 1) = hv_mk v i from if_pos q]
    · rw [if_neg q, show hv_mk v (i + 1) = (nI i, nI (hv_ct (hv_knp v i) v.flats)) from if_neg q]) hp_fu M (by unfold hp_fu; omega) rfl
  subst h
  refine e.trans ?_
  show L_X8_mostKnown_6 (n' + 1) _ _ (nI v.flats) M' = _
  rw [L_X8_mostKnown_6.eq_2, c.fl, if_pos (nI_le (Nat.le_refl _) (by omega))]
theorem r_mk {M : hp_M} {v : HV} (c : RRep (M 13 1) v) : L_X9_mostKnown_11 hp_fu (-1) 0 0 M = some ((hv_mk v v.flats).1, M) := by
  have h10 := c.fl10
  obtain ⟨n', M', e, h⟩ := hp_runs (T := fun n i M1 => L_X9_mostKnown_11 n (hv_mk v i).1 (hv_mk v i).2 (nI i) M1) (I := fun _ M1 => M1 = M) (N := v.flats) (fun n i M1 hi hM => by
    subst hM
    refine ⟨M1, ?_, rfl⟩
    show L_X9_mostKnown_11 (n + 1) _ _ (nI i) M1 = L_X9_mostKnown_11 n _ _ (nI (i + 1)) M1
    rw [L_X9_mostKnown_11.eq_2, c.fl, if_neg (nI_ge hi (by omega)), r_knowers (f := i) c rfl (by omega), hp_b_some, r_bits _ (by omega), hp_b_some, nI_1]
    by_cases q : nI (hv_ct (hv_knp v i) v.flats) ≤ (hv_mk v i).2
    · rw [if_pos q, show hv_mk v (i + 1) = hv_mk v i from if_pos q]
    · rw [if_neg q, show hv_mk v (i + 1) = (nI i, nI (hv_ct (hv_knp v i) v.flats)) from if_neg q]) hp_fu M (by unfold hp_fu; omega) rfl
  subst h
  refine e.trans ?_
  show L_X9_mostKnown_11 (n' + 1) _ _ (nI v.flats) M' = _
  rw [L_X9_mostKnown_11.eq_2, c.fl, if_pos (nI_le (Nat.le_refl _) (by omega))]
section ASK3
variable {B : Nat} {v : HV} {ps : List HV} {nx b ty : Nat} {rp : List Int32} {M : hp_M}
theorem QE.p {τ : Type} {X R : hp_M → Option (τ × hp_M)} (hJ : hp_J B v ps nx b ty rp M) (r : τ) (h1 : X M = some (r, M)) (h2 : R M = some (r, hp_p M 13 0 13 0)) : QE B X R M := ⟨r, M, _, h1, h2, (hJ.same (hp_Sm.t M 0)).i⟩
theorem QE.a {τ : Type} {X R : hp_M → Option (τ × hp_M)} (hJ : hp_J B v ps nx b ty rp M) (r : τ) {M1 : hp_M} (h1 : X M = some (r, M1)) (h0 : ∀ g : Nat, g ≠ 1 → M1 g = M g) (h2 : ∃ M2, R M1 = some (r, M2) ∧ RQ (hp_p M1 13 0 13 0) M2) : QE B X R M := by
  have j1 := hJ.same (hp_Sm.d h0)
  obtain ⟨M2, e1, e2⟩ := h2
  exact ⟨r, M1, M2, h1, e1, ((j1.same (hp_Sm.t _ 0)).same (hp_Sm.q e2)).i⟩
theorem q_queued (h : hp_J B v ps nx b ty rp M) (a : Int32) : QE B (F_X8_queued a) (F_X9_queued a) M := by
  have hq := h.1.q10
  have c2 := h.r0 0
  rcases hp_fl a v.queue.length hq with ⟨f, hf, rfl⟩ | hno
  · obtain ⟨x, hx⟩ : ∃ x, v.queue[f]? = some x := ⟨v.queue[f], List.getElem?_eq_getElem hf⟩
    refine QE.p h (nI x) ?_ ?_
    · unfold F_X8_queued F_X4_at
      rw [if_neg (nI_pos (by omega)), h.1.ql, if_neg (nI_ge hf (by omega)), if_neg (show ¬ (10 : Int32) ≤ nI f from nI_ge (a := f) (b := 10) (by omega) (by decide)), if_neg (nI_in (by omega) (by decide)), nI_clamp (by omega), h.1.qu f x hx, hp_b_some]
    · have ex : (31 : Int32) + nI f = nI (31 + f) := by rw [show (31 : Int32) = nI 31 from rfl, nI_add]
      obtain ⟨m, hm⟩ : ∃ m, v.queue.length = m + 1 := ⟨v.queue.length - 1, by omega⟩
      unfold F_X9_queued
      rw [c2.ql, hm, nI_pred, r_ri ⟨nI_pos' (by omega), nI_le (by omega) (by omega)⟩, hp_b_some, if_neg (by decide), ex, if_neg (nI_in (by omega) (by decide)), nI_clamp (by omega), c2.qu f x hx]
  · refine QE.p h (-1) ?_ ?_
    · unfold F_X8_queued F_X4_at
      rw [h.1.ql]
      by_cases q : a < 0
      · rw [if_pos q, hp_b_some]
      · rw [if_neg q, if_pos (by grind), hp_b_some]
    · have hh : ¬ (0 ≤ a ∧ a ≤ nI v.queue.length - 1) := fun q => hno ⟨q.1, by
        have h1 := nI_pos' (n := v.queue.length) (by omega)
        have h2 : nI v.queue.length ≤ nI 10 := nI_le hq (by decide)
        have h3 : nI 10 = 10 := rfl
        grind⟩
      unfold F_X9_queued
      rw [c2.ql, r_ro hh, hp_b_some, if_pos rfl]
theorem q_mostKnown (h : hp_J B v ps nx b ty rp M) : QE B F_X8_mostKnown F_X9_mostKnown M := QE.p h _ (x8_mk h.1) (r_mk (h.r0 0))
theorem q_freeIn (h : hp_J B v ps nx b ty rp M) : QE B F_X8_freeIn F_X9_freeIn M := by
  have hok := h.2.2.1.1
  obtain ⟨M1, a1, a2⟩ := x2_copy (g := 1) h.1 (ok_ou hok.1) (by decide)
  obtain ⟨M2, w, b1, b2⟩ := x2_tf a2.1 hok
  have h0 : ∀ g : Nat, g ≠ 1 → M2 g = M g := fun g hg => (b2.2 g hg).trans (a2.2 g hg)
  refine QE.a h (hv_tf 501 0 v) (M1 := M2) ?_ h0 ?_
  · unfold F_X8_freeIn
    rw [a1, hp_b_some, b1, hp_b_some]
  · obtain ⟨M3, d1, d2, d3⟩ := r_setAside (hp_p M2 13 0 13 0)
    have c3 : RRep (M3 13 1) v := ((h.same (hp_Sm.d h0)).r0 0).row (fun i _ => by rw [d3 13 1 (by omega)])
    obtain ⟨M4, w4, M5, e1, e2, e3⟩ := r_tf c3 hok
    obtain ⟨M6, g1, g2, g3⟩ := r_bringBack M4
    rw [g1] at e3
    cases e3
    unfold F_X9_freeIn
    rw [d1, hp_b_some, e1]
    exact ⟨_, rfl, RQ.back d2 d3 e2.2 g2 g3⟩
theorem q_bestLimit (h : hp_J B v ps nx b ty rp M) : QE B F_X8_bestLimit F_X9_bestLimit M := by
  obtain ⟨M1, a1, a2⟩ := x8_best h.1 h.2.2.1.1
  refine QE.a h _ a1 a2 ?_
  unfold F_X9_bestLimit
  exact r_best ((h.same (hp_Sm.d a2)).r0 0) h.2.2.1.1
theorem hv_lt_z {x : Int32} (h : hv_lt B x) (hB : B < 10000000) : (x ≤ 0 ↔ x = 0) := by
  obtain ⟨t, rfl, ht⟩ := h
  constructor
  · intro q
    have : t = 0 := by
      rcases Nat.eq_zero_or_pos t with z | z
      · exact z
      · exact absurd q (nI_ge (a := 0) z (by omega))
    rw [this]; rfl
  · intro q; rw [q]; decide
theorem q_mean (h : hp_J B v ps nx b ty rp M) (hB : B < 10000000) : ∃ r, F_X8_meanCall M = some (r, M) ∧ F_X9_meanCall M = some (r, hp_p M 13 0 13 0) ∧ r &&& 0x7fffffffffffffff ≤ 0x7ff0000000000000 := by
  have hz := hv_lt_z h.2.2.1.2.2.2.1 hB
  have c2 := h.r0 0
  have ea := c2.ac 1 (by decide) (by decide)
  have hX : F_X2_accountNumber 0 (1 : Int32) M = some (v.acc 1, M) := x2_an (k := 1) h.1 (by decide)
  unfold F_X8_meanCall F_X9_meanCall
  rw [hX, hp_b_some, show hp_p M 13 0 13 0 13 1 43 = v.acc 1 from ea, show hp_p M 13 0 13 0 13 1 41 = v.ended from c2.en, h.1.en]
  by_cases q : v.acc 1 = 0
  · rw [if_pos (hz.mpr q), if_pos q]
    exact ⟨_, rfl, rfl, fp_d0⟩
  · rw [if_neg (fun z => q (hz.mp z)), if_neg q, if_pos (fp_dd q), if_pos (fp_dd q)]
    exact ⟨_, rfl, rfl, fp_dd q⟩
theorem q_busy (h : hp_J B v ps nx b ty rp M) (hB : B < 10000000) : ∃ r, F_X8_busyShare M = some (r, M) ∧ F_X9_busyShare M = some (r, hp_p M 13 0 13 0) ∧ r &&& 0x7fffffff ≤ 0x7f800000 := by
  have hz := hv_lt_z h.2.2.1.2.2.1 hB
  have c2 := h.r0 0
  have hX : F_X2_accountNumber 0 (0 : Int32) M = some (v.time, M) := x2_an (k := 0) h.1 (by decide)
  have hX3 : F_X2_accountNumber 0 (3 : Int32) M = some (v.acc 3, M) := x2_an (k := 3) h.1 (by decide)
  unfold F_X8_busyShare F_X9_busyShare
  rw [hX, hp_b_some, show hp_p M 13 0 13 0 13 1 42 = v.time from c2.t2, show hp_p M 13 0 13 0 13 1 45 = v.acc 3 from c2.ac 3 (by decide) (by decide)]
  by_cases q : v.time = 0
  · rw [if_pos (hz.mpr q), if_pos q]
    exact ⟨_, rfl, rfl, fp_f0⟩
  · rw [if_neg (fun z => q (hz.mp z)), if_neg q, hX3, hp_b_some, if_pos (fp_ff q), if_pos (fp_ff q)]
    exact ⟨_, rfl, rfl, fp_ff q⟩
theorem hp_J.rpt {rp' : List Int32} {M' : hp_M} (h : hp_J B v ps nx b ty rp M) (e : ∀ g j i : Nat, g ≠ 14 → ¬ (g = 13 ∧ (j = 8 ∨ (j = 0 ∧ (i = 12 ∨ i = 13)))) → M' g j i = M g j i) (h1 : rp_ok rp') (h2 : rp'.length ≤ 79) (h3 : SB rp' M') (h4 : SR rp' M') : hp_J B v ps nx b ty rp' M' := by
  obtain ⟨a1, a2, a3, a4, a5, a6, a7, a8, a9, a10⟩ := h
  exact ⟨a1.same (fun j i => e _ _ _ (by omega) (by omega)), a2.row (fun i hi => e _ _ _ (by omega) (by omega)), a3, hI_same a4 (e _ _ _ (by omega) (by omega)) (e _ _ _ (by omega) (by omega)) (e _ _ _ (by omega) (by omega)) (fun g j i _ _ => e _ _ _ (by omega) (by omega)) (fun i => e _ _ _ (by omega) (by omega)), sI_same a5 (e _ _ _ (by omega) (by omega)) (e _ _ _ (by omega) (by omega)) (fun g j i _ _ => e _ _ _ (by omega) (by omega)) (fun i => e _ _ _ (by omega) (by omega)), bI_same a6 (e _ _ _ (by omega) (by omega)) (e _ _ _ (by omega) (by omega)) (fun i => e _ _ _ (by omega) (by omega)) (fun i => e _ _ _ (by omega) (by omega)), h1, h2, h3, h4⟩
theorem q_writeHouse (h : hp_J B v ps nx b ty rp M) : QE B F_X8_writeHouse F_X9_writeHouse M := by
  obtain ⟨f1, f2, f3⟩ := h.fl
  have hok := h.2.2.1.1.1
  obtain ⟨M1, a1, a2, a3⟩ := x8_wh h.1 hok h.2.2.2.2.2.2.2.2.1 h.2.2.2.2.2.2.2.1
  have c2 : RRep (hp_p (hp_p M1 13 0 13 0) 13 0 12 0 13 1) v := h.2.1.row (fun i _ => by rw [hp_p_o (h := by omega), hp_p_o (h := by omega), a3 _ _ _ (by omega)])
  obtain ⟨M2, b1, b2, b3⟩ := r_wh c2 hok ⟨(hp_p_s _ _ _ _ _).trans nI_0.symm, fun i x hx => by simp at hx⟩
  have hl := wh_len hok v.flats (Nat.le_refl _)
  have e : ∀ g j i : Nat, g ≠ 14 → ¬ (g = 13 ∧ (j = 8 ∨ (j = 0 ∧ (i = 12 ∨ i = 13)))) → M2 g j i = M g j i := fun g j i x y => by rw [b3 g j i (by omega), hp_p_o (h := by omega), hp_p_o (h := by omega), a3 g j i x]
  exact ⟨_, M1, M2, a1, by unfold F_X9_writeHouse; exact b1, (h.rpt e (rp_ok_wh v _) (by omega) (a2.same (fun j i => by rw [b3 _ _ _ (by omega), hp_p_o (h := by omega), hp_p_o (h := by omega)])) b2).i⟩
theorem q_writeSlate (h : hp_J B v ps nx b ty rp M) (hB : B < 10000000) : QE B F_X8_writeSlate F_X9_writeSlate M := by
  obtain ⟨f1, f2, f3⟩ := h.fl
  have hok := h.2.2.1
  obtain ⟨M1, a1, a2, a3⟩ := x8_ws h.1 hok hB h.2.2.2.2.2.2.2.2.1 h.2.2.2.2.2.2.2.1
  have c2 : RRep (hp_p (hp_p M1 13 0 13 0) 13 0 12 0 13 1) v := h.2.1.row (fun i _ => by rw [hp_p_o (h := by omega), hp_p_o (h := by omega), a3 _ _ _ (by omega)])
  obtain ⟨M2, b1, b2, b3⟩ := r_ws c2 hok hB ⟨(hp_p_s _ _ _ _ _).trans nI_0.symm, fun i x hx => by simp at hx⟩
  have hl := ws_len hok hB
  have e : ∀ g j i : Nat, g ≠ 14 → ¬ (g = 13 ∧ (j = 8 ∨ (j = 0 ∧ (i = 12 ∨ i = 13)))) → M2 g j i = M g j i := fun g j i x y => by rw [b3 g j i (by omega), hp_p_o (h := by omega), hp_p_o (h := by omega), a3 g j i x]
  exact ⟨_, M1, M2, a1, by unfold F_X9_writeSlate; exact b1, (h.rpt e (rp_ok_ws v) (by omega) (a2.same (fun j i => by rw [b3 _ _ _ (by omega), hp_p_o (h := by omega), hp_p_o (h := by omega)])) b2).i⟩
theorem hp_flN (a : Int32) (n : Nat) (hn : n < 2 ^ 31) : (∃ f : Nat, f < n ∧ a = nI f) ∨ ¬ (0 ≤ a ∧ a < nI n) := by
  by_cases h : 0 ≤ a ∧ a < nI n
  · obtain ⟨j, hj1, hj2⟩ := nI_of (x := a) (by grind)
    refine Or.inl ⟨j, ?_, hj2⟩
    have := h.2
    rw [hj2] at this
    exact (nI_ltI hj1 (by omega)).mp this
  · exact Or.inr h
theorem x_at {r : List Int32} (h : SB r M) (hr : rp_ok r) (hl : r.length ≤ 79) {f : Nat} {x : Int32} (hx : r[f]? = some x) : F_J4_charAt_5068e (nI f) M = some (x, M) := by
  have hf := (List.getElem?_eq_some_iff.mp hx).1
  obtain ⟨n, hn, rfl⟩ := hr x (List.mem_of_getElem? hx)
  obtain ⟨n1, n2, n3, n4, n5, n6⟩ := hp_nar7 n hn
  obtain ⟨s1, s2, ⟨cap, s3, s4, s5, s6⟩, s7⟩ := h
  unfold F_J4_charAt_5068e F_J5_charAt_5068e F_J0_checkIndex_df160 F_J3_checkIndex_8e157
  rw [s3, s1, s2, i32_shr0, if_neg (nI_pos (by omega)), if_neg (nI_nlt s4 (by omega))]
  rw [if_neg (show ¬ nI f < 0 from nI_pos (by omega)), if_pos (nI_lt hf (by omega)), hp_b_some, hp_b_some, if_pos rfl, s3, nI_clamp (by omega), nI_clamp (by omega), if_neg (fun q => q.elim (nI_pos (by omega)) (by omega)), s7 f _ hx, n6, if_pos n5, hp_b_some, if_pos n5]
theorem q_reportAt (h : hp_J B v ps nx b ty rp M) (a : Int32) : QE B (F_X8_reportAt a) (F_X9_reportAt a) M := by
  obtain ⟨h1, h2, h3, h4, h5, h6, hr, hl, hs, ht⟩ := id h
  have n0 := (hp_nar7 0 (by decide)).2.2.2.2.1
  rw [nI_0] at n0
  have e12 : hp_p M 13 0 13 0 13 0 12 = nI rp.length := (hp_p_o _ _ _ _ _ (by omega)).trans ht.1
  rcases hp_flN a rp.length (by omega) with ⟨f, hf, rfl⟩ | hno
  · obtain ⟨x, hx⟩ : ∃ x, rp[f]? = some x := ⟨rp[f], List.getElem?_eq_getElem hf⟩
    obtain ⟨n, hn, hxn⟩ := hr x (List.mem_of_getElem? hx)
    have n5 := (hp_nar7 n hn).2.2.2.2.1
    rw [← hxn] at n5
    refine QE.p h x ?_ ?_
    · unfold F_X8_reportAt
      rw [if_neg (nI_pos (by omega)), x_len hs, hp_b_some, if_neg (nI_ge hf (by omega)), x_at hs hr hl hx, hp_b_some, if_pos n5]
    · obtain ⟨m, hm⟩ : ∃ m, rp.length = m + 1 := ⟨rp.length - 1, by omega⟩
      have e8 : hp_p M 13 0 13 0 13 8 f = x := (hp_p_o _ _ _ _ _ (by omega)).trans (ht.2 f x hx)
      unfold F_X9_reportAt
      rw [e12, hm, nI_pred, r_ri ⟨nI_pos' (by omega), nI_le (by omega) (by omega)⟩, hp_b_some, if_neg (by decide), if_neg (nI_in (by omega) (by decide)), nI_clamp (by omega), e8, if_pos n5]
  · refine QE.p h 0 ?_ ?_
    · unfold F_X8_reportAt
      by_cases q : a < 0
      · rw [if_pos q, if_pos n0]
      · rw [if_neg q, x_len hs, hp_b_some, if_pos (by grind), if_pos n0]
    · have hh : ¬ (0 ≤ a ∧ a ≤ nI rp.length - 1) := fun q => hno ⟨q.1, by
        have h1 := nI_pos' (n := rp.length) (by omega)
        have h2 : nI rp.length ≤ nI 79 := nI_le hl (by decide)
        have h3 : nI 79 = 79 := rfl
        grind⟩
      unfold F_X9_reportAt
      rw [e12, r_ro hh, hp_b_some, if_pos rfl, if_pos n0]
theorem q_checksum (h : hp_J B v ps nx b ty rp M) : QE B F_X8_checksum F_X9_checksum M := QE.p h _ (x8_cs h.1 h.2.2.1.1.1) (by unfold F_X9_checksum; exact r_cs (h.r0 0) h.2.2.1.1.1)
end ASK3
