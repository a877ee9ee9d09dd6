/-! ===== texts: parsed from the buffer, and those built in ===== -/
section TXT
variable {B : Nat} {v d : HV} {ps : List HV} {nx b ty : Nat} {rp : List Int32} {M M' : hp_M}
theorem hp_J.keep {t : Nat} (h : hp_J B v ps nx b ty rp M) (e : ∀ g j i : Nat, g ≠ 1 → ¬ (g = 12 ∧ (j = 1 ∨ j = 2 ∨ (j = 0 ∧ i = 8))) → ¬ (g = 13 ∧ (j = 2 ∨ j = 7 ∨ 9 ≤ j ∨ (j = 1 ∧ 242 ≤ i) ∨ (j = 0 ∧ i ≠ 5 ∧ i ≠ 6 ∧ i ≠ 12))) → M' g j i = M g j i) (hb : bI t M') : hp_J B v ps nx b t rp M' := by
  obtain ⟨h1, h2, h3, h4, h5, h6, h7, h8, h9, h10⟩ := h
  exact ⟨h1.same (fun j i => e _ _ _ (by omega) (by omega) (by omega)), h2.row (fun i hi => e _ _ _ (by omega) (by omega) (by omega)), h3, hI_same h4 (e _ _ _ (by omega) (by omega) (by omega)) (e _ _ _ (by omega) (by omega) (by omega)) (e _ _ _ (by omega) (by omega) (by omega)) (fun g j i _ _ => e _ _ _ (by omega) (by omega) (by omega)) (fun i => e _ _ _ (by omega) (by omega) (by omega)), sI_same h5 (e _ _ _ (by omega) (by omega) (by omega)) (e _ _ _ (by omega) (by omega) (by omega)) (fun g j i _ _ => e _ _ _ (by omega) (by omega) (by omega)) (fun i => e _ _ _ (by omega) (by omega) (by omega)), hb, h7, h8, h9.same (fun j i => e _ _ _ (by omega) (by omega) (by omega)), h10.same (e _ _ _ (by omega) (by omega) (by omega)) (fun i => e _ _ _ (by omega) (by omega) (by omega))⟩
theorem sI_0 (h1 : M 12 0 5 = 0) (h2 : M 13 0 6 = 0) : sI 0 B M := ⟨by decide, h1.trans nI_0.symm, h2.trans nI_0.symm, fun s hs hb => absurd hb (by rw [Nat.zero_div]; decide)⟩
/-- `takeBytes` -/
theorem x_takeB {k : Nat} (hk : k ≤ 700) : ∃ M1, F_X5_takeBytes (nI k) M = some ((), M1) ∧ M1 12 1 1 = nI k ∧ M1 12 1 2 = 0 ∧ M1 12 1 9 = 0 ∧ (∀ i : Nat, i < 700 → M1 12 2 i = M 12 3 i) ∧ ∀ g j i : Nat, ¬ (g = 12 ∧ (j = 1 ∨ j = 2)) → M1 g j i = M g j i := by
  unfold F_X5_takeBytes F_X8_copyRow F_X5_begin
  have e2 : ∀ j i : Nat, hp_sr M 12 2 (hp_cpy 700 (M 12 3) (M 12 2)) 12 j i = if j = 2 then (if i < 700 then M 12 3 i else M 12 2 i) else M 12 j i := fun j i => by
    unfold hp_sr hp_cpy
    by_cases q : j = 2
    · rw [if_pos ⟨rfl, q⟩, if_pos q]
    · rw [if_neg (fun z => q z.2), if_neg q]
  have e3 : ∀ g j i : Nat, ¬ (g = 12 ∧ j = 2) → hp_sr M 12 2 (hp_cpy 700 (M 12 3) (M 12 2)) g j i = M g j i := fun g j i hg => by
    unfold hp_sr
    rw [if_neg hg]
  rw [hp_b_some, hp_b_some, if_neg (show ¬ (700 : Int32) < nI k from nI_nlt (a := 700) hk (by decide))]
  refine ⟨_, rfl, ?_, ?_, hp_p_s _ _ _ _ _, fun i hi => ?_, fun g j i hg => ?_⟩
  · rw [hp_p_o (h := by omega), hp_p_o (h := by omega), hp_p_s]
  · rw [hp_p_o (h := by omega), hp_p_s]
  · rw [hp_p_o (h := by omega), hp_p_o (h := by omega), hp_p_o (h := by omega), e2, if_pos rfl, if_pos hi]
  · rw [hp_p_o (h := by omega), hp_p_o (h := by omega), hp_p_o (h := by omega), e3 g j i (by omega)]
/-- `takeText` -/
theorem x_takeT {t : Nat} (h1 : t < 60) (h2 : 20 ≤ t) (hl : (hp_tx t).length ≤ 700) : ∃ M1, F_X5_takeText t M = some ((), M1) ∧ M1 12 1 1 = nI (hp_tx t).length ∧ M1 12 1 2 = 0 ∧ M1 12 1 9 = 0 ∧ (∀ i : Nat, i < (hp_tx t).length → M1 12 2 i = (hp_tx t).getD i 0) ∧ ∀ g j i : Nat, ¬ (g = 12 ∧ (j = 1 ∨ j = 2)) → M1 g j i = M g j i := by
  unfold F_X5_takeText
  obtain ⟨n', M2, e, q1, q2⟩ := hp_runs (T := fun n i M1 => L_X5_takeText_2 t n (nI i) M1) (I := fun i M3 => (∀ k : Nat, k < i → M3 12 2 k = (hp_tx t).getD k 0) ∧ ∀ g j k : Nat, ¬ (g = 12 ∧ j = 2) → M3 g j k = M g j k) (N := (hp_tx t).length) (fun n i M3 hi hM => by
    show ∃ M4, L_X5_takeText_2 t (n + 1) (nI i) M3 = L_X5_takeText_2 t n (nI (i + 1)) M4 ∧ _
    rw [L_X5_takeText_2.eq_2, j_len, hp_b_some, if_neg (nI_ge hi (by omega)), if_neg (show ¬ (700 : Int32) ≤ nI i from nI_ge (a := i) (b := 700) (by omega) (by decide)), j_char h1 h2 hi, hp_b_some, if_neg (nI_in (by omega) (by decide)), nI_clamp (by omega), nI_1]
    refine ⟨_, rfl, fun k hk => ?_, fun g j k hg => ?_⟩
    · by_cases q : k = i
      · rw [q, hp_p_s]
      · rw [hp_p_o (h := by omega)]; exact hM.1 k (by omega)
    · rw [hp_p_o (h := by omega)]; exact hM.2 g j k hg) hp_fu M (by unfold hp_fu; omega) ⟨fun k hk => absurd hk (by omega), fun _ _ _ _ => rfl⟩
  have fin : L_X5_takeText_2 t (n' + 1) (nI (hp_tx t).length) M2 = F_X5_begin (nI (hp_tx t).length) M2 := by
    rw [L_X5_takeText_2.eq_2, j_len, hp_b_some, if_pos (nI_le (Nat.le_refl _) (by omega)), j_len, hp_b_some]
    rfl
  have e' := e.trans fin
  rw [show L_X5_takeText_2 t hp_fu 0 M = _ from e']
  unfold F_X5_begin
  rw [if_neg (show ¬ (700 : Int32) < nI (hp_tx t).length from nI_nlt (a := 700) hl (by decide))]
  refine ⟨_, rfl, ?_, ?_, hp_p_s _ _ _ _ _, fun i hi => ?_, fun g j i hg => ?_⟩
  · rw [hp_p_o (h := by omega), hp_p_o (h := by omega), hp_p_s]
  · rw [hp_p_o (h := by omega), hp_p_s]
  · rw [hp_p_o (h := by omega), hp_p_o (h := by omega), hp_p_o (h := by omega)]; exact q1 i hi
  · rw [hp_p_o (h := by omega), hp_p_o (h := by omega), hp_p_o (h := by omega), q2 g j i (by omega)]
/-- the reference copies what was typed -/
theorem r_copyT {k : Nat} (hk : k ≤ 700) : ∃ M1, L_X9_parse_28 (nI k) hp_fu 0 M = hp_b (F_X9_parseAll M1) (fun r3 M3 => (if r3 = 0 then (some (((-2 : Int32) - (M3 13 0 18)), M3)) else (some ((M3 13 1 0), M3)))) ∧ M1 13 0 10 = nI k ∧ M1 13 0 9 = 0 ∧ (∀ i : Nat, i < k → M1 13 7 i = M 13 6 i) ∧ ∀ g j i : Nat, ¬ (g = 13 ∧ (j = 7 ∨ (j = 0 ∧ (i = 9 ∨ i = 10)))) → M1 g j i = M g j i := by
  obtain ⟨n', M2, e, q1, q2⟩ := hp_runs (T := fun n i M1 => L_X9_parse_28 (nI k) n (nI i) M1) (I := fun i M3 => (∀ m : Nat, m < i → M3 13 7 m = M 13 6 m) ∧ ∀ g j m : Nat, ¬ (g = 13 ∧ j = 7) → M3 g j m = M g j m) (N := k) (fun n i M3 hi hM => by
    show ∃ M4, L_X9_parse_28 (nI k) (n + 1) (nI i) M3 = L_X9_parse_28 (nI k) n (nI (i + 1)) M4 ∧ _
    rw [L_X9_parse_28.eq_2, if_neg (nI_ge hi (by omega)), if_neg (nI_in (by omega) (by decide)), if_neg (nI_in (by omega) (by decide)), nI_clamp (by omega), nI_1, hM.2 13 6 i (by omega)]
    refine ⟨_, rfl, fun m hm => ?_, fun g j m hg => ?_⟩
    · by_cases q : m = i
      · rw [q, hp_p_s]
      · rw [hp_p_o (h := by omega)]; exact hM.1 m (by omega)
    · rw [hp_p_o (h := by omega)]; exact hM.2 g j m hg) hp_fu M (by unfold hp_fu; omega) ⟨fun m hm => absurd hm (by omega), fun _ _ _ _ => rfl⟩
  have fin : L_X9_parse_28 (nI k) (n' + 1) (nI k) M2 = hp_b (F_X9_parseAll (hp_p (hp_p M2 13 0 10 (nI k)) 13 0 9 0)) (fun r3 M3 => (if r3 = 0 then (some (((-2 : Int32) - (M3 13 0 18)), M3)) else (some ((M3 13 1 0), M3)))) := by
    rw [L_X9_parse_28.eq_2, if_pos (nI_le (Nat.le_refl _) (by omega))]
  refine ⟨_, e.trans fin, ?_, hp_p_s _ _ _ _ _, fun i hi => ?_, fun g j i hg => ?_⟩
  · rw [hp_p_o (h := by omega), hp_p_s]
  · rw [hp_p_o (h := by omega), hp_p_o (h := by omega)]; exact q1 i hi
  · rw [hp_p_o (h := by omega), hp_p_o (h := by omega), q2 g j i (by omega)]
theorem q_parse (h : hp_J B v ps nx b ty rp M) (hB : 701000 ≤ B) (a : Int32) : QM [(0, 1)] B (F_X8_parse a) (F_X9_parse a) M := by
  obtain ⟨h1, h2, h3, h4, h5, h6, h7, h8, h9, h10⟩ := id h
  have e8 := h6.2.1
  by_cases hr : 0 ≤ a ∧ a ≤ nI ty
  · obtain ⟨k, rfl, hk⟩ := hp_rn (N := ty) (by have := h6.1; omega) rfl hr
    have hk7 : k ≤ 700 := by have := h6.1; omega
    obtain ⟨M1, t1, t2, t3, t4, t5, t6⟩ := x_takeB (M := M) hk7
    have hX : CX (fun i => M 12 3 i) k (hp_p M1 12 0 8 0) := ⟨by rw [hp_p_o (h := by omega)]; exact t2, fun i hi => by rw [hp_p_o (h := by omega)]; exact t5 i (by omega)⟩
    obtain ⟨Mx, hres⟩ := x8_repl hk7 hX ((hp_p_o _ _ _ _ _ (by omega)).trans t3) ((hp_p_o _ _ _ _ _ (by omega)).trans t4)
    have hXX : F_X8_parse (nI k) M = hp_b (F_X8_replaceByText (hp_p M1 12 0 8 0)) (fun r3 M3 => some (.inl r3, M3)) := by
      unfold F_X8_parse
      rw [e8, x_ri hr, hp_bx_l, t1, hp_b_some]
    have hRR : ∀ N : hp_M, (∀ j i : Nat, N 13 j i = M 13 j i) → ∀ r0 : Int32, ∃ Mc, F_X9_parse (nI k) (hp_p N 13 10 0 r0) = hp_b (F_X9_parseAll Mc) (fun r3 M3 => (if r3 = 0 then (some (((-2 : Int32) - (M3 13 0 18)), M3)) else (some ((M3 13 1 0), M3)))) ∧ RX (fun i => M 12 3 i) k Mc ∧ Mc 13 0 9 = 0 ∧ Mc 13 0 13 = 0 ∧ Mc 13 10 0 = r0 ∧ ∀ g j i : Nat, ¬ (g = 13 ∧ (j = 7 ∨ j = 10 ∨ (j = 0 ∧ (i = 9 ∨ i = 10 ∨ i = 13)))) → Mc g j i = N g j i := by
      intro N hN r0
      obtain ⟨Mc, c1, c2, c3, c4, c5⟩ := r_copyT (M := hp_p (hp_p N 13 10 0 r0) 13 0 13 0) hk7
      have e9 : hp_p N 13 10 0 r0 13 0 9 = nI ty := by rw [hp_p_o (h := by omega), hN]; exact h6.2.2.1
      refine ⟨Mc, ?_, ⟨c2, fun i hi => ?_⟩, c3, ?_, ?_, fun g j i hg => ?_⟩
      · unfold F_X9_parse A_X9_parse_18
        rw [e9, r_ri hr, hp_b_some, if_neg (by decide), r_th0, hp_b_some, if_pos rfl, c1]
      · rw [c4 i hi, hp_p_o (h := by omega), hp_p_o (h := by omega), hN]
        exact (h6.2.2.2 i (by omega)).symm
      · rw [c5 _ _ _ (by omega), hp_p_s]
      · rw [c5 _ _ _ (by omega), hp_p_o (h := by omega), hp_p_s]
      · rw [c5 g j i (by omega), hp_p_o (h := by omega), hp_p_o (h := by omega)]
    rcases hres with ⟨e, w1, w2, w3⟩ | ⟨d, w1, w2, w3, w4, w5, w6, w7⟩
    · have hN : ∀ j i : Nat, Mx 13 j i = M 13 j i := fun j i => by rw [w3 13 j i (by omega) (by omega), hp_p_o (h := by omega), t6 _ _ _ (by omega)]
      obtain ⟨Mc, c1, c2, c3, c4, c5, c6⟩ := hRR Mx hN (-2 - e)
      obtain ⟨r, M2, p1, p2, p3⟩ := r_parse hk7 c2
      rcases p3 with ⟨e', y1, y2, y3, y4, y5, y6⟩ | ⟨d', y1, y2, y3, y4, y5⟩
      · have hee : e' = e := by rw [y1] at w1; exact Sum.inl.inj w1
        have ef : ∀ g j i : Nat, g ≠ 1 → ¬ (g = 12 ∧ (j = 1 ∨ j = 2 ∨ (j = 0 ∧ i = 8))) → ¬ (g = 13 ∧ (j = 2 ∨ j = 7 ∨ 9 ≤ j ∨ (j = 1 ∧ 242 ≤ i) ∨ (j = 0 ∧ i ≠ 5 ∧ i ≠ 6 ∧ i ≠ 12))) → M2 g j i = M g j i := fun g j i x1 x2 x3 => by
          have z : Mc g j i = M g j i := by
            rw [c6 g j i (by omega), w3 g j i x1 (by omega), hp_p_o (h := by omega), t6 g j i (by omega)]
          by_cases q1 : g = 13 ∧ j = 1
          · obtain ⟨rfl, rfl⟩ := q1
            rw [y4 i (by omega)]; exact z
          · by_cases q2 : g = 13 ∧ j = 0 ∧ i = 5
            · obtain ⟨rfl, rfl, rfl⟩ := q2
              rw [y5]; exact z
            · by_cases q3 : g = 13 ∧ j = 0 ∧ i = 6
              · obtain ⟨rfl, rfl, rfl⟩ := q3
                rw [y6]; exact z
              · rw [p2 g j i (by omega)]; exact z
        refine Or.inl ⟨-2 - e, Mx, M2, ?_, ?_, (h.keep ef (t := 0) ⟨by omega, ?_, ?_, fun i hi => absurd hi (by omega)⟩).i, ?_, ?_⟩
        · rw [hXX, w2, hp_b_some]
        · rw [c1, p1, hp_b_some, y2, if_pos rfl, y3, hee]
        · rw [p2 _ _ _ (by omega), c6 _ _ _ (by omega), w3 _ _ _ (by omega) (by omega), hp_p_s]; rfl
        · rw [p2 _ _ _ (by omega), c3]; rfl
        · rw [p2 _ _ _ (by omega), c4]
        · rw [p2 _ _ _ (by omega), c5]
      · rw [y1] at w1; cases w1
    · have hN : ∀ j i : Nat, Mx 13 j i = M 13 j i := fun j i => by rw [w7 13 j i (by omega) (by omega) (by omega), hp_p_o (h := by omega), t6 _ _ _ (by omega)]
      obtain ⟨Mc, c1, c2, c3, c4, c5, c6⟩ := hRR Mx hN (nI d.flats)
      obtain ⟨r, M2, p1, p2, p3⟩ := r_parse hk7 c2
      rcases p3 with ⟨e', y1, y2, y3, y4, y5, y6⟩ | ⟨d', y1, y2, y3, y4, y5⟩
      · rw [y1] at w1; cases w1
      · have hdd : d' = d := by rw [y1] at w1; exact Sum.inr.inj w1
        subst hdd
        have hg : hv_g (B + 1000) d' := by
          rcases tk_text_in (T := fun i => M 12 3 i) hk7 with ⟨e, u1, u2⟩ | ⟨d2, u1, u2⟩
          · rw [w1] at u1; cases u1
          · rw [w1] at u1; cases u1; exact g_mono u2 (by omega)
        have o : ∀ g j i : Nat, g ≠ 0 → g ≠ 1 → ¬ (g = 12 ∧ (j = 1 ∨ j = 2 ∨ j = 4 ∨ (j = 0 ∧ (i = 5 ∨ i = 8)))) → ¬ (g = 13 ∧ (j = 1 ∨ j = 2 ∨ j = 7 ∨ 9 ≤ j ∨ (j = 0 ∧ i ≠ 12))) → M2 g j i = M g j i := fun g j i x1 x2 x3 x4 => by
          rw [p2 g j i (by omega), c6 g j i (by omega), w7 g j i x1 x2 (by omega), hp_p_o (h := by omega), t6 g j i (by omega)]
        have k : ∀ g j i : Nat, g ≠ 13 → M2 g j i = Mx g j i := fun g j i x1 => by rw [p2 g j i (by omega), c6 g j i (by omega)]
        refine Or.inl ⟨nI d'.flats, Mx, M2, ?_, ?_, ⟨d', [], 0, 0, 0, rp, w3.same (fun j i => k _ _ _ (by omega)), y3, hg, hI_nil ((k _ _ _ (by omega)).trans w5) ((k _ _ _ (by omega)).trans w6) y4, sI_0 ((k _ _ _ (by omega)).trans w4) y5, ⟨by omega, ?_, ?_, fun i hi => absurd hi (by omega)⟩, h7, h8, h9.same (fun j i => o _ _ _ (by omega) (by omega) (by omega) (by omega)), h10.same (o _ _ _ (by omega) (by omega) (by omega) (by omega)) (fun i => o _ _ _ (by omega) (by omega) (by omega) (by omega))⟩, ?_, ?_⟩
        · rw [hXX, w2, hp_b_some]
        · rw [c1, p1, hp_b_some, y2, if_neg (by decide), y3.fl]
        · rw [k _ _ _ (by omega), w7 _ _ _ (by omega) (by omega) (by omega), hp_p_s]; rfl
        · rw [p2 _ _ _ (by omega), c3]; rfl
        · rw [p2 _ _ _ (by omega), c4]
        · rw [p2 _ _ _ (by omega), c5]
  · refine QM.x h (kx := 0) (t := 1) (x := 0) (by simp) ?_ ?_
    · unfold F_X8_parse
      rw [e8, x_ro hr, hp_bx_r]
    · unfold F_X9_parse A_X9_parse_18
      rw [h6.2.2.1, r_ro hr, hp_b_some, if_pos rfl, r_th1, hp_b_some, if_neg (by decide)]
/-! the texts built in -/
theorem tk_bl_le {n : Nat} (hn : n < 3) : tk_bl n ≤ 700 := by
  rcases (show n = 0 ∨ n = 1 ∨ n = 2 by omega) with rfl | rfl | rfl <;> decide +kernel
theorem tk_len : (hp_tx 42).length ≤ 700 ∧ (hp_tx 43).length + (hp_tx 44).length ≤ 700 ∧ (hp_tx 45).length ≤ 700 := by decide +kernel
/-- the reference lays a text and reads it -/
theorem r_lay {n : Nat} {a0 : Int32} (e0 : a0 = nI n) (hn : n < 3) (hd : tk_text (tk_bt n) (tk_bl n) = .inr d) : ∃ M2, F_X9_lay a0 M = some ((), M2) ∧ RRep (M2 13 1) d ∧ M2 13 0 5 = 0 ∧ M2 13 0 6 = 0 ∧ ∀ g j i : Nat, ¬ (g = 13 ∧ (j = 1 ∨ j = 2 ∨ j = 7 ∨ j = 9 ∨ (j = 0 ∧ (i = 5 ∨ i = 6 ∨ i = 10 ∨ (14 ≤ i ∧ i ≤ 19))))) → M2 g j i = M g j i := by
  have go : ∀ M1 : hp_M, RX (tk_bt n) (tk_bl n) M1 → (∀ g j i : Nat, ¬ (g = 13 ∧ (j = 7 ∨ (j = 0 ∧ i = 10))) → M1 g j i = M g j i) → ∃ M2, hp_b (F_X9_parseAll M1) (fun r2 M2 => (some ((), M2))) = some ((), M2) ∧ RRep (M2 13 1) d ∧ M2 13 0 5 = 0 ∧ M2 13 0 6 = 0 ∧ ∀ g j i : Nat, ¬ (g = 13 ∧ (j = 1 ∨ j = 2 ∨ j = 7 ∨ j = 9 ∨ (j = 0 ∧ (i = 5 ∨ i = 6 ∨ i = 10 ∨ (14 ≤ i ∧ i ≤ 19))))) → M2 g j i = M g j i := by
    intro M1 hX hf
    obtain ⟨r, M2, p1, p2, p3⟩ := r_parse (tk_bl_le hn) hX
    rcases p3 with ⟨e, y1, y2⟩ | ⟨d', y1, y2, y3, y4, y5⟩
    · rw [hd] at y1; cases y1
    · rw [hd] at y1; cases y1
      exact ⟨M2, by rw [p1, hp_b_some], y3, y4, y5, fun g j i hg => by rw [p2 g j i (by omega), hf g j i (by omega)]⟩
  obtain ⟨l1, l2, l3⟩ := tk_len
  obtain ⟨b1, b2, b3⟩ := tk_bt_r
  unfold F_X9_lay
  have z : hp_p M 13 0 10 0 13 0 10 = nI 0 := (hp_p_s _ _ _ _ _).trans nI_0.symm
  rcases (show n = 0 ∨ n = 1 ∨ n = 2 by omega) with rfl | rfl | rfl
  · obtain ⟨M1, a1, a2, a3, a4, a5⟩ := r_tell (t := 42) (k := 0) (by decide) (by decide) z (by omega)
    rw [e0, if_pos nI_0, a1, hp_b_some]
    refine go M1 ⟨?_, fun i hi => ?_⟩ (fun g j i hg => by rw [a5 g j i hg, hp_p_o (h := by omega)])
    · rw [a2, Nat.zero_add, b1]; rfl
    · have := a3 i (by rw [b1]; exact hi)
      rw [Nat.zero_add, b1] at this
      exact this
  · obtain ⟨M1, a1, a2, a3, a4, a5⟩ := r_tell (t := 43) (k := 0) (by decide) (by decide) z (by omega)
    obtain ⟨M2, c1, c2, c3, c4, c5⟩ := r_tell (t := 44) (k := 0 + (hp_tx 43).length) (by decide) (by decide) a2 (by omega)
    rw [e0, if_neg (by decide), if_pos (by decide), a1, hp_b_some, c1, hp_b_some]
    refine go M2 ⟨?_, fun i hi => ?_⟩ (fun g j i hg => by rw [c5 g j i hg, a5 g j i hg, hp_p_o (h := by omega)])
    · rw [c2]
      show _ = nI (hp_tx 21).length
      rw [← b2, List.length_append, Nat.zero_add]
    · have hi' : i < (hp_tx 43).length + (hp_tx 44).length := by
        have : (hp_tx 21).length = (hp_tx 43).length + (hp_tx 44).length := by rw [← b2, List.length_append]
        rw [← this]; exact hi
      show M2 13 7 i = (hp_tx 21).getD i 0
      rw [← b2]
      by_cases q : i < (hp_tx 43).length
      · have := a3 i q
        rw [Nat.zero_add] at this
        rw [c4 i (by omega), this, List.getD_eq_getElem?_getD, List.getD_eq_getElem?_getD, List.getElem?_append_left q]
      · have := c3 (i - (hp_tx 43).length) (by omega)
        rw [show 0 + (hp_tx 43).length + (i - (hp_tx 43).length) = i by omega] at this
        rw [this, List.getD_eq_getElem?_getD, List.getD_eq_getElem?_getD, List.getElem?_append_right (by omega)]
  · obtain ⟨M1, a1, a2, a3, a4, a5⟩ := r_tell (t := 45) (k := 0) (by decide) (by decide) z (by omega)
    rw [e0, if_neg (by decide), if_neg (by decide), a1, hp_b_some]
    refine go M1 ⟨?_, fun i hi => ?_⟩ (fun g j i hg => by rw [a5 g j i hg, hp_p_o (h := by omega)])
    · rw [a2, Nat.zero_add, b3]; rfl
    · have := a3 i (by rw [b3]; exact hi)
      rw [Nat.zero_add, b3] at this
      exact this
/-- the class takes a text and puts the house in place -/
theorem x_lay {n : Nat} (hn : n < 3) (hd : tk_text (tk_bt n) (tk_bl n) = .inr d) : ∃ M2, (∃ M1, F_X5_takeText (20 + n) M = some ((), M1) ∧ F_X8_replaceByText M1 = some (nI d.flats, M2)) ∧ CRep (M2 0) d ∧ M2 12 0 5 = 0 ∧ M2 12 4 1 = 0 ∧ M2 12 4 2 = 0 ∧ ∀ g j i : Nat, g ≠ 0 → g ≠ 1 → ¬ (g = 12 ∧ (j = 1 ∨ j = 2 ∨ (j = 0 ∧ i = 5) ∨ j = 4)) → M2 g j i = M g j i := by
  obtain ⟨M1, t1, t2, t3, t4, t5, t6⟩ := x_takeT (M := M) (t := 20 + n) (by omega) (by omega) (tk_bl_le hn)
  obtain ⟨M2, hres⟩ := x8_repl (T := tk_bt n) (L := tk_bl n) (tk_bl_le hn) ⟨t2, fun i hi => t5 i hi⟩ t3 t4
  rcases hres with ⟨e, w1, w2⟩ | ⟨d', w1, w2, w3, w4, w5, w6, w7⟩
  · rw [hd] at w1; cases w1
  · rw [hd] at w1; cases w1
    exact ⟨M2, ⟨M1, t1, w2⟩, w3, w4, w5, w6, fun g j i x1 x2 x3 => by rw [w7 g j i x1 x2 (by omega), t6 g j i (by omega)]⟩
theorem q_load (h : hp_J B v ps nx b ty rp M) (hB : 701000 ≤ B) (a : Int32) : QM [(0, 1)] B (F_X8_load a) (F_X9_load a) M := by
  obtain ⟨h1, h2, h3, h4, h5, h6, h7, h8, h9, h10⟩ := id h
  by_cases hr : 0 ≤ a ∧ a ≤ 2
  · obtain ⟨n, rfl, hn⟩ := hp_rn (N := 2) (by decide) rfl hr
    obtain ⟨d, hd, hg⟩ := tk_bt_ok (n := n) (by omega)
    obtain ⟨Mx, ⟨M1, t1, t2⟩, w3, w4, w5, w6, w7⟩ := x_lay (M := M) (n := n) (by omega) hd
    obtain ⟨M2, p1, y3, y4, y5, p2⟩ := r_lay (M := hp_p (hp_p Mx 13 10 0 (nI d.flats)) 13 0 13 0) (n := n) (a0 := nI n) rfl (by omega) hd
    have k : ∀ g j i : Nat, g ≠ 13 → M2 g j i = Mx g j i := fun g j i x1 => by rw [p2 g j i (by omega), hp_p_o (h := by omega), hp_p_o (h := by omega)]
    have o : ∀ g j i : Nat, g ≠ 0 → g ≠ 1 → ¬ (g = 12 ∧ (j = 1 ∨ j = 2 ∨ j = 4 ∨ (j = 0 ∧ i = 5))) → ¬ (g = 13 ∧ (j = 1 ∨ j = 2 ∨ j = 7 ∨ 9 ≤ j ∨ (j = 0 ∧ i ≠ 9 ∧ i ≠ 12))) → M2 g j i = M g j i := fun g j i x1 x2 x3 x4 => by
      rw [p2 g j i (by omega), hp_p_o (h := by omega), hp_p_o (h := by omega), w7 g j i x1 x2 (by omega)]
    refine Or.inl ⟨nI d.flats, Mx, M2, ?_, ?_, ⟨d, [], 0, 0, ty, rp, w3.same (fun j i => k _ _ _ (by omega)), y3, g_mono hg (by omega), hI_nil ((k _ _ _ (by omega)).trans w5) ((k _ _ _ (by omega)).trans w6) y4, sI_0 ((k _ _ _ (by omega)).trans w4) y5, bI_same h6 (o _ _ _ (by omega) (by omega) (by omega) (by omega)) (o _ _ _ (by omega) (by omega) (by omega) (by omega)) (fun i => o _ _ _ (by omega) (by omega) (by omega) (by omega)) (fun i => o _ _ _ (by omega) (by omega) (by omega) (by omega)), h7, h8, h9.same (fun j i => o _ _ _ (by omega) (by omega) (by omega) (by omega)), h10.same (o _ _ _ (by omega) (by omega) (by omega) (by omega)) (fun i => o _ _ _ (by omega) (by omega) (by omega) (by omega))⟩, ?_, ?_⟩
    · unfold F_X8_load
      rw [x_ri hr, hp_bx_l]
      rcases (show n = 0 ∨ n = 1 ∨ n = 2 by omega) with rfl | rfl | rfl
      · rw [if_pos nI_0, show F_X5_takeText 20 M = _ from t1, hp_b_some, t2, hp_b_some]
      · rw [if_neg (by decide), if_pos (by decide), show F_X5_takeText 21 M = _ from t1, hp_b_some, t2, hp_b_some]
      · rw [if_neg (by decide), if_neg (by decide), show F_X5_takeText 22 M = _ from t1, hp_b_some, t2, hp_b_some]
    · unfold F_X9_load A_X9_load_15
      rw [r_ri hr, hp_b_some, if_neg (by decide), r_th0, hp_b_some, if_pos rfl, p1, hp_b_some, y3.fl]
    · rw [p2 _ _ _ (by omega), hp_p_s]
    · rw [p2 _ _ _ (by omega), hp_p_o (h := by omega), hp_p_s]
  · refine QM.x h (kx := 0) (t := 1) (x := 0) (by simp) ?_ ?_
    · unfold F_X8_load
      rw [x_ro hr, hp_bx_r]
    · unfold F_X9_load A_X9_load_15
      rw [r_ro hr, hp_b_some, if_pos rfl, r_th1, hp_b_some, if_neg (by decide)]
end TXT
