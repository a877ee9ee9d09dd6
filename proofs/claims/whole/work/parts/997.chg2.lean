/-! ===== undo, snapshots, texts, reports and the rest, together ===== -/
section CHG2
variable {B : Nat} {v w : HV} {ps : List HV} {nx b ty : Nat} {rp : List Int32} {M : hp_M}
/-- the house is put in place of another; nothing can be undone -/
theorem q_setCurious (h : hp_J B v ps nx b ty rp M) (a1 a2 : Int32) : (∃ r M1 M2, (r = 0 ∨ r = 1) ∧ F_X8_setCurious a1 a2 M = some (.inl r, M1) ∧ F_X9_setCurious a1 a2 (hp_p M1 13 10 0 r) = some (r, M2) ∧ hp_I (B + 1000) M2 ∧ M2 13 0 13 = 0 ∧ M2 13 10 0 = r) ∨ (∃ x M2, F_X8_setCurious a1 a2 M = some (.inr 1, M) ∧ F_X9_setCurious a1 a2 M = some (x, M2) ∧ hp_I (B + 1000) M2 ∧ M2 13 0 13 = 1) := by
  obtain ⟨f1, f2, f3⟩ := h.fl
  rcases hp_fl a1 v.flats f1 with ⟨f, hf, rfl⟩ | hno
  · have hln := h.2.2.2.1.2.1
    have h5 := h.2.2.2.1.2.2.2.2.1
    have hnx := h.2.2.2.1.1
    obtain ⟨Mk, k1, k2, k3⟩ := CP.of h
    -- the new value
    have key : ∀ (x r : Int32), (r = 0 ∨ r = 1) → ∃ M1 M2, F_X2_put 0 (nI f) 1 x Mk = some ((), M1) ∧ (∃ Mb Md, F_X9_begins (hp_p (hp_p M1 13 10 0 r) 13 0 13 0) = some ((), Mb) ∧ RRep (Mb 13 1) v ∧ F_X9_to (nI f) 1 x Mb = some ((), Md) ∧ F_X9_remember 0 Md = some (0, M2)) ∧ hp_I (B + 1000) M2 ∧ M2 13 0 13 = 0 ∧ M2 13 10 0 = r := by
      intro x r hr
      have p1 := x2_p1 (g := 0) (M := Mk) (f := f) (a0 := nI f) (x := x) rfl (by omega)
      have p2 := CS.num (f := f) (k := 1) (x := x) k2 (by omega) (by decide)
      have cp := k3 _ _ p2
      generalize hM1 : hp_p Mk 0 3 (11 * f + 1) x = M1 at *
      have z1 : ∀ g j i : Nat, g = 13 → j ≠ 10 → hp_p M1 13 10 0 r g j i = M g j i := fun g j i a c => by rw [hp_p_o (h := by omega), cp.2.2.2.2 _ _ _ (by omega) (by omega) (by omega)]
      have cr : RRep (hp_p M1 13 10 0 r 13 1) v := h.2.1.row (fun i _ => z1 _ _ _ rfl (by omega))
      obtain ⟨Mb, b1, b2, b3, b4⟩ := RP.of cr ((z1 13 0 5 rfl (by omega)).trans h5) hln
      obtain ⟨Md, t1, t2⟩ := r_t1 (f := f) (a0 := nI f) (x := x) b2 rfl (by omega)
      obtain ⟨M2, d1, d2, d3, d4⟩ := b4 _ _ 0 (by decide) t2
      exact ⟨M1, M2, p1, ⟨Mb, Md, b1, b2, t1, d1⟩, hp_push h cp d2 (g_mono (g_cur h.2.2.1) (by omega)), d3, d4.trans (hp_p_s _ _ _ _ _)⟩
    have both : ∀ r : Int32, (r = 0 ∨ r = 1) → (v.num f 1 = 1 ↔ r = 1) → ∃ M1 M2, F_X8_setCurious (nI f) a2 M = some (.inl r, M1) ∧ F_X9_setCurious (nI f) a2 (hp_p M1 13 10 0 r) = some (r, M2) ∧ hp_I (B + 1000) M2 ∧ M2 13 0 13 = 0 ∧ M2 13 10 0 = r := by
      intro r hr hv
      by_cases ha : a2 = 0
      · obtain ⟨M1, M2, e1, ⟨Mb, Md, b1, b2, t1, d1⟩, e3, e4, e5⟩ := key 0 r hr
        have fl1 : hp_p M1 13 10 0 r 13 1 0 = nI v.flats := by
          have := b2.fl
          obtain ⟨Mb', y1, y2, y3⟩ := r_begins (hp_p (hp_p M1 13 10 0 r) 13 0 13 0)
          rw [b1] at y1
          cases y1
          rw [y3 13 1 (by omega), hp_p_o (h := by omega)] at this
          exact this
        refine ⟨M1, M2, ?_, ?_, e3, e4, e5⟩
        · unfold F_X8_setCurious
          rw [x_fi f1 f2 hf, hp_bx_l, x2_g1 h.1 rfl (by omega), hp_b_some]
          by_cases q : v.num f 1 = 1
          · rw [if_pos q, k1, hp_b_some, if_pos ha, e1, hp_b_some, if_pos (Or.inr rfl), hv.mp q]
          · rw [if_neg q, k1, hp_b_some, if_pos ha, e1, hp_b_some, if_pos (Or.inl rfl), show r = 0 from hr.resolve_right (fun z => q (hv.mpr z))]
        · unfold F_X9_setCurious A_X9_setCurious_14 A_X9_setCurious_41
          rw [r_fi f1 fl1 hf, hp_b_some, if_neg (by decide), r_th0, hp_b_some, if_pos rfl, b1, hp_b_some, r_g1 b2 rfl (by omega), hp_b_some]
          by_cases q : v.num f 1 = 1
          · rw [if_pos q, if_pos ha, t1, hp_b_some, d1, hp_b_some, if_pos (Or.inr rfl), hv.mp q]
          · rw [if_neg q, if_pos ha, t1, hp_b_some, d1, hp_b_some, if_pos (Or.inl rfl), show r = 0 from hr.resolve_right (fun z => q (hv.mpr z))]
      · obtain ⟨M1, M2, e1, ⟨Mb, Md, b1, b2, t1, d1⟩, e3, e4, e5⟩ := key 1 r hr
        have fl1 : hp_p M1 13 10 0 r 13 1 0 = nI v.flats := by
          have := b2.fl
          obtain ⟨Mb', y1, y2, y3⟩ := r_begins (hp_p (hp_p M1 13 10 0 r) 13 0 13 0)
          rw [b1] at y1
          cases y1
          rw [y3 13 1 (by omega), hp_p_o (h := by omega)] at this
          exact this
        refine ⟨M1, M2, ?_, ?_, e3, e4, e5⟩
        · unfold F_X8_setCurious
          rw [x_fi f1 f2 hf, hp_bx_l, x2_g1 h.1 rfl (by omega), hp_b_some]
          by_cases q : v.num f 1 = 1
          · rw [if_pos q, k1, hp_b_some, if_neg ha, e1, hp_b_some, if_pos (Or.inr rfl), hv.mp q]
          · rw [if_neg q, k1, hp_b_some, if_neg ha, e1, hp_b_some, if_pos (Or.inl rfl), show r = 0 from hr.resolve_right (fun z => q (hv.mpr z))]
        · unfold F_X9_setCurious A_X9_setCurious_14 A_X9_setCurious_41
          rw [r_fi f1 fl1 hf, hp_b_some, if_neg (by decide), r_th0, hp_b_some, if_pos rfl, b1, hp_b_some, r_g1 b2 rfl (by omega), hp_b_some]
          by_cases q : v.num f 1 = 1
          · rw [if_pos q, if_neg ha, t1, hp_b_some, d1, hp_b_some, if_pos (Or.inr rfl), hv.mp q]
          · rw [if_neg q, if_neg ha, t1, hp_b_some, d1, hp_b_some, if_pos (Or.inl rfl), show r = 0 from hr.resolve_right (fun z => q (hv.mpr z))]
    by_cases q : v.num f 1 = 1
    · obtain ⟨M1, M2, hh⟩ := both 1 (Or.inr rfl) ⟨fun _ => rfl, fun _ => q⟩
      exact Or.inl ⟨1, M1, M2, Or.inr rfl, hh⟩
    · obtain ⟨M1, M2, hh⟩ := both 0 (Or.inl rfl) ⟨fun z => absurd z q, fun z => absurd z (by decide)⟩
      exact Or.inl ⟨0, M1, M2, Or.inl rfl, hh⟩
  · refine Or.inr ⟨0, hp_p M 13 0 13 1, ?_, ?_, (h.same (hp_Sm.t M 1)).i, hp_p_s _ _ _ _ _⟩
    · unfold F_X8_setCurious
      rw [x_fo f2 hno, hp_bx_r]
    · unfold F_X9_setCurious A_X9_setCurious_14
      rw [r_fo f1 f3 hno, hp_b_some, if_pos rfl, r_th1, hp_b_some, if_neg (by decide)]
theorem q_undo (h : hp_J B v ps nx b ty rp M) : ∃ r M1 M2, F_X8_undo M = some (r, M1) ∧ F_X9_undo M1 = some (r, M2) ∧ hp_I (B + 1000) M2 := by
  obtain ⟨h1, h2, h3, h4, h5, h6, h7, h8, h9, h10⟩ := id h
  cases ps with
  | nil =>
    have e0 := x1_back0 h4
    refine ⟨-1, M, hp_p M 13 0 13 0, ?_, ?_, (h.same (hp_Sm.t M 0)).i⟩
    · unfold F_X8_undo
      rw [e0, hp_b_some, if_pos rfl]
    · unfold F_X9_undo
      rw [hp_p_o (h := by omega), h4.2.2.2.2.1, if_pos (show nI ([] : List HV).length = 0 from nI_0)]
  | cons u ps =>
    obtain ⟨M1, a1, a2, a3, a4, a5⟩ := x1_back h4
    have hg := (h4.2.2.2.2.2 0 u rfl).1
    have hI1 : hI nx B (u :: ps) (hp_p M1 13 0 13 0) → True := fun _ => trivial
    -- the reference's history is as it was
    have z : ∀ g j i : Nat, g = 13 → M1 g j i = M g j i := fun g j i hg => a5 g j i (by omega) (by omega)
    have hR : hI nx B (u :: ps) (hp_p M 13 0 13 0) := hI_same h4 (hp_p_o _ _ _ _ _ (by omega)) (hp_p_o _ _ _ _ _ (by omega)) (hp_p_o _ _ _ _ _ (by omega)) (fun g j i _ _ => hp_p_o _ _ _ _ _ (by omega)) (fun i => hp_p_o _ _ _ _ _ (by omega))
    -- a memory with the old class and the new reference is alike for the reference
    have hRR : ∃ M2, L_X9_undo_26 hp_fu 0 (hp_p (hp_p M1 13 0 13 0) 13 0 5 (hp_p M1 13 0 13 0 13 0 5 - 1)) = some (nI ps.length, M2) ∧ RRep (M2 13 1) u ∧ M2 13 0 5 = nI ps.length ∧ ∀ g j i : Nat, ¬ (g = 13 ∧ (j = 1 ∨ (j = 0 ∧ i = 5))) → M2 g j i = hp_p M1 13 0 13 0 g j i := by
      obtain ⟨k1, k2, k3, k4, k5, k6⟩ := h4
      obtain ⟨w1, w2, w3⟩ := k6 0 u rfl
      have hle : ps.length + 1 ≤ 8 := k2
      have e5 : hp_p M1 13 0 13 0 13 0 5 = nI (ps.length + 1) := by rw [hp_p_o (h := by omega), z _ _ _ rfl]; exact k5
      rw [e5, nI_pred]
      obtain ⟨n', M', e, q1, q2⟩ := hp_runs (T := fun n i M1 => L_X9_undo_26 n (nI i) M1) (I := fun i M3 => (∀ k : Nat, k < i → M3 13 1 k = M 13 4 (242 * ps.length + k)) ∧ ∀ g j k : Nat, ¬ (g = 13 ∧ j = 1) → M3 g j k = hp_p (hp_p M1 13 0 13 0) 13 0 5 (nI ps.length) g j k) (N := 242) (fun n i M3 hi hM => by
        show ∃ M2, L_X9_undo_26 (n + 1) (nI i) M3 = L_X9_undo_26 n (nI (i + 1)) M2 ∧ _
        have z5 : M3 13 0 5 = nI ps.length := (hM.2 13 0 5 (by omega)).trans (hp_p_s _ _ _ _ _)
        have z4 : M3 13 4 (242 * ps.length + i) = M 13 4 (242 * ps.length + i) := (hM.2 13 4 _ (by omega)).trans (by rw [hp_p_o (h := by omega), hp_p_o (h := by omega), z _ _ _ rfl])
        have ex : (242 : Int32) * nI ps.length + nI i = nI (242 * ps.length + i) := by rw [show (242 : Int32) = nI 242 from rfl, nI_mul, nI_add]
        rw [L_X9_undo_26.eq_2, if_neg (show ¬ (242 : Int32) ≤ nI i from nI_ge (a := i) (b := 242) hi (by decide)), z5, ex, if_neg (nI_in (by omega) (by decide)), if_neg (nI_in hi (by decide)), nI_clamp (show i < 2 ^ 31 by omega), nI_clamp (show 242 * ps.length + i < 2 ^ 31 by omega), nI_1, z4]
        refine ⟨_, rfl, fun k hk => ?_, fun g j k hg => ?_⟩
        · by_cases q : k = i
          · rw [q, hp_p_s]
          · rw [hp_p_o (h := by omega)]; exact hM.1 k (by omega)
        · rw [hp_p_o (h := by omega)]; exact hM.2 g j k hg) hp_fu (hp_p (hp_p M1 13 0 13 0) 13 0 5 (nI ps.length)) (by unfold hp_fu; omega) ⟨fun k hk => absurd hk (by omega), fun _ _ _ _ => rfl⟩
      have z5 : M' 13 0 5 = nI ps.length := (q2 13 0 5 (by omega)).trans (hp_p_s _ _ _ _ _)
      refine ⟨M', Eq.trans e ?_, w3.row (fun i hi => ?_), z5, fun g j i hg => ?_⟩
      · show L_X9_undo_26 (n' + 1) (nI 242) M' = _
        rw [L_X9_undo_26.eq_2, if_pos (show (242 : Int32) ≤ nI 242 by decide), z5]
      · rw [q1 i hi]
        show _ = M 13 4 (242 * ((u :: ps).length - 1 - 0) + i)
        congr 1
      · rw [q2 g j i (by omega), hp_p_o (h := by omega)]
    obtain ⟨M2, b1, b2, b3, b4⟩ := hRR
    have e : ∀ g j i : Nat, g ≠ 0 → ¬ (g = 12 ∧ j = 4) → ¬ (g = 13 ∧ (j = 1 ∨ (j = 0 ∧ (i = 5 ∨ i = 13)))) → M2 g j i = M g j i := fun g j i x1 x2 x3 => by rw [b4 g j i (by omega), hp_p_o (h := by omega), a5 g j i x1 x2]
    have e1 : ∀ g j i : Nat, g ≠ 13 → M2 g j i = M1 g j i := fun g j i x1 => by rw [b4 g j i (by omega), hp_p_o (h := by omega)]
    have hne : ¬ hp_p M1 13 0 13 0 13 0 5 = 0 := by
      rw [hp_p_o (h := by omega), z _ _ _ rfl, h4.2.2.2.2.1]
      exact nI_ne0 (by simp) (by have := h4.2.1; omega)
    refine ⟨nI ps.length, M1, M2, ?_, ?_, u, ps, (nx + 7) % 8, b, ty, rp, a2.same (fun j i => e1 0 j i (by decide)), b2, g_mono hg (by omega), ?_, ?_, ?_, h7, h8, ?_, ?_⟩
    · unfold F_X8_undo
      rw [a1, hp_b_some, if_neg (by decide), a4]
    · unfold F_X9_undo
      rw [if_neg hne, b1]
    · exact hI_pop (hI_mono h4 (by omega)) ((e1 _ _ _ (by decide)).trans a3) ((e1 _ _ _ (by decide)).trans a4) (fun g j i x1 x2 => e g j i (by omega) (by omega) (by omega)) b3 (fun i => e _ _ _ (by omega) (by omega) (by omega))
    · exact sI_same (sI_mono h5 (by omega)) (e _ _ _ (by omega) (by omega) (by omega)) (e _ _ _ (by omega) (by omega) (by omega)) (fun g j i _ _ => e _ _ _ (by omega) (by omega) (by omega)) (fun i => e _ _ _ (by omega) (by omega) (by omega))
    · exact bI_same h6 (e _ _ _ (by omega) (by omega) (by omega)) (e _ _ _ (by omega) (by omega) (by omega)) (fun i => e _ _ _ (by omega) (by omega) (by omega)) (fun i => e _ _ _ (by omega) (by omega) (by omega))
    · exact h9.same (fun j i => e _ _ _ (by omega) (by omega) (by omega))
    · exact h10.same (e _ _ _ (by omega) (by omega) (by omega)) (fun i => e _ _ _ (by omega) (by omega) (by omega))
theorem q_save (h : hp_J B v ps nx b ty rp M) (a : Int32) : (∃ r M1 M2, (r = 0 ∨ r = 1) ∧ F_X8_saveSnapshot a M = some (.inl r, M1) ∧ F_X9_saveSnapshot a (hp_p M1 13 10 0 r) = some (r, M2) ∧ hp_I (B + 1000) M2 ∧ M2 13 0 13 = 0 ∧ M2 13 10 0 = r) ∨ (∃ x M2, F_X8_saveSnapshot a M = some (.inr 0, M) ∧ F_X9_saveSnapshot a M = some (x, M2) ∧ hp_I (B + 1000) M2 ∧ M2 13 0 13 = 1) := by
  obtain ⟨h1, h2, h3, h4, h5, h6, h7, h8, h9, h10⟩ := id h
  by_cases hr : 0 ≤ a ∧ a ≤ 1
  · obtain ⟨s, rfl, hs⟩ := hp_rn (N := 1) (by decide) rfl hr
    obtain ⟨o1, o2, o3, o4⟩ := hp_bs_or (b := b) (s := s) h5.1 (by omega)
    have hsn : ∀ M' : hp_M, F_X8_snapshotIn (nI s) M' = some (10 + s, M') := by
      intro M'
      unfold F_X8_snapshotIn
      rcases (show s = 0 ∨ s = 1 by omega) with rfl | rfl
      · rw [if_pos nI_0]
      · rw [if_neg (by decide)]
    obtain ⟨M1, a1, a2⟩ := x2_copy (g := 10 + s) h1 (ok_ou h3.1.1) (by omega)
    have hr2 : (if b / 2 ^ s % 2 = 1 then (1 : Int32) else 0) = 0 ∨ (if b / 2 ^ s % 2 = 1 then (1 : Int32) else 0) = 1 := by
      split
      · exact Or.inr rfl
      · exact Or.inl rfl
    have e5 : M1 12 0 5 = nI b := by rw [a2.2 12 (by omega)]; exact h5.2.1
    generalize hrr : (if b / 2 ^ s % 2 = 1 then (1 : Int32) else 0) = r at *
    have z1 : ∀ g j i : Nat, g ≠ 10 + s → ¬ (g = 12 ∧ j = 0 ∧ i = 5) → ¬ (g = 13 ∧ j = 10) → hp_p (hp_p M1 12 0 5 (nI (hp_bs b s))) 13 10 0 r g j i = M g j i := fun g j i x1 x2 x3 => by rw [hp_p_o (h := by omega), hp_p_o (h := by omega), a2.2 g x1]
    obtain ⟨M2, b1, b2, b3, b4⟩ := r_save (M := hp_p (hp_p (hp_p (hp_p M1 12 0 5 (nI (hp_bs b s))) 13 10 0 r) 13 0 13 0) 13 0 6 (nI (hp_bs b s))) (s := s) (a0 := nI s) (r := r) rfl (by omega) hr2
    have e : ∀ g j i : Nat, g ≠ 10 + s → ¬ (g = 12 ∧ j = 0 ∧ i = 5) → ¬ (g = 13 ∧ (j = 10 ∨ j = 5 ∨ (j = 0 ∧ (i = 6 ∨ i = 13)))) → M2 g j i = M g j i := fun g j i x1 x2 x3 => by rw [b4 g j i (by omega), hp_p_o (h := by omega), hp_p_o (h := by omega), z1 g j i x1 x2 (by omega)]
    have es : CRep (M2 (10 + s)) v := a2.1.same (fun j i => by rw [b4 _ _ _ (by omega), hp_p_o (h := by omega), hp_p_o (h := by omega), hp_p_o (h := by omega), hp_p_o (h := by omega)])
    refine Or.inl ⟨r, hp_p M1 12 0 5 (nI (hp_bs b s)), M2, hr2, ?_, ?_, ⟨v, ps, nx, hp_bs b s, ty, rp, h1.same (fun j i => e _ _ _ (by omega) (by omega) (by omega)), h2.row (fun i _ => e _ _ _ (by omega) (by omega) (by omega)), g_mono h3 (by omega), ?_, ⟨o2, ?_, ?_, fun s' hs' hb' => ?_⟩, ?_, h7, h8, ?_, ?_⟩, ?_, ?_⟩
    · unfold F_X8_saveSnapshot
      rw [x_ri hr, hp_bx_l, x8_saved h5.2.1 h5.1 (by omega), hp_b_some, hsn, hp_b_some, if_pos (by omega), a1, hp_b_some, hrr, if_pos hr2, e5, o1]
    · have e6 : hp_p (hp_p (hp_p M1 12 0 5 (nI (hp_bs b s))) 13 10 0 r) 13 0 13 0 13 0 6 = nI b := by rw [hp_p_o (h := by omega), z1 _ _ _ (by omega) (by omega) (by omega)]; exact h5.2.2.1
      unfold F_X9_saveSnapshot A_X9_saveSnapshot_15 A_X9_saveSnapshot_40
      rw [r_ri hr, hp_b_some, if_neg (by decide), r_th0, hp_b_some, if_pos rfl, e6, r_saved h5.1 (by omega), hrr, o1]
      rcases hr2 with q | q
      · rw [if_neg (by rw [q]; decide)]
        rw [q] at b1 ⊢
        exact b1
      · rw [if_pos q]
        rw [q] at b1 ⊢
        exact b1
    · exact hI_same (hI_mono h4 (by omega)) (e _ _ _ (by omega) (by omega) (by omega)) (e _ _ _ (by omega) (by omega) (by omega)) (e _ _ _ (by omega) (by omega) (by omega)) (fun g j i _ _ => e _ _ _ (by omega) (by omega) (by omega)) (fun i => e _ _ _ (by omega) (by omega) (by omega))
    · rw [b4 _ _ _ (by omega), hp_p_o (h := by omega), hp_p_o (h := by omega), hp_p_o (h := by omega), hp_p_s]
    · rw [b4 _ _ _ (by omega), hp_p_s]
    · by_cases hss : s' = s
      · subst hss
        refine ⟨v, g_mono h3 (by omega), es, h2.row (fun i hi => ?_)⟩
        rw [b2 i hi, hp_p_o (h := by omega), hp_p_o (h := by omega), z1 _ _ _ (by omega) (by omega) (by omega)]
      · rw [o4 s' hs' hss] at hb'
        obtain ⟨u, u1, u2, u3⟩ := h5.2.2.2 s' hs' hb'
        refine ⟨u, g_mono u1 (by omega), u2.same (fun j i => e _ _ _ (by omega) (by omega) (by omega)), u3.row (fun i hi => ?_)⟩
        show M2 13 5 (242 * s' + i) = M 13 5 (242 * s' + i)
        rw [b3 _ (by omega), hp_p_o (h := by omega), hp_p_o (h := by omega), z1 _ _ _ (by omega) (by omega) (by omega)]
    · exact bI_same h6 (e _ _ _ (by omega) (by omega) (by omega)) (e _ _ _ (by omega) (by omega) (by omega)) (fun i => e _ _ _ (by omega) (by omega) (by omega)) (fun i => e _ _ _ (by omega) (by omega) (by omega))
    · exact h9.same (fun j i => e _ _ _ (by omega) (by omega) (by omega))
    · exact h10.same (e _ _ _ (by omega) (by omega) (by omega)) (fun i => e _ _ _ (by omega) (by omega) (by omega))
    · rw [b4 _ _ _ (by omega), hp_p_o (h := by omega), hp_p_s]
    · rw [b4 _ _ _ (by omega), hp_p_o (h := by omega), hp_p_o (h := by omega), hp_p_s]
  · refine Or.inr ⟨0, hp_p M 13 0 13 1, ?_, ?_, (h.same (hp_Sm.t M 1)).i, hp_p_s _ _ _ _ _⟩
    · unfold F_X8_saveSnapshot
      rw [x_ro hr, hp_bx_r]
    · unfold F_X9_saveSnapshot A_X9_saveSnapshot_15
      rw [r_ro hr, hp_b_some, if_pos rfl, r_th1, hp_b_some, if_neg (by decide)]
theorem q_restore (h : hp_J B v ps nx b ty rp M) (a : Int32) : QM [(0, 1), (2, 2)] B (F_X8_restoreSnapshot a) (F_X9_restoreSnapshot a) M := by
  obtain ⟨h1, h2, h3, h4, h5, h6, h7, h8, h9, h10⟩ := id h
  by_cases hr : 0 ≤ a ∧ a ≤ 1
  · obtain ⟨s, rfl, hs⟩ := hp_rn (N := 1) (by decide) rfl hr
    have hsn : ∀ M' : hp_M, F_X8_snapshotIn (nI s) M' = some (10 + s, M') := by
      intro M'
      unfold F_X8_snapshotIn
      rcases (show s = 0 ∨ s = 1 by omega) with rfl | rfl
      · rw [if_pos nI_0]
      · rw [if_neg (by decide)]
    by_cases hb : b / 2 ^ s % 2 = 1
    · obtain ⟨u, u1, u2, u3⟩ := h5.2.2.2 s (by omega) hb
      obtain ⟨M1, a1, a2⟩ := x2_copy (g := 0) (b0 := 10 + s) u2 (ok_ou u1.1.1) (by omega)
      have hM2 : ∃ Mf, F_X1_forget M1 = some ((), Mf) ∧ Mf 12 4 1 = 0 ∧ Mf 12 4 2 = 0 ∧ ∀ g j i : Nat, ¬ (g = 12 ∧ j = 4) → Mf g j i = M1 g j i := by
        unfold F_X1_forget
        exact ⟨_, rfl, by rw [hp_p_o (h := by omega), hp_p_s], hp_p_s _ _ _ _ _, fun g j i hg => by rw [hp_p_o (h := by omega), hp_p_o (h := by omega)]⟩
      obtain ⟨Mf, b1, b2, b3, b4⟩ := hM2
      have et : Mf 0 0 1 = u.time := by rw [b4 _ _ _ (by omega)]; exact a2.1.ti
      obtain ⟨M2, c1, c2, c3, c4⟩ := r_rest (M := hp_p (hp_p Mf 13 10 0 u.time) 13 0 13 0) (s := s) (a0 := nI s) rfl (by omega)
      have zf : ∀ g j i : Nat, g ≠ 0 → ¬ (g = 12 ∧ j = 4) → Mf g j i = M g j i := fun g j i x1 x2 => by rw [b4 g j i x2, a2.2 g x1]
      have e : ∀ g j i : Nat, g ≠ 0 → ¬ (g = 12 ∧ j = 4) → ¬ (g = 13 ∧ (j = 1 ∨ j = 10 ∨ (j = 0 ∧ (i = 5 ∨ i = 13)))) → M2 g j i = M g j i := fun g j i x1 x2 x3 => by rw [c4 g j i (by omega), hp_p_o (h := by omega), hp_p_o (h := by omega), zf g j i x1 x2]
      have e1 : ∀ g j i : Nat, g ≠ 13 → M2 g j i = Mf g j i := fun g j i x1 => by rw [c4 g j i (by omega), hp_p_o (h := by omega), hp_p_o (h := by omega)]
      have cu : RRep (M2 13 1) u := u3.row (fun i hi => by rw [c2 i hi, hp_p_o (h := by omega), hp_p_o (h := by omega), zf _ _ _ (by omega) (by omega)])
      refine Or.inl ⟨u.time, Mf, M2, ?_, ?_, ⟨u, [], 0, b, ty, rp, a2.1.same (fun j i => (e1 0 j i (by decide)).trans (b4 _ _ _ (by omega))), cu, g_mono u1 (by omega), ?_, ?_, ?_, h7, h8, ?_, ?_⟩, ?_, ?_⟩
      · unfold F_X8_restoreSnapshot
        rw [x_ri hr, hp_bx_l, x8_saved h5.2.1 h5.1 (by omega), hp_b_some, if_pos hb, if_neg (by decide), hsn, hp_b_some, if_pos (by omega), a1, hp_b_some, b1, hp_b_some, et]
      · have e6 : hp_p Mf 13 10 0 u.time 13 0 6 = nI b := by rw [hp_p_o (h := by omega), zf _ _ _ (by omega) (by omega)]; exact h5.2.2.1
        unfold F_X9_restoreSnapshot A_X9_restoreSnapshot_17 A_X9_restoreSnapshot_36 A_X9_restoreSnapshot_37
        rw [r_ri hr, hp_b_some, if_neg (by decide), if_neg (by decide), e6, r_saved h5.1 (by omega), if_pos hb, if_neg (by decide), r_th00, hp_b_some, if_pos rfl, c1, cu.ti]
      · exact hI_nil ((e1 _ _ _ (by decide)).trans b2) ((e1 _ _ _ (by decide)).trans b3) c3
      · exact sI_same (sI_mono h5 (by omega)) (e _ _ _ (by omega) (by omega) (by omega)) (e _ _ _ (by omega) (by omega) (by omega)) (fun g j i _ _ => e _ _ _ (by omega) (by omega) (by omega)) (fun i => e _ _ _ (by omega) (by omega) (by omega))
      · exact bI_same h6 (e _ _ _ (by omega) (by omega) (by omega)) (e _ _ _ (by omega) (by omega) (by omega)) (fun i => e _ _ _ (by omega) (by omega) (by omega)) (fun i => e _ _ _ (by omega) (by omega) (by omega))
      · exact h9.same (fun j i => e _ _ _ (by omega) (by omega) (by omega))
      · exact h10.same (e _ _ _ (by omega) (by omega) (by omega)) (fun i => e _ _ _ (by omega) (by omega) (by omega))
      · rw [c4 _ _ _ (by omega), hp_p_s]
      · rw [c4 _ _ _ (by omega), hp_p_o (h := by omega), hp_p_s]
    · refine QM.x h (kx := 2) (t := 2) (x := 0) (by simp) ?_ ?_
      · unfold F_X8_restoreSnapshot
        rw [x_ri hr, hp_bx_l, x8_saved h5.2.1 h5.1 (by omega), hp_b_some, if_neg hb, if_pos rfl]
      · unfold F_X9_restoreSnapshot A_X9_restoreSnapshot_17 A_X9_restoreSnapshot_36 A_X9_restoreSnapshot_37
        rw [r_ri hr, hp_b_some, if_neg (by decide), if_neg (by decide), h5.2.2.1, r_saved h5.1 (by omega), if_neg hb, if_pos rfl, r_th01, hp_b_some, if_neg (by decide)]
  · refine QM.x h (kx := 0) (t := 1) (x := 0) (by simp) ?_ ?_
    · unfold F_X8_restoreSnapshot
      rw [x_ro hr, hp_bx_r]
    · unfold F_X9_restoreSnapshot A_X9_restoreSnapshot_17 A_X9_restoreSnapshot_36 A_X9_restoreSnapshot_37
      rw [r_ro hr, hp_b_some, if_pos rfl, if_pos rfl, r_th10, hp_b_some, if_neg (by decide)]
theorem q_append (h : hp_J B v ps nx b ty rp M) (a1 a2 a3 a4 a5 : Int32) : ∃ r M1 M2, F_X8_append a1 a2 a3 a4 a5 M = some (r, M1) ∧ F_X9_append a1 a2 a3 a4 a5 M1 = some (r, M2) ∧ hp_I (B + 1000) M2 := by
  obtain ⟨h1, h2, h3, h4, h5, h6, h7, h8, h9, h10⟩ := id h
  by_cases ht : ty + 20 ≤ 700
  · obtain ⟨M1, x1, x2, x3, x4, x5⟩ := x8_append (a := a1) (b := a2) (c := a3) (d := a4) (e := a5) h6.2.1 ht
    obtain ⟨M2, y1, y2, y3, y4, y5⟩ := r_append (M := M1) (a := a1) (b := a2) (c := a3) (d := a4) (e := a5) (ty := ty) (by rw [x5 _ _ _ (by omega)]; exact h6.2.2.1) ht
    have e : ∀ g j i : Nat, ¬ (g = 12 ∧ (j = 3 ∨ (j = 0 ∧ i = 8))) → ¬ (g = 13 ∧ (j = 6 ∨ (j = 0 ∧ (i = 9 ∨ i = 13)))) → M2 g j i = M g j i := fun g j i p q => by rw [y5 g j i q, x5 g j i p]
    refine ⟨_, M1, M2, x1, y1, v, ps, nx, b, ty + 20, rp, h1.same (fun j i => e _ _ _ (by omega) (by omega)), h2.row (fun i _ => e _ _ _ (by omega) (by omega)), g_mono h3 (by omega), hI_same (hI_mono h4 (by omega)) (e _ _ _ (by omega) (by omega)) (e _ _ _ (by omega) (by omega)) (e _ _ _ (by omega) (by omega)) (fun g j i _ _ => e _ _ _ (by omega) (by omega)) (fun i => e _ _ _ (by omega) (by omega)), sI_same (sI_mono h5 (by omega)) (e _ _ _ (by omega) (by omega)) (e _ _ _ (by omega) (by omega)) (fun g j i _ _ => e _ _ _ (by omega) (by omega)) (fun i => e _ _ _ (by omega) (by omega)), ⟨ht, (y5 _ _ _ (by omega)).trans x2, y2, fun i hi => ?_⟩, h7, h8, h9.same (fun j i => e _ _ _ (by omega) (by omega)), h10.same (e _ _ _ (by omega) (by omega)) (fun i => e _ _ _ (by omega) (by omega))⟩
    rw [y5 _ _ _ (by omega)]
    by_cases q : i < ty
    · rw [x4 i q, y4 i q, x5 _ _ _ (by omega)]; exact h6.2.2.2 i q
    · have p1 := x3 (i - ty) (by omega)
      have p2 := y3 (i - ty) (by omega)
      rw [show ty + (i - ty) = i by omega] at p1 p2
      rw [p1, p2]
  · have hn : ¬ nI ty + (20 : Int32) ≤ (700 : Int32) := by
      rw [show (20 : Int32) = nI 20 from rfl, nI_add]
      exact nI_ge (a := 700) (by omega) (by have := h6.1; omega)
    refine ⟨-1, M, hp_p M 13 0 13 0, ?_, ?_, (h.same (hp_Sm.t M 0)).i⟩
    · unfold F_X8_append
      rw [h6.2.1, if_neg hn]
    · unfold F_X9_append
      rw [hp_p_o (h := by omega), h6.2.2.1, if_neg hn]
end CHG2
