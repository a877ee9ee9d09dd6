/-! ===== the questions, class and reference together ===== -/
section ASK2
variable {B : Nat} {v : HV} {ps : List HV} {nx b ty : Nat} {rp : List Int32} {M : hp_M} {L : List (Nat × Int32)} {X : hp_M → Option ((Int32 ⊕ Nat) × hp_M)} {R : hp_M → Option (Int32 × hp_M)}
theorem QM.p (hJ : hp_J B v ps nx b ty rp M) (r : Int32) (h1 : X M = some (.inl r, M)) (h2 : ∀ M', hp_J B v ps nx b ty rp M' → R M' = some (r, hp_p M' 13 0 13 0)) : QM L B X R M := by
  have j1 := hJ.same (hp_Sm.o M r)
  exact Or.inl ⟨r, M, _, h1, h2 _ j1, (j1.same (hp_Sm.t _ 0)).i, hp_p_s _ _ _ _ _, (hp_p_o _ _ _ _ _ (by omega)).trans (hp_p_s _ _ _ _ _)⟩
theorem QM.a (hJ : hp_J B v ps nx b ty rp M) (r : Int32) {M1 : hp_M} (h1 : X M = some (.inl r, M1)) (h0 : ∀ g : Nat, g ≠ 1 → M1 g = M g) (h2 : ∀ M', hp_J B v ps nx b ty rp M' → ∃ M2, R M' = some (r, M2) ∧ RQ (hp_p M' 13 0 13 0) M2) : QM L B X R M := by
  have j1 := (hJ.same (hp_Sm.d h0)).same (hp_Sm.o M1 r)
  obtain ⟨M2, e1, e2⟩ := h2 _ j1
  refine Or.inl ⟨r, M1, M2, h1, e1, ((j1.same (hp_Sm.t _ 0)).same (hp_Sm.q e2)).i, ?_, ?_⟩
  · rw [e2.2 13 0 (by omega)]; exact hp_p_s _ _ _ _ _
  · rw [e2.2 13 10 (by omega), hp_p_o (h := by omega)]; exact hp_p_s _ _ _ _ _
theorem QM.x (hJ : hp_J B v ps nx b ty rp M) {kx : Nat} {t x : Int32} (h0 : (kx, t) ∈ L) (h1 : X M = some (.inr kx, M)) (h2 : R M = some (x, hp_p M 13 0 13 t)) : QM L B X R M := Or.inr ⟨kx, t, x, _, h0, h1, h2, (hJ.same (hp_Sm.t M t)).i, hp_p_s _ _ _ _ _⟩
/-- the reference's row with the exception's mark laid down -/
theorem hp_J.r0 (hJ : hp_J B v ps nx b ty rp M) (x : Int32) : RRep (hp_p M 13 0 13 x 13 1) v := (hJ.same (hp_Sm.t M x)).2.1
theorem hp_J.fl (hJ : hp_J B v ps nx b ty rp M) : v.flats ≤ 10 ∧ M 0 0 0 = nI v.flats ∧ M 13 1 0 = nI v.flats := ⟨hJ.1.fl10, hJ.1.fl, hJ.2.1.fl⟩
theorem q_size (hJ : hp_J B v ps nx b ty rp M) (a : Int32) : QM [(0, 1)] B (F_X8_size a) (F_X9_size a) M := by
  by_cases h : 0 ≤ a ∧ a ≤ 13
  · obtain ⟨k, rfl, hk⟩ := hp_rn (N := 13) (by decide) rfl h
    have hX : F_X8_size (nI k) M = some (.inl (if k = 11 then nI ps.length else if k = 12 then nI ty else if k = 13 then nI rp.length else hv_hn v k), M) := by
      unfold F_X8_size
      rw [x_ri h, hp_bx_l]
      rcases (show k < 11 ∨ k = 11 ∨ k = 12 ∨ k = 13 by omega) with q | rfl | rfl | rfl
      · rw [if_neg (show ¬ nI k = (11 : Int32) from fun z => by have := (nI_eq (b := 11) (by omega) (by decide)).mp z; omega), if_neg (show ¬ nI k = (12 : Int32) from fun z => by have := (nI_eq (b := 12) (by omega) (by decide)).mp z; omega), if_neg (show ¬ nI k = (13 : Int32) from fun z => by have := (nI_eq (b := 13) (by omega) (by decide)).mp z; omega), x2_hn hJ.1 (ok_ou hJ.2.2.1.1.1) q, hp_b_some, if_neg (by omega), if_neg (by omega), if_neg (by omega)]
      · rw [if_pos (by decide), if_pos rfl, hJ.2.2.2.1.2.2.2.1]
      · rw [if_neg (by decide), if_pos (by decide), if_neg (by decide), if_pos rfl, hJ.2.2.2.2.2.1.2.1]
      · rw [if_neg (by decide), if_neg (by decide), if_pos (by decide), if_neg (by decide), if_neg (by decide), if_pos rfl, x_len hJ.2.2.2.2.2.2.2.2.1, hp_b_some]
    refine QM.p hJ _ hX (fun M' h' => ?_)
    have h2 := h'.same (hp_Sm.t M' 0)
    unfold F_X9_size
    rw [r_ri h, hp_b_some, if_neg (by decide), r_th0, hp_b_some, if_pos rfl]
    rcases (show k < 11 ∨ k = 11 ∨ k = 12 ∨ k = 13 by omega) with q | rfl | rfl | rfl
    · rw [r_hn h2.2.1 q, hp_b_some, if_neg (by omega), if_neg (by omega), if_neg (by omega)]
    · unfold F_X9_sizeOf
      iterate 11 rw [if_neg (by decide)]
      rw [if_pos (by decide), hp_b_some, if_pos rfl, h2.2.2.2.1.2.2.2.2.1]
    · unfold F_X9_sizeOf
      iterate 12 rw [if_neg (by decide)]
      rw [if_pos (by decide), hp_b_some, if_neg (by decide), if_pos rfl, h2.2.2.2.2.2.1.2.2.1]
    · unfold F_X9_sizeOf
      iterate 13 rw [if_neg (by decide)]
      rw [hp_b_some, if_neg (by decide), if_neg (by decide), if_pos rfl, h2.2.2.2.2.2.2.2.2.2.1]
  · refine QM.x hJ (kx := 0) (t := 1) (x := 0) (by simp) ?_ ?_
    · unfold F_X8_size
      rw [x_ro h, hp_bx_r]
    · unfold F_X9_size
      rw [r_ro h, hp_b_some, if_pos rfl, r_th1, hp_b_some, if_neg (by decide)]
theorem q_setting (hJ : hp_J B v ps nx b ty rp M) (a : Int32) : QM [(0, 1)] B (F_X8_setting a) (F_X9_setting a) M := by
  by_cases h : 0 ≤ a ∧ a ≤ 5
  · obtain ⟨k, rfl, hk⟩ := hp_rn (N := 5) (by decide) rfl h
    refine QM.p hJ (v.set k) ?_ (fun M' h' => ?_)
    · unfold F_X8_setting
      rw [x_ri h, hp_bx_l, x2_sn hJ.1 rfl (by omega), hp_b_some]
    · have h2 := h'.r0 0
      have ex : (7 : Int32) + nI k = nI (7 + k) := by rw [show (7 : Int32) = nI 7 from rfl, nI_add]
      unfold F_X9_setting
      rw [r_ri h, hp_b_some, if_neg (by decide), r_th0, hp_b_some, if_pos rfl, ex, if_neg (nI_in (by omega) (by decide)), nI_clamp (by omega), h2.st k (by omega)]
  · refine QM.x hJ (kx := 0) (t := 1) (x := 0) (by simp) ?_ ?_
    · unfold F_X8_setting
      rw [x_ro h, hp_bx_r]
    · unfold F_X9_setting
      rw [r_ro h, hp_b_some, if_pos rfl, r_th1, hp_b_some, if_neg (by decide)]
theorem q_flat (hJ : hp_J B v ps nx b ty rp M) (a1 a2 : Int32) : QM [(1, 1), (0, 2)] B (F_X8_flat a1 a2) (F_X9_flat a1 a2) M := by
  obtain ⟨f1, f2, f3⟩ := hJ.fl
  rcases hp_fl a1 v.flats f1 with ⟨f, hf, rfl⟩ | hno
  · by_cases h : 0 ≤ a2 ∧ a2 ≤ 10
    · obtain ⟨k, rfl, hk⟩ := hp_rn (N := 10) (by decide) rfl h
      refine QM.p hJ (hv_fn v f k) ?_ (fun M' h' => ?_)
      · unfold F_X8_flat
        rw [x_fi f1 f2 hf, hp_bx_l, x_ri h, hp_bx_l, x2_fn hJ.1 hJ.2.2.1.1.1 rfl (by omega) (by omega), hp_b_some]
      · unfold F_X9_flat A_X9_flat_14
        rw [r_fi f1 h'.fl.2.2 hf, hp_b_some, if_neg (by decide), r_ri h, hp_b_some, if_neg (by decide), r_th00, hp_b_some, if_pos rfl, r_fn (h'.r0 0) hJ.2.2.1.1.1 rfl (by omega) (by omega), hp_b_some]
    · refine QM.x hJ (kx := 0) (t := 2) (x := 0) (by simp) ?_ ?_
      · unfold F_X8_flat
        rw [x_fi f1 f2 hf, hp_bx_l, x_ro h, hp_bx_r]
      · unfold F_X9_flat A_X9_flat_14
        rw [r_fi f1 f3 hf, hp_b_some, if_neg (by decide), r_ro h, hp_b_some, if_pos rfl, r_th01, hp_b_some, if_neg (by decide)]
  · refine QM.x hJ (kx := 1) (t := 1) (x := 0) (by simp) ?_ ?_
    · unfold F_X8_flat
      rw [x_fo f2 hno, hp_bx_r]
    · unfold F_X9_flat A_X9_flat_14
      rw [r_fo f1 f3 hno, hp_b_some, if_pos rfl]
      by_cases h : 0 ≤ a2 ∧ a2 ≤ 10
      · rw [r_ri h, hp_b_some, if_neg (by decide), r_th10, hp_b_some, if_neg (by decide)]
      · rw [r_ro h, hp_b_some, if_pos rfl, r_th11, hp_b_some, if_neg (by decide)]
theorem q_message (hJ : hp_J B v ps nx b ty rp M) (a1 a2 : Int32) : QM [(2, 1), (0, 2)] B (F_X8_message a1 a2) (F_X9_message a1 a2) M := by
  have hl1 := hJ.1.sl
  have h8 := hJ.1.s8
  have hl2 := hJ.2.1.sl
  have hsub : ∀ z : Int32, (0 ≤ z ∧ z ≤ nI v.slate.length - 1) ↔ (0 ≤ z ∧ z < nI v.slate.length) := by
    intro z
    have p1 := nI_pos' (n := v.slate.length) (by omega)
    have p2 : nI v.slate.length ≤ nI 8 := nI_le h8 (by decide)
    have p3 : nI 8 = 8 := rfl
    constructor <;> intro q <;> grind
  by_cases hm : 0 ≤ a1 ∧ a1 < nI v.slate.length
  · obtain ⟨m, hm1, hm2⟩ := nI_of (x := a1) (by grind)
    subst hm2
    have hml : m < v.slate.length := (nI_ltI hm1 (by omega)).mp hm.2
    obtain ⟨y, hy⟩ : ∃ y, v.slate[m]? = some y := ⟨_, List.getElem?_eq_getElem hml⟩
    by_cases h : 0 ≤ a2 ∧ a2 ≤ 1
    · obtain ⟨k, rfl, hk⟩ := hp_rn (N := 1) (by decide) rfl h
      refine QM.p hJ (if k = 0 then nI y.1 else y.2) ?_ (fun M' h' => ?_)
      · unfold F_X8_message
        rw [if_neg (nI_pos (by omega)), hl1, if_pos hm.2, x_ri h, hp_bx_l]
        by_cases q : k = 0
        · rw [if_pos (by rw [q, nI_0]), x6_flatAt hJ.1 rfl hy, hp_b_some, if_pos q]
        · rw [if_neg (nI_ne0 (by omega) (by omega)), x6_minuteAt hJ.1 rfl hy, hp_b_some, if_neg q]
      · have ex : (14 : Int32) + (2 : Int32) * nI m + nI k = nI (14 + 2 * m + k) := by rw [show (14 : Int32) = nI 14 from rfl, show (2 : Int32) = nI 2 from rfl, nI_mul, nI_add, nI_add]
        have hs := (h'.r0 0).sf m y hy
        unfold F_X9_message A_X9_message_23 A_X9_message_37
        rw [h'.2.1.sl, r_ri ((hsub _).mpr hm), hp_b_some, if_neg (by decide), r_ri h, hp_b_some, if_neg (by decide), r_th00, hp_b_some, if_pos rfl, ex, if_neg (nI_in (by omega) (by decide)), nI_clamp (by omega)]
        by_cases q : k = 0
        · rw [if_pos q, q, Nat.add_zero, hs.1]
        · rw [if_neg q, show 14 + 2 * m + k = 15 + 2 * m by omega, hs.2]
    · refine QM.x hJ (kx := 0) (t := 2) (x := 0) (by simp) ?_ ?_
      · unfold F_X8_message
        rw [if_neg (nI_pos (by omega)), hl1, if_pos hm.2, x_ro h, hp_bx_r]
      · unfold F_X9_message A_X9_message_23 A_X9_message_37
        rw [hl2, r_ri ((hsub _).mpr hm), hp_b_some, if_neg (by decide), r_ro h, hp_b_some, if_pos rfl, r_th01, hp_b_some, if_neg (by decide)]
  · refine QM.x hJ (kx := 2) (t := 1) (x := 0) (by simp) ?_ ?_
    · unfold F_X8_message
      rw [hl1]
      by_cases q : a1 < 0
      · rw [if_pos q]
      · rw [if_neg q, if_neg (fun z => hm ⟨by grind, z⟩)]
    · unfold F_X9_message A_X9_message_23 A_X9_message_37
      rw [hl2, r_ro (fun z => hm ((hsub _).mp z)), hp_b_some, if_pos rfl]
      by_cases h : 0 ≤ a2 ∧ a2 ≤ 1
      · rw [r_ri h, hp_b_some, if_neg (by decide), r_th10, hp_b_some, if_neg (by decide)]
      · rw [r_ro h, hp_b_some, if_pos rfl, r_th11, hp_b_some, if_neg (by decide)]
theorem q_heard (hJ : hp_J B v ps nx b ty rp M) (a1 a2 : Int32) : QM [(1, 1)] B (F_X8_heard a1 a2) (F_X9_heard a1 a2) M := by
  obtain ⟨f1, f2, f3⟩ := hJ.fl
  rcases hp_fl a1 v.flats f1 with ⟨f, hf, rfl⟩ | hno
  · rcases hp_fl a2 v.flats f1 with ⟨k, hk, rfl⟩ | hno2
    · refine QM.p hJ (v.heard f k) ?_ (fun M' h' => ?_)
      · unfold F_X8_heard
        rw [x_fi f1 f2 hf, hp_bx_l, x_fi f1 f2 hk, hp_bx_l, x2_mh hJ.1 rfl rfl (by omega) (by omega), hp_b_some]
      · unfold F_X9_heard
        rw [r_fi f1 h'.fl.2.2 hf, hp_b_some, if_neg (by decide), r_fi f1 h'.fl.2.2 hk, hp_b_some, if_neg (by decide), r_th0, hp_b_some, if_pos rfl, r_heard (h'.r0 0) rfl rfl (by omega) (by omega), hp_b_some]
    · refine QM.x hJ (kx := 1) (t := 1) (x := 0) (by simp) ?_ ?_
      · unfold F_X8_heard
        rw [x_fi f1 f2 hf, hp_bx_l, x_fo f2 hno2, hp_bx_r]
      · unfold F_X9_heard
        rw [r_fi f1 f3 hf, hp_b_some, if_neg (by decide), r_fo f1 f3 hno2, hp_b_some, if_pos rfl, r_th1, hp_b_some, if_neg (by decide)]
  · refine QM.x hJ (kx := 1) (t := 1) (x := 0) (by simp) ?_ ?_
    · unfold F_X8_heard
      rw [x_fo f2 hno, hp_bx_r]
    · unfold F_X9_heard
      rw [r_fo f1 f3 hno, hp_b_some, if_pos rfl, r_th1, hp_b_some, if_neg (by decide)]
theorem q_knowing (hJ : hp_J B v ps nx b ty rp M) (a : Int32) : QM [(1, 1)] B (F_X8_knowing a) (F_X9_knowing a) M := by
  obtain ⟨f1, f2, f3⟩ := hJ.fl
  rcases hp_fl a v.flats f1 with ⟨f, hf, rfl⟩ | hno
  · refine QM.p hJ (hv_bits (hv_knp v f) v.flats) ?_ (fun M' h' => ?_)
    · unfold F_X8_knowing
      rw [x_fi f1 f2 hf, hp_bx_l, x2_knowers hJ.1 rfl (by omega), hp_b_some]
    · unfold F_X9_knowing
      rw [r_fi f1 h'.fl.2.2 hf, hp_b_some, if_neg (by decide), r_th0, hp_b_some, if_pos rfl, r_knowers (h'.r0 0) rfl (by omega), hp_b_some]
  · refine QM.x hJ (kx := 1) (t := 1) (x := 0) (by simp) ?_ ?_
    · unfold F_X8_knowing
      rw [x_fo f2 hno, hp_bx_r]
    · unfold F_X9_knowing
      rw [r_fo f1 f3 hno, hp_b_some, if_pos rfl, r_th1, hp_b_some, if_neg (by decide)]
theorem q_listening (hJ : hp_J B v ps nx b ty rp M) (a : Int32) : QM [(1, 1)] B (F_X8_listening a) (F_X9_listening a) M := by
  obtain ⟨f1, f2, f3⟩ := hJ.fl
  rcases hp_fl a v.flats f1 with ⟨f, hf, rfl⟩ | hno
  · refine QM.p hJ (hv_bits (hv_lsp v f) v.flats) ?_ (fun M' h' => ?_)
    · unfold F_X8_listening
      rw [x_fi f1 f2 hf, hp_bx_l, x2_listen hJ.1 rfl (by omega), hp_b_some]
    · unfold F_X9_listening A_X9_listening_14
      rw [r_fi f1 h'.fl.2.2 hf, hp_b_some, if_neg (by decide), r_th0, hp_b_some, if_pos rfl, r_listen (h'.r0 0) rfl (by omega)]
  · refine QM.x hJ (kx := 1) (t := 1) (x := 0) (by simp) ?_ ?_
    · unfold F_X8_listening
      rw [x_fo f2 hno, hp_bx_r]
    · unfold F_X9_listening A_X9_listening_14
      rw [r_fo f1 f3 hno, hp_b_some, if_pos rfl, r_th1, hp_b_some, if_neg (by decide)]
theorem q_cost (hJ : hp_J B v ps nx b ty rp M) (a : Int32) : QM [(0, 1)] B (F_X8_cost a) (F_X9_cost a) M := by
  have hu : 0 < v.set 1 := by have := (ok_un hJ.2.2.1.1.1).1; grind
  by_cases h : 1 ≤ a ∧ a ≤ 99
  · refine QM.p hJ (hv_cost v a) ?_ (fun M' h' => ?_)
    · unfold F_X8_cost
      rw [x_ri h, hp_bx_l, x2_cost hJ.1 hu, hp_b_some]
    · unfold F_X9_cost
      rw [r_ri h, hp_b_some, if_neg (by decide), r_th0, hp_b_some, if_pos rfl, r_cost (h'.r0 0) hu, hp_b_some]
  · refine QM.x hJ (kx := 0) (t := 1) (x := 0) (by simp) ?_ ?_
    · unfold F_X8_cost
      rw [x_ro h, hp_bx_r]
    · unfold F_X9_cost
      rw [r_ro h, hp_b_some, if_pos rfl, r_th1, hp_b_some, if_neg (by decide)]
theorem q_why (hJ : hp_J B v ps nx b ty rp M) (a1 a2 : Int32) : QM [(1, 1), (0, 2)] B (F_X8_why a1 a2) (F_X9_why a1 a2) M := by
  obtain ⟨f1, f2, f3⟩ := hJ.fl
  have hok := hJ.2.2.1.1.1
  rcases hp_fl a1 v.flats f1 with ⟨f, hf, rfl⟩ | hno
  · by_cases h : 0 ≤ a2 ∧ a2 ≤ 1
    · refine QM.p hJ (if a2 = 0 then hv_why v f else hv_cause v f) ?_ (fun M' h' => ?_)
      · unfold F_X8_why
        rw [x_fi f1 f2 hf, hp_bx_l, x_ri h, hp_bx_l, x2_why hJ.1 hok rfl hf, hp_b_some]
        by_cases q : a2 = 0
        · rw [if_pos q, if_pos q]
        · rw [if_neg q, if_neg q, x2_cause hJ.1 hok rfl hf, hp_b_some]
      · have c0 := h'.r0 0
        have hms := r_msgs c0 (ok_s10 hok) (f := f) (a0 := nI f) rfl (by omega)
        have hpl := r_place c0 (ok_q10 hok) (f := f) (a0 := nI f) rfl (by omega)
        have hg3 := r_g3 c0 (f := f) (a0 := nI f) rfl (by omega)
        unfold F_X9_why A_X9_why_14 A_X9_why_28
        rw [r_fi f1 h'.fl.2.2 hf, hp_b_some, if_neg (by decide), r_ri h, hp_b_some, if_neg (by decide), r_th00, hp_b_some, if_pos rfl, r_why c0 hok rfl hf, hp_b_some]
        by_cases q : a2 = 0
        · rw [if_pos q, if_pos q]
        · rw [if_neg q, if_neg q]
          unfold hv_cause
          rcases hv_why_6 v f with w | w | w | w | w | w
          · rw [w, if_pos rfl, if_pos rfl, c0.sp]
          · rw [w, if_neg (by decide), if_pos rfl, hms, hp_b_some, if_neg (by decide), if_pos rfl]
          · rw [w, if_neg (by decide), if_neg (by decide), if_pos rfl, hg3, hp_b_some, if_neg (by decide), if_neg (by decide), if_pos rfl]
          · rw [w, if_neg (by decide), if_neg (by decide), if_neg (by decide), if_pos rfl, if_neg (by decide), if_neg (by decide), if_neg (by decide), if_neg (by decide), c0.wh]
          · rw [w, if_neg (by decide), if_neg (by decide), if_neg (by decide), if_neg (by decide), if_pos rfl, if_neg (by decide), if_neg (by decide), if_neg (by decide), if_neg (by decide), c0.wh]
          · rw [w, if_neg (by decide), if_neg (by decide), if_neg (by decide), if_neg (by decide), if_neg (by decide), if_pos rfl, hpl, hp_b_some, if_neg (by decide), if_neg (by decide), if_neg (by decide), if_pos rfl]
    · refine QM.x hJ (kx := 0) (t := 2) (x := 0) (by simp) ?_ ?_
      · unfold F_X8_why
        rw [x_fi f1 f2 hf, hp_bx_l, x_ro h, hp_bx_r]
      · unfold F_X9_why A_X9_why_14 A_X9_why_28
        rw [r_fi f1 f3 hf, hp_b_some, if_neg (by decide), r_ro h, hp_b_some, if_pos rfl, r_th01, hp_b_some, if_neg (by decide)]
  · refine QM.x hJ (kx := 1) (t := 1) (x := 0) (by simp) ?_ ?_
    · unfold F_X8_why
      rw [x_fo f2 hno, hp_bx_r]
    · unfold F_X9_why A_X9_why_14 A_X9_why_28
      rw [r_fo f1 f3 hno, hp_b_some, if_pos rfl]
      by_cases h : 0 ≤ a2 ∧ a2 ≤ 1
      · rw [r_ri h, hp_b_some, if_neg (by decide), r_th10, hp_b_some, if_neg (by decide)]
      · rw [r_ro h, hp_b_some, if_pos rfl, r_th11, hp_b_some, if_neg (by decide)]
theorem q_account (hJ : hp_J B v ps nx b ty rp M) (a : Int32) : QM [(0, 1)] B (F_X8_account a) (F_X9_account a) M := by
  by_cases h : 0 ≤ a ∧ a ≤ 10
  · obtain ⟨k, rfl, hk⟩ := hp_rn (N := 10) (by decide) rfl h
    refine QM.p hJ (hv_an v k) ?_ (fun M' h' => ?_)
    · unfold F_X8_account
      rw [x_ri h, hp_bx_l, x2_an hJ.1 (by omega), hp_b_some]
    · have c0 := h'.r0 0
      unfold F_X9_account A_X9_account_16
      rw [r_ri h, hp_b_some, if_neg (by decide), r_th0, hp_b_some, if_pos rfl]
      by_cases q : k = 10
      · subst q
        rw [if_pos (by decide), r_bal c0, hp_b_some]
      · have ex : (42 : Int32) + nI k = nI (42 + k) := by rw [show (42 : Int32) = nI 42 from rfl, nI_add]
        rw [if_neg (show ¬ (10 : Int32) ≤ nI k from nI_ge (b := 10) (by omega) (by decide)), ex, if_neg (nI_in (by omega) (by decide)), nI_clamp (by omega), r_an c0 (by omega)]
  · refine QM.x hJ (kx := 0) (t := 1) (x := 0) (by simp) ?_ ?_
    · unfold F_X8_account
      rw [x_ro h, hp_bx_r]
    · unfold F_X9_account A_X9_account_16
      rw [r_ro h, hp_b_some, if_pos rfl, r_th1, hp_b_some, if_neg (by decide)]
theorem q_ifRung (hJ : hp_J B v ps nx b ty rp M) (a : Int32) : QM [(1, 1)] B (F_X8_ifRung a) (F_X9_ifRung a) M := by
  obtain ⟨f1, f2, f3⟩ := hJ.fl
  have hok := hJ.2.2.1.1.1
  rcases hp_fl a v.flats f1 with ⟨f, hf, rfl⟩ | hno
  · refine QM.p hJ (if v.ph = 0 then hv_outc v f else 5) ?_ (fun M' h' => ?_)
    · unfold F_X8_ifRung
      rw [x_fi f1 f2 hf, hp_bx_l, x2_refusal hJ.1 hok rfl (by omega) (by omega) (by omega), hp_b_some, hv_ref9]
      by_cases q : v.ph = 0
      · rw [if_pos q, if_pos rfl, x2_outc hJ.1 rfl (by omega), hp_b_some, if_pos q]
      · rw [if_neg q, if_neg (by decide), if_neg q]
    · unfold F_X9_ifRung
      rw [r_fi f1 h'.fl.2.2 hf, hp_b_some, if_neg (by decide), r_th0, hp_b_some, if_pos rfl, r_outcome (h'.r0 0) rfl (by omega), hp_b_some]
  · refine QM.x hJ (kx := 1) (t := 1) (x := 0) (by simp) ?_ ?_
    · unfold F_X8_ifRung
      rw [x_fo f2 hno, hp_bx_r]
    · unfold F_X9_ifRung
      rw [r_fo f1 f3 hno, hp_b_some, if_pos rfl, r_th1, hp_b_some, if_neg (by decide)]
theorem q_speaksIn (hJ : hp_J B v ps nx b ty rp M) (a : Int32) : QM [(1, 1)] B (F_X8_speaksIn a) (F_X9_speaksIn a) M := by
  obtain ⟨f1, f2, f3⟩ := hJ.fl
  have hok := hJ.2.2.1.1
  rcases hp_fl a v.flats f1 with ⟨f, hf, rfl⟩ | hno
  · obtain ⟨M1, a1, a2⟩ := x2_copy (g := 1) hJ.1 (ok_ou hok.1) (by decide)
    obtain ⟨M2, w, b1, b2⟩ := x2_ts (f := f) (a0 := nI f) a2.1 hok rfl hf
    refine QM.a hJ (hv_ts 501 0 v f) (M1 := M2) ?_ (fun g hg => (b2.2 g hg).trans (a2.2 g hg)) (fun M' h' => ?_)
    · unfold F_X8_speaksIn
      rw [x_fi f1 f2 hf, hp_bx_l, a1, hp_b_some, b1, hp_b_some]
    · obtain ⟨M3, d1, d2, d3⟩ := r_setAside (hp_p M' 13 0 13 0)
      have c3 : RRep (M3 13 1) v := (h'.r0 0).row (fun i _ => by rw [d3 13 1 (by omega)])
      obtain ⟨M4, w4, e1, e2⟩ := r_ts (f := f) (a0 := nI f) c3 hok rfl hf
      obtain ⟨M5, g1, g2, g3⟩ := r_bringBack M4
      unfold F_X9_speaksIn A_X9_speaksIn_14
      rw [r_fi f1 h'.fl.2.2 hf, hp_b_some, if_neg (by decide), r_th0, hp_b_some, if_pos rfl, d1, hp_b_some, e1, hp_b_some, g1, hp_b_some]
      exact ⟨M5, rfl, RQ.back d2 d3 e2.2 g2 g3⟩
  · refine QM.x hJ (kx := 1) (t := 1) (x := 0) (by simp) ?_ ?_
    · unfold F_X8_speaksIn
      rw [x_fo f2 hno, hp_bx_r]
    · unfold F_X9_speaksIn A_X9_speaksIn_14
      rw [r_fo f1 f3 hno, hp_b_some, if_pos rfl, r_th1, hp_b_some, if_neg (by decide)]
/-- the draft lives some minutes -/
theorem x_later (hJ : hp_J B v ps nx b ty rp M) {k : Nat} (hk : k ≤ 500) : ∃ M1, F_X8_later (nI k) M = some (.inl 1, M1) ∧ CRep (M1 1) ((hv_run k v).s_time (v.time + nI k)) ∧ ∀ g : Nat, g ≠ 1 → M1 g = M g := by
  obtain ⟨M1, a1, a2⟩ := x2_copy (g := 1) hJ.1 (ok_ou hJ.2.2.1.1.1) (by decide)
  obtain ⟨M2, b1, b2⟩ := x2_pass (k := k) (a0 := nI k) a2.1 hJ.2.2.1.1 rfl (by omega)
  unfold F_X8_later
  rw [x_ri (lo := 0) (hi := 500) ⟨nI_pos' (by omega), nI_le (b := 500) hk (by decide)⟩, hp_bx_l, a1, hp_b_some, b1, hp_b_some]
  exact ⟨M2, rfl, b2.1, fun g hg => (b2.2 g hg).trans (a2.2 g hg)⟩
theorem q_flatIn (hJ : hp_J B v ps nx b ty rp M) (a1 a2 : Int32) : QM [(1, 1), (0, 2)] B (F_X8_flatIn a1 a2) (F_X9_flatIn a1 a2) M := by
  obtain ⟨f1, f2, f3⟩ := hJ.fl
  have hok := hJ.2.2.1.1
  rcases hp_fl a1 v.flats f1 with ⟨f, hf, rfl⟩ | hno
  · by_cases h : 0 ≤ a2 ∧ a2 ≤ 500
    · obtain ⟨k, rfl, hk⟩ := hp_rn (N := 500) (by decide) rfl h
      obtain ⟨M1, z1, z2, z3⟩ := x_later hJ hk
      refine QM.a hJ ((hv_run k v).num f 2) (M1 := M1) ?_ z3 (fun M' h' => ?_)
      · unfold F_X8_flatIn
        rw [x_fi f1 f2 hf, hp_bx_l, z1, hp_bx_l, if_pos (by decide), x2_g2 z2 rfl (by omega), hp_b_some]
      · obtain ⟨M3, d1, d2, d3⟩ := r_setAside (hp_p M' 13 0 13 0)
        have c3 : RRep (M3 13 1) v := (h'.r0 0).row (fun i _ => by rw [d3 13 1 (by omega)])
        obtain ⟨M4, e1, e2⟩ := r_minutes k (by omega) c3 hok (a0 := nI k) rfl
        obtain ⟨M5, g1, g2, g3⟩ := r_bringBack M4
        unfold F_X9_flatIn A_X9_flatIn_14 A_X9_flatIn_30
        rw [r_fi f1 h'.fl.2.2 hf, hp_b_some, if_neg (by decide), r_ri h, hp_b_some, if_neg (by decide), r_th00, hp_b_some, if_pos rfl, d1, hp_b_some, e1, hp_b_some, r_g2 e2.1 rfl (by omega), hp_b_some, g1, hp_b_some]
        exact ⟨M5, rfl, RQ.back d2 d3 e2.2 g2 g3⟩
    · refine QM.x hJ (kx := 0) (t := 2) (x := 0) (by simp) ?_ ?_
      · unfold F_X8_flatIn F_X8_later
        rw [x_fi f1 f2 hf, hp_bx_l, x_ro h, hp_bx_r, hp_bx_r]
      · unfold F_X9_flatIn A_X9_flatIn_14 A_X9_flatIn_30
        rw [r_fi f1 f3 hf, hp_b_some, if_neg (by decide), r_ro h, hp_b_some, if_pos rfl, r_th01, hp_b_some, if_neg (by decide)]
  · refine QM.x hJ (kx := 1) (t := 1) (x := 0) (by simp) ?_ ?_
    · unfold F_X8_flatIn
      rw [x_fo f2 hno, hp_bx_r]
    · unfold F_X9_flatIn A_X9_flatIn_14 A_X9_flatIn_30
      rw [r_fo f1 f3 hno, hp_b_some, if_pos rfl]
      by_cases h : 0 ≤ a2 ∧ a2 ≤ 500
      · rw [r_ri h, hp_b_some, if_neg (by decide), r_th10, hp_b_some, if_neg (by decide)]
      · rw [r_ro h, hp_b_some, if_pos rfl, r_th11, hp_b_some, if_neg (by decide)]
theorem q_debtIn (hJ : hp_J B v ps nx b ty rp M) (a1 a2 : Int32) : QM [(1, 1), (0, 2)] B (F_X8_debtIn a1 a2) (F_X9_debtIn a1 a2) M := by
  obtain ⟨f1, f2, f3⟩ := hJ.fl
  have hok := hJ.2.2.1.1
  rcases hp_fl a1 v.flats f1 with ⟨f, hf, rfl⟩ | hno
  · by_cases h : 0 ≤ a2 ∧ a2 ≤ 500
    · obtain ⟨k, rfl, hk⟩ := hp_rn (N := 500) (by decide) rfl h
      obtain ⟨M1, z1, z2, z3⟩ := x_later hJ hk
      refine QM.a hJ ((hv_run k v).num f 6) (M1 := M1) ?_ z3 (fun M' h' => ?_)
      · unfold F_X8_debtIn
        rw [x_fi f1 f2 hf, hp_bx_l, z1, hp_bx_l, if_pos (by decide), x2_g6 z2 rfl (by omega), hp_b_some]
      · obtain ⟨M3, d1, d2, d3⟩ := r_setAside (hp_p M' 13 0 13 0)
        have c3 : RRep (M3 13 1) v := (h'.r0 0).row (fun i _ => by rw [d3 13 1 (by omega)])
        obtain ⟨M4, e1, e2⟩ := r_minutes k (by omega) c3 hok (a0 := nI k) rfl
        obtain ⟨M5, g1, g2, g3⟩ := r_bringBack M4
        unfold F_X9_debtIn A_X9_debtIn_14 A_X9_debtIn_30
        rw [r_fi f1 h'.fl.2.2 hf, hp_b_some, if_neg (by decide), r_ri h, hp_b_some, if_neg (by decide), r_th00, hp_b_some, if_pos rfl, d1, hp_b_some, e1, hp_b_some, r_g5 e2.1 rfl (by omega), hp_b_some, g1, hp_b_some]
        exact ⟨M5, rfl, RQ.back d2 d3 e2.2 g2 g3⟩
    · refine QM.x hJ (kx := 0) (t := 2) (x := 0) (by simp) ?_ ?_
      · unfold F_X8_debtIn F_X8_later
        rw [x_fi f1 f2 hf, hp_bx_l, x_ro h, hp_bx_r, hp_bx_r]
      · unfold F_X9_debtIn A_X9_debtIn_14 A_X9_debtIn_30
        rw [r_fi f1 f3 hf, hp_b_some, if_neg (by decide), r_ro h, hp_b_some, if_pos rfl, r_th01, hp_b_some, if_neg (by decide)]
  · refine QM.x hJ (kx := 1) (t := 1) (x := 0) (by simp) ?_ ?_
    · unfold F_X8_debtIn
      rw [x_fo f2 hno, hp_bx_r]
    · unfold F_X9_debtIn A_X9_debtIn_14 A_X9_debtIn_30
      rw [r_fo f1 f3 hno, hp_b_some, if_pos rfl]
      by_cases h : 0 ≤ a2 ∧ a2 ≤ 500
      · rw [r_ri h, hp_b_some, if_neg (by decide), r_th10, hp_b_some, if_neg (by decide)]
      · rw [r_ro h, hp_b_some, if_pos rfl, r_th11, hp_b_some, if_neg (by decide)]
theorem q_learnsIn (hJ : hp_J B v ps nx b ty rp M) (a1 a2 : Int32) : QM [(1, 1), (0, 2)] B (F_X8_learnsIn a1 a2) (F_X9_learnsIn a1 a2) M := by
  obtain ⟨f1, f2, f3⟩ := hJ.fl
  have hok := hJ.2.2.1.1
  rcases hp_fl a1 v.flats f1 with ⟨f, hf, rfl⟩ | hno
  · by_cases h : 0 ≤ a2 ∧ a2 ≤ 500
    · obtain ⟨k, rfl, hk⟩ := hp_rn (N := 500) (by decide) rfl h
      obtain ⟨M1, z1, z2, z3⟩ := x_later hJ hk
      have c0 : CRep (M1 0) v := by rw [z3 0 (by decide)]; exact hJ.1
      refine QM.a hJ (hv_bits (hv_kop ((hv_run k v).s_time (v.time + nI k)) f) ((hv_run k v).s_time (v.time + nI k)).flats &&& (hv_bits (hv_kop v f) v.flats ^^^ (-1 : Int32))) (M1 := M1) ?_ z3 (fun M' h' => ?_)
      · unfold F_X8_learnsIn
        rw [x_fi f1 f2 hf, hp_bx_l, z1, hp_bx_l, if_pos (by decide), x2_known z2 rfl (by omega), hp_b_some, x2_known c0 rfl (by omega), hp_b_some]
      · obtain ⟨M3, d1, d2, d3⟩ := r_setAside (hp_p M' 13 0 13 0)
        have c3 : RRep (M3 13 1) v := (h'.r0 0).row (fun i _ => by rw [d3 13 1 (by omega)])
        obtain ⟨M4, e1, e2⟩ := r_minutes k (by omega) c3 hok (a0 := nI k) rfl
        obtain ⟨M5, g1, g2, g3⟩ := r_bringBack M4
        unfold F_X9_learnsIn A_X9_learnsIn_14 A_X9_learnsIn_30
        rw [r_fi f1 h'.fl.2.2 hf, hp_b_some, if_neg (by decide), r_ri h, hp_b_some, if_neg (by decide), r_th00, hp_b_some, if_pos rfl, r_known (h'.r0 0) rfl (by omega), hp_b_some, d1, hp_b_some, e1, hp_b_some, r_known e2.1 rfl (by omega), hp_b_some, g1, hp_b_some]
        exact ⟨M5, rfl, RQ.back d2 d3 e2.2 g2 g3⟩
    · refine QM.x hJ (kx := 0) (t := 2) (x := 0) (by simp) ?_ ?_
      · unfold F_X8_learnsIn F_X8_later
        rw [x_fi f1 f2 hf, hp_bx_l, x_ro h, hp_bx_r, hp_bx_r]
      · unfold F_X9_learnsIn A_X9_learnsIn_14 A_X9_learnsIn_30
        rw [r_fi f1 f3 hf, hp_b_some, if_neg (by decide), r_ro h, hp_b_some, if_pos rfl, r_th01, hp_b_some, if_neg (by decide)]
  · refine QM.x hJ (kx := 1) (t := 1) (x := 0) (by simp) ?_ ?_
    · unfold F_X8_learnsIn
      rw [x_fo f2 hno, hp_bx_r]
    · unfold F_X9_learnsIn A_X9_learnsIn_14 A_X9_learnsIn_30
      rw [r_fo f1 f3 hno, hp_b_some, if_pos rfl]
      by_cases h : 0 ≤ a2 ∧ a2 ≤ 500
      · rw [r_ri h, hp_b_some, if_neg (by decide), r_th10, hp_b_some, if_neg (by decide)]
      · rw [r_ro h, hp_b_some, if_pos rfl, r_th11, hp_b_some, if_neg (by decide)]
theorem q_waitIf (hJ : hp_J B v ps nx b ty rp M) (a : Int32) : QM [(1, 1)] B (F_X8_waitIf a) (F_X9_waitIf a) M := by
  obtain ⟨f1, f2, f3⟩ := hJ.fl
  have hok := hJ.2.2.1.1
  rcases hp_fl a v.flats f1 with ⟨f, hf, rfl⟩ | hno
  · by_cases q : v.num f 2 = 0
    · obtain ⟨M1, a1, a2⟩ := x2_copy (g := 1) hJ.1 (ok_ou hok.1) (by decide)
      obtain ⟨M2, b1, b2⟩ := x2_perf6 (f := f) (a1 := nI f) (x := 99) a2.1 rfl (by omega)
      obtain ⟨M3, w, d1, d2⟩ := x2_ts (f := f) (a0 := nI f) b2.1 (ok2_out hok hf q ⟨by decide, by decide⟩) rfl hf
      refine QM.a hJ (hv_ts 501 0 (hv_out v f 99) f) (M1 := M3) ?_ (fun g hg => (d2.2 g hg).trans ((b2.2 g hg).trans (a2.2 g hg))) (fun M' h' => ?_)
      · unfold F_X8_waitIf
        rw [x_fi f1 f2 hf, hp_bx_l, x2_refusal hJ.1 hok.1 rfl (by omega) (by omega) (by omega), hp_b_some, hv_ref6, if_pos q, if_pos rfl, a1, hp_b_some, b1, hp_b_some, d1, hp_b_some]
      · obtain ⟨M4, e1, e2, e3⟩ := r_setAside (hp_p M' 13 0 13 0)
        have c4 : RRep (M4 13 1) v := (h'.r0 0).row (fun i _ => by rw [e3 13 1 (by omega)])
        obtain ⟨M5, g1, g2⟩ := r_wants (w := 1) (f := f) (a0 := nI f) c4 rfl (by omega)
        rw [if_pos q] at g2
        obtain ⟨M6, w6, i1, i2⟩ := r_ts (f := f) (a0 := nI f) g2.1 (ok2_out hok hf q ⟨by decide, by decide⟩) rfl hf
        obtain ⟨M7, k1, k2, k3⟩ := r_bringBack M6
        unfold F_X9_waitIf A_X9_waitIf_14
        rw [r_fi f1 h'.fl.2.2 hf, hp_b_some, if_neg (by decide), r_th0, hp_b_some, if_pos rfl, r_g2 (h'.r0 0) rfl (by omega), hp_b_some, if_pos q, e1, hp_b_some, g1, hp_b_some, i1, hp_b_some, k1, hp_b_some, hv_out_ts hok.1 (x := 1) (y := 99) q]
        exact ⟨M7, rfl, RQ.back e2 e3 (fun g j hg => (i2.2 g j hg).trans (g2.2 g j hg)) k2 k3⟩
    · refine QM.p hJ (-1) ?_ (fun M' h' => ?_)
      · unfold F_X8_waitIf
        rw [x_fi f1 f2 hf, hp_bx_l, x2_refusal hJ.1 hok.1 rfl (by omega) (by omega) (by omega), hp_b_some, hv_ref6, if_neg q, if_neg (by decide)]
      · unfold F_X9_waitIf A_X9_waitIf_14
        rw [r_fi f1 h'.fl.2.2 hf, hp_b_some, if_neg (by decide), r_th0, hp_b_some, if_pos rfl, r_g2 (h'.r0 0) rfl (by omega), hp_b_some, if_neg q, if_pos (hp_p_s _ _ _ _ _)]
  · refine QM.x hJ (kx := 1) (t := 1) (x := 0) (by simp) ?_ ?_
    · unfold F_X8_waitIf
      rw [x_fo f2 hno, hp_bx_r]
    · unfold F_X9_waitIf A_X9_waitIf_14
      rw [r_fo f1 f3 hno, hp_b_some, if_pos rfl, r_th1, hp_b_some, if_neg (by decide), if_neg (by rw [hp_p_s]; decide)]
end ASK2
