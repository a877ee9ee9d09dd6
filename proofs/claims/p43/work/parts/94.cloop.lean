/-! ===== the class does a text ===== -/
section DOES
variable {d : HV} {B j f : Nat} {x : Int32}
/-- what is known of verb, flat and number of a statement -/
def tk_ok (n j f : Nat) (x : Int32) : Prop := j < 12 ∧ (hp_vnam.getD j 0 ≠ 0 → f < n) ∧ ((hp_vgre.getD j 0 ≤ 0 ∧ x = 0) ∨ (¬ hp_vgre.getD j 0 ≤ 0 ∧ hp_vlea.getD j 0 ≤ x ∧ x ≤ hp_vgre.getD j 0 ∧ ∃ y : Nat, x = nI y ∧ y < 10000))
theorem tk_ok_j {n : Nat} (h : tk_ok n j f x) : j = 0 ∧ 0 ≤ x ∨ j = 1 ∧ 1 ≤ x ∧ x ≤ 30 ∨ (2 ≤ j ∧ j < 6) ∧ 0 ≤ x ∨ j = 6 ∧ f < n ∧ 1 ≤ x ∧ x ≤ 99 ∨ j = 7 ∧ f < n ∨ j = 8 ∧ f < n ∨ j = 9 ∧ f < n ∧ 1 ≤ x ∧ x ≤ 99 ∨ j = 10 ∧ f < n ∧ 1 ≤ x ∨ j = 11 ∧ ∃ y : Nat, x = nI y ∧ y < 1000 := by
  obtain ⟨h1, h2, h3⟩ := h
  have e1 : ∀ z : Int32, (4 : Int32) ≤ 30 → 1 ≤ z → 0 ≤ z := fun z _ h => by grind
  rcases (show j = 0 ∨ j = 1 ∨ j = 2 ∨ j = 3 ∨ j = 4 ∨ j = 5 ∨ j = 6 ∨ j = 7 ∨ j = 8 ∨ j = 9 ∨ j = 10 ∨ j = 11 by omega) with rfl | rfl | rfl | rfl | rfl | rfl | rfl | rfl | rfl | rfl | rfl | rfl
  · rcases h3 with q | ⟨q1, q2, q3, q4⟩
    · exact absurd q.1 (by decide)
    · exact Or.inl ⟨rfl, q2⟩
  · rcases h3 with q | ⟨q1, q2, q3, q4⟩
    · exact absurd q.1 (by decide)
    · exact Or.inr (Or.inl ⟨rfl, q2, q3⟩)
  · rcases h3 with q | ⟨q1, q2, q3, q4⟩
    · exact absurd q.1 (by decide)
    · exact Or.inr (Or.inr (Or.inl ⟨by omega, q2⟩))
  · rcases h3 with q | ⟨q1, q2, q3, q4⟩
    · exact absurd q.1 (by decide)
    · exact Or.inr (Or.inr (Or.inl ⟨by omega, q2⟩))
  · rcases h3 with q | ⟨q1, q2, q3, q4⟩
    · exact absurd q.1 (by decide)
    · exact Or.inr (Or.inr (Or.inl ⟨by omega, e1 x (by decide) q2⟩))
  · rcases h3 with q | ⟨q1, q2, q3, q4⟩
    · exact absurd q.1 (by decide)
    · exact Or.inr (Or.inr (Or.inl ⟨by omega, q2⟩))
  · rcases h3 with q | ⟨q1, q2, q3, q4⟩
    · exact absurd q.1 (by decide)
    · exact Or.inr (Or.inr (Or.inr (Or.inl ⟨rfl, h2 (by decide), q2, q3⟩)))
  · exact Or.inr (Or.inr (Or.inr (Or.inr (Or.inl ⟨rfl, h2 (by decide)⟩))))
  · exact Or.inr (Or.inr (Or.inr (Or.inr (Or.inr (Or.inl ⟨rfl, h2 (by decide)⟩)))))
  · rcases h3 with q | ⟨q1, q2, q3, q4⟩
    · exact absurd q.1 (by decide)
    · exact Or.inr (Or.inr (Or.inr (Or.inr (Or.inr (Or.inr (Or.inl ⟨rfl, h2 (by decide), q2, q3⟩))))))
  · rcases h3 with q | ⟨q1, q2, q3, q4⟩
    · exact absurd q.1 (by decide)
    · exact Or.inr (Or.inr (Or.inr (Or.inr (Or.inr (Or.inr (Or.inr (Or.inl ⟨rfl, h2 (by decide), q2⟩)))))))
  · rcases h3 with q | ⟨q1, q2, q3, y, q4, q5⟩
    · exact absurd q.1 (by decide)
    · refine Or.inr (Or.inr (Or.inr (Or.inr (Or.inr (Or.inr (Or.inr (Or.inr ⟨rfl, y, q4, ?_⟩)))))))
      have q3 : x ≤ nI 999 := q3
      rw [q4] at q3
      have := (nI_leI (by omega) (by decide)).mp q3
      omega
theorem hv_do_S (h : j < 6) : hv_do d j f x = d.s_set (up1 d.set j x) := if_pos h
theorem hv_do_6 : hv_do d 6 f x = hv_out d f x := rfl
theorem hv_do_7 : hv_do d 7 f x = hv_give d f := rfl
theorem hv_do_8 : hv_do d 8 f x = hv_end d := rfl
theorem hv_do_9 : hv_do d 9 f x = hv_ring d f x := rfl
theorem hv_do_10 : hv_do d 10 f x = hv_pay d f x := rfl
theorem hv_do_11 {y : Nat} (hy : y < 2 ^ 31) : hv_do d 11 f (nI y) = (hv_run y d).s_time (d.time + nI y) := by
  unfold hv_do
  iterate 6 rw [if_neg (by decide)]
  rw [nI_clamp hy]
theorem hv_ref_S (h : j < 6 ∨ j = 11) : hv_ref d j f x = 0 := by
  unfold hv_ref
  rw [if_neg (by omega), if_neg (by omega), if_neg (by omega), if_neg (by omega), if_neg (by omega)]
theorem g_do (hg : hv_g B d) (h : tk_ok d.flats j f x) (h0 : hv_ref d j f x = 0) : hv_g (B + 1000) (hv_do d j f x) := by
  rcases tk_ok_j h with ⟨rfl, q⟩ | ⟨rfl, q1, q2⟩ | ⟨⟨q1, q2⟩, q3⟩ | ⟨rfl, q1, q2, q3⟩ | ⟨rfl, q1⟩ | ⟨rfl, q1⟩ | ⟨rfl, q1, q2, q3⟩ | ⟨rfl, q1, q2⟩ | ⟨rfl, y, q1, q2⟩
  · rw [hv_do_S (by decide)]; exact g_mono (g_set hg (fun z => absurd z (by decide)) q) (by omega)
  · rw [hv_do_S (by decide)]; exact g_mono (g_set hg (fun _ => ⟨q1, q2⟩) (by grind)) (by omega)
  · rw [hv_do_S q2]; exact g_mono (g_set hg (fun z => absurd z (by omega)) q3) (by omega)
  · rw [hv_ref6] at h0
    by_cases z : d.num f 2 = 0
    · rw [hv_do_6]; exact g_mono (g_out hg q1 z ⟨q2, q3⟩) (by omega)
    · rw [if_neg z] at h0; exact absurd h0 (by decide)
  · rw [hv_ref7] at h0
    by_cases z : d.num f 2 = 2 ∨ (d.num f 2 = 1 ∧ ¬ (d.ph = 1 ∧ d.who = f))
    · rw [hv_do_7]; exact g_mono (g_give hg q1 z) (by omega)
    · rw [if_neg z] at h0; exact absurd h0 (by decide)
  · rw [hv_ref8] at h0
    by_cases z : d.num f 2 = 3
    · rw [hv_do_8]; exact g_mono (g_end hg (ok_sp2 hg.1.1 f q1 z).1) (by omega)
    · rw [if_neg z] at h0; exact absurd h0 (by decide)
  · rw [hv_ref9] at h0
    by_cases z : d.ph = 0
    · rw [hv_do_9]; exact g_mono (g_ring hg q1 z ⟨q2, q3⟩) (by omega)
    · rw [if_neg z] at h0; exact absurd h0 (by decide)
  · rw [hv_do_10]; exact g_mono (g_pay hg) (by omega)
  · subst q1
    rw [hv_do_11 (by omega)]; exact g_pass hg q2
end DOES
section DOES2
variable {g : Nat} {M : hp_M} {d : HV} {B j f : Nat} {a1 x : Int32}
theorem x2_refS (c : CRep (M g) d) (h : hv_ok d) (hj : j < 12) (hA : (hp_vnam.getD j 0 = 0 ∧ a1 = -1) ∨ (hp_vnam.getD j 0 ≠ 0 ∧ a1 = nI f ∧ f < 10)) : F_X2_refusal g j a1 x M = some (hv_ref d j f x, M) := by
  rcases hA with ⟨h1, h2⟩ | ⟨h1, h2, h3⟩
  · subst h2
    have eg : F_X2_get g (-1) 2 M = some (0, M) := by
      unfold F_X2_get
      rw [if_pos (by decide)]
    have hz : j < 6 ∨ j = 11 := by
      have : ∀ j : Nat, j < 12 → hp_vnam.getD j 0 = 0 → j < 6 ∨ j = 11 := by decide
      exact this j hj h1
    have hsm : ∀ j : Nat, j < 12 → (j < 6 ∨ j = 11) → hp_sm.getD (nI j).toNatClampNeg 0 = 0 ∨ hp_sm.getD (nI j).toNatClampNeg 0 = 6 := by decide +kernel
    rw [hv_ref_S hz]
    unfold F_X2_refusal F_Jx29ce0_ordinal_8abf5
    rw [eg, hp_b_some, hp_b_some, if_neg (nI_in hj (by decide))]
    rcases hsm j hj hz with q | q
    · rw [q, if_neg (by decide), if_neg (by decide), if_neg (by decide), if_neg (by decide), if_neg (by decide)]
    · rw [q, if_neg (by decide), if_neg (by decide), if_neg (by decide), if_neg (by decide), if_neg (by decide)]
  · have hz : 6 ≤ j ∧ j < 11 := by
      have : ∀ j : Nat, j < 12 → hp_vnam.getD j 0 ≠ 0 → 6 ≤ j ∧ j < 11 := by decide
      exact this j hj h1
    exact x2_refusal c h h2 h3 hz.1 hz.2
theorem x2_do (c : CRep (M g) d) (hg : hv_g B d) (h : tk_ok d.flats j f x) (h0 : hv_ref d j f x = 0) (hA : (hp_vnam.getD j 0 = 0 ∧ a1 = -1) ∨ (hp_vnam.getD j 0 ≠ 0 ∧ a1 = nI f ∧ f < 10)) : ∃ r M', F_X2_perform g j a1 x M = some (r, M') ∧ CS g M (hv_do d j f x) M' := by
  have hf : hp_vnam.getD j 0 ≠ 0 → a1 = nI f ∧ f < 10 := fun q => by
    rcases hA with z | z
    · exact absurd z.1 q
    · exact z.2
  rcases tk_ok_j h with ⟨rfl, q⟩ | ⟨rfl, q1, q2⟩ | ⟨⟨q1, q2⟩, q3⟩ | ⟨rfl, q1, q2, q3⟩ | ⟨rfl, q1⟩ | ⟨rfl, q1⟩ | ⟨rfl, q1, q2, q3⟩ | ⟨rfl, q1, q2⟩ | ⟨rfl, y, q1, q2⟩
  · rw [hv_do_S (by decide)]; exact ⟨_, x2_perfS c (by decide)⟩
  · rw [hv_do_S (by decide)]; exact ⟨_, x2_perfS c (by decide)⟩
  · rw [hv_do_S q2]; exact ⟨_, x2_perfS c q2⟩
  · rw [hv_do_6]; exact ⟨_, x2_perf6 c (hf (by decide)).1 (hf (by decide)).2⟩
  · rw [hv_do_7]; exact ⟨_, x2_perf7 c hg.1.1 (hf (by decide)).1 (hf (by decide)).2⟩
  · rw [hv_ref8] at h0
    by_cases z : d.num f 2 = 3
    · rw [hv_do_8]; exact ⟨_, x2_perf8 c hg.1.1 (ok_sp2 hg.1.1 f q1 z).1⟩
    · rw [if_neg z] at h0; exact absurd h0 (by decide)
  · rw [hv_do_9]; exact ⟨_, x2_perf9 c hg.1.1 (hf (by decide)).1 (hf (by decide)).2⟩
  · rw [hv_do_10]; exact ⟨_, x2_perf10 c (hf (by decide)).1 (hf (by decide)).2⟩
  · subst q1
    rw [hv_do_11 (by omega)]; exact ⟨_, x2_perf11 c hg.1 rfl q2⟩
theorem j_fill {g0 j0 n0 : Nat} (hn : n0 < 1000) (a1 : Int32) : ∃ M', F_J7_fill_53178 g0 j0 n0 a1 M = some ((), M') ∧ (∀ i : Nat, i < n0 → M' g0 j0 i = a1) ∧ ∀ g j i : Nat, ¬ (g = g0 ∧ j = j0) → M' g j i = M g j i := by
  unfold F_J7_fill_53178
  obtain ⟨n', M', e, h1, h2⟩ := hp_runs (T := fun n i M1 => L_J7_fill_53178_5 g0 j0 n0 a1 (nI n0) n (nI i) M1) (I := fun i M1 => (∀ k : Nat, k < i → M1 g0 j0 k = a1) ∧ ∀ g j k : Nat, ¬ (g = g0 ∧ j = j0) → M1 g j k = M g j k) (N := n0) (fun n i M1 hi hM => by
    show ∃ M2, L_J7_fill_53178_5 g0 j0 n0 a1 (nI n0) (n + 1) (nI i) M1 = L_J7_fill_53178_5 g0 j0 n0 a1 (nI n0) n (nI (i + 1)) M2 ∧ _
    rw [L_J7_fill_53178_5.eq_2, if_neg (nI_ge hi (by omega)), if_neg (nI_in hi (by omega)), nI_clamp (by omega), nI_1]
    refine ⟨_, rfl, fun k hk => ?_, fun g j k hg => ?_⟩
    · by_cases q : k = i
      · rw [q, hp_p_s]
      · rw [hp_p_o (h := by omega)]; exact hM.1 k (by omega)
    · rw [hp_p_o (h := by omega)]; exact hM.2 g j k hg) hp_fu M (by unfold hp_fu; omega) ⟨fun k hk => absurd hk (by omega), fun _ _ _ _ => rfl⟩
  refine ⟨M', e.trans ?_, h1, h2⟩
  show L_J7_fill_53178_5 g0 j0 n0 a1 (nI n0) (n' + 1) (nI n0) M' = _
  rw [L_J7_fill_53178_5.eq_2, if_pos (nI_le (Nat.le_refl _) (by omega))]
theorem x2_clear : ∃ M', F_X2_clear g M = some ((), M') ∧ CS g M hv_new M' := by
  unfold F_X2_clear F_X8_copyRowT
  rw [hp_b_some]
  generalize hM1 : hp_sr (hp_p (hp_p (hp_p M g 0 0 0) g 0 1 0) g 0 2 0) g 1 (hp_cpy 6 (fun i => hp_fs.getD i 0) (hp_p (hp_p (hp_p M g 0 0 0) g 0 1 0) g 0 2 0 g 1)) = M1
  have a0 : ∀ i : Nat, i < 3 → M1 g 0 i = 0 := by
    intro i hi
    rw [← hM1, hp_sr_at, if_neg (by omega)]
    simp only [hp_p_at]
    grind
  have a1 : ∀ i : Nat, i < 6 → M1 g 1 i = hp_fs.getD i 0 := by
    intro i hi
    rw [← hM1, hp_sr_at, if_pos ⟨rfl, rfl⟩, hp_cpy_at, if_pos hi]
  have ao : ∀ g' : Nat, g' ≠ g → M1 g' = M g' := by
    intro g' hg
    funext j i
    rw [← hM1, hp_sr_at, if_neg (fun q => hg q.1), hp_p_o (h := fun q => hg q.1), hp_p_o (h := fun q => hg q.1), hp_p_o (h := fun q => hg q.1)]
  obtain ⟨M2, e2, b1, b2⟩ := j_fill (M := M1) (g0 := g) (j0 := 2) (n0 := 10) (by decide) 0
  obtain ⟨M3, e3, c1, c2⟩ := j_fill (M := M2) (g0 := g) (j0 := 3) (n0 := 110) (by decide) 0
  obtain ⟨M4, e4, d1, d2⟩ := j_fill (M := M3) (g0 := g) (j0 := 4) (n0 := 100) (by decide) 0
  rw [e2, hp_b_some, e3, hp_b_some, e4, hp_b_some]
  unfold F_X3_putDown
  rw [hp_b_some]
  refine ⟨_, rfl, ⟨?_, ?_, ?_, ?_, ?_, ?_, ?_, ?_, ?_, ?_, ?_, ?_, ?_, ?_, ?_, ?_, ?_, ?_, ?_⟩, ?_⟩
  · simp only [hp_p_at]
    have : M4 g 0 0 = 0 := by rw [d2 _ _ _ (by omega), c2 _ _ _ (by omega), b2 _ _ _ (by omega), a0 0 (by decide)]
    show _ = nI 0
    rw [nI_0]
    grind
  · show (0 : Nat) ≤ 10; decide
  · simp only [hp_p_at]
    have : M4 g 0 1 = 0 := by rw [d2 _ _ _ (by omega), c2 _ _ _ (by omega), b2 _ _ _ (by omega), a0 1 (by decide)]
    show _ = (0 : Int32)
    grind
  · simp only [hp_p_at]
    have : M4 g 0 2 = 0 := by rw [d2 _ _ _ (by omega), c2 _ _ _ (by omega), b2 _ _ _ (by omega), a0 2 (by decide)]
    show _ = (0 : Int32)
    grind
  · intro i hi
    simp only [hp_p_at]
    have : M4 g 1 i = hp_fs.getD i 0 := by rw [d2 _ _ _ (by omega), c2 _ _ _ (by omega), b2 _ _ _ (by omega), a1 i hi]
    show _ = hp_fs.getD i 0
    grind
  · intro i h1 hi
    simp only [hp_p_at]
    have : M4 g 2 i = 0 := by rw [d2 _ _ _ (by omega), c2 _ _ _ (by omega), b1 i hi]
    show _ = (0 : Int32)
    grind
  · intro f k hf hk _ _
    simp only [hp_p_at]
    have : M4 g 3 (11 * f + k) = 0 := by rw [d2 _ _ _ (by omega), c1 _ (by omega)]
    show _ = (0 : Int32)
    grind
  · intro f k hf hk
    simp only [hp_p_at]
    have : M4 g 4 (10 * f + k) = 0 := d1 _ (by omega)
    show _ = (0 : Int32)
    grind
  · simp only [hp_p_at]; show _ = (0 : Int32); grind
  · simp only [hp_p_at]; show _ = (-1 : Int32); grind
  · simp only [hp_p_at]; show _ = (0 : Int32); grind
  · simp only [hp_p_at]; show _ = (0 : Int32); grind
  · simp only [hp_p_at]; show _ = (0 : Int32); grind
  · simp only [hp_p_at]; show _ = nI 0; rw [nI_0]; grind
  · show (0 : Nat) ≤ 10; decide
  · intro i y hy
    have hy : ([] : List Nat)[i]? = some y := hy
    simp at hy
  · simp only [hp_p_at]; show _ = nI 0; rw [nI_0]; grind
  · show (0 : Nat) ≤ 8; decide
  · intro i y hy
    have hy : ([] : List (Nat × Int32))[i]? = some y := hy
    simp at hy
  · intro g' hg
    funext j i
    simp only [hp_p_at]
    have : M4 g' j i = M g' j i := by rw [d2 _ _ _ (fun q => hg q.1), c2 _ _ _ (fun q => hg q.1), b2 _ _ _ (fun q => hg q.1), ao g' hg]
    grind
theorem x2_addf (c : CRep (M g) d) {y : Int32} : (d.flats = 10 ∧ F_X2_addFlat g y M = some (0, M)) ∨ (d.flats < 10 ∧ ∃ M', F_X2_addFlat g y M = some (1, M') ∧ CS g M (hv_add d y) M') := by
  have h10 := c.fl10
  unfold F_X2_addFlat
  rw [c.fl]
  by_cases h : d.flats = 10
  · rw [if_neg (show ¬ nI d.flats < (10 : Int32) from nI_nlt (b := 10) (by omega) (by omega))]
    exact Or.inl ⟨h, rfl⟩
  · rw [if_pos (show nI d.flats < (10 : Int32) from nI_lt (b := 10) (by omega) (by decide)), x2_p0 rfl (by omega), hp_b_some]
    have c1 := CS.num (f := d.flats) (k := 0) (x := y) c (by omega) (by decide)
    have e0 : hp_p M g 3 (11 * d.flats + 0) y g 0 0 = nI d.flats := c1.1.fl
    rw [e0, nI_1]
    refine Or.inr ⟨by omega, _, rfl, ?_, fun g' hg => ?_⟩
    · exact CRep.pflats (k := d.flats + 1) c1.1 (fun j i h => hp_p_o _ _ _ _ _ (by omega)) (hp_p_s _ _ _ _ _) (by omega)
    · rw [hp_p_ne _ _ _ _ hg]; exact c1.2 g' hg
end DOES2
