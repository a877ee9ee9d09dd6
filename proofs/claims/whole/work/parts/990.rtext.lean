/-! ===== the reference: the whole text ===== -/
section RTEXT
variable {T : Nat → Int32} {L : Nat} {M : hp_M}
theorem r_house (hL : L ≤ 700) (hX : RX T L M) (hT : RT T L 0 M) (h0 : M 13 0 18 = 0) (c : RRep (M 13 1) hv_new) : ∃ (r : Int32) (M' : hp_M), F_X9_readsHouse M = some (r, M') ∧ RG M M' ∧ ((∃ e, tk_house T L = .inl e ∧ r = 0 ∧ M' 13 0 18 = e) ∨ (∃ q d', r = 1 ∧ M' 13 0 18 = 0 ∧ RT T L q M' ∧ RRep (M' 13 1) d' ∧ q ≤ L ∧ ((tk_k T L q = 1 ∧ tk_house T L = .inr (tk_e T L q, d')) ∨ (tk_k T L q ≠ 1 ∧ tk_house T L = .inl (tk_er T L q 1))))) := by
  have he := tk_e_le (T := T) (L := L) (p := 0) (Nat.zero_le _)
  obtain ⟨r, w1, w2⟩ := r_says (M := M) hL (Nat.zero_le _) (t := 46) (by omega) (by omega) hX hT
  have hw : tk_is T L 0 46 ↔ tk_is T L 0 28 := by
    have e : hp_tx 28 = hp_tx 46 := hp_tx_same 0 (by omega)
    unfold tk_is
    rw [e]
  unfold F_X9_readsHouse tk_house
  rw [w1, hp_b_some]
  rcases w2 with ⟨w2, w3⟩ | ⟨w2, w3⟩
  · rw [if_pos w2, if_neg (fun z => w3 (hw.mpr z)), r_fail (a0 := 1) 1 rfl hT.2.2.1 h0, hp_b_some, if_pos (Or.inl rfl)]
    exact ⟨0, _, rfl, RG.f (RF.p (by omega) (by omega)), Or.inl ⟨_, rfl, rfl, hp_p_s _ _ _ _ _⟩⟩
  · obtain ⟨M1, a1, a2, a3, a4, a5⟩ := r_nx hL he.2 hX hT.1
    rw [if_neg (by rw [w2]; decide), if_pos (hw.mp w3), a1, hp_b_some]
    by_cases hk : tk_k T L (tk_e T L 0) = 3
    · rw [if_pos hk]
      obtain ⟨r', M', e1, e2, e3⟩ := r_fl hL 11 (tk_e T L 0) hp_fu hv_new M1 rfl (by unfold hp_fu; omega) he.2 (a3.x hX) a2 (a4.trans h0) (a3.r c) hk
      exact ⟨r', M', e1, (RG.f a3).tr e2, e3⟩
    · obtain ⟨m, hm⟩ : ∃ m, hp_fu = m + 1 := ⟨hp_fu - 1, by unfold hp_fu; omega⟩
      rw [if_neg hk, hm, L_X9_readsHouse_21.eq_2, if_neg (by decide)]
      unfold F_X9_isNumber
      rw [a2.2.1, if_neg hk, r_fail (a0 := 1) 1 rfl a2.2.2.1 (a4.trans h0), hp_b_some, if_pos (Or.inl rfl), hp_b_some, if_pos rfl]
      exact ⟨0, _, rfl, (RG.f a3).tr (RG.f (RF.p (by omega) (by omega))), Or.inl ⟨_, rfl, rfl, hp_p_s _ _ _ _ _⟩⟩
theorem r_text (hL : L ≤ 700) (hX : RX T L M) (h16 : M 13 0 16 = 0) (h0 : M 13 0 18 = 0) (c : RRep (M 13 1) hv_new) : ∃ (r : Int32) (M1 M' : hp_M), F_X9_next M = some ((), M1) ∧ F_X9_readsAll M1 = some (r, M') ∧ RG M M' ∧ ((∃ e, tk_text T L = .inl e ∧ r = 0 ∧ M' 13 0 18 = e) ∨ (∃ d, tk_text T L = .inr d ∧ r = 1 ∧ RRep (M' 13 1) d)) := by
  obtain ⟨M1, a1, a2, a3, a4, a5⟩ := r_nx (M := M) (p := 0) hL (Nat.zero_le _) hX (h16.trans nI_0.symm)
  obtain ⟨m, hm⟩ : ∃ m, hp_fu = m + 1 := ⟨hp_fu - 1, by unfold hp_fu; omega⟩
  have hm2 : 701 < m := by unfold hp_fu at hm; omega
  have key : ∃ (r : Int32) (M' : hp_M), F_X9_readsAll M1 = some (r, M') ∧ RG M M' ∧ ((∃ e, tk_text T L = .inl e ∧ r = 0 ∧ M' 13 0 18 = e) ∨ (∃ d, tk_text T L = .inr d ∧ r = 1 ∧ RRep (M' 13 1) d)) := by
    unfold F_X9_readsAll tk_text
    rw [hm, L_X9_readsAll_2.eq_2, if_neg (by decide)]
    unfold A_X9_readsAll_13
    rw [if_neg (by decide)]
    obtain ⟨r, M2, b1, b2, ⟨e, d1, d2, d3⟩ | ⟨q, d, d1, d2, d3, d4, d5, d6⟩⟩ := r_house hL (a3.x hX) a2 (a4.trans h0) (a3.r c)
    · rw [b1, hp_b_some, if_pos d2, d1]
      exact ⟨0, M2, rfl, (RG.f a3).tr b2, Or.inl ⟨e, rfl, rfl, d3⟩⟩
    · rw [b1, hp_b_some, if_neg (by rw [d1]; decide)]
      unfold A_X9_readsAll_36
      rw [d3.2.1]
      have heq := tk_e_le (T := T) d5
      have hem : ∀ q' d', tk_house T L = .inr (q', d') → hv_g 0 d' := by
        intro q' d' z
        rcases tk_house_in (T := T) hL with ⟨e, y1, -⟩ | ⟨q0, d0, y1, y2, y3, y4⟩
        · rw [y1] at z; cases z
        · rw [y1] at z; cases z; exact hv_em_g y4
      rcases d6 with ⟨w1, w2⟩ | ⟨w1, w2⟩
      · obtain ⟨M3, f1, f2, f3, f4, f5⟩ := r_nx hL heq.2 (b2.x (a3.x hX)) d3.1
        rw [if_pos w1, f1, hp_b_some, w2]
        obtain ⟨r', M', k1, k2, k3⟩ := r_all hL 701 (tk_e T L q) 0 m d M3 (by omega) (by omega) heq.2 (f3.x (b2.x (a3.x hX))) f2 (f4.trans d2) (f3.r d4) (hem _ _ w2)
        exact ⟨r', M', k1, (((RG.f a3).tr b2).tr (RG.f f3)).tr k2, k3⟩
      · rw [if_neg w1, r_fail (a0 := 1) 1 rfl d3.2.2.1 d2, hp_b_some, if_pos (Or.inl rfl), w2]
        exact ⟨0, _, rfl, ((RG.f a3).tr b2).tr (RG.f (RF.p (by omega) (by omega))), Or.inl ⟨_, rfl, rfl, hp_p_s _ _ _ _ _⟩⟩
  obtain ⟨r, M', k⟩ := key
  exact ⟨r, M1, M', a1, k⟩
/-- parseAll -/
theorem r_parse (hL : L ≤ 700) (hX : RX T L M) : ∃ (r : Int32) (M' : hp_M), F_X9_parseAll M = some (r, M') ∧ (∀ g j i : Nat, ¬ (g = 13 ∧ (j = 1 ∨ j = 2 ∨ j = 9 ∨ (j = 0 ∧ (i = 5 ∨ i = 6 ∨ (14 ≤ i ∧ i ≤ 19))))) → M' g j i = M g j i) ∧ ((∃ e, tk_text T L = .inl e ∧ r = 0 ∧ M' 13 0 18 = e ∧ (∀ i : Nat, i < 242 → M' 13 1 i = M 13 1 i) ∧ M' 13 0 5 = M 13 0 5 ∧ M' 13 0 6 = M 13 0 6) ∨ (∃ d, tk_text T L = .inr d ∧ r = 1 ∧ RRep (M' 13 1) d ∧ M' 13 0 5 = 0 ∧ M' 13 0 6 = 0)) := by
  unfold F_X9_parseAll
  obtain ⟨n', M1, e1, k1, k2, k3⟩ := hp_runs (T := fun n i M1 => L_X9_parseAll_2 n (nI i) M1) (I := fun i M1 => (∀ k : Nat, M1 13 1 k = if k < i then 0 else M 13 1 k) ∧ (∀ k : Nat, k < i → M1 13 2 k = M 13 1 k) ∧ ∀ g j k : Nat, ¬ (g = 13 ∧ (j = 1 ∨ j = 2)) → M1 g j k = M g j k) (N := 242) (fun n i M1 hi hM => by
    show ∃ M2, L_X9_parseAll_2 (n + 1) (nI i) M1 = L_X9_parseAll_2 n (nI (i + 1)) M2 ∧ _
    have e1 : M1 13 1 i = M 13 1 i := by rw [hM.1, if_neg (by omega)]
    rw [L_X9_parseAll_2.eq_2, if_neg (show ¬ (242 : Int32) ≤ nI i from nI_ge (a := i) (b := 242) hi (by decide)), if_neg (nI_in hi (by decide)), if_neg (nI_in hi (by decide)), if_neg (nI_in hi (by decide)), nI_clamp (by omega), nI_1, e1]
    refine ⟨_, rfl, fun k => ?_, fun k hk => ?_, fun g j k hg => ?_⟩
    · by_cases q : k = i
      · rw [q, hp_p_s, if_pos (by omega)]
      · rw [hp_p_o (h := by omega), hp_p_o (h := by omega), hM.1]
        exact ite_iff (by omega)
    · by_cases q : k = i
      · rw [q, hp_p_o (h := by omega), hp_p_s]
      · rw [hp_p_o (h := by omega), hp_p_o (h := by omega)]; exact hM.2.1 k (by omega)
    · rw [hp_p_o (h := by omega), hp_p_o (h := by omega)]; exact hM.2.2 g j k hg) hp_fu M (by unfold hp_fu; omega) ⟨fun k => (if_neg (by omega)).symm, fun k hk => absurd hk (by omega), fun _ _ _ _ => rfl⟩
  generalize hM2 : hp_p (hp_p (hp_p (hp_p (hp_p (hp_p (hp_p M1 13 1 8 3) 13 1 9 4) 13 1 10 1) 13 1 11 5) 13 1 12 3) 13 0 18 0) 13 0 16 0 = M2
  have g16 : M2 13 0 16 = 0 := by rw [← hM2, hp_p_s]
  have g18 : M2 13 0 18 = 0 := by rw [← hM2, hp_p_o (h := by omega), hp_p_s]
  have go : ∀ g j i : Nat, ¬ (g = 13 ∧ (j = 1 ∨ j = 2 ∨ (j = 0 ∧ (i = 16 ∨ i = 18)))) → M2 g j i = M g j i := fun g j i h => by
    rw [← hM2, hp_p_o (h := by omega), hp_p_o (h := by omega), hp_p_o (h := by omega), hp_p_o (h := by omega), hp_p_o (h := by omega), hp_p_o (h := by omega), hp_p_o (h := by omega)]
    exact k3 g j i (by omega)
  have g2 : ∀ i : Nat, i < 242 → M2 13 2 i = M 13 1 i := fun i hi => by
    rw [← hM2, hp_p_o (h := by omega), hp_p_o (h := by omega), hp_p_o (h := by omega), hp_p_o (h := by omega), hp_p_o (h := by omega), hp_p_o (h := by omega), hp_p_o (h := by omega)]
    exact k2 i hi
  have gw : ∀ i : Nat, i < 242 → M2 13 1 i = if i = 8 then 3 else if i = 9 then 4 else if i = 10 then 1 else if i = 11 then 5 else if i = 12 then 3 else 0 := fun i hi => by
    have := k1 i
    rw [if_pos hi] at this
    rw [← hM2]
    simp only [hp_p_at]
    grind
  have gz : ∀ i : Nat, i < 242 → ¬ (8 ≤ i ∧ i ≤ 12) → M2 13 1 i = 0 := fun i hi h => by
    rw [gw i hi, if_neg (by omega), if_neg (by omega), if_neg (by omega), if_neg (by omega), if_neg (by omega)]
  have cn : RRep (M2 13 1) hv_new := by
    refine ⟨?_, by show (0 : Nat) ≤ 10; decide, gz 1 (by decide) (by decide), gz 2 (by decide) (by decide), ?_, gz 4 (by decide) (by decide), gz 5 (by decide) (by decide), gz 6 (by decide) (by decide), fun i hi => ?_, ?_, by show (0 : Nat) ≤ 8; decide, fun i x hx => ?_, ?_, by show (0 : Nat) ≤ 10; decide, fun i x hx => ?_, gz 41 (by decide) (by decide), gz 42 (by decide) (by decide), fun i h1 hi => gz _ (by omega) (by omega), fun f k hf hk => gz _ (by omega) (by omega), fun f k hf h5 hk => gz _ (by omega) (by omega), fun f hf => gz _ (by omega) (by omega), fun f k hf hk => gz _ (by omega) (by omega)⟩
    · exact (gz 0 (by decide) (by decide)).trans nI_0.symm
    · exact (gz 3 (by decide) (by decide)).trans nI_0.symm
    · rw [gw (7 + i) (by omega)]
      show _ = hp_fs.getD i 0
      rcases (show i = 0 ∨ i = 1 ∨ i = 2 ∨ i = 3 ∨ i = 4 ∨ i = 5 by omega) with rfl | rfl | rfl | rfl | rfl | rfl <;> rfl
    · exact (gz 13 (by decide) (by decide)).trans nI_0.symm
    · have hx : ([] : List (Nat × Int32))[i]? = some x := hx
      simp at hx
    · exact (gz 30 (by decide) (by decide)).trans nI_0.symm
    · have hx : ([] : List Nat)[i]? = some x := hx
      simp at hx
  obtain ⟨r, M3, M4, b1, b2, b3, b4⟩ := r_text (M := M2) hL ⟨(go _ _ _ (by omega)).trans hX.1, fun i hi => (go _ _ _ (by omega)).trans (hX.2 i hi)⟩ g16 g18 cn
  have estart : L_X9_parseAll_2 (n' + 1) (nI 242) M1 = hp_b (F_X9_readsAll M3) (fun r2 M2 => (if r2 = 0 then (L_X9_parseAll_97 hp_fu (0 : Int32) M2) else (some ((1 : Int32), (hp_p (hp_p M2 13 0 5 (0 : Int32)) 13 0 6 (0 : Int32)))))) := by
    rw [L_X9_parseAll_2.eq_2, if_pos (show (242 : Int32) ≤ nI 242 by decide), hM2, b1, hp_b_some]
  have e2 : L_X9_parseAll_2 hp_fu 0 M = L_X9_parseAll_2 (n' + 1) (nI 242) M1 := e1
  rw [e2, estart, b2, hp_b_some]
  rcases b4 with ⟨e, w1, w2, w3⟩ | ⟨d, w1, w2, w3⟩
  · rw [if_pos w2]
    obtain ⟨n2, M5, f1, f2, f3⟩ := hp_runs (T := fun n i M1 => L_X9_parseAll_97 n (nI i) M1) (I := fun i M1 => (∀ k : Nat, k < i → M1 13 1 k = M 13 1 k) ∧ ∀ g j k : Nat, ¬ (g = 13 ∧ j = 1) → M1 g j k = M4 g j k) (N := 242) (fun n i M1 hi hM => by
      show ∃ M2, L_X9_parseAll_97 (n + 1) (nI i) M1 = L_X9_parseAll_97 n (nI (i + 1)) M2 ∧ _
      have e1 : M1 13 2 i = M 13 1 i := by rw [hM.2 13 2 i (by omega), b3 13 2 i (by omega), g2 i hi]
      rw [L_X9_parseAll_97.eq_2, if_neg (show ¬ (242 : Int32) ≤ nI i from nI_ge (a := i) (b := 242) hi (by decide)), if_neg (nI_in hi (by decide)), if_neg (nI_in hi (by decide)), nI_clamp (by omega), nI_1, e1]
      refine ⟨_, rfl, fun k hk => ?_, fun g j k hg => ?_⟩
      · by_cases q : k = i
        · rw [q, hp_p_s]
        · rw [hp_p_o (h := by omega)]; exact hM.1 k (by omega)
      · rw [hp_p_o (h := by omega)]; exact hM.2 g j k hg) hp_fu M4 (by unfold hp_fu; omega) ⟨fun k hk => absurd hk (by omega), fun _ _ _ _ => rfl⟩
    have f1 : L_X9_parseAll_97 hp_fu 0 M4 = some (0, M5) := by
      refine Eq.trans f1 ?_
      show L_X9_parseAll_97 (n2 + 1) (nI 242) M5 = _
      rw [L_X9_parseAll_97.eq_2, if_pos (show (242 : Int32) ≤ nI 242 by decide)]
    refine ⟨0, M5, f1, fun g j i h => ?_, Or.inl ⟨e, w1, rfl, ?_, f2, ?_, ?_⟩⟩
    · rw [f3 g j i (by omega), b3 g j i (by omega), go g j i (by omega)]
    · rw [f3 _ _ _ (by omega), w3]
    · rw [f3 _ _ _ (by omega), b3 _ _ _ (by omega), go _ _ _ (by omega)]
    · rw [f3 _ _ _ (by omega), b3 _ _ _ (by omega), go _ _ _ (by omega)]
  · rw [if_neg (by rw [w2]; decide)]
    refine ⟨1, _, rfl, fun g j i h => ?_, Or.inr ⟨d, w1, rfl, ?_, ?_, ?_⟩⟩
    · rw [hp_p_o (h := by omega), hp_p_o (h := by omega), b3 g j i (by omega), go g j i (by omega)]
    · exact w3.row (fun i _ => by rw [hp_p_o (h := by omega), hp_p_o (h := by omega)])
    · rw [hp_p_o (h := by omega), hp_p_s]
    · rw [hp_p_s]
/-- a text is laid into the reference's own room -/
theorem r_tell {t k : Nat} (h1 : t < 60) (h2 : 20 ≤ t) (hk : M 13 0 10 = nI k) (hl : k + (hp_tx t).length ≤ 700) : ∃ M', F_X9_tell t M = some ((), M') ∧ M' 13 0 10 = nI (k + (hp_tx t).length) ∧ (∀ i : Nat, i < (hp_tx t).length → M' 13 7 (k + i) = (hp_tx t).getD i 0) ∧ (∀ i : Nat, i < k → M' 13 7 i = M 13 7 i) ∧ ∀ g j i : Nat, ¬ (g = 13 ∧ (j = 7 ∨ (j = 0 ∧ i = 10))) → M' g j i = M g j i := by
  unfold F_X9_tell
  obtain ⟨n', M1, e1, k1, k2, k3, k4⟩ := hp_runs (T := fun n i M1 => L_X9_tell_2 t n (nI i) M1) (I := fun i M1 => M1 13 0 10 = nI (k + i) ∧ (∀ i' : Nat, i' < i → M1 13 7 (k + i') = (hp_tx t).getD i' 0) ∧ (∀ i' : Nat, i' < k → M1 13 7 i' = M 13 7 i') ∧ ∀ g j i : Nat, ¬ (g = 13 ∧ (j = 7 ∨ (j = 0 ∧ i = 10))) → M1 g j i = M g j i) (N := (hp_tx t).length) (fun n i M1 hi hM => by
    show ∃ M2, L_X9_tell_2 t (n + 1) (nI i) M1 = L_X9_tell_2 t n (nI (i + 1)) M2 ∧ _
    have e10 : ∀ x : Int32, hp_p M1 13 7 (k + i) x 13 0 10 = nI (k + i) := fun x => (hp_p_o _ _ _ _ _ (by omega)).trans hM.1
    rw [L_X9_tell_2.eq_2, j_len, hp_b_some, if_neg (nI_ge hi (by omega)), j_char h1 h2 hi, hp_b_some, hM.1, if_neg (nI_in (by omega) (by decide)), nI_clamp (by omega), e10, nI_1, nI_1]
    refine ⟨_, rfl, hp_p_s _ _ _ _ _, fun i' hi' => ?_, fun i' hi' => ?_, fun g j i' hg => ?_⟩
    · by_cases q : i' = i
      · rw [q, hp_p_o (h := by omega), hp_p_s]
      · rw [hp_p_o (h := by omega), hp_p_o (h := by omega)]; exact hM.2.1 i' (by omega)
    · rw [hp_p_o (h := by omega), hp_p_o (h := by omega)]; exact hM.2.2.1 i' hi'
    · rw [hp_p_o (h := by omega), hp_p_o (h := by omega)]; exact hM.2.2.2 g j i' hg) hp_fu M (by unfold hp_fu; omega) ⟨hk, fun i' hi' => absurd hi' (by omega), fun _ _ => rfl, fun _ _ _ _ => rfl⟩
  refine ⟨M1, e1.trans ?_, k1, k2, k3, k4⟩
  show L_X9_tell_2 t (n' + 1) (nI (hp_tx t).length) M1 = _
  rw [L_X9_tell_2.eq_2, j_len, hp_b_some, if_pos (nI_le (Nat.le_refl _) (by omega))]
end RTEXT
/-! the built-in texts -/
def tk_bt (n : Nat) : Nat → Int32 := fun i => (hp_tx (20 + n)).getD i 0
def tk_bl (n : Nat) : Nat := (hp_tx (20 + n)).length
theorem tk_bt_ok {n : Nat} (hn : n < 3) : ∃ d, tk_text (tk_bt n) (tk_bl n) = .inr d ∧ hv_g 701000 d := by
  have hl : tk_bl n ≤ 700 := by
    have : ∀ n : Nat, n < 3 → tk_bl n ≤ 700 := by decide +kernel
    exact this n hn
  have hr : tk_isR (tk_text (tk_bt n) (tk_bl n)) = true := by
    rcases (show n = 0 ∨ n = 1 ∨ n = 2 by omega) with rfl | rfl | rfl
    · exact tk_t0
    · exact tk_t1
    · exact tk_t2
  rcases tk_text_in (T := tk_bt n) hl with ⟨e, h1, -⟩ | h
  · rw [h1] at hr; cases hr
  · exact h
theorem tk_bt_r : hp_tx 42 = hp_tx 20 ∧ hp_tx 43 ++ hp_tx 44 = hp_tx 21 ∧ hp_tx 45 = hp_tx 22 := by decide +kernel
