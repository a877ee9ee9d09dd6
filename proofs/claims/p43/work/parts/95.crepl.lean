/-! ===== the class: a text replaces the house ===== -/
/-- the reader and the draft alone have changed -/
def CG (M M' : hp_M) : Prop := ∀ g j i : Nat, g ≠ 1 → ¬ (g = 12 ∧ j = 1 ∧ 2 ≤ i) → M' g j i = M g j i
theorem CG.rf (M : hp_M) : CG M M := fun _ _ _ _ _ => rfl
theorem CG.tr {M M1 M2 : hp_M} (h1 : CG M M1) (h2 : CG M1 M2) : CG M M2 := fun g j i h h' => (h2 g j i h h').trans (h1 g j i h h')
theorem CG.f {M M' : hp_M} (h : CF M M') : CG M M' := fun g j i _ h' => h g j i h'
theorem CG.s {M M' : hp_M} {v : HV} (h : CS 1 M v M') : CG M M' := fun g j i hg _ => by rw [h.2 g hg]
theorem CG.x {T : Nat → Int32} {L : Nat} {M M' : hp_M} (h : CG M M') (hX : CX T L M) : CX T L M' := ⟨(h _ _ _ (by omega) (by omega)).trans hX.1, fun i hi => (h _ _ _ (by omega) (by omega)).trans (hX.2 i hi)⟩
theorem CF.c {M M' : hp_M} {g : Nat} {v : HV} (h : CF M M') (hg : g ≠ 12) (c : CRep (M g) v) : CRep (M' g) v := c.same (fun j i => h g j i (fun q => hg q.1))
theorem CS.r {M M' : hp_M} {v : HV} (h : CS 1 M v M') (j i : Nat) : M' 12 j i = M 12 j i := by rw [h.2 12 (by decide)]
section CREPL
variable {T : Nat → Int32} {L : Nat}
theorem CT.s {p : Nat} {M M' : hp_M} (h : CT T L p M) (e : ∀ j i : Nat, M' 12 j i = M 12 j i) : CT T L p M' := ⟨(e _ _).trans h.1, (e _ _).trans h.2.1, (e _ _).trans h.2.2.1, fun q => (e _ _).trans (h.2.2.2 q)⟩
theorem x5_fl (hL : L ≤ 700) : ∀ (n p fuel : Nat) (d : HV) (M : hp_M), n + d.flats = 11 → n < fuel → p ≤ L → CX T L M → CT T L p M → M 12 1 9 = 0 → CRep (M 1) d → ∃ (r : Int32) (M' : hp_M), L_X5_readFlats_39 1 fuel (nI d.flats) M = some (r, M') ∧ CG M M' ∧ ((∃ e, tk_fl T L n p d = .inl e ∧ r = 0 ∧ M' 12 1 9 = e) ∨ (∃ q d', tk_fl T L n p d = .inr (q, d') ∧ r = 1 ∧ M' 12 1 9 = 0 ∧ CRep (M' 1) d' ∧ M' 12 1 2 = nI q)) := by
  intro n
  induction n with
  | zero => exact fun p fuel d M h1 h2 h3 h4 h5 h6 h7 => absurd h7.fl10 (by omega)
  | succ n ih =>
    intro p fuel d M h1 h2 hp hX hT h9 c
    obtain ⟨m, rfl⟩ : ∃ m, fuel = m + 1 := ⟨fuel - 1, by omega⟩
    have h10 := c.fl10
    have he := tk_e_le (T := T) hp
    have he2 := tk_e_le (T := T) he.2
    have hfl : tk_fl T L (n + 1) p d = if tk_k T L p = 3 then (if 9 < tk_n T L p then .inl (tk_er T L p 2) else if d.flats = 10 then .inl (tk_er T L p 3) else if tk_is T L (tk_e T L p) 28 then tk_fl T L n (tk_e T L (tk_e T L p)) (hv_put (hv_add d (tk_n T L p)) d.flats 1 1) else tk_fl T L n (tk_e T L p) (hv_add d (tk_n T L p))) else if tk_k T L p = 1 then .inr (tk_e T L p, d) else .inl (tk_er T L p 1) := rfl
    rw [L_X5_readFlats_39.eq_2, if_neg (show ¬ (10 : Int32) < nI d.flats from nI_nlt (a := 10) h10 (by decide)), hT.2.1, hfl]
    by_cases hk : tk_k T L p = 3
    · rw [if_pos hk, if_pos hk, hT.2.2.2 hk]
      by_cases hk9 : 9 < tk_n T L p
      · rw [if_neg (by grind), if_pos hk9, x5_fail (a0 := 2) 2 rfl hT.2.2.1, hp_b_some, if_pos (Or.inl rfl)]
        exact ⟨0, _, rfl, CG.f (CF.p (by omega)), Or.inl ⟨_, rfl, rfl, hp_p_s _ _ _ _ _⟩⟩
      · rw [if_pos (by grind), if_neg hk9]
        rcases x2_addf (y := tk_n T L p) c with ⟨a1, a2⟩ | ⟨a1, M1, a2, a3⟩
        · rw [a2, hp_b_some, if_pos rfl, if_pos a1, x5_fail (a0 := 3) 3 rfl hT.2.2.1, hp_b_some, if_pos (Or.inl rfl)]
          exact ⟨0, _, rfl, CG.f (CF.p (by omega)), Or.inl ⟨_, rfl, rfl, hp_p_s _ _ _ _ _⟩⟩
        · have f1 := CG.s a3
          have ea : (hv_add d (tk_n T L p)).flats = d.flats + 1 := rfl
          obtain ⟨M2, b1, b2, b3, b6, b7, b8, b9⟩ := x5_nx (M := M1) hL he.2 (f1.x hX) ((a3.r _ _).trans hT.1)
          have f2 := CG.f b3
          obtain ⟨r, w1, w2⟩ := x5_is (M := M2) hL he.2 (t := 28) (by omega) (by omega) ((f1.tr f2).x hX) b2
          have c2 : CRep (M2 1) (hv_add d (tk_n T L p)) := b3.c (by decide) a3.1
          rw [a2, hp_b_some, if_neg (by decide), if_neg (by omega), b1, hp_b_some, w1, hp_b_some, nI_1]
          rcases w2 with ⟨w2, w3⟩ | ⟨w2, w3⟩
          · rw [if_pos w2, if_neg w3]
            obtain ⟨r', M', e1, e2, e3⟩ := ih (tk_e T L p) m (hv_add d (tk_n T L p)) M2 (by rw [ea]; omega) (by omega) he.2 ((f1.tr f2).x hX) b2 (b9.trans ((a3.r _ _).trans h9)) c2
            exact ⟨r', M', e1, (f1.tr f2).tr e2, e3⟩
          · rw [if_neg (by rw [w2]; decide), if_pos w3, x2_p1 rfl (by omega), hp_b_some]
            have c3 := CS.num (f := d.flats) (k := 1) (x := 1) c2 (by omega) (by decide)
            have f3 := CG.s c3
            obtain ⟨M4, g1, g2, g3, g6, g7, g8, g9⟩ := x5_nx (M := hp_p M2 1 3 (11 * d.flats + 1) 1) hL he2.2 ((f1.tr (f2.tr f3)).x hX) ((c3.r _ _).trans b2.1)
            have f4 := CG.f g3
            rw [g1, hp_b_some]
            obtain ⟨r', M', e1, e2, e3⟩ := ih (tk_e T L (tk_e T L p)) m (hv_put (hv_add d (tk_n T L p)) d.flats 1 1) M4 (by show n + (d.flats + 1) = 11; omega) (by omega) he2.2 ((f1.tr (f2.tr (f3.tr f4))).x hX) g2 (g9.trans ((c3.r _ _).trans (b9.trans ((a3.r _ _).trans h9)))) (g3.c (by decide) c3.1)
            exact ⟨r', M', e1, (f1.tr (f2.tr (f3.tr f4))).tr e2, e3⟩
    · rw [if_neg hk, if_neg hk]
      unfold A_X5_readFlats_115
      rw [hT.2.1]
      by_cases hk1 : tk_k T L p = 1
      · rw [if_pos hk1, if_pos hk1]
        exact ⟨1, M, rfl, CG.rf M, Or.inr ⟨_, _, rfl, rfl, h9, c, hT.1⟩⟩
      · rw [if_neg hk1, if_neg hk1, x5_fail (a0 := 1) 1 rfl hT.2.2.1, hp_b_some, if_pos rfl]
        exact ⟨0, _, rfl, CG.f (CF.p (by omega)), Or.inl ⟨_, rfl, rfl, hp_p_s _ _ _ _ _⟩⟩
theorem x5_house (hL : L ≤ 700) {M : hp_M} (hX : CX T L M) (h2 : M 12 1 2 = 0) (h9 : M 12 1 9 = 0) (c : CRep (M 1) hv_new) : ∃ (r : Int32) (M' : hp_M), F_X5_readFlats 1 M = some (r, M') ∧ CG M M' ∧ ((∃ e, tk_house T L = .inl e ∧ r = 0 ∧ M' 12 1 9 = e) ∨ (∃ q d', tk_house T L = .inr (q, d') ∧ r = 1 ∧ M' 12 1 9 = 0 ∧ CRep (M' 1) d' ∧ M' 12 1 2 = nI q)) := by
  have he := tk_e_le (T := T) (L := L) (p := 0) (Nat.zero_le _)
  obtain ⟨M1, b1, b2, b3, b6, b7, b8, b9⟩ := x5_nx (M := M) (p := 0) hL (Nat.zero_le _) hX (h2.trans nI_0.symm)
  obtain ⟨r, w1, w2⟩ := x5_is (M := M1) hL (Nat.zero_le _) (t := 27) (by omega) (by omega) (b3.x hX) b2
  unfold F_X5_readFlats tk_house
  rw [b1, hp_b_some, w1, hp_b_some]
  rcases w2 with ⟨w2, w3⟩ | ⟨w2, w3⟩
  · rw [if_pos w2, if_neg w3, x5_fail (a0 := 1) 1 rfl b2.2.2.1, hp_b_some, if_pos (Or.inl rfl)]
    exact ⟨0, _, rfl, (CG.f b3).tr (CG.f (CF.p (by omega))), Or.inl ⟨_, rfl, rfl, hp_p_s _ _ _ _ _⟩⟩
  · rw [if_neg (by rw [w2]; decide), if_pos w3]
    obtain ⟨M2, d1, d2, d3, d6, d7, d8, d9⟩ := x5_nx (M := M1) hL he.2 (b3.x hX) b2.1
    rw [d1, hp_b_some, d2.2.1]
    by_cases hk : tk_k T L (tk_e T L 0) = 3
    · rw [if_pos hk, if_pos hk]
      obtain ⟨r', M', e1, e2, e3⟩ := x5_fl hL 11 (tk_e T L 0) hp_fu hv_new M2 rfl (by unfold hp_fu; omega) he.2 (d3.x (b3.x hX)) d2 (d9.trans (b9.trans h9)) (d3.c (by decide) (b3.c (by decide) c))
      have e0 : nI hv_new.flats = 0 := nI_0
      rw [e0] at e1
      exact ⟨r', M', e1, ((CG.f b3).tr (CG.f d3)).tr e2, e3⟩
    · rw [if_neg hk, if_neg hk, x5_fail (a0 := 1) 1 rfl d2.2.2.1, hp_b_some, if_pos (Or.inl rfl)]
      exact ⟨0, _, rfl, ((CG.f b3).tr (CG.f d3)).tr (CG.f (CF.p (by omega))), Or.inl ⟨_, rfl, rfl, hp_p_s _ _ _ _ _⟩⟩
/-- a statement's numbers are in their ranges -/
theorem tk_rd_ok (hL : L ≤ 700) {p n : Nat} (hp : p ≤ L) (hk : tk_k T L p ≠ 0) (hn : n ≤ 10) {j : Nat} {f x : Int32} {q e : Nat} (h : tk_rd T L p n = .inr (j, f, x, q, e)) : tk_ok n j f.toNatClampNeg x ∧ p < e ∧ e ≤ L ∧ q ≤ L ∧ ((hp_vnam.getD j 0 = 0 ∧ f = -1) ∨ (hp_vnam.getD j 0 ≠ 0 ∧ f = nI f.toNatClampNeg ∧ f.toNatClampNeg < 10)) := by
  rcases tk_rd_in (T := T) hL hp hk hn with ⟨e', h1, h2⟩ | ⟨j', f', x', q', e', h1, h2, h3, h4, h5, h6, h7⟩
  · rw [h] at h1; cases h1
  · rw [h] at h1
    cases h1
    refine ⟨⟨h2, fun z => ?_, h7⟩, h4, h5, h3, ?_⟩
    · rcases h6 with y | ⟨y1, f', y2, y3⟩
      · exact absurd y.1 z
      · rw [y2, nI_clamp (by omega)]; exact y3
    · rcases h6 with y | ⟨y1, f', y2, y3⟩
      · exact Or.inl y
      · refine Or.inr ⟨y1, ?_, ?_⟩
        · rw [y2, nI_clamp (by omega)]
        · rw [y2, nI_clamp (by omega)]; omega
theorem tk_all_ER (hL : L ≤ 700) : ∀ (n p B : Nat) (d : HV), L < p + n → p ≤ L → hv_g B d → (∃ e, tk_all T L n p d = .inl e ∧ tk_ER e) ∨ ∃ d', tk_all T L n p d = .inr d' ∧ hv_g (B + 1000 * n) d' := by
  intro n
  induction n with
  | zero => exact fun p B d h1 h2 => absurd h1 (by omega)
  | succ n ih =>
    intro p B d h1 hp hg
    show (∃ e, (if tk_k T L p = 0 then .inr d else tk_sb (tk_stm T L p d) fun q => tk_all T L n q.1 q.2) = .inl e ∧ tk_ER e) ∨ ∃ d', (if tk_k T L p = 0 then .inr d else tk_sb (tk_stm T L p d) fun q => tk_all T L n q.1 q.2) = .inr d' ∧ _
    by_cases hk : tk_k T L p = 0
    · rw [if_pos hk]; exact Or.inr ⟨d, rfl, g_mono hg (by omega)⟩
    · rw [if_neg hk]
      unfold tk_stm
      rcases tk_rd_in (T := T) hL hp hk (ok_fl hg.1.1) with ⟨e', a1, a2⟩ | ⟨j, f, x, q, e, a1, -⟩
      · rw [a1]; exact Or.inl ⟨e', rfl, a2⟩
      · obtain ⟨b1, b2, b3, b4, b5⟩ := tk_rd_ok (T := T) hL hp hk (ok_fl hg.1.1) a1
        rw [a1]
        show (∃ e', tk_sb (if hv_ref d j f.toNatClampNeg x = 0 then .inr (e, hv_do d j f.toNatClampNeg x) else .inl (tk_er T L q 4)) (fun q => tk_all T L n q.1 q.2) = .inl e' ∧ tk_ER e') ∨ ∃ d', tk_sb (if hv_ref d j f.toNatClampNeg x = 0 then .inr (e, hv_do d j f.toNatClampNeg x) else .inl (tk_er T L q 4)) (fun q => tk_all T L n q.1 q.2) = .inr d' ∧ _
        by_cases hr : hv_ref d j f.toNatClampNeg x = 0
        · rw [if_pos hr]
          rcases ih e (B + 1000) (hv_do d j f.toNatClampNeg x) (by omega) b3 (g_do hg b1 hr) with c | ⟨d', c1, c2⟩
          · exact Or.inl c
          · exact Or.inr ⟨d', c1, g_mono c2 (by omega)⟩
        · rw [if_neg hr]
          exact Or.inl ⟨_, rfl, tk_er_ER hL b4 (by omega) (by omega)⟩
/-- a text's error, or its house -/
theorem tk_text_in (hL : L ≤ 700) : (∃ e, tk_text T L = .inl e ∧ tk_ER e) ∨ ∃ d, tk_text T L = .inr d ∧ hv_g 701000 d := by
  unfold tk_text
  rcases tk_house_in (T := T) hL with ⟨e, a1, a2⟩ | ⟨q, d, a1, a2, a3, a4⟩
  · rw [a1]; exact Or.inl ⟨e, rfl, a2⟩
  · rw [a1]
    rcases tk_all_ER (T := T) hL 701 q 0 d (by omega) a3 (hv_em_g a4) with b | ⟨d', b1, b2⟩
    · exact Or.inl b
    · exact Or.inr ⟨d', b1, g_mono b2 (by omega)⟩
theorem x8_all (hL : L ≤ 700) : ∀ (n p k B fuel : Nat) (d : HV) (M : hp_M), L < p + n → n < fuel → p ≤ L → k < p → CX T L M → M 12 1 2 = nI p → M 12 1 9 = 0 → CRep (M 1) d → hv_g B d → ∃ M', L_X8_replaceByText_21 fuel 1 (nI k) M = A_X8_replaceByText_129 M' ∧ CG M M' ∧ ((∃ e, tk_all T L n p d = .inl e ∧ M' 12 1 9 = e) ∨ ∃ d', tk_all T L n p d = .inr d' ∧ M' 12 1 9 = 0 ∧ CRep (M' 1) d') := by
  intro n
  induction n with
  | zero => exact fun p k B fuel d M h1 h2 hp => absurd hp (by omega)
  | succ n ih =>
    intro p k B fuel d M h1 hf hp hkp hX h2 h9 c hg
    obtain ⟨m, rfl⟩ : ∃ m, fuel = m + 1 := ⟨fuel - 1, by omega⟩
    have hall : tk_all T L (n + 1) p d = if tk_k T L p = 0 then .inr d else tk_sb (tk_stm T L p d) fun q => tk_all T L n q.1 q.2 := rfl
    have stop : ∀ (fuel : Nat) (x2 : Int32) (M : hp_M), 0 < fuel → L_X8_replaceByText_21 fuel 0 x2 M = A_X8_replaceByText_129 M := by
      intro fuel x2 M hfu
      obtain ⟨m, rfl⟩ : ∃ m, fuel = m + 1 := ⟨fuel - 1, by omega⟩
      rw [L_X8_replaceByText_21.eq_2, if_pos rfl]
    obtain ⟨r, M1, a1, a2, a3⟩ := x5_stm (n := d.flats) hL hp hX h2 h9
    have c1 : CRep (M1 1) d := a2.c (by decide) c
    rw [L_X8_replaceByText_21.eq_2, if_neg (by decide), if_neg (show ¬ (700 : Int32) ≤ nI k from nI_ge (b := 700) (by omega) (by decide)), c.fl, a1, hp_b_some, hall]
    rcases a3 with ⟨hk, b1, b2⟩ | ⟨hk, ⟨e, b1, b2, b3⟩ | ⟨j, f, x, q, b1, b2, b3, b4, b5, b6, b7, b8⟩⟩
    · rw [if_pos b1, if_pos hk, b1, stop m _ _ (by omega)]
      exact ⟨M1, rfl, CG.f a2, Or.inr ⟨d, rfl, b2, c1⟩⟩
    · rw [if_pos b2, if_neg hk, b2, stop m _ _ (by omega)]
      refine ⟨M1, rfl, CG.f a2, Or.inl ⟨e, ?_, b3⟩⟩
      unfold tk_stm
      rw [b1]
      rfl
    · obtain ⟨o1, o2, o3, o4, o5⟩ := tk_rd_ok (T := T) hL hp hk (ok_fl hg.1.1) b1
      have hj := o1.1
      rw [if_neg (by rw [b2]; decide), if_neg hk, b4, if_neg (nI_pos (by omega)), nI_clamp (by omega), if_pos hj, b5, b6, x2_refS c1 hg.1.1 hj o5, hp_b_some, b2]
      have hstm : tk_stm T L p d = if hv_ref d j f.toNatClampNeg x = 0 then .inr (tk_e T L q, hv_do d j f.toNatClampNeg x) else .inl (tk_er T L q 4) := by
        unfold tk_stm
        rw [b1]
        rfl
      rw [hstm]
      by_cases hr : hv_ref d j f.toNatClampNeg x = 0
      · obtain ⟨r5, M2, e1, e2⟩ := x2_do c1 hg o1 hr o5
        rw [if_pos hr, if_pos hr, b5, b6, e1, hp_b_some, nI_1]
        obtain ⟨M3, f1, f2, f3⟩ := ih (tk_e T L q) (k + 1) (B + 1000) m (hv_do d j f.toNatClampNeg x) M2 (by omega) (by omega) o3 (by omega) ((CG.s e2).x (a2.x hX)) ((e2.r _ _).trans b8) ((e2.r _ _).trans b3) e2.1 (g_do hg o1 hr)
        exact ⟨M3, f1, ((CG.f a2).tr (CG.s e2)).tr f2, f3⟩
      · rw [if_neg hr, if_neg hr, x5_fail (a0 := 4) 4 rfl b7, hp_b_some, stop m _ _ (by omega)]
        exact ⟨_, rfl, (CG.f a2).tr (CG.f (CF.p (by omega))), Or.inl ⟨_, rfl, hp_p_s _ _ _ _ _⟩⟩
/-- the class: the text that its reader has taken -/
theorem x8_repl (hL : L ≤ 700) {M : hp_M} (hX : CX T L M) (h2 : M 12 1 2 = 0) (h9 : M 12 1 9 = 0) : ∃ M', ((∃ e, tk_text T L = .inl e ∧ F_X8_replaceByText M = some (-2 - e, M') ∧ CG M M') ∨ (∃ d, tk_text T L = .inr d ∧ F_X8_replaceByText M = some (nI d.flats, M') ∧ CRep (M' 0) d ∧ M' 12 0 5 = 0 ∧ M' 12 4 1 = 0 ∧ M' 12 4 2 = 0 ∧ ∀ g j i : Nat, g ≠ 0 → g ≠ 1 → ¬ (g = 12 ∧ ((j = 1 ∧ 2 ≤ i) ∨ (j = 0 ∧ i = 5) ∨ (j = 4 ∧ (i = 1 ∨ i = 2)))) → M' g j i = M g j i)) := by
  obtain ⟨M1, a1, a2⟩ := x2_clear (g := 1) (M := M)
  obtain ⟨r, M2, b1, b2, b3⟩ := x5_house hL ((CG.s a2).x hX) ((a2.r _ _).trans h2) ((a2.r _ _).trans h9) a2.1
  have stop : L_X8_replaceByText_21 hp_fu 0 0 M2 = A_X8_replaceByText_129 M2 := by
    obtain ⟨m, hm⟩ : ∃ m, hp_fu = m + 1 := ⟨hp_fu - 1, by unfold hp_fu; omega⟩
    rw [hm, L_X8_replaceByText_21.eq_2, if_pos rfl]
  unfold F_X8_replaceByText tk_text
  rw [a1, hp_b_some, b1, hp_b_some]
  rcases tk_house_in (T := T) hL with ⟨e0, w1, w2⟩ | ⟨q0, d0, w1, w2, w3, w4⟩
  · rcases b3 with ⟨e, c1, c2, c3⟩ | ⟨q, d, c1, -⟩
    · rw [w1] at c1
      cases c1
      rw [w1, c2, stop]
      unfold A_X8_replaceByText_129
      rw [c3, if_neg (tk_ER_0 w2)]
      exact ⟨M2, Or.inl ⟨e0, rfl, rfl, (CG.s a2).tr b2⟩⟩
    · rw [w1] at c1; cases c1
  · rcases b3 with ⟨e, c1, c2, c3⟩ | ⟨q, d, c1, c2, c3, c4, c5⟩
    · rw [w1] at c1; cases c1
    · rw [w1] at c1
      cases c1
      rw [w1, c2]
      have f2 := (CG.s a2).tr b2
      obtain ⟨M3, f1, f3, f4⟩ := x8_all (T := T) hL 701 q0 0 0 hp_fu d0 M2 (by omega) (by unfold hp_fu; omega) w3 w2 (f2.x hX) c5 c3 c4 (hv_em_g w4)
      rw [nI_0] at f1
      rw [f1]
      show ∃ M', ((∃ e, tk_all T L 701 q0 d0 = .inl e ∧ _) ∨ (∃ d, tk_all T L 701 q0 d0 = .inr d ∧ _))
      unfold A_X8_replaceByText_129
      rcases f4 with ⟨e, g1, g2⟩ | ⟨d', g1, g2, g3⟩
      · have hE : tk_ER e := by
          rcases tk_all_ER (T := T) hL 701 q0 0 d0 (by omega) w3 (hv_em_g w4) with ⟨e', z1, z2⟩ | ⟨d', z1, -⟩
          · rw [g1] at z1; cases z1; exact z2
          · rw [g1] at z1; cases z1
        rw [g2, if_neg (tk_ER_0 hE)]
        exact ⟨M3, Or.inl ⟨e, g1, rfl, f2.tr f3⟩⟩
      · have hG : hv_ok d' := by
          rcases tk_all_ER (T := T) hL 701 q0 0 d0 (by omega) w3 (hv_em_g w4) with ⟨e', z1, z2⟩ | ⟨d'', z1, z2⟩
          · rw [g1] at z1; cases z1
          · rw [g1] at z1; cases z1; exact z2.1.1
        rw [g2, if_pos rfl]
        obtain ⟨M4, k1, k2⟩ := x2_copy (g := 0) (b0 := 1) g3 (ok_ou hG) (by decide)
        unfold F_X1_forget
        rw [k1, hp_b_some, hp_b_some]
        have e00 : hp_p (hp_p (hp_p M4 12 4 1 0) 12 4 2 0) 12 0 5 0 0 0 0 = nI d'.flats := by
          rw [hp_p_o (h := by omega), hp_p_o (h := by omega), hp_p_o (h := by omega)]; exact k2.1.fl
        rw [e00]
        refine ⟨_, Or.inr ⟨d', g1, rfl, ?_, hp_p_s _ _ _ _ _, ?_, ?_, fun g j i hg0 hg1 h => ?_⟩⟩
        · rw [hp_p_ne _ _ _ _ (by decide), hp_p_ne _ _ _ _ (by decide), hp_p_ne _ _ _ _ (by decide)]; exact k2.1
        · rw [hp_p_o (h := by omega), hp_p_o (h := by omega), hp_p_s]
        · rw [hp_p_o (h := by omega), hp_p_s]
        · rw [hp_p_o (h := by omega), hp_p_o (h := by omega), hp_p_o (h := by omega), k2.2 g hg0]
          exact (f2.tr f3) g j i hg1 (by omega)
end CREPL
