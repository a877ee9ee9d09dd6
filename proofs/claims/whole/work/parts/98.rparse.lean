/-! ===== the reference: a text replaces the house ===== -/
section RPARSE
variable {T : Nat → Int32} {L : Nat} {M : hp_M} {d : HV} {B : Nat}
theorem RO.fix {p : Nat} {o : Option (Int32 × hp_M)} (h : RO T L p d M o) : RO T L p d M (hp_b o (fun r M1 => (if r = 0 ∨ r = 1 then some (r, M1) else none))) := by
  obtain ⟨r, M', e, a, b⟩ := h
  have hr : r = 0 ∨ r = 1 := by
    rcases b with ⟨_, _, q, _⟩ | ⟨_, _, q, _⟩
    · exact Or.inl q
    · exact Or.inr q
  refine ⟨r, M', ?_, a, b⟩
  rw [e, hp_b_some, if_pos hr]
/-- a statement -/
theorem r_stm (hL : L ≤ 700) {p : Nat} (hp : p ≤ L) (hX : RX T L M) (hT : RT T L p M) (hk : tk_k T L p ≠ 0) (h0 : M 13 0 18 = 0) (c : RRep (M 13 1) d) (hg : hv_g B d) : RO T L p d M (F_X9_readsStatement M) := by
  obtain ⟨a, b⟩ := tk_vb_spec (T := T) (L := L) p 12 0 (by omega)
  have hle := tk_vb_le (T := T) (L := L) p 12 0 (by omega)
  have hah := r_ahead hL hp hX hT
  have hfl := ok_fl hg.1.1
  have no : ∀ i : Nat, i < tk_vb T L p 12 0 → i < 12 → F_X9_says (48 + i) M = some (0, M) := fun i h1 h2 => r_says0 hL hp h2 hX hT (a i (by omega) h1)
  have ye : ∀ i : Nat, tk_vb T L p 12 0 = i → i < 12 → F_X9_says (48 + i) M = some (1, M) := fun i h1 h2 => r_says1 hL hp h2 hX hT (by rw [← h1]; exact b (by omega))
  unfold F_X9_readsStatement
  rw [hah, hp_b_some]
  by_cases h6 : tk_vb T L p 12 0 < 6
  · rw [if_pos h6, if_neg (fun q => nI_pos (n := tk_vb T L p 12 0) (by omega) (by rw [q]; decide))]
    exact RO.fix (ro_set hL hp hX hT h0 c rfl h6)
  · rw [if_neg h6, if_pos rfl]
    rcases (show tk_vb T L p 12 0 = 6 ∨ tk_vb T L p 12 0 = 7 ∨ tk_vb T L p 12 0 = 8 ∨ tk_vb T L p 12 0 = 9 ∨ tk_vb T L p 12 0 = 10 ∨ tk_vb T L p 12 0 = 11 ∨ tk_vb T L p 12 0 = 12 by omega) with hv | hv | hv | hv | hv | hv | hv
    · rw [ye 6 hv (by omega), hp_b_some, if_neg (by decide)]
      exact ro_fn hL hp hX hT h0 c hfl hv (Or.inl rfl) F_X9_wants (fun M' f x c' hf _ => rd_6 c' hg hf rfl)
    · rw [no 6 (by omega) (by omega), hp_b_some, if_pos rfl, ye 7 hv (by omega), hp_b_some, if_neg (by decide)]
      exact ro_f hL hp hX hT h0 c hfl hv (Or.inl rfl) F_X9_gives (fun M' f c' hf => rd_7 c' hg hf rfl)
    · rw [no 6 (by omega) (by omega), hp_b_some, if_pos rfl, no 7 (by omega) (by omega), hp_b_some, if_pos rfl, ye 8 hv (by omega), hp_b_some, if_neg (by decide)]
      exact ro_f hL hp hX hT h0 c hfl hv (Or.inr rfl) F_X9_hangs (fun M' f c' hf => rd_8 c' hg hf rfl)
    · rw [no 6 (by omega) (by omega), hp_b_some, if_pos rfl, no 7 (by omega) (by omega), hp_b_some, if_pos rfl, no 8 (by omega) (by omega), hp_b_some, if_pos rfl, ye 9 hv (by omega), hp_b_some, if_neg (by decide)]
      exact ro_fn hL hp hX hT h0 c hfl hv (Or.inr (Or.inl rfl)) F_X9_rings (fun M' f x c' hf _ => rd_9 c' hg hf rfl)
    · rw [no 6 (by omega) (by omega), hp_b_some, if_pos rfl, no 7 (by omega) (by omega), hp_b_some, if_pos rfl, no 8 (by omega) (by omega), hp_b_some, if_pos rfl, no 9 (by omega) (by omega), hp_b_some, if_pos rfl, ye 10 hv (by omega), hp_b_some, if_neg (by decide)]
      exact ro_fn hL hp hX hT h0 c hfl hv (Or.inr (Or.inr rfl)) F_X9_pays (fun M' f x c' hf hx => rd_10 c' hg hf rfl hx)
    · rw [no 6 (by omega) (by omega), hp_b_some, if_pos rfl, no 7 (by omega) (by omega), hp_b_some, if_pos rfl, no 8 (by omega) (by omega), hp_b_some, if_pos rfl, no 9 (by omega) (by omega), hp_b_some, if_pos rfl, no 10 (by omega) (by omega), hp_b_some, if_pos rfl, ye 11 hv (by omega), hp_b_some, if_neg (by decide)]
      exact ro_p hL hp hX hT h0 c hg hv
    · rw [no 6 (by omega) (by omega), hp_b_some, if_pos rfl, no 7 (by omega) (by omega), hp_b_some, if_pos rfl, no 8 (by omega) (by omega), hp_b_some, if_pos rfl, no 9 (by omega) (by omega), hp_b_some, if_pos rfl, no 10 (by omega) (by omega), hp_b_some, if_pos rfl, no 11 (by omega) (by omega), hp_b_some, if_pos rfl, r_fail (a0 := 1) 1 rfl hT.2.2.1 h0, hp_b_some, if_pos (Or.inl rfl)]
      refine ⟨0, _, rfl, RG.f (RF.p (by omega) (by omega)), Or.inl ⟨tk_er T L p 1, ?_, rfl, hp_p_s _ _ _ _ _⟩⟩
      unfold tk_stm tk_rd
      rw [if_pos hv]
      rfl
/-- statements, one behind the other -/
theorem r_all (hL : L ≤ 700) : ∀ (n p B fuel : Nat) (d : HV) (M : hp_M), L < p + n → n < fuel → p ≤ L → RX T L M → RT T L p M → M 13 0 18 = 0 → RRep (M 13 1) d → hv_g B d → ∃ (r : Int32) (M' : hp_M), L_X9_readsAll_2 fuel 0 M = some (r, M') ∧ RG M M' ∧ ((∃ e, tk_all T L n p d = .inl e ∧ r = 0 ∧ M' 13 0 18 = e) ∨ (∃ d', tk_all T L n p d = .inr d' ∧ r = 1 ∧ RRep (M' 13 1) d')) := by
  intro n
  induction n with
  | zero => exact fun p B fuel d M h1 h2 hp => absurd hp (by omega)
  | succ n ih =>
    intro p B fuel d M h1 hf hp hX hT h0 c hg
    obtain ⟨m, rfl⟩ : ∃ m, fuel = m + 1 := ⟨fuel - 1, by omega⟩
    have hall : tk_all T L (n + 1) p d = if tk_k T L p = 0 then .inr d else tk_sb (tk_stm T L p d) fun q => tk_all T L n q.1 q.2 := rfl
    rw [L_X9_readsAll_2.eq_2, if_pos rfl, hT.2.1, hall]
    by_cases hk : tk_k T L p = 0
    · rw [if_pos hk, if_pos hk]
      exact ⟨1, M, rfl, RG.rf M, Or.inr ⟨d, rfl, rfl, c⟩⟩
    · rw [if_neg hk, if_neg hk]
      unfold A_X9_readsAll_13
      rw [if_pos rfl]
      obtain ⟨r, M1, a1, a2, ⟨e, b1, b2, b3⟩ | ⟨q, d', b1, b2, b3, b4, b5, b6⟩⟩ := r_stm hL hp hX hT hk h0 c hg
      · rw [a1, hp_b_some, if_pos b2, b1]
        exact ⟨0, M1, rfl, a2, Or.inl ⟨e, rfl, rfl, b3⟩⟩
      · rw [a1, hp_b_some, if_neg (by rw [b1]; decide)]
        unfold A_X9_readsAll_36
        rw [b3.2.1]
        have heq := tk_e_le (T := T) b5
        rcases b6 with ⟨w1, w2⟩ | ⟨w1, w2⟩
        · obtain ⟨M2, f1, f2, f3, f4, f5⟩ := r_nx hL heq.2 (a2.x hX) b3.1
          -- the statement ends behind where it began
          obtain ⟨g1, g2⟩ : p < tk_e T L q ∧ hv_g (B + 1000) d' := by
            have z := w2
            unfold tk_stm at z
            rcases tk_rd_in (T := T) hL hp hk (ok_fl hg.1.1) with ⟨e', y1, -⟩ | ⟨j, f, x, q', e, y1, -⟩
            · rw [y1] at z; cases z
            · obtain ⟨o1, o2, o3, o4, o5⟩ := tk_rd_ok (T := T) hL hp hk (ok_fl hg.1.1) y1
              rw [y1] at z
              have z : (if hv_ref d j f.toNatClampNeg x = 0 then Sum.inr (e, hv_do d j f.toNatClampNeg x) else Sum.inl (tk_er T L q' 4)) = Sum.inr (tk_e T L q, d') := z
              by_cases hr : hv_ref d j f.toNatClampNeg x = 0
              · rw [if_pos hr] at z
                cases z
                exact ⟨o2, g_do hg o1 hr⟩
              · rw [if_neg hr] at z; cases z
          rw [if_pos w1, f1, hp_b_some, w2]
          obtain ⟨r', M', k1, k2, k3⟩ := ih (tk_e T L q) (B + 1000) m d' M2 (by omega) (by omega) heq.2 (f3.x (a2.x hX)) f2 (f4.trans b2) (f3.r b4) g2
          exact ⟨r', M', k1, (a2.tr (RG.f f3)).tr k2, k3⟩
        · rw [if_neg w1, r_fail (a0 := 1) 1 rfl b3.2.2.1 b2, hp_b_some, if_pos (Or.inl rfl), w2]
          exact ⟨0, _, rfl, a2.tr (RG.f (RF.p (by omega) (by omega))), Or.inl ⟨_, rfl, rfl, hp_p_s _ _ _ _ _⟩⟩
/-- flats, one behind the other -/
theorem r_fl (hL : L ≤ 700) : ∀ (n p fuel : Nat) (d : HV) (M : hp_M), n + d.flats = 11 → n < fuel → p ≤ L → RX T L M → RT T L p M → M 13 0 18 = 0 → RRep (M 13 1) d → tk_k T L p = 3 → ∃ (r : Int32) (M' : hp_M), L_X9_readsHouse_21 fuel 1 M = some (r, M') ∧ RG M M' ∧ ((∃ e, tk_fl T L n p d = .inl e ∧ r = 0 ∧ M' 13 0 18 = e) ∨ (∃ q d', r = 1 ∧ M' 13 0 18 = 0 ∧ RT T L q M' ∧ RRep (M' 13 1) d' ∧ q ≤ L ∧ ((tk_k T L q = 1 ∧ tk_fl T L n p d = .inr (tk_e T L q, d')) ∨ (tk_k T L q ≠ 1 ∧ tk_fl T L n p d = .inl (tk_er T L q 1))))) := by
  intro n
  induction n with
  | zero => exact fun p fuel d M h1 h2 h3 h4 h5 h6 h7 => absurd h7.fl10 (by omega)
  | succ n ih =>
    intro p fuel d M h1 h2 hp hX hT h0 c hk
    obtain ⟨m, rfl⟩ : ∃ m, fuel = m + 1 := ⟨fuel - 1, by omega⟩
    have h10 := c.fl10
    have he := tk_e_le (T := T) hp
    have he2 := tk_e_le (T := T) he.2
    have hfl : tk_fl T L (n + 1) p d = if tk_k T L p = 3 then (if 9 < tk_n T L p then .inl (tk_er T L p 2) else if d.flats = 10 then .inl (tk_er T L p 3) else if tk_is T L (tk_e T L p) 29 then tk_fl T L n (tk_e T L (tk_e T L p)) (hv_put (hv_add d (tk_n T L p)) d.flats 1 1) else tk_fl T L n (tk_e T L p) (hv_add d (tk_n T L p))) else if tk_k T L p = 1 then .inr (tk_e T L p, d) else .inl (tk_er T L p 1) := rfl
    obtain ⟨y, hy1, hy2⟩ := tk_n_nat (T := T) hp hk
    have hn0 : ¬ tk_n T L p < 0 := by rw [hy1]; exact nI_pos (by omega)
    rw [L_X9_readsHouse_21.eq_2, if_neg (by decide), hfl, if_pos hk]
    unfold F_X9_isNumber F_X9_in
    rw [hT.2.1, if_pos hk, hT.2.2.2 hk, if_neg hn0]
    by_cases hk9 : 9 < tk_n T L p
    · rw [if_pos hk9, if_pos hk9, hp_b_some, if_pos rfl, r_fail (a0 := 2) 2 rfl hT.2.2.1 h0, hp_b_some, if_pos (Or.inl rfl), hp_b_some, if_pos rfl]
      exact ⟨0, _, rfl, RG.f (RF.p (by omega) (by omega)), Or.inl ⟨_, rfl, rfl, hp_p_s _ _ _ _ _⟩⟩
    · rw [if_neg hk9, if_neg hk9, hp_b_some, if_neg (by decide), hT.2.2.2 hk, hp_b_some, if_neg (by decide)]
      generalize hM1 : hp_p M 13 0 19 (tk_n T L p) = M1
      have f1 : RF M M1 := by rw [← hM1]; exact RF.p (by omega) (by omega)
      have c1 := f1.r c
      have e19 : M1 13 0 19 = tk_n T L p := by rw [← hM1, hp_p_s]
      have g15 : M1 13 0 15 = nI (tk_s T L p) := by rw [← hM1, hp_p_o (h := by omega)]; exact hT.2.2.1
      have g16 : M1 13 0 16 = nI (tk_e T L p) := by rw [← hM1, hp_p_o (h := by omega)]; exact hT.1
      have g18 : M1 13 0 18 = 0 := by rw [← hM1, hp_p_o (h := by omega)]; exact h0
      rw [c1.fl, e19]
      by_cases hf : d.flats = 10
      · rw [if_pos (show nI d.flats = (10 : Int32) by rw [hf]; rfl), if_pos hf, r_fail (a0 := 3) 3 rfl g15 g18, hp_b_some, if_pos (Or.inl rfl)]
        exact ⟨0, _, rfl, RG.f (f1.tr (RF.p (by omega) (by omega))), Or.inl ⟨_, rfl, rfl, hp_p_s _ _ _ _ _⟩⟩
      · rw [if_neg (show ¬ nI d.flats = (10 : Int32) from fun q => hf ((nI_eq (b := 10) (by omega) (by decide)).mp q)), if_neg hf]
        obtain ⟨M2, a1, a2⟩ := r_t0 (x := tk_n T L p) c1 (f := d.flats) (a0 := nI d.flats) rfl (by omega)
        rw [a1, hp_b_some]
        have fr2 : RG M M2 := (RG.f f1).tr (RG.s a2)
        obtain ⟨M3, b1, b2, b3, b4, b5⟩ := r_nx (M := M2) hL he.2 (fr2.x hX) ((a2.z 0 16 (by decide)).trans g16)
        have c3 := b3.r a2.1
        have fr3 := fr2.tr (RG.f b3)
        have g3 : M3 13 0 18 = 0 := b4.trans ((a2.z 0 18 (by decide)).trans g18)
        obtain ⟨r, w1, w2⟩ := r_says (M := M3) hL he.2 (t := 47) (by omega) (by omega) (fr3.x hX) b2
        have hw : tk_is T L (tk_e T L p) 47 ↔ tk_is T L (tk_e T L p) 29 := by
          have e : hp_tx 29 = hp_tx 47 := hp_tx_same 1 (by omega)
          unfold tk_is
          rw [e]
        -- one more flat, then the next number or the semicolon
        have more : ∀ (M4 : hp_M) (u : HV) (q : Nat), u.flats = d.flats → q ≤ L → RX T L M4 → RT T L q M4 → M4 13 0 18 = 0 → RRep (M4 13 1) u → ∃ (r : Int32) (M' : hp_M), A_X9_readsHouse_98 (L_X9_readsHouse_21 m) M4 = some (r, M') ∧ RG M4 M' ∧ ((∃ e, tk_fl T L n q (u.s_flats (d.flats + 1)) = .inl e ∧ r = 0 ∧ M' 13 0 18 = e) ∨ (∃ q' d', r = 1 ∧ M' 13 0 18 = 0 ∧ RT T L q' M' ∧ RRep (M' 13 1) d' ∧ q' ≤ L ∧ ((tk_k T L q' = 1 ∧ tk_fl T L n q (u.s_flats (d.flats + 1)) = .inr (tk_e T L q', d')) ∨ (tk_k T L q' ≠ 1 ∧ tk_fl T L n q (u.s_flats (d.flats + 1)) = .inl (tk_er T L q' 1))))) := by
          intro M4 u q hu hq hX4 hT4 h04 c4
          have eu : M4 13 1 0 = nI d.flats := by rw [c4.fl, hu]
          have c5 : RRep (hp_p M4 13 1 0 (nI (d.flats + 1)) 13 1) (u.s_flats (d.flats + 1)) := by
            obtain ⟨k1, k2, k3, k4, k5, k6, k7, k8, k9, k10, k11, k12, k13, k14, k15, k16, k17, k18, k19, k20, k21, k22⟩ := c4
            have z : ∀ i : Nat, i ≠ 0 → hp_p M4 13 1 0 (nI (d.flats + 1)) 13 1 i = M4 13 1 i := fun i hi => hp_p_o _ _ _ _ _ (by omega)
            exact ⟨hp_p_s _ _ _ _ _, by show d.flats + 1 ≤ 10; omega, (z 1 (by decide)).trans k3, (z 2 (by decide)).trans k4, (z 3 (by decide)).trans k5, (z 4 (by decide)).trans k6, (z 5 (by decide)).trans k7, (z 6 (by decide)).trans k8, fun i hi => (z _ (by omega)).trans (k9 i hi), (z 13 (by decide)).trans k10, k11, fun i x hx => ⟨(z _ (by omega)).trans (k12 i x hx).1, (z _ (by omega)).trans (k12 i x hx).2⟩, (z 30 (by decide)).trans k13, k14, fun i x hx => (z _ (by omega)).trans (k15 i x hx), (z 41 (by decide)).trans k16, (z 42 (by decide)).trans k17, fun i h1 hi => (z _ (by omega)).trans (k18 i h1 hi), fun f k hf hk => (z _ (by omega)).trans (k19 f k hf hk), fun f k hf h5 hk => (z _ (by omega)).trans (k20 f k hf h5 hk), fun f hf => (z _ (by omega)).trans (k21 f hf), fun f k hf hk => (z _ (by omega)).trans (k22 f k hf hk)⟩
          have f5 : RG M4 (hp_p M4 13 1 0 (nI (d.flats + 1))) := fun g j i h => hp_p_o _ _ _ _ _ (by omega)
          have t5 : RT T L q (hp_p M4 13 1 0 (nI (d.flats + 1))) := hT4.s (fun i => hp_p_o _ _ _ _ _ (by omega))
          have n5 : hp_p M4 13 1 0 (nI (d.flats + 1)) 13 0 18 = 0 := (hp_p_o _ _ _ _ _ (by omega)).trans h04
          unfold A_X9_readsHouse_98
          rw [eu, nI_1, t5.2.1]
          by_cases hk3 : tk_k T L q = 3
          · rw [if_pos hk3]
            obtain ⟨r', M', k1, k2, k3⟩ := ih q m (u.s_flats (d.flats + 1)) _ (by show n + (d.flats + 1) = 11; omega) (by omega) hq (f5.x hX4) t5 n5 c5 hk3
            exact ⟨r', M', k1, f5.tr k2, k3⟩
          · rw [if_neg hk3]
            obtain ⟨m', rfl⟩ : ∃ m', m = m' + 1 := ⟨m - 1, by omega⟩
            rw [L_X9_readsHouse_21.eq_2, if_pos rfl]
            refine ⟨1, _, rfl, f5, Or.inr ⟨q, _, rfl, n5, t5, c5, hq, ?_⟩⟩
            obtain ⟨n', rfl⟩ : ∃ n', n = n' + 1 := ⟨n - 1, by omega⟩
            show (_ ∧ (if tk_k T L q = 3 then _ else if tk_k T L q = 1 then Sum.inr (tk_e T L q, u.s_flats (d.flats + 1)) else Sum.inl (tk_er T L q 1)) = _) ∨ (_ ∧ (if tk_k T L q = 3 then _ else if tk_k T L q = 1 then Sum.inr (tk_e T L q, u.s_flats (d.flats + 1)) else Sum.inl (tk_er T L q 1)) = _)
            rw [if_neg hk3]
            by_cases hk1 : tk_k T L q = 1
            · rw [if_pos hk1]; exact Or.inl ⟨hk1, rfl⟩
            · rw [if_neg hk1]; exact Or.inr ⟨hk1, rfl⟩
        rw [b1, hp_b_some, w1, hp_b_some]
        rcases w2 with ⟨w2, w3⟩ | ⟨w2, w3⟩
        · rw [if_pos w2, if_neg (fun z => w3 (hw.mpr z))]
          obtain ⟨r', M', k1, k2, k3⟩ := more M3 (hv_put d d.flats 0 (tk_n T L p)) (tk_e T L p) rfl he.2 (fr3.x hX) b2 g3 c3
          exact ⟨r', M', k1, fr3.tr k2, k3⟩
        · obtain ⟨M4, l1, l2⟩ := r_t1 (x := 1) c3 (f := d.flats) (a0 := nI d.flats) rfl (by omega)
          have fr4 := fr3.tr (RG.s l2)
          obtain ⟨M5, s1, s2, s3, s4, s5⟩ := r_nx (M := M4) hL he2.2 (fr4.x hX) ((l2.z 0 16 (by decide)).trans b2.1)
          have fr5 := fr4.tr (RG.f s3)
          rw [if_neg (by rw [w2]; decide), if_pos (hw.mp w3), c3.fl, show (hv_put d d.flats 0 (tk_n T L p)).flats = d.flats from rfl, l1, hp_b_some, s1, hp_b_some]
          obtain ⟨r', M', k1, k2, k3⟩ := more M5 (hv_put (hv_put d d.flats 0 (tk_n T L p)) d.flats 1 1) (tk_e T L (tk_e T L p)) rfl he2.2 (fr5.x hX) s2 (s4.trans ((l2.z 0 18 (by decide)).trans g3)) (s3.r l2.1)
          exact ⟨r', M', k1, fr5.tr k2, k3⟩
end RPARSE
