/-! ===== the built-in texts, and what the class makes of them ===== -/
def tk_bt (n : Nat) : Nat → Int32 := fun i => (hp_tx (20 + n)).getD i 0
def tk_bl (n : Nat) : Nat := (hp_tx (20 + n)).length
section TXT
variable {d : HV} {M M' : hp_M}
theorem x_takeT {t : Nat} (h1 : t < 60) (h2 : 20 ≤ t) (hl : (hp_tx t).length ≤ 700) : ∃ M1, F_X5_takeText t M = some ((), M1) ∧ M1 12 1 1 = nI (hp_tx t).length ∧ M1 12 1 2 = 0 ∧ M1 12 1 9 = 0 ∧ (∀ i : Nat, i < (hp_tx t).length → M1 12 2 i = (hp_tx t).getD i 0) ∧ ∀ g j i : Nat, ¬ (g = 12 ∧ (j = 1 ∨ j = 2)) → M1 g j i = M g j i := by
  unfold F_X5_takeText
  obtain ⟨n', M2, e, q1, q2⟩ := hp_runs (T := fun n i M1 => L_X5_takeText_2 t n (nI i) M1) (I := fun i M3 => (∀ k : Nat, k < i → M3 12 2 k = (hp_tx t).getD k 0) ∧ ∀ g j k : Nat, ¬ (g = 12 ∧ j = 2) → M3 g j k = M g j k) (N := (hp_tx t).length) (fun n i M3 hi hM => by
    show ∃ M4, L_X5_takeText_2 t (n + 1) (nI i) M3 = L_X5_takeText_2 t n (nI (i + 1)) M4 ∧ _
    rw [L_X5_takeText_2.eq_2, j_len, hp_b_some, if_neg (nI_ge hi (by omega)), if_neg (show ¬ (700 : Int32) ≤ nI i from nI_ge (a := i) (b := 700) (by omega) (by decide)), j_char h1 h2 hi, hp_b_some, if_neg (nI_in (by omega) (by decide)), nI_clamp (by omega), nI_1]
    refine ⟨_, rfl, fun k hk => ?_, fun g j k hg => ?_⟩
    · by_cases q : k = i
      · rw [q, hp_p_s]
      · rw [hp_p_o (h := by omega)]; exact hM.1 k (by omega)
    · rw [hp_p_o (h := by omega)]; exact hM.2 g j k hg) hp_fu M (by unfold hp_fu; omega) ⟨fun k hk => absurd hk (by omega), fun _ _ _ _ => rfl⟩
  have fin : L_X5_takeText_2 t (n' + 1) (nI (hp_tx t).length) M2 = F_X5_begin (nI (hp_tx t).length) M2 := by
    rw [L_X5_takeText_2.eq_2, j_len, hp_b_some, if_pos (nI_le (Nat.le_refl _) (by omega)), j_len, hp_b_some]
    rfl
  have e' := e.trans fin
  rw [show L_X5_takeText_2 t hp_fu 0 M = _ from e']
  unfold F_X5_begin
  rw [if_neg (show ¬ (700 : Int32) < nI (hp_tx t).length from nI_nlt (a := 700) hl (by decide))]
  refine ⟨_, rfl, ?_, ?_, hp_p_s _ _ _ _ _, fun i hi => ?_, fun g j i hg => ?_⟩
  · rw [hp_p_o (h := by omega), hp_p_o (h := by omega), hp_p_s]
  · rw [hp_p_o (h := by omega), hp_p_s]
  · rw [hp_p_o (h := by omega), hp_p_o (h := by omega), hp_p_o (h := by omega)]; exact q1 i hi
  · rw [hp_p_o (h := by omega), hp_p_o (h := by omega), hp_p_o (h := by omega), q2 g j i (by omega)]
theorem tk_bl_le {n : Nat} (hn : n < 3) : tk_bl n ≤ 700 := by
  rcases (show n = 0 ∨ n = 1 ∨ n = 2 by omega) with rfl | rfl | rfl <;> decide +kernel
theorem tk_bt_ok {n : Nat} (hn : n < 3) : ∃ d, tk_text (tk_bt n) (tk_bl n) = .inr d ∧ hv_g 701000 d := by
  have hl : tk_bl n ≤ 700 := by
    have : ∀ n : Nat, n < 3 → tk_bl n ≤ 700 := by decide +kernel
    exact this n hn
  have hr : tk_isR (tk_text (tk_bt n) (tk_bl n)) = true := by
    rcases (show n = 0 ∨ n = 1 ∨ n = 2 by omega) with rfl | rfl | rfl
    · exact tk_t0
    · exact tk_t1
    · exact tk_t2
  rcases tk_text_in (T := tk_bt n) hl with ⟨e, h1, -⟩ | h
  · rw [h1] at hr; cases hr
  · exact h
theorem x_lay {n : Nat} (hn : n < 3) (hd : tk_text (tk_bt n) (tk_bl n) = .inr d) : ∃ M2, (∃ M1, F_X5_takeText (20 + n) M = some ((), M1) ∧ F_X8_replaceByText M1 = some (nI d.flats, M2)) ∧ CRep (M2 0) d ∧ M2 12 0 5 = 0 ∧ M2 12 4 1 = 0 ∧ M2 12 4 2 = 0 ∧ ∀ g j i : Nat, g ≠ 0 → g ≠ 1 → ¬ (g = 12 ∧ (j = 1 ∨ j = 2 ∨ (j = 0 ∧ i = 5) ∨ j = 4)) → M2 g j i = M g j i := by
  obtain ⟨M1, t1, t2, t3, t4, t5, t6⟩ := x_takeT (M := M) (t := 20 + n) (by omega) (by omega) (tk_bl_le hn)
  obtain ⟨M2, hres⟩ := x8_repl (T := tk_bt n) (L := tk_bl n) (tk_bl_le hn) ⟨t2, fun i hi => t5 i hi⟩ t3 t4
  rcases hres with ⟨e, w1, w2⟩ | ⟨d', w1, w2, w3, w4, w5, w6, w7⟩
  · rw [hd] at w1; cases w1
  · rw [hd] at w1; cases w1
    exact ⟨M2, ⟨M1, t1, w2⟩, w3, w4, w5, w6, fun g j i x1 x2 x3 => by rw [w7 g j i x1 x2 (by omega), t6 g j i (by omega)]⟩
/-- what is looked at in a house that a built-in text makes -/
abbrev kc (d : HV) : Prop := (0 ≤ d.time ∧ d.time ≤ 200) ∧ (0 ≤ d.acc 1 ∧ d.acc 1 ≤ 200) ∧ (∀ x ∈ d.slate, 0 ≤ x.2 ∧ x.2 ≤ 200) ∧
  (∀ f : Nat, f < d.flats → d.num f 2 ≠ 1 → d.num f 3 = 0) ∧ (d.ph = 1 → d.num d.who 4 = 0) ∧ (∀ f : Nat, f < d.flats → 0 ≤ d.num f 6 ∧ d.num f 6 ≤ 2000000) ∧
  (∀ f : Nat, f < d.flats → d.heard f f = 0) ∧ (∀ f : Nat, f < d.flats → ∀ k : Nat, k < d.flats → d.heard f k ≤ d.num k 7) ∧ (∀ f : Nat, f < d.flats → 0 ≤ d.num f 7 ∧ d.num f 7 ≤ 200) ∧
  hv_sum (fun f => d.num f 7) d.flats = d.acc 3 ∧ hv_sum (fun f => d.num f 8) d.flats = d.acc 1 ∧ hv_dsum d.heard d.flats = d.acc 9 ∧
  d.acc 4 - d.acc 5 - hv_sum (fun f => d.num f 6) d.flats + d.acc 6 - d.acc 7 - nI d.slate.length = 0 ∧ d.acc 2 ≤ d.acc 1 ∧ (0 ≤ d.set 2 ∧ d.set 2 ≤ 99) ∧
  d.acc 3 ≤ d.time ∧ d.slate.Pairwise (fun a b => a.2 ≤ b.2) ∧ (∀ x ∈ d.slate, x.2 ≤ d.time) ∧ 1 ≤ d.flats
def tk_chk (x : Int32 ⊕ HV) : Bool := match x with
  | .inl _ => false
  | .inr d => decide (kc d)
theorem tk_c0 : tk_chk (tk_text (tk_bt 0) (tk_bl 0)) = true := by decide +kernel
theorem tk_c1 : tk_chk (tk_text (tk_bt 1) (tk_bl 1)) = true := by decide +kernel
theorem tk_c2 : tk_chk (tk_text (tk_bt 2) (tk_bl 2)) = true := by decide +kernel
theorem tk_kc {n : Nat} (hn : n < 3) (hd : tk_text (tk_bt n) (tk_bl n) = .inr d) : kc d := by
  have h : tk_chk (tk_text (tk_bt n) (tk_bl n)) = true := by
    rcases (show n = 0 ∨ n = 1 ∨ n = 2 by omega) with rfl | rfl | rfl
    · exact tk_c0
    · exact tk_c1
    · exact tk_c2
  rw [hd] at h
  exact of_decide_eq_true h
theorem k_first (hg : hv_g 701000 d) (h : kc d) : hv_k 200 d := by
  obtain ⟨t1, t2, t3, a1, a2, a3, a4, a5, a6, a7, a8, a9, a10, a11, a12, n1, n2, n3, -⟩ := h
  have up : ∀ {x : Int32}, 0 ≤ x ∧ x ≤ 200 → hv_lt 200 x := fun h => by
    obtain ⟨j, h1, h2⟩ := nI_up (n := 200) (by decide) h.1 h.2
    exact ⟨j, h2, h1⟩
  refine ⟨⟨hg.1, hg.2.1, up t1, up t2, fun x hx => up (t3 x hx)⟩, ⟨a1, a2, fun f hf => ?_, a4, fun f k hf hk => a5 f hf k hk, fun f hf => up (a6 f hf), a7, a8, a9, a10, a11, a12, up t2⟩, n1, n2, n3⟩
  obtain ⟨j, h1, h2⟩ := nI_up (n := 2000000) (by decide) (a3 f hf).1 (a3 f hf).2
  exact ⟨j, h2, h1⟩
/-- `load` of a built-in text -/
theorem x_load {n : Nat} (hn : n < 3) (M : hp_M) : ∃ (d : HV) (M2 : hp_M), F_X8_load (nI n) M = some (nI d.flats, M2) ∧ KJ 200 d 0 0 M2 ∧ 1 ≤ d.flats := by
  obtain ⟨d, hd, hg⟩ := tk_bt_ok hn
  have hc := tk_kc hn hd
  obtain ⟨-, -, -, -, -, -, -, -, -, -, -, -, -, -, -, -, -, -, h1f⟩ := id hc
  obtain ⟨M2, ⟨M1, t1, t2⟩, w3, w4, w5, w6, -⟩ := x_lay (M := M) hn hd
  refine ⟨d, M2, ?_, ⟨w3, k_first hg hc, by decide, by decide, w5.trans nI_0.symm, w6.trans nI_0.symm⟩, h1f⟩
  unfold F_X8_load
  rw [q_ri (a := nI n) (lo := 0) (hi := 2) (q_k (n := 2) (by omega) (by decide)), hp_b_some]
  rcases (show n = 0 ∨ n = 1 ∨ n = 2 by omega) with rfl | rfl | rfl
  · rw [if_pos nI_0, show F_X5_takeText 20 M = _ from t1, hp_b_some, t2, hp_b_some]
  · rw [if_neg (by decide), if_pos (by decide), show F_X5_takeText 21 M = _ from t1, hp_b_some, t2, hp_b_some]
  · rw [if_neg (by decide), if_neg (by decide), show F_X5_takeText 22 M = _ from t1, hp_b_some, t2, hp_b_some]
theorem hp_G8_ok : ∃ M1 : hp_M, hp_G8 = some ((), M1) := by
  obtain ⟨d, hd, hg⟩ := tk_bt_ok (n := 0) (by decide)
  obtain ⟨Mx, ⟨M1, t1, t2⟩, -⟩ := x_lay (M := hp_M0) (n := 0) (by decide) hd
  refine ⟨Mx, ?_⟩
  unfold hp_G8 G_X8_init
  rw [show F_X5_takeText 20 hp_M0 = _ from t1, hp_b_some, t2, hp_b_some]
end TXT
