/-! ===== reports: numbers in the class's builder ===== -/
section REP2
variable {M : hp_M} {r : List Int32}
theorem hv_dn_100 {n : Nat} (h : 100 ≤ n) (h2 : n < 10000000) : hv_dn n = hv_dn (n / 100) + 2 := by
  unfold hv_dn
  repeat' split
  all_goals omega
theorem j_chars (a0 a1 : Int32) : ∀ (d n e cap fuel : Nat) (M : hp_M), n < 10000000 → hv_dn n ≤ d → d < fuel → hv_dn n ≤ e → e ≤ cap → cap ≤ 160 → M 14 1 5000 = nI cap → ∃ M', L_J6_getChars_ba4f3_22 a0 a1 0 fuel (-nI n) (nI e) M = some (nI (e - hv_dn n), M') ∧ (∀ j : Nat, j < hv_dn n → M' 14 1 (e - 1 - j) = nI (48 + n / 10 ^ j % 10)) ∧ ∀ g j i : Nat, ¬ (g = 14 ∧ j = 1 ∧ e - hv_dn n ≤ i ∧ i < e) → M' g j i = M g j i := by
  intro d
  induction d using Nat.strongRecOn with
  | _ d ih =>
    intro n e cap fuel M h1 h2 h3 h4 h5 h6 h7
    obtain ⟨m, rfl⟩ : ∃ m, fuel = m + 1 := ⟨fuel - 1, by omega⟩
    have hd1 := hv_dn_le n
    have e1 : nI e + -1 = nI (e - 1) := by
      have : nI e = nI (e - 1) + 1 := by rw [nI_1]; congr 1; omega
      rw [this]; grind
    have neg2 : - -nI n = nI n := Int32.neg_neg
    have hix : ¬ (nI (e - 1) < 0 ∨ (nI cap).toNatClampNeg ≤ (nI (e - 1)).toNatClampNeg ∨ 5000 ≤ (nI (e - 1)).toNatClampNeg) := by
      rw [nI_clamp (by omega), nI_clamp (by omega)]
      intro q
      rcases q with q | q | q
      · exact nI_pos (by omega) q
      · omega
      · omega
    rw [L_J6_getChars_ba4f3_22.eq_2, e1, h7]
    by_cases hn : n < 100
    · have hc : (-100 : Int32) < -nI n := (nI_neglt (a := 100) (by decide) (by omega)).mpr hn
      have ho := (hp_do_at n hn).1
      have ht := (hp_do_at n hn).2
      have hb1 := (hp_nar7 (48 + n % 10) (by omega)).2.1
      have hb2 := (hp_nar7 (48 + n / 10) (by omega)).2.1
      have hin : ¬ (nI n < 0 ∨ 100 ≤ (nI n).toNatClampNeg) := nI_in hn (by decide)
      rw [if_pos hc, neg2, if_neg hin, if_neg hix, nI_clamp (show n < 2 ^ 31 by omega), nI_clamp (show e - 1 < 2 ^ 31 by omega), ho, hb1]
      by_cases h9 : n ≤ 9
      · have hdn : hv_dn n = 1 := by unfold hv_dn; rw [if_pos (by omega)]
        rw [if_pos (show (-9 : Int32) ≤ -nI n from (nI_negle (a := 9) (by decide) (by omega)).mpr h9), if_pos rfl, hdn]
        refine ⟨_, rfl, fun j hj => ?_, fun g j i hg => ?_⟩
        · have : j = 0 := by omega
          subst this
          rw [Nat.sub_zero, hp_p_s, Nat.pow_zero, Nat.div_one]
        · rw [hp_p_o (h := by omega)]
      · have hdn : hv_dn n = 2 := by unfold hv_dn; rw [if_neg (by omega), if_pos hn]
        have e2 : nI (e - 1) + -1 = nI (e - 2) := by
          have : nI (e - 1) = nI (e - 2) + 1 := by rw [nI_1]; congr 1; omega
          rw [this]; grind
        have hix2 : ¬ (nI (e - 2) < 0 ∨ (hp_p M 14 1 (e - 1) (nI (48 + n % 10)) 14 1 5000).toNatClampNeg ≤ (nI (e - 2)).toNatClampNeg ∨ 5000 ≤ (nI (e - 2)).toNatClampNeg) := by
          rw [hp_p_o (h := by omega), h7, nI_clamp (by omega), nI_clamp (by omega)]
          intro q
          rcases q with q | q | q
          · exact nI_pos (by omega) q
          · omega
          · omega
        rw [if_neg (show ¬ (-9 : Int32) ≤ -nI n from fun q => h9 ((nI_negle (a := 9) (by decide) (by omega)).mp q)), if_neg (nI_in2 hn (by decide)), e2, if_neg hix2, if_pos rfl, nI_clamp (show e - 2 < 2 ^ 31 by omega), ht, hb2, hdn]
        refine ⟨_, rfl, fun j hj => ?_, fun g j i hg => ?_⟩
        · rcases (show j = 0 ∨ j = 1 by omega) with rfl | rfl
          · rw [hp_p_o (h := by omega), Nat.sub_zero, hp_p_s, Nat.pow_zero, Nat.div_one]
          · rw [show e - 1 - 1 = e - 2 by omega, hp_p_s, Nat.pow_one, Nat.mod_eq_of_lt (by omega)]
        · rw [hp_p_o (h := by omega), hp_p_o (h := by omega)]
    · have hdn := hv_dn_100 (n := n) (by omega) h1
      have hc : ¬ (-100 : Int32) < -nI n := fun q => hn ((nI_neglt (a := 100) (by decide) (by omega)).mp q)
      have hq := nI_negdiv (a := n) (by omega)
      have hr : -nI (n / 100) * (100 : Int32) - -nI n = nI (n % 100) := by
        have z1 : nI (n / 100) * (100 : Int32) = nI (n / 100 * 100) := nI_mul _ 100
        have z2 : nI n = nI (n / 100 * 100) + nI (n % 100) := by rw [nI_add]; congr 1; omega
        have z3 : -nI (n / 100) * (100 : Int32) = -(nI (n / 100) * 100) := by grind
        rw [z3, z1, z2]; grind
      have h100 := Nat.mod_lt n (show 100 > 0 by decide)
      have ho := (hp_do_at (n % 100) h100).1
      have ht := (hp_do_at (n % 100) h100).2
      have hb1 := (hp_nar7 (48 + n % 100 % 10) (by omega)).2.1
      have hb2 := (hp_nar7 (48 + n % 100 / 10) (by omega)).2.1
      have hin : ¬ (nI (n % 100) < 0 ∨ 100 ≤ (nI (n % 100)).toNatClampNeg) := nI_in h100 (by decide)
      have hdq := hv_dn_le (n / 100)
      have e2 : nI (e - 1) + -1 = nI (e - 2) := by
        have : nI (e - 1) = nI (e - 2) + 1 := by rw [nI_1]; congr 1; omega
        rw [this]; grind
      have hix2 : ¬ (nI (e - 2) < 0 ∨ (hp_p M 14 1 (e - 1) (nI (48 + n % 100 % 10)) 14 1 5000).toNatClampNeg ≤ (nI (e - 2)).toNatClampNeg ∨ 5000 ≤ (nI (e - 2)).toNatClampNeg) := by
        rw [hp_p_o (h := by omega), h7, nI_clamp (by omega), nI_clamp (by omega)]
        intro q
        rcases q with q | q | q
        · exact nI_pos (by omega) q
        · omega
        · omega
      rw [if_neg hc, if_neg (by decide), hq, hr, if_neg hin, if_neg hix, if_neg hin, nI_clamp (show n % 100 < 2 ^ 31 by omega), nI_clamp (show e - 1 < 2 ^ 31 by omega), ho, hb1, e2, if_neg hix2, nI_clamp (show e - 2 < 2 ^ 31 by omega), ht, hb2]
      obtain ⟨M', a1, a2, a3⟩ := ih (d - 2) (by omega) (n / 100) (e - 2) cap m (hp_p (hp_p M 14 1 (e - 1) (nI (48 + n % 100 % 10))) 14 1 (e - 2) (nI (48 + n % 100 / 10))) (by omega) (by omega) (by omega) (by omega) (by omega) h6 (by rw [hp_p_o (h := by omega), hp_p_o (h := by omega)]; exact h7)
      rw [a1]
      refine ⟨M', ?_, fun j hj => ?_, fun g j i hg => ?_⟩
      · rw [hdn]; congr 3; omega
      · rcases (show j = 0 ∨ j = 1 ∨ ∃ j', j = j' + 2 by rcases j with _ | _ | j; exact Or.inl rfl; exact Or.inr (Or.inl rfl); exact Or.inr (Or.inr ⟨j, rfl⟩)) with rfl | rfl | ⟨j', rfl⟩
        · rw [a3 _ _ _ (by omega), hp_p_o (h := by omega), Nat.sub_zero, hp_p_s, Nat.pow_zero, Nat.div_one]
          congr 2; omega
        · rw [show e - 1 - 1 = e - 2 by omega, a3 _ _ _ (by omega), hp_p_s, Nat.pow_one]
          congr 2; omega
        · have := a2 j' (by omega)
          rw [show e - 1 - (j' + 2) = e - 2 - 1 - j' by omega, this, Nat.div_div_eq_div_mul]
          rw [show 100 * 10 ^ j' = 10 ^ (j' + 2) by rw [Nat.pow_succ, Nat.pow_succ]; omega]
      · rw [a3 g j i (by omega), hp_p_o (h := by omega), hp_p_o (h := by omega)]
theorem x_nm (h : SB r M) {n : Nat} {a0 : Int32} (e0 : a0 = nI n) (hn : n < 10000000) (hl : r.length + hv_dn n ≤ 79) : ∃ M', F_J4_append_bf812 a0 M = some ((), M') ∧ SB (r ++ hv_dg 12 n) M' ∧ ∀ g j i : Nat, g ≠ 14 → M' g j i = M g j i := by
  subst e0
  have hd := hv_dn_le n
  have hgl := hv_dg_len 12 n hn (by omega)
  unfold F_J4_append_bf812 F_J5_append_c97b9
  rw [j_size hn, hp_b_some, h.2.1, nI_add]
  obtain ⟨M1, cap, a1, a2, a3, a4, a5, a6, a7⟩ := x_ens h (n := r.length + hv_dn n) hl
  rw [a1, hp_b_some]
  unfold F_J5_isLatin1_aae02 F_J6_getChars_ba4f3 A_J6_getChars_ba4f3_12
  rw [if_neg (by decide), a2.1, if_pos rfl, hp_b_some, if_neg (by decide), if_pos (nI_pos' (by omega)), if_pos rfl]
  obtain ⟨M2, b1, b2, b3⟩ := j_chars (nI n) (nI (r.length + hv_dn n)) 12 n (r.length + hv_dn n) cap hp_fu M1 hn (by omega) (by unfold hp_fu; omega) (by omega) a4 a5 a3
  rw [b1, hp_b_some, hp_b_some]
  refine ⟨_, rfl, ⟨?_, ?_, ⟨cap, ?_, ?_, a5, fun i hi => ?_⟩, fun i x hx => ?_⟩, fun g j i hg => ?_⟩
  · rw [hp_p_o (h := by omega), b3 _ _ _ (by omega)]; exact a2.1
  · rw [hp_p_s, List.length_append, hgl]
  · rw [hp_p_o (h := by omega), b3 _ _ _ (by omega)]; exact a3
  · rw [List.length_append, hgl]; exact a4
  · rw [hp_p_o (h := by omega)]
    by_cases q : r.length ≤ i ∧ i < r.length + hv_dn n
    · have := b2 (r.length + hv_dn n - 1 - i) (by omega)
      rw [show r.length + hv_dn n - 1 - (r.length + hv_dn n - 1 - i) = i by omega] at this
      rw [this]
      exact (hp_nar7 _ (by omega)).2.2.1
    · rw [b3 _ _ _ (by omega)]; exact a6 i hi
  · rw [hp_p_o (h := by omega)]
    by_cases q : i < r.length
    · rw [List.getElem?_append_left q] at hx
      rw [b3 _ _ _ (by omega)]
      exact a2.2.2.2 i x hx
    · rw [List.getElem?_append_right (by omega)] at hx
      have hz : i - r.length < hv_dn n := by
        have := (List.getElem?_eq_some_iff.mp hx).1
        omega
      have h1 := hv_dg_at 12 n hn (by omega) (hv_dn n - 1 - (i - r.length)) (by omega)
      rw [show hv_dn n - 1 - (hv_dn n - 1 - (i - r.length)) = i - r.length by omega, hx] at h1
      have h2 := b2 (hv_dn n - 1 - (i - r.length)) (by omega)
      rw [show r.length + hv_dn n - 1 - (hv_dn n - 1 - (i - r.length)) = i by omega] at h2
      rw [h2]
      exact (Option.some.inj h1).symm
  · rw [hp_p_o (h := by omega), b3 g j i (by omega), a7 g j i (by omega)]
/-- emptied -/
theorem x_new (h : SB r M) (hl : r.length ≤ 79) : ∃ M', F_J4_setLength_d00df 0 M = some ((), M') ∧ SB [] M' ∧ ∀ g j i : Nat, g ≠ 14 → M' g j i = M g j i := by
  unfold F_J4_setLength_d00df F_J5_setLength_d00df
  obtain ⟨M1, cap, a1, a2, a3, a4, a5, a6, a7⟩ := x_ens h (n := 0) (by omega)
  rw [nI_0] at a1
  rw [if_pos (by decide), a1, hp_b_some, a2.2.1, if_pos (nI_pos' (by omega))]
  have fin : ∀ M2 : hp_M, (∀ j i : Nat, ¬ (j = 0 ∧ (i = 2 ∨ i = 3)) → M2 14 j i = M1 14 j i) → M2 14 0 3 = 0 → SB [] M2 := by
    intro M2 h1 h2
    refine ⟨(h1 _ _ (by omega)).trans a2.1, h2.trans nI_0.symm, ⟨cap, (h1 _ _ (by omega)).trans a3, Nat.zero_le _, a5, fun i hi => ?_⟩, fun i x hx => ?_⟩
    · rw [h1 _ _ (by omega)]; exact a6 i hi
    · simp at hx
  split
  · rw [hp_b_some]
    exact ⟨_, rfl, fin _ (fun j i h => hp_p_o _ _ _ _ _ (by omega)) (hp_p_s _ _ _ _ _), fun g j i hg => by rw [hp_p_o (h := by omega), a7 g j i (by omega)]⟩
  · rw [hp_b_some]
    exact ⟨_, rfl, fin _ (fun j i h => by rw [hp_p_o (h := by omega), hp_p_o (h := by omega)]) (hp_p_s _ _ _ _ _), fun g j i hg => by rw [hp_p_o (h := by omega), hp_p_o (h := by omega), a7 g j i (by omega)]⟩
theorem x_len (h : SB r M) : F_J4_length_8abf5 M = some (nI r.length, M) := by
  unfold F_J4_length_8abf5 F_J5_length_8abf5
  rw [hp_b_some, h.2.1]
end REP2
/-! the two reports -/
def hv_st (v : HV) (f : Nat) : List Int32 :=
  if v.num f 2 = 0 then [nI 46] else if v.num f 2 = 1 then [nI 60] ++ hv_dg 12 (v.num f 3).toNatClampNeg else if v.num f 2 = 2 then [nI 35] ++ hv_dg 12 (hv_pl v.queue f 0).toNatClampNeg else [nI 33] ++ hv_dg 12 v.left.toNatClampNeg
def hv_wh (v : HV) : Nat → List Int32
  | 0 => []
  | n + 1 => hv_wh v n ++ (if n = 0 then [] else [nI 32]) ++ hv_dg 12 n ++ hv_st v n
def hv_wm (v : HV) : Nat → List Int32
  | 0 => []
  | n + 1 => hv_wm v n ++ (if n = 0 then [] else [nI 32]) ++ hv_dg 12 (hv_sl v (2 * n)).toNatClampNeg ++ [nI 64] ++ hv_dg 12 (hv_sl v (2 * n + 1)).toNatClampNeg
def hv_ws (v : HV) : List Int32 := if v.slate.length = 0 then [nI 45] else hv_wm v v.slate.length
theorem rp_ok_st (v : HV) (f : Nat) : rp_ok (hv_st v f) := by
  unfold hv_st
  split
  · exact rp_ok_1 (by omega)
  · split
    · exact rp_ok_app (rp_ok_1 (by omega)) (rp_ok_dg _ _)
    · split
      · exact rp_ok_app (rp_ok_1 (by omega)) (rp_ok_dg _ _)
      · exact rp_ok_app (rp_ok_1 (by omega)) (rp_ok_dg _ _)
theorem rp_ok_sep (n : Nat) : rp_ok (if n = 0 then [] else [nI 32]) := by
  split
  · exact fun x hx => absurd hx (by simp)
  · exact rp_ok_1 (by omega)
theorem rp_ok_wh (v : HV) : ∀ n : Nat, rp_ok (hv_wh v n) := by
  intro n
  induction n with
  | zero => exact fun x hx => absurd hx (by show ¬ x ∈ ([] : List Int32); simp)
  | succ n ih => exact rp_ok_app (rp_ok_app (rp_ok_app ih (rp_ok_sep n)) (rp_ok_dg _ _)) (rp_ok_st v n)
theorem rp_ok_wm (v : HV) : ∀ n : Nat, rp_ok (hv_wm v n) := by
  intro n
  induction n with
  | zero => exact fun x hx => absurd hx (by show ¬ x ∈ ([] : List Int32); simp)
  | succ n ih => exact rp_ok_app (rp_ok_app (rp_ok_app (rp_ok_app ih (rp_ok_sep n)) (rp_ok_dg _ _)) (rp_ok_1 (by omega))) (rp_ok_dg _ _)
theorem rp_ok_ws (v : HV) : rp_ok (hv_ws v) := by
  unfold hv_ws
  split
  · exact rp_ok_1 (by omega)
  · exact rp_ok_wm v _
