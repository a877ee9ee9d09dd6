/-! ===== reports: the class's builder, the reference's row ===== -/
theorem i32_shr0 (x : Int32) : x >>> ((0 : Int32) &&& 31) = x := by
  rw [show ((0 : Int32) &&& 31) = 0 by decide]
  exact Int32.shiftRight_zero
theorem i32_shl0 (x : Int32) : x <<< ((0 : Int32) &&& 31) = x := by
  rw [show ((0 : Int32) &&& 31) = 0 by decide]
  exact Int32.shiftLeft_zero
theorem nI_negdiv {a : Nat} (ha : a < 2 ^ 31) : (-nI a) / (100 : Int32) = -nI (a / 100) := by
  have e1 : ∀ b : Nat, b < 2 ^ 31 → (-nI b).toInt = -(b : Int) := fun b hb => by
    rw [Int32.toInt_neg, nI_toInt hb]
    exact Int.bmod_eq_of_le (by omega) (by omega)
  apply Int32.toInt_inj.mp
  rw [Int32.toInt_div_of_ne_right _ _ (by decide), e1 a ha, e1 (a / 100) (by omega), show (100 : Int32).toInt = 100 by decide, Int.neg_tdiv]
  rfl
theorem nI_negle {a b : Nat} (ha : a < 2 ^ 31) (hb : b < 2 ^ 31) : -nI a ≤ -nI b ↔ b ≤ a := by
  have e1 : ∀ b : Nat, b < 2 ^ 31 → (-nI b).toInt = -(b : Int) := fun b hb => by
    rw [Int32.toInt_neg, nI_toInt hb]
    exact Int.bmod_eq_of_le (by omega) (by omega)
  rw [Int32.le_iff_toInt_le, e1 a ha, e1 b hb]
  omega
theorem nI_neglt {a b : Nat} (ha : a < 2 ^ 31) (hb : b < 2 ^ 31) : -nI a < -nI b ↔ b < a := by
  have e1 : ∀ b : Nat, b < 2 ^ 31 → (-nI b).toInt = -(b : Int) := fun b hb => by
    rw [Int32.toInt_neg, nI_toInt hb]
    exact Int.bmod_eq_of_le (by omega) (by omega)
  rw [Int32.lt_iff_toInt_lt, e1 a ha, e1 b hb]
  omega
/-- the digits of a number -/
def hv_dg : Nat → Nat → List Int32
  | 0, _ => []
  | k + 1, n => if n ≤ 9 then [nI (48 + n)] else hv_dg k (n / 10) ++ [nI (48 + n % 10)]
/-- how many -/
def hv_dn (n : Nat) : Nat := if n < 10 then 1 else if n < 100 then 2 else if n < 1000 then 3 else if n < 10000 then 4 else if n < 100000 then 5 else if n < 1000000 then 6 else 7
theorem hv_dn_le (n : Nat) : 1 ≤ hv_dn n ∧ hv_dn n ≤ 7 := by
  unfold hv_dn
  repeat' split
  all_goals omega
theorem hv_dn_div {n : Nat} (h : 10 ≤ n) (h2 : n < 10000000) : hv_dn n = hv_dn (n / 10) + 1 := by
  unfold hv_dn
  repeat' split
  all_goals omega
theorem hv_dg_len : ∀ (k n : Nat), n < 10000000 → hv_dn n ≤ k → (hv_dg k n).length = hv_dn n := by
  intro k
  induction k with
  | zero => intro n h1 h2; have := hv_dn_le n; omega
  | succ k ih =>
    intro n h1 h2
    show (if n ≤ 9 then [nI (48 + n)] else hv_dg k (n / 10) ++ [nI (48 + n % 10)]).length = hv_dn n
    by_cases h : n ≤ 9
    · rw [if_pos h]
      show 1 = hv_dn n
      unfold hv_dn
      rw [if_pos (by omega)]
    · have e := hv_dn_div (n := n) (by omega) h1
      rw [if_neg h, List.length_append, ih (n / 10) (by omega) (by omega), e]
      rfl
/-- a digit, from behind -/
theorem hv_dg_at : ∀ (k n : Nat), n < 10000000 → hv_dn n ≤ k → ∀ j : Nat, j < hv_dn n → (hv_dg k n)[hv_dn n - 1 - j]? = some (nI (48 + n / 10 ^ j % 10)) := by
  intro k
  induction k with
  | zero => intro n h1 h2; have := hv_dn_le n; omega
  | succ k ih =>
    intro n h1 h2 j hj
    have hdef : hv_dg (k + 1) n = if n ≤ 9 then [nI (48 + n)] else hv_dg k (n / 10) ++ [nI (48 + n % 10)] := rfl
    rw [hdef]
    by_cases h : n ≤ 9
    · have e1 : hv_dn n = 1 := by unfold hv_dn; rw [if_pos (by omega)]
      have e0 : j = 0 := by omega
      subst e0
      rw [if_pos h, e1]
      show some (nI (48 + n)) = some (nI (48 + n / 10 ^ 0 % 10))
      rw [Nat.pow_zero, Nat.div_one, Nat.mod_eq_of_lt (by omega)]
    · have e := hv_dn_div (n := n) (by omega) h1
      have hl := hv_dg_len k (n / 10) (by omega) (by omega)
      rw [if_neg h]
      cases j with
      | zero =>
        rw [List.getElem?_append_right (by omega), hl, show hv_dn n - 1 - 0 - hv_dn (n / 10) = 0 by omega, Nat.pow_zero, Nat.div_one]
        rfl
      | succ j =>
        rw [List.getElem?_append_left (by omega), show hv_dn n - 1 - (j + 1) = hv_dn (n / 10) - 1 - j by omega, ih (n / 10) (by omega) (by omega) j (by omega), Nat.div_div_eq_div_mul]
        rw [show 10 * 10 ^ j = 10 ^ (j + 1) by rw [Nat.pow_succ]; omega]
theorem hp_nar7 : ∀ n : Nat, n < 128 → vp_nar .byte ((nI n).toInt8.toInt32) = nI n ∧ vp_nar .byte (nI n) = nI n ∧ fits .byte (.int (nI n)) = true ∧ vp_nar .char (((nI n).toUInt32 % 65536).toInt32) = nI n ∧ vp_nar .char (nI n) = nI n ∧ ((((nI n) &&& (255 : Int32))).toUInt32 % 65536).toInt32 = nI n := by decide +kernel
theorem hp_do_at : ∀ r : Nat, r < 100 → hp_do.getD r 0 = nI (48 + r % 10) ∧ hp_dt.getD r 0 = nI (48 + r / 10) := by decide +kernel
/-- a text of letters below 128 -/
def rp_ok (r : List Int32) : Prop := ∀ x ∈ r, ∃ n : Nat, n < 128 ∧ x = nI n
/-- what the class's builder holds -/
def SB (r : List Int32) (M : hp_M) : Prop := M 14 0 1 = 0 ∧ M 14 0 3 = nI r.length ∧ (∃ cap : Nat, M 14 1 5000 = nI cap ∧ r.length ≤ cap ∧ cap ≤ 160 ∧ ∀ i : Nat, i < cap → fits .byte (.int (M 14 1 i)) = true) ∧ ∀ (i : Nat) (x : Int32), r[i]? = some x → M 14 1 i = x
/-- what the reference's row holds -/
def SR (r : List Int32) (M : hp_M) : Prop := M 13 0 12 = nI r.length ∧ ∀ (i : Nat) (x : Int32), r[i]? = some x → M 13 8 i = x
theorem rp_ok_app {r s : List Int32} (h1 : rp_ok r) (h2 : rp_ok s) : rp_ok (r ++ s) := fun x hx => by
  rcases List.mem_append.mp hx with q | q
  · exact h1 x q
  · exact h2 x q
theorem rp_ok_1 {n : Nat} (h : n < 128) : rp_ok [nI n] := fun x hx => ⟨n, h, List.mem_singleton.mp hx⟩
theorem rp_ok_dg : ∀ (k n : Nat), rp_ok (hv_dg k n) := by
  intro k
  induction k with
  | zero => exact fun n x hx => absurd hx (by show ¬ x ∈ ([] : List Int32); simp)
  | succ k ih =>
    intro n
    show rp_ok (if n ≤ 9 then [nI (48 + n)] else hv_dg k (n / 10) ++ [nI (48 + n % 10)])
    split
    · exact rp_ok_1 (by omega)
    · exact rp_ok_app (ih _) (rp_ok_1 (by omega))
section REP
variable {M : hp_M} {r : List Int32}
/-- the class's builder has room -/
theorem x_ens (h : SB r M) {n : Nat} (hn : n ≤ 79) : ∃ (M' : hp_M) (cap : Nat), F_J5_ensureCapacityInternal_d00df (nI n) M = some ((), M') ∧ SB r M' ∧ M' 14 1 5000 = nI cap ∧ n ≤ cap ∧ cap ≤ 160 ∧ (∀ i : Nat, i < cap → fits .byte (.int (M' 14 1 i)) = true) ∧ ∀ g j i : Nat, ¬ (g = 14 ∧ j = 1) → M' g j i = M g j i := by
  obtain ⟨h1, h2, ⟨cap, h3, h4, h5, h6⟩, h7⟩ := id h
  unfold F_J5_ensureCapacityInternal_d00df
  rw [h3, if_neg (nI_pos (by omega)), h1, i32_shr0]
  by_cases hc : n ≤ cap
  · have e : nI n - nI cap ≤ 0 := by
      have : nI cap = nI n + nI (cap - n) := by rw [nI_add]; congr 1; omega
      have h0 := nI_pos' (n := cap - n) (by omega)
      have h1 : nI (cap - n) ≤ nI 1000 := nI_le (by omega) (by decide)
      have h2 : nI 1000 = 1000 := rfl
      rw [this]
      grind
    rw [if_pos e]
    exact ⟨M, cap, rfl, h, h3, hc, h5, h6, fun _ _ _ _ => rfl⟩
  · have e : nI n - nI cap = nI (n - cap) := by
      have : nI n = nI (n - cap) + nI cap := by rw [nI_add]; congr 1; omega
      rw [this]; grind
    rw [e, if_neg (nI_nle (by omega) (by omega))]
    -- the new capacity
    obtain ⟨nc, hnc1, hnc2, hnc3, hnc4⟩ : ∃ nc : Nat, F_J5_newCapacity_0f7a4 (nI n) M = some (nI nc, M) ∧ n ≤ nc ∧ cap < nc ∧ nc ≤ 160 := by
      unfold F_J5_newCapacity_0f7a4 F_J8_newLength_cabcc
      rw [h3, if_neg (nI_pos (by omega)), h1, i32_shl0, i32_shl0, e, show (2 : Int32) = nI 2 from rfl, nI_add]
      have key : ∀ m : Nat, 0 < m → m < 1000 → n ≤ cap + m → m ≤ 160 - cap → ∃ nc : Nat, hp_b (if nI cap + nI m ≤ (0 : Int32) then (none : Option (Int32 × hp_M)) else if (2147483639 : Int32) < nI cap + nI m then none else some (nI cap + nI m, M)) (fun r1 M1 => if r1 = (2147483647 : Int32) then none else some (r1 >>> ((M1 14 0 1) &&& 31), M1)) = some (nI nc, M) ∧ n ≤ nc ∧ cap < nc ∧ nc ≤ 160 := by
        intro m hm hm2 hm3 hm4
        rw [nI_add, if_neg (nI_nle (by omega) (by omega)), if_neg (show ¬ (2147483639 : Int32) < nI (cap + m) from nI_nlt (a := 2147483639) (by omega) (by decide)), hp_b_some, if_neg (show ¬ nI (cap + m) = (2147483647 : Int32) from fun q => by have := (nI_eq (b := 2147483647) (by omega) (by decide)).mp q; omega), h1, i32_shr0]
        exact ⟨cap + m, rfl, by omega, by omega, by omega⟩
      by_cases q : nI (n - cap) < nI (cap + 2)
      · simp only [if_pos q]
        have := (nI_ltI (by omega) (by omega)).mp q
        exact key (cap + 2) (by omega) (by omega) (by omega) (by omega)
      · simp only [if_neg q]
        exact key (n - cap) (by omega) (by omega) (by omega) (by omega)
    have hok : hp_okB (nI nc <<< ((M 14 0 1) &&& 31)) M := by
      rw [h1, i32_shl0]
      refine ⟨?_, nI_pos (by omega), ?_, ?_, ?_, ?_⟩
      · rw [h3]; exact fun q => by have := (nI_eq (by omega) (by omega)).mp q; omega
      · rw [nI_clamp (by omega)]; omega
      · rw [h3, nI_clamp (by omega), nI_clamp (by omega)]; omega
      · rw [h3]; exact nI_pos (by omega)
      · rw [h3, nI_clamp (by omega)]; exact h6
    rw [hnc1, hp_b_some, if_pos hok, h1, i32_shl0]
    have g1 : ∀ i : Nat, hp_sr M 14 1 (hp_grow (nI nc) (M 14 1)) 14 1 i = if i = 5000 then nI nc else if i < cap then M 14 1 i else 0 := by
      intro i
      rw [hp_sr_at, if_pos ⟨rfl, rfl⟩]
      show (if i = 5000 then nI nc else if i < (M 14 1 5000).toNatClampNeg then M 14 1 i else 0) = _
      rw [h3, nI_clamp (by omega)]
    have g2 : ∀ g j i : Nat, ¬ (g = 14 ∧ j = 1) → hp_sr M 14 1 (hp_grow (nI nc) (M 14 1)) g j i = M g j i := fun g j i hg => by rw [hp_sr_at, if_neg hg]
    have g3 : ∀ i : Nat, i < nc → fits .byte (.int (hp_sr M 14 1 (hp_grow (nI nc) (M 14 1)) 14 1 i)) = true := by
      intro i hi
      rw [g1, if_neg (by omega)]
      by_cases q : i < cap
      · rw [if_pos q]; exact h6 i q
      · rw [if_neg q]; decide
    have g4 : hp_sr M 14 1 (hp_grow (nI nc) (M 14 1)) 14 1 5000 = nI nc := by rw [g1, if_pos rfl]
    refine ⟨_, nc, rfl, ⟨(g2 _ _ _ (by omega)).trans h1, (g2 _ _ _ (by omega)).trans h2, ⟨nc, g4, by omega, hnc4, g3⟩, fun i x hx => ?_⟩, g4, hnc2, hnc4, g3, g2⟩
    have hi := (List.getElem?_eq_some_iff.mp hx).1
    rw [g1, if_neg (by omega), if_pos (by omega)]
    exact h7 i x hx
theorem x_ch (h : SB r M) {c : Nat} {a0 : Int32} (e0 : a0 = nI c) (hc : c < 128) (hl : r.length < 79) : ∃ M', F_J4_append_cf468 a0 M = some ((), M') ∧ SB (r ++ [nI c]) M' ∧ ∀ g j i : Nat, g ≠ 14 → M' g j i = M g j i := by
  subst e0
  obtain ⟨n1, n2, n3, n4, n5, n6⟩ := hp_nar7 c hc
  unfold F_J4_append_cf468 F_J5_append_3fe6f
  rw [h.2.1, nI_1]
  obtain ⟨M1, cap, a1, a2, a3, a4, a5, a6, a7⟩ := x_ens h (n := r.length + 1) (by omega)
  rw [a1, hp_b_some]
  unfold F_J5_isLatin1_aae02 F_J1_canEncode_fc78d
  rw [if_neg (by decide), a2.1, if_pos rfl, hp_b_some, if_neg (by decide), if_neg (show ¬ (255 : Int32) < nI c from nI_nlt (a := 255) (by omega) (by decide)), hp_b_some, if_neg (by decide), a2.2.1]
  have e5 : ∀ x : Int32, hp_p M1 14 0 3 x 14 1 5000 = nI cap := fun x => (hp_p_o _ _ _ _ _ (by omega)).trans a3
  rw [e5, nI_clamp (show cap < 2 ^ 31 by omega), nI_clamp (show r.length < 2 ^ 31 by omega), if_neg (fun q => by
    rcases q with q | q | q
    · exact nI_pos (by omega) q
    · omega
    · omega), hp_b_some, n1, nI_1]
  refine ⟨_, rfl, ⟨?_, ?_, ⟨cap, ?_, ?_, a5, fun i hi => ?_⟩, fun i x hx => ?_⟩, fun g j i hg => ?_⟩
  · rw [hp_p_o (h := by omega), hp_p_o (h := by omega)]; exact a2.1
  · rw [hp_p_o (h := by omega), hp_p_s, List.length_append]; rfl
  · rw [hp_p_o (h := by omega)]; exact e5 _
  · rw [List.length_append]; exact a4
  · by_cases q : i = r.length
    · rw [q, hp_p_s]; exact n3
    · rw [hp_p_o (h := by omega), hp_p_o (h := by omega)]; exact a6 i hi
  · by_cases q : i < r.length
    · rw [List.getElem?_append_left q] at hx
      rw [hp_p_o (h := by omega), hp_p_o (h := by omega)]
      exact a2.2.2.2 i x hx
    · rw [List.getElem?_append_right (by omega)] at hx
      have hz : i - r.length < 1 := (List.getElem?_eq_some_iff.mp hx).1
      have hz2 : i = r.length := by omega
      subst hz2
      rw [Nat.sub_self] at hx
      cases hx
      rw [hp_p_s]
  · rw [hp_p_o (h := by omega), hp_p_o (h := by omega), a7 g j i (by omega)]
theorem r_ch (h : SR r M) {c : Nat} {a0 : Int32} (e0 : a0 = nI c) (hc : c < 128) (hl : r.length < 79) : ∃ M', F_X9_write a0 M = some ((), M') ∧ SR (r ++ [nI c]) M' ∧ ∀ g j i : Nat, ¬ (g = 13 ∧ (j = 8 ∨ (j = 0 ∧ i = 12))) → M' g j i = M g j i := by
  subst e0
  obtain ⟨n1, n2, n3, n4, n5, n6⟩ := hp_nar7 c hc
  unfold F_X9_write
  have e12 : ∀ x : Int32, hp_p M 13 8 r.length x 13 0 12 = nI r.length := fun x => (hp_p_o _ _ _ _ _ (by omega)).trans h.1
  rw [h.1, if_neg (nI_in (by omega) (by decide)), nI_clamp (by omega), e12, nI_1, n4]
  refine ⟨_, rfl, ⟨?_, fun i x hx => ?_⟩, fun g j i hg => ?_⟩
  · rw [hp_p_s, List.length_append]; rfl
  · by_cases q : i < r.length
    · rw [List.getElem?_append_left q] at hx
      rw [hp_p_o (h := by omega), hp_p_o (h := by omega)]
      exact h.2 i x hx
    · rw [List.getElem?_append_right (by omega)] at hx
      have hz : i - r.length < 1 := (List.getElem?_eq_some_iff.mp hx).1
      have hz2 : i = r.length := by omega
      subst hz2
      rw [Nat.sub_self] at hx
      cases hx
      rw [hp_p_o (h := by omega), hp_p_s]
  · rw [hp_p_o (h := by omega), hp_p_o (h := by omega)]
theorem r_nmR : ∀ (k n : Nat) (r : List Int32) (M : hp_M), n < 10000000 → hv_dn n ≤ k → SR r M → r.length + hv_dn n ≤ 79 → ∃ M', F_X9_writeNumberR k (nI n) M = some ((), M') ∧ SR (r ++ hv_dg k n) M' ∧ ∀ g j i : Nat, ¬ (g = 13 ∧ (j = 8 ∨ (j = 0 ∧ i = 12))) → M' g j i = M g j i := by
  intro k
  induction k with
  | zero => intro n r M h1 h2; have := hv_dn_le n; omega
  | succ k ih =>
    intro n r M h1 h2 h3 h4
    have hdef : hv_dg (k + 1) n = if n ≤ 9 then [nI (48 + n)] else hv_dg k (n / 10) ++ [nI (48 + n % 10)] := rfl
    have hd : nI n / (10 : Int32) = nI (n / 10) := pk_div (a := n) (d := 10) (by omega) (by omega) (by decide)
    have hm : nI n - nI n / (10 : Int32) * (10 : Int32) = nI (n % 10) := pk_rem (a := n) (d := 10) (by omega) (by omega) (by decide)
    have h48 : (48 : Int32) + nI (n % 10) = nI (48 + n % 10) := by rw [show (48 : Int32) = nI 48 from rfl, nI_add]
    rw [F_X9_writeNumberR.eq_2, hdef]
    by_cases h : n ≤ 9
    · have e1 : hv_dn n = 1 := by unfold hv_dn; rw [if_pos (by omega)]
      rw [if_pos (show nI n ≤ (9 : Int32) from nI_le (b := 9) h (by decide)), if_neg (by decide), hm, h48, if_pos h, Nat.mod_eq_of_lt (by omega)]
      obtain ⟨M', a1, a2, a3⟩ := r_ch h3 (c := 48 + n) (a0 := nI (48 + n)) rfl (by omega) (by omega)
      rw [a1, hp_b_some]
      exact ⟨M', rfl, a2, a3⟩
    · have e := hv_dn_div (n := n) (by omega) h1
      have hl := hv_dg_len k (n / 10) (by omega) (by omega)
      obtain ⟨M1, a1, a2, a3⟩ := ih (n / 10) r M (by omega) (by omega) h3 (by omega)
      obtain ⟨M', b1, b2, b3⟩ := r_ch a2 (c := 48 + n % 10) (a0 := nI (48 + n % 10)) rfl (by omega) (by rw [List.length_append, hl]; omega)
      rw [if_neg (show ¬ nI n ≤ (9 : Int32) from nI_ge (a := 9) (by omega) (by omega)), if_neg (by decide), hm, hd, a1, hp_b_some, if_neg (by decide), h48, b1, hp_b_some, if_neg h]
      refine ⟨M', rfl, ?_, fun g j i hg => (b3 g j i hg).trans (a3 g j i hg)⟩
      rw [← List.append_assoc]
      exact b2
theorem r_nm (h : SR r M) {n : Nat} {a0 : Int32} (e0 : a0 = nI n) (hn : n < 10000000) (hl : r.length + hv_dn n ≤ 79) : ∃ M', F_X9_writeNumber a0 M = some ((), M') ∧ SR (r ++ hv_dg 12 n) M' ∧ ∀ g j i : Nat, ¬ (g = 13 ∧ (j = 8 ∨ (j = 0 ∧ i = 12))) → M' g j i = M g j i := by
  subst e0
  exact r_nmR 12 n r M hn (by have := hv_dn_le n; omega) h hl
/-- how many digits the class's library finds -/
theorem j_size {n : Nat} (hn : n < 10000000) : F_J6_stringSize_0f7a4 (nI n) M = some (nI (hv_dn n), M) := by
  obtain ⟨m, hm⟩ : ∃ m, hp_fu = m + 8 := ⟨hp_fu - 8, by unfold hp_fu; omega⟩
  have step : ∀ (f p i : Nat), p < 100000000 → i < 10 → L_J6_stringSize_0f7a4_16 (nI n) (-nI n) 0 (f + 1) (-nI p) (nI i) M = if p ≤ n then L_J6_stringSize_0f7a4_16 (nI n) (-nI n) 0 f (-nI (10 * p)) (nI (i + 1)) M else some (nI i, M) := by
    intro f p i hp hi
    have e10 : (10 : Int32) * -nI p = -nI (10 * p) := by
      have : nI (10 * p) = 10 * nI p := (nI_mul 10 p).symm
      rw [this]; grind
    rw [L_J6_stringSize_0f7a4_16.eq_2, if_neg (show ¬ (10 : Int32) ≤ nI i from nI_ge (b := 10) hi (by decide)), e10, nI_1, show nI i + 0 = nI i by grind]
    by_cases q : p ≤ n
    · rw [if_pos q, if_pos ((nI_negle (by omega) (by omega)).mpr q)]
    · rw [if_neg q, if_neg (fun z => q ((nI_negle (by omega) (by omega)).mp z))]
  unfold F_J6_stringSize_0f7a4 A_J6_stringSize_0f7a4_11
  rw [if_neg (nI_pos (by omega)), hm, show (-10 : Int32) = -nI 10 by decide, show (1 : Int32) = nI 1 from rfl]
  unfold hv_dn
  rw [step (m + 7) 10 1 (by omega) (by omega)]
  by_cases q1 : 10 ≤ n
  · rw [if_pos q1, step (m + 6) _ _ (by omega) (by omega), if_neg (show ¬ n < 10 by omega)]
    by_cases q2 : 10 * 10 ≤ n
    · rw [if_pos q2, step (m + 5) _ _ (by omega) (by omega), if_neg (show ¬ n < 100 by omega)]
      by_cases q3 : 10 * (10 * 10) ≤ n
      · rw [if_pos q3, step (m + 4) _ _ (by omega) (by omega), if_neg (show ¬ n < 1000 by omega)]
        by_cases q4 : 10 * (10 * (10 * 10)) ≤ n
        · rw [if_pos q4, step (m + 3) _ _ (by omega) (by omega), if_neg (show ¬ n < 10000 by omega)]
          by_cases q5 : 10 * (10 * (10 * (10 * 10))) ≤ n
          · rw [if_pos q5, step (m + 2) _ _ (by omega) (by omega), if_neg (show ¬ n < 100000 by omega)]
            by_cases q6 : 10 * (10 * (10 * (10 * (10 * 10)))) ≤ n
            · rw [if_pos q6, step (m + 1) _ _ (by omega) (by omega), if_neg (show ¬ n < 1000000 by omega), if_neg (by omega)]
            · rw [if_neg q6, if_pos (by omega)]
          · rw [if_neg q5, if_pos (by omega)]
        · rw [if_neg q4, if_pos (by omega)]
      · rw [if_neg q3, if_pos (by omega)]
    · rw [if_neg q2, if_pos (by omega)]
  · rw [if_neg q1, if_pos (by omega)]
end REP
