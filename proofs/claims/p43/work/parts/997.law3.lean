/-! ===== a turn of the law, its loop, and the whole of it ===== -/
section LAW3
variable {B C nx ln N : Nat} {v w : HV} {M : hp_M} {xs : Nat → Int32} {rc : Int32 → Int32 → hp_M → Option (Int32 × hp_M)} {y4 y5 k3 : Int32}
theorem c_set (hC : 10000 * C < 2 ^ 31) (J : KJ B v nx ln M) (hBC : B + 2000 ≤ C) (hrec : RecOK C v.flats rc (y4 + 1)) {b : Nat} (hb : b < 1024) {x : Int32} (hx : x = nI b) : (if (6 : Int32) = 0 then none else (if (x - x / (6 : Int32) * (6 : Int32)) = 0 then (if (6 : Int32) = 0 then none else (if (61 : Int32) = 0 then none else (A_L_law_884 N xs rc (nI ln) k3 y4 y5 (hv_cs v) (x - x / (6 : Int32) * (6 : Int32)) ((x / (6 : Int32)) - (x / (6 : Int32)) / (61 : Int32) * (61 : Int32)) M))) else (if (x - x / (6 : Int32) * (6 : Int32)) = (1 : Int32) then (if (6 : Int32) = 0 then none else (if (30 : Int32) = 0 then none else (A_L_law_884 N xs rc (nI ln) k3 y4 y5 (hv_cs v) (x - x / (6 : Int32) * (6 : Int32)) ((1 : Int32) + ((x / (6 : Int32)) - (x / (6 : Int32)) / (30 : Int32) * (30 : Int32))) M))) else (if (x - x / (6 : Int32) * (6 : Int32)) = (2 : Int32) then (if (6 : Int32) = 0 then none else (if (100 : Int32) = 0 then none else (A_L_law_884 N xs rc (nI ln) k3 y4 y5 (hv_cs v) (x - x / (6 : Int32) * (6 : Int32)) ((x / (6 : Int32)) - (x / (6 : Int32)) / (100 : Int32) * (100 : Int32)) M))) else (if (x - x / (6 : Int32) * (6 : Int32)) = (3 : Int32) then (if (6 : Int32) = 0 then none else (if (10 : Int32) = 0 then none else (A_L_law_884 N xs rc (nI ln) k3 y4 y5 (hv_cs v) (x - x / (6 : Int32) * (6 : Int32)) ((x / (6 : Int32)) - (x / (6 : Int32)) / (10 : Int32) * (10 : Int32)) M))) else (if (x - x / (6 : Int32) * (6 : Int32)) = (4 : Int32) then (if (6 : Int32) = 0 then none else (if (99 : Int32) = 0 then none else (A_L_law_884 N xs rc (nI ln) k3 y4 y5 (hv_cs v) (x - x / (6 : Int32) * (6 : Int32)) ((1 : Int32) + ((x / (6 : Int32)) - (x / (6 : Int32)) / (99 : Int32) * (99 : Int32))) M))) else (if (6 : Int32) = 0 then none else (if (21 : Int32) = 0 then none else (A_L_law_884 N xs rc (nI ln) k3 y4 y5 (hv_cs v) (x - x / (6 : Int32) * (6 : Int32)) ((x / (6 : Int32)) - (x / (6 : Int32)) / (21 : Int32) * (21 : Int32)) M))))))))) ≠ none := by
  subst hx
  obtain ⟨e6, ed⟩ := t_6 b hb
  have hq : b / 6 < 171 := by omega
  obtain ⟨u1, u2, u3, u4⟩ := t_s (b / 6) hq
  have u5 := t_30 (b / 6) (by omega)
  have u6 := t_99 (b / 6) (by omega)
  have z6 : ¬ (6 : Int32) = 0 := by decide
  have le : ∀ {a m : Nat}, a ≤ m → m < 10000 → (0 : Int32) ≤ nI a ∧ nI a ≤ nI m := fun h hm => ⟨nI_pos' (by omega), nI_le h (by omega)⟩
  rw [if_neg z6, e6, ed]
  generalize hk : b % 6 = k
  have hk6 : k < 6 := by omega
  rcases (show k = 0 ∨ k = 1 ∨ k = 2 ∨ k = 3 ∨ k = 4 ∨ k = 5 by omega) with rfl | rfl | rfl | rfl | rfl | rfl
  · rw [if_pos nI_0, if_neg z6, if_neg (by decide), u1]
    exact c_884 hC J hBC hrec hk6 (le (m := 60) (by omega) (by decide))
  · rw [if_neg (by decide), if_pos (by decide), if_neg z6, if_neg (by decide), u5, show (1 : Int32) + nI (b / 6 % 30) = nI (1 + b / 6 % 30) from nI_add 1 _]
    exact c_884 hC J hBC hrec hk6 (n_in (m := 29) (by omega) (by decide))
  · rw [if_neg (by decide), if_neg (by decide), if_pos (by decide), if_neg z6, if_neg (by decide), u2]
    exact c_884 hC J hBC hrec hk6 (le (m := 99) (by omega) (by decide))
  · rw [if_neg (by decide), if_neg (by decide), if_neg (by decide), if_pos (by decide), if_neg z6, if_neg (by decide), u3]
    exact c_884 hC J hBC hrec hk6 (le (m := 9) (by omega) (by decide))
  · rw [if_neg (by decide), if_neg (by decide), if_neg (by decide), if_neg (by decide), if_pos (by decide), if_neg z6, if_neg (by decide), u6, show (1 : Int32) + nI (b / 6 % 99) = nI (1 + b / 6 % 99) from nI_add 1 _]
    exact c_884 hC J hBC hrec hk6 (n_in (m := 98) (by omega) (by decide))
  · rw [if_neg (by decide), if_neg (by decide), if_neg (by decide), if_neg (by decide), if_neg (by decide), if_neg z6, if_neg (by decide), u4]
    exact c_884 hC J hBC hrec hk6 (le (m := 20) (by omega) (by decide))
theorem c_127 (hC : 10000 * C < 2 ^ 31) (hB : B < 100000) (J : KJ B v nx ln M) (hBC : B + 2000 ≤ C) (hrec : RecOK C v.flats rc (y4 + 1)) {f b : Nat} (hf : f < v.flats) (hb : b < 1024) {z : Int32} (hz : z = if v.num f 2 = 1 ∧ v.num f 4 = 0 then 1 else 0) : A_L_law_127 N xs rc (nI ln) k3 y4 y5 (nI f) (nI b) (v.num f 2) (if v.ph = 0 then -1 else nI v.who) 0 z M ≠ none := by
  have ho := J.2.1.1.1.1
  have z99 : ¬ (99 : Int32) = 0 := by decide
  have z40 : ¬ (40 : Int32) = 0 := by decide
  have z30 : ¬ (30 : Int32) = 0 := by decide
  unfold A_L_law_127
  rw [q_sum J.1 ho, hp_b_some]
  by_cases q0 : y5 &&& 15 = 0
  · rw [if_pos q0, if_neg z99]; exact c_want hC J hBC hrec hf hb
  rw [if_neg q0]
  by_cases q1 : y5 &&& 15 = 1
  · rw [if_pos q1, if_neg z99]; exact c_want hC J hBC hrec hf hb
  rw [if_neg q1]
  by_cases q2 : y5 &&& 15 = 2
  · rw [if_pos q2, if_neg z99]; exact c_want hC J hBC hrec hf hb
  rw [if_neg q2]
  by_cases q3 : y5 &&& 15 = 3
  · rw [if_pos q3]; exact c_drop hC J hBC hrec hf hz
  rw [if_neg q3]
  by_cases q4 : y5 &&& 15 = 4
  · rw [if_pos q4]; exact c_hang hC J hBC hrec hf
  rw [if_neg q4]
  by_cases q5 : y5 &&& 15 = 5
  · rw [if_pos q5]; exact c_ring hC J hBC hrec hf hb
  rw [if_neg q5]
  by_cases q6 : y5 &&& 15 = 6
  · rw [if_pos q6]; exact c_ring hC J hBC hrec hf hb
  rw [if_neg q6]
  by_cases q7 : y5 &&& 15 = 7
  · rw [if_pos q7]; exact c_ring hC J hBC hrec hf hb
  rw [if_neg q7]
  by_cases q8 : y5 &&& 15 = 8
  · rw [if_pos q8, if_neg z40]; exact c_pay hC J hBC hrec hf hb
  rw [if_neg q8]
  by_cases q9 : y5 &&& 15 = 9
  · rw [if_pos q9]; exact c_cur hC J hBC hrec hf
  rw [if_neg q9]
  by_cases q10 : y5 &&& 15 = 10
  · rw [if_pos q10]; exact c_set hC J hBC hrec hb rfl
  rw [if_neg q10, if_neg z30]
  exact c_pass hC hB J hBC hrec hb
theorem l_cell {x : Int32} (hx : 0 ≤ x) (hN : N < 2 ^ 31) : ∃ r : Int32, F_L_cell N xs x M = some (r, M) := by
  unfold F_L_cell
  by_cases h : nI N ≤ x
  · rw [if_pos h]; exact ⟨_, rfl⟩
  · obtain ⟨j, hj, rfl⟩ := nI_of (x := x) (by grind)
    have hjN : j < N := by
      by_cases q : j < N
      · exact q
      · exact absurd (nI_le (a := N) (b := j) (by omega) hj) h
    rw [if_neg h, if_neg (nI_in hjN hN)]
    exact ⟨_, rfl⟩
/-- the loop: ten deeds -/
theorem l_loop (hN : N < 2 ^ 31) {n0 : Nat} (h1 : 1 ≤ n0) (h10 : n0 ≤ 10) : ∀ (d i fuel nx ln : Nat) (v : HV) (M : hp_M), i + d = 11 → 1 ≤ i → d < fuel → KJ (200 + 2000 * i) v nx ln M → v.flats = n0 → L_L_law_50 N xs (nI n0) fuel (nI ln) (nI i) M ≠ none := by
  intro d
  induction d with
  | zero =>
    intro i fuel nx ln v M hi h1i hfu J hv
    obtain ⟨m, rfl⟩ : ∃ m, fuel = m + 1 := ⟨fuel - 1, by omega⟩
    obtain rfl : i = 11 := by omega
    rw [L_L_law_50.eq_2, if_pos (by decide)]
    exact fun h => by cases h
  | succ d ih =>
    intro i fuel nx ln v M hi h1i hfu J hv
    obtain ⟨m, rfl⟩ : ∃ m, fuel = m + 1 := ⟨fuel - 1, by omega⟩
    have ho := J.2.1.1.1.1
    obtain ⟨c, ec⟩ := l_cell (N := N) (xs := xs) (M := M) (x := nI i) (nI_pos' (by omega)) hN
    have hrec : RecOK (200 + 2000 * (i + 1)) v.flats (L_L_law_50 N xs (nI n0) m) (nI i + 1) := by
      intro v' nx' ln' M' J' hv'
      rw [nI_1]
      exact ih (i + 1) m nx' ln' v' M' (by omega) (by omega) (by omega) J' (hv'.trans hv)
    obtain ⟨a, ha, ea⟩ := i32_and ((c.toUInt32 >>> ((4 : Int32).toUInt32 &&& Int32.toUInt32 31)).toInt32) (k := 4) (m := 15) (by decide) (by decide)
    obtain ⟨b, hb, eb⟩ := i32_and ((c.toUInt32 >>> ((8 : Int32).toUInt32 &&& Int32.toUInt32 31)).toInt32) (k := 10) (m := 1023) (by decide) (by decide)
    have ea' : ((c.toUInt32 >>> ((4 : Int32).toUInt32 &&& Int32.toUInt32 31)).toInt32) &&& (15 : Int32) = nI a := ea
    have eb' : ((c.toUInt32 >>> ((8 : Int32).toUInt32 &&& Int32.toUInt32 31)).toInt32) &&& (1023 : Int32) = nI b := eb
    have hf : a % n0 < v.flats := by rw [hv]; exact Nat.mod_lt _ (by omega)
    have k0 : ¬ nI n0 = 0 := nI_ne0 (by omega) (by omega)
    have g2 : F_X8_flat (nI (a % n0)) 2 M = some (v.num (a % n0) 2, M) := l_n J.1 ho hf 2 (by decide) (by decide) (by decide)
    have g4 : F_X8_flat (nI (a % n0)) 4 M = some (v.num (a % n0) 4, M) := l_n J.1 ho hf 4 (by decide) (by decide) (by decide)
    have go : ∀ z : Int32, (z = if v.num (a % n0) 2 = 1 ∧ v.num (a % n0) 4 = 0 then 1 else 0) → A_L_law_127 N xs (L_L_law_50 N xs (nI n0) m) (nI ln) (nI n0) (nI i) c (nI (a % n0)) (nI b) (v.num (a % n0) 2) (if v.ph = 0 then -1 else nI v.who) 0 z M ≠ none := fun z hz => c_127 (by omega) (by omega) J (by omega) hrec hf (by omega) hz
    rw [L_L_law_50.eq_2, if_neg (show ¬ (10 : Int32) < nI i from nI_nlt (a := 10) (by omega) (by decide)), ec, hp_b_some, if_neg k0, ea', eb', t_f n0 (by omega) (by omega) a (by omega), g2, hp_b_some, s_3 J.1 ho, hp_b_some]
    by_cases q : v.num (a % n0) 2 = 1
    · rw [if_pos q, g4, hp_b_some]
      by_cases q4 : v.num (a % n0) 4 = 0
      · rw [if_pos q4]
        exact go 1 (by rw [if_pos ⟨q, q4⟩])
      · rw [if_neg q4]
        unfold A_L_law_126
        exact go 0 (by rw [if_neg (fun h => q4 h.2)])
    · rw [if_neg q]
      unfold A_L_law_126
      exact go 0 (by rw [if_neg (fun h => q h.1)])
end LAW3
theorem i32_rem3 {a : Nat} (ha : a < 2 ^ 31) : ∃ n : Nat, n < 3 ∧ nI a - nI a / 3 * 3 = nI n := ⟨a % 3, Nat.mod_lt _ (by decide), pk_rem (d := 3) ha (by decide) (by decide)⟩
/-- the law ends, with true -/
theorem hp_law_ok {L : Nat} {xs : Nat → Int32} (hL : L ≤ 260) : hp_law L xs ≠ none := by
  obtain ⟨M1, h8⟩ := hp_G8_ok
  unfold hp_law
  rw [h8, hp_b_some]
  unfold F_L_law
  obtain ⟨r, er⟩ := l_cell (N := L) (xs := xs) (M := M1) (x := 0) (by decide) (by omega)
  obtain ⟨a, ha, ea⟩ := i32_and r (k := 31) (m := 2147483647) (by decide) (by decide)
  have ea' : r &&& (2147483647 : Int32) = nI a := ea
  obtain ⟨n, hn, en⟩ := i32_rem3 (a := a) (by omega)
  obtain ⟨d, M2, e2, J, h1⟩ := x_load hn M1
  have ho := J.2.1.1.1.1
  rw [er, hp_b_some, if_neg (by decide), ea', en, e2, hp_b_some, s_0 J.1 ho, hp_b_some, if_pos rfl, h_holds J.1 J.2.1 (by decide), hp_b_some, if_neg (by decide), s_0 J.1 ho, hp_b_some]
  have hgo := l_loop (N := L) (xs := xs) (by omega) h1 (ok_fl ho) 10 1 hp_fu 0 0 d M2 rfl (by decide) (by unfold hp_fu; omega) (J.mono (by decide)) rfl
  exact hgo
