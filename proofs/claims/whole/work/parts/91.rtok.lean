/-! ===== the reference reads a token; words ===== -/
def RX (T : Nat → Int32) (L : Nat) (M : hp_M) : Prop := M 13 0 10 = nI L ∧ ∀ i : Nat, i < L → M 13 7 i = T i
def RT (T : Nat → Int32) (L p : Nat) (M : hp_M) : Prop := M 13 0 16 = nI (tk_e T L p) ∧ M 13 0 14 = tk_k T L p ∧ M 13 0 15 = nI (tk_s T L p) ∧ (tk_k T L p = 3 → M 13 0 17 = tk_n T L p)
section RTOK
variable {T : Nat → Int32} {L : Nat} {M : hp_M}
theorem r_sort (c : Int32) : F_X9_sortOf c M = some (tk_so c, M) := by
  unfold F_X9_sortOf tk_so
  by_cases h0 : c = 59
  · rw [if_pos h0, if_pos h0]
  · rw [if_neg h0, if_neg h0]
    by_cases h1 : 97 ≤ c ∧ c ≤ 122
    · rw [if_pos h1, if_neg (by grind), if_neg (by grind)]
    · rw [if_neg h1]
      by_cases h2 : 48 ≤ c ∧ c ≤ 57
      · rw [if_pos h2, if_pos (by grind), if_neg (by grind), if_neg (by grind)]
      · rw [if_neg h2]
        by_cases h3 : c < 97
        · rw [if_pos h3]
          by_cases h4 : c < 48
          · rw [if_pos h4]
          · rw [if_neg h4, if_pos (by grind)]
        · rw [if_neg h3, if_pos (by grind)]
          by_cases h4 : c < 48
          · rw [if_pos h4]
          · rw [if_neg h4, if_pos (by grind)]
theorem r_skip (hL : L ≤ 700) : ∀ (d p fuel : Nat) (M : hp_M), p + d = L → d < fuel → RX T L M → M 13 0 15 = nI p → ∃ M1, L_X9_next_8 fuel M = A_X9_next_60 M1 ∧ M1 13 0 15 = nI (tk_sp T L d p) ∧ ∀ g j i : Nat, ¬ (g = 13 ∧ j = 0 ∧ i = 15) → M1 g j i = M g j i := by
  intro d
  induction d with
  | zero =>
    intro p fuel M h1 h2 hX hp
    obtain ⟨m, rfl⟩ : ∃ m, fuel = m + 1 := ⟨fuel - 1, by omega⟩
    rw [L_X9_next_8.eq_2, hX.1, hp, if_pos (nI_le (by omega) (by omega))]
    exact ⟨M, rfl, hp, fun _ _ _ _ => rfl⟩
  | succ d ih =>
    intro p fuel M h1 h2 hX hp
    obtain ⟨m, rfl⟩ : ∃ m, fuel = m + 1 := ⟨fuel - 1, by omega⟩
    have hin : ¬ (nI p < 0 ∨ 700 ≤ (nI p).toNatClampNeg) := nI_in (by omega) (by decide)
    obtain ⟨M1, a1, a2, a3⟩ := ih (p + 1) m (hp_p M 13 0 15 (nI (p + 1))) (by omega) (by omega) ⟨(hp_p_o _ _ _ _ _ (by omega)).trans hX.1, fun i hi => (hp_p_o _ _ _ _ _ (by omega)).trans (hX.2 i hi)⟩ (hp_p_s _ _ _ _ _)
    rw [L_X9_next_8.eq_2, hX.1, hp, if_neg (nI_ge (by omega) (by omega)), if_neg hin, if_neg hin, nI_clamp (by omega), hX.2 p (by omega), nI_1]
    show ∃ M1 : hp_M, _ ∧ M1 13 0 15 = nI (if p < L ∧ (T p = 32 ∨ T p = 10) then tk_sp T L d (p + 1) else p) ∧ _
    by_cases q : T p = 32
    · rw [if_pos q, if_pos ⟨by omega, Or.inl q⟩]
      exact ⟨M1, a1, a2, fun g j i hg => (a3 g j i hg).trans (hp_p_o _ _ _ _ _ hg)⟩
    · rw [if_neg q]
      by_cases q2 : T p = 10
      · rw [if_pos q2, if_pos ⟨by omega, Or.inr q2⟩]
        exact ⟨M1, a1, a2, fun g j i hg => (a3 g j i hg).trans (hp_p_o _ _ _ _ _ hg)⟩
      · rw [if_neg q2, if_neg (fun z => z.2.elim q q2)]
        exact ⟨M, rfl, hp, fun _ _ _ _ => rfl⟩
/-- the run of a word or a number -/
theorem r_runs (hL : L ≤ 700) {k : Int32} (hk : k = 2 ∨ k = 3) : ∀ (d p fuel : Nat) (M : hp_M), p + d = L → d < fuel → RX T L M → M 13 0 16 = nI p → M 13 0 14 = k → ∃ M1, L_X9_next_111 fuel M = A_X9_next_170 M1 ∧ M1 13 0 16 = nI (tk_run T L k d p) ∧ ∀ g j i : Nat, ¬ (g = 13 ∧ j = 0 ∧ i = 16) → M1 g j i = M g j i := by
  intro d
  induction d with
  | zero =>
    intro p fuel M h1 h2 hX hp h14
    obtain ⟨m, rfl⟩ : ∃ m, fuel = m + 1 := ⟨fuel - 1, by omega⟩
    have e : L_X9_next_111 (m + 1) M = A_X9_next_127 (L_X9_next_111 m) M := by
      rw [L_X9_next_111.eq_2, h14]
      rcases hk with rfl | rfl
      · rw [if_pos rfl]
      · rw [if_neg (by decide), if_pos rfl]
    rw [e]
    unfold A_X9_next_127
    rw [hX.1, hp, if_pos (nI_le (by omega) (by omega))]
    exact ⟨M, rfl, hp, fun _ _ _ _ => rfl⟩
  | succ d ih =>
    intro p fuel M h1 h2 hX hp h14
    obtain ⟨m, rfl⟩ : ∃ m, fuel = m + 1 := ⟨fuel - 1, by omega⟩
    have e : L_X9_next_111 (m + 1) M = A_X9_next_127 (L_X9_next_111 m) M := by
      rw [L_X9_next_111.eq_2, h14]
      rcases hk with rfl | rfl
      · rw [if_pos rfl]
      · rw [if_neg (by decide), if_pos rfl]
    rw [e]
    unfold A_X9_next_127
    rw [hX.1, hp, if_neg (nI_ge (by omega) (by omega)), if_neg (nI_in (by omega) (by decide)), nI_clamp (by omega), hX.2 p (by omega), r_sort, hp_b_some, h14]
    show ∃ M1 : hp_M, _ ∧ M1 13 0 16 = nI (if p < L ∧ tk_so (T p) = k then tk_run T L k d (p + 1) else p) ∧ _
    by_cases q : tk_so (T p) = k
    · rw [if_pos q, if_pos ⟨by omega, q⟩, hp, nI_1]
      obtain ⟨M1, a1, a2, a3⟩ := ih (p + 1) m (hp_p M 13 0 16 (nI (p + 1))) (by omega) (by omega) ⟨(hp_p_o _ _ _ _ _ (by omega)).trans hX.1, fun i hi => (hp_p_o _ _ _ _ _ (by omega)).trans (hX.2 i hi)⟩ (hp_p_s _ _ _ _ _) ((hp_p_o _ _ _ _ _ (by omega)).trans h14)
      exact ⟨M1, a1, a2, fun g j i hg => (a3 g j i hg).trans (hp_p_o _ _ _ _ _ hg)⟩
    · rw [if_neg q, if_neg (fun z => q z.2)]
      exact ⟨M, rfl, hp, fun _ _ _ _ => rfl⟩
/-- the number's value -/
theorem r_val {s e : Nat} (he : e ≤ 700) (hse : s ≤ e) (h7 : ∀ i : Nat, i < e → M 13 7 i = T i) (h16 : M 13 0 16 = nI e) (h14 : M 13 0 14 = 3) (h15 : M 13 0 15 = nI s) : ∃ M', A_X9_next_196 M = some ((), M') ∧ M' 13 0 17 = tk_v T s (e - s) ∧ ∀ g j i : Nat, ¬ (g = 13 ∧ j = 0 ∧ i = 17) → M' g j i = M g j i := by
  unfold A_X9_next_196
  have e15 : hp_p M 13 0 17 0 13 0 15 = nI (s + 0) := (hp_p_o _ _ _ _ _ (by omega)).trans h15
  rw [e15]
  obtain ⟨n', M', e', h1, h2⟩ := hp_runs (T := fun n i M1 => L_X9_next_206 n (nI (s + i)) M1) (I := fun i M1 => M1 13 0 17 = tk_v T s i ∧ ∀ g j i : Nat, ¬ (g = 13 ∧ j = 0 ∧ i = 17) → M1 g j i = M g j i) (N := e - s) (fun n i M1 hi hM => by
    show ∃ M2, L_X9_next_206 (n + 1) (nI (s + i)) M1 = L_X9_next_206 n (nI (s + i + 1)) M2 ∧ _
    rw [L_X9_next_206.eq_2, hM.2 13 0 16 (by omega), h16, if_neg (nI_ge (by omega) (by omega)), hM.2 13 0 14 (by omega), h14, if_pos rfl, if_neg (nI_in (by omega) (by decide)), nI_clamp (by omega), hM.2 13 7 _ (by omega), h7 _ (by omega), hM.1, nI_1]
    refine ⟨_, rfl, hp_p_s _ _ _ _ _, fun g j k hg => ?_⟩
    rw [hp_p_o (h := hg)]; exact hM.2 g j k hg) hp_fu (hp_p M 13 0 17 0) (by unfold hp_fu; omega) ⟨hp_p_s _ _ _ _ _, fun g j i hg => hp_p_o _ _ _ _ _ hg⟩
  refine ⟨M', e'.trans ?_, h1, h2⟩
  show L_X9_next_206 (n' + 1) (nI (s + (e - s))) M' = _
  rw [L_X9_next_206.eq_2, h2 13 0 16 (by omega), h16, if_pos (nI_le (by omega) (by omega))]
theorem r_noval {k : Int32} (h14 : M 13 0 14 = k) (hk : k ≠ 3) : ∃ M', A_X9_next_196 M = some ((), M') ∧ ∀ g j i : Nat, ¬ (g = 13 ∧ j = 0 ∧ i = 17) → M' g j i = M g j i := by
  obtain ⟨m, hm⟩ : ∃ m, hp_fu = m + 1 := ⟨hp_fu - 1, by unfold hp_fu; omega⟩
  unfold A_X9_next_196
  have e14 : ∀ x : Int32, hp_p M 13 0 17 x 13 0 14 = k := fun x => (hp_p_o _ _ _ _ _ (by omega)).trans h14
  rw [hm, L_X9_next_206.eq_2, e14]
  split
  all_goals first | exact ⟨_, rfl, fun g j i hg => hp_p_o _ _ _ _ _ hg⟩ | (rw [if_neg hk]; exact ⟨_, rfl, fun g j i hg => hp_p_o _ _ _ _ _ hg⟩)
theorem r_next (hL : L ≤ 700) {p : Nat} (hp : p ≤ L) (hX : RX T L M) (ha : M 13 0 16 = nI p) : ∃ M', F_X9_next M = some ((), M') ∧ RT T L p M' ∧ ∀ g j i : Nat, ¬ (g = 13 ∧ j = 0 ∧ (i = 14 ∨ i = 15 ∨ i = 16 ∨ i = 17)) → M' g j i = M g j i := by
  unfold F_X9_next
  rw [ha]
  obtain ⟨M1, a1, a2, a3⟩ := r_skip hL (L - p) p hp_fu (hp_p M 13 0 15 (nI p)) (by omega) (by unfold hp_fu; omega) ⟨(hp_p_o _ _ _ _ _ (by omega)).trans hX.1, fun i hi => (hp_p_o _ _ _ _ _ (by omega)).trans (hX.2 i hi)⟩ (hp_p_s _ _ _ _ _)
  have hs := tk_s_le (T := T) hp
  have hee := tk_e_le (T := T) hp
  have a2 : M1 13 0 15 = nI (tk_s T L p) := a2
  have aall : ∀ g j i : Nat, ¬ (g = 13 ∧ j = 0 ∧ i = 15) → M1 g j i = M g j i := fun g j i hg => (a3 g j i hg).trans (hp_p_o _ _ _ _ _ hg)
  rw [a1]
  unfold A_X9_next_60
  rw [a2]
  generalize hM2 : hp_p M1 13 0 16 (nI (tk_s T L p)) = M2
  have b16 : M2 13 0 16 = nI (tk_s T L p) := by rw [← hM2]; exact hp_p_s _ _ _ _ _
  have bo : ∀ g j i : Nat, ¬ (g = 13 ∧ j = 0 ∧ i = 16) → M2 g j i = M1 g j i := fun g j i h => by rw [← hM2]; exact hp_p_o _ _ _ _ _ h
  have b15 : M2 13 0 15 = nI (tk_s T L p) := (bo _ _ _ (by omega)).trans a2
  have ball : ∀ g j i : Nat, ¬ (g = 13 ∧ j = 0 ∧ (i = 15 ∨ i = 16)) → M2 g j i = M g j i := fun g j i h => (bo g j i (by omega)).trans (aall g j i (by omega))
  have hX2 : RX T L M2 := ⟨(ball _ _ _ (by omega)).trans hX.1, fun i hi => (ball _ _ _ (by omega)).trans (hX.2 i hi)⟩
  rw [b15, hX2.1]
  by_cases q : L ≤ tk_s T L p
  · have hsl : tk_s T L p = L := by omega
    have hk : tk_k T L p = 0 := by unfold tk_k; rw [if_pos q]
    have he : tk_e T L p = tk_s T L p := by unfold tk_e; rw [if_pos q]
    rw [if_pos (by rw [hsl])]
    refine ⟨_, rfl, ⟨?_, ?_, ?_, fun h => ?_⟩, fun g j i hg => ?_⟩
    · rw [hp_p_o (h := by omega), b16, he]
    · rw [hp_p_s, hk]
    · rw [hp_p_o (h := by omega), b15]
    · rw [hk] at h; exact absurd h (by decide)
    · rw [hp_p_o (h := by omega)]; exact ball g j i (by omega)
  · have hlt : tk_s T L p < L := by omega
    rw [if_neg (fun z => q (Nat.le_of_eq ((nI_eq (by omega) (by omega)).mp z).symm)), if_neg (nI_in (by omega) (by decide)), nI_clamp (by omega), hX2.2 _ hlt, r_sort, hp_b_some]
    have e16 : hp_p M2 13 0 14 (tk_so (T (tk_s T L p))) 13 0 16 = nI (tk_s T L p) := (hp_p_o _ _ _ _ _ (by omega)).trans b16
    rw [e16, nI_1]
    generalize hM3 : hp_p (hp_p M2 13 0 14 (tk_so (T (tk_s T L p)))) 13 0 16 (nI (tk_s T L p + 1)) = M3
    have c16 : M3 13 0 16 = nI (tk_s T L p + 1) := by rw [← hM3]; exact hp_p_s _ _ _ _ _
    have c14 : M3 13 0 14 = tk_so (T (tk_s T L p)) := by rw [← hM3, hp_p_o (h := by omega), hp_p_s]
    have call : ∀ g j i : Nat, ¬ (g = 13 ∧ j = 0 ∧ (i = 14 ∨ i = 16)) → M3 g j i = M2 g j i := fun g j i h => by rw [← hM3, hp_p_o (h := by omega), hp_p_o (h := by omega)]
    have c15 : M3 13 0 15 = nI (tk_s T L p) := (call _ _ _ (by omega)).trans b15
    have hX3 : RX T L M3 := ⟨(call _ _ _ (by omega)).trans hX2.1, fun i hi => (call _ _ _ (by omega)).trans (hX2.2 i hi)⟩
    -- the end of the token
    have hend : ∃ M4, L_X9_next_111 hp_fu M3 = A_X9_next_170 M4 ∧ M4 13 0 16 = nI (tk_e T L p) ∧ ∀ g j i : Nat, ¬ (g = 13 ∧ j = 0 ∧ i = 16) → M4 g j i = M3 g j i := by
      by_cases q2 : tk_so (T (tk_s T L p)) = 2 ∨ tk_so (T (tk_s T L p)) = 3
      · have he : tk_e T L p = tk_run T L (tk_so (T (tk_s T L p))) (L - (tk_s T L p + 1)) (tk_s T L p + 1) := by unfold tk_e; rw [if_neg q, if_pos q2]
        obtain ⟨M4, d1, d2, d3⟩ := r_runs hL q2 (L - (tk_s T L p + 1)) (tk_s T L p + 1) hp_fu M3 (by omega) (by unfold hp_fu; omega) hX3 c16 c14
        exact ⟨M4, d1, by rw [he]; exact d2, d3⟩
      · have he : tk_e T L p = tk_s T L p + 1 := by unfold tk_e; rw [if_neg q, if_neg q2]
        obtain ⟨m, hm⟩ : ∃ m, hp_fu = m + 1 := ⟨hp_fu - 1, by unfold hp_fu; omega⟩
        rw [hm, L_X9_next_111.eq_2, c14, if_neg (fun z => q2 (Or.inl z)), if_neg (fun z => q2 (Or.inr z)), he]
        exact ⟨M3, rfl, c16, fun _ _ _ _ => rfl⟩
    obtain ⟨M4, d1, d2, d3⟩ := hend
    have f14 : M4 13 0 14 = tk_so (T (tk_s T L p)) := (d3 _ _ _ (by omega)).trans c14
    have f15 : M4 13 0 15 = nI (tk_s T L p) := (d3 _ _ _ (by omega)).trans c15
    have fall : ∀ g j i : Nat, ¬ (g = 13 ∧ j = 0 ∧ (i = 14 ∨ i = 15 ∨ i = 16)) → M4 g j i = M g j i := fun g j i h => (d3 g j i (by omega)).trans ((call g j i (by omega)).trans (ball g j i (by omega)))
    have esub : nI (tk_e T L p) - nI (tk_s T L p) = nI (tk_e T L p - tk_s T L p) := by
      have : nI (tk_e T L p) = nI (tk_e T L p - tk_s T L p) + nI (tk_s T L p) := by rw [nI_add]; congr 1; omega
      rw [this]; grind
    rw [d1]
    unfold A_X9_next_170
    rw [f14, d2, f15, esub]
    have hkk : tk_k T L p = if tk_so (T (tk_s T L p)) = 3 ∧ 4 < tk_e T L p - tk_s T L p then 4 else tk_so (T (tk_s T L p)) := by unfold tk_k; rw [if_neg q]
    by_cases q3 : tk_so (T (tk_s T L p)) = 3
    · rw [if_pos q3]
      by_cases q4 : 4 < tk_e T L p - tk_s T L p
      · rw [if_pos ⟨q3, q4⟩] at hkk
        rw [if_neg (show ¬ nI (tk_e T L p - tk_s T L p) ≤ (4 : Int32) from nI_ge (a := 4) q4 (by omega))]
        obtain ⟨M5, g1, g2⟩ := r_noval (M := hp_p M4 13 0 14 4) (k := 4) (hp_p_s _ _ _ _ _) (by decide)
        refine ⟨M5, g1, ⟨?_, ?_, ?_, fun h => ?_⟩, fun g j i hg => ?_⟩
        · rw [g2 _ _ _ (by omega), hp_p_o (h := by omega), d2]
        · rw [g2 _ _ _ (by omega), hp_p_s, hkk]
        · rw [g2 _ _ _ (by omega), hp_p_o (h := by omega), f15]
        · rw [hkk] at h; exact absurd h (by decide)
        · rw [g2 g j i (by omega), hp_p_o (h := by omega)]; exact fall g j i (by omega)
      · rw [if_neg (fun z => q4 z.2), q3] at hkk
        rw [if_pos (show nI (tk_e T L p - tk_s T L p) ≤ (4 : Int32) from nI_le (b := 4) (by omega) (by decide))]
        obtain ⟨M5, g1, g2, g3⟩ := r_val (T := T) (s := tk_s T L p) (e := tk_e T L p) (M := M4) (by omega) (by omega) (fun i hi => (fall _ _ _ (by omega)).trans (hX.2 i (by omega))) d2 (by rw [f14, q3]) f15
        refine ⟨M5, g1, ⟨?_, ?_, ?_, fun h => ?_⟩, fun g j i hg => ?_⟩
        · rw [g3 _ _ _ (by omega), d2]
        · rw [g3 _ _ _ (by omega), f14, q3, hkk]
        · rw [g3 _ _ _ (by omega), f15]
        · exact g2
        · rw [g3 g j i (by omega)]; exact fall g j i (by omega)
    · rw [if_neg (fun z => q3 z.1)] at hkk
      rw [if_neg q3]
      obtain ⟨M5, g1, g2⟩ := r_noval (M := M4) (k := tk_so (T (tk_s T L p))) f14 q3
      refine ⟨M5, g1, ⟨?_, ?_, ?_, fun h => ?_⟩, fun g j i hg => ?_⟩
      · rw [g2 _ _ _ (by omega), d2]
      · rw [g2 _ _ _ (by omega), f14, hkk]
      · rw [g2 _ _ _ (by omega), f15]
      · rw [hkk] at h; exact absurd h q3
      · rw [g2 g j i (by omega)]; exact fall g j i (by omega)
end RTOK
/-! words -/
theorem hp_tx_ok : ∀ t : Nat, t < 60 → 20 ≤ t → (hp_tx t).length < 200 ∧ ∀ i : Nat, i < (hp_tx t).length → ((((hp_tx t).getD i 0) &&& (255 : Int32)).toUInt32 % 65536).toInt32 = (hp_tx t).getD i 0 ∧ vp_nar .char ((hp_tx t).getD i 0) = (hp_tx t).getD i 0 := by decide +kernel
theorem hp_tx_same : ∀ j : Nat, j < 14 → hp_tx (28 + j) = hp_tx (46 + j) := by decide +kernel
theorem j_len (t : Nat) (M : hp_M) : F_J0_length_8abf5 t M = some (nI (hp_tx t).length, M) := by
  unfold F_J0_length_8abf5 F_J0_coder_7d493
  rw [if_neg (by decide), hp_b_some]
  have : nI (hp_tx t).length >>> ((0 : Int32) &&& 31) = nI (hp_tx t).length := by
    rw [show ((0 : Int32) &&& 31) = 0 by decide]
    exact Int32.shiftRight_zero
  rw [this]
theorem j_char {t i : Nat} (h1 : t < 60) (h2 : 20 ≤ t) (hi : i < (hp_tx t).length) (M : hp_M) : F_J0_charAt_5068e t (nI i) M = some ((hp_tx t).getD i 0, M) := by
  obtain ⟨a, b⟩ := hp_tx_ok t h1 h2
  obtain ⟨b1, b2⟩ := b i hi
  unfold F_J0_charAt_5068e F_J0_isLatin1_aae02
  rw [if_neg (by decide), if_pos rfl, hp_b_some, if_neg (by decide)]
  unfold F_J1_charAt_3b067 F_J0_checkIndex_df160 F_J3_checkIndex_8e157
  rw [if_neg (nI_pos (by omega)), if_pos (nI_lt hi (by omega)), hp_b_some, hp_b_some, if_neg (nI_in hi (by omega)), nI_clamp (by omega), b1, if_pos b2, hp_b_some, if_pos b2]
/-- whether a token is a word -/
abbrev tk_is (T : Nat → Int32) (L p t : Nat) : Prop := tk_k T L p = 2 ∧ tk_e T L p - tk_s T L p = (hp_tx t).length ∧ ∀ i : Nat, i < (hp_tx t).length → T (tk_s T L p + i) = (hp_tx t).getD i 0
section WORDS
variable {T : Nat → Int32} {L : Nat} {M : hp_M}
theorem x5_is (hL : L ≤ 700) {p t : Nat} (hp : p ≤ L) (h1 : t < 60) (h2 : 20 ≤ t) (hX : CX T L M) (hT : CT T L p M) : ∃ r : Int32, F_X5_isWord t M = some (r, M) ∧ ((r = 0 ∧ ¬ tk_is T L p t) ∨ (r = 1 ∧ tk_is T L p t)) := by
  obtain ⟨a1, -⟩ := hp_tx_ok t h1 h2
  have hs := tk_s_le (T := T) hp
  have he := tk_e_le (T := T) hp
  unfold F_X5_isWord
  rw [hT.2.1]
  by_cases hk : tk_k T L p = 2
  · have esub : nI (tk_e T L p) - nI (tk_s T L p) = nI (tk_e T L p - tk_s T L p) := by
      have : nI (tk_e T L p) = nI (tk_e T L p - tk_s T L p) + nI (tk_s T L p) := by rw [nI_add]; congr 1; omega
      rw [this]; grind
    rw [if_pos hk, j_len, hp_b_some, hT.1, hT.2.2.1, esub]
    by_cases hl : tk_e T L p - tk_s T L p = (hp_tx t).length
    · rw [if_pos (by rw [hl])]
      have key : ∀ (d i fuel : Nat), i + d = (hp_tx t).length → d < fuel → (∀ j : Nat, j < i → T (tk_s T L p + j) = (hp_tx t).getD j 0) → ∃ r : Int32, L_X5_isWord_28 t fuel (nI i) M = some (r, M) ∧ ((r = 0 ∧ ¬ tk_is T L p t) ∨ (r = 1 ∧ tk_is T L p t)) := by
        intro d
        induction d with
        | zero =>
          intro i fuel hi hf hj
          obtain ⟨m, rfl⟩ : ∃ m, fuel = m + 1 := ⟨fuel - 1, by omega⟩
          rw [L_X5_isWord_28.eq_2, j_len, hp_b_some, if_pos (nI_le (by omega) (by omega))]
          exact ⟨1, rfl, Or.inr ⟨rfl, hk, hl, fun j h => hj j (by omega)⟩⟩
        | succ d ih =>
          intro i fuel hi hf hj
          obtain ⟨m, rfl⟩ : ∃ m, fuel = m + 1 := ⟨fuel - 1, by omega⟩
          rw [L_X5_isWord_28.eq_2, j_len, hp_b_some, if_neg (nI_ge (by omega) (by omega)), hT.2.2.1, nI_add, x5_byte (by omega), hp_b_some, hX.2 _ (by omega), j_char h1 h2 (by omega), hp_b_some, nI_1]
          by_cases q : T (tk_s T L p + i) = (hp_tx t).getD i 0
          · rw [if_pos q]
            exact ih (i + 1) m (by omega) (by omega) (fun j h => by
              by_cases hji : j = i
              · rw [hji]; exact q
              · exact hj j (by omega))
          · rw [if_neg q]
            exact ⟨0, rfl, Or.inl ⟨rfl, fun z => q (z.2.2 i (by omega))⟩⟩
      exact key (hp_tx t).length 0 hp_fu (by omega) (by unfold hp_fu; omega) (fun j h => absurd h (by omega))
    · rw [if_neg (fun z => hl ((nI_eq (by omega) (by omega)).mp z))]
      exact ⟨0, rfl, Or.inl ⟨rfl, fun z => hl z.2.1⟩⟩
  · rw [if_neg hk]
    exact ⟨0, rfl, Or.inl ⟨rfl, fun z => hk z.1⟩⟩
theorem r_says (hL : L ≤ 700) {p t : Nat} (hp : p ≤ L) (h1 : t < 60) (h2 : 20 ≤ t) (hX : RX T L M) (hT : RT T L p M) : ∃ r : Int32, F_X9_says t M = some (r, M) ∧ ((r = 0 ∧ ¬ tk_is T L p t) ∨ (r = 1 ∧ tk_is T L p t)) := by
  obtain ⟨a1, -⟩ := hp_tx_ok t h1 h2
  have hs := tk_s_le (T := T) hp
  have he := tk_e_le (T := T) hp
  unfold F_X9_says
  rw [hT.2.1]
  by_cases hk : tk_k T L p = 2
  · have esub : nI (tk_e T L p) - nI (tk_s T L p) = nI (tk_e T L p - tk_s T L p) := by
      have : nI (tk_e T L p) = nI (tk_e T L p - tk_s T L p) + nI (tk_s T L p) := by rw [nI_add]; congr 1; omega
      rw [this]; grind
    rw [if_pos hk, j_len, hp_b_some, hT.1, hT.2.2.1, esub]
    by_cases hl : tk_e T L p - tk_s T L p = (hp_tx t).length
    · rw [if_pos (by rw [hl])]
      have key : ∀ (d i fuel : Nat), i + d = (hp_tx t).length → d < fuel → (∀ j : Nat, j < i → T (tk_s T L p + j) = (hp_tx t).getD j 0) → ∃ r : Int32, L_X9_says_28 t fuel (nI i) M = some (r, M) ∧ ((r = 0 ∧ ¬ tk_is T L p t) ∨ (r = 1 ∧ tk_is T L p t)) := by
        intro d
        induction d with
        | zero =>
          intro i fuel hi hf hj
          obtain ⟨m, rfl⟩ : ∃ m, fuel = m + 1 := ⟨fuel - 1, by omega⟩
          rw [L_X9_says_28.eq_2, j_len, hp_b_some, if_pos (nI_le (by omega) (by omega))]
          exact ⟨1, rfl, Or.inr ⟨rfl, hk, hl, fun j h => hj j (by omega)⟩⟩
        | succ d ih =>
          intro i fuel hi hf hj
          obtain ⟨m, rfl⟩ : ∃ m, fuel = m + 1 := ⟨fuel - 1, by omega⟩
          rw [L_X9_says_28.eq_2, j_len, hp_b_some, if_neg (nI_ge (by omega) (by omega)), hT.2.2.1, nI_add, if_neg (nI_in (by omega) (by decide)), j_char h1 h2 (by omega), hp_b_some, nI_clamp (by omega), hX.2 _ (by omega), nI_1]
          by_cases q : T (tk_s T L p + i) = (hp_tx t).getD i 0
          · rw [if_pos q]
            exact ih (i + 1) m (by omega) (by omega) (fun j h => by
              by_cases hji : j = i
              · rw [hji]; exact q
              · exact hj j (by omega))
          · rw [if_neg q]
            exact ⟨0, rfl, Or.inl ⟨rfl, fun z => q (z.2.2 i (by omega))⟩⟩
      exact key (hp_tx t).length 0 hp_fu (by omega) (by unfold hp_fu; omega) (fun j h => absurd h (by omega))
    · rw [if_neg (fun z => hl ((nI_eq (by omega) (by omega)).mp z))]
      exact ⟨0, rfl, Or.inl ⟨rfl, fun z => hl z.2.1⟩⟩
  · rw [if_neg hk]
    exact ⟨0, rfl, Or.inl ⟨rfl, fun z => hk z.1⟩⟩
end WORDS
