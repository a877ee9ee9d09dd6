/-! ===== texts: tokens ===== -/
/-- of which sort a byte is: 1 a semicolon, 2 a letter, 3 a digit, 4 none of them -/
def tk_so (c : Int32) : Int32 := if c = 59 then 1 else if 97 ≤ c ∧ c ≤ 122 then 2 else if 48 ≤ c ∧ c ≤ 57 then 3 else 4
def tk_sp (T : Nat → Int32) (L : Nat) : Nat → Nat → Nat
  | 0, p => p
  | n + 1, p => if p < L ∧ (T p = 32 ∨ T p = 10) then tk_sp T L n (p + 1) else p
def tk_run (T : Nat → Int32) (L : Nat) (k : Int32) : Nat → Nat → Nat
  | 0, p => p
  | n + 1, p => if p < L ∧ tk_so (T p) = k then tk_run T L k n (p + 1) else p
def tk_v (T : Nat → Int32) (s : Nat) : Nat → Int32
  | 0 => 0
  | n + 1 => 10 * tk_v T s n + T (s + n) - 48
/-- where the token begins that is read from a place -/
def tk_s (T : Nat → Int32) (L p : Nat) : Nat := tk_sp T L (L - p) p
/-- where it ends -/
def tk_e (T : Nat → Int32) (L p : Nat) : Nat :=
  if L ≤ tk_s T L p then tk_s T L p else if tk_so (T (tk_s T L p)) = 2 ∨ tk_so (T (tk_s T L p)) = 3 then tk_run T L (tk_so (T (tk_s T L p))) (L - (tk_s T L p + 1)) (tk_s T L p + 1) else tk_s T L p + 1
/-- what it is: 0 the end, 1 a semicolon, 2 a word, 3 a number, 4 invalid -/
def tk_k (T : Nat → Int32) (L p : Nat) : Int32 :=
  if L ≤ tk_s T L p then 0 else if tk_so (T (tk_s T L p)) = 3 ∧ 4 < tk_e T L p - tk_s T L p then 4 else tk_so (T (tk_s T L p))
def tk_n (T : Nat → Int32) (L p : Nat) : Int32 := tk_v T (tk_s T L p) (tk_e T L p - tk_s T L p)
theorem tk_so_4 (c : Int32) : tk_so c = 1 ∨ tk_so c = 2 ∨ tk_so c = 3 ∨ tk_so c = 4 := by
  unfold tk_so
  split
  · simp
  · split
    · simp
    · split
      · simp
      · simp
section TOK
variable {T : Nat → Int32} {L : Nat}
theorem tk_sp_le : ∀ (n p : Nat), p + n = L → p ≤ tk_sp T L n p ∧ tk_sp T L n p ≤ L := by
  intro n
  induction n with
  | zero => exact fun p h => ⟨Nat.le_refl _, by show p ≤ L; omega⟩
  | succ n ih =>
    intro p h
    show p ≤ (if p < L ∧ (T p = 32 ∨ T p = 10) then tk_sp T L n (p + 1) else p) ∧ (if p < L ∧ (T p = 32 ∨ T p = 10) then tk_sp T L n (p + 1) else p) ≤ L
    by_cases q : p < L ∧ (T p = 32 ∨ T p = 10)
    · rw [if_pos q]
      have := ih (p + 1) (by omega)
      omega
    · rw [if_neg q]; omega
theorem tk_run_le (k : Int32) : ∀ (n p : Nat), p + n = L → p ≤ tk_run T L k n p ∧ tk_run T L k n p ≤ L := by
  intro n
  induction n with
  | zero => exact fun p h => ⟨Nat.le_refl _, by show p ≤ L; omega⟩
  | succ n ih =>
    intro p h
    show p ≤ (if p < L ∧ tk_so (T p) = k then tk_run T L k n (p + 1) else p) ∧ (if p < L ∧ tk_so (T p) = k then tk_run T L k n (p + 1) else p) ≤ L
    by_cases q : p < L ∧ tk_so (T p) = k
    · rw [if_pos q]
      have := ih (p + 1) (by omega)
      omega
    · rw [if_neg q]; omega
/-- all bytes of a run are of its sort -/
theorem tk_run_all (k : Int32) : ∀ (n p : Nat), ∀ j : Nat, p ≤ j → j < tk_run T L k n p → tk_so (T j) = k := by
  intro n
  induction n with
  | zero => exact fun p j h1 h2 => absurd (show j < p from h2) (by omega)
  | succ n ih =>
    intro p j h1 h2
    have h2 : j < (if p < L ∧ tk_so (T p) = k then tk_run T L k n (p + 1) else p) := h2
    by_cases q : p < L ∧ tk_so (T p) = k
    · rw [if_pos q] at h2
      by_cases hj : j = p
      · rw [hj]; exact q.2
      · exact ih (p + 1) j (by omega) h2
    · rw [if_neg q] at h2; omega
theorem tk_s_le {p : Nat} (hp : p ≤ L) : p ≤ tk_s T L p ∧ tk_s T L p ≤ L := tk_sp_le (L - p) p (by omega)
theorem tk_e_le {p : Nat} (hp : p ≤ L) : tk_s T L p ≤ tk_e T L p ∧ tk_e T L p ≤ L := by
  have h := tk_s_le (T := T) hp
  unfold tk_e
  by_cases q : L ≤ tk_s T L p
  · rw [if_pos q]; omega
  · rw [if_neg q]
    by_cases q2 : tk_so (T (tk_s T L p)) = 2 ∨ tk_so (T (tk_s T L p)) = 3
    · rw [if_pos q2]
      have := tk_run_le (T := T) (L := L) (tk_so (T (tk_s T L p))) (L - (tk_s T L p + 1)) (tk_s T L p + 1) (by omega)
      omega
    · rw [if_neg q2]; omega
theorem tk_e_lt {p : Nat} (hp : p ≤ L) (hk : tk_k T L p ≠ 0) : tk_s T L p < tk_e T L p := by
  have h := tk_s_le (T := T) hp
  by_cases q : L ≤ tk_s T L p
  · exact absurd (by unfold tk_k; rw [if_pos q]) hk
  · unfold tk_e
    rw [if_neg q]
    by_cases q2 : tk_so (T (tk_s T L p)) = 2 ∨ tk_so (T (tk_s T L p)) = 3
    · rw [if_pos q2]
      have := tk_run_le (T := T) (L := L) (tk_so (T (tk_s T L p))) (L - (tk_s T L p + 1)) (tk_s T L p + 1) (by omega)
      omega
    · rw [if_neg q2]; omega
/-- a number's digits -/
theorem tk_dig {p : Nat} (hp : p ≤ L) (hk : tk_k T L p = 3) : tk_e T L p - tk_s T L p ≤ 4 ∧ ∀ j : Nat, tk_s T L p ≤ j → j < tk_e T L p → 48 ≤ T j ∧ T j ≤ 57 := by
  have h3 : ∀ c : Int32, tk_so c = 3 → 48 ≤ c ∧ c ≤ 57 := by
    intro c hc
    unfold tk_so at hc
    split at hc
    · exact absurd hc (by decide)
    · split at hc
      · exact absurd hc (by decide)
      · split at hc
        · assumption
        · exact absurd hc (by decide)
  by_cases q : L ≤ tk_s T L p
  · unfold tk_k at hk; rw [if_pos q] at hk; exact absurd hk (by decide)
  · have hk2 : tk_so (T (tk_s T L p)) = 3 ∧ ¬ 4 < tk_e T L p - tk_s T L p := by
      unfold tk_k at hk
      rw [if_neg q] at hk
      by_cases q2 : tk_so (T (tk_s T L p)) = 3 ∧ 4 < tk_e T L p - tk_s T L p
      · rw [if_pos q2] at hk; exact absurd hk (by decide)
      · rw [if_neg q2] at hk
        exact ⟨hk, fun z => q2 ⟨hk, z⟩⟩
    refine ⟨by omega, fun j h1 h2 => ?_⟩
    by_cases hj : j = tk_s T L p
    · rw [hj]; exact h3 _ hk2.1
    · have e : tk_e T L p = tk_run T L 3 (L - (tk_s T L p + 1)) (tk_s T L p + 1) := by
        unfold tk_e
        rw [if_neg q, if_pos (Or.inr hk2.1), hk2.1]
      rw [e] at h2
      exact h3 _ (tk_run_all 3 _ _ j (by omega) h2)
theorem tk_v_nat {s : Nat} : ∀ n : Nat, n ≤ 4 → (∀ j : Nat, s ≤ j → j < s + n → 48 ≤ T j ∧ T j ≤ 57) → ∃ x : Nat, tk_v T s n = nI x ∧ x < 10 ^ n := by
  intro n
  induction n with
  | zero => exact fun _ _ => ⟨0, nI_0.symm, by decide⟩
  | succ n ih =>
    intro hn hd
    obtain ⟨x, h1, h2⟩ := ih (by omega) (fun j a b => hd j a (by omega))
    have h3 := hd (s + n) (by omega) (by omega)
    obtain ⟨d, hd1, hd2⟩ : ∃ d : Nat, d < 10 ∧ T (s + n) = nI (48 + d) := by
      obtain ⟨j, hj1, hj2⟩ := nI_of2 (x := T (s + n)) (M := 57) (n := 57) (by decide) (by grind) h3.2
      have h48 : 48 ≤ j := by
        have := h3.1
        rw [hj2] at this
        exact (nI_leI (a := 48) (b := j) (by decide) (by omega)).mp this
      exact ⟨j - 48, by omega, by rw [hj2]; congr 1; omega⟩
    refine ⟨10 * x + d, ?_, ?_⟩
    · show 10 * tk_v T s n + T (s + n) - 48 = _
      rw [h1, hd2, show (10 : Int32) = nI 10 from rfl, nI_mul, nI_add, show (48 : Int32) = nI 48 from rfl]
      have : nI (10 * x + (48 + d)) = nI (10 * x + d) + nI 48 := by rw [nI_add]; congr 1; omega
      rw [this]; grind
    · rw [Nat.pow_succ]; omega
theorem tk_n_nat {p : Nat} (hp : p ≤ L) (hk : tk_k T L p = 3) : ∃ x : Nat, tk_n T L p = nI x ∧ x < 10000 := by
  obtain ⟨h1, h2⟩ := tk_dig hp hk
  obtain ⟨x, h3, h4⟩ := tk_v_nat (T := T) (s := tk_s T L p) (tk_e T L p - tk_s T L p) h1 (fun j a b => h2 j a (by omega))
  refine ⟨x, h3, ?_⟩
  have : (10 : Nat) ^ (tk_e T L p - tk_s T L p) ≤ 10 ^ 4 := Nat.pow_le_pow_right (by decide) h1
  omega
end TOK
/-! the class reads a token -/
def CX (T : Nat → Int32) (L : Nat) (M : hp_M) : Prop := M 12 1 1 = nI L ∧ ∀ i : Nat, i < L → M 12 2 i = T i
/-- the token that was read from a place -/
def CT (T : Nat → Int32) (L p : Nat) (M : hp_M) : Prop := M 12 1 2 = nI (tk_e T L p) ∧ M 12 1 3 = tk_k T L p ∧ M 12 1 4 = nI (tk_s T L p) ∧ (tk_k T L p = 3 → M 12 1 5 = tk_n T L p)
section CTOK
variable {T : Nat → Int32} {L : Nat} {M : hp_M}
theorem x5_byte {p : Nat} (hp : p < 700) : F_X5_byteAt (nI p) M = some (M 12 2 p, M) := by
  unfold F_X5_byteAt
  rw [if_neg (nI_pos (by omega)), if_neg (show ¬ (700 : Int32) ≤ nI p from nI_ge (b := 700) hp (by decide)), if_neg (nI_in hp (by decide)), nI_clamp (by omega)]
theorem x5_letter (c : Int32) : F_X5_isLetter c M = some (if tk_so c = 2 then 1 else 0, M) := by
  unfold F_X5_isLetter tk_so
  by_cases h0 : c = 59
  · subst h0; rfl
  · rw [if_neg h0]
    by_cases h1 : 97 ≤ c ∧ c ≤ 122
    · rw [if_pos h1, if_neg (by grind), if_neg (by grind), if_pos rfl]
    · rw [if_neg h1]
      have e : ¬ (if 48 ≤ c ∧ c ≤ 57 then (3 : Int32) else 4) = 2 := by split <;> decide
      rw [if_neg e]
      by_cases h2 : c < 97
      · rw [if_pos h2]
      · rw [if_neg h2, if_pos (by grind)]
theorem x5_digit (c : Int32) : F_X5_isDigit c M = some (if tk_so c = 3 then 1 else 0, M) := by
  unfold F_X5_isDigit tk_so
  by_cases h0 : c = 59
  · subst h0; rfl
  · rw [if_neg h0]
    by_cases h1 : 97 ≤ c ∧ c ≤ 122
    · rw [if_pos h1, if_neg (by grind), if_pos (by grind), if_neg (by decide)]
    · rw [if_neg h1]
      by_cases h2 : 48 ≤ c ∧ c ≤ 57
      · rw [if_pos h2, if_neg (by grind), if_neg (by grind), if_pos rfl]
      · rw [if_neg h2, if_neg (show ¬ (4 : Int32) = 3 by decide)]
        by_cases h3 : c < 48
        · rw [if_pos h3]
        · rw [if_neg h3, if_pos (by grind)]
theorem x5_space (c : Int32) : F_X5_isSpace c M = some (if c = 32 ∨ c = 10 then 1 else 0, M) := by
  unfold F_X5_isSpace
  by_cases h1 : c = 32
  · rw [if_pos h1, if_pos (Or.inl h1)]
  · rw [if_neg h1]
    by_cases h2 : c = 10
    · rw [if_pos h2, if_pos (Or.inr h2)]
    · rw [if_neg h2, if_neg (fun q => q.elim h1 h2)]
theorem x5_skip (hL : L ≤ 700) : ∀ (d p fuel : Nat) (M : hp_M), p + d = L → d < fuel → CX T L M → M 12 1 2 = nI p → ∃ M1, L_X5_next_0 fuel M = A_X5_next_38 M1 ∧ M1 12 1 2 = nI (tk_sp T L d p) ∧ ∀ g j i : Nat, ¬ (g = 12 ∧ j = 1 ∧ i = 2) → M1 g j i = M g j i := by
  intro d
  induction d with
  | zero =>
    intro p fuel M h1 h2 hX hp
    obtain ⟨m, rfl⟩ : ∃ m, fuel = m + 1 := ⟨fuel - 1, by omega⟩
    rw [L_X5_next_0.eq_2, hX.1, hp, if_pos (nI_le (by omega) (by omega))]
    exact ⟨M, rfl, hp, fun _ _ _ _ => rfl⟩
  | succ d ih =>
    intro p fuel M h1 h2 hX hp
    obtain ⟨m, rfl⟩ : ∃ m, fuel = m + 1 := ⟨fuel - 1, by omega⟩
    rw [L_X5_next_0.eq_2, hX.1, hp, if_neg (nI_ge (by omega) (by omega)), x5_byte (by omega), hp_b_some, hX.2 p (by omega), x5_space, hp_b_some]
    show ∃ M1 : hp_M, _ ∧ M1 12 1 2 = nI (if p < L ∧ (T p = 32 ∨ T p = 10) then tk_sp T L d (p + 1) else p) ∧ _
    by_cases q : T p = 32 ∨ T p = 10
    · rw [if_pos q, if_neg (by decide), if_pos ⟨by omega, q⟩, hp, nI_1]
      obtain ⟨M1, a1, a2, a3⟩ := ih (p + 1) m (hp_p M 12 1 2 (nI (p + 1))) (by omega) (by omega) ⟨(hp_p_o _ _ _ _ _ (by omega)).trans hX.1, fun i hi => (hp_p_o _ _ _ _ _ (by omega)).trans (hX.2 i hi)⟩ (hp_p_s _ _ _ _ _)
      exact ⟨M1, a1, a2, fun g j i hg => (a3 g j i hg).trans (hp_p_o _ _ _ _ _ hg)⟩
    · rw [if_neg q, if_pos rfl, if_neg (fun z => q z.2)]
      exact ⟨M, rfl, hp, fun _ _ _ _ => rfl⟩
theorem x5_word (hL : L ≤ 700) : ∀ (d p fuel : Nat) (M : hp_M), p + d = L → d < fuel → CX T L M → M 12 1 2 = nI p → ∃ M1, L_X5_next_84 fuel M = some ((), M1) ∧ M1 12 1 2 = nI (tk_run T L 2 d p) ∧ ∀ g j i : Nat, ¬ (g = 12 ∧ j = 1 ∧ i = 2) → M1 g j i = M g j i := by
  intro d
  induction d with
  | zero =>
    intro p fuel M h1 h2 hX hp
    obtain ⟨m, rfl⟩ : ∃ m, fuel = m + 1 := ⟨fuel - 1, by omega⟩
    rw [L_X5_next_84.eq_2, hX.1, hp, if_pos (nI_le (by omega) (by omega))]
    exact ⟨M, rfl, hp, fun _ _ _ _ => rfl⟩
  | succ d ih =>
    intro p fuel M h1 h2 hX hp
    obtain ⟨m, rfl⟩ : ∃ m, fuel = m + 1 := ⟨fuel - 1, by omega⟩
    rw [L_X5_next_84.eq_2, hX.1, hp, if_neg (nI_ge (by omega) (by omega)), x5_byte (by omega), hp_b_some, hX.2 p (by omega), x5_letter, hp_b_some]
    show ∃ M1 : hp_M, _ ∧ M1 12 1 2 = nI (if p < L ∧ tk_so (T p) = 2 then tk_run T L 2 d (p + 1) else p) ∧ _
    by_cases q : tk_so (T p) = 2
    · rw [if_pos q, if_neg (by decide), if_pos ⟨by omega, q⟩, hp, nI_1]
      obtain ⟨M1, a1, a2, a3⟩ := ih (p + 1) m (hp_p M 12 1 2 (nI (p + 1))) (by omega) (by omega) ⟨(hp_p_o _ _ _ _ _ (by omega)).trans hX.1, fun i hi => (hp_p_o _ _ _ _ _ (by omega)).trans (hX.2 i hi)⟩ (hp_p_s _ _ _ _ _)
      exact ⟨M1, a1, a2, fun g j i hg => (a3 g j i hg).trans (hp_p_o _ _ _ _ _ hg)⟩
    · rw [if_neg q, if_pos rfl, if_neg (fun z => q z.2)]
      exact ⟨M, rfl, hp, fun _ _ _ _ => rfl⟩
theorem x5_num (hL : L ≤ 700) {s : Nat} : ∀ (d p fuel : Nat) (M : hp_M), p + d = L → d < fuel → s ≤ p → CX T L M → M 12 1 2 = nI p → M 12 1 4 = nI s → M 12 1 5 = tk_v T s (min (p - s) 4) → ∃ M1, L_X5_nextNumber_5 fuel M = A_X5_nextNumber_79 M1 ∧ M1 12 1 2 = nI (tk_run T L 3 d p) ∧ M1 12 1 5 = tk_v T s (min (tk_run T L 3 d p - s) 4) ∧ ∀ g j i : Nat, ¬ (g = 12 ∧ j = 1 ∧ (i = 2 ∨ i = 5)) → M1 g j i = M g j i := by
  intro d
  induction d with
  | zero =>
    intro p fuel M h1 h2 hs hX hp h4 h5
    obtain ⟨m, rfl⟩ : ∃ m, fuel = m + 1 := ⟨fuel - 1, by omega⟩
    rw [L_X5_nextNumber_5.eq_2, hX.1, hp, if_pos (nI_le (by omega) (by omega))]
    exact ⟨M, rfl, hp, h5, fun _ _ _ _ => rfl⟩
  | succ d ih =>
    intro p fuel M h1 h2 hs hX hp h4 h5
    obtain ⟨m, rfl⟩ : ∃ m, fuel = m + 1 := ⟨fuel - 1, by omega⟩
    have er : tk_run T L 3 (d + 1) p = if p < L ∧ tk_so (T p) = 3 then tk_run T L 3 d (p + 1) else p := rfl
    rw [L_X5_nextNumber_5.eq_2, hX.1, hp, if_neg (nI_ge (by omega) (by omega)), x5_byte (by omega), hp_b_some, hX.2 p (by omega), x5_digit, hp_b_some]
    by_cases q : tk_so (T p) = 3
    · have esub : nI p - nI s = nI (p - s) := by
        have : nI p = nI (p - s) + nI s := by rw [nI_add]; congr 1; omega
        rw [this]; grind
      have er2 : tk_run T L 3 (d + 1) p = tk_run T L 3 d (p + 1) := by rw [er, if_pos ⟨by omega, q⟩]
      rw [if_pos q, if_neg (by decide), er2, hp, h4, esub]
      by_cases q4 : 4 ≤ p - s
      · rw [if_pos (show (4 : Int32) ≤ nI (p - s) from nI_le (a := 4) q4 (by omega)), nI_1]
        obtain ⟨M1, a1, a2, a3, a4⟩ := ih (p + 1) m (hp_p M 12 1 2 (nI (p + 1))) (by omega) (by omega) (by omega) ⟨(hp_p_o _ _ _ _ _ (by omega)).trans hX.1, fun i hi => (hp_p_o _ _ _ _ _ (by omega)).trans (hX.2 i hi)⟩ (hp_p_s _ _ _ _ _) ((hp_p_o _ _ _ _ _ (by omega)).trans h4) (by rw [hp_p_o (h := by omega), h5, Nat.min_eq_right q4, Nat.min_eq_right (by omega)])
        exact ⟨M1, a1, a2, a3, fun g j i hg => (a4 g j i hg).trans (hp_p_o _ _ _ _ _ (by omega))⟩
      · have e1 : min (p - s) 4 = p - s := Nat.min_eq_left (by omega)
        have e2 : min (p + 1 - s) 4 = p - s + 1 := by omega
        have ev : 10 * tk_v T s (p - s) + T p - 48 = tk_v T s (p - s + 1) := by
          show _ = 10 * tk_v T s (p - s) + T (s + (p - s)) - 48
          rw [show s + (p - s) = p by omega]
        rw [if_neg (show ¬ (4 : Int32) ≤ nI (p - s) from nI_ge (b := 4) (by omega) (by decide)), x5_byte (by omega), hp_b_some, hX.2 p (by omega), h5, e1, ev, hp_p_o (h := by omega), hp, nI_1]
        obtain ⟨M1, a1, a2, a3, a4⟩ := ih (p + 1) m (hp_p (hp_p M 12 1 5 (tk_v T s (p - s + 1))) 12 1 2 (nI (p + 1))) (by omega) (by omega) (by omega) ⟨(hp_p_o _ _ _ _ _ (by omega)).trans ((hp_p_o _ _ _ _ _ (by omega)).trans hX.1), fun i hi => (hp_p_o _ _ _ _ _ (by omega)).trans ((hp_p_o _ _ _ _ _ (by omega)).trans (hX.2 i hi))⟩ (hp_p_s _ _ _ _ _) ((hp_p_o _ _ _ _ _ (by omega)).trans ((hp_p_o _ _ _ _ _ (by omega)).trans h4)) (by rw [hp_p_o (h := by omega), hp_p_s, e2])
        exact ⟨M1, a1, a2, a3, fun g j i hg => (a4 g j i hg).trans ((hp_p_o _ _ _ _ _ (by omega)).trans (hp_p_o _ _ _ _ _ (by omega)))⟩
    · have er2 : tk_run T L 3 (d + 1) p = p := by rw [er, if_neg (fun z => q z.2)]
      rw [if_neg q, if_pos rfl, er2]
      exact ⟨M, rfl, hp, h5, fun _ _ _ _ => rfl⟩
theorem x5_next (hL : L ≤ 700) {p : Nat} (hp : p ≤ L) (hX : CX T L M) (ha : M 12 1 2 = nI p) : ∃ M', F_X5_next M = some ((), M') ∧ CT T L p M' ∧ ∀ g j i : Nat, ¬ (g = 12 ∧ j = 1 ∧ (i = 2 ∨ i = 3 ∨ i = 4 ∨ i = 5)) → M' g j i = M g j i := by
  obtain ⟨M1, a1, a2, a3⟩ := x5_skip hL (L - p) p hp_fu M (by omega) (by unfold hp_fu; omega) hX ha
  have hs := tk_s_le (T := T) hp
  have a2 : M1 12 1 2 = nI (tk_s T L p) := a2
  have hX1 : CX T L M1 := ⟨(a3 _ _ _ (by omega)).trans hX.1, fun i hi => (a3 _ _ _ (by omega)).trans (hX.2 i hi)⟩
  unfold F_X5_next
  rw [a1]
  unfold A_X5_next_38
  have z : ∀ (x : Int32) (g j i : Nat), ¬ (g = 12 ∧ j = 1 ∧ i = 4) → hp_p M1 12 1 4 x g j i = M1 g j i := fun x g j i h => hp_p_o _ _ _ _ _ h
  rw [a2, z _ 12 1 2 (by omega), z _ 12 1 1 (by omega), hX1.1, a2]
  generalize hM2 : hp_p M1 12 1 4 (nI (tk_s T L p)) = M2
  have b4 : M2 12 1 4 = nI (tk_s T L p) := by rw [← hM2]; exact hp_p_s _ _ _ _ _
  have bo : ∀ g j i : Nat, ¬ (g = 12 ∧ j = 1 ∧ i = 4) → M2 g j i = M1 g j i := fun g j i h => by rw [← hM2]; exact z _ g j i h
  have b2 : M2 12 1 2 = nI (tk_s T L p) := (bo _ _ _ (by omega)).trans a2
  have hX2 : CX T L M2 := ⟨(bo _ _ _ (by omega)).trans hX1.1, fun i hi => (bo _ _ _ (by omega)).trans (hX1.2 i hi)⟩
  have ball : ∀ g j i : Nat, ¬ (g = 12 ∧ j = 1 ∧ (i = 2 ∨ i = 4)) → M2 g j i = M g j i := fun g j i h => (bo g j i (by omega)).trans (a3 g j i (by omega))
  by_cases q : L ≤ tk_s T L p
  · have hsl : tk_s T L p = L := by omega
    have hk : tk_k T L p = 0 := by unfold tk_k; rw [if_pos q]
    have he : tk_e T L p = tk_s T L p := by unfold tk_e; rw [if_pos q]
    rw [if_neg (nI_nlt q (by omega))]
    refine ⟨_, rfl, ⟨?_, ?_, ?_, fun h => ?_⟩, fun g j i hg => ?_⟩
    · rw [hp_p_o (h := by omega), b2, he]
    · rw [hp_p_s, hk]
    · rw [hp_p_o (h := by omega), b4]
    · rw [hk] at h; exact absurd h (by decide)
    · rw [hp_p_o (h := by omega)]; exact ball g j i (by omega)
  · have hlt : tk_s T L p < L := by omega
    generalize hs' : tk_s T L p = s at *
    have e2 : M2 12 2 s = T s := hX2.2 s hlt
    rw [if_pos (nI_lt hlt (by omega)), x5_byte (by omega), hp_b_some, e2, x5_letter, hp_b_some]
    by_cases q2 : tk_so (T s) = 2
    · have hk : tk_k T L p = 2 := by unfold tk_k; rw [hs', if_neg q, if_neg (fun z => by rw [q2] at z; exact absurd z.1 (by decide)), q2]
      have he : tk_e T L p = tk_run T L 2 (L - (s + 1)) (s + 1) := by unfold tk_e; rw [hs', if_neg q, if_pos (Or.inl q2), q2]
      rw [if_pos q2, if_neg (by decide)]
      obtain ⟨M3, c1, c2, c3⟩ := x5_word hL (L - s) s hp_fu (hp_p M2 12 1 3 2) (by omega) (by unfold hp_fu; omega) ⟨(hp_p_o _ _ _ _ _ (by omega)).trans hX2.1, fun i hi => (hp_p_o _ _ _ _ _ (by omega)).trans (hX2.2 i hi)⟩ ((hp_p_o _ _ _ _ _ (by omega)).trans b2)
      have er : tk_run T L 2 (L - s) s = tk_run T L 2 (L - (s + 1)) (s + 1) := by
        rw [show L - s = L - (s + 1) + 1 by omega]
        show (if s < L ∧ tk_so (T s) = 2 then tk_run T L 2 (L - (s + 1)) (s + 1) else s) = _
        rw [if_pos ⟨hlt, q2⟩]
      refine ⟨M3, c1, ⟨?_, ?_, ?_, fun h => ?_⟩, fun g j i hg => ?_⟩
      · rw [c2, er, he]
      · rw [c3 _ _ _ (by omega), hp_p_s, hk]
      · rw [c3 _ _ _ (by omega), hp_p_o (h := by omega), b4, hs']
      · rw [hk] at h; exact absurd h (by decide)
      · rw [c3 g j i (by omega), hp_p_o (h := by omega)]; exact ball g j i (by omega)
    · rw [if_neg q2, if_pos rfl, b2, x5_byte (by omega), hp_b_some, e2, x5_digit, hp_b_some]
      by_cases q3 : tk_so (T s) = 3
      · have he : tk_e T L p = tk_run T L 3 (L - (s + 1)) (s + 1) := by unfold tk_e; rw [hs', if_neg q, if_pos (Or.inr q3), q3]
        have hk : tk_k T L p = if 4 < tk_e T L p - s then 4 else 3 := by
          unfold tk_k
          rw [hs', if_neg q, q3]
          by_cases z : 4 < tk_e T L p - s
          · rw [if_pos ⟨rfl, z⟩, if_pos z]
          · rw [if_neg (fun y => z y.2), if_neg z]
        rw [if_pos q3, if_neg (by decide)]
        unfold F_X5_nextNumber
        obtain ⟨M3, c1, c2, c3, c4⟩ := x5_num hL (s := s) (L - s) s hp_fu (hp_p M2 12 1 5 0) (by omega) (by unfold hp_fu; omega) (Nat.le_refl _) ⟨(hp_p_o _ _ _ _ _ (by omega)).trans hX2.1, fun i hi => (hp_p_o _ _ _ _ _ (by omega)).trans (hX2.2 i hi)⟩ ((hp_p_o _ _ _ _ _ (by omega)).trans b2) ((hp_p_o _ _ _ _ _ (by omega)).trans b4) (by rw [hp_p_s, Nat.sub_self]; rfl)
        have er : tk_run T L 3 (L - s) s = tk_run T L 3 (L - (s + 1)) (s + 1) := by
          rw [show L - s = L - (s + 1) + 1 by omega]
          show (if s < L ∧ tk_so (T s) = 3 then tk_run T L 3 (L - (s + 1)) (s + 1) else s) = _
          rw [if_pos ⟨hlt, q3⟩]
        rw [er, ← he] at c2 c3
        have hee := tk_e_le (T := T) hp
        rw [hs'] at hee
        have d4 : M3 12 1 4 = nI s := (c4 _ _ _ (by omega)).trans ((hp_p_o _ _ _ _ _ (by omega)).trans b4)
        have esub : nI (tk_e T L p) - nI s = nI (tk_e T L p - s) := by
          have : nI (tk_e T L p) = nI (tk_e T L p - s) + nI s := by rw [nI_add]; congr 1; omega
          rw [this]; grind
        rw [c1]
        unfold A_X5_nextNumber_79
        rw [c2, d4, esub]
        by_cases z : 4 < tk_e T L p - s
        · rw [if_pos z] at hk
          rw [if_pos (show (4 : Int32) < nI (tk_e T L p - s) from nI_lt (a := 4) z (by omega)), hp_b_some]
          refine ⟨_, rfl, ⟨?_, ?_, ?_, fun h => ?_⟩, fun g j i hg => ?_⟩
          · rw [hp_p_o (h := by omega), c2]
          · rw [hp_p_s, hk]
          · rw [hp_p_o (h := by omega), d4, hs']
          · rw [hk] at h; exact absurd h (by decide)
          · rw [hp_p_o (h := by omega), c4 g j i (by omega), hp_p_o (h := by omega)]; exact ball g j i (by omega)
        · rw [if_neg z] at hk
          rw [if_neg (show ¬ (4 : Int32) < nI (tk_e T L p - s) from nI_nlt (a := 4) (by omega) (by decide)), hp_b_some]
          refine ⟨_, rfl, ⟨?_, ?_, ?_, fun h => ?_⟩, fun g j i hg => ?_⟩
          · rw [hp_p_o (h := by omega), c2]
          · rw [hp_p_s, hk]
          · rw [hp_p_o (h := by omega), d4, hs']
          · rw [hp_p_o (h := by omega), c3, Nat.min_eq_left (by omega)]
            unfold tk_n
            rw [hs']
          · rw [hp_p_o (h := by omega), c4 g j i (by omega), hp_p_o (h := by omega)]; exact ball g j i (by omega)
      · have he : tk_e T L p = s + 1 := by unfold tk_e; rw [hs', if_neg q, if_neg (fun z => z.elim q2 q3)]
        have hk : tk_k T L p = tk_so (T s) := by unfold tk_k; rw [hs', if_neg q, if_neg (fun z => q3 z.1)]
        rw [if_neg q3, if_pos rfl, b2, x5_byte (by omega), hp_b_some, e2]
        have fin : ∀ k : Int32, tk_so (T s) = k → CT T L p (hp_p (hp_p M2 12 1 3 k) 12 1 2 ((hp_p M2 12 1 3 k) 12 1 2 + 1)) ∧ ∀ g j i : Nat, ¬ (g = 12 ∧ j = 1 ∧ (i = 2 ∨ i = 3 ∨ i = 4 ∨ i = 5)) → hp_p (hp_p M2 12 1 3 k) 12 1 2 ((hp_p M2 12 1 3 k) 12 1 2 + 1) g j i = M g j i := by
          intro k hk2
          refine ⟨⟨?_, ?_, ?_, fun h => ?_⟩, fun g j i hg => ?_⟩
          · rw [hp_p_s, hp_p_o (h := by omega), b2, nI_1, he]
          · rw [hp_p_o (h := by omega), hp_p_s, hk, hk2]
          · rw [hp_p_o (h := by omega), hp_p_o (h := by omega), b4, hs']
          · rw [hk] at h; exact absurd h q3
          · rw [hp_p_o (h := by omega), hp_p_o (h := by omega)]; exact ball g j i (by omega)
        by_cases q5 : T s = 59
        · rw [if_pos q5]
          exact ⟨_, rfl, fin 1 (by unfold tk_so; rw [if_pos q5])⟩
        · rw [if_neg q5]
          refine ⟨_, rfl, fin 4 ?_⟩
          rcases tk_so_4 (T s) with y | y | y | y
          · exact absurd (by unfold tk_so at y; by_cases w : T s = 59; exact w; rw [if_neg w] at y; split at y; exact absurd y (by decide); split at y; exact absurd y (by decide); exact absurd y (by decide)) q5
          · exact absurd y q2
          · exact absurd y q3
          · exact y
end CTOK
