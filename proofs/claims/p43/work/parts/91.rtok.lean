/-! ===== the reference reads a token; words ===== -/
section RTOK
variable {T : Nat → Int32} {L : Nat} {M : hp_M}
end RTOK
/-! words -/
theorem hp_tx_ok : ∀ t : Nat, t < 60 → 20 ≤ t → (hp_tx t).length < 200 ∧ ∀ i : Nat, i < (hp_tx t).length → ((((hp_tx t).getD i 0) &&& (255 : Int32)).toUInt32 % 65536).toInt32 = (hp_tx t).getD i 0 ∧ vp_nar .char ((hp_tx t).getD i 0) = (hp_tx t).getD i 0 := by decide +kernel
theorem j_len (t : Nat) (M : hp_M) : F_J0_length_8abf5 t M = some (nI (hp_tx t).length, M) := by
  unfold F_J0_length_8abf5 F_J0_coder_7d493
  rw [if_neg (by decide), hp_b_some]
  have : nI (hp_tx t).length >>> ((0 : Int32) &&& 31) = nI (hp_tx t).length := by
    rw [show ((0 : Int32) &&& 31) = 0 by decide]
    exact Int32.shiftRight_zero
  rw [this]
theorem j_char {t i : Nat} (h1 : t < 60) (h2 : 20 ≤ t) (hi : i < (hp_tx t).length) (M : hp_M) : F_J0_charAt_5068e t (nI i) M = some ((hp_tx t).getD i 0, M) := by
  obtain ⟨a, b⟩ := hp_tx_ok t h1 h2
  obtain ⟨b1, b2⟩ := b i hi
  unfold F_J0_charAt_5068e F_J0_isLatin1_aae02
  rw [if_neg (by decide), if_pos rfl, hp_b_some, if_neg (by decide)]
  unfold F_J1_charAt_3b067 F_J0_checkIndex_df160 F_J3_checkIndex_8e157
  rw [if_neg (nI_pos (by omega)), if_pos (nI_lt hi (by omega)), hp_b_some, hp_b_some, if_neg (nI_in hi (by omega)), nI_clamp (by omega), b1, if_pos b2, hp_b_some, if_pos b2]
/-- whether a token is a word -/
abbrev tk_is (T : Nat → Int32) (L p t : Nat) : Prop := tk_k T L p = 2 ∧ tk_e T L p - tk_s T L p = (hp_tx t).length ∧ ∀ i : Nat, i < (hp_tx t).length → T (tk_s T L p + i) = (hp_tx t).getD i 0
section WORDS
variable {T : Nat → Int32} {L : Nat} {M : hp_M}
theorem x5_is (hL : L ≤ 700) {p t : Nat} (hp : p ≤ L) (h1 : t < 60) (h2 : 20 ≤ t) (hX : CX T L M) (hT : CT T L p M) : ∃ r : Int32, F_X5_isWord t M = some (r, M) ∧ ((r = 0 ∧ ¬ tk_is T L p t) ∨ (r = 1 ∧ tk_is T L p t)) := by
  obtain ⟨a1, -⟩ := hp_tx_ok t h1 h2
  have hs := tk_s_le (T := T) hp
  have he := tk_e_le (T := T) hp
  unfold F_X5_isWord
  rw [hT.2.1]
  by_cases hk : tk_k T L p = 2
  · have esub : nI (tk_e T L p) - nI (tk_s T L p) = nI (tk_e T L p - tk_s T L p) := by
      have : nI (tk_e T L p) = nI (tk_e T L p - tk_s T L p) + nI (tk_s T L p) := by rw [nI_add]; congr 1; omega
      rw [this]; grind
    rw [if_pos hk, j_len, hp_b_some, hT.1, hT.2.2.1, esub]
    by_cases hl : tk_e T L p - tk_s T L p = (hp_tx t).length
    · rw [if_pos (by rw [hl])]
      have key : ∀ (d i fuel : Nat), i + d = (hp_tx t).length → d < fuel → (∀ j : Nat, j < i → T (tk_s T L p + j) = (hp_tx t).getD j 0) → ∃ r : Int32, L_X5_isWord_28 t fuel (nI i) M = some (r, M) ∧ ((r = 0 ∧ ¬ tk_is T L p t) ∨ (r = 1 ∧ tk_is T L p t)) := by
        intro d
        induction d with
        | zero =>
          intro i fuel hi hf hj
          obtain ⟨m, rfl⟩ : ∃ m, fuel = m + 1 := ⟨fuel - 1, by omega⟩
          rw [L_X5_isWord_28.eq_2, j_len, hp_b_some, if_pos (nI_le (by omega) (by omega))]
          exact ⟨1, rfl, Or.inr ⟨rfl, hk, hl, fun j h => hj j (by omega)⟩⟩
        | succ d ih =>
          intro i fuel hi hf hj
          obtain ⟨m, rfl⟩ : ∃ m, fuel = m + 1 := ⟨fuel - 1, by omega⟩
          rw [L_X5_isWord_28.eq_2, j_len, hp_b_some, if_neg (nI_ge (by omega) (by omega)), hT.2.2.1, nI_add, x5_byte (by omega), hp_b_some, hX.2 _ (by omega), j_char h1 h2 (by omega), hp_b_some, nI_1]
          by_cases q : T (tk_s T L p + i) = (hp_tx t).getD i 0
          · rw [if_pos q]
            exact ih (i + 1) m (by omega) (by omega) (fun j h => by
              by_cases hji : j = i
              · rw [hji]; exact q
              · exact hj j (by omega))
          · rw [if_neg q]
            exact ⟨0, rfl, Or.inl ⟨rfl, fun z => q (z.2.2 i (by omega))⟩⟩
      exact key (hp_tx t).length 0 hp_fu (by omega) (by unfold hp_fu; omega) (fun j h => absurd h (by omega))
    · rw [if_neg (fun z => hl ((nI_eq (by omega) (by omega)).mp z))]
      exact ⟨0, rfl, Or.inl ⟨rfl, fun z => hl z.2.1⟩⟩
  · rw [if_neg hk]
    exact ⟨0, rfl, Or.inl ⟨rfl, fun z => hk z.1⟩⟩
end WORDS
