/-! ===== the reference: rows copied ===== -/
theorem r_begins (M : hp_M) : ∃ M', F_X9_begins M = some ((), M') ∧ (∀ i : Nat, i < 242 → M' 13 2 i = M 13 1 i) ∧ ∀ g j : Nat, ¬ (g = 13 ∧ j = 2) → M' g j = M g j := by
  unfold F_X9_begins
  obtain ⟨n', M', e, h1, h2⟩ := hp_runs (T := fun n i M1 => L_X9_begins_2 n (nI i) M1) (I := fun i M1 => (∀ k : Nat, k < i → M1 13 2 k = M 13 1 k) ∧ ∀ g j : Nat, ¬ (g = 13 ∧ j = 2) → M1 g j = M g j) (N := 242) (fun n i M1 hi hM => by
    show ∃ M2, L_X9_begins_2 (n + 1) (nI i) M1 = L_X9_begins_2 n (nI (i + 1)) M2 ∧ _
    have e1 : M1 13 1 i = M 13 1 i := by rw [hM.2 13 1 (by omega)]
    rw [L_X9_begins_2.eq_2, if_neg (show ¬ (242 : Int32) ≤ nI i from nI_ge (a := i) (b := 242) hi (by decide)), if_neg (nI_in hi (by decide)), if_neg (nI_in hi (by decide)), nI_clamp (by omega), nI_1, e1]
    refine ⟨_, rfl, fun k hk => ?_, fun g j hg => ?_⟩
    · rw [hp_p_at]
      by_cases q : k = i
      · rw [if_pos ⟨rfl, rfl, q⟩, q]
      · rw [if_neg (fun z => q z.2.2)]; exact hM.1 k (by omega)
    · rw [← hM.2 g j hg]
      funext i'
      rw [hp_p_at, if_neg (fun z => hg ⟨z.1, z.2.1⟩)]) hp_fu M (by unfold hp_fu; omega) ⟨fun k hk => absurd hk (by omega), fun _ _ _ => rfl⟩
  refine ⟨M', e.trans ?_, h1, h2⟩
  show L_X9_begins_2 (n' + 1) (nI 242) M' = _
  rw [L_X9_begins_2.eq_2, if_pos (show (242 : Int32) ≤ nI 242 by decide)]
