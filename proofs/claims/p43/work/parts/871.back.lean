section PURE
variable {M : hp_M} {v : HV}
/-- undo, right behind a change: what was kept last comes back -/
theorem x1_backK {nx ln : Nat} {w : HV} (hnx : nx < 8) (h3 : M 12 4 1 = nI ((nx + 1) % 8)) (hl : ln < 8) (h4 : M 12 4 2 = nI (ln + 1)) (c : CRep (M (2 + nx)) w) (ho : w.out = 0 ∨ w.out = 1) : ∃ M', F_X1_takeBack 0 M = some (1, M') ∧ CRep (M' 0) w ∧ M' 12 4 1 = nI nx ∧ M' 12 4 2 = nI ln ∧ ∀ g j i : Nat, g ≠ 0 → ¬ (g = 12 ∧ j = 4) → M' g j i = M g j i := by
  have key : ∃ M', A_X1_takeBack_18 0 (nI nx) M = some (1, M') ∧ CRep (M' 0) w ∧ M' 12 4 1 = nI nx ∧ M' 12 4 2 = nI ln ∧ ∀ g j i : Nat, g ≠ 0 → ¬ (g = 12 ∧ j = 4) → M' g j i = M g j i := by
    unfold A_X1_takeBack_18
    rw [h4, if_neg (nI_ne0 (by omega) (by omega)), if_neg (show ¬ (8 : Int32) ≤ nI nx from nI_ge (b := 8) (by omega) (by decide)), if_neg (nI_in (by omega) (by decide)), if_neg (nI_in (by omega) (by decide)), nI_clamp (by omega)]
    obtain ⟨M1, e2, c1⟩ := x2_copy (g := 0) (b0 := 2 + nx) c ho (by omega)
    have h12 : M1 12 = M 12 := c1.2 12 (by omega)
    have k2 : hp_p M1 12 4 1 (nI nx) 12 4 2 = nI (ln + 1) := (hp_p_o _ _ _ _ _ (by omega)).trans (by rw [h12]; exact h4)
    rw [e2, hp_b_some, k2, nI_pred]
    refine ⟨_, rfl, ?_, ?_, hp_p_s _ _ _ _ _, fun g j i hg hj => ?_⟩
    · rw [hp_p_ne _ _ _ _ (by omega), hp_p_ne _ _ _ _ (by omega)]; exact c1.1
    · rw [hp_p_o (h := by omega), hp_p_s]
    · rw [hp_p_o (h := by omega), hp_p_o (h := by omega), c1.2 g hg]
  unfold F_X1_takeBack
  rw [h3]
  by_cases q : nx = 7
  · subst q
    rw [if_pos (by decide)]
    exact key
  · rw [show (nx + 1) % 8 = nx + 1 by omega, if_neg (nI_nle (by omega) (by omega)), nI_pred]
    exact key
end PURE
