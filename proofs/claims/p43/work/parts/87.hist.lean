/-! ===== the houses as they were: history and snapshots ===== -/
theorem CRep.same {h h' : Nat → Nat → Int32} {v : HV} (c : CRep h v) (e : ∀ j i : Nat, h' j i = h j i) : CRep h' v := CRep.cong c (fun _ _ => e _ _) (fun _ _ => e _ _) (fun _ _ => e _ _) (fun _ _ => e _ _) (fun _ _ => e _ _) (fun _ _ => e _ _) (e _ _) (fun _ _ => e _ _) (e _ _) (fun _ _ => e _ _) (fun _ _ => e _ _)
section HIST
variable {M : hp_M} {v : HV}
theorem x1_keep (c : CRep (M 0) v) (ho : v.out = 0 ∨ v.out = 1) {nx ln : Nat} (hn : M 12 4 1 = nI nx) (hnx : nx < 8) (hl : M 12 4 2 = nI ln) (hln : ln ≤ 8) : ∃ M', F_X1_keep 0 M = some ((), M') ∧ CRep (M' (2 + nx)) v ∧ M' 12 4 1 = nI ((nx + 1) % 8) ∧ M' 12 4 2 = nI (min (ln + 1) 8) ∧ ∀ g j i : Nat, g ≠ 2 + nx → ¬ (g = 12 ∧ j = 4) → M' g j i = M g j i := by
  unfold F_X1_keep
  rw [hn, if_neg (nI_pos (by omega)), if_neg (show ¬ (8 : Int32) ≤ nI nx from nI_ge (b := 8) hnx (by decide)), if_neg (nI_in hnx (by decide)), if_neg (nI_in hnx (by decide)), nI_clamp (by omega)]
  obtain ⟨M1, e1, c1⟩ := x2_copy (g := 2 + nx) c ho (by omega)
  have h12 : M1 12 = M 12 := c1.2 12 (by omega)
  have k1 : M1 12 4 1 = nI nx := by rw [h12]; exact hn
  have k2 : M1 12 4 2 = nI ln := by rw [h12]; exact hl
  have kk : ∀ x : Int32, hp_p M1 12 4 1 x 12 4 2 = nI ln := fun x => (hp_p_o _ _ _ _ _ (by omega)).trans k2
  have hmin : (if (8 : Int32) < nI (ln + 1) then (8 : Int32) else nI (ln + 1)) = nI (min (ln + 1) 8) := by
    by_cases q : ln + 1 ≤ 8
    · rw [if_neg (show ¬ (8 : Int32) < nI (ln + 1) from nI_nlt (a := 8) q (by decide)), Nat.min_eq_left q]
    · rw [if_pos (show (8 : Int32) < nI (ln + 1) from nI_lt (a := 8) (by omega) (by omega)), Nat.min_eq_right (by omega)]
      rfl
  rw [e1, hp_b_some, k1, nI_1, kk, kk, nI_1, hmin]
  by_cases q : nx + 1 < 8
  · rw [if_neg (show ¬ (8 : Int32) ≤ nI (nx + 1) from nI_ge (b := 8) q (by decide))]
    refine ⟨_, rfl, ?_, ?_, ?_, fun g j i hg hj => ?_⟩
    · rw [hp_p_ne _ _ _ _ (by omega), hp_p_ne _ _ _ _ (by omega)]; exact c1.1
    · rw [hp_p_o (h := by omega), hp_p_s, Nat.mod_eq_of_lt q]
    · rw [hp_p_s]
    · rw [hp_p_o (h := by omega), hp_p_o (h := by omega), c1.2 g hg]
  · rw [if_pos (show (8 : Int32) ≤ nI (nx + 1) from nI_le (a := 8) (by omega) (by omega))]
    refine ⟨_, rfl, ?_, ?_, ?_, fun g j i hg hj => ?_⟩
    · rw [hp_p_ne _ _ _ _ (by omega), hp_p_ne _ _ _ _ (by omega)]; exact c1.1
    · rw [hp_p_o (h := by omega), hp_p_s, show (nx + 1) % 8 = 0 by omega, nI_0]
    · rw [hp_p_s]
    · rw [hp_p_o (h := by omega), hp_p_o (h := by omega), c1.2 g hg]
end HIST
