/-! ===== the law, turn by turn ===== -/
def lw_ix (N : Nat) (x4 : Int32) : Prop := ¬ ((x4 + (1 : Int32)) < 0 ∨ N ≤ ((x4 + (1 : Int32))).toNatClampNeg) ∧ ¬ ((x4 + (2 : Int32)) < 0 ∨ N ≤ ((x4 + (2 : Int32))).toNatClampNeg) ∧ ¬ ((x4 + (3 : Int32)) < 0 ∨ N ≤ ((x4 + (3 : Int32))).toNatClampNeg) ∧ ¬ ((x4 + (4 : Int32)) < 0 ∨ N ≤ ((x4 + (4 : Int32))).toNatClampNeg) ∧ ¬ ((x4 + (5 : Int32)) < 0 ∨ N ≤ ((x4 + (5 : Int32))).toNatClampNeg)
theorem lw_ix_of {N m : Nat} (h : m + 6 ≤ N) (hN : N ≤ 3072) : lw_ix N (nI m) := by
  refine ⟨?_, ?_, ?_, ?_, ?_⟩
  · rw [show (1 : Int32) = nI 1 from rfl, nI_add]; exact nI_in (by omega) (by omega)
  · rw [show (2 : Int32) = nI 2 from rfl, nI_add]; exact nI_in (by omega) (by omega)
  · rw [show (3 : Int32) = nI 3 from rfl, nI_add]; exact nI_in (by omega) (by omega)
  · rw [show (4 : Int32) = nI 4 from rfl, nI_add]; exact nI_in (by omega) (by omega)
  · rw [show (5 : Int32) = nI 5 from rfl, nI_add]; exact nI_in (by omega) (by omega)
theorem lw_ex {N k : Nat} (hN : N ≤ 3072) (hk : k ≤ 4000) : (nI N - (6 : Int32) < nI k) ↔ N < k + 6 := by
  rcases Nat.lt_or_ge N 6 with h | h
  · have h0 : nI N - (6 : Int32) < 0 := by
      rcases (show N = 0 ∨ N = 1 ∨ N = 2 ∨ N = 3 ∨ N = 4 ∨ N = 5 by omega) with rfl | rfl | rfl | rfl | rfl | rfl <;> decide
    have h1 : 0 ≤ nI k := nI_pos' (by omega)
    exact ⟨fun _ => by omega, fun _ => by grind⟩
  · obtain ⟨m, rfl⟩ : ∃ m, N = m + 6 := ⟨N - 6, by omega⟩
    have e : nI (m + 6) - (6 : Int32) = nI m := by
      rw [← nI_add, show nI 6 = (6 : Int32) from rfl]; grind
    rw [e]
    exact (nI_ltI (by omega) (by omega)).trans ⟨fun _ => by omega, fun _ => by omega⟩
theorem it_ne {α : Type} {c : Prop} [Decidable c] {a b : Option α} (h1 : a ≠ none) (h2 : b ≠ none) : (if c then a else b) ≠ none := by
  by_cases h : c
  · rw [if_pos h]; exact h1
  · rw [if_neg h]; exact h2
section LAWC
variable {α : Type} {K : hp_M → Option α} {B : Nat} {M : hp_M}
theorem qE {X R : hp_M → Option (Int32 × hp_M)} (h : QE B X R M) (hK : ∀ M', hp_I (B + 1000) M' → K M' ≠ none) : hp_b (X M) (fun r1 M1 => (hp_b (R M1) (fun r2 M2 => (if r1 = r2 then (K M2) else none)))) ≠ none := by
  obtain ⟨r, M1, M2, h1, h2, h3⟩ := h
  rw [h1, hp_b_some, h2, hp_b_some, if_pos rfl]
  exact hK _ h3
theorem qB {kx0 : Nat} {X : hp_M → Option ((Int32 ⊕ Nat) × hp_M)} {R : hp_M → Option (Int32 × hp_M)} (h : (∃ r M1 M2, (r = 0 ∨ r = 1) ∧ X M = some (.inl r, M1) ∧ R (hp_p M1 13 10 0 r) = some (r, M2) ∧ hp_I (B + 1000) M2 ∧ M2 13 0 13 = 0 ∧ M2 13 10 0 = r) ∨ (∃ x M2, X M = some (.inr kx0, M) ∧ R M = some (x, M2) ∧ hp_I (B + 1000) M2 ∧ M2 13 0 13 = 1)) (hK : ∀ M', hp_I (B + 1000) M' → K M' ≠ none) : hp_b (hp_bc (X M) (fun r1 M1 => (if r1 = 0 then (some ((0 : Int32), (hp_p M1 13 10 0 (0 : Int32)))) else (some ((0 : Int32), (hp_p M1 13 10 0 (1 : Int32)))))) (fun kx M1 => (if kx = kx0 then (some ((1 : Int32), M1)) else none))) (fun r1 M1 => (hp_b (R M1) (fun r2 M2 => (hp_b (F_X9_thrown M2) (fun r3 M3 => (if r3 = r1 then (if r1 = 0 then (if r2 = 0 then (if (lg_cmp ((M3 13 10 0).toInt64) (0 : Int64)) = 0 then (K M3) else none) else (if (lg_cmp ((M3 13 10 0).toInt64) (1 : Int64)) = 0 then (K M3) else none)) else (K M3)) else none)))))) ≠ none := by
  have z0 : lg_cmp ((0 : Int32).toInt64) (0 : Int64) = 0 := by decide
  have z1 : lg_cmp ((1 : Int32).toInt64) (1 : Int64) = 0 := by decide
  unfold F_X9_thrown
  rcases h with ⟨r, M1, M2, h0, h1, h2, h3, h4, h5⟩ | ⟨x, M2, h1, h2, h3, h4⟩
  · rcases h0 with rfl | rfl
    · rw [h1, hp_bc_l, if_pos rfl, hp_b_some, h2, hp_b_some, hp_b_some, if_pos h4, if_pos rfl, if_pos rfl, h5, if_pos z0]
      exact hK _ h3
    · rw [h1, hp_bc_l, if_neg (by decide), hp_b_some, h2, hp_b_some, hp_b_some, if_pos h4, if_pos rfl, if_neg (by decide), h5, if_pos z1]
      exact hK _ h3
  · rw [h1, hp_bc_r, if_pos rfl, hp_b_some, h2, hp_b_some, hp_b_some, if_pos h4, if_neg (by decide)]
    exact hK _ h3
variable {N : Nat} {xs : Nat → Int32} {x4 : Int32}
theorem lw_0 (hx : lw_ix N x4) (hI : hp_I B M) (h7 : 701000 ≤ B) (h8 : B < 10000000) (hK : ∀ M', hp_I (B + 1000) M' → K M' ≠ none) : C_law_0 N xs x4 K M ≠ none := by
  obtain ⟨g1, g2, g3, g4, g5⟩ := hx
  obtain ⟨v, ps, nx, b, ty, rp, hJ⟩ := hI
  unfold C_law_0
  simp only [if_neg g1, if_neg g2, if_neg g3, if_neg g4, if_neg g5]
  exact qE (X := F_X8_append (xs ((x4 + (1 : Int32))).toNatClampNeg) (xs ((x4 + (2 : Int32))).toNatClampNeg) (xs ((x4 + (3 : Int32))).toNatClampNeg) (xs ((x4 + (4 : Int32))).toNatClampNeg) (xs ((x4 + (5 : Int32))).toNatClampNeg)) (R := F_X9_append (xs ((x4 + (1 : Int32))).toNatClampNeg) (xs ((x4 + (2 : Int32))).toNatClampNeg) (xs ((x4 + (3 : Int32))).toNatClampNeg) (xs ((x4 + (4 : Int32))).toNatClampNeg) (xs ((x4 + (5 : Int32))).toNatClampNeg)) (q_append hJ (xs ((x4 + (1 : Int32))).toNatClampNeg) (xs ((x4 + (2 : Int32))).toNatClampNeg) (xs ((x4 + (3 : Int32))).toNatClampNeg) (xs ((x4 + (4 : Int32))).toNatClampNeg) (xs ((x4 + (5 : Int32))).toNatClampNeg)) hK
theorem lw_1 (hx : lw_ix N x4) (hI : hp_I B M) (h7 : 701000 ≤ B) (h8 : B < 10000000) (hK : ∀ M', hp_I (B + 1000) M' → K M' ≠ none) : C_law_1 N xs x4 K M ≠ none := by
  obtain ⟨g1, g2, g3, g4, g5⟩ := hx
  obtain ⟨v, ps, nx, b, ty, rp, hJ⟩ := hI
  unfold C_law_1
  simp only [if_neg g1]
  exact qI (q_parse hJ h7 (xs ((x4 + (1 : Int32))).toNatClampNeg)) hK
theorem lw_2 (hx : lw_ix N x4) (hI : hp_I B M) (h7 : 701000 ≤ B) (h8 : B < 10000000) (hK : ∀ M', hp_I (B + 1000) M' → K M' ≠ none) : C_law_2 N xs x4 K M ≠ none := by
  obtain ⟨g1, g2, g3, g4, g5⟩ := hx
  obtain ⟨v, ps, nx, b, ty, rp, hJ⟩ := hI
  unfold C_law_2
  simp only [if_neg g1]
  exact qI (q_load hJ h7 (xs ((x4 + (1 : Int32))).toNatClampNeg)) hK
theorem lw_3 (hx : lw_ix N x4) (hI : hp_I B M) (h7 : 701000 ≤ B) (h8 : B < 10000000) (hK : ∀ M', hp_I (B + 1000) M' → K M' ≠ none) : C_law_3 N xs x4 K M ≠ none := by
  obtain ⟨g1, g2, g3, g4, g5⟩ := hx
  obtain ⟨v, ps, nx, b, ty, rp, hJ⟩ := hI
  unfold C_law_3
  simp only [if_neg g1]
  exact qI (q_size hJ (xs ((x4 + (1 : Int32))).toNatClampNeg)) hK
theorem lw_4 (hx : lw_ix N x4) (hI : hp_I B M) (h7 : 701000 ≤ B) (h8 : B < 10000000) (hK : ∀ M', hp_I (B + 1000) M' → K M' ≠ none) : C_law_4 N xs x4 K M ≠ none := by
  obtain ⟨g1, g2, g3, g4, g5⟩ := hx
  obtain ⟨v, ps, nx, b, ty, rp, hJ⟩ := hI
  unfold C_law_4
  simp only [if_neg g1]
  exact qI (q_setting hJ (xs ((x4 + (1 : Int32))).toNatClampNeg)) hK
theorem lw_5 (hx : lw_ix N x4) (hI : hp_I B M) (h7 : 701000 ≤ B) (h8 : B < 10000000) (hK : ∀ M', hp_I (B + 1000) M' → K M' ≠ none) : C_law_5 N xs x4 K M ≠ none := by
  obtain ⟨g1, g2, g3, g4, g5⟩ := hx
  obtain ⟨v, ps, nx, b, ty, rp, hJ⟩ := hI
  unfold C_law_5
  simp only [if_neg g1, if_neg g2]
  exact qFI (q_flat hJ (xs ((x4 + (1 : Int32))).toNatClampNeg) (xs ((x4 + (2 : Int32))).toNatClampNeg)) hK
theorem lw_6 (hx : lw_ix N x4) (hI : hp_I B M) (h7 : 701000 ≤ B) (h8 : B < 10000000) (hK : ∀ M', hp_I (B + 1000) M' → K M' ≠ none) : C_law_6 N xs x4 K M ≠ none := by
  obtain ⟨g1, g2, g3, g4, g5⟩ := hx
  obtain ⟨v, ps, nx, b, ty, rp, hJ⟩ := hI
  unfold C_law_6
  simp only [if_neg g1]
  exact qE (q_queued hJ (xs ((x4 + (1 : Int32))).toNatClampNeg)) hK
theorem lw_7 (hx : lw_ix N x4) (hI : hp_I B M) (h7 : 701000 ≤ B) (h8 : B < 10000000) (hK : ∀ M', hp_I (B + 1000) M' → K M' ≠ none) : C_law_7 N xs x4 K M ≠ none := by
  obtain ⟨g1, g2, g3, g4, g5⟩ := hx
  obtain ⟨v, ps, nx, b, ty, rp, hJ⟩ := hI
  unfold C_law_7
  simp only [if_neg g1, if_neg g2]
  exact qNI (q_message hJ (xs ((x4 + (1 : Int32))).toNatClampNeg) (xs ((x4 + (2 : Int32))).toNatClampNeg)) hK
theorem lw_8 (hx : lw_ix N x4) (hI : hp_I B M) (h7 : 701000 ≤ B) (h8 : B < 10000000) (hK : ∀ M', hp_I (B + 1000) M' → K M' ≠ none) : C_law_8 N xs x4 K M ≠ none := by
  obtain ⟨g1, g2, g3, g4, g5⟩ := hx
  obtain ⟨v, ps, nx, b, ty, rp, hJ⟩ := hI
  unfold C_law_8
  simp only [if_neg g1, if_neg g2]
  exact qF (q_heard hJ (xs ((x4 + (1 : Int32))).toNatClampNeg) (xs ((x4 + (2 : Int32))).toNatClampNeg)) hK
theorem lw_9 (hx : lw_ix N x4) (hI : hp_I B M) (h7 : 701000 ≤ B) (h8 : B < 10000000) (hK : ∀ M', hp_I (B + 1000) M' → K M' ≠ none) : C_law_9 N xs x4 K M ≠ none := by
  obtain ⟨g1, g2, g3, g4, g5⟩ := hx
  obtain ⟨v, ps, nx, b, ty, rp, hJ⟩ := hI
  unfold C_law_9
  simp only [if_neg g1]
  exact qF (q_knowing hJ (xs ((x4 + (1 : Int32))).toNatClampNeg)) hK
theorem lw_10 (hx : lw_ix N x4) (hI : hp_I B M) (h7 : 701000 ≤ B) (h8 : B < 10000000) (hK : ∀ M', hp_I (B + 1000) M' → K M' ≠ none) : C_law_10 N xs x4 K M ≠ none := by
  obtain ⟨g1, g2, g3, g4, g5⟩ := hx
  obtain ⟨v, ps, nx, b, ty, rp, hJ⟩ := hI
  unfold C_law_10
  simp only [if_neg g1]
  exact qF (q_listening hJ (xs ((x4 + (1 : Int32))).toNatClampNeg)) hK
theorem lw_11 (hx : lw_ix N x4) (hI : hp_I B M) (h7 : 701000 ≤ B) (h8 : B < 10000000) (hK : ∀ M', hp_I (B + 1000) M' → K M' ≠ none) : C_law_11 N xs x4 K M ≠ none := by
  obtain ⟨g1, g2, g3, g4, g5⟩ := hx
  obtain ⟨v, ps, nx, b, ty, rp, hJ⟩ := hI
  unfold C_law_11
  exact qE (q_mostKnown hJ) hK
theorem lw_12 (hx : lw_ix N x4) (hI : hp_I B M) (h7 : 701000 ≤ B) (h8 : B < 10000000) (hK : ∀ M', hp_I (B + 1000) M' → K M' ≠ none) : C_law_12 N xs x4 K M ≠ none := by
  obtain ⟨g1, g2, g3, g4, g5⟩ := hx
  obtain ⟨v, ps, nx, b, ty, rp, hJ⟩ := hI
  unfold C_law_12
  simp only [if_neg g1]
  exact qI (q_cost hJ (xs ((x4 + (1 : Int32))).toNatClampNeg)) hK
theorem lw_13 (hx : lw_ix N x4) (hI : hp_I B M) (h7 : 701000 ≤ B) (h8 : B < 10000000) (hK : ∀ M', hp_I (B + 1000) M' → K M' ≠ none) : C_law_13 N xs x4 K M ≠ none := by
  obtain ⟨g1, g2, g3, g4, g5⟩ := hx
  obtain ⟨v, ps, nx, b, ty, rp, hJ⟩ := hI
  unfold C_law_13
  simp only [if_neg g1, if_neg g2]
  exact qFI (q_why hJ (xs ((x4 + (1 : Int32))).toNatClampNeg) (xs ((x4 + (2 : Int32))).toNatClampNeg)) hK
theorem lw_14 (hx : lw_ix N x4) (hI : hp_I B M) (h7 : 701000 ≤ B) (h8 : B < 10000000) (hK : ∀ M', hp_I (B + 1000) M' → K M' ≠ none) : C_law_14 N xs x4 K M ≠ none := by
  obtain ⟨g1, g2, g3, g4, g5⟩ := hx
  obtain ⟨v, ps, nx, b, ty, rp, hJ⟩ := hI
  unfold C_law_14
  simp only [if_neg g1]
  exact qF (q_speaksIn hJ (xs ((x4 + (1 : Int32))).toNatClampNeg)) hK
theorem lw_15 (hx : lw_ix N x4) (hI : hp_I B M) (h7 : 701000 ≤ B) (h8 : B < 10000000) (hK : ∀ M', hp_I (B + 1000) M' → K M' ≠ none) : C_law_15 N xs x4 K M ≠ none := by
  obtain ⟨g1, g2, g3, g4, g5⟩ := hx
  obtain ⟨v, ps, nx, b, ty, rp, hJ⟩ := hI
  unfold C_law_15
  exact qE (q_freeIn hJ) hK
theorem lw_16 (hx : lw_ix N x4) (hI : hp_I B M) (h7 : 701000 ≤ B) (h8 : B < 10000000) (hK : ∀ M', hp_I (B + 1000) M' → K M' ≠ none) : C_law_16 N xs x4 K M ≠ none := by
  obtain ⟨g1, g2, g3, g4, g5⟩ := hx
  obtain ⟨v, ps, nx, b, ty, rp, hJ⟩ := hI
  unfold C_law_16
  simp only [if_neg g1, if_neg g2]
  exact qFI (q_flatIn hJ (xs ((x4 + (1 : Int32))).toNatClampNeg) (xs ((x4 + (2 : Int32))).toNatClampNeg)) hK
theorem lw_17 (hx : lw_ix N x4) (hI : hp_I B M) (h7 : 701000 ≤ B) (h8 : B < 10000000) (hK : ∀ M', hp_I (B + 1000) M' → K M' ≠ none) : C_law_17 N xs x4 K M ≠ none := by
  obtain ⟨g1, g2, g3, g4, g5⟩ := hx
  obtain ⟨v, ps, nx, b, ty, rp, hJ⟩ := hI
  unfold C_law_17
  simp only [if_neg g1, if_neg g2]
  exact qFI (q_debtIn hJ (xs ((x4 + (1 : Int32))).toNatClampNeg) (xs ((x4 + (2 : Int32))).toNatClampNeg)) hK
theorem lw_18 (hx : lw_ix N x4) (hI : hp_I B M) (h7 : 701000 ≤ B) (h8 : B < 10000000) (hK : ∀ M', hp_I (B + 1000) M' → K M' ≠ none) : C_law_18 N xs x4 K M ≠ none := by
  obtain ⟨g1, g2, g3, g4, g5⟩ := hx
  obtain ⟨v, ps, nx, b, ty, rp, hJ⟩ := hI
  unfold C_law_18
  simp only [if_neg g1]
  exact qF (q_waitIf hJ (xs ((x4 + (1 : Int32))).toNatClampNeg)) hK
theorem lw_19 (hx : lw_ix N x4) (hI : hp_I B M) (h7 : 701000 ≤ B) (h8 : B < 10000000) (hK : ∀ M', hp_I (B + 1000) M' → K M' ≠ none) : C_law_19 N xs x4 K M ≠ none := by
  obtain ⟨g1, g2, g3, g4, g5⟩ := hx
  obtain ⟨v, ps, nx, b, ty, rp, hJ⟩ := hI
  unfold C_law_19
  exact qE (q_bestLimit hJ) hK
theorem lw_20 (hx : lw_ix N x4) (hI : hp_I B M) (h7 : 701000 ≤ B) (h8 : B < 10000000) (hK : ∀ M', hp_I (B + 1000) M' → K M' ≠ none) : C_law_20 N xs x4 K M ≠ none := by
  obtain ⟨g1, g2, g3, g4, g5⟩ := hx
  obtain ⟨v, ps, nx, b, ty, rp, hJ⟩ := hI
  unfold C_law_20
  simp only [if_neg g1, if_neg g2]
  exact qFI (q_learnsIn hJ (xs ((x4 + (1 : Int32))).toNatClampNeg) (xs ((x4 + (2 : Int32))).toNatClampNeg)) hK
theorem lw_21 (hx : lw_ix N x4) (hI : hp_I B M) (h7 : 701000 ≤ B) (h8 : B < 10000000) (hK : ∀ M', hp_I (B + 1000) M' → K M' ≠ none) : C_law_21 N xs x4 K M ≠ none := by
  obtain ⟨g1, g2, g3, g4, g5⟩ := hx
  obtain ⟨v, ps, nx, b, ty, rp, hJ⟩ := hI
  unfold C_law_21
  simp only [if_neg g1]
  exact qF (q_ifRung hJ (xs ((x4 + (1 : Int32))).toNatClampNeg)) hK
theorem lw_22 (hx : lw_ix N x4) (hI : hp_I B M) (h7 : 701000 ≤ B) (h8 : B < 10000000) (hK : ∀ M', hp_I (B + 1000) M' → K M' ≠ none) : C_law_22 N xs x4 K M ≠ none := by
  obtain ⟨g1, g2, g3, g4, g5⟩ := hx
  obtain ⟨v, ps, nx, b, ty, rp, hJ⟩ := hI
  unfold C_law_22
  simp only [if_neg g1]
  exact qI (q_account hJ (xs ((x4 + (1 : Int32))).toNatClampNeg)) hK
theorem lw_23 (hx : lw_ix N x4) (hI : hp_I B M) (h7 : 701000 ≤ B) (h8 : B < 10000000) (hK : ∀ M', hp_I (B + 1000) M' → K M' ≠ none) : C_law_23 N xs x4 K M ≠ none := by
  obtain ⟨g1, g2, g3, g4, g5⟩ := hx
  obtain ⟨v, ps, nx, b, ty, rp, hJ⟩ := hI
  unfold C_law_23
  obtain ⟨r, e1, e2, e3⟩ := q_mean hJ h8
  rw [e1, hp_b_some, e2, hp_b_some, if_pos (fp_cmp e3)]
  exact hK _ (hJ.same (hp_Sm.t M 0)).i
theorem lw_24 (hx : lw_ix N x4) (hI : hp_I B M) (h7 : 701000 ≤ B) (h8 : B < 10000000) (hK : ∀ M', hp_I (B + 1000) M' → K M' ≠ none) : C_law_24 N xs x4 K M ≠ none := by
  obtain ⟨g1, g2, g3, g4, g5⟩ := hx
  obtain ⟨v, ps, nx, b, ty, rp, hJ⟩ := hI
  unfold C_law_24
  obtain ⟨r, e1, e2, e3⟩ := q_busy hJ h8
  rw [e1, hp_b_some, if_pos (fp_f2d e3), e2, hp_b_some, if_pos (fp_f2d e3), if_pos (fp_cmp (fp_f2d e3))]
  exact hK _ (hJ.same (hp_Sm.t M 0)).i
theorem lw_25 (hx : lw_ix N x4) (hI : hp_I B M) (h7 : 701000 ≤ B) (h8 : B < 10000000) (hK : ∀ M', hp_I (B + 1000) M' → K M' ≠ none) : C_law_25 N xs x4 K M ≠ none := by
  obtain ⟨g1, g2, g3, g4, g5⟩ := hx
  obtain ⟨v, ps, nx, b, ty, rp, hJ⟩ := hI
  unfold C_law_25
  exact qE (q_writeHouse hJ) hK
theorem lw_26 (hx : lw_ix N x4) (hI : hp_I B M) (h7 : 701000 ≤ B) (h8 : B < 10000000) (hK : ∀ M', hp_I (B + 1000) M' → K M' ≠ none) : C_law_26 N xs x4 K M ≠ none := by
  obtain ⟨g1, g2, g3, g4, g5⟩ := hx
  obtain ⟨v, ps, nx, b, ty, rp, hJ⟩ := hI
  unfold C_law_26
  exact qE (q_writeSlate hJ h8) hK
theorem lw_27 (hx : lw_ix N x4) (hI : hp_I B M) (h7 : 701000 ≤ B) (h8 : B < 10000000) (hK : ∀ M', hp_I (B + 1000) M' → K M' ≠ none) : C_law_27 N xs x4 K M ≠ none := by
  obtain ⟨g1, g2, g3, g4, g5⟩ := hx
  obtain ⟨v, ps, nx, b, ty, rp, hJ⟩ := hI
  unfold C_law_27
  simp only [if_neg g1]
  exact qE (q_reportAt hJ (xs ((x4 + (1 : Int32))).toNatClampNeg)) hK
theorem lw_28 (hx : lw_ix N x4) (hI : hp_I B M) (h7 : 701000 ≤ B) (h8 : B < 10000000) (hK : ∀ M', hp_I (B + 1000) M' → K M' ≠ none) : C_law_28 N xs x4 K M ≠ none := by
  obtain ⟨g1, g2, g3, g4, g5⟩ := hx
  obtain ⟨v, ps, nx, b, ty, rp, hJ⟩ := hI
  unfold C_law_28
  simp only [if_neg g1, if_neg g2]
  exact qFI (q_want hJ (xs ((x4 + (1 : Int32))).toNatClampNeg) (xs ((x4 + (2 : Int32))).toNatClampNeg)) hK
theorem lw_29 (hx : lw_ix N x4) (hI : hp_I B M) (h7 : 701000 ≤ B) (h8 : B < 10000000) (hK : ∀ M', hp_I (B + 1000) M' → K M' ≠ none) : C_law_29 N xs x4 K M ≠ none := by
  obtain ⟨g1, g2, g3, g4, g5⟩ := hx
  obtain ⟨v, ps, nx, b, ty, rp, hJ⟩ := hI
  unfold C_law_29
  simp only [if_neg g1]
  exact qF (q_drop hJ (xs ((x4 + (1 : Int32))).toNatClampNeg)) hK
theorem lw_30 (hx : lw_ix N x4) (hI : hp_I B M) (h7 : 701000 ≤ B) (h8 : B < 10000000) (hK : ∀ M', hp_I (B + 1000) M' → K M' ≠ none) : C_law_30 N xs x4 K M ≠ none := by
  obtain ⟨g1, g2, g3, g4, g5⟩ := hx
  obtain ⟨v, ps, nx, b, ty, rp, hJ⟩ := hI
  unfold C_law_30
  simp only [if_neg g1]
  exact qF (q_hang hJ (xs ((x4 + (1 : Int32))).toNatClampNeg)) hK
theorem lw_31 (hx : lw_ix N x4) (hI : hp_I B M) (h7 : 701000 ≤ B) (h8 : B < 10000000) (hK : ∀ M', hp_I (B + 1000) M' → K M' ≠ none) : C_law_31 N xs x4 K M ≠ none := by
  obtain ⟨g1, g2, g3, g4, g5⟩ := hx
  obtain ⟨v, ps, nx, b, ty, rp, hJ⟩ := hI
  unfold C_law_31
  simp only [if_neg g1, if_neg g2]
  exact qFI (q_ring hJ (xs ((x4 + (1 : Int32))).toNatClampNeg) (xs ((x4 + (2 : Int32))).toNatClampNeg)) hK
theorem lw_32 (hx : lw_ix N x4) (hI : hp_I B M) (h7 : 701000 ≤ B) (h8 : B < 10000000) (hK : ∀ M', hp_I (B + 1000) M' → K M' ≠ none) : C_law_32 N xs x4 K M ≠ none := by
  obtain ⟨g1, g2, g3, g4, g5⟩ := hx
  obtain ⟨v, ps, nx, b, ty, rp, hJ⟩ := hI
  unfold C_law_32
  simp only [if_neg g1, if_neg g2]
  exact qFI (q_pay hJ (xs ((x4 + (1 : Int32))).toNatClampNeg) (xs ((x4 + (2 : Int32))).toNatClampNeg)) hK
theorem lw_33 (hx : lw_ix N x4) (hI : hp_I B M) (h7 : 701000 ≤ B) (h8 : B < 10000000) (hK : ∀ M', hp_I (B + 1000) M' → K M' ≠ none) : C_law_33 N xs x4 K M ≠ none := by
  obtain ⟨g1, g2, g3, g4, g5⟩ := hx
  obtain ⟨v, ps, nx, b, ty, rp, hJ⟩ := hI
  unfold C_law_33
  by_cases q : (xs ((x4 + (2 : Int32))).toNatClampNeg) = 0
  · simp only [if_neg g1, if_neg g2, if_pos q]
    exact qB (q_setCurious hJ (xs ((x4 + (1 : Int32))).toNatClampNeg) 0) hK
  · simp only [if_neg g1, if_neg g2, if_neg q]
    exact qB (q_setCurious hJ (xs ((x4 + (1 : Int32))).toNatClampNeg) 1) hK
theorem lw_34 (hx : lw_ix N x4) (hI : hp_I B M) (h7 : 701000 ≤ B) (h8 : B < 10000000) (hK : ∀ M', hp_I (B + 1000) M' → K M' ≠ none) : C_law_34 N xs x4 K M ≠ none := by
  obtain ⟨g1, g2, g3, g4, g5⟩ := hx
  obtain ⟨v, ps, nx, b, ty, rp, hJ⟩ := hI
  unfold C_law_34
  simp only [if_neg g1, if_neg g2]
  exact qI (q_set hJ (xs ((x4 + (1 : Int32))).toNatClampNeg) (xs ((x4 + (2 : Int32))).toNatClampNeg)) hK
theorem lw_35 (hx : lw_ix N x4) (hI : hp_I B M) (h7 : 701000 ≤ B) (h8 : B < 10000000) (hK : ∀ M', hp_I (B + 1000) M' → K M' ≠ none) : C_law_35 N xs x4 K M ≠ none := by
  obtain ⟨g1, g2, g3, g4, g5⟩ := hx
  obtain ⟨v, ps, nx, b, ty, rp, hJ⟩ := hI
  unfold C_law_35
  simp only [if_neg g1]
  exact qI (q_pass hJ (xs ((x4 + (1 : Int32))).toNatClampNeg)) hK
theorem lw_36 (hx : lw_ix N x4) (hI : hp_I B M) (h7 : 701000 ≤ B) (h8 : B < 10000000) (hK : ∀ M', hp_I (B + 1000) M' → K M' ≠ none) : C_law_36 N xs x4 K M ≠ none := by
  obtain ⟨g1, g2, g3, g4, g5⟩ := hx
  obtain ⟨v, ps, nx, b, ty, rp, hJ⟩ := hI
  unfold C_law_36
  exact qE (X := F_X8_undo) (R := F_X9_undo) (q_undo hJ) hK
theorem lw_37 (hx : lw_ix N x4) (hI : hp_I B M) (h7 : 701000 ≤ B) (h8 : B < 10000000) (hK : ∀ M', hp_I (B + 1000) M' → K M' ≠ none) : C_law_37 N xs x4 K M ≠ none := by
  obtain ⟨g1, g2, g3, g4, g5⟩ := hx
  obtain ⟨v, ps, nx, b, ty, rp, hJ⟩ := hI
  unfold C_law_37
  simp only [if_neg g1]
  exact qB (q_save hJ (xs ((x4 + (1 : Int32))).toNatClampNeg)) hK
theorem lw_38 (hx : lw_ix N x4) (hI : hp_I B M) (h7 : 701000 ≤ B) (h8 : B < 10000000) (hK : ∀ M', hp_I (B + 1000) M' → K M' ≠ none) : C_law_38 N xs x4 K M ≠ none := by
  obtain ⟨g1, g2, g3, g4, g5⟩ := hx
  obtain ⟨v, ps, nx, b, ty, rp, hJ⟩ := hI
  unfold C_law_38
  simp only [if_neg g1]
  exact qIN (q_restore hJ (xs ((x4 + (1 : Int32))).toNatClampNeg)) hK
theorem lw_39 (hx : lw_ix N x4) (hI : hp_I B M) (h7 : 701000 ≤ B) (h8 : B < 10000000) (hK : ∀ M', hp_I (B + 1000) M' → K M' ≠ none) : C_law_39 N xs x4 K M ≠ none := by
  obtain ⟨g1, g2, g3, g4, g5⟩ := hx
  obtain ⟨v, ps, nx, b, ty, rp, hJ⟩ := hI
  unfold C_law_39
  obtain ⟨r, M1, M2, e1, e2, e3⟩ := q_checksum hJ
  rw [e1, hp_b_some, e2, hp_b_some, if_pos (lg_cmp_s r)]
  exact hK _ e3
theorem lw_B (hx : lw_ix N x4) (hI : hp_I B M) (h7 : 701000 ≤ B) (h8 : B < 10000000) (hK : ∀ M', hp_I (B + 1000) M' → K M' ≠ none) : B_law N xs x4 K M ≠ none := by
  unfold B_law
  refine it_ne (lw_0 hx hI h7 h8 hK) ?_
  refine it_ne (lw_1 hx hI h7 h8 hK) ?_
  refine it_ne (lw_2 hx hI h7 h8 hK) ?_
  refine it_ne (lw_3 hx hI h7 h8 hK) ?_
  refine it_ne (lw_4 hx hI h7 h8 hK) ?_
  refine it_ne (lw_5 hx hI h7 h8 hK) ?_
  refine it_ne (lw_6 hx hI h7 h8 hK) ?_
  refine it_ne (lw_7 hx hI h7 h8 hK) ?_
  refine it_ne (lw_8 hx hI h7 h8 hK) ?_
  refine it_ne (lw_9 hx hI h7 h8 hK) ?_
  refine it_ne (lw_10 hx hI h7 h8 hK) ?_
  refine it_ne (lw_11 hx hI h7 h8 hK) ?_
  refine it_ne (lw_12 hx hI h7 h8 hK) ?_
  refine it_ne (lw_13 hx hI h7 h8 hK) ?_
  refine it_ne (lw_14 hx hI h7 h8 hK) ?_
  refine it_ne (lw_15 hx hI h7 h8 hK) ?_
  refine it_ne (lw_16 hx hI h7 h8 hK) ?_
  refine it_ne (lw_17 hx hI h7 h8 hK) ?_
  refine it_ne (lw_18 hx hI h7 h8 hK) ?_
  refine it_ne (lw_19 hx hI h7 h8 hK) ?_
  refine it_ne (lw_20 hx hI h7 h8 hK) ?_
  refine it_ne (lw_21 hx hI h7 h8 hK) ?_
  refine it_ne (lw_22 hx hI h7 h8 hK) ?_
  refine it_ne (lw_23 hx hI h7 h8 hK) ?_
  refine it_ne (lw_24 hx hI h7 h8 hK) ?_
  refine it_ne (lw_25 hx hI h7 h8 hK) ?_
  refine it_ne (lw_26 hx hI h7 h8 hK) ?_
  refine it_ne (lw_27 hx hI h7 h8 hK) ?_
  refine it_ne (lw_28 hx hI h7 h8 hK) ?_
  refine it_ne (lw_29 hx hI h7 h8 hK) ?_
  refine it_ne (lw_30 hx hI h7 h8 hK) ?_
  refine it_ne (lw_31 hx hI h7 h8 hK) ?_
  refine it_ne (lw_32 hx hI h7 h8 hK) ?_
  refine it_ne (lw_33 hx hI h7 h8 hK) ?_
  refine it_ne (lw_34 hx hI h7 h8 hK) ?_
  refine it_ne (lw_35 hx hI h7 h8 hK) ?_
  refine it_ne (lw_36 hx hI h7 h8 hK) ?_
  refine it_ne (lw_37 hx hI h7 h8 hK) ?_
  refine it_ne (lw_38 hx hI h7 h8 hK) ?_
  refine it_ne (lw_39 hx hI h7 h8 hK) ?_
  obtain ⟨v, ps, nx, b, ty, rp, hJ⟩ := hI
  exact hK _ hJ.i
end LAWC
theorem lw_all {N : Nat} {xs : Nat → Int32} (hN : N ≤ 3072) : ∀ (n i B : Nat) (M : hp_M), hp_I B M → 701000 ≤ B → B + 1000 * n < 10000000 → N < 6 * (i + n + 1) → 6 * i ≤ 3072 → L_law (n + 1) N xs (nI (6 * i)) M ≠ none := by
  intro n
  induction n with
  | zero =>
    intro i B M hI h7 h8 hn hi
    rw [L_law.eq_2, if_pos ((lw_ex hN (by omega)).mpr (by omega))]
    exact fun h => by cases h
  | succ n ih =>
    intro i B M hI h7 h8 hn hi
    rw [L_law.eq_2]
    by_cases q : N < 6 * i + 6
    · rw [if_pos ((lw_ex hN (by omega)).mpr q)]
      exact fun h => by cases h
    · rw [if_neg (fun z => q ((lw_ex hN (by omega)).mp z)), if_neg (nI_in (by omega) (by omega))]
      refine lw_B (lw_ix_of (by omega) hN) hI h7 (by omega) (fun M' hM => ?_)
      rw [show (6 : Int32) = nI 6 from rfl, nI_add, show 6 * i + 6 = 6 * (i + 1) by omega]
      exact ih (i + 1) (B + 1000) M' hM (by omega) (by omega) (by omega) (by omega)
/-! the start -/
theorem hp_z13_o {M : hp_M} {k g j i : Nat} (h : ¬ (g = 13 ∧ k ≤ j)) : hp_z13 M k g j i = M g j i := if_neg h
theorem hp_z13_s {M : hp_M} {k j i : Nat} (h : k ≤ j) : hp_z13 M k 13 j i = 0 := if_pos ⟨rfl, h⟩
/-- the law ends, and nothing differs -/
theorem hp_law_ok {L : Nat} {xs : Nat → Int32} (hL : L ≤ 3072) : hp_law L xs ≠ none := by
  obtain ⟨d, hd, hg⟩ := tk_bt_ok (n := 0) (by decide)
  obtain ⟨Mx, ⟨M1, t1, t2⟩, w3, w4, w5, w6, w7⟩ := x_lay (M := hp_M0) (n := 0) (by decide) hd
  obtain ⟨M2, p1, y3, y4, y5, p2⟩ := r_lay (M := hp_z13 Mx 0) (n := 0) (a0 := 0) nI_0.symm (by decide) hd
  have h8 : hp_G8 = some ((), Mx) := by
    unfold hp_G8 G_X8_init
    rw [show F_X5_takeText 20 hp_M0 = _ from t1, hp_b_some, t2, hp_b_some]
  have h9 : hp_G9 Mx = some ((), hp_p M2 13 0 13 0) := by
    unfold hp_G9 G_X9_init
    rw [p1, hp_b_some]
  unfold hp_law
  rw [h8, hp_b_some, h9, hp_b_some]
  have k : ∀ g j i : Nat, g ≠ 13 → hp_z13 (hp_p M2 13 0 13 0) 10 g j i = Mx g j i := fun g j i hg => by
    rw [hp_z13_o (by omega), hp_p_o (h := by omega), p2 g j i (by omega), hp_z13_o (by omega)]
  have r : ∀ j i : Nat, j < 10 → ¬ (j = 0 ∧ i = 13) → hp_z13 (hp_p M2 13 0 13 0) 10 13 j i = M2 13 j i := fun j i hj hi => by
    rw [hp_z13_o (by omega), hp_p_o (h := by omega)]
  have z : ∀ i : Nat, i = 9 ∨ i = 12 → M2 13 0 i = 0 := fun i hi => by
    rw [p2 13 0 i (by omega), hp_z13_s (Nat.zero_le _)]
  have m0 : ∀ j i : Nat, ¬ (j = 1 ∧ i = 5000) → hp_z13 (hp_p M2 13 0 13 0) 10 14 j i = 0 := fun j i hi => by
    rw [k _ _ _ (by decide), w7 _ _ _ (by decide) (by decide) (by omega)]
    unfold hp_M0
    rw [if_neg (by decide), if_neg (by decide), if_neg (by omega)]
  have hI : hp_I 701000 (hp_z13 (hp_p M2 13 0 13 0) 10) := by
    refine ⟨d, [], 0, 0, 0, [], w3.same (fun j i => k _ _ _ (by decide)), y3.row (fun i _ => r _ _ (by decide) (by omega)), hg, hI_nil ((k _ _ _ (by decide)).trans w5) ((k _ _ _ (by decide)).trans w6) ((r _ _ (by decide) (by omega)).trans y4), sI_0 ((k _ _ _ (by decide)).trans w4) ((r _ _ (by decide) (by omega)).trans y5), ⟨by decide, ?_, ?_, fun i hi => absurd hi (by omega)⟩, fun x hx => by simp at hx, by decide, ⟨m0 _ _ (by omega), (m0 _ _ (by omega)).trans nI_0.symm, ⟨16, ?_, by decide, by decide, fun i hi => by rw [m0 _ _ (by omega)]; decide⟩, fun i x hx => by simp at hx⟩, ⟨?_, fun i x hx => by simp at hx⟩⟩
    · rw [k _ _ _ (by decide), w7 _ _ _ (by decide) (by decide) (by omega)]; rfl
    · rw [r _ _ (by decide) (by omega), z 9 (Or.inl rfl)]; rfl
    · rw [k _ _ _ (by decide), w7 _ _ _ (by decide) (by decide) (by omega)]; rfl
    · rw [r _ _ (by decide) (by omega), z 12 (Or.inr rfl)]; rfl
  exact lw_all hL 512 0 701000 _ hI (by decide) (by decide) (by omega) (by decide)
