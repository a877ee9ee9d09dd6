/-! ===== snapshots; the buffer ===== -/
theorem i32_sh24 (a : Int32) : ((a.toUInt32 >>> ((24 : Int32).toUInt32 &&& Int32.toUInt32 31)).toInt32) &&& 255 = (a >>> ((24 : Int32) &&& 31)) &&& 255 := by
  apply Int32.toBitVec_inj.mp
  show (a.toBitVec >>> 24) &&& 255#32 = (a.toBitVec.sshiftRight 24) &&& 255#32
  ext i hi
  simp only [BitVec.getElem_and, BitVec.getElem_ushiftRight, BitVec.getElem_sshiftRight]
  by_cases h : i < 8
  · rw [dif_pos (by omega)]
    rw [BitVec.getLsbD_eq_getElem (by omega)]
  · have h2 : (255#32)[i] = false := by
      have : ∀ j : Nat, j < 32 → ¬ j < 8 → (255#32).getLsbD j = false := by decide
      exact (BitVec.getLsbD_eq_getElem hi).symm.trans (this i hi h)
    rw [h2, Bool.and_false, Bool.and_false]
theorem i32_sh16 (a : Int32) : ((a.toUInt32 >>> ((16 : Int32).toUInt32 &&& Int32.toUInt32 31)).toInt32) &&& 255 = (a >>> ((16 : Int32) &&& 31)) &&& 255 := by
  apply Int32.toBitVec_inj.mp
  show (a.toBitVec >>> 16) &&& 255#32 = (a.toBitVec.sshiftRight 16) &&& 255#32
  ext i hi
  simp only [BitVec.getElem_and, BitVec.getElem_ushiftRight, BitVec.getElem_sshiftRight]
  by_cases h : i < 8
  · rw [dif_pos (by omega)]
    rw [BitVec.getLsbD_eq_getElem (by omega)]
  · have h2 : (255#32)[i] = false := by
      have : ∀ j : Nat, j < 32 → ¬ j < 8 → (255#32).getLsbD j = false := by decide
      exact (BitVec.getLsbD_eq_getElem hi).symm.trans (this i hi h)
    rw [h2, Bool.and_false, Bool.and_false]
theorem i32_sh8 (a : Int32) : ((a.toUInt32 >>> ((8 : Int32).toUInt32 &&& Int32.toUInt32 31)).toInt32) &&& 255 = (a >>> ((8 : Int32) &&& 31)) &&& 255 := by
  apply Int32.toBitVec_inj.mp
  show (a.toBitVec >>> 8) &&& 255#32 = (a.toBitVec.sshiftRight 8) &&& 255#32
  ext i hi
  simp only [BitVec.getElem_and, BitVec.getElem_ushiftRight, BitVec.getElem_sshiftRight]
  by_cases h : i < 8
  · rw [dif_pos (by omega)]
    rw [BitVec.getLsbD_eq_getElem (by omega)]
  · have h2 : (255#32)[i] = false := by
      have : ∀ j : Nat, j < 32 → ¬ j < 8 → (255#32).getLsbD j = false := by decide
      exact (BitVec.getLsbD_eq_getElem hi).symm.trans (this i hi h)
    rw [h2, Bool.and_false, Bool.and_false]
theorem i32_sh0 (a : Int32) : ((a.toUInt32 >>> ((0 : Int32).toUInt32 &&& Int32.toUInt32 31)).toInt32) &&& 255 = (a >>> ((0 : Int32) &&& 31)) &&& 255 := by
  apply Int32.toBitVec_inj.mp
  show (a.toBitVec >>> 0) &&& 255#32 = (a.toBitVec.sshiftRight 0) &&& 255#32
  ext i hi
  simp only [BitVec.getElem_and, BitVec.getElem_ushiftRight, BitVec.getElem_sshiftRight]
  by_cases h : i < 8
  · rw [dif_pos (by omega)]
    rw [BitVec.getLsbD_eq_getElem (by omega)]
  · have h2 : (255#32)[i] = false := by
      have : ∀ j : Nat, j < 32 → ¬ j < 8 → (255#32).getLsbD j = false := by decide
      exact (BitVec.getLsbD_eq_getElem hi).symm.trans (this i hi h)
    rw [h2, Bool.and_false, Bool.and_false]
/-- a byte of a number that is appended -/
def hp_by (a : Int32) (k : Nat) : Int32 := if k = 0 then (a >>> ((24 : Int32) &&& 31)) &&& 255 else if k = 1 then (a >>> ((16 : Int32) &&& 31)) &&& 255 else if k = 2 then (a >>> ((8 : Int32) &&& 31)) &&& 255 else (a >>> ((0 : Int32) &&& 31)) &&& 255
section BUF
variable {M : hp_M}
theorem x8_four {a : Int32} {ty : Nat} (h : M 12 0 8 = nI ty) (ht : ty + 4 ≤ 700) : ∃ M', F_X8_appendFourBytes a M = some ((), M') ∧ M' 12 0 8 = nI (ty + 4) ∧ (∀ k : Nat, k < 4 → M' 12 3 (ty + k) = hp_by a k) ∧ (∀ i : Nat, i < ty → M' 12 3 i = M 12 3 i) ∧ ∀ g j i : Nat, ¬ (g = 12 ∧ (j = 3 ∨ (j = 0 ∧ i = 8))) → M' g j i = M g j i := by
  have step : ∀ (n : Nat) (x2 : Int32) (t : Nat) (M1 : hp_M), M1 12 0 8 = nI t → t < 700 → ¬ x2 < 0 → L_X8_appendFourBytes_3 a (n + 1) x2 M1 = L_X8_appendFourBytes_3 a n (x2 + -8) (hp_p (hp_p M1 12 3 t (((a.toUInt32 >>> (x2.toUInt32 &&& Int32.toUInt32 31)).toInt32) &&& 255)) 12 0 8 (nI (t + 1))) := by
    intro n x2 t M1 h1 h2 h3
    have e8 : ∀ x : Int32, hp_p M1 12 3 t x 12 0 8 = nI t := fun x => (hp_p_o _ _ _ _ _ (by omega)).trans h1
    rw [L_X8_appendFourBytes_3.eq_2, if_neg h3, h1, if_neg (nI_pos (by omega)), if_neg (show ¬ (700 : Int32) ≤ nI t from nI_ge (b := 700) h2 (by decide)), if_neg (nI_in h2 (by decide)), nI_clamp (by omega), e8, nI_1]
  obtain ⟨m, hm⟩ : ∃ m, hp_fu = m + 5 := ⟨hp_fu - 5, by unfold hp_fu; omega⟩
  unfold F_X8_appendFourBytes
  rw [hm, step (m + 4) 24 ty M h (by omega) (by decide), show (24 : Int32) + -8 = 16 by decide, step (m + 3) 16 (ty + 1) _ (hp_p_s _ _ _ _ _) (by omega) (by decide), show (16 : Int32) + -8 = 8 by decide, step (m + 2) 8 (ty + 2) _ (hp_p_s _ _ _ _ _) (by omega) (by decide), show (8 : Int32) + -8 = 0 by decide, step (m + 1) 0 (ty + 3) _ (hp_p_s _ _ _ _ _) (by omega) (by decide), L_X8_appendFourBytes_3.eq_2, if_pos (by decide), i32_sh24, i32_sh16, i32_sh8, i32_sh0]
  refine ⟨_, rfl, hp_p_s _ _ _ _ _, fun k hk => ?_, fun i hi => ?_, fun g j i hg => ?_⟩
  · rcases (show k = 0 ∨ k = 1 ∨ k = 2 ∨ k = 3 by omega) with rfl | rfl | rfl | rfl
    · simp only [hp_p_at, hp_by]; grind
    · simp only [hp_p_at, hp_by]; grind
    · simp only [hp_p_at, hp_by]; grind
    · simp only [hp_p_at, hp_by]; grind
  · simp only [hp_p_at]; grind
  · simp only [hp_p_at]; grind
theorem r_four {a : Int32} {ty : Nat} (h : M 13 0 9 = nI ty) (ht : ty + 4 ≤ 700) : ∃ M', F_X9_type a M = some ((), M') ∧ M' 13 0 9 = nI (ty + 4) ∧ (∀ k : Nat, k < 4 → M' 13 6 (ty + k) = hp_by a k) ∧ (∀ i : Nat, i < ty → M' 13 6 i = M 13 6 i) ∧ ∀ g j i : Nat, ¬ (g = 13 ∧ (j = 6 ∨ (j = 0 ∧ i = 9))) → M' g j i = M g j i := by
  have step : ∀ (n : Nat) (x2 : Int32) (t : Nat) (M1 : hp_M), M1 13 0 9 = nI t → t < 700 → ¬ x2 < 0 → L_X9_type_3 a (n + 1) x2 M1 = L_X9_type_3 a n (x2 + -8) (hp_p (hp_p M1 13 6 t ((a >>> (x2 &&& 31)) &&& 255)) 13 0 9 (nI (t + 1))) := by
    intro n x2 t M1 h1 h2 h3
    have e8 : ∀ x : Int32, hp_p M1 13 6 t x 13 0 9 = nI t := fun x => (hp_p_o _ _ _ _ _ (by omega)).trans h1
    rw [L_X9_type_3.eq_2, if_neg h3, h1, if_neg (nI_in h2 (by decide)), nI_clamp (by omega), e8, nI_1]
  obtain ⟨m, hm⟩ : ∃ m, hp_fu = m + 5 := ⟨hp_fu - 5, by unfold hp_fu; omega⟩
  unfold F_X9_type
  rw [hm, step (m + 4) 24 ty M h (by omega) (by decide), show (24 : Int32) + -8 = 16 by decide, step (m + 3) 16 (ty + 1) _ (hp_p_s _ _ _ _ _) (by omega) (by decide), show (16 : Int32) + -8 = 8 by decide, step (m + 2) 8 (ty + 2) _ (hp_p_s _ _ _ _ _) (by omega) (by decide), show (8 : Int32) + -8 = 0 by decide, step (m + 1) 0 (ty + 3) _ (hp_p_s _ _ _ _ _) (by omega) (by decide), L_X9_type_3.eq_2, if_pos (by decide)]
  refine ⟨_, rfl, hp_p_s _ _ _ _ _, fun k hk => ?_, fun i hi => ?_, fun g j i hg => ?_⟩
  · rcases (show k = 0 ∨ k = 1 ∨ k = 2 ∨ k = 3 by omega) with rfl | rfl | rfl | rfl
    · simp only [hp_p_at, hp_by]; grind
    · simp only [hp_p_at, hp_by]; grind
    · simp only [hp_p_at, hp_by]; grind
    · simp only [hp_p_at, hp_by]; grind
  · simp only [hp_p_at]; grind
  · simp only [hp_p_at]; grind
/-- the input buffers: the same bytes -/
def bI (ty : Nat) (M : hp_M) : Prop := ty ≤ 700 ∧ M 12 0 8 = nI ty ∧ M 13 0 9 = nI ty ∧ ∀ i : Nat, i < ty → M 12 3 i = M 13 6 i
theorem bI_same {ty : Nat} {M M' : hp_M} (h : bI ty M) (e1 : M' 12 0 8 = M 12 0 8) (e2 : M' 13 0 9 = M 13 0 9) (e3 : ∀ i : Nat, M' 12 3 i = M 12 3 i) (e4 : ∀ i : Nat, M' 13 6 i = M 13 6 i) : bI ty M' := ⟨h.1, e1.trans h.2.1, e2.trans h.2.2.1, fun i hi => by rw [e3, e4]; exact h.2.2.2 i hi⟩
/-- five numbers are appended -/
def hp_by5 (a b c d e : Int32) (k : Nat) : Int32 := if k < 4 then hp_by a k else if k < 8 then hp_by b (k - 4) else if k < 12 then hp_by c (k - 8) else if k < 16 then hp_by d (k - 12) else hp_by e (k - 16)
theorem x8_append {a b c d e : Int32} {ty : Nat} (h : M 12 0 8 = nI ty) (ht : ty + 20 ≤ 700) : ∃ M', F_X8_append a b c d e M = some (nI (ty + 20), M') ∧ M' 12 0 8 = nI (ty + 20) ∧ (∀ k : Nat, k < 20 → M' 12 3 (ty + k) = hp_by5 a b c d e k) ∧ (∀ i : Nat, i < ty → M' 12 3 i = M 12 3 i) ∧ ∀ g j i : Nat, ¬ (g = 12 ∧ (j = 3 ∨ (j = 0 ∧ i = 8))) → M' g j i = M g j i := by
  unfold F_X8_append
  rw [h, show (20 : Int32) = nI 20 from rfl, nI_add, if_pos (show nI (ty + 20) ≤ (700 : Int32) from nI_le (b := 700) ht (by decide))]
  obtain ⟨M1, e1, a1, b1, c1, d1⟩ := x8_four (a := a) h (by omega)
  obtain ⟨M2, e2, a2, b2, c2, d2⟩ := x8_four (a := b) a1 (by omega)
  obtain ⟨M3, e3, a3, b3, c3, d3⟩ := x8_four (a := c) a2 (by omega)
  obtain ⟨M4, e4, a4, b4, c4, d4⟩ := x8_four (a := d) a3 (by omega)
  obtain ⟨M5, e5, a5, b5, c5, d5⟩ := x8_four (a := e) a4 (by omega)
  rw [e1, hp_b_some, e2, hp_b_some, e3, hp_b_some, e4, hp_b_some, e5, hp_b_some, a5]
  refine ⟨M5, rfl, a5, fun k hk => ?_, fun i hi => ?_, fun g j i hg => ?_⟩
  · unfold hp_by5
    by_cases q1 : k < 4
    · rw [if_pos q1, c5 _ (by omega), c4 _ (by omega), c3 _ (by omega), c2 _ (by omega), b1 k q1]
    · rw [if_neg q1]
      by_cases q2 : k < 8
      · rw [if_pos q2, c5 _ (by omega), c4 _ (by omega), c3 _ (by omega), ← b2 (k - 4) (by omega)]
        congr 1; omega
      · rw [if_neg q2]
        by_cases q3 : k < 12
        · rw [if_pos q3, c5 _ (by omega), c4 _ (by omega), ← b3 (k - 8) (by omega)]
          congr 1; omega
        · rw [if_neg q3]
          by_cases q4 : k < 16
          · rw [if_pos q4, c5 _ (by omega), ← b4 (k - 12) (by omega)]
            congr 1; omega
          · rw [if_neg q4, ← b5 (k - 16) (by omega)]
            congr 1; omega
  · rw [c5 i (by omega), c4 i (by omega), c3 i (by omega), c2 i (by omega), c1 i hi]
  · rw [d5 g j i hg, d4 g j i hg, d3 g j i hg, d2 g j i hg, d1 g j i hg]
theorem r_append {a b c d e : Int32} {ty : Nat} (h : M 13 0 9 = nI ty) (ht : ty + 20 ≤ 700) : ∃ M', F_X9_append a b c d e M = some (nI (ty + 20), M') ∧ M' 13 0 9 = nI (ty + 20) ∧ (∀ k : Nat, k < 20 → M' 13 6 (ty + k) = hp_by5 a b c d e k) ∧ (∀ i : Nat, i < ty → M' 13 6 i = M 13 6 i) ∧ ∀ g j i : Nat, ¬ (g = 13 ∧ (j = 6 ∨ (j = 0 ∧ (i = 9 ∨ i = 13)))) → M' g j i = M g j i := by
  unfold F_X9_append
  have h9 : hp_p M 13 0 13 0 13 0 9 = nI ty := (hp_p_o _ _ _ _ _ (by omega)).trans h
  rw [h9, show (20 : Int32) = nI 20 from rfl, nI_add, if_pos (show nI (ty + 20) ≤ (700 : Int32) from nI_le (b := 700) ht (by decide))]
  obtain ⟨M1, e1, a1, b1, c1, d1⟩ := r_four (a := a) h9 (by omega)
  obtain ⟨M2, e2, a2, b2, c2, d2⟩ := r_four (a := b) a1 (by omega)
  obtain ⟨M3, e3, a3, b3, c3, d3⟩ := r_four (a := c) a2 (by omega)
  obtain ⟨M4, e4, a4, b4, c4, d4⟩ := r_four (a := d) a3 (by omega)
  obtain ⟨M5, e5, a5, b5, c5, d5⟩ := r_four (a := e) a4 (by omega)
  rw [e1, hp_b_some, e2, hp_b_some, e3, hp_b_some, e4, hp_b_some, e5, hp_b_some, a5]
  refine ⟨M5, rfl, a5, fun k hk => ?_, fun i hi => ?_, fun g j i hg => ?_⟩
  · unfold hp_by5
    by_cases q1 : k < 4
    · rw [if_pos q1, c5 _ (by omega), c4 _ (by omega), c3 _ (by omega), c2 _ (by omega), b1 k q1]
    · rw [if_neg q1]
      by_cases q2 : k < 8
      · rw [if_pos q2, c5 _ (by omega), c4 _ (by omega), c3 _ (by omega), ← b2 (k - 4) (by omega)]
        congr 1; omega
      · rw [if_neg q2]
        by_cases q3 : k < 12
        · rw [if_pos q3, c5 _ (by omega), c4 _ (by omega), ← b3 (k - 8) (by omega)]
          congr 1; omega
        · rw [if_neg q3]
          by_cases q4 : k < 16
          · rw [if_pos q4, c5 _ (by omega), ← b4 (k - 12) (by omega)]
            congr 1; omega
          · rw [if_neg q4, ← b5 (k - 16) (by omega)]
            congr 1; omega
  · rw [c5 i (by omega), c4 i (by omega), c3 i (by omega), c2 i (by omega), c1 i hi, hp_p_o (h := by omega)]
  · rw [d5 g j i (by omega), d4 g j i (by omega), d3 g j i (by omega), d2 g j i (by omega), d1 g j i (by omega), hp_p_o (h := by omega)]
end BUF
section SNAP
variable {M : hp_M} {v : HV}
theorem x8_saved {b s : Nat} (h : M 12 0 5 = nI b) (hb : b < 4) (hs : s < 2) : F_X8_isSaved (nI s) M = some (if b / 2 ^ s % 2 = 1 then 1 else 0, M) := by
  unfold F_X8_isSaved
  rw [h]
  rcases (show b = 0 ∨ b = 1 ∨ b = 2 ∨ b = 3 by omega) with rfl | rfl | rfl | rfl <;> rcases (show s = 0 ∨ s = 1 by omega) with rfl | rfl <;> rfl
theorem r_saved {b s : Nat} (hb : b < 4) (hs : s < 2) : ((nI b >>> (nI s &&& 31)) &&& (1 : Int32)) = if b / 2 ^ s % 2 = 1 then 1 else 0 := by
  rcases (show b = 0 ∨ b = 1 ∨ b = 2 ∨ b = 3 by omega) with rfl | rfl | rfl | rfl <;> rcases (show s = 0 ∨ s = 1 by omega) with rfl | rfl <;> decide +kernel
/-- the sum of the slots with one more -/
def hp_bs (b s : Nat) : Nat := if b / 2 ^ s % 2 = 1 then b else b + 2 ^ s
theorem hp_bs_or {b s : Nat} (hb : b < 4) (hs : s < 2) : nI b ||| ((1 : Int32) <<< (nI s &&& 31)) = nI (hp_bs b s) ∧ hp_bs b s < 4 ∧ hp_bs b s / 2 ^ s % 2 = 1 ∧ ∀ s' : Nat, s' < 2 → s' ≠ s → hp_bs b s / 2 ^ s' % 2 = b / 2 ^ s' % 2 := by
  rcases (show b = 0 ∨ b = 1 ∨ b = 2 ∨ b = 3 by omega) with rfl | rfl | rfl | rfl <;> rcases (show s = 0 ∨ s = 1 by omega) with rfl | rfl <;> decide +kernel
theorem r_save {s : Nat} {a0 r : Int32} (e0 : a0 = nI s) (hs : s < 2) (hr : r = 0 ∨ r = 1) : ∃ M', L_X9_saveSnapshot_55 a0 r hp_fu 0 M = some (r, M') ∧ (∀ i : Nat, i < 242 → M' 13 5 (242 * s + i) = M 13 1 i) ∧ (∀ k : Nat, ¬ (242 * s ≤ k ∧ k < 242 * s + 242) → M' 13 5 k = M 13 5 k) ∧ ∀ g j i : Nat, ¬ (g = 13 ∧ j = 5) → M' g j i = M g j i := by
  subst e0
  obtain ⟨n', M', e, h1, h2, h3⟩ := hp_runs (T := fun n i M1 => L_X9_saveSnapshot_55 (nI s) r n (nI i) M1) (I := fun i M1 => (∀ k : Nat, k < i → M1 13 5 (242 * s + k) = M 13 1 k) ∧ (∀ k : Nat, ¬ (242 * s ≤ k ∧ k < 242 * s + 242) → M1 13 5 k = M 13 5 k) ∧ ∀ g j k : Nat, ¬ (g = 13 ∧ j = 5) → M1 g j k = M g j k) (N := 242) (fun n i M1 hi hM => by
    show ∃ M2, L_X9_saveSnapshot_55 (nI s) r (n + 1) (nI i) M1 = L_X9_saveSnapshot_55 (nI s) r n (nI (i + 1)) M2 ∧ _
    have e2 : M1 13 1 i = M 13 1 i := hM.2.2 13 1 i (by omega)
    have ex : (242 : Int32) * nI s + nI i = nI (242 * s + i) := by rw [show (242 : Int32) = nI 242 from rfl, nI_mul, nI_add]
    rw [L_X9_saveSnapshot_55.eq_2, if_neg (show ¬ (242 : Int32) ≤ nI i from nI_ge (a := i) (b := 242) hi (by decide)), if_neg (nI_in hi (by decide)), ex, if_neg (nI_in (by omega) (by decide)), nI_clamp (show i < 2 ^ 31 by omega), nI_clamp (show 242 * s + i < 2 ^ 31 by omega), nI_1, e2]
    refine ⟨_, rfl, fun k hk => ?_, fun k hk => ?_, fun g j k hg => ?_⟩
    · by_cases q : k = i
      · rw [q, hp_p_s]
      · rw [hp_p_o (h := by omega)]; exact hM.1 k (by omega)
    · rw [hp_p_o (h := by omega)]; exact hM.2.1 k hk
    · rw [hp_p_o (h := by omega)]; exact hM.2.2 g j k hg) hp_fu M (by unfold hp_fu; omega) ⟨fun k hk => absurd hk (by omega), fun _ _ => rfl, fun _ _ _ _ => rfl⟩
  refine ⟨M', e.trans ?_, h1, h2, h3⟩
  show L_X9_saveSnapshot_55 (nI s) r (n' + 1) (nI 242) M' = _
  rw [L_X9_saveSnapshot_55.eq_2, if_pos (show (242 : Int32) ≤ nI 242 by decide), if_pos hr]
theorem r_rest {s : Nat} {a0 : Int32} (e0 : a0 = nI s) (hs : s < 2) : ∃ M', L_X9_restoreSnapshot_47 a0 hp_fu 0 M = some (M' 13 1 1, M') ∧ (∀ i : Nat, i < 242 → M' 13 1 i = M 13 5 (242 * s + i)) ∧ M' 13 0 5 = 0 ∧ ∀ g j i : Nat, ¬ (g = 13 ∧ (j = 1 ∨ (j = 0 ∧ i = 5))) → M' g j i = M g j i := by
  subst e0
  obtain ⟨n', M', e, h1, h3⟩ := hp_runs (T := fun n i M1 => L_X9_restoreSnapshot_47 (nI s) n (nI i) M1) (I := fun i M1 => (∀ k : Nat, k < i → M1 13 1 k = M 13 5 (242 * s + k)) ∧ ∀ g j k : Nat, ¬ (g = 13 ∧ j = 1) → M1 g j k = M g j k) (N := 242) (fun n i M1 hi hM => by
    show ∃ M2, L_X9_restoreSnapshot_47 (nI s) (n + 1) (nI i) M1 = L_X9_restoreSnapshot_47 (nI s) n (nI (i + 1)) M2 ∧ _
    have e2 : M1 13 5 (242 * s + i) = M 13 5 (242 * s + i) := hM.2 13 5 _ (by omega)
    have ex : (242 : Int32) * nI s + nI i = nI (242 * s + i) := by rw [show (242 : Int32) = nI 242 from rfl, nI_mul, nI_add]
    rw [L_X9_restoreSnapshot_47.eq_2, if_neg (show ¬ (242 : Int32) ≤ nI i from nI_ge (a := i) (b := 242) hi (by decide)), ex, if_neg (nI_in (by omega) (by decide)), if_neg (nI_in hi (by decide)), nI_clamp (show i < 2 ^ 31 by omega), nI_clamp (show 242 * s + i < 2 ^ 31 by omega), nI_1, e2]
    refine ⟨_, rfl, fun k hk => ?_, fun g j k hg => ?_⟩
    · by_cases q : k = i
      · rw [q, hp_p_s]
      · rw [hp_p_o (h := by omega)]; exact hM.1 k (by omega)
    · rw [hp_p_o (h := by omega)]; exact hM.2 g j k hg) hp_fu M (by unfold hp_fu; omega) ⟨fun k hk => absurd hk (by omega), fun _ _ _ _ => rfl⟩
  refine ⟨hp_p M' 13 0 5 0, e.trans ?_, fun i hi => ?_, hp_p_s _ _ _ _ _, fun g j i hg => ?_⟩
  · show L_X9_restoreSnapshot_47 (nI s) (n' + 1) (nI 242) M' = _
    rw [L_X9_restoreSnapshot_47.eq_2, if_pos (show (242 : Int32) ≤ nI 242 by decide)]
  · rw [hp_p_o (h := by omega)]; exact h1 i hi
  · rw [hp_p_o (h := by omega)]; exact h3 g j i (by omega)
end SNAP
