/-! ===== what holds of the whole memory between calls ===== -/
def hp_J (B : Nat) (v : HV) (ps : List HV) (nx b ty : Nat) (rp : List Int32) (M : hp_M) : Prop := CRep (M 0) v ∧ RRep (M 13 1) v ∧ hv_g B v ∧ hI nx B ps M ∧ sI b B M ∧ bI ty M ∧ rp_ok rp ∧ rp.length ≤ 79 ∧ SB rp M ∧ SR rp M
def hp_I (B : Nat) (M : hp_M) : Prop := ∃ (v : HV) (ps : List HV) (nx b ty : Nat) (rp : List Int32), hp_J B v ps nx b ty rp M
/-- alike in all that is looked at between calls -/
def hp_Sm (M M' : hp_M) : Prop := ∀ g j i : Nat, g ≠ 1 → ¬ (g = 12 ∧ (j = 1 ∨ j = 2)) → ¬ (g = 13 ∧ (j = 2 ∨ j = 3 ∨ j = 7 ∨ 9 ≤ j ∨ (j = 1 ∧ 242 ≤ i) ∨ (j = 0 ∧ i ≠ 5 ∧ i ≠ 6 ∧ i ≠ 9 ∧ i ≠ 12))) → M' g j i = M g j i
theorem hp_Sm.rf (M : hp_M) : hp_Sm M M := fun _ _ _ _ _ _ => rfl
theorem hp_Sm.tr {M M1 M2 : hp_M} (h1 : hp_Sm M M1) (h2 : hp_Sm M1 M2) : hp_Sm M M2 := fun g j i a b c => (h2 g j i a b c).trans (h1 g j i a b c)
theorem hp_Sm.o (M : hp_M) (x : Int32) : hp_Sm M (hp_p M 13 10 0 x) := fun g j i a b c => hp_p_o _ _ _ _ _ (by omega)
theorem hp_Sm.t (M : hp_M) (x : Int32) : hp_Sm M (hp_p M 13 0 13 x) := fun g j i a b c => hp_p_o _ _ _ _ _ (by omega)
theorem hp_Sm.d {M M' : hp_M} (h : ∀ g : Nat, g ≠ 1 → M' g = M g) : hp_Sm M M' := fun g j i a _ _ => by rw [h g a]
theorem hp_Sm.q {M M' : hp_M} (h : RQ M M') : hp_Sm M M' := fun g j i a b c => by
  by_cases q : g = 13 ∧ j = 1
  · rw [q.1, q.2]; exact h.1 i (by omega)
  · rw [h.2 g j (by omega)]
theorem SB.same {r : List Int32} {M M' : hp_M} (h : SB r M) (e : ∀ j i : Nat, M' 14 j i = M 14 j i) : SB r M' := by
  obtain ⟨h1, h2, ⟨cap, h3, h4, h5, h6⟩, h7⟩ := h
  exact ⟨(e _ _).trans h1, (e _ _).trans h2, ⟨cap, (e _ _).trans h3, h4, h5, fun i hi => by rw [e]; exact h6 i hi⟩, fun i x hx => (e _ _).trans (h7 i x hx)⟩
theorem SR.same {r : List Int32} {M M' : hp_M} (h : SR r M) (e1 : M' 13 0 12 = M 13 0 12) (e2 : ∀ i : Nat, M' 13 8 i = M 13 8 i) : SR r M' := ⟨e1.trans h.1, fun i x hx => (e2 i).trans (h.2 i x hx)⟩
section INV
variable {B : Nat} {v : HV} {ps : List HV} {nx b ty : Nat} {rp : List Int32} {M M' : hp_M}
theorem hp_J.same (h : hp_J B v ps nx b ty rp M) (e : hp_Sm M M') : hp_J B v ps nx b ty rp M' := by
  obtain ⟨h1, h2, h3, h4, h5, h6, h7, h8, h9, h10⟩ := h
  exact ⟨h1.same (fun j i => e _ _ _ (by omega) (by omega) (by omega)), h2.row (fun i hi => e _ _ _ (by omega) (by omega) (by omega)), h3, hI_same h4 (e _ _ _ (by omega) (by omega) (by omega)) (e _ _ _ (by omega) (by omega) (by omega)) (e _ _ _ (by omega) (by omega) (by omega)) (fun g j i _ _ => e _ _ _ (by omega) (by omega) (by omega)) (fun i => e _ _ _ (by omega) (by omega) (by omega)), sI_same h5 (e _ _ _ (by omega) (by omega) (by omega)) (e _ _ _ (by omega) (by omega) (by omega)) (fun g j i _ _ => e _ _ _ (by omega) (by omega) (by omega)) (fun i => e _ _ _ (by omega) (by omega) (by omega)), bI_same h6 (e _ _ _ (by omega) (by omega) (by omega)) (e _ _ _ (by omega) (by omega) (by omega)) (fun i => e _ _ _ (by omega) (by omega) (by omega)) (fun i => e _ _ _ (by omega) (by omega) (by omega)), h7, h8, h9.same (fun j i => e _ _ _ (by omega) (by omega) (by omega)), h10.same (e _ _ _ (by omega) (by omega) (by omega)) (fun i => e _ _ _ (by omega) (by omega) (by omega))⟩
theorem hp_J.mono (h : hp_J B v ps nx b ty rp M) {C : Nat} (hBC : B ≤ C) : hp_J C v ps nx b ty rp M := by
  obtain ⟨h1, h2, h3, h4, h5, h6⟩ := h
  exact ⟨h1, h2, g_mono h3 hBC, hI_mono h4 hBC, sI_mono h5 hBC, h6⟩
theorem hp_J.i (h : hp_J B v ps nx b ty rp M) : hp_I (B + 1000) M := ⟨v, ps, nx, b, ty, rp, h.mono (by omega)⟩
end INV
/-! how the law asks -/
def QM (L : List (Nat × Int32)) (B : Nat) (X : hp_M → Option ((Int32 ⊕ Nat) × hp_M)) (R : hp_M → Option (Int32 × hp_M)) (M : hp_M) : Prop := (∃ r M1 M2, X M = some (.inl r, M1) ∧ R (hp_p M1 13 10 0 r) = some (r, M2) ∧ hp_I (B + 1000) M2 ∧ M2 13 0 13 = 0 ∧ M2 13 10 0 = r) ∨ (∃ kx t x M2, (kx, t) ∈ L ∧ X M = some (.inr kx, M) ∧ R M = some (x, M2) ∧ hp_I (B + 1000) M2 ∧ M2 13 0 13 = t)
theorem lg_cmp_s (x : Int64) : lg_cmp x x = 0 := by
  unfold lg_cmp
  rw [if_neg (by exact Int64.lt_irrefl), if_pos rfl]
section LAWQ
variable {α : Type} {K : hp_M → Option α} {B : Nat} {X : hp_M → Option ((Int32 ⊕ Nat) × hp_M)} {R : hp_M → Option (Int32 × hp_M)} {M : hp_M}
/-- the tail of a question of the law -/
theorem hp_tail {k r : Int32} {M1 M2 : hp_M} (e : R M1 = some (r, M2)) (ht : M2 13 0 13 = k) (h0 : k = 0 → M2 13 10 0 = r) (hK : K M2 ≠ none) : hp_b (R M1) (fun r2 M2 => (hp_b (F_X9_thrown M2) (fun r3 M3 => (if r3 = k then (if k = 0 then (if (lg_cmp ((M3 13 10 0).toInt64) ((r2).toInt64)) = 0 then (K M3) else none) else (K M3)) else none)))) ≠ none := by
  unfold F_X9_thrown
  rw [e, hp_b_some, hp_b_some, if_pos ht]
  by_cases hk : k = 0
  · rw [if_pos hk, h0 hk, if_pos (lg_cmp_s _)]; exact hK
  · rw [if_neg hk]; exact hK
theorem qI (h : QM [(0, 1)] B X R M) (hK : ∀ M', hp_I (B + 1000) M' → K M' ≠ none) : hp_b (hp_bc (X M) (fun r1 M1 => (some ((0 : Int32), (hp_p M1 13 10 0 r1)))) (fun kx M1 => (if kx = 0 then (some ((1 : Int32), M1)) else none))) (fun r1 M1 => (hp_b (R M1) (fun r2 M2 => (hp_b (F_X9_thrown M2) (fun r3 M3 => (if r3 = r1 then (if r1 = 0 then (if (lg_cmp ((M3 13 10 0).toInt64) ((r2).toInt64)) = 0 then (K M3) else none) else (K M3)) else none)))))) ≠ none := by
  rcases h with ⟨r, M1, M2, h1, h2, h3, h4, h5⟩ | ⟨kx, t, x, M2, h1, h2, h3, h4, h5⟩
  · rw [h1, hp_bc_l, hp_b_some]
    exact hp_tail h2 h4 (fun _ => h5) (hK _ h3)
  · have : kx = 0 ∧ t = 1 := by simpa using h1
    rw [h2, hp_bc_r, if_pos this.1, hp_b_some]
    exact hp_tail h3 (h5.trans this.2) (fun q => absurd q (by decide)) (hK _ h4)
theorem qF (h : QM [(1, 1)] B X R M) (hK : ∀ M', hp_I (B + 1000) M' → K M' ≠ none) : hp_b (hp_bc (X M) (fun r1 M1 => (some ((0 : Int32), (hp_p M1 13 10 0 r1)))) (fun kx M1 => (if kx = 1 then (some ((1 : Int32), M1)) else none))) (fun r1 M1 => (hp_b (R M1) (fun r2 M2 => (hp_b (F_X9_thrown M2) (fun r3 M3 => (if r3 = r1 then (if r1 = 0 then (if (lg_cmp ((M3 13 10 0).toInt64) ((r2).toInt64)) = 0 then (K M3) else none) else (K M3)) else none)))))) ≠ none := by
  rcases h with ⟨r, M1, M2, h1, h2, h3, h4, h5⟩ | ⟨kx, t, x, M2, h1, h2, h3, h4, h5⟩
  · rw [h1, hp_bc_l, hp_b_some]
    exact hp_tail h2 h4 (fun _ => h5) (hK _ h3)
  · have : kx = 1 ∧ t = 1 := by simpa using h1
    rw [h2, hp_bc_r, if_pos this.1, hp_b_some]
    exact hp_tail h3 (h5.trans this.2) (fun q => absurd q (by decide)) (hK _ h4)
theorem qFI (h : QM [(1, 1), (0, 2)] B X R M) (hK : ∀ M', hp_I (B + 1000) M' → K M' ≠ none) : hp_b (hp_bc (X M) (fun r1 M1 => (some ((0 : Int32), (hp_p M1 13 10 0 r1)))) (fun kx M1 => (if kx = 1 then (some ((1 : Int32), M1)) else (if kx = 0 then (some ((2 : Int32), M1)) else none)))) (fun r1 M1 => (hp_b (R M1) (fun r2 M2 => (hp_b (F_X9_thrown M2) (fun r3 M3 => (if r3 = r1 then (if r1 = 0 then (if (lg_cmp ((M3 13 10 0).toInt64) ((r2).toInt64)) = 0 then (K M3) else none) else (K M3)) else none)))))) ≠ none := by
  rcases h with ⟨r, M1, M2, h1, h2, h3, h4, h5⟩ | ⟨kx, t, x, M2, h1, h2, h3, h4, h5⟩
  · rw [h1, hp_bc_l, hp_b_some]
    exact hp_tail h2 h4 (fun _ => h5) (hK _ h3)
  · have : (kx = 1 ∧ t = 1) ∨ (kx = 0 ∧ t = 2) := by simpa using h1
    rcases this with q | q
    · rw [h2, hp_bc_r, if_pos q.1, hp_b_some]
      exact hp_tail h3 (h5.trans q.2) (fun q => absurd q (by decide)) (hK _ h4)
    · rw [h2, hp_bc_r, if_neg (by omega), if_pos q.1, hp_b_some]
      exact hp_tail h3 (h5.trans q.2) (fun q => absurd q (by decide)) (hK _ h4)
theorem qNI (h : QM [(2, 1), (0, 2)] B X R M) (hK : ∀ M', hp_I (B + 1000) M' → K M' ≠ none) : hp_b (hp_bc (X M) (fun r1 M1 => (some ((0 : Int32), (hp_p M1 13 10 0 r1)))) (fun kx M1 => (if kx = 2 then (some ((1 : Int32), M1)) else (if kx = 0 then (some ((2 : Int32), M1)) else none)))) (fun r1 M1 => (hp_b (R M1) (fun r2 M2 => (hp_b (F_X9_thrown M2) (fun r3 M3 => (if r3 = r1 then (if r1 = 0 then (if (lg_cmp ((M3 13 10 0).toInt64) ((r2).toInt64)) = 0 then (K M3) else none) else (K M3)) else none)))))) ≠ none := by
  rcases h with ⟨r, M1, M2, h1, h2, h3, h4, h5⟩ | ⟨kx, t, x, M2, h1, h2, h3, h4, h5⟩
  · rw [h1, hp_bc_l, hp_b_some]
    exact hp_tail h2 h4 (fun _ => h5) (hK _ h3)
  · have : (kx = 2 ∧ t = 1) ∨ (kx = 0 ∧ t = 2) := by simpa using h1
    rcases this with q | q
    · rw [h2, hp_bc_r, if_pos q.1, hp_b_some]
      exact hp_tail h3 (h5.trans q.2) (fun q => absurd q (by decide)) (hK _ h4)
    · rw [h2, hp_bc_r, if_neg (by omega), if_pos q.1, hp_b_some]
      exact hp_tail h3 (h5.trans q.2) (fun q => absurd q (by decide)) (hK _ h4)
theorem qIN (h : QM [(0, 1), (2, 2)] B X R M) (hK : ∀ M', hp_I (B + 1000) M' → K M' ≠ none) : hp_b (hp_bc (X M) (fun r1 M1 => (some ((0 : Int32), (hp_p M1 13 10 0 r1)))) (fun kx M1 => (if kx = 0 then (some ((1 : Int32), M1)) else (if kx = 2 then (some ((2 : Int32), M1)) else none)))) (fun r1 M1 => (hp_b (R M1) (fun r2 M2 => (hp_b (F_X9_thrown M2) (fun r3 M3 => (if r3 = r1 then (if r1 = 0 then (if (lg_cmp ((M3 13 10 0).toInt64) ((r2).toInt64)) = 0 then (K M3) else none) else (K M3)) else none)))))) ≠ none := by
  rcases h with ⟨r, M1, M2, h1, h2, h3, h4, h5⟩ | ⟨kx, t, x, M2, h1, h2, h3, h4, h5⟩
  · rw [h1, hp_bc_l, hp_b_some]
    exact hp_tail h2 h4 (fun _ => h5) (hK _ h3)
  · have : (kx = 0 ∧ t = 1) ∨ (kx = 2 ∧ t = 2) := by simpa using h1
    rcases this with q | q
    · rw [h2, hp_bc_r, if_pos q.1, hp_b_some]
      exact hp_tail h3 (h5.trans q.2) (fun q => absurd q (by decide)) (hK _ h4)
    · rw [h2, hp_bc_r, if_neg (by omega), if_pos q.1, hp_b_some]
      exact hp_tail h3 (h5.trans q.2) (fun q => absurd q (by decide)) (hK _ h4)
end LAWQ
section CHK
variable {M : hp_M} {a lo hi : Int32}
theorem x_ri (h : lo ≤ a ∧ a ≤ hi) : F_X8_checkRange a lo hi M = some (.inl (), M) := by
  unfold F_X8_checkRange
  rw [if_neg (by grind), if_pos h.2]
theorem x_ro (h : ¬ (lo ≤ a ∧ a ≤ hi)) : F_X8_checkRange a lo hi M = some (.inr 0, M) := by
  unfold F_X8_checkRange
  by_cases q : a < lo
  · rw [if_pos q]
  · rw [if_neg q, if_neg (fun z => h ⟨by grind, z⟩)]
theorem r_ri (h : lo ≤ a ∧ a ≤ hi) : F_X9_in a lo hi M = some (1, M) := by
  unfold F_X9_in
  rw [if_neg (by grind), if_neg (by grind)]
theorem r_ro (h : ¬ (lo ≤ a ∧ a ≤ hi)) : F_X9_in a lo hi M = some (0, M) := by
  unfold F_X9_in
  by_cases q : a < lo
  · rw [if_pos q]
  · rw [if_neg q, if_pos (by grind)]
theorem hp_fl (a : Int32) (n : Nat) (hn : n ≤ 10) : (∃ f : Nat, f < n ∧ a = nI f) ∨ ¬ (0 ≤ a ∧ a < nI n) := by
  by_cases h : 0 ≤ a ∧ a < nI n
  · obtain ⟨j, hj1, hj2⟩ := nI_of (x := a) (by grind)
    refine Or.inl ⟨j, ?_, hj2⟩
    have := h.2
    rw [hj2] at this
    exact (nI_ltI hj1 (by omega)).mp this
  · exact Or.inr h
theorem x_fi {n f : Nat} (hn : n ≤ 10) (e : M 0 0 0 = nI n) (hf : f < n) : F_X8_checkFlat (nI f) M = some (.inl (), M) := by
  unfold F_X8_checkFlat
  rw [e, if_neg (nI_pos (by omega)), if_pos (nI_lt hf (by omega))]
theorem x_fo {n : Nat} (e : M 0 0 0 = nI n) (h : ¬ (0 ≤ a ∧ a < nI n)) : F_X8_checkFlat a M = some (.inr 1, M) := by
  unfold F_X8_checkFlat
  rw [e]
  by_cases q : a < 0
  · rw [if_pos q]
  · rw [if_neg q, if_neg (fun z => h ⟨by grind, z⟩)]
theorem r_fi {n f : Nat} (hn : n ≤ 10) (e : M 13 1 0 = nI n) (hf : f < n) : F_X9_isFlat (nI f) M = some (1, M) := by
  unfold F_X9_isFlat
  obtain ⟨m, rfl⟩ : ∃ m, n = m + 1 := ⟨n - 1, by omega⟩
  rw [e, nI_pred, r_ri ⟨nI_pos' (by omega), nI_le (by omega) (by omega)⟩, hp_b_some, if_pos (Or.inr rfl)]
theorem r_fo {n : Nat} (hn : n ≤ 10) (e : M 13 1 0 = nI n) (h : ¬ (0 ≤ a ∧ a < nI n)) : F_X9_isFlat a M = some (0, M) := by
  unfold F_X9_isFlat
  have : ¬ (0 ≤ a ∧ a ≤ nI n - 1) := fun q => h ⟨q.1, by
    have h1 := nI_pos' (n := n) (by omega)
    have h2 : nI n ≤ nI 10 := nI_le hn (by decide)
    have h3 : nI 10 = 10 := rfl
    grind⟩
  rw [e, r_ro this, hp_b_some, if_pos (Or.inl rfl)]
theorem r_th0 : F_X9_throwsOne 0 M = some (0, hp_p M 13 0 13 0) := rfl
theorem r_th1 : F_X9_throwsOne 1 M = some (1, hp_p M 13 0 13 1) := rfl
theorem r_th00 : F_X9_throwsOne_ 0 0 M = some (0, hp_p M 13 0 13 0) := rfl
theorem r_th01 : F_X9_throwsOne_ 0 1 M = some (1, hp_p M 13 0 13 2) := rfl
theorem r_th10 : F_X9_throwsOne_ 1 0 M = some (1, hp_p M 13 0 13 1) := rfl
theorem r_th11 : F_X9_throwsOne_ 1 1 M = some (1, hp_p M 13 0 13 1) := rfl
/-- a number in a range is a natural number -/
theorem hp_rn {N : Nat} (hN : N < 2 ^ 31) (hhi : hi = nI N) (h : 0 ≤ a ∧ a ≤ hi) : ∃ k : Nat, a = nI k ∧ k ≤ N := by
  obtain ⟨h1, h2⟩ := nI_nz hN h.1 (by rw [← hhi]; exact h.2)
  exact ⟨_, h1, h2⟩
end CHK
