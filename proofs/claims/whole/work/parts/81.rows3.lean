/-! ===== the reference: rows copied ===== -/
theorem r_begins (M : hp_M) : ∃ M', F_X9_begins M = some ((), M') ∧ (∀ i : Nat, i < 242 → M' 13 2 i = M 13 1 i) ∧ ∀ g j : Nat, ¬ (g = 13 ∧ j = 2) → M' g j = M g j := by
  unfold F_X9_begins
  obtain ⟨n', M', e, h1, h2⟩ := hp_runs (T := fun n i M1 => L_X9_begins_2 n (nI i) M1) (I := fun i M1 => (∀ k : Nat, k < i → M1 13 2 k = M 13 1 k) ∧ ∀ g j : Nat, ¬ (g = 13 ∧ j = 2) → M1 g j = M g j) (N := 242) (fun n i M1 hi hM => by
    show ∃ M2, L_X9_begins_2 (n + 1) (nI i) M1 = L_X9_begins_2 n (nI (i + 1)) M2 ∧ _
    have e1 : M1 13 1 i = M 13 1 i := by rw [hM.2 13 1 (by omega)]
    rw [L_X9_begins_2.eq_2, if_neg (show ¬ (242 : Int32) ≤ nI i from nI_ge (a := i) (b := 242) hi (by decide)), if_neg (nI_in hi (by decide)), if_neg (nI_in hi (by decide)), nI_clamp (by omega), nI_1, e1]
    refine ⟨_, rfl, fun k hk => ?_, fun g j hg => ?_⟩
    · rw [hp_p_at]
      by_cases q : k = i
      · rw [if_pos ⟨rfl, rfl, q⟩, q]
      · rw [if_neg (fun z => q z.2.2)]; exact hM.1 k (by omega)
    · rw [← hM.2 g j hg]
      funext i'
      rw [hp_p_at, if_neg (fun z => hg ⟨z.1, z.2.1⟩)]) hp_fu M (by unfold hp_fu; omega) ⟨fun k hk => absurd hk (by omega), fun _ _ _ => rfl⟩
  refine ⟨M', e.trans ?_, h1, h2⟩
  show L_X9_begins_2 (n' + 1) (nI 242) M' = _
  rw [L_X9_begins_2.eq_2, if_pos (show (242 : Int32) ≤ nI 242 by decide)]
theorem r_setAside (M : hp_M) : ∃ M', F_X9_setAside M = some ((), M') ∧ (∀ i : Nat, i < 242 → M' 13 3 i = M 13 1 i) ∧ ∀ g j : Nat, ¬ (g = 13 ∧ j = 3) → M' g j = M g j := by
  unfold F_X9_setAside
  obtain ⟨n', M', e, h1, h2⟩ := hp_runs (T := fun n i M1 => L_X9_setAside_2 n (nI i) M1) (I := fun i M1 => (∀ k : Nat, k < i → M1 13 3 k = M 13 1 k) ∧ ∀ g j : Nat, ¬ (g = 13 ∧ j = 3) → M1 g j = M g j) (N := 242) (fun n i M1 hi hM => by
    show ∃ M2, L_X9_setAside_2 (n + 1) (nI i) M1 = L_X9_setAside_2 n (nI (i + 1)) M2 ∧ _
    have e1 : M1 13 1 i = M 13 1 i := by rw [hM.2 13 1 (by omega)]
    rw [L_X9_setAside_2.eq_2, if_neg (show ¬ (242 : Int32) ≤ nI i from nI_ge (a := i) (b := 242) hi (by decide)), if_neg (nI_in hi (by decide)), if_neg (nI_in hi (by decide)), nI_clamp (by omega), nI_1, e1]
    refine ⟨_, rfl, fun k hk => ?_, fun g j hg => ?_⟩
    · rw [hp_p_at]
      by_cases q : k = i
      · rw [if_pos ⟨rfl, rfl, q⟩, q]
      · rw [if_neg (fun z => q z.2.2)]; exact hM.1 k (by omega)
    · rw [← hM.2 g j hg]
      funext i'
      rw [hp_p_at, if_neg (fun z => hg ⟨z.1, z.2.1⟩)]) hp_fu M (by unfold hp_fu; omega) ⟨fun k hk => absurd hk (by omega), fun _ _ _ => rfl⟩
  refine ⟨M', e.trans ?_, h1, h2⟩
  show L_X9_setAside_2 (n' + 1) (nI 242) M' = _
  rw [L_X9_setAside_2.eq_2, if_pos (show (242 : Int32) ≤ nI 242 by decide)]
theorem r_bringBack (M : hp_M) : ∃ M', F_X9_bringBack M = some ((), M') ∧ (∀ i : Nat, i < 242 → M' 13 1 i = M 13 3 i) ∧ ∀ g j : Nat, ¬ (g = 13 ∧ j = 1) → M' g j = M g j := by
  unfold F_X9_bringBack
  obtain ⟨n', M', e, h1, h2⟩ := hp_runs (T := fun n i M1 => L_X9_bringBack_2 n (nI i) M1) (I := fun i M1 => (∀ k : Nat, k < i → M1 13 1 k = M 13 3 k) ∧ ∀ g j : Nat, ¬ (g = 13 ∧ j = 1) → M1 g j = M g j) (N := 242) (fun n i M1 hi hM => by
    show ∃ M2, L_X9_bringBack_2 (n + 1) (nI i) M1 = L_X9_bringBack_2 n (nI (i + 1)) M2 ∧ _
    have e1 : M1 13 3 i = M 13 3 i := by rw [hM.2 13 3 (by omega)]
    rw [L_X9_bringBack_2.eq_2, if_neg (show ¬ (242 : Int32) ≤ nI i from nI_ge (a := i) (b := 242) hi (by decide)), if_neg (nI_in hi (by decide)), if_neg (nI_in hi (by decide)), nI_clamp (by omega), nI_1, e1]
    refine ⟨_, rfl, fun k hk => ?_, fun g j hg => ?_⟩
    · rw [hp_p_at]
      by_cases q : k = i
      · rw [if_pos ⟨rfl, rfl, q⟩, q]
      · rw [if_neg (fun z => q z.2.2)]; exact hM.1 k (by omega)
    · rw [← hM.2 g j hg]
      funext i'
      rw [hp_p_at, if_neg (fun z => hg ⟨z.1, z.2.1⟩)]) hp_fu M (by unfold hp_fu; omega) ⟨fun k hk => absurd hk (by omega), fun _ _ _ => rfl⟩
  refine ⟨M', e.trans ?_, h1, h2⟩
  show L_X9_bringBack_2 (n' + 1) (nI 242) M' = _
  rw [L_X9_bringBack_2.eq_2, if_pos (show (242 : Int32) ≤ nI 242 by decide)]
/-- laid back: the row is as it was when it was set aside -/
theorem RRep.row {W W' : Nat → Int32} {v : HV} (c : RRep W v) (h : ∀ i : Nat, i < 242 → W' i = W i) : RRep W' v := by
  have q10 := c.q10
  have s8 := c.s8
  have hqu : ∀ (i : Nat) (x : Nat), v.queue[i]? = some x → i < 10 := fun i x hx => by have := (List.getElem?_eq_some_iff.mp hx).1; omega
  have hsl : ∀ (i : Nat) (x : Nat × Int32), v.slate[i]? = some x → i < 8 := fun i x hx => by have := (List.getElem?_eq_some_iff.mp hx).1; omega
  exact ⟨(h 0 (by decide)).trans c.fl, c.fl10, (h 1 (by decide)).trans c.ti, (h 2 (by decide)).trans c.ph, (h 3 (by decide)).trans c.wh, (h 4 (by decide)).trans c.sp, (h 5 (by decide)).trans c.le, (h 6 (by decide)).trans c.ou, fun i hi => (h _ (by omega)).trans (c.st i hi), (h 13 (by decide)).trans c.sl, c.s8, fun i x hx => by
    have h8 := hsl i x hx
    exact ⟨(h _ (by omega)).trans (c.sf i x hx).1, (h _ (by omega)).trans (c.sf i x hx).2⟩, (h 30 (by decide)).trans c.ql, c.q10, fun i x hx => by
    have h8 := hqu i x hx
    exact (h _ (by omega)).trans (c.qu i x hx), (h 41 (by decide)).trans c.en, (h 42 (by decide)).trans c.t2, fun i h1 hi => (h _ (by omega)).trans (c.ac i h1 hi), fun f k hf hk => (h _ (by omega)).trans (c.n0 f k hf hk), fun f k hf h5 hk => (h _ (by omega)).trans (c.n5 f k hf h5 hk), fun f hf => (h _ (by omega)).trans (c.n8 f hf), fun f k hf hk => (h _ (by omega)).trans (c.he f k hf hk)⟩
