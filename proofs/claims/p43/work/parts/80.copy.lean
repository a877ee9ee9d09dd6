/-! ===== a house of the class copied ===== -/
set_option maxHeartbeats 4000000 in
theorem CRep.cong {h h' : Nat → Nat → Int32} {v : HV} (c : CRep h v) (d0 : ∀ i : Nat, i < 3 → h' 0 i = h 0 i) (d1 : ∀ i : Nat, i < 6 → h' 1 i = h 1 i) (d2 : ∀ i : Nat, i < 10 → h' 2 i = h 2 i) (d3 : ∀ i : Nat, i < 110 → h' 3 i = h 3 i) (d4 : ∀ i : Nat, i < 100 → h' 4 i = h 4 i) (d5 : ∀ i : Nat, i < 5 → h' 5 i = h 5 i) (d6 : h' 6 1 = h 6 1) (d7 : ∀ i : Nat, i < 10 → h' 7 i = h 7 i) (d8 : h' 8 2 = h 8 2) (d9 : ∀ i : Nat, i < 8 → h' 9 i = h 9 i) (d10 : ∀ i : Nat, i < 8 → h' 10 i = h 10 i) : CRep h' v := by
  have q10 := c.q10
  have s8 := c.s8
  have hqu : ∀ (i : Nat) (x : Nat), v.queue[i]? = some x → i < 10 := fun i x hx => by have := (List.getElem?_eq_some_iff.mp hx).1; omega
  have hsl : ∀ (i : Nat) (x : Nat × Int32), v.slate[i]? = some x → i < 8 := fun i x hx => by have := (List.getElem?_eq_some_iff.mp hx).1; omega
  refine ⟨(d0 0 (by decide)).trans c.fl, c.fl10, (d0 1 (by decide)).trans c.ti, (d0 2 (by decide)).trans c.en, fun i hi => (d1 i hi).trans (c.st i hi), fun i h1 hi => (d2 i hi).trans (c.ac i h1 hi), fun f k hf hk h5 h9 => (d3 _ (by omega)).trans (c.nu f k hf hk h5 h9), fun f k hf hk => (d4 _ (by omega)).trans (c.he f k hf hk), (d5 0 (by decide)).trans c.ph, (d5 1 (by decide)).trans c.wh, (d5 2 (by decide)).trans c.sp, (d5 3 (by decide)).trans c.le, (d5 4 (by decide)).trans c.ou, d6.trans c.ql, c.q10, fun i x hx => (d7 i (hqu i x hx)).trans (c.qu i x hx), d8.trans c.sl, c.s8, fun i x hx => ⟨(d9 i (hsl i x hx)).trans (c.sf i x hx).1, (d10 i (hsl i x hx)).trans (c.sf i x hx).2⟩⟩
theorem hp_sr_at (M : hp_M) (g j : Nat) (f : Nat → Int32) (g' j' i' : Nat) : hp_sr M g j f g' j' i' = if g' = g ∧ j' = j then f i' else M g' j' i' := by
  unfold hp_sr
  split <;> rfl
theorem hp_cpy_at (n : Nat) (f g : Nat → Int32) (i : Nat) : hp_cpy n f g i = if i < n then f i else g i := rfl
theorem x2_copy {g b0 : Nat} {M : hp_M} {v : HV} (c : CRep (M b0) v) (ho : v.out = 0 ∨ v.out = 1) (hne : b0 ≠ g) : ∃ M', F_X2_copyFrom g b0 M = some ((), M') ∧ CS g M v M' := by
  have rb : ∀ (M1 : hp_M) (j i : Nat) (x : Int32), hp_p M1 g j i x b0 = M1 b0 := fun M1 j i x => hp_p_ne M1 j i x hne
  have rs : ∀ (M1 : hp_M) (j : Nat) (f : Nat → Int32), hp_sr M1 g j f b0 = M1 b0 := fun M1 j f => by funext j'; exact if_neg (fun q => hne q.1)
  have hou : M b0 5 4 = 0 ∨ M b0 5 4 = 1 := by rw [c.ou]; exact ho
  unfold F_X2_copyFrom F_X8_copyRow F_X3_copyFrom F_X4_copyFrom F_X6_copyFrom F_X8_copyRow
  simp only [hp_b_some, rb, rs, if_pos hou]
  refine ⟨_, rfl, ?_, fun g' hg => ?_⟩
  · refine CRep.cong c ?_ ?_ ?_ ?_ ?_ ?_ ?_ ?_ ?_ ?_ ?_
    all_goals (first | (intro i hi; simp only [hp_p_at, hp_sr_at, hp_cpy_at]; grind) | (simp only [hp_p_at, hp_sr_at, hp_cpy_at]; grind))
  · funext j' i'
    simp only [hp_p_at, hp_sr_at]
    grind
