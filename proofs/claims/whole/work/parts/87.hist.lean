/-! ===== the houses as they were: history and snapshots ===== -/
/-- the history: the latest one first -/
def hI (nx B : Nat) (ps : List HV) (M : hp_M) : Prop := nx < 8 ∧ ps.length ≤ 8 ∧ M 12 4 1 = nI nx ∧ M 12 4 2 = nI ps.length ∧ M 13 0 5 = nI ps.length ∧ ∀ (k : Nat) (w : HV), ps[k]? = some w → hv_g B w ∧ CRep (M (2 + (nx + 7 - k) % 8)) w ∧ RRep (fun i => M 13 4 (242 * (ps.length - 1 - k) + i)) w
def sI (b B : Nat) (M : hp_M) : Prop := b < 4 ∧ M 12 0 5 = nI b ∧ M 13 0 6 = nI b ∧ ∀ s : Nat, s < 2 → b / 2 ^ s % 2 = 1 → ∃ w : HV, hv_g B w ∧ CRep (M (10 + s)) w ∧ RRep (fun i => M 13 5 (242 * s + i)) w
theorem CRep.same {h h' : Nat → Nat → Int32} {v : HV} (c : CRep h v) (e : ∀ j i : Nat, h' j i = h j i) : CRep h' v := CRep.cong c (fun _ _ => e _ _) (fun _ _ => e _ _) (fun _ _ => e _ _) (fun _ _ => e _ _) (fun _ _ => e _ _) (fun _ _ => e _ _) (e _ _) (fun _ _ => e _ _) (e _ _) (fun _ _ => e _ _) (fun _ _ => e _ _)
theorem hI_mono {nx B C : Nat} {ps : List HV} {M : hp_M} (h : hI nx B ps M) (hBC : B ≤ C) : hI nx C ps M := ⟨h.1, h.2.1, h.2.2.1, h.2.2.2.1, h.2.2.2.2.1, fun k w hk => ⟨g_mono (h.2.2.2.2.2 k w hk).1 hBC, (h.2.2.2.2.2 k w hk).2⟩⟩
theorem sI_mono {b B C : Nat} {M : hp_M} (h : sI b B M) (hBC : B ≤ C) : sI b C M := ⟨h.1, h.2.1, h.2.2.1, fun s hs hb => by
  obtain ⟨w, h1, h2⟩ := h.2.2.2 s hs hb
  exact ⟨w, g_mono h1 hBC, h2⟩⟩
theorem hI_same {nx B : Nat} {ps : List HV} {M M' : hp_M} (h : hI nx B ps M) (e1 : M' 12 4 1 = M 12 4 1) (e2 : M' 12 4 2 = M 12 4 2) (e3 : M' 13 0 5 = M 13 0 5) (e4 : ∀ g j i : Nat, 2 ≤ g → g < 10 → M' g j i = M g j i) (e5 : ∀ i : Nat, M' 13 4 i = M 13 4 i) : hI nx B ps M' := by
  refine ⟨h.1, h.2.1, e1.trans h.2.2.1, e2.trans h.2.2.2.1, e3.trans h.2.2.2.2.1, fun k w hk => ?_⟩
  obtain ⟨h1, h2, h3⟩ := h.2.2.2.2.2 k w hk
  exact ⟨h1, h2.same (fun j i => e4 _ _ _ (by omega) (by omega)), h3.row (fun i _ => e5 _)⟩
theorem sI_same {b B : Nat} {M M' : hp_M} (h : sI b B M) (e1 : M' 12 0 5 = M 12 0 5) (e2 : M' 13 0 6 = M 13 0 6) (e3 : ∀ g j i : Nat, 10 ≤ g → g < 12 → M' g j i = M g j i) (e4 : ∀ i : Nat, M' 13 5 i = M 13 5 i) : sI b B M' := by
  refine ⟨h.1, e1.trans h.2.1, e2.trans h.2.2.1, fun s hs hb => ?_⟩
  obtain ⟨w, h1, h2, h3⟩ := h.2.2.2 s hs hb
  exact ⟨w, h1, h2.same (fun j i => e3 _ _ _ (by omega) (by omega)), h3.row (fun i _ => e4 _)⟩
section HIST
variable {M : hp_M} {v : HV}
theorem x1_keep (c : CRep (M 0) v) (ho : v.out = 0 ∨ v.out = 1) {nx ln : Nat} (hn : M 12 4 1 = nI nx) (hnx : nx < 8) (hl : M 12 4 2 = nI ln) (hln : ln ≤ 8) : ∃ M', F_X1_keep 0 M = some ((), M') ∧ CRep (M' (2 + nx)) v ∧ M' 12 4 1 = nI ((nx + 1) % 8) ∧ M' 12 4 2 = nI (min (ln + 1) 8) ∧ ∀ g j i : Nat, g ≠ 2 + nx → ¬ (g = 12 ∧ j = 4) → M' g j i = M g j i := by
  unfold F_X1_keep
  rw [hn, if_neg (nI_pos (by omega)), if_neg (show ¬ (8 : Int32) ≤ nI nx from nI_ge (b := 8) hnx (by decide)), if_neg (nI_in hnx (by decide)), if_neg (nI_in hnx (by decide)), nI_clamp (by omega)]
  obtain ⟨M1, e1, c1⟩ := x2_copy (g := 2 + nx) c ho (by omega)
  have h12 : M1 12 = M 12 := c1.2 12 (by omega)
  have k1 : M1 12 4 1 = nI nx := by rw [h12]; exact hn
  have k2 : M1 12 4 2 = nI ln := by rw [h12]; exact hl
  have kk : ∀ x : Int32, hp_p M1 12 4 1 x 12 4 2 = nI ln := fun x => (hp_p_o _ _ _ _ _ (by omega)).trans k2
  have hmin : (if (8 : Int32) < nI (ln + 1) then (8 : Int32) else nI (ln + 1)) = nI (min (ln + 1) 8) := by
    by_cases q : ln + 1 ≤ 8
    · rw [if_neg (show ¬ (8 : Int32) < nI (ln + 1) from nI_nlt (a := 8) q (by decide)), Nat.min_eq_left q]
    · rw [if_pos (show (8 : Int32) < nI (ln + 1) from nI_lt (a := 8) (by omega) (by omega)), Nat.min_eq_right (by omega)]
      rfl
  rw [e1, hp_b_some, k1, nI_1, kk, kk, nI_1, hmin]
  by_cases q : nx + 1 < 8
  · rw [if_neg (show ¬ (8 : Int32) ≤ nI (nx + 1) from nI_ge (b := 8) q (by decide))]
    refine ⟨_, rfl, ?_, ?_, ?_, fun g j i hg hj => ?_⟩
    · rw [hp_p_ne _ _ _ _ (by omega), hp_p_ne _ _ _ _ (by omega)]; exact c1.1
    · rw [hp_p_o (h := by omega), hp_p_s, Nat.mod_eq_of_lt q]
    · rw [hp_p_s]
    · rw [hp_p_o (h := by omega), hp_p_o (h := by omega), c1.2 g hg]
  · rw [if_pos (show (8 : Int32) ≤ nI (nx + 1) from nI_le (a := 8) (by omega) (by omega))]
    refine ⟨_, rfl, ?_, ?_, ?_, fun g j i hg hj => ?_⟩
    · rw [hp_p_ne _ _ _ _ (by omega), hp_p_ne _ _ _ _ (by omega)]; exact c1.1
    · rw [hp_p_o (h := by omega), hp_p_s, show (nx + 1) % 8 = 0 by omega, nI_0]
    · rw [hp_p_s]
    · rw [hp_p_o (h := by omega), hp_p_o (h := by omega), c1.2 g hg]
theorem r_rem58 {r : Int32} {ln : Nat} (hl : M 13 0 5 = nI ln) (hln : ln < 8) : ∃ M', A_X9_remember_58 r M = some (r, M') ∧ M' 13 0 5 = nI (ln + 1) ∧ (∀ i : Nat, i < 242 → M' 13 4 (242 * ln + i) = M 13 2 i) ∧ (∀ i : Nat, i < 242 * ln → M' 13 4 i = M 13 4 i) ∧ ∀ g j i : Nat, ¬ (g = 13 ∧ (j = 4 ∨ (j = 0 ∧ i = 5))) → M' g j i = M g j i := by
  unfold A_X9_remember_58
  obtain ⟨n', M', e, h1, h2, h3⟩ := hp_runs (T := fun n i M1 => L_X9_remember_60 r n (nI i) M1) (I := fun i M1 => (∀ k : Nat, k < i → M1 13 4 (242 * ln + k) = M 13 2 k) ∧ (∀ k : Nat, k < 242 * ln → M1 13 4 k = M 13 4 k) ∧ ∀ g j k : Nat, ¬ (g = 13 ∧ j = 4) → M1 g j k = M g j k) (N := 242) (fun n i M1 hi hM => by
    show ∃ M2, L_X9_remember_60 r (n + 1) (nI i) M1 = L_X9_remember_60 r n (nI (i + 1)) M2 ∧ _
    have e5 : M1 13 0 5 = nI ln := (hM.2.2 13 0 5 (by omega)).trans hl
    have e2 : M1 13 2 i = M 13 2 i := hM.2.2 13 2 i (by omega)
    have ex : (242 : Int32) * nI ln + nI i = nI (242 * ln + i) := by rw [show (242 : Int32) = nI 242 from rfl, nI_mul, nI_add]
    rw [L_X9_remember_60.eq_2, if_neg (show ¬ (242 : Int32) ≤ nI i from nI_ge (a := i) (b := 242) hi (by decide)), if_neg (nI_in hi (by decide)), e5, ex, if_neg (nI_in (by omega) (by decide)), nI_clamp (show i < 2 ^ 31 by omega), nI_clamp (show 242 * ln + i < 2 ^ 31 by omega), nI_1, e2]
    refine ⟨_, rfl, fun k hk => ?_, fun k hk => ?_, fun g j k hg => ?_⟩
    · by_cases q : k = i
      · rw [q, hp_p_s]
      · rw [hp_p_o (h := by omega)]; exact hM.1 k (by omega)
    · rw [hp_p_o (h := by omega)]; exact hM.2.1 k hk
    · rw [hp_p_o (h := by omega)]; exact hM.2.2 g j k hg) hp_fu M (by unfold hp_fu; omega) ⟨fun k hk => absurd hk (by omega), fun _ _ => rfl, fun _ _ _ _ => rfl⟩
  have e5 : M' 13 0 5 = nI ln := (h3 13 0 5 (by omega)).trans hl
  refine ⟨hp_p M' 13 0 5 (nI (ln + 1)), e.trans ?_, hp_p_s _ _ _ _ _, fun i hi => ?_, fun i hi => ?_, fun g j i hg => ?_⟩
  · show L_X9_remember_60 r (n' + 1) (nI 242) M' = _
    rw [L_X9_remember_60.eq_2, if_pos (show (242 : Int32) ≤ nI 242 by decide), e5, nI_1]
  · rw [hp_p_o (h := by omega)]; exact h1 i hi
  · rw [hp_p_o (h := by omega)]; exact h2 i hi
  · rw [hp_p_o (h := by omega)]; exact h3 g j i (by omega)
theorem r_rem {r : Int32} (h0 : 0 ≤ r) {ln : Nat} (hl : M 13 0 5 = nI ln) (hln : ln ≤ 8) : ∃ M', F_X9_remember r M = some (r, M') ∧ M' 13 0 5 = nI (min (ln + 1) 8) ∧ (∀ i : Nat, i < 242 → M' 13 4 (242 * (min (ln + 1) 8 - 1) + i) = M 13 2 i) ∧ (ln < 8 → ∀ i : Nat, i < 242 * ln → M' 13 4 i = M 13 4 i) ∧ (ln = 8 → ∀ i : Nat, i < 1694 → M' 13 4 i = M 13 4 (i + 242)) ∧ ∀ g j i : Nat, ¬ (g = 13 ∧ (j = 4 ∨ (j = 0 ∧ i = 5))) → M' g j i = M g j i := by
  unfold F_X9_remember
  rw [if_pos h0, hl]
  by_cases h8 : ln = 8
  · subst h8
    rw [if_pos (by decide)]
    obtain ⟨n', M1, e, h1, h2⟩ := hp_runs (T := fun n i M1 => L_X9_remember_19 r n (nI (242 + i)) M1) (I := fun i M1 => (∀ k : Nat, M1 13 4 k = if k < i then M 13 4 (k + 242) else M 13 4 k) ∧ ∀ g j k : Nat, ¬ (g = 13 ∧ j = 4) → M1 g j k = M g j k) (N := 1694) (fun n i M1 hi hM => by
      show ∃ M2, L_X9_remember_19 r (n + 1) (nI (242 + i)) M1 = L_X9_remember_19 r n (nI (242 + (i + 1))) M2 ∧ _
      have ex : nI (242 + i) - (242 : Int32) = nI i := by rw [show (242 : Int32) = nI 242 from rfl, ← nI_add]; grind
      have e2 : M1 13 4 (242 + i) = M 13 4 (i + 242) := by rw [hM.1, if_neg (by omega), Nat.add_comm]
      rw [L_X9_remember_19.eq_2, if_neg (show ¬ (1936 : Int32) ≤ nI (242 + i) from nI_ge (b := 1936) (by omega) (by decide)), if_neg (nI_in (by omega) (by decide)), ex, if_neg (nI_in (by omega) (by decide)), nI_clamp (show i < 2 ^ 31 by omega), nI_clamp (show 242 + i < 2 ^ 31 by omega), nI_1, e2]
      refine ⟨_, rfl, fun k => ?_, fun g j k hg => ?_⟩
      · by_cases q : k = i
        · rw [q, hp_p_s, if_pos (by omega)]
        · rw [hp_p_o (h := by omega), hM.1]
          exact ite_iff (by omega)
      · rw [hp_p_o (h := by omega)]; exact hM.2 g j k hg) hp_fu M (by unfold hp_fu; omega) ⟨fun k => (if_neg (by omega)).symm, fun _ _ _ _ => rfl⟩
    have e5 : M1 13 0 5 = nI 8 := (h2 13 0 5 (by omega)).trans hl
    obtain ⟨M2, e2, a1, a2, a3, a4⟩ := r_rem58 (r := r) (M := hp_p M1 13 0 5 (nI 7)) (ln := 7) (hp_p_s _ _ _ _ _) (by decide)
    refine ⟨M2, e.trans (Eq.trans ?_ e2), a1, fun i hi => ?_, fun q => absurd q (by decide), fun _ i hi => ?_, fun g j i hg => ?_⟩
    · show L_X9_remember_19 r (n' + 1) (nI (242 + 1694)) M1 = _
      rw [L_X9_remember_19.eq_2, if_pos (show (1936 : Int32) ≤ nI (242 + 1694) by decide), e5]
      rfl
    · refine (a2 i hi).trans ?_
      rw [hp_p_o (h := by omega)]; exact h2 13 2 i (by omega)
    · rw [a3 i (by omega), hp_p_o (h := by omega), h1, if_pos hi]
    · rw [a4 g j i hg, hp_p_o (h := by omega)]; exact h2 g j i (by omega)
  · rw [if_neg (show ¬ nI ln = (8 : Int32) from fun q => h8 ((nI_eq (b := 8) (by omega) (by decide)).mp q))]
    obtain ⟨M2, e2, a1, a2, a3, a4⟩ := r_rem58 (r := r) hl (show ln < 8 by omega)
    have hm : min (ln + 1) 8 = ln + 1 := Nat.min_eq_left (by omega)
    rw [hm]
    exact ⟨M2, e2, a1, fun i hi => a2 i hi, fun _ i hi => a3 i hi, fun q => absurd q h8, a4⟩
/-- a change: the house as it was is the latest of the history -/
theorem hI_push {nx B : Nat} {ps : List HV} {M' : hp_M} (h : hI nx B ps M) (hg : hv_g B v) (c : CRep (M' (2 + nx)) v) (a1 : M' 12 4 1 = nI ((nx + 1) % 8)) (a2 : M' 12 4 2 = nI (min (ps.length + 1) 8)) (a3 : ∀ g j i : Nat, 2 ≤ g → g < 10 → g ≠ 2 + nx → M' g j i = M g j i) (r1 : M' 13 0 5 = nI (min (ps.length + 1) 8)) (r2 : RRep (fun i => M' 13 4 (242 * (min (ps.length + 1) 8 - 1) + i)) v) (r3 : ps.length < 8 → ∀ i : Nat, i < 242 * ps.length → M' 13 4 i = M 13 4 i) (r4 : ps.length = 8 → ∀ i : Nat, i < 1694 → M' 13 4 i = M 13 4 (i + 242)) : hI ((nx + 1) % 8) B (v :: ps.take 7) M' := by
  obtain ⟨h1, h2, h3, h4, h5, h6⟩ := h
  have hlen : (v :: ps.take 7).length = min (ps.length + 1) 8 := by simp only [List.length_cons, List.length_take]; omega
  refine ⟨by omega, by rw [hlen]; omega, a1, by rw [hlen]; exact a2, by rw [hlen]; exact r1, fun k w hk => ?_⟩
  rw [hlen]
  cases k with
  | zero =>
    have e : v = w := by simpa using hk
    subst e
    refine ⟨hg, ?_, ?_⟩
    · have e2 : (nx + 1) % 8 + 7 - 0 = (nx + 1) % 8 + 7 := by omega
      have e3 : ((nx + 1) % 8 + 7 - 0) % 8 = nx := by omega
      rw [e3]; exact c
    · exact r2
  | succ k =>
    have hk2 : (ps.take 7)[k]? = some w := by simpa using hk
    have hk7 : k < 7 := by
      have := (List.getElem?_eq_some_iff.mp hk2).1
      rw [List.length_take] at this
      omega
    have hk3 : ps[k]? = some w := by rw [List.getElem?_take] at hk2; rw [if_pos hk7] at hk2; exact hk2
    have hkl : k < ps.length := (List.getElem?_eq_some_iff.mp hk3).1
    obtain ⟨b1, b2, b3⟩ := h6 k w hk3
    have e1 : ((nx + 1) % 8 + 7 - (k + 1)) % 8 = (nx + 7 - k) % 8 := by omega
    rw [e1]
    refine ⟨b1, b2.same (fun j i => a3 _ _ _ (by omega) (by omega) (by omega)), b3.row (fun i hi => ?_)⟩
    by_cases q : ps.length < 8
    · have e2 : min (ps.length + 1) 8 - 1 - (k + 1) = ps.length - 1 - k := by omega
      show M' 13 4 (242 * (min (ps.length + 1) 8 - 1 - (k + 1)) + i) = M 13 4 (242 * (ps.length - 1 - k) + i)
      rw [e2]
      exact r3 q _ (by omega)
    · have e2 : min (ps.length + 1) 8 - 1 - (k + 1) = 6 - k := by omega
      show M' 13 4 (242 * (min (ps.length + 1) 8 - 1 - (k + 1)) + i) = M 13 4 (242 * (ps.length - 1 - k) + i)
      rw [e2, r4 (by omega) _ (by omega)]
      congr 1
      omega
theorem hI_nil {B : Nat} (h1 : M 12 4 1 = 0) (h2 : M 12 4 2 = 0) (h3 : M 13 0 5 = 0) : hI 0 B [] M := ⟨by decide, by decide, h1.trans nI_0.symm, h2.trans nI_0.symm, h3.trans nI_0.symm, fun k w hk => by simp at hk⟩
theorem x1_back0 {nx B : Nat} (h : hI nx B [] M) : F_X1_takeBack 0 M = some (0, M) := by
  have e2 : M 12 4 2 = 0 := h.2.2.2.1.trans nI_0
  unfold F_X1_takeBack A_X1_takeBack_18
  rw [e2, if_pos rfl, if_pos rfl]
  split <;> rfl
/-- undo, in the class -/
theorem x1_back {nx B : Nat} {w : HV} {ps : List HV} (h : hI nx B (w :: ps) M) : ∃ M', F_X1_takeBack 0 M = some (1, M') ∧ CRep (M' 0) w ∧ M' 12 4 1 = nI ((nx + 7) % 8) ∧ M' 12 4 2 = nI ps.length ∧ ∀ g j i : Nat, g ≠ 0 → ¬ (g = 12 ∧ j = 4) → M' g j i = M g j i := by
  obtain ⟨h1, h2, h3, h4, h5, h6⟩ := h
  obtain ⟨b1, b2, b3⟩ := h6 0 w rfl
  have hl : (w :: ps).length = ps.length + 1 := rfl
  have hle : ps.length + 1 ≤ 8 := h2
  have key : ∀ z : Nat, z = (nx + 7) % 8 → ∃ M', A_X1_takeBack_18 0 (nI z) M = some (1, M') ∧ CRep (M' 0) w ∧ M' 12 4 1 = nI ((nx + 7) % 8) ∧ M' 12 4 2 = nI ps.length ∧ ∀ g j i : Nat, g ≠ 0 → ¬ (g = 12 ∧ j = 4) → M' g j i = M g j i := by
    intro z hz
    have e1 : (nx + 7 - 0) % 8 = z := by omega
    rw [e1] at b2
    unfold A_X1_takeBack_18
    rw [h4, hl, if_neg (nI_ne0 (by omega) (by omega)), if_neg (show ¬ (8 : Int32) ≤ nI z from nI_ge (b := 8) (by omega) (by decide)), if_neg (nI_in (by omega) (by decide)), if_neg (nI_in (by omega) (by decide)), nI_clamp (by omega)]
    obtain ⟨M1, e2, c1⟩ := x2_copy (g := 0) (b0 := 2 + z) b2 (ok_ou b1.1.1) (by omega)
    have h12 : M1 12 = M 12 := c1.2 12 (by omega)
    have k2 : hp_p M1 12 4 1 (nI z) 12 4 2 = nI (ps.length + 1) := (hp_p_o _ _ _ _ _ (by omega)).trans (by rw [h12]; exact h4)
    rw [e2, hp_b_some, k2, nI_pred]
    refine ⟨_, rfl, ?_, ?_, hp_p_s _ _ _ _ _, fun g j i hg hj => ?_⟩
    · rw [hp_p_ne _ _ _ _ (by omega), hp_p_ne _ _ _ _ (by omega)]; exact c1.1
    · rw [hp_p_o (h := by omega), hp_p_s, hz]
    · rw [hp_p_o (h := by omega), hp_p_o (h := by omega), c1.2 g hg]
  unfold F_X1_takeBack
  rw [h3]
  by_cases q : nx = 0
  · subst q
    rw [if_pos (by rw [nI_0]; decide)]
    exact key 7 (by omega)
  · obtain ⟨m, rfl⟩ : ∃ m, nx = m + 1 := ⟨nx - 1, by omega⟩
    rw [if_neg (nI_nle (by omega) (by omega)), nI_pred]
    exact key m (by omega)
/-- undo, in the reference -/
theorem r_back {nx B : Nat} {w : HV} {ps : List HV} (h : hI nx B (w :: ps) M) : ∃ M', L_X9_undo_26 hp_fu 0 (hp_p M 13 0 5 (M 13 0 5 - 1)) = some (nI ps.length, M') ∧ RRep (M' 13 1) w ∧ M' 13 0 5 = nI ps.length ∧ ∀ g j i : Nat, ¬ (g = 13 ∧ (j = 1 ∨ (j = 0 ∧ i = 5))) → M' g j i = M g j i := by
  obtain ⟨h1, h2, h3, h4, h5, h6⟩ := h
  obtain ⟨b1, b2, b3⟩ := h6 0 w rfl
  have hle : ps.length + 1 ≤ 8 := h2
  have e5 : M 13 0 5 = nI (ps.length + 1) := h5
  have ew : ∀ i : Nat, 242 * ((w :: ps).length - 1 - 0) + i = 242 * ps.length + i := fun i => by simp
  rw [e5, nI_pred]
  obtain ⟨n', M', e, k1, k2⟩ := hp_runs (T := fun n i M1 => L_X9_undo_26 n (nI i) M1) (I := fun i M1 => (∀ k : Nat, k < i → M1 13 1 k = M 13 4 (242 * ps.length + k)) ∧ ∀ g j k : Nat, ¬ (g = 13 ∧ j = 1) → M1 g j k = hp_p M 13 0 5 (nI ps.length) g j k) (N := 242) (fun n i M1 hi hM => by
    show ∃ M2, L_X9_undo_26 (n + 1) (nI i) M1 = L_X9_undo_26 n (nI (i + 1)) M2 ∧ _
    have z5 : M1 13 0 5 = nI ps.length := (hM.2 13 0 5 (by omega)).trans (hp_p_s _ _ _ _ _)
    have z4 : M1 13 4 (242 * ps.length + i) = M 13 4 (242 * ps.length + i) := (hM.2 13 4 _ (by omega)).trans (hp_p_o _ _ _ _ _ (by omega))
    have ex : (242 : Int32) * nI ps.length + nI i = nI (242 * ps.length + i) := by rw [show (242 : Int32) = nI 242 from rfl, nI_mul, nI_add]
    rw [L_X9_undo_26.eq_2, if_neg (show ¬ (242 : Int32) ≤ nI i from nI_ge (a := i) (b := 242) hi (by decide)), z5, ex, if_neg (nI_in (by omega) (by decide)), if_neg (nI_in hi (by decide)), nI_clamp (show i < 2 ^ 31 by omega), nI_clamp (show 242 * ps.length + i < 2 ^ 31 by omega), nI_1, z4]
    refine ⟨_, rfl, fun k hk => ?_, fun g j k hg => ?_⟩
    · by_cases q : k = i
      · rw [q, hp_p_s]
      · rw [hp_p_o (h := by omega)]; exact hM.1 k (by omega)
    · rw [hp_p_o (h := by omega)]; exact hM.2 g j k hg) hp_fu (hp_p M 13 0 5 (nI ps.length)) (by unfold hp_fu; omega) ⟨fun k hk => absurd hk (by omega), fun _ _ _ _ => rfl⟩
  have z5 : M' 13 0 5 = nI ps.length := (k2 13 0 5 (by omega)).trans (hp_p_s _ _ _ _ _)
  refine ⟨M', e.trans ?_, b3.row (fun i hi => ?_), z5, fun g j i hg => ?_⟩
  · show L_X9_undo_26 (n' + 1) (nI 242) M' = _
    rw [L_X9_undo_26.eq_2, if_pos (show (242 : Int32) ≤ nI 242 by decide), z5]
  · rw [k1 i hi]
    show _ = M 13 4 (242 * ((w :: ps).length - 1 - 0) + i)
    rw [ew]
  · rw [k2 g j i (by omega), hp_p_o (h := by omega)]
/-- behind an undo -/
theorem hI_pop {nx B : Nat} {w : HV} {ps : List HV} {M' : hp_M} (h : hI nx B (w :: ps) M) (a1 : M' 12 4 1 = nI ((nx + 7) % 8)) (a2 : M' 12 4 2 = nI ps.length) (a3 : ∀ g j i : Nat, 2 ≤ g → g < 10 → M' g j i = M g j i) (r1 : M' 13 0 5 = nI ps.length) (r2 : ∀ i : Nat, M' 13 4 i = M 13 4 i) : hI ((nx + 7) % 8) B ps M' := by
  obtain ⟨h1, h2, h3, h4, h5, h6⟩ := h
  have hle : ps.length + 1 ≤ 8 := h2
  refine ⟨by omega, by omega, a1, a2, r1, fun k u hk => ?_⟩
  have hkl : k < ps.length := (List.getElem?_eq_some_iff.mp hk).1
  obtain ⟨b1, b2, b3⟩ := h6 (k + 1) u (by simpa using hk)
  have e1 : ((nx + 7) % 8 + 7 - k) % 8 = (nx + 7 - (k + 1)) % 8 := by omega
  rw [e1]
  refine ⟨b1, b2.same (fun j i => a3 _ _ _ (by omega) (by omega)), b3.row (fun i _ => ?_)⟩
  rw [r2]
  show M 13 4 (242 * (ps.length - 1 - k) + i) = M 13 4 (242 * ((w :: ps).length - 1 - (k + 1)) + i)
  have e2 : (w :: ps).length - 1 - (k + 1) = ps.length - 1 - k := by simp only [List.length_cons]; omega
  rw [e2]
end HIST
