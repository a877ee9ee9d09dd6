/-! ===== sets of flats: who knows whom; the reference's debts ===== -/
section SETS
variable {g : Nat} {M : hp_M} {v : HV}
def hv_knp (v : HV) (f : Nat) : Nat → Bool := fun k => decide (v.set 4 ≤ v.heard k f)
def hv_kop (v : HV) (f : Nat) : Nat → Bool := fun k => decide (v.set 4 ≤ v.heard f k)
theorem hv_bits_t {p : Nat → Bool} {n : Nat} (h : p n = true) : hv_bits p n ||| ((1 : Int32) <<< (nI n &&& 31)) = hv_bits p (n + 1) := (if_pos h).symm
theorem hv_bits_f {p : Nat → Bool} {n : Nat} (h : ¬ p n = true) : hv_bits p n = hv_bits p (n + 1) := (if_neg h).symm
theorem x2_knowers (c : CRep (M g) v) {f : Nat} {a0 : Int32} (e0 : a0 = nI f) (hf : f < 10) : F_X2_knowersOf g a0 M = some (hv_bits (hv_knp v f) v.flats, M) := by
  have h10 := c.fl10
  unfold F_X2_knowersOf
  obtain ⟨n', M', e, h⟩ := hp_runs (T := fun n i M1 => L_X2_knowersOf_4 g a0 n (hv_bits (hv_knp v f) i) (nI i) M1) (I := fun _ M1 => M1 = M) (N := v.flats) (fun n i M1 hi hM => by
    subst hM
    refine ⟨M1, ?_, rfl⟩
    show L_X2_knowersOf_4 g a0 (n + 1) _ (nI i) M1 = L_X2_knowersOf_4 g a0 n _ (nI (i + 1)) M1
    rw [L_X2_knowersOf_4.eq_2, c.fl, if_neg (nI_ge hi (by omega)), x2_mh (f := i) (a0 := nI i) c rfl e0 (by omega) hf, hp_b_some, nI_1, c.st 4 (by decide)]
    by_cases h : v.heard i f < v.set 4
    · rw [if_pos h, hv_bits_f (p := hv_knp v f) (n := i) (by unfold hv_knp; simp; grind)]
    · rw [if_neg h, hv_bits_t (p := hv_knp v f) (n := i) (by unfold hv_knp; simp; grind)]) hp_fu M (by unfold hp_fu; omega) rfl
  subst h
  refine e.trans ?_
  show L_X2_knowersOf_4 g a0 (n' + 1) _ (nI v.flats) M' = _
  rw [L_X2_knowersOf_4.eq_2, c.fl, if_pos (nI_le (Nat.le_refl _) (by omega))]
theorem x2_known (c : CRep (M g) v) {f : Nat} {a0 : Int32} (e0 : a0 = nI f) (hf : f < 10) : F_X2_knownTo g a0 M = some (hv_bits (hv_kop v f) v.flats, M) := by
  have h10 := c.fl10
  unfold F_X2_knownTo
  obtain ⟨n', M', e, h⟩ := hp_runs (T := fun n i M1 => L_X2_knownTo_4 g a0 n (hv_bits (hv_kop v f) i) (nI i) M1) (I := fun _ M1 => M1 = M) (N := v.flats) (fun n i M1 hi hM => by
    subst hM
    refine ⟨M1, ?_, rfl⟩
    show L_X2_knownTo_4 g a0 (n + 1) _ (nI i) M1 = L_X2_knownTo_4 g a0 n _ (nI (i + 1)) M1
    rw [L_X2_knownTo_4.eq_2, c.fl, if_neg (nI_ge hi (by omega)), x2_mh (k := i) (a1 := nI i) c e0 rfl hf (by omega), hp_b_some, nI_1, c.st 4 (by decide)]
    by_cases h : v.heard f i < v.set 4
    · rw [if_pos h, hv_bits_f (p := hv_kop v f) (n := i) (by unfold hv_kop; simp; grind)]
    · rw [if_neg h, hv_bits_t (p := hv_kop v f) (n := i) (by unfold hv_kop; simp; grind)]) hp_fu M (by unfold hp_fu; omega) rfl
  subst h
  refine e.trans ?_
  show L_X2_knownTo_4 g a0 (n' + 1) _ (nI v.flats) M' = _
  rw [L_X2_knownTo_4.eq_2, c.fl, if_pos (nI_le (Nat.le_refl _) (by omega))]
theorem r_knowers (c : RRep (M 13 1) v) {f : Nat} {a0 : Int32} (e0 : a0 = nI f) (hf : f < 10) : F_X9_knowers a0 M = some (hv_bits (hv_knp v f) v.flats, M) := by
  have h10 := c.fl10
  unfold F_X9_knowers
  obtain ⟨n', M', e, h⟩ := hp_runs (T := fun n i M1 => L_X9_knowers_4 a0 n (hv_bits (hv_knp v f) i) (nI i) M1) (I := fun _ M1 => M1 = M) (N := v.flats) (fun n i M1 hi hM => by
    subst hM
    refine ⟨M1, ?_, rfl⟩
    show L_X9_knowers_4 a0 (n + 1) _ (nI i) M1 = L_X9_knowers_4 a0 n _ (nI (i + 1)) M1
    rw [L_X9_knowers_4.eq_2, c.fl, if_neg (nI_ge hi (by omega)), r_heard (f := i) (a0 := nI i) c rfl e0 (by omega) hf, hp_b_some, nI_1, show M1 13 1 11 = v.set 4 from c.st 4 (by decide), Int32.or_zero]
    by_cases h : v.heard i f < v.set 4
    · rw [if_pos h, hv_bits_f (p := hv_knp v f) (n := i) (by unfold hv_knp; simp; grind)]
    · rw [if_neg h, hv_bits_t (p := hv_knp v f) (n := i) (by unfold hv_knp; simp; grind)]) hp_fu M (by unfold hp_fu; omega) rfl
  subst h
  refine e.trans ?_
  show L_X9_knowers_4 a0 (n' + 1) _ (nI v.flats) M' = _
  rw [L_X9_knowers_4.eq_2, c.fl, if_pos (nI_le (Nat.le_refl _) (by omega))]
theorem r_known (c : RRep (M 13 1) v) {f : Nat} {a0 : Int32} (e0 : a0 = nI f) (hf : f < 10) : F_X9_known a0 M = some (hv_bits (hv_kop v f) v.flats, M) := by
  have h10 := c.fl10
  unfold F_X9_known
  obtain ⟨n', M', e, h⟩ := hp_runs (T := fun n i M1 => L_X9_known_4 a0 n (hv_bits (hv_kop v f) i) (nI i) M1) (I := fun _ M1 => M1 = M) (N := v.flats) (fun n i M1 hi hM => by
    subst hM
    refine ⟨M1, ?_, rfl⟩
    show L_X9_known_4 a0 (n + 1) _ (nI i) M1 = L_X9_known_4 a0 n _ (nI (i + 1)) M1
    rw [L_X9_known_4.eq_2, c.fl, if_neg (nI_ge hi (by omega)), r_heard (k := i) (a1 := nI i) c e0 rfl hf (by omega), hp_b_some, nI_1, show M1 13 1 11 = v.set 4 from c.st 4 (by decide), Int32.or_zero]
    by_cases h : v.heard f i < v.set 4
    · rw [if_pos h, hv_bits_f (p := hv_kop v f) (n := i) (by unfold hv_kop; simp; grind)]
    · rw [if_neg h, hv_bits_t (p := hv_kop v f) (n := i) (by unfold hv_kop; simp; grind)]) hp_fu M (by unfold hp_fu; omega) rfl
  subst h
  refine e.trans ?_
  show L_X9_known_4 a0 (n' + 1) _ (nI v.flats) M' = _
  rw [L_X9_known_4.eq_2, c.fl, if_pos (nI_le (Nat.le_refl _) (by omega))]
theorem r_debts (c : RRep (M 13 1) v) : F_X9_debts M = some (hv_sum (fun f => v.num f 6) v.flats, M) := by
  have h10 := c.fl10
  unfold F_X9_debts
  obtain ⟨n', M', e, h⟩ := hp_runs (T := fun n i M1 => L_X9_debts_4 n (hv_sum (fun f => v.num f 6) i) (nI i) M1) (I := fun _ M1 => M1 = M) (N := v.flats) (fun n i M1 hi hM => by
    subst hM
    refine ⟨M1, ?_, rfl⟩
    show L_X9_debts_4 (n + 1) _ (nI i) M1 = L_X9_debts_4 n _ (nI (i + 1)) M1
    rw [L_X9_debts_4.eq_2, c.fl, if_neg (nI_ge hi (by omega)), r_g5 (f := i) c rfl (by omega), hp_b_some, nI_1]
    rfl) hp_fu M (by unfold hp_fu; omega) rfl
  subst h
  refine e.trans ?_
  show L_X9_debts_4 (n' + 1) _ (nI v.flats) M' = _
  rw [L_X9_debts_4.eq_2, c.fl, if_pos (nI_le (Nat.le_refl _) (by omega))]
end SETS
