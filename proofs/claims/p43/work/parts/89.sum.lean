/-! ===== the checksum ===== -/
def hv_ls (s : Nat → Int32) : Nat → Int64 → Int64
  | 0, x => x
  | n + 1, x => 31 * hv_ls s n x + (s n).toInt64
def hv_sl (v : HV) (j : Nat) : Int32 := match v.slate[j / 2]? with
  | some x => if j % 2 = 0 then nI x.1 else x.2
  | none => 0
def hv_lf (v : HV) (f : Nat) (x : Int64) : Int64 := hv_ls (fun k => v.heard f k) v.flats (hv_ls (fun k => hv_fn v f k) 11 x)
def hv_lfs (v : HV) : Nat → Int64 → Int64
  | 0, x => x
  | n + 1, x => hv_lf v n (hv_lfs v n x)
def hv_cs1 (v : HV) (x : Int64) : Int64 := hv_ls (fun k => hv_an v k) 10 x
def hv_cs2 (v : HV) (x : Int64) : Int64 := hv_cs1 v (hv_ls (fun k => hv_sl v k) (2 * v.slate.length) x)
def hv_cs3 (v : HV) (x : Int64) : Int64 := hv_cs2 v (hv_lfs v v.flats x)
def hv_cs4 (v : HV) (x : Int64) : Int64 := hv_cs3 v (hv_ls (fun k => v.set k) 6 x)
/-- the checksum of a house -/
def hv_cs (v : HV) : Int64 := hv_cs4 v (hv_ls (fun k => hv_hn v k) 11 0)
theorem hv_sl_0 {v : HV} {i : Nat} {x : Nat × Int32} (h : v.slate[i]? = some x) : hv_sl v (2 * i) = nI x.1 ∧ hv_sl v (2 * i + 1) = x.2 := by
  unfold hv_sl
  have e1 : 2 * i / 2 = i := by omega
  have e2 : (2 * i + 1) / 2 = i := by omega
  rw [e1, e2, h]
  refine ⟨?_, ?_⟩
  · show (if 2 * i % 2 = 0 then nI x.1 else x.2) = nI x.1
    rw [if_pos (by omega)]
  · show (if (2 * i + 1) % 2 = 0 then nI x.1 else x.2) = x.2
    rw [if_neg (by omega)]
section CSUM
variable {M : hp_M} {v : HV}
theorem x8_cs1 (c : CRep (M 0) v) (x : Int64) : L_X8_checksum_150 hp_fu x 0 M = some (hv_cs1 v x, M) := by
  obtain ⟨n', M', e, h⟩ := hp_runs (T := fun n i M1 => L_X8_checksum_150 n (hv_ls (fun k => hv_an v k) i x) (nI i) M1) (I := fun _ M1 => M1 = M) (N := 10) (fun n i M1 hi hM => by
    subst hM
    refine ⟨M1, ?_, rfl⟩
    show L_X8_checksum_150 (n + 1) _ (nI i) M1 = L_X8_checksum_150 n _ (nI (i + 1)) M1
    rw [L_X8_checksum_150.eq_2, if_neg (show ¬ (10 : Int32) ≤ nI i from nI_ge (b := 10) hi (by decide)), x2_an c (by omega), hp_b_some, nI_1]
    rfl) hp_fu M (by unfold hp_fu; omega) rfl
  subst h
  refine e.trans ?_
  show L_X8_checksum_150 (n' + 1) _ (nI 10) M' = _
  rw [L_X8_checksum_150.eq_2, if_pos (show (10 : Int32) ≤ nI 10 by decide)]
  rfl
theorem x8_cs2 (c : CRep (M 0) v) (x : Int64) : L_X8_checksum_90 hp_fu x 0 M = some (hv_cs2 v x, M) := by
  have h8 := c.s8
  obtain ⟨n', M', e, h⟩ := hp_runs (T := fun n i M1 => L_X8_checksum_90 n (hv_ls (fun k => hv_sl v k) (2 * i) x) (nI i) M1) (I := fun _ M1 => M1 = M) (N := v.slate.length) (fun n i M1 hi hM => by
    subst hM
    refine ⟨M1, ?_, rfl⟩
    obtain ⟨y, hy⟩ : ∃ y, v.slate[i]? = some y := ⟨_, List.getElem?_eq_getElem hi⟩
    obtain ⟨s0, s1⟩ := hv_sl_0 hy
    show L_X8_checksum_90 (n + 1) _ (nI i) M1 = L_X8_checksum_90 n (hv_ls (fun k => hv_sl v k) (2 * i + 1 + 1) x) (nI (i + 1)) M1
    rw [L_X8_checksum_90.eq_2, c.sl, if_neg (nI_ge hi (by omega)), x6_flatAt (a0 := nI i) c rfl hy, hp_b_some, x6_minuteAt (a0 := nI i) c rfl hy, hp_b_some, nI_1, ← s0, ← s1]
    rfl) hp_fu M (by unfold hp_fu; omega) rfl
  subst h
  refine e.trans ?_
  show L_X8_checksum_90 (n' + 1) _ (nI v.slate.length) M' = _
  rw [L_X8_checksum_90.eq_2, c.sl, if_pos (nI_le (Nat.le_refl _) (by omega)), x8_cs1 c]
  rfl
theorem x8_lf (c : CRep (M 0) v) (hk : hv_ok v) {f : Nat} (hf : f < 10) (x : Int64) : F_X8_checksumWithFlat x (nI f) M = some (hv_lf v f x, M) := by
  have h10 := c.fl10
  have key : ∀ y : Int64, L_X8_checksumWithFlat_42 x (nI f) hp_fu y 0 M = some (hv_ls (fun k => v.heard f k) v.flats y, M) := by
    intro y
    obtain ⟨n', M', e, h⟩ := hp_runs (T := fun n i M1 => L_X8_checksumWithFlat_42 x (nI f) n (hv_ls (fun k => v.heard f k) i y) (nI i) M1) (I := fun _ M1 => M1 = M) (N := v.flats) (fun n i M1 hi hM => by
      subst hM
      refine ⟨M1, ?_, rfl⟩
      show L_X8_checksumWithFlat_42 x (nI f) (n + 1) _ (nI i) M1 = L_X8_checksumWithFlat_42 x (nI f) n _ (nI (i + 1)) M1
      rw [L_X8_checksumWithFlat_42.eq_2, c.fl, if_neg (nI_ge hi (by omega)), x2_mh (a0 := nI f) (a1 := nI i) c rfl rfl hf (by omega), hp_b_some, nI_1]
      rfl) hp_fu M (by unfold hp_fu; omega) rfl
    subst h
    refine e.trans ?_
    show L_X8_checksumWithFlat_42 x (nI f) (n' + 1) _ (nI v.flats) M' = _
    rw [L_X8_checksumWithFlat_42.eq_2, c.fl, if_pos (nI_le (Nat.le_refl _) (by omega))]
  unfold F_X8_checksumWithFlat
  obtain ⟨n', M', e, h⟩ := hp_runs (T := fun n i M1 => L_X8_checksumWithFlat_6 x (nI f) n (hv_ls (fun k => hv_fn v f k) i x) (nI i) M1) (I := fun _ M1 => M1 = M) (N := 11) (fun n i M1 hi hM => by
    subst hM
    refine ⟨M1, ?_, rfl⟩
    show L_X8_checksumWithFlat_6 x (nI f) (n + 1) _ (nI i) M1 = L_X8_checksumWithFlat_6 x (nI f) n _ (nI (i + 1)) M1
    rw [L_X8_checksumWithFlat_6.eq_2, if_neg (show ¬ (11 : Int32) ≤ nI i from nI_ge (b := 11) hi (by decide)), x2_fn (a0 := nI f) c hk rfl hf hi, hp_b_some, nI_1]
    rfl) hp_fu M (by unfold hp_fu; omega) rfl
  subst h
  refine e.trans ?_
  show L_X8_checksumWithFlat_6 x (nI f) (n' + 1) _ (nI 11) M' = _
  rw [L_X8_checksumWithFlat_6.eq_2, if_pos (show (11 : Int32) ≤ nI 11 by decide), key]
  rfl
theorem x8_cs3 (c : CRep (M 0) v) (hk : hv_ok v) (x : Int64) : L_X8_checksum_64 hp_fu x 0 M = some (hv_cs3 v x, M) := by
  have h10 := c.fl10
  obtain ⟨n', M', e, h⟩ := hp_runs (T := fun n i M1 => L_X8_checksum_64 n (hv_lfs v i x) (nI i) M1) (I := fun _ M1 => M1 = M) (N := v.flats) (fun n i M1 hi hM => by
    subst hM
    refine ⟨M1, ?_, rfl⟩
    show L_X8_checksum_64 (n + 1) _ (nI i) M1 = L_X8_checksum_64 n _ (nI (i + 1)) M1
    rw [L_X8_checksum_64.eq_2, c.fl, if_neg (nI_ge hi (by omega)), x8_lf c hk (by omega), hp_b_some, nI_1]
    rfl) hp_fu M (by unfold hp_fu; omega) rfl
  subst h
  refine e.trans ?_
  show L_X8_checksum_64 (n' + 1) _ (nI v.flats) M' = _
  rw [L_X8_checksum_64.eq_2, c.fl, if_pos (nI_le (Nat.le_refl _) (by omega)), x8_cs2 c]
  rfl
theorem x8_cs4 (c : CRep (M 0) v) (hk : hv_ok v) (x : Int64) : L_X8_checksum_34 hp_fu x 0 M = some (hv_cs4 v x, M) := by
  obtain ⟨n', M', e, h⟩ := hp_runs (T := fun n i M1 => L_X8_checksum_34 n (hv_ls (fun k => v.set k) i x) (nI i) M1) (I := fun _ M1 => M1 = M) (N := 6) (fun n i M1 hi hM => by
    subst hM
    refine ⟨M1, ?_, rfl⟩
    show L_X8_checksum_34 (n + 1) _ (nI i) M1 = L_X8_checksum_34 n _ (nI (i + 1)) M1
    rw [L_X8_checksum_34.eq_2, if_neg (show ¬ (6 : Int32) ≤ nI i from nI_ge (b := 6) hi (by decide)), x2_sn (a0 := nI i) c rfl hi, hp_b_some, nI_1]
    rfl) hp_fu M (by unfold hp_fu; omega) rfl
  subst h
  refine e.trans ?_
  show L_X8_checksum_34 (n' + 1) _ (nI 6) M' = _
  rw [L_X8_checksum_34.eq_2, if_pos (show (6 : Int32) ≤ nI 6 by decide), x8_cs3 c hk]
  rfl
theorem x8_cs (c : CRep (M 0) v) (hk : hv_ok v) : F_X8_checksum M = some (hv_cs v, M) := by
  unfold F_X8_checksum
  obtain ⟨n', M', e, h⟩ := hp_runs (T := fun n i M1 => L_X8_checksum_4 n (hv_ls (fun k => hv_hn v k) i 0) (nI i) M1) (I := fun _ M1 => M1 = M) (N := 11) (fun n i M1 hi hM => by
    subst hM
    refine ⟨M1, ?_, rfl⟩
    show L_X8_checksum_4 (n + 1) _ (nI i) M1 = L_X8_checksum_4 n _ (nI (i + 1)) M1
    rw [L_X8_checksum_4.eq_2, if_neg (show ¬ (10 : Int32) < nI i from nI_nlt (a := 10) (by omega) (by decide)), x2_hn c (ok_ou hk) hi, hp_b_some, nI_1]
    rfl) hp_fu M (by unfold hp_fu; omega) rfl
  subst h
  refine e.trans ?_
  show L_X8_checksum_4 (n' + 1) _ (nI 11) M' = _
  rw [L_X8_checksum_4.eq_2, if_pos (show (10 : Int32) < nI 11 by decide), x8_cs4 c hk]
  rfl
end CSUM
