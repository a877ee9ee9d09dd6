/-! ===== the class's single numbers ===== -/
theorem nI_mul (a b : Nat) : nI a * nI b = nI (a * b) := (Int32.ofNat_mul a b).symm
theorem nI_lt_lit {a b : Nat} (ha : a < 2 ^ 31) (hb : b < 2 ^ 31) : (nI a < nI b) = (a < b) := propext (nI_ltI ha hb)
theorem hp_cell_ix {f k m n : Nat} (hm : f * n + k < m) (hM : m < 2 ^ 31) : ¬ (nI f * nI n + nI k < 0) ∧ ¬ (nI m ≤ nI f * nI n + nI k) ∧ ¬ (nI f * nI n + nI k < 0 ∨ m ≤ (nI f * nI n + nI k).toNatClampNeg) ∧ (nI f * nI n + nI k).toNatClampNeg = f * n + k := by
  rw [nI_mul, nI_add]
  exact ⟨nI_pos (by omega), nI_ge hm hM, nI_in hm hM, nI_clamp (by omega)⟩
section CLS
variable {g : Nat} {M : hp_M} {v : HV}
theorem x2_get (c : CRep (M g) v) {f k : Nat} {a0 a1 : Int32} (e0 : a0 = nI f) (e1 : a1 = nI k) (hf : f < 10) (hk : k < 11) (h5 : k ≠ 5) (h9 : k ≠ 9) : F_X2_get g a0 a1 M = some (v.num f k, M) := by
  subst e0; subst e1
  obtain ⟨h1, h2, h3, h4⟩ := hp_cell_ix (f := f) (k := k) (n := 11) (m := 110) (by omega) (by decide)
  unfold F_X2_get
  rw [show (11 : Int32) = nI 11 from rfl, show (110 : Int32) = nI 110 from rfl, if_neg h1, if_neg h2, if_neg h3, h4, Nat.mul_comm f 11]
  rw [c.nu f k hf hk h5 h9]
theorem x2_put {f k : Nat} {a0 a1 x : Int32} (e0 : a0 = nI f) (e1 : a1 = nI k) (hf : f < 10) (hk : k < 11) : F_X2_put g a0 a1 x M = some ((), hp_p M g 3 (11 * f + k) x) := by
  subst e0; subst e1
  obtain ⟨h1, h2, h3, h4⟩ := hp_cell_ix (f := f) (k := k) (n := 11) (m := 110) (by omega) (by decide)
  unfold F_X2_put
  rw [show (11 : Int32) = nI 11 from rfl, show (110 : Int32) = nI 110 from rfl, if_neg h1, if_neg h2, if_neg h3, h4, Nat.mul_comm f 11]
theorem x2_g0 (c : CRep (M g) v) {f : Nat} {a0 : Int32} (e0 : a0 = nI f) (hf : f < 10) : F_X2_get g a0 0 M = some (v.num f 0, M) := x2_get (a1 := 0) (k := 0) c e0 rfl hf (by decide) (by decide) (by decide)
theorem x2_p0 {f : Nat} {a0 x : Int32} (e0 : a0 = nI f) (hf : f < 10) : F_X2_put g a0 0 x M = some ((), hp_p M g 3 (11 * f + 0) x) := x2_put (a1 := 0) (k := 0) e0 rfl hf (by decide)
theorem x2_g1 (c : CRep (M g) v) {f : Nat} {a0 : Int32} (e0 : a0 = nI f) (hf : f < 10) : F_X2_get g a0 1 M = some (v.num f 1, M) := x2_get (a1 := 1) (k := 1) c e0 rfl hf (by decide) (by decide) (by decide)
theorem x2_p1 {f : Nat} {a0 x : Int32} (e0 : a0 = nI f) (hf : f < 10) : F_X2_put g a0 1 x M = some ((), hp_p M g 3 (11 * f + 1) x) := x2_put (a1 := 1) (k := 1) e0 rfl hf (by decide)
theorem x2_g2 (c : CRep (M g) v) {f : Nat} {a0 : Int32} (e0 : a0 = nI f) (hf : f < 10) : F_X2_get g a0 2 M = some (v.num f 2, M) := x2_get (a1 := 2) (k := 2) c e0 rfl hf (by decide) (by decide) (by decide)
theorem x2_p2 {f : Nat} {a0 x : Int32} (e0 : a0 = nI f) (hf : f < 10) : F_X2_put g a0 2 x M = some ((), hp_p M g 3 (11 * f + 2) x) := x2_put (a1 := 2) (k := 2) e0 rfl hf (by decide)
theorem x2_g3 (c : CRep (M g) v) {f : Nat} {a0 : Int32} (e0 : a0 = nI f) (hf : f < 10) : F_X2_get g a0 3 M = some (v.num f 3, M) := x2_get (a1 := 3) (k := 3) c e0 rfl hf (by decide) (by decide) (by decide)
theorem x2_p3 {f : Nat} {a0 x : Int32} (e0 : a0 = nI f) (hf : f < 10) : F_X2_put g a0 3 x M = some ((), hp_p M g 3 (11 * f + 3) x) := x2_put (a1 := 3) (k := 3) e0 rfl hf (by decide)
theorem x2_g4 (c : CRep (M g) v) {f : Nat} {a0 : Int32} (e0 : a0 = nI f) (hf : f < 10) : F_X2_get g a0 4 M = some (v.num f 4, M) := x2_get (a1 := 4) (k := 4) c e0 rfl hf (by decide) (by decide) (by decide)
theorem x2_p4 {f : Nat} {a0 x : Int32} (e0 : a0 = nI f) (hf : f < 10) : F_X2_put g a0 4 x M = some ((), hp_p M g 3 (11 * f + 4) x) := x2_put (a1 := 4) (k := 4) e0 rfl hf (by decide)
theorem x2_g6 (c : CRep (M g) v) {f : Nat} {a0 : Int32} (e0 : a0 = nI f) (hf : f < 10) : F_X2_get g a0 6 M = some (v.num f 6, M) := x2_get (a1 := 6) (k := 6) c e0 rfl hf (by decide) (by decide) (by decide)
theorem x2_p6 {f : Nat} {a0 x : Int32} (e0 : a0 = nI f) (hf : f < 10) : F_X2_put g a0 6 x M = some ((), hp_p M g 3 (11 * f + 6) x) := x2_put (a1 := 6) (k := 6) e0 rfl hf (by decide)
theorem x2_g7 (c : CRep (M g) v) {f : Nat} {a0 : Int32} (e0 : a0 = nI f) (hf : f < 10) : F_X2_get g a0 7 M = some (v.num f 7, M) := x2_get (a1 := 7) (k := 7) c e0 rfl hf (by decide) (by decide) (by decide)
theorem x2_p7 {f : Nat} {a0 x : Int32} (e0 : a0 = nI f) (hf : f < 10) : F_X2_put g a0 7 x M = some ((), hp_p M g 3 (11 * f + 7) x) := x2_put (a1 := 7) (k := 7) e0 rfl hf (by decide)
theorem x2_g8 (c : CRep (M g) v) {f : Nat} {a0 : Int32} (e0 : a0 = nI f) (hf : f < 10) : F_X2_get g a0 8 M = some (v.num f 8, M) := x2_get (a1 := 8) (k := 8) c e0 rfl hf (by decide) (by decide) (by decide)
theorem x2_p8 {f : Nat} {a0 x : Int32} (e0 : a0 = nI f) (hf : f < 10) : F_X2_put g a0 8 x M = some ((), hp_p M g 3 (11 * f + 8) x) := x2_put (a1 := 8) (k := 8) e0 rfl hf (by decide)
theorem x2_g10 (c : CRep (M g) v) {f : Nat} {a0 : Int32} (e0 : a0 = nI f) (hf : f < 10) : F_X2_get g a0 10 M = some (v.num f 10, M) := x2_get (a1 := 10) (k := 10) c e0 rfl hf (by decide) (by decide) (by decide)
theorem x2_p10 {f : Nat} {a0 x : Int32} (e0 : a0 = nI f) (hf : f < 10) : F_X2_put g a0 10 x M = some ((), hp_p M g 3 (11 * f + 10) x) := x2_put (a1 := 10) (k := 10) e0 rfl hf (by decide)
theorem x2_mh (c : CRep (M g) v) {f k : Nat} {a0 a1 : Int32} (e0 : a0 = nI f) (e1 : a1 = nI k) (hf : f < 10) (hk : k < 10) : F_X2_minutesHeard g a0 a1 M = some (v.heard f k, M) := by
  subst e0; subst e1
  obtain ⟨h1, h2, h3, h4⟩ := hp_cell_ix (f := f) (k := k) (n := 10) (m := 100) (by omega) (by decide)
  unfold F_X2_minutesHeard
  rw [show (10 : Int32) = nI 10 from rfl, show (100 : Int32) = nI 100 from rfl, if_neg h1, if_neg h2, if_neg h3, h4, Nat.mul_comm f 10]
  rw [c.he f k hf hk]
/-- a house of the class is now so; the others are as they were -/
def CS (g : Nat) (M : hp_M) (v : HV) (M' : hp_M) : Prop := CRep (M' g) v ∧ ∀ g' : Nat, g' ≠ g → M' g' = M g'
theorem CS.tr {M1 M2 : hp_M} {v1 v2 : HV} (h1 : CS g M v1 M1) (h2 : CS g M1 v2 M2) : CS g M v2 M2 := ⟨h2.1, fun g' hg => (h2.2 g' hg).trans (h1.2 g' hg)⟩
theorem CS.rf (c : CRep (M g) v) : CS g M v M := ⟨c, fun _ _ => rfl⟩
theorem CS.num (c : CRep (M g) v) {f k : Nat} {x : Int32} (hf : f < 10) (hk : k < 11) : CS g M (v.s_num (up2 v.num f k x)) (hp_p M g 3 (11 * f + k) x) := ⟨by rw [hp_p_eq]; exact c.pnum hf hk, fun g' hg => hp_p_ne M _ _ _ hg⟩
theorem CS.acc (c : CRep (M g) v) {i : Nat} {x : Int32} : CS g M (v.s_acc (up1 v.acc i x)) (hp_p M g 2 i x) := ⟨by rw [hp_p_eq]; exact c.pacc, fun g' hg => hp_p_ne M _ _ _ hg⟩
theorem CS.set (c : CRep (M g) v) {i : Nat} {x : Int32} (hi : i < 6) : CS g M (v.s_set (up1 v.set i x)) (hp_p M g 1 i x) := ⟨by rw [hp_p_eq]; exact c.pset hi, fun g' hg => hp_p_ne M _ _ _ hg⟩
theorem CS.heard (c : CRep (M g) v) {f k : Nat} {x : Int32} (hf : f < 10) (hk : k < 10) : CS g M (v.s_heard (up2 v.heard f k x)) (hp_p M g 4 (10 * f + k) x) := ⟨by rw [hp_p_eq]; exact c.pheard hf hk, fun g' hg => hp_p_ne M _ _ _ hg⟩
theorem x2_hom (c : CRep (M g) v) {f k : Nat} {a0 a1 : Int32} (e0 : a0 = nI f) (e1 : a1 = nI k) (hf : f < 10) (hk : k < 10) : ∃ M', F_X2_hearOneMinute g a0 a1 M = some ((), M') ∧ CS g M ((v.s_heard (up2 v.heard f k (v.heard f k + 1))).s_acc (up1 v.acc 9 (v.acc 9 + 1))) M' := by
  subst e0; subst e1
  obtain ⟨h1, h2, h3, h4⟩ := hp_cell_ix (f := f) (k := k) (n := 10) (m := 100) (by omega) (by decide)
  unfold F_X2_hearOneMinute
  have e : ∀ x : Int32, hp_p M g 4 (10 * f + k) x g 2 9 = M g 2 9 := fun x => by simp [hp_p]
  rw [show (10 : Int32) = nI 10 from rfl, show (100 : Int32) = nI 100 from rfl, if_neg h1, if_neg h2, if_neg h3, if_neg h3, h4, Nat.mul_comm f 10, e, c.he f k hf hk, c.ac 9 (by decide) (by decide)]
  have c1 := CS.heard (x := v.heard f k + 1) c hf hk
  exact ⟨_, rfl, c1.tr (CS.acc (i := 9) (x := v.acc 9 + 1) c1.1)⟩
theorem x2_sn (c : CRep (M g) v) {i : Nat} {a0 : Int32} (e0 : a0 = nI i) (hi : i < 6) : F_X2_settingNumber g a0 M = some (v.set i, M) := by
  subst e0
  unfold F_X2_settingNumber
  rw [if_neg (nI_pos (by omega)), if_neg (show ¬ (6 : Int32) ≤ nI i from nI_ge hi (by decide)), if_neg (nI_in hi (by decide)), nI_clamp (by omega), c.st i hi]
theorem x2_cs (c : CRep (M g) v) {i : Nat} {a0 x : Int32} (e0 : a0 = nI i) (hi : i < 6) : ∃ M', F_X2_changeSetting g a0 x M = some (v.set i, M') ∧ CS g M (v.s_set (up1 v.set i x)) M' := by
  unfold F_X2_changeSetting
  rw [x2_sn c e0 hi, hp_b_some]
  subst e0
  rw [if_neg (nI_pos (by omega)), if_neg (show ¬ (6 : Int32) ≤ nI i from nI_ge hi (by decide)), if_neg (nI_in hi (by decide)), nI_clamp (by omega)]
  exact ⟨_, rfl, CS.set c hi⟩
theorem x2_called (c : CRep (M g) v) {f : Nat} {a0 : Int32} (e0 : a0 = nI f) (hf : f < 10) (hw : v.who < 10) : F_X2_isCalled g a0 M = some (if v.ph = 1 ∧ v.who = f then 1 else 0, M) := by
  subst e0
  unfold F_X2_isCalled
  rw [c.ph, c.wh]
  by_cases h : v.ph = 1
  · have e : (if v.ph = 0 then (-1 : Int32) else nI v.who) = nI v.who := if_neg (by rw [h]; decide)
    rw [e, if_pos h]
    by_cases h2 : v.who = f
    · rw [if_pos (by rw [h2]), if_pos ⟨h, h2⟩]
    · rw [if_neg (fun q => h2 ((nI_eq (by omega) (by omega)).mp q)), if_neg (fun q => h2 q.2)]
  · rw [if_neg h, if_neg (fun q => h q.1)]
/-- what minutes cost -/
def hv_cost (v : HV) (m : Int32) : Int32 := v.set 2 * ((m + v.set 1 - 1) / v.set 1)
theorem x2_cost (c : CRep (M g) v) (hu : 0 < v.set 1) (m : Int32) : F_X2_costOf g m M = some (hv_cost v m, M) := by
  unfold F_X2_costOf
  rw [c.st 1 (by decide), c.st 2 (by decide), if_neg (by grind), if_neg (by grind)]
  rfl
theorem x2_lis (c : CRep (M g) v) {f : Nat} {a0 : Int32} (e0 : a0 = nI f) (hf : f < 10) : F_X2_isListener g a0 M = some (if v.num f 2 = 0 ∧ v.num f 1 = 1 ∧ v.num f 0 ≤ v.set 3 then 1 else 0, M) := by
  unfold F_X2_isListener
  rw [x2_g2 c e0 hf, hp_b_some]
  rw [x2_g1 c e0 hf, hp_b_some]
  rw [x2_g0 c e0 hf, hp_b_some]
  rw [c.st 3 (by decide)]
  by_cases h1 : v.num f 2 = 0
  · rw [if_pos h1]
    by_cases h2 : v.num f 1 = 1
    · rw [if_pos h2]
      by_cases h3 : v.set 3 < v.num f 0
      · rw [if_pos h3, if_neg (fun q => by have := q.2.2; grind)]
      · rw [if_neg h3, if_pos ⟨h1, h2, by grind⟩]
    · rw [if_neg h2, if_neg (fun q => h2 q.2.1)]
  · rw [if_neg h1, if_neg (fun q => h1 q.1)]
end CLS
