/-! ===== questions: sets, numbers of the house, of flats, accounts ===== -/
def hv_lsp (v : HV) (f : Nat) : Nat → Bool := fun k => decide (k ≠ f ∧ v.num k 2 = 0 ∧ v.num k 1 = 1 ∧ v.num k 0 ≤ v.set 3)
/-- how many of the flats -/
def hv_ct (p : Nat → Bool) : Nat → Nat
  | 0 => 0
  | n + 1 => if p n then hv_ct p n + 1 else hv_ct p n
/-- the set as a natural number -/
def hv_nb (p : Nat → Bool) : Nat → Nat
  | 0 => 0
  | n + 1 => if p n then hv_nb p n + 2 ^ n else hv_nb p n
def hp_pc (x : Int32) : Int32 := match F_J6_bitCount_0f7a4 x (fun _ _ _ => 0) with
  | some q => q.1
  | none => 0
theorem hp_pc_eq (x : Int32) (M : hp_M) : F_J6_bitCount_0f7a4 x M = some (hp_pc x, M) := rfl
theorem hp_or_bit : ∀ n : Nat, n < 10 → ∀ a : Nat, a < 2 ^ n → nI a ||| ((1 : Int32) <<< (nI n &&& 31)) = nI (a + 2 ^ n) := by decide +kernel
theorem hp_pc_bit : ∀ n : Nat, n < 10 → ∀ a : Nat, a < 2 ^ n → hp_pc (nI (a + 2 ^ n)) = hp_pc (nI a) + 1 := by decide +kernel
theorem hp_pc_0 : hp_pc (nI 0) = 0 := by decide +kernel
theorem hp_pc_half : ∀ a : Nat, a < 1024 → hp_pc (nI a) = nI (a % 2) + hp_pc (nI (a / 2)) := by decide +kernel
theorem hp_div2 : ∀ a : Nat, a < 1024 → nI a / 2 = nI (a / 2) := by decide +kernel
theorem hv_nb_lt (p : Nat → Bool) : ∀ n : Nat, hv_nb p n < 2 ^ n := by
  intro n
  induction n with
  | zero => exact Nat.one_pos
  | succ n ih =>
    have e : 2 ^ (n + 1) = 2 ^ n + 2 ^ n := by rw [Nat.pow_succ]; omega
    unfold hv_nb
    split
    · omega
    · omega
theorem hv_bits_nb (p : Nat → Bool) : ∀ n : Nat, n ≤ 10 → hv_bits p n = nI (hv_nb p n) := by
  intro n
  induction n with
  | zero => exact fun _ => nI_0.symm
  | succ n ih =>
    intro hn
    have h := hv_nb_lt p n
    have e1 : hv_bits p (n + 1) = if p n then hv_bits p n ||| ((1 : Int32) <<< (nI n &&& 31)) else hv_bits p n := rfl
    have e2 : hv_nb p (n + 1) = if p n then hv_nb p n + 2 ^ n else hv_nb p n := rfl
    rw [e1, e2, ih (by omega)]
    by_cases hp : p n = true
    · rw [if_pos hp, if_pos hp]; exact hp_or_bit n (by omega) _ h
    · rw [if_neg hp, if_neg hp]
theorem hp_pc_ct (p : Nat → Bool) : ∀ n : Nat, n ≤ 10 → hp_pc (nI (hv_nb p n)) = nI (hv_ct p n) := by
  intro n
  induction n with
  | zero => exact fun _ => hp_pc_0.trans nI_0.symm
  | succ n ih =>
    intro hn
    have h := hv_nb_lt p n
    have e1 : hv_ct p (n + 1) = if p n then hv_ct p n + 1 else hv_ct p n := rfl
    have e2 : hv_nb p (n + 1) = if p n then hv_nb p n + 2 ^ n else hv_nb p n := rfl
    rw [e1, e2]
    by_cases hp : p n = true
    · rw [if_pos hp, if_pos hp, hp_pc_bit n (by omega) _ h, ih (by omega), nI_1]
    · rw [if_neg hp, if_neg hp]; exact ih (by omega)
theorem hv_nb_10 (p : Nat → Bool) {n : Nat} (hn : n ≤ 10) : hv_nb p n < 1024 := Nat.lt_of_lt_of_le (hv_nb_lt p n) (Nat.pow_le_pow_right (by decide) hn)
theorem x_bitCount (p : Nat → Bool) {n : Nat} (hn : n ≤ 10) (M : hp_M) : F_J6_bitCount_0f7a4 (hv_bits p n) M = some (nI (hv_ct p n), M) := by
  rw [hp_pc_eq, hv_bits_nb p n hn, hp_pc_ct p n hn]
theorem hv_ct_le (p : Nat → Bool) : ∀ n : Nat, hv_ct p n ≤ n := by
  intro n
  induction n with
  | zero => exact Nat.le_refl _
  | succ n ih =>
    unfold hv_ct
    split
    · omega
    · omega
section ASK1
variable {g : Nat} {M : hp_M} {v : HV}
/-- a number of the house -/
def hv_hn (v : HV) (k : Nat) : Int32 :=
  if k = 0 then nI v.flats else if k = 1 then v.time else if k = 2 then v.ph else if k = 3 then (if v.ph = 0 then -1 else nI v.who) else if k = 4 then v.spoken else if k = 5 then (if v.ph = 2 then v.left else 0) else if k = 6 then v.out else if k = 7 then nI v.queue.length else if k = 8 then nI (hv_ct (fun f => decide (v.num f 2 = 1)) v.flats) else if k = 9 then nI v.slate.length else hv_sum (fun f => v.num f 6) v.flats
theorem x2_hn (c : CRep (M g) v) (ho : v.out = 0 ∨ v.out = 1) {k : Nat} (hk : k < 11) : F_X2_houseNumber g (nI k) M = some (hv_hn v k, M) := by
  have h8 := x2_are c 1
  have hb := x_bitCount (fun f => decide (v.num f 2 = 1)) c.fl10 M
  have h10 := x2_debts c
  unfold F_X2_houseNumber
  rcases (show k = 0 ∨ k = 1 ∨ k = 2 ∨ k = 3 ∨ k = 4 ∨ k = 5 ∨ k = 6 ∨ k = 7 ∨ k = 8 ∨ k = 9 ∨ k = 10 by omega) with rfl | rfl | rfl | rfl | rfl | rfl | rfl | rfl | rfl | rfl | rfl
  · show _ = some (nI v.flats, M)
    rw [if_pos (by decide), c.fl]
  · show _ = some (v.time, M)
    iterate 1 rw [if_neg (by decide)]
    rw [if_pos (by decide), c.ti]
  · show _ = some (v.ph, M)
    iterate 2 rw [if_neg (by decide)]
    rw [if_pos (by decide), c.ph]
  · show _ = some ((if v.ph = 0 then -1 else nI v.who), M)
    iterate 3 rw [if_neg (by decide)]
    rw [if_pos (by decide), c.wh]
  · show _ = some (v.spoken, M)
    iterate 4 rw [if_neg (by decide)]
    rw [if_pos (by decide), c.sp]
  · show _ = some ((if v.ph = 2 then v.left else 0), M)
    iterate 5 rw [if_neg (by decide)]
    rw [if_pos (by decide), c.ph, c.le]
    by_cases h : v.ph = 2
    · rw [if_pos h, if_pos h]
    · rw [if_neg h, if_neg h]
  · show _ = some (v.out, M)
    iterate 6 rw [if_neg (by decide)]
    rw [if_pos (by decide), c.ou]
    rcases ho with h | h
    · rw [if_pos h, h]
    · rw [if_neg (by rw [h]; decide), h]
  · show _ = some (nI v.queue.length, M)
    iterate 7 rw [if_neg (by decide)]
    rw [if_pos (by decide), c.ql]
  · show _ = some (nI (hv_ct (fun f => decide (v.num f 2 = 1)) v.flats), M)
    iterate 8 rw [if_neg (by decide)]
    rw [if_pos (by decide), h8, hp_b_some, hb, hp_b_some]
  · show _ = some (nI v.slate.length, M)
    iterate 9 rw [if_neg (by decide)]
    rw [if_pos (by decide), c.sl]
  · show _ = some (hv_sum (fun f => v.num f 6) v.flats, M)
    iterate 10 rw [if_neg (by decide)]
    rw [h10, hp_b_some]
/-- a number of a flat -/
def hv_fn (v : HV) (f k : Nat) : Int32 := if k = 5 then hv_pl v.queue f 0 else if k = 9 then nI (hv_cnt v.slate f) else v.num f k
theorem x2_fn (c : CRep (M g) v) (h : hv_ok v) {f k : Nat} {a0 : Int32} (e0 : a0 = nI f) (hf : f < 10) (hk : k < 11) : F_X2_flatNumber g a0 (nI k) M = some (hv_fn v f k, M) := by
  unfold F_X2_flatNumber hv_fn
  by_cases h5 : k = 5
  · subst h5
    rw [if_pos (by decide), x4_place c (ok_q10 h) e0 hf, hp_b_some, if_pos rfl]
  · rw [if_neg (show ¬ nI k = (5 : Int32) from fun q => h5 ((nI_eq (b := 5) (by omega) (by decide)).mp q)), if_neg h5]
    by_cases h9 : k = 9
    · subst h9
      rw [if_pos (by decide), x6_count c (ok_s10 h) e0 hf, hp_b_some, if_pos rfl]
    · rw [if_neg (show ¬ nI k = (9 : Int32) from fun q => h9 ((nI_eq (b := 9) (by omega) (by decide)).mp q)), if_neg h9, x2_get c e0 rfl hf hk h5 h9, hp_b_some]
/-- an account -/
def hv_an (v : HV) (k : Nat) : Int32 := if k = 0 then v.time else if k = 10 then v.acc 4 - v.acc 5 - hv_sum (fun f => v.num f 6) v.flats + v.acc 6 - v.acc 7 - nI v.slate.length else v.acc k
theorem x2_an (c : CRep (M g) v) {k : Nat} (hk : k < 11) : F_X2_accountNumber g (nI k) M = some (hv_an v k, M) := by
  unfold F_X2_accountNumber hv_an
  by_cases h0 : k = 0
  · subst h0
    rw [if_pos nI_0, if_pos rfl, c.ti]
  · rw [if_neg (nI_ne0 (by omega) (by omega)), if_neg h0]
    by_cases h10 : k = 10
    · subst h10
      rw [if_pos (by decide), x2_debts c, hp_b_some, if_pos rfl, c.ac 4 (by decide) (by decide), c.ac 5 (by decide) (by decide), c.ac 6 (by decide) (by decide), c.ac 7 (by decide) (by decide), c.sl]
    · rw [if_neg (show ¬ nI k = (10 : Int32) from fun q => h10 ((nI_eq (b := 10) (by omega) (by decide)).mp q)), if_neg h10, if_neg (nI_pos (by omega)), if_neg (show ¬ (10 : Int32) ≤ nI k from nI_ge (b := 10) (by omega) (by decide)), if_neg (nI_in (by omega) (by decide)), nI_clamp (by omega), c.ac k (by omega) (by omega)]
/-- why a flat does not speak -/
def hv_why (v : HV) (f : Nat) : Int32 := if v.num f 2 = 0 then 1 else if v.num f 2 = 1 then 2 else if v.num f 2 = 3 then 0 else if v.ph = 2 then 3 else if v.ph = 1 then 4 else 5
def hv_cause (v : HV) (f : Nat) : Int32 := if hv_why v f = 0 then v.spoken else if hv_why v f = 1 then nI (hv_cnt v.slate f) else if hv_why v f = 2 then v.num f 3 else if hv_why v f = 5 then hv_pl v.queue f 0 else nI v.who
theorem hv_why_ph (h : hv_ok v) {f : Nat} (hw : hv_why v f = 3 ∨ hv_why v f = 4) : v.ph ≠ 0 := by
  intro hp
  unfold hv_why at hw
  rw [hp] at hw
  by_cases h1 : v.num f 2 = 0
  · rw [if_pos h1] at hw; exact absurd hw (by decide)
  · rw [if_neg h1] at hw
    by_cases h2 : v.num f 2 = 1
    · rw [if_pos h2] at hw; exact absurd hw (by decide)
    · rw [if_neg h2] at hw
      by_cases h3 : v.num f 2 = 3
      · rw [if_pos h3] at hw; exact absurd hw (by decide)
      · rw [if_neg h3, if_neg (by decide), if_neg (by decide)] at hw; exact absurd hw (by decide)
theorem hv_why_6 (v : HV) (f : Nat) : hv_why v f = 0 ∨ hv_why v f = 1 ∨ hv_why v f = 2 ∨ hv_why v f = 3 ∨ hv_why v f = 4 ∨ hv_why v f = 5 := by
  unfold hv_why
  split
  · simp
  · split
    · simp
    · split
      · simp
      · split
        · simp
        · split
          · simp
          · simp
end ASK1
