/-! ===== questions: sets, numbers of the house, of flats, accounts ===== -/
def hv_lsp (v : HV) (f : Nat) : Nat → Bool := fun k => decide (k ≠ f ∧ v.num k 2 = 0 ∧ v.num k 1 = 1 ∧ v.num k 0 ≤ v.set 3)
/-- how many of the flats -/
def hv_ct (p : Nat → Bool) : Nat → Nat
  | 0 => 0
  | n + 1 => if p n then hv_ct p n + 1 else hv_ct p n
/-- the set as a natural number -/
def hv_nb (p : Nat → Bool) : Nat → Nat
  | 0 => 0
  | n + 1 => if p n then hv_nb p n + 2 ^ n else hv_nb p n
def hp_pc (x : Int32) : Int32 := match F_J6_bitCount_0f7a4 x (fun _ _ _ => 0) with
  | some q => q.1
  | none => 0
theorem hp_pc_eq (x : Int32) (M : hp_M) : F_J6_bitCount_0f7a4 x M = some (hp_pc x, M) := rfl
theorem hp_or_bit : ∀ n : Nat, n < 10 → ∀ a : Nat, a < 2 ^ n → nI a ||| ((1 : Int32) <<< (nI n &&& 31)) = nI (a + 2 ^ n) := by decide +kernel
theorem hp_pc_bit : ∀ n : Nat, n < 10 → ∀ a : Nat, a < 2 ^ n → hp_pc (nI (a + 2 ^ n)) = hp_pc (nI a) + 1 := by decide +kernel
theorem hp_pc_0 : hp_pc (nI 0) = 0 := by decide +kernel
theorem hp_pc_half : ∀ a : Nat, a < 1024 → hp_pc (nI a) = nI (a % 2) + hp_pc (nI (a / 2)) := by decide +kernel
theorem hp_div2 : ∀ a : Nat, a < 1024 → nI a / 2 = nI (a / 2) := by decide +kernel
theorem hv_nb_lt (p : Nat → Bool) : ∀ n : Nat, hv_nb p n < 2 ^ n := by
  intro n
  induction n with
  | zero => exact Nat.one_pos
  | succ n ih =>
    have e : 2 ^ (n + 1) = 2 ^ n + 2 ^ n := by rw [Nat.pow_succ]; omega
    unfold hv_nb
    split
    · omega
    · omega
theorem hv_bits_nb (p : Nat → Bool) : ∀ n : Nat, n ≤ 10 → hv_bits p n = nI (hv_nb p n) := by
  intro n
  induction n with
  | zero => exact fun _ => nI_0.symm
  | succ n ih =>
    intro hn
    have h := hv_nb_lt p n
    have e1 : hv_bits p (n + 1) = if p n then hv_bits p n ||| ((1 : Int32) <<< (nI n &&& 31)) else hv_bits p n := rfl
    have e2 : hv_nb p (n + 1) = if p n then hv_nb p n + 2 ^ n else hv_nb p n := rfl
    rw [e1, e2, ih (by omega)]
    by_cases hp : p n = true
    · rw [if_pos hp, if_pos hp]; exact hp_or_bit n (by omega) _ h
    · rw [if_neg hp, if_neg hp]
theorem hp_pc_ct (p : Nat → Bool) : ∀ n : Nat, n ≤ 10 → hp_pc (nI (hv_nb p n)) = nI (hv_ct p n) := by
  intro n
  induction n with
  | zero => exact fun _ => hp_pc_0.trans nI_0.symm
  | succ n ih =>
    intro hn
    have h := hv_nb_lt p n
    have e1 : hv_ct p (n + 1) = if p n then hv_ct p n + 1 else hv_ct p n := rfl
    have e2 : hv_nb p (n + 1) = if p n then hv_nb p n + 2 ^ n else hv_nb p n := rfl
    rw [e1, e2]
    by_cases hp : p n = true
    · rw [if_pos hp, if_pos hp, hp_pc_bit n (by omega) _ h, ih (by omega), nI_1]
    · rw [if_neg hp, if_neg hp]; exact ih (by omega)
theorem hv_nb_10 (p : Nat → Bool) {n : Nat} (hn : n ≤ 10) : hv_nb p n < 1024 := Nat.lt_of_lt_of_le (hv_nb_lt p n) (Nat.pow_le_pow_right (by decide) hn)
theorem x_bitCount (p : Nat → Bool) {n : Nat} (hn : n ≤ 10) (M : hp_M) : F_J6_bitCount_0f7a4 (hv_bits p n) M = some (nI (hv_ct p n), M) := by
  rw [hp_pc_eq, hv_bits_nb p n hn, hp_pc_ct p n hn]
theorem hv_ct_le (p : Nat → Bool) : ∀ n : Nat, hv_ct p n ≤ n := by
  intro n
  induction n with
  | zero => exact Nat.le_refl _
  | succ n ih =>
    unfold hv_ct
    split
    · omega
    · omega
theorem r_bits_l (a0 : Int32) (M : hp_M) : ∀ (a m : Nat) (x : Int32), a < 1024 → a < m → L_X9_bits_4 a0 m x (nI a) M = some (x + hp_pc (nI a), M) := by
  intro a
  induction a using Nat.strongRecOn with
  | _ a ih =>
    intro m x ha hm
    obtain ⟨k, rfl⟩ : ∃ k, m = k + 1 := ⟨m - 1, by omega⟩
    rw [L_X9_bits_4.eq_2]
    by_cases h0 : a = 0
    · subst h0
      rw [if_pos (by rw [nI_0]; decide), hp_pc_0]
      congr 2
      grind
    · have e2 : nI a / 2 = nI (a / 2) := hp_div2 a ha
      have e3 : nI a - nI (a / 2) * 2 = nI (a % 2) := by
        have h1 : nI (a / 2) * 2 = nI (a / 2 * 2) := nI_mul (a / 2) 2
        have h2 : nI a = nI (a / 2 * 2) + nI (a % 2) := by rw [nI_add]; congr 1; omega
        rw [h1, h2]; grind
      rw [if_neg (nI_nle (by omega) (by omega)), if_neg (by decide), if_neg (by decide), e2, e3, ih (a / 2) (by omega) k _ (by omega) (by omega), hp_pc_half a ha]
      congr 2
      grind
theorem r_bits (p : Nat → Bool) {n : Nat} (hn : n ≤ 10) (M : hp_M) : F_X9_bits (hv_bits p n) M = some (nI (hv_ct p n), M) := by
  have h := hv_nb_10 p hn
  unfold F_X9_bits
  rw [hv_bits_nb p n hn, r_bits_l _ M _ hp_fu 0 h (by unfold hp_fu; omega), hp_pc_ct p n hn]
  congr 2
  grind
section ASK1
variable {g : Nat} {M : hp_M} {v : HV}
theorem x2_listen (c : CRep (M g) v) {f : Nat} {a0 : Int32} (e0 : a0 = nI f) (hf : f < 10) : F_X2_listenersOf g a0 M = some (hv_bits (hv_lsp v f) v.flats, M) := by
  have h10 := c.fl10
  unfold F_X2_listenersOf
  obtain ⟨n', M', e, h⟩ := hp_runs (T := fun n i M1 => L_X2_listenersOf_4 g a0 n (hv_bits (hv_lsp v f) i) (nI i) M1) (I := fun _ M1 => M1 = M) (N := v.flats) (fun n i M1 hi hM => by
    subst hM
    refine ⟨M1, ?_, rfl⟩
    show L_X2_listenersOf_4 g a0 (n + 1) _ (nI i) M1 = L_X2_listenersOf_4 g a0 n _ (nI (i + 1)) M1
    rw [L_X2_listenersOf_4.eq_2, c.fl, if_neg (nI_ge hi (by omega))]
    by_cases hif : i = f
    · rw [if_pos (by rw [e0, hif]), nI_1, hv_bits_f (p := hv_lsp v f) (n := i) (by unfold hv_lsp; simp [hif])]
    · rw [if_neg (fun q => hif (by rw [e0] at q; exact (nI_eq (by omega) (by omega)).mp q)), x2_lis (f := i) c rfl (by omega), hp_b_some, nI_1]
      by_cases hl : v.num i 2 = 0 ∧ v.num i 1 = 1 ∧ v.num i 0 ≤ v.set 3
      · rw [if_pos hl, if_neg (by decide), hv_bits_t (p := hv_lsp v f) (n := i) (by unfold hv_lsp; exact decide_eq_true ⟨hif, hl⟩)]
      · rw [if_neg hl, if_pos rfl, hv_bits_f (p := hv_lsp v f) (n := i) (by unfold hv_lsp; exact fun q => hl (of_decide_eq_true q).2)]) hp_fu M (by unfold hp_fu; omega) rfl
  subst h
  refine e.trans ?_
  show L_X2_listenersOf_4 g a0 (n' + 1) _ (nI v.flats) M' = _
  rw [L_X2_listenersOf_4.eq_2, c.fl, if_pos (nI_le (Nat.le_refl _) (by omega))]
theorem r_hears2 (c : RRep (M 13 1) v) {f s : Nat} {a0 a1 : Int32} (e0 : a0 = nI f) (e1 : a1 = nI s) (hf : f < 10) (hs : s < 10) : F_X9_hears a0 a1 M = some (if f ≠ s ∧ v.num f 2 = 0 ∧ v.num f 1 = 1 ∧ v.num f 0 ≤ v.set 3 then 1 else 0, M) := by
  unfold F_X9_hears
  by_cases h0 : f = s
  · rw [if_pos (by rw [e0, e1, h0]), if_neg (fun q => q.1 h0)]
  · rw [if_neg (fun q => h0 (by rw [e0, e1] at q; exact (nI_eq (by omega) (by omega)).mp q)), r_g2 c e0 hf, hp_b_some, r_g1 c e0 hf, hp_b_some, r_g0 c e0 hf, hp_b_some, show M 13 1 10 = v.set 3 from c.st 3 (by decide)]
    by_cases h1 : v.num f 2 = 0
    · rw [if_pos h1]
      by_cases h2 : v.num f 1 = 1
      · rw [if_pos h2]
        by_cases h3 : v.set 3 < v.num f 0
        · rw [if_pos h3, if_neg (fun q => by have := q.2.2.2; grind)]
        · rw [if_neg h3, if_pos ⟨h0, h1, h2, by grind⟩]
      · rw [if_neg h2, if_neg (fun q => h2 q.2.2.1)]
    · rw [if_neg h1, if_neg (fun q => h1 q.2.1)]
theorem r_listen (c : RRep (M 13 1) v) {f : Nat} {a0 : Int32} (e0 : a0 = nI f) (hf : f < 10) : L_X9_listening_26 a0 hp_fu 0 0 M = some (hv_bits (hv_lsp v f) v.flats, M) := by
  have h10 := c.fl10
  obtain ⟨n', M', e, h⟩ := hp_runs (T := fun n i M1 => L_X9_listening_26 a0 n (hv_bits (hv_lsp v f) i) (nI i) M1) (I := fun _ M1 => M1 = M) (N := v.flats) (fun n i M1 hi hM => by
    subst hM
    refine ⟨M1, ?_, rfl⟩
    show L_X9_listening_26 a0 (n + 1) _ (nI i) M1 = L_X9_listening_26 a0 n _ (nI (i + 1)) M1
    rw [L_X9_listening_26.eq_2, c.fl, if_neg (nI_ge hi (by omega)), r_hears2 (f := i) (s := f) c rfl e0 (by omega) hf, hp_b_some, nI_1, Int32.or_zero]
    by_cases hl : i ≠ f ∧ v.num i 2 = 0 ∧ v.num i 1 = 1 ∧ v.num i 0 ≤ v.set 3
    · rw [if_pos hl, if_neg (by decide), hv_bits_t (p := hv_lsp v f) (n := i) (by unfold hv_lsp; exact decide_eq_true hl)]
    · rw [if_neg hl, if_pos rfl, hv_bits_f (p := hv_lsp v f) (n := i) (by unfold hv_lsp; exact fun q => hl (of_decide_eq_true q))]) hp_fu M (by unfold hp_fu; omega) rfl
  subst h
  refine e.trans ?_
  show L_X9_listening_26 a0 (n' + 1) _ (nI v.flats) M' = _
  rw [L_X9_listening_26.eq_2, c.fl, if_pos (nI_le (Nat.le_refl _) (by omega))]
theorem r_many (c : RRep (M 13 1) v) (a0 : Int32) : F_X9_manyWho a0 M = some (nI (hv_ct (fun f => decide (v.num f 2 = a0)) v.flats), M) := by
  have h10 := c.fl10
  unfold F_X9_manyWho
  obtain ⟨n', M', e, h⟩ := hp_runs (T := fun n i M1 => L_X9_manyWho_4 a0 n (nI (hv_ct (fun f => decide (v.num f 2 = a0)) i)) (nI i) M1) (I := fun _ M1 => M1 = M) (N := v.flats) (fun n i M1 hi hM => by
    subst hM
    refine ⟨M1, ?_, rfl⟩
    show L_X9_manyWho_4 a0 (n + 1) _ (nI i) M1 = L_X9_manyWho_4 a0 n _ (nI (i + 1)) M1
    rw [L_X9_manyWho_4.eq_2, c.fl, if_neg (nI_ge hi (by omega)), r_g2 (f := i) c rfl (by omega), hp_b_some, nI_1 i]
    have e1 : hv_ct (fun f => decide (v.num f 2 = a0)) (i + 1) = if decide (v.num i 2 = a0) = true then hv_ct (fun f => decide (v.num f 2 = a0)) i + 1 else hv_ct (fun f => decide (v.num f 2 = a0)) i := rfl
    rw [e1]
    by_cases hl : v.num i 2 = a0
    · rw [if_pos hl, if_pos (decide_eq_true hl), nI_1]
    · rw [if_neg hl, if_neg (fun q => hl (of_decide_eq_true q)), show ∀ z : Int32, z + 0 = z from fun z => by grind]) hp_fu M (by unfold hp_fu; omega) (by rfl)
  subst h
  refine e.trans ?_
  show L_X9_manyWho_4 a0 (n' + 1) _ (nI v.flats) M' = _
  rw [L_X9_manyWho_4.eq_2, c.fl, if_pos (nI_le (Nat.le_refl _) (by omega))]
theorem r_msgs (c : RRep (M 13 1) v) (hs : ∀ x ∈ v.slate, x.1 < 10) {f : Nat} {a0 : Int32} (e0 : a0 = nI f) (hf : f < 10) : F_X9_messagesFor a0 M = some (nI (hv_cnt v.slate f), M) := by
  subst e0
  have h8 := c.s8
  have key : ∀ (n i : Nat), i ≤ v.slate.length → v.slate.length < i + n → L_X9_messagesFor_4 (nI f) n (nI (hv_cnt (v.slate.take i) f)) (nI i) M = some (nI (hv_cnt v.slate f), M) := by
    intro n
    induction n with
    | zero => intro i h1 h2; omega
    | succ n ih =>
      intro i hi hn
      rw [L_X9_messagesFor_4.eq_2, c.sl]
      by_cases hlt : i < v.slate.length
      · obtain ⟨x, hx⟩ : ∃ x, v.slate[i]? = some x := ⟨_, List.getElem?_eq_getElem hlt⟩
        have hxm := hs x (List.mem_of_getElem? hx)
        have ht : v.slate.take (i + 1) = v.slate.take i ++ [x] := by rw [List.take_add_one, hx]; rfl
        have a1 : (14 : Int32) + (2 : Int32) * nI i = nI (14 + 2 * i) := by rw [show (14 : Int32) = nI 14 from rfl, show (2 : Int32) = nI 2 from rfl, nI_mul, nI_add]
        have := ih (i + 1) (by omega) (by omega)
        rw [if_neg (nI_ge hlt (by omega)), a1, if_neg (nI_in (by omega) (by decide)), nI_clamp (show 14 + 2 * i < 2 ^ 31 by omega), (c.sf i x hx).1, nI_1 i]
        by_cases hxf : x.1 = f
        · have e : hv_cnt (v.slate.take (i + 1)) f = hv_cnt (v.slate.take i) f + 1 := by unfold hv_cnt; rw [ht, List.filter_append, List.length_append]; simp [hxf]
          rw [if_pos (by rw [hxf]), nI_1, ← e]
          exact this
        · have e : hv_cnt (v.slate.take (i + 1)) f = hv_cnt (v.slate.take i) f := by unfold hv_cnt; rw [ht, List.filter_append, List.length_append]; simp [hxf]
          rw [if_neg (fun q => hxf ((nI_eq (by omega) (by omega)).mp q)), show ∀ z : Int32, z + 0 = z from fun z => by grind, ← e]
          exact this
      · rw [if_pos (nI_le (by omega) (by omega)), List.take_of_length_le (by omega)]
  unfold F_X9_messagesFor
  exact key hp_fu 0 (Nat.zero_le _) (by unfold hp_fu; omega)
/-- a number of the house -/
def hv_hn (v : HV) (k : Nat) : Int32 :=
  if k = 0 then nI v.flats else if k = 1 then v.time else if k = 2 then v.ph else if k = 3 then (if v.ph = 0 then -1 else nI v.who) else if k = 4 then v.spoken else if k = 5 then (if v.ph = 2 then v.left else 0) else if k = 6 then v.out else if k = 7 then nI v.queue.length else if k = 8 then nI (hv_ct (fun f => decide (v.num f 2 = 1)) v.flats) else if k = 9 then nI v.slate.length else hv_sum (fun f => v.num f 6) v.flats
theorem x2_hn (c : CRep (M g) v) (ho : v.out = 0 ∨ v.out = 1) {k : Nat} (hk : k < 11) : F_X2_houseNumber g (nI k) M = some (hv_hn v k, M) := by
  have h8 := x2_are c 1
  have hb := x_bitCount (fun f => decide (v.num f 2 = 1)) c.fl10 M
  have h10 := x2_debts c
  unfold F_X2_houseNumber
  rcases (show k = 0 ∨ k = 1 ∨ k = 2 ∨ k = 3 ∨ k = 4 ∨ k = 5 ∨ k = 6 ∨ k = 7 ∨ k = 8 ∨ k = 9 ∨ k = 10 by omega) with rfl | rfl | rfl | rfl | rfl | rfl | rfl | rfl | rfl | rfl | rfl
  · show _ = some (nI v.flats, M)
    rw [if_pos (by decide), c.fl]
  · show _ = some (v.time, M)
    iterate 1 rw [if_neg (by decide)]
    rw [if_pos (by decide), c.ti]
  · show _ = some (v.ph, M)
    iterate 2 rw [if_neg (by decide)]
    rw [if_pos (by decide), c.ph]
  · show _ = some ((if v.ph = 0 then -1 else nI v.who), M)
    iterate 3 rw [if_neg (by decide)]
    rw [if_pos (by decide), c.wh]
  · show _ = some (v.spoken, M)
    iterate 4 rw [if_neg (by decide)]
    rw [if_pos (by decide), c.sp]
  · show _ = some ((if v.ph = 2 then v.left else 0), M)
    iterate 5 rw [if_neg (by decide)]
    rw [if_pos (by decide), c.ph, c.le]
    by_cases h : v.ph = 2
    · rw [if_pos h, if_pos h]
    · rw [if_neg h, if_neg h]
  · show _ = some (v.out, M)
    iterate 6 rw [if_neg (by decide)]
    rw [if_pos (by decide), c.ou]
    rcases ho with h | h
    · rw [if_pos h, h]
    · rw [if_neg (by rw [h]; decide), h]
  · show _ = some (nI v.queue.length, M)
    iterate 7 rw [if_neg (by decide)]
    rw [if_pos (by decide), c.ql]
  · show _ = some (nI (hv_ct (fun f => decide (v.num f 2 = 1)) v.flats), M)
    iterate 8 rw [if_neg (by decide)]
    rw [if_pos (by decide), h8, hp_b_some, hb, hp_b_some]
  · show _ = some (nI v.slate.length, M)
    iterate 9 rw [if_neg (by decide)]
    rw [if_pos (by decide), c.sl]
  · show _ = some (hv_sum (fun f => v.num f 6) v.flats, M)
    iterate 10 rw [if_neg (by decide)]
    rw [h10, hp_b_some]
theorem r_hn (c : RRep (M 13 1) v) {k : Nat} (hk : k < 11) : F_X9_sizeOf (nI k) M = some (hv_hn v k, M) := by
  have h8 := r_many c 1
  have h10 := r_debts c
  unfold F_X9_sizeOf
  rcases (show k = 0 ∨ k = 1 ∨ k = 2 ∨ k = 3 ∨ k = 4 ∨ k = 5 ∨ k = 6 ∨ k = 7 ∨ k = 8 ∨ k = 9 ∨ k = 10 by omega) with rfl | rfl | rfl | rfl | rfl | rfl | rfl | rfl | rfl | rfl | rfl
  · show _ = some (nI v.flats, M)
    rw [if_pos (by decide), c.fl]
  · show _ = some (v.time, M)
    iterate 1 rw [if_neg (by decide)]
    rw [if_pos (by decide), c.ti]
  · show _ = some (v.ph, M)
    iterate 2 rw [if_neg (by decide)]
    rw [if_pos (by decide), c.ph]
  · show _ = some ((if v.ph = 0 then -1 else nI v.who), M)
    iterate 3 rw [if_neg (by decide)]
    rw [if_pos (by decide), c.ph, c.wh]
    by_cases h : v.ph = 0
    · rw [if_pos h, if_pos h]
    · rw [if_neg h, if_neg h]
  · show _ = some (v.spoken, M)
    iterate 4 rw [if_neg (by decide)]
    rw [if_pos (by decide), c.sp]
  · show _ = some ((if v.ph = 2 then v.left else 0), M)
    iterate 5 rw [if_neg (by decide)]
    rw [if_pos (by decide), c.ph, c.le]
    by_cases h : v.ph = 2
    · rw [if_pos h, if_pos h]
    · rw [if_neg h, if_neg h]
  · show _ = some (v.out, M)
    iterate 6 rw [if_neg (by decide)]
    rw [if_pos (by decide), c.ou]
  · show _ = some (nI v.queue.length, M)
    iterate 7 rw [if_neg (by decide)]
    rw [if_pos (by decide), c.ql]
  · show _ = some (nI (hv_ct (fun f => decide (v.num f 2 = 1)) v.flats), M)
    iterate 8 rw [if_neg (by decide)]
    rw [if_pos (by decide), h8, hp_b_some]
  · show _ = some (nI v.slate.length, M)
    iterate 9 rw [if_neg (by decide)]
    rw [if_pos (by decide), c.sl]
  · show _ = some (hv_sum (fun f => v.num f 6) v.flats, M)
    iterate 10 rw [if_neg (by decide)]
    rw [if_pos (by decide), h10, hp_b_some]
/-- a number of a flat -/
def hv_fn (v : HV) (f k : Nat) : Int32 := if k = 5 then hv_pl v.queue f 0 else if k = 9 then nI (hv_cnt v.slate f) else v.num f k
theorem x2_fn (c : CRep (M g) v) (h : hv_ok v) {f k : Nat} {a0 : Int32} (e0 : a0 = nI f) (hf : f < 10) (hk : k < 11) : F_X2_flatNumber g a0 (nI k) M = some (hv_fn v f k, M) := by
  unfold F_X2_flatNumber hv_fn
  by_cases h5 : k = 5
  · subst h5
    rw [if_pos (by decide), x4_place c (ok_q10 h) e0 hf, hp_b_some, if_pos rfl]
  · rw [if_neg (show ¬ nI k = (5 : Int32) from fun q => h5 ((nI_eq (b := 5) (by omega) (by decide)).mp q)), if_neg h5]
    by_cases h9 : k = 9
    · subst h9
      rw [if_pos (by decide), x6_count c (ok_s10 h) e0 hf, hp_b_some, if_pos rfl]
    · rw [if_neg (show ¬ nI k = (9 : Int32) from fun q => h9 ((nI_eq (b := 9) (by omega) (by decide)).mp q)), if_neg h9, x2_get c e0 rfl hf hk h5 h9, hp_b_some]
theorem r_fn (c : RRep (M 13 1) v) (h : hv_ok v) {f k : Nat} {a0 : Int32} (e0 : a0 = nI f) (hf : f < 10) (hk : k < 11) : F_X9_flatTold a0 (nI k) M = some (hv_fn v f k, M) := by
  unfold F_X9_flatTold hv_fn
  have hz : ∀ j : Nat, j < 2 ^ 31 → k ≠ j → ¬ nI k = nI j := fun j hj hn q => hn ((nI_eq (by omega) hj).mp q)
  by_cases h5 : k = 5
  · subst h5
    rw [if_pos (by decide), r_place c (ok_q10 h) e0 hf, hp_b_some, if_pos rfl]
  · rw [if_neg (show ¬ nI k = (5 : Int32) from hz 5 (by decide) h5), if_neg h5]
    by_cases h9 : k = 9
    · subst h9
      rw [if_neg (by decide), if_neg (by decide), if_neg (by decide), if_pos (by decide), r_msgs c (ok_s10 h) e0 hf, hp_b_some, if_pos rfl]
    · rw [if_neg h9]
      by_cases h6 : k = 6
      · subst h6; rw [if_pos (by decide), r_g5 c e0 hf, hp_b_some]
      · rw [if_neg (show ¬ nI k = (6 : Int32) from hz 6 (by decide) h6)]
        by_cases h7 : k = 7
        · subst h7; rw [if_pos (by decide), r_g6 c e0 hf, hp_b_some]
        · rw [if_neg (show ¬ nI k = (7 : Int32) from hz 7 (by decide) h7)]
          by_cases h8 : k = 8
          · subst h8; rw [if_pos (by decide), r_g7 c e0 hf, hp_b_some]
          · rw [if_neg (show ¬ nI k = (8 : Int32) from hz 8 (by decide) h8), if_neg (show ¬ nI k = (9 : Int32) from hz 9 (by decide) h9)]
            by_cases h10 : k = 10
            · subst h10; rw [if_pos (by decide), r_g8 c e0 hf, hp_b_some]
            · rw [if_neg (show ¬ nI k = (10 : Int32) from hz 10 (by decide) h10), r_of c e0 rfl hf (by omega), hp_b_some]
              have : hv_ck k = k := if_pos (by omega)
              rw [this]
/-- an account -/
def hv_an (v : HV) (k : Nat) : Int32 := if k = 0 then v.time else if k = 10 then v.acc 4 - v.acc 5 - hv_sum (fun f => v.num f 6) v.flats + v.acc 6 - v.acc 7 - nI v.slate.length else v.acc k
theorem x2_an (c : CRep (M g) v) {k : Nat} (hk : k < 11) : F_X2_accountNumber g (nI k) M = some (hv_an v k, M) := by
  unfold F_X2_accountNumber hv_an
  by_cases h0 : k = 0
  · subst h0
    rw [if_pos nI_0, if_pos rfl, c.ti]
  · rw [if_neg (nI_ne0 (by omega) (by omega)), if_neg h0]
    by_cases h10 : k = 10
    · subst h10
      rw [if_pos (by decide), x2_debts c, hp_b_some, if_pos rfl, c.ac 4 (by decide) (by decide), c.ac 5 (by decide) (by decide), c.ac 6 (by decide) (by decide), c.ac 7 (by decide) (by decide), c.sl]
    · rw [if_neg (show ¬ nI k = (10 : Int32) from fun q => h10 ((nI_eq (b := 10) (by omega) (by decide)).mp q)), if_neg h10, if_neg (nI_pos (by omega)), if_neg (show ¬ (10 : Int32) ≤ nI k from nI_ge (b := 10) (by omega) (by decide)), if_neg (nI_in (by omega) (by decide)), nI_clamp (by omega), c.ac k (by omega) (by omega)]
theorem r_an (c : RRep (M 13 1) v) {k : Nat} (hk : k < 10) : M 13 1 (42 + k) = hv_an v k := by
  unfold hv_an
  by_cases h0 : k = 0
  · subst h0
    rw [if_pos rfl]; exact c.t2
  · rw [if_neg h0, if_neg (by omega)]
    exact c.ac k (by omega) hk
theorem r_bal (c : RRep (M 13 1) v) : F_X9_balance M = some (hv_an v 10, M) := by
  unfold F_X9_balance hv_an
  rw [r_debts c, hp_b_some, if_neg (by decide), if_pos rfl, show M 13 1 46 = v.acc 4 from c.ac 4 (by decide) (by decide), show M 13 1 47 = v.acc 5 from c.ac 5 (by decide) (by decide), show M 13 1 48 = v.acc 6 from c.ac 6 (by decide) (by decide), show M 13 1 49 = v.acc 7 from c.ac 7 (by decide) (by decide), c.sl]
/-- why a flat does not speak -/
def hv_why (v : HV) (f : Nat) : Int32 := if v.num f 2 = 0 then 1 else if v.num f 2 = 1 then 2 else if v.num f 2 = 3 then 0 else if v.ph = 2 then 3 else if v.ph = 1 then 4 else 5
def hv_cause (v : HV) (f : Nat) : Int32 := if hv_why v f = 0 then v.spoken else if hv_why v f = 1 then nI (hv_cnt v.slate f) else if hv_why v f = 2 then v.num f 3 else if hv_why v f = 5 then hv_pl v.queue f 0 else nI v.who
theorem x2_why (c : CRep (M g) v) (h : hv_ok v) {f : Nat} {a0 : Int32} (e0 : a0 = nI f) (hf : f < v.flats) : F_X2_reasonOf g a0 M = some (hv_why v f, M) := by
  have h10 : f < 10 := Nat.lt_of_lt_of_le hf (ok_fl h)
  unfold F_X2_reasonOf
  rw [x2_g2 c e0 h10, hp_b_some, c.ph]
  rcases ok_st h f hf with q | q | q | q
  · have e : hv_why v f = 1 := by unfold hv_why; rw [if_pos q]
    rw [e, q, if_pos rfl]
  · have e : hv_why v f = 2 := by unfold hv_why; rw [if_neg (by rw [q]; decide), if_pos q]
    rw [e, q, if_neg (by decide), if_pos rfl]
  · have e : hv_why v f = if v.ph = 2 then 3 else if v.ph = 1 then 4 else 5 := by unfold hv_why; rw [if_neg (by rw [q]; decide), if_neg (by rw [q]; decide), if_neg (by rw [q]; decide)]
    rw [e, q, if_neg (by decide), if_neg (by decide), if_pos rfl]
    by_cases h1 : v.ph = 2
    · rw [if_pos h1, if_pos h1]
    · rw [if_neg h1, if_neg h1]
      by_cases h2 : v.ph = 1
      · rw [if_pos h2, if_pos h2]
      · rw [if_neg h2, if_neg h2]
  · have e : hv_why v f = 0 := by unfold hv_why; rw [if_neg (by rw [q]; decide), if_neg (by rw [q]; decide), if_pos q]
    rw [e, q, if_neg (by decide), if_neg (by decide), if_neg (by decide), if_pos rfl]
theorem r_why (c : RRep (M 13 1) v) (h : hv_ok v) {f : Nat} {a0 : Int32} (e0 : a0 = nI f) (hf : f < v.flats) : F_X9_reason a0 M = some (hv_why v f, M) := by
  have h10 : f < 10 := Nat.lt_of_lt_of_le hf (ok_fl h)
  unfold F_X9_reason
  rw [r_g2 c e0 h10, hp_b_some, c.ph]
  rcases ok_st h f hf with q | q | q | q
  · have e : hv_why v f = 1 := by unfold hv_why; rw [if_pos q]
    rw [e, q, if_pos rfl]
  · have e : hv_why v f = 2 := by unfold hv_why; rw [if_neg (by rw [q]; decide), if_pos q]
    rw [e, q, if_neg (by decide), if_pos rfl]
  · have e : hv_why v f = if v.ph = 2 then 3 else if v.ph = 1 then 4 else 5 := by unfold hv_why; rw [if_neg (by rw [q]; decide), if_neg (by rw [q]; decide), if_neg (by rw [q]; decide)]
    rw [e, q, if_neg (by decide), if_neg (by decide), if_pos rfl]
    by_cases h1 : v.ph = 2
    · rw [if_pos h1, if_pos h1]
    · rw [if_neg h1, if_neg h1]
      by_cases h2 : v.ph = 1
      · rw [if_pos h2, if_pos h2]
      · rw [if_neg h2, if_neg h2]
  · have e : hv_why v f = 0 := by unfold hv_why; rw [if_neg (by rw [q]; decide), if_neg (by rw [q]; decide), if_pos q]
    rw [e, q, if_neg (by decide), if_neg (by decide), if_neg (by decide), if_pos rfl]
theorem hv_why_ph (h : hv_ok v) {f : Nat} (hw : hv_why v f = 3 ∨ hv_why v f = 4) : v.ph ≠ 0 := by
  intro hp
  unfold hv_why at hw
  rw [hp] at hw
  by_cases h1 : v.num f 2 = 0
  · rw [if_pos h1] at hw; exact absurd hw (by decide)
  · rw [if_neg h1] at hw
    by_cases h2 : v.num f 2 = 1
    · rw [if_pos h2] at hw; exact absurd hw (by decide)
    · rw [if_neg h2] at hw
      by_cases h3 : v.num f 2 = 3
      · rw [if_pos h3] at hw; exact absurd hw (by decide)
      · rw [if_neg h3, if_neg (by decide), if_neg (by decide)] at hw; exact absurd hw (by decide)
theorem hv_why_6 (v : HV) (f : Nat) : hv_why v f = 0 ∨ hv_why v f = 1 ∨ hv_why v f = 2 ∨ hv_why v f = 3 ∨ hv_why v f = 4 ∨ hv_why v f = 5 := by
  unfold hv_why
  split
  · simp
  · split
    · simp
    · split
      · simp
      · split
        · simp
        · split
          · simp
          · simp
theorem x2_cause (c : CRep (M g) v) (h : hv_ok v) {f : Nat} {a0 : Int32} (e0 : a0 = nI f) (hf : f < v.flats) : F_X2_causeOf g a0 (hv_why v f) M = some (hv_cause v f, M) := by
  have h10 : f < 10 := Nat.lt_of_lt_of_le hf (ok_fl h)
  have hph := fun q => hv_why_ph (f := f) h q
  have hc := x6_count c (ok_s10 h) e0 h10
  have hg3 := x2_g3 c e0 h10
  have hp := x4_place c (ok_q10 h) e0 h10
  unfold F_X2_causeOf hv_cause
  rcases hv_why_6 v f with q | q | q | q | q | q
  · rw [q, if_pos rfl, if_pos rfl, c.sp]
  · rw [q, if_neg (by decide), if_pos rfl, if_neg (by decide), if_pos rfl, hc, hp_b_some]
  · rw [q, if_neg (by decide), if_neg (by decide), if_pos rfl, if_neg (by decide), if_neg (by decide), if_pos rfl, hg3, hp_b_some]
  · rw [q, if_neg (by decide), if_neg (by decide), if_neg (by decide), if_pos rfl, if_neg (by decide), if_neg (by decide), if_neg (by decide), if_neg (by decide), c.wh, if_neg (hph (Or.inl q))]
  · rw [q, if_neg (by decide), if_neg (by decide), if_neg (by decide), if_neg (by decide), if_pos rfl, if_neg (by decide), if_neg (by decide), if_neg (by decide), if_neg (by decide), c.wh, if_neg (hph (Or.inr q))]
  · rw [q, if_neg (by decide), if_neg (by decide), if_neg (by decide), if_neg (by decide), if_neg (by decide), if_pos rfl, if_neg (by decide), if_neg (by decide), if_neg (by decide), if_pos rfl, hp, hp_b_some]
end ASK1
