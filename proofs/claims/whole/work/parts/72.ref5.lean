/-! ===== the reference: queue, slate, a minute ===== -/
theorem hv_flt {f : Nat} : ∀ (l : List Nat) (i : Nat), l.Nodup → l[i]? = some f → l.filter (fun x => decide (x ≠ f)) = l.eraseIdx i := by
  intro l
  induction l with
  | nil => intro i _ h; simp at h
  | cons x xs ih =>
    intro i hn hi
    have hnx := List.nodup_cons.mp hn
    cases i with
    | zero =>
      have e : x = f := by simpa using hi
      subst e
      have h2 : xs.filter (fun y => decide (y ≠ x)) = xs := List.filter_eq_self.mpr (fun y hy => by simp; intro e; exact hnx.1 (e ▸ hy))
      simp only [List.eraseIdx_zero, List.tail_cons]
      rw [List.filter_cons, if_neg (by simp), h2]
    | succ i =>
      have hi2 : xs[i]? = some f := by simpa using hi
      have hxf : x ≠ f := fun e => hnx.1 (e ▸ List.mem_of_getElem? hi2)
      rw [List.filter_cons, if_pos (by simpa using hxf), ih i hnx.2 hi2]
      rfl
theorem hv_pl_at {f : Nat} : ∀ (l : List Nat) (k : Nat), f ∈ l → ∃ i : Nat, l[i]? = some f ∧ hv_pl l f k = nI (k + i) := by
  intro l
  induction l with
  | nil => intro k h; simp at h
  | cons x xs ih =>
    intro k h
    by_cases hx : x = f
    · exact ⟨0, by rw [hx]; rfl, by show (if x = f then nI k else _) = _; rw [if_pos hx]; rfl⟩
    · have h2 : f ∈ xs := by
        rcases List.mem_cons.mp h with e | e
        · exact absurd e.symm hx
        · exact e
      obtain ⟨i, h3, h4⟩ := ih (k + 1) h2
      refine ⟨i + 1, by simpa using h3, ?_⟩
      show (if x = f then nI k else hv_pl xs f (k + 1)) = _
      rw [if_neg hx, h4]
      congr 1; omega
section REF3
variable {M : hp_M} {v : HV}
theorem r_leave (c : RRep (M 13 1) v) (hq : ∀ x ∈ v.queue, x < 10) (hnd : v.queue.Nodup) {f : Nat} {a0 : Int32} (e0 : a0 = nI f) (hf : f < 10) (hm : f ∈ v.queue) : ∃ M', F_X9_leavesQueue a0 M = some ((), M') ∧ RS M (hv_leave v f) M' := by
  have h10 := c.q10
  obtain ⟨i, hi, hpl⟩ := hv_pl_at v.queue 0 hm
  have hil : i < v.queue.length := (List.getElem?_eq_some_iff.mp hi).1
  rw [Nat.zero_add] at hpl
  unfold F_X9_leavesQueue
  rw [r_place c hq e0 hf, hp_b_some, hpl, c.ql]
  subst e0
  have eL : nI v.queue.length - 1 = nI (v.queue.length - 1) := by
    have := nI_pred (v.queue.length - 1)
    rw [show v.queue.length - 1 + 1 = v.queue.length by omega] at this
    exact this
  rw [eL]
  have hflt := hv_flt v.queue i hnd hi
  have hlen : (v.queue.filter (fun x => decide (x ≠ f))).length = v.queue.length - 1 := by
    rw [hflt, List.length_eraseIdx]
    rw [if_pos hil]
  have key : ∀ (n k : Nat) (M1 : hp_M), i ≤ k → k ≤ v.queue.length - 1 → v.queue.length < k + n → (∀ g j : Nat, ¬ (g = 13 ∧ j = 1) → M1 g j = M g j) → (∀ j : Nat, ¬ (30 ≤ j ∧ j < 41) → M1 13 1 j = M 13 1 j) → M1 13 1 30 = nI (v.queue.length - 1) → (∀ j : Nat, k ≤ j → j < 10 → M1 13 1 (31 + j) = M 13 1 (31 + j)) → (∀ j x : Nat, j < k → (v.queue.eraseIdx i)[j]? = some x → M1 13 1 (31 + j) = nI x) → ∃ M', L_X9_leavesQueue_19 (nI f) n (nI k) M1 = some ((), M') ∧ RS M (hv_leave v f) M' := by
    intro n
    induction n with
    | zero => intro k M1 h1 h2 h3; omega
    | succ n ih =>
      intro k M1 h1 h2 h3 ho hw h30 hge hlt
      rw [L_X9_leavesQueue_19.eq_2, h30, show (31 : Int32) = nI 31 from rfl, nI_add, nI_add]
      by_cases hk : k < v.queue.length - 1
      · rw [if_neg (nI_ge hk (by omega)), show (1 : Int32) = nI 1 from rfl, nI_add, nI_add, if_neg (nI_in (by omega) (by decide)), if_neg (nI_in (by omega) (by decide)), nI_clamp (by omega), nI_clamp (by omega)]
        have e1 : M1 13 1 (31 + k + 1) = M 13 1 (31 + (k + 1)) := by
          have := hge (k + 1) (by omega) (by omega)
          rw [show 31 + (k + 1) = 31 + k + 1 by omega] at this
          exact this
        obtain ⟨x, hx⟩ : ∃ x, v.queue[k + 1]? = some x := ⟨_, List.getElem?_eq_getElem (by omega)⟩
        rw [e1, c.qu (k + 1) x hx]
        refine ih (k + 1) (hp_p M1 13 1 (31 + k) (nI x)) (by omega) (by omega) (by omega) (fun g j h => by rw [hp_p_r _ _ _ h]; exact ho g j h) (fun j h => by rw [hp_p_ro _ _ _ (by omega)]; exact hw j h) (by rw [hp_p_ro _ _ _ (by omega)]; exact h30) (fun j h h' => by rw [hp_p_ro _ _ _ (by omega)]; exact hge j (by omega) h') (fun j y h hy => ?_)
        by_cases hj : j = k
        · subst hj
          rw [hp_p_rs]
          rw [List.getElem?_eraseIdx, if_neg (by omega), hx] at hy
          cases hy; rfl
        · rw [hp_p_ro _ _ _ (by omega)]
          exact hlt j y (by omega) hy
      · rw [if_pos (nI_le (by omega) (by omega)), if_neg (nI_in (by omega) (by decide)), nI_clamp (by omega)]
        have hke : k = v.queue.length - 1 := by omega
        refine ⟨_, rfl, c.pqueue (fun j h => ?_) ?_ (by rw [hlen]; omega) (fun j x hx => ?_), fun g j h => by rw [hp_p_r _ _ _ h]; exact ho g j h⟩
        · rw [hp_p_ro _ _ _ (by omega)]; exact hw j h
        · rw [hp_p_ro _ _ _ (by omega), h30, hlen]
        · have hj : j < v.queue.length - 1 := by rw [← hlen]; exact (List.getElem?_eq_some_iff.mp hx).1
          rw [hflt] at hx
          rw [hp_p_ro _ _ _ (by omega)]
          exact hlt j x (by omega) hx
  exact key hp_fu i _ (Nat.le_refl _) (by omega) (by unfold hp_fu; omega) (fun g j h => hp_p_r _ _ _ h) (fun j h => hp_p_ro _ _ _ (by omega)) (hp_p_rs _ _ _) (fun j h h' => hp_p_ro _ _ _ (by omega)) (fun j x h hx => by
    rw [hp_p_ro _ _ _ (by omega)]
    rw [List.getElem?_eraseIdx, if_pos h] at hx
    exact c.qu j x hx)
theorem r_reads (c : RRep (M 13 1) v) (hs : ∀ x ∈ v.slate, x.1 < 10) {f : Nat} {a0 : Int32} (e0 : a0 = nI f) (hf : f < 10) : ∃ M', F_X9_reads a0 M = some ((), M') ∧ RS M (hv_wipe v f) M' := by
  subst e0
  have h8 := c.s8
  have key : ∀ (n i : Nat) (M1 : hp_M), i ≤ v.slate.length → v.slate.length < i + n → (∀ g j : Nat, ¬ (g = 13 ∧ j = 1) → M1 g j = M g j) → (∀ j : Nat, ¬ (14 ≤ j ∧ j < 30) → M1 13 1 j = M 13 1 j) → (∀ j : Nat, i ≤ j → j < 8 → M1 13 1 (14 + 2 * j) = M 13 1 (14 + 2 * j) ∧ M1 13 1 (15 + 2 * j) = M 13 1 (15 + 2 * j)) → (∀ (j : Nat) (x : Nat × Int32), (hv_rest (v.slate.take i) f)[j]? = some x → M1 13 1 (14 + 2 * j) = nI x.1 ∧ M1 13 1 (15 + 2 * j) = x.2) → ∃ M', L_X9_reads_4 (nI f) n (nI (hv_rest (v.slate.take i) f).length) (nI i) M1 = some ((), M') ∧ RS M (hv_wipe v f) M' := by
    intro n
    induction n with
    | zero => intro i M1 h1 h2; omega
    | succ n ih =>
      intro i M1 hi hn ho hw hd hk
      have hle : (hv_rest (v.slate.take i) f).length ≤ i := by
        have h1 := List.length_filter_le (fun x : Nat × Int32 => decide (x.1 ≠ f)) (v.slate.take i)
        have h2 := List.length_take_le i v.slate
        unfold hv_rest
        omega
      rw [L_X9_reads_4.eq_2, hw 13 (by omega), c.sl]
      by_cases hlt : i < v.slate.length
      · obtain ⟨x, hx⟩ : ∃ x, v.slate[i]? = some x := ⟨_, List.getElem?_eq_getElem hlt⟩
        have hxm := hs x (List.mem_of_getElem? hx)
        have ht : v.slate.take (i + 1) = v.slate.take i ++ [x] := by rw [List.take_add_one, hx]; rfl
        have a1 : (14 : Int32) + (2 : Int32) * nI i = nI (14 + 2 * i) := by rw [show (14 : Int32) = nI 14 from rfl, show (2 : Int32) = nI 2 from rfl, nI_mul, nI_add]
        have a2 : nI (14 + 2 * i) + (1 : Int32) = nI (15 + 2 * i) := by rw [nI_1]; congr 1; omega
        have b1 : ¬ (nI (14 + 2 * i) < 0 ∨ 242 ≤ (nI (14 + 2 * i)).toNatClampNeg) := nI_in (by omega) (by decide)
        have b2 : ¬ (nI (15 + 2 * i) < 0 ∨ 242 ≤ (nI (15 + 2 * i)).toNatClampNeg) := nI_in (by omega) (by decide)
        have k1 : (nI (14 + 2 * i)).toNatClampNeg = 14 + 2 * i := nI_clamp (by omega)
        have k2 : (nI (15 + 2 * i)).toNatClampNeg = 15 + 2 * i := nI_clamp (by omega)
        rw [if_neg (nI_ge hlt (by omega)), a1, a2, if_neg b1, if_neg b2, if_neg b1, if_neg b2, k1, k2, (hd i (Nat.le_refl i) (by omega)).1, (hd i (Nat.le_refl i) (by omega)).2, (c.sf i x hx).1, (c.sf i x hx).2, nI_1 i]
        by_cases hxf : x.1 = f
        · rw [if_pos (by rw [hxf])]
          have e : hv_rest (v.slate.take (i + 1)) f = hv_rest (v.slate.take i) f := by unfold hv_rest; rw [ht, List.filter_append]; simp [hxf]
          have := ih (i + 1) (hp_p (hp_p M1 13 1 (14 + 2 * i) 0) 13 1 (15 + 2 * i) 0) (by omega) (by omega) (fun g j h => by rw [hp_p_r _ _ _ h, hp_p_r _ _ _ h]; exact ho g j h) (fun j h => by rw [hp_p_ro _ _ _ (by omega), hp_p_ro _ _ _ (by omega)]; exact hw j h) (fun j h h' => by
            rw [hp_p_ro _ _ _ (by omega), hp_p_ro _ _ _ (by omega), hp_p_ro _ _ _ (by omega), hp_p_ro _ _ _ (by omega)]; exact hd j (by omega) h') (fun j y hy => by
            rw [e] at hy
            have hj : j < (hv_rest (v.slate.take i) f).length := (List.getElem?_eq_some_iff.mp hy).1
            rw [hp_p_ro _ _ _ (by omega), hp_p_ro _ _ _ (by omega), hp_p_ro _ _ _ (by omega), hp_p_ro _ _ _ (by omega)]
            exact hk j y hy)
          rw [e] at this
          exact this
        · have e : hv_rest (v.slate.take (i + 1)) f = hv_rest (v.slate.take i) f ++ [x] := by unfold hv_rest; rw [ht, List.filter_append]; simp [hxf]
          generalize hkl : (hv_rest (v.slate.take i) f).length = q at *
          have c1 : (14 : Int32) + (2 : Int32) * nI q = nI (14 + 2 * q) := by rw [show (14 : Int32) = nI 14 from rfl, show (2 : Int32) = nI 2 from rfl, nI_mul, nI_add]
          have c2 : nI (14 + 2 * q) + (1 : Int32) = nI (15 + 2 * q) := by rw [nI_1]; congr 1; omega
          rw [if_neg (fun z => hxf ((nI_eq (by omega) (by omega)).mp z)), c1, c2, if_neg (nI_in (by omega) (by decide)), if_neg (nI_in (by omega) (by decide)), nI_clamp (show 14 + 2 * q < 2 ^ 31 by omega), nI_clamp (show 15 + 2 * q < 2 ^ 31 by omega), nI_1]
          have := ih (i + 1) (hp_p (hp_p (hp_p (hp_p M1 13 1 (14 + 2 * i) 0) 13 1 (15 + 2 * i) 0) 13 1 (14 + 2 * q) (nI x.1)) 13 1 (15 + 2 * q) x.2) (by omega) (by omega) (fun g j h => by rw [hp_p_r _ _ _ h, hp_p_r _ _ _ h, hp_p_r _ _ _ h, hp_p_r _ _ _ h]; exact ho g j h) (fun j h => by rw [hp_p_ro _ _ _ (by omega), hp_p_ro _ _ _ (by omega), hp_p_ro _ _ _ (by omega), hp_p_ro _ _ _ (by omega)]; exact hw j h) (fun j h h' => by
            have h1 := hd j (by omega) h'
            simp only [hp_p_at]
            refine ⟨?_, ?_⟩ <;> grind) (fun j y hy => by
            rw [e] at hy
            by_cases hj : j < q
            · rw [List.getElem?_append_left (by omega)] at hy
              have h1 := hk j y hy
              simp only [hp_p_at]
              refine ⟨?_, ?_⟩ <;> grind
            · rw [List.getElem?_append_right (by omega)] at hy
              have hz : j - (hv_rest (v.slate.take i) f).length < 1 := (List.getElem?_eq_some_iff.mp hy).1
              have hz2 : j = q := by omega
              subst hz2
              rw [hkl, Nat.sub_self] at hy
              cases hy
              simp only [hp_p_at]
              refine ⟨?_, ?_⟩ <;> grind)
          rw [e, List.length_append, hkl] at this
          exact this
      · have hie : i = v.slate.length := by omega
        have hall : v.slate.take i = v.slate := List.take_of_length_le (by omega)
        rw [hall] at hk hle ⊢
        rw [if_pos (nI_le (by omega) (by omega)), r_counts0 (a0 := 7) (i := 7) rfl (by decide), hp_b_some, hw (42 + 7) (by omega), c.ac 7 (by decide) (by decide)]
        have h1 : RRep ((hp_p (hp_p M1 13 1 (42 + 7) (v.acc 7)) 13 1 13 (nI (hv_rest v.slate f).length)) 13 1) (v.s_slate (hv_rest v.slate f)) := by
          refine c.pslate (fun j h => ?_) (hp_p_rs _ _ _) (by omega) (fun j x hx => ?_)
          · rw [hp_p_ro _ _ _ (by omega)]
            by_cases hj : j = 42 + 7
            · subst hj; rw [hp_p_rs, c.ac 7 (by decide) (by decide)]
            · rw [hp_p_ro _ _ _ hj]; exact hw j (by omega)
          · have hj : j < (hv_rest v.slate f).length := (List.getElem?_eq_some_iff.mp hx).1
            have h2 := hk j x hx
            rw [hp_p_ro _ _ _ (by omega), hp_p_ro _ _ _ (by omega), hp_p_ro _ _ _ (by omega), hp_p_ro _ _ _ (by omega)]
            exact h2
        refine ⟨_, rfl, h1.pacc (i0 := 7) (by decide) (by decide) (fun j h => ?_) ?_, fun g j h => by rw [hp_p_r _ _ _ h, hp_p_r _ _ _ h]; exact ho g j h⟩
        · by_cases hj : j = 13
          · subst hj; rw [hp_p_rs, hp_p_rs]
          · rw [hp_p_ro _ _ _ hj, hp_p_ro _ _ _ h, hp_p_ro _ _ _ hj, hp_p_ro _ _ _ h]
        · rw [hp_p_ro _ _ _ (by omega), hp_p_rs]
  unfold F_X9_reads
  exact key hp_fu 0 M (Nat.zero_le _) (by unfold hp_fu; omega) (fun _ _ _ => rfl) (fun _ _ => rfl) (fun _ _ _ => ⟨rfl, rfl⟩) (fun j x hx => by simp [hv_rest] at hx)
end REF3
