/-! ===== places, counts, messages ===== -/
theorem hp_runs0 {α : Type} {T : Nat → Nat → α} {N : Nat} (hstep : ∀ n i : Nat, i < N → T (n + 1) i = T n (i + 1)) : ∀ n : Nat, N < n → ∃ n', T n 0 = T (n' + 1) N := by
  have key : ∀ (d i n : Nat), i + d = N → d < n → ∃ n', T n i = T (n' + 1) N := by
    intro d
    induction d with
    | zero =>
      intro i n hi hn
      obtain ⟨m, rfl⟩ : ∃ m, n = m + 1 := ⟨n - 1, by omega⟩
      exact ⟨m, by rw [show i = N by omega]⟩
    | succ d ih =>
      intro i n hi hn
      obtain ⟨m, rfl⟩ : ∃ m, n = m + 1 := ⟨n - 1, by omega⟩
      rw [hstep m i (by omega)]
      exact ih (i + 1) m (by omega) (by omega)
  exact fun n hn => key N 0 n (by omega) hn
theorem pl_in {f : Nat} : ∀ (l : List Nat) (i : Nat), f ∈ l → ∃ p : Nat, l[p]? = some f ∧ hv_pl l f i = nI (i + p) := by
  intro l
  induction l with
  | nil => intro i h; cases h
  | cons x xs ih =>
    intro i h
    by_cases e : x = f
    · exact ⟨0, by rw [e]; rfl, by show (if x = f then nI i else hv_pl xs f (i + 1)) = _; rw [if_pos e]; rfl⟩
    · have h2 : f ∈ xs := by
        rcases List.mem_cons.mp h with q | q
        · exact absurd q.symm e
        · exact q
      obtain ⟨p, h3, h4⟩ := ih (i + 1) h2
      refine ⟨p + 1, by simpa using h3, ?_⟩
      show (if x = f then nI i else hv_pl xs f (i + 1)) = _
      rw [if_neg e, h4, show i + 1 + p = i + (p + 1) by omega]
theorem pl_no {f : Nat} : ∀ (l : List Nat) (i : Nat), f ∉ l → hv_pl l f i = -1 := by
  intro l
  induction l with
  | nil => intro i _; rfl
  | cons x xs ih =>
    intro i h
    show (if x = f then nI i else hv_pl xs f (i + 1)) = _
    rw [if_neg (fun e => h (by rw [e]; exact List.mem_cons_self))]
    exact ih (i + 1) (fun q => h (List.mem_cons_of_mem _ q))
theorem ct_0 {p : Nat → Bool} : ∀ {n : Nat}, (∀ f : Nat, f < n → p f = false) → hv_ct p n = 0 := by
  intro n
  induction n with
  | zero => intro _; rfl
  | succ n ih =>
    intro h
    show (if p n then hv_ct p n + 1 else hv_ct p n) = 0
    rw [h n (by omega), ih (fun f hf => h f (by omega))]
    rfl
theorem ct_1 {p : Nat → Bool} {w : Nat} : ∀ {n : Nat}, w < n → p w = true → (∀ f : Nat, f < n → f ≠ w → p f = false) → hv_ct p n = 1 := by
  intro n
  induction n with
  | zero => intro h; omega
  | succ n ih =>
    intro hw h1 h
    show (if p n then hv_ct p n + 1 else hv_ct p n) = 1
    by_cases e : n = w
    · rw [e, if_pos h1, ct_0 (fun f hf => h f (by omega) (by omega))]
    · rw [h n (by omega) e]
      exact ih (by omega) h1 (fun f hf hne => h f (by omega) hne)
theorem ct_cg {p q : Nat → Bool} : ∀ {n : Nat}, (∀ f : Nat, f < n → p f = q f) → hv_ct p n = hv_ct q n := by
  intro n
  induction n with
  | zero => intro _; rfl
  | succ n ih =>
    intro h
    show (if p n then hv_ct p n + 1 else hv_ct p n) = (if q n then hv_ct q n + 1 else hv_ct q n)
    rw [h n (by omega), ih (fun f hf => h f (by omega))]
theorem len_lt (n : Nat) : ∀ q : List Nat, (q.filter (fun x => decide (x < n + 1))).length = (q.filter (fun x => decide (x < n))).length + q.count n := by
  intro q
  induction q with
  | nil => rfl
  | cons x xs ih =>
    by_cases h1 : x < n
    · have h2 : x < n + 1 := by omega
      have h3 : ¬ x = n := by omega
      simp [h1, h2, h3, ih]
      try omega
    · by_cases h3 : x = n
      · subst h3
        simp [ih]
        try omega
      · have h2 : ¬ x < n + 1 := by omega
        simp [h1, h2, h3, ih]
        try omega
theorem ct_q {q : List Nat} (hd : q.Nodup) : ∀ n : Nat, hv_ct (fun f => decide (f ∈ q)) n = (q.filter (fun x => decide (x < n))).length := by
  intro n
  induction n with
  | zero =>
    have : q.filter (fun x => decide (x < 0)) = [] := List.filter_eq_nil_iff.mpr (fun x _ => by simp)
    rw [this]
    rfl
  | succ n ih =>
    show (if decide (n ∈ q) = true then hv_ct (fun f => decide (f ∈ q)) n + 1 else hv_ct (fun f => decide (f ∈ q)) n) = _
    rw [len_lt, ih]
    by_cases h : n ∈ q
    · have h1 := List.nodup_iff_count.mp hd n
      have h2 := List.count_pos_iff.mpr h
      rw [if_pos (by simpa using h)]
      omega
    · have h1 := List.count_eq_zero.mpr h
      rw [if_neg (by simpa using h)]
      omega
theorem ct_qn {q : List Nat} (hd : q.Nodup) {n : Nat} (h : ∀ x ∈ q, x < n) : hv_ct (fun f => decide (f ∈ q)) n = q.length := by
  rw [ct_q hd, List.filter_eq_self.mpr (fun x hx => by simpa using h x hx)]
theorem cnt_sum {n : Nat} : ∀ l : List (Nat × Int32), (∀ x ∈ l, x.1 < n) → hv_sum (fun f => nI (hv_cnt l f)) n = nI l.length := by
  intro l
  induction l with
  | nil =>
    intro _
    have z : ∀ m : Nat, hv_sum (fun f => nI (hv_cnt [] f)) m = 0 := by
      intro m
      induction m with
      | zero => rfl
      | succ m ih =>
        show hv_sum (fun f => nI (hv_cnt [] f)) m + nI 0 = 0
        rw [ih, nI_0]
        grind
    rw [z]
    exact nI_0.symm
  | cons x xs ih =>
    intro h
    have e : hv_sum (fun f => nI (hv_cnt (x :: xs) f)) n = hv_sum (fun i => if i = x.1 then nI (hv_cnt xs x.1) + 1 else nI (hv_cnt xs i)) n := by
      refine hv_sum_cg (fun i _ => ?_)
      by_cases q : i = x.1
      · subst q
        rw [if_pos rfl, ← nI_succ]
        congr 1
        unfold hv_cnt
        simp
      · rw [if_neg q]
        congr 1
        unfold hv_cnt
        rw [List.filter_cons_of_neg (by simpa using fun z => q z.symm)]
    rw [e, hv_sum_1 (p := fun i => nI (hv_cnt xs i)) (h x List.mem_cons_self), ih (fun y hy => h y (List.mem_cons_of_mem _ hy))]
    show nI xs.length + (nI (hv_cnt xs x.1) + 1 - nI (hv_cnt xs x.1)) = nI (xs.length + 1)
    rw [nI_succ]
    grind
theorem told_flats (v : HV) : (hv_told v).flats = v.flats := by
  unfold hv_told
  split
  · exact (hv_hear_k v.flats (hv_talk0 v)).1
  · rfl
theorem fin_flats (v : HV) : (hv_fin v).flats = v.flats := by
  unfold hv_fin
  split
  · rfl
  · rfl
theorem next_flats (v : HV) : (hv_next v).flats = v.flats := by
  unfold hv_next
  split
  · split
    · rfl
    · rfl
  · rfl
theorem waits_flats (v : HV) : (hv_waits v).flats = v.flats := rfl
theorem tick_flats {v : HV} (h : hv_ok2 v) : (hv_tick v).flats = v.flats := by
  have e := (ok_downs (ok_told h) (hv_told v).flats (Nat.le_refl _)).2
  unfold hv_tick hv_tick0
  rw [waits_flats, next_flats, fin_flats, e, told_flats]
theorem run_flats : ∀ (k : Nat) (v : HV), hv_ok2 v → hv_in v → (hv_run k v).flats = v.flats := by
  intro k
  induction k with
  | zero => exact fun v _ _ => rfl
  | succ k ih => exact fun v h hi => (ih (hv_tick v) (ok2_tick h) (in_tick h hi)).trans (tick_flats h)
