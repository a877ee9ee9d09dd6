/-! ===== sums over the flats ===== -/
theorem hv_sum_cg {p q : Nat → Int32} : ∀ {n : Nat}, (∀ i : Nat, i < n → p i = q i) → hv_sum p n = hv_sum q n := by
  intro n
  induction n with
  | zero => intro _; rfl
  | succ n ih =>
    intro h
    show hv_sum p n + p n = hv_sum q n + q n
    rw [ih (fun i hi => h i (by omega)), h n (by omega)]
theorem hv_sum_1 {p : Nat → Int32} {f : Nat} {x : Int32} : ∀ {n : Nat}, f < n → hv_sum (fun i => if i = f then x else p i) n = hv_sum p n + (x - p f) := by
  intro n
  induction n with
  | zero => intro h; omega
  | succ n ih =>
    intro h
    show hv_sum (fun i => if i = f then x else p i) n + (if n = f then x else p n) = hv_sum p n + p n + (x - p f)
    by_cases e : n = f
    · subst e
      rw [if_pos rfl, hv_sum_cg (q := p) (fun i hi => if_neg (by omega))]
      grind
    · rw [if_neg e, ih (by omega)]
      grind
theorem hv_sum_up {n : Nat → Nat → Int32} {f k m : Nat} {x : Int32} (hf : f < m) : hv_sum (fun i => up2 n f k x i k) m = hv_sum (fun i => n i k) m + (x - n f k) := by
  rw [← hv_sum_1 (p := fun i => n i k) (x := x) hf]
  exact hv_sum_cg (fun i _ => by simp [up2])
theorem hv_sum_ne {n : Nat → Nat → Int32} {f k k' m : Nat} {x : Int32} (hk : k' ≠ k) : hv_sum (fun i => up2 n f k x i k') m = hv_sum (fun i => n i k') m := hv_sum_cg (fun i _ => by simp [up2, hk])
/-- the sum over a whole table -/
def hv_dsum (h : Nat → Nat → Int32) (n : Nat) : Int32 := hv_sum (fun f => hv_sum (fun k => h f k) n) n
theorem hv_dsum_up {h : Nat → Nat → Int32} {f s n : Nat} {x : Int32} (hf : f < n) (hs : s < n) : hv_dsum (up2 h f s x) n = hv_dsum h n + (x - h f s) := by
  have e : hv_dsum (up2 h f s x) n = hv_sum (fun i => if i = f then hv_sum (fun k => h f k) n + (x - h f s) else hv_sum (fun k => h i k) n) n := by
    refine hv_sum_cg (fun i _ => ?_)
    by_cases hi : i = f
    · subst hi
      rw [if_pos rfl, ← hv_sum_1 (p := fun k => h i k) (x := x) hs]
      exact hv_sum_cg (fun k _ => by simp [up2])
    · rw [if_neg hi]
      exact hv_sum_cg (fun k _ => by simp [up2, hi])
  rw [e, hv_sum_1 (p := fun i => hv_sum (fun k => h i k) n) hf]
  show hv_sum _ n + (hv_sum (fun k => h f k) n + (x - h f s) - hv_sum (fun k => h f k) n) = hv_dsum h n + (x - h f s)
  unfold hv_dsum
  grind
theorem hv_lt_0 {B : Nat} : hv_lt B 0 := ⟨0, nI_0.symm, Nat.zero_le _⟩
theorem hv_lt_1 {B C : Nat} {x : Int32} (h : hv_lt B x) (hBC : B + 1 ≤ C) : hv_lt C (x + 1) := by
  obtain ⟨t, rfl, ht⟩ := h
  exact ⟨t + 1, nI_1 t, by omega⟩
theorem hv_lt_pl {B C D : Nat} {x y : Int32} (h : hv_lt B x) (h2 : hv_lt C y) (hBC : B + C ≤ D) : hv_lt D (x + y) := by
  obtain ⟨t, rfl, ht⟩ := h
  obtain ⟨u, rfl, hu⟩ := h2
  exact ⟨t + u, nI_add t u, by omega⟩
theorem hv_lt_sub {B : Nat} {x y : Int32} (hB : B < 2 ^ 31) (h : hv_lt B x) (h0 : 0 ≤ y) (h1 : y ≤ x) : hv_lt B (x - y) := by
  obtain ⟨t, rfl, ht⟩ := h
  obtain ⟨u, hu, rfl⟩ := nI_of (x := y) (by grind)
  have h2 := (nI_leI hu (by omega)).mp h1
  obtain ⟨d, rfl⟩ := Nat.exists_eq_add_of_le h2
  refine ⟨d, ?_, by omega⟩
  rw [← nI_add]
  grind
theorem hv_lt_ge {B : Nat} {x : Int32} (hB : B < 2 ^ 31) (h : hv_lt B x) : 0 ≤ x := by
  obtain ⟨t, rfl, ht⟩ := h
  exact nI_pos' (by omega)
theorem hv_lt_le {B : Nat} {x : Int32} (hB : B < 2 ^ 31) (h : hv_lt B x) : x ≤ nI B := by
  obtain ⟨t, rfl, ht⟩ := h
  exact nI_le ht hB
/-- one more on both sides keeps the order, as long as the greater one is small -/
theorem hv_le_1 {B : Nat} {x y : Int32} (hB : B + 1 < 2 ^ 31) (h : hv_lt B y) (h1 : x ≤ y) : x + 1 ≤ y + 1 := by
  have h2 := hv_lt_le (by omega) h
  have h3 : nI B < nI (B + 1) := nI_lt (by omega) hB
  grind
theorem hv_le_2 {B : Nat} {x y : Int32} (hB : B + 1 < 2 ^ 31) (h : hv_lt B y) (h1 : x ≤ y) : x ≤ y + 1 := by
  have h2 := hv_lt_le (by omega) h
  have h3 : nI B < nI (B + 1) := nI_lt (by omega) hB
  grind
