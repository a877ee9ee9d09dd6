theorem hp_out {x : Int32} {lo hi : Int} (n : Nat) (h2 : hi + 1 ≤ lo + n) (h : ∀ k : Nat, k < n → ¬ x.toInt = lo + k) : x.toInt < lo ∨ hi < x.toInt := by
  by_cases h1 : x.toInt < lo
  · exact Or.inl h1
  · refine Or.inr (Int.not_le.mp fun h3 => h (x.toInt - lo).toNat (by omega) (by omega))
