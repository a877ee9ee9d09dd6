theorem ok2_time {v : HV} (h : hv_ok2 v) {x : Int32} : hv_ok2 (v.s_time x) := ⟨ok_time h.1, h.2⟩
theorem up2_o {n : Nat → Nat → Int32} {f k f' k' : Nat} {x : Int32} (h : ¬ (f' = f ∧ k' = k)) : up2 n f k x f' k' = n f' k' := if_neg h
