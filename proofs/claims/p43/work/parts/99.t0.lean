def tk_isR (x : Int32 ⊕ HV) : Bool := match x with
  | .inl _ => false
  | .inr _ => true
theorem tk_t2 : tk_isR (tk_text (fun i => (hp_tx 22).getD i 0) (hp_tx 22).length) = true := by decide +kernel
theorem tk_t0 : tk_isR (tk_text (fun i => (hp_tx 20).getD i 0) (hp_tx 20).length) = true := by decide +kernel
theorem tk_t1 : tk_isR (tk_text (fun i => (hp_tx 21).getD i 0) (hp_tx 21).length) = true := by decide +kernel
