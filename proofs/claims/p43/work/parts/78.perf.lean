/-! ===== a deed of the class that isn't refused ===== -/
section PERF2
variable {g : Nat} {M : hp_M} {v : HV}
theorem x2_perf6 (c : CRep (M g) v) {f : Nat} {a1 x : Int32} (e1 : a1 = nI f) (hf : f < 10) : ∃ M', F_X2_perform g 6 a1 x M = some (1 + v.num f 0, M') ∧ CS g M (hv_out v f x) M' := by
  unfold F_X2_perform F_Jx29ce0_ordinal_8abf5
  rw [hp_b_some, if_neg (by decide), if_pos (by decide)]
  obtain ⟨M1, q1, c1⟩ := x2_out (w := x) c e1 hf
  rw [q1, hp_b_some]
  exact ⟨M1, rfl, c1⟩
theorem x2_perf7 (c : CRep (M g) v) (h : hv_ok v) {f : Nat} {a1 x : Int32} (e1 : a1 = nI f) (hf : f < 10) : ∃ M', F_X2_perform g 7 a1 x M = some (v.num f 4, M') ∧ CS g M (hv_give v f) M' := by
  unfold F_X2_perform F_Jx29ce0_ordinal_8abf5
  rw [hp_b_some, if_neg (by decide), if_neg (by decide), if_pos (by decide)]
  obtain ⟨M1, q1, c1⟩ := x2_give c (ok_q10 h) e1 hf
  rw [q1, hp_b_some]
  exact ⟨M1, rfl, c1⟩
theorem x2_perf8 (c : CRep (M g) v) (h : hv_ok v) (hp : v.ph = 2) {a1 x : Int32} : ∃ M', F_X2_perform g 8 a1 x M = some (v.spoken, M') ∧ CS g M (hv_end v) M' := by
  unfold F_X2_perform F_Jx29ce0_ordinal_8abf5
  rw [hp_b_some, if_neg (by decide), if_neg (by decide), if_neg (by decide), if_pos (by decide)]
  have hp0 : v.ph ≠ 0 := by rw [hp]; decide
  obtain ⟨M1, q1, c1⟩ := x2_end c hp0 (ok_w10 h hp0) (by have := (ok_un h).1; grind)
  rw [q1, hp_b_some]
  exact ⟨M1, rfl, c1⟩
theorem x2_perf9 (c : CRep (M g) v) (h : hv_ok v) {f : Nat} {a1 x : Int32} (e1 : a1 = nI f) (hf : f < 10) : ∃ M', F_X2_perform g 9 a1 x M = some (hv_outc v f, M') ∧ CS g M (hv_ring v f x) M' := by
  unfold F_X2_perform F_Jx29ce0_ordinal_8abf5
  rw [hp_b_some, if_neg (by decide), if_neg (by decide), if_neg (by decide), if_neg (by decide), if_pos (by decide)]
  obtain ⟨M1, q1, c1⟩ := x2_ring (m := x) c h e1 hf
  rw [q1, hp_b_some]
  exact ⟨M1, rfl, c1⟩
theorem x2_perf10 (c : CRep (M g) v) {f : Nat} {a1 x : Int32} (e1 : a1 = nI f) (hf : f < 10) : ∃ M', F_X2_perform g 10 a1 x M = some (v.num f 6 - x, M') ∧ CS g M (hv_pay v f x) M' := by
  unfold F_X2_perform F_Jx29ce0_ordinal_8abf5
  rw [hp_b_some, if_neg (by decide), if_neg (by decide), if_neg (by decide), if_neg (by decide), if_neg (by decide), if_pos (by decide)]
  obtain ⟨M1, q1, c1⟩ := x2_money (x := x) c e1 hf
  rw [q1, hp_b_some]
  exact ⟨M1, rfl, c1⟩
theorem x2_perf11 (c : CRep (M g) v) (h : hv_ok2 v) {k : Nat} {a1 x : Int32} (e1 : x = nI k) (hk : k < 1000) : ∃ M', F_X2_perform g 11 a1 x M = some (hv_runE k v 0, M') ∧ CS g M ((hv_run k v).s_time (v.time + nI k)) M' := by
  unfold F_X2_perform F_Jx29ce0_ordinal_8abf5
  rw [hp_b_some, if_neg (by decide), if_neg (by decide), if_neg (by decide), if_neg (by decide), if_neg (by decide), if_neg (by decide), if_pos (by decide)]
  obtain ⟨M1, q1, c1⟩ := x2_pass c h e1 hk
  rw [q1, hp_b_some]
  exact ⟨M1, rfl, c1⟩
theorem x2_perfS (c : CRep (M g) v) {k : Nat} {a1 x : Int32} (hk : k < 6) : ∃ M', F_X2_perform g k a1 x M = some (v.set k, M') ∧ CS g M (v.s_set (up1 v.set k x)) M' := by
  have key : ∀ z : Int32, z = nI k → ∃ M', hp_b (F_X2_changeSetting g z x M) (fun r8 M8 => some (r8, M8)) = some (v.set k, M') ∧ CS g M (v.s_set (up1 v.set k x)) M' := by
    intro z hz
    obtain ⟨M1, q1, c1⟩ := x2_cs (x := x) c hz hk
    rw [q1, hp_b_some]
    exact ⟨M1, rfl, c1⟩
  unfold F_X2_perform F_Jx29ce0_ordinal_8abf5
  rcases (show k = 0 ∨ k = 1 ∨ k = 2 ∨ k = 3 ∨ k = 4 ∨ k = 5 by omega) with rfl | rfl | rfl | rfl | rfl | rfl
  all_goals
    rw [hp_b_some, if_neg (by decide), if_neg (by decide), if_neg (by decide), if_neg (by decide), if_neg (by decide), if_neg (by decide), if_neg (by decide)]
    exact key _ (by decide)
end PERF2
