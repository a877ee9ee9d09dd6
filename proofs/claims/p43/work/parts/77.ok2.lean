/-! ===== what holds between calls is kept by the deeds ===== -/
section OK2
variable {v : HV}
theorem ok2_out (h : hv_ok2 v) {f : Nat} {w : Int32} (hf : f < v.flats) (h0 : v.num f 2 = 0) (hw : 1 ≤ w ∧ w ≤ 99) : hv_ok2 (hv_out v f w) := ⟨ok_out h.1 hf h0 hw, h.2⟩
theorem ok2_give (h : hv_ok2 v) {f : Nat} (hf : f < v.flats) (h0 : v.num f 2 = 2 ∨ (v.num f 2 = 1 ∧ ¬ (v.ph = 1 ∧ v.who = f))) : hv_ok2 (hv_give v f) := ⟨ok_give h.1 hf h0, h.2⟩
theorem ok2_pay (h : hv_ok2 v) {f : Nat} {x : Int32} : hv_ok2 (hv_pay v f x) := ⟨ok_pay h.1, h.2⟩
theorem ok2_end (h : hv_ok2 v) (hp : v.ph = 2) : hv_ok2 (hv_end v) := ⟨ok_end h.1 hp, fun q => absurd rfl q⟩
theorem ok2_set (h : hv_ok2 v) {i : Nat} {x : Int32} (hx : i = 1 → 1 ≤ x ∧ x ≤ 30) : hv_ok2 (v.s_set (up1 v.set i x)) := ⟨ok_set h.1 hx, h.2⟩
theorem ok2_cur (h : hv_ok2 v) {f : Nat} {x : Int32} : hv_ok2 (hv_put v f 1 x) := ⟨ok_cur h.1, h.2⟩
theorem ok2_run : ∀ (n : Nat) (v : HV), hv_ok2 v → hv_ok2 (hv_run n v) := by
  intro n
  induction n with
  | zero => exact fun _ h => h
  | succ n ih => exact fun v h => ih (hv_tick v) (ok2_tick h)
theorem ok2_ring (h : hv_ok2 v) {f : Nat} {m : Int32} (hf : f < v.flats) (hp : v.ph = 0) (hm : 1 ≤ m ∧ m ≤ 99) : hv_ok2 (hv_ring v f m) := by
  unfold hv_ring hv_outc
  by_cases h1 : v.num f 2 = 0 ∧ v.num f 0 ≤ v.set 5
  · rw [if_pos h1, if_pos rfl]
    exact ⟨ok_hold h.1 hf hp h1.1 hm, fun _ => hm.1⟩
  · rw [if_neg h1]
    by_cases h2 : v.num f 2 = 2
    · rw [if_pos h2, if_neg (by decide), if_pos rfl]
      exact ⟨ok_ringq h.1 hf hp h2 hm, fun _ => hm.1⟩
    · rw [if_neg h2]
      by_cases h3 : v.slate.length < 8
      · rw [if_pos h3, if_neg (by decide), if_neg (by decide), if_pos rfl]
        exact ⟨ok_acc (ok_write h.1 hf h3), h.2⟩
      · rw [if_neg h3, if_neg (by decide), if_neg (by decide), if_neg (by decide)]
        exact ⟨ok_acc h.1, h.2⟩
end OK2
/-- a verb of the class by its number -/
def hv_vb (k : Nat) : Prop := k < 12
section PERF
variable {g : Nat} {M : hp_M} {v : HV}
/-- why a deed is refused; 0 if it is not -/
def hv_ref (v : HV) (k f : Nat) (x : Int32) : Int32 :=
  if k = 6 then (if v.num f 2 = 0 then 0 else 2)
  else if k = 7 then (if v.num f 2 = 2 ∨ (v.num f 2 = 1 ∧ ¬ (v.ph = 1 ∧ v.who = f)) then 0 else 3)
  else if k = 8 then (if v.num f 2 = 3 then 0 else 4)
  else if k = 9 then (if v.ph = 0 then 0 else 5)
  else if k = 10 then (if x ≤ v.num f 6 then 0 else 6)
  else 0
theorem hv_ref6 (v : HV) (f : Nat) (x : Int32) : hv_ref v 6 f x = (if v.num f 2 = 0 then 0 else 2) := by
  unfold hv_ref
  rw [if_pos rfl]
theorem hv_ref7 (v : HV) (f : Nat) (x : Int32) : hv_ref v 7 f x = (if v.num f 2 = 2 ∨ (v.num f 2 = 1 ∧ ¬ (v.ph = 1 ∧ v.who = f)) then 0 else 3) := by
  unfold hv_ref
  rw [if_neg (by decide), if_pos rfl]
theorem hv_ref8 (v : HV) (f : Nat) (x : Int32) : hv_ref v 8 f x = (if v.num f 2 = 3 then 0 else 4) := by
  unfold hv_ref
  rw [if_neg (by decide), if_neg (by decide), if_pos rfl]
theorem hv_ref9 (v : HV) (f : Nat) (x : Int32) : hv_ref v 9 f x = (if v.ph = 0 then 0 else 5) := by
  unfold hv_ref
  rw [if_neg (by decide), if_neg (by decide), if_neg (by decide), if_pos rfl]
theorem hv_ref10 (v : HV) (f : Nat) (x : Int32) : hv_ref v 10 f x = (if x ≤ v.num f 6 then 0 else 6) := by
  unfold hv_ref
  rw [if_neg (by decide), if_neg (by decide), if_neg (by decide), if_neg (by decide), if_pos rfl]
theorem x2_refusal (c : CRep (M g) v) (h : hv_ok v) {k f : Nat} {a1 x : Int32} (e1 : a1 = nI f) (hf : f < 10) (hk6 : 6 ≤ k) (hk : k < 11) : F_X2_refusal g k a1 x M = some (hv_ref v k f x, M) := by
  unfold F_X2_refusal F_Jx29ce0_ordinal_8abf5
  rw [x2_g2 c e1 hf, hp_b_some, hp_b_some]
  have hc := x2_called c e1 hf (ok_w10' h)
  have h6 := x2_g6 c e1 hf
  rcases (show k = 6 ∨ k = 7 ∨ k = 8 ∨ k = 9 ∨ k = 10 by omega) with rfl | rfl | rfl | rfl | rfl
  · rw [if_neg (by decide), if_pos (by decide)]
    rw [hv_ref6]
    by_cases q : v.num f 2 = 0
    · rw [if_pos q, if_pos q]
    · rw [if_neg q, if_neg q]
  · rw [if_neg (by decide), if_neg (by decide), if_pos (by decide), hc, hp_b_some]
    rw [hv_ref7]
    by_cases q : v.num f 2 = 2
    · rw [if_pos q, if_pos (Or.inl q)]
    · rw [if_neg q]
      by_cases q1 : v.num f 2 = 1
      · rw [if_pos q1]
        by_cases q2 : v.ph = 1 ∧ v.who = f
        · rw [if_pos q2, if_neg (by decide), if_neg (fun z => z.elim q (fun y => y.2 q2))]
        · rw [if_neg q2, if_pos rfl, if_pos (Or.inr ⟨q1, q2⟩)]
      · rw [if_neg q1, if_neg (fun z => z.elim q (fun y => q1 y.1))]
  · rw [if_neg (by decide), if_neg (by decide), if_neg (by decide), if_pos (by decide)]
    rw [hv_ref8]
    by_cases q : v.num f 2 = 3
    · rw [if_pos q, if_pos q]
    · rw [if_neg q, if_neg q]
  · rw [if_neg (by decide), if_neg (by decide), if_neg (by decide), if_neg (by decide), if_pos (by decide), c.ph]
    rw [hv_ref9]
    by_cases q : v.ph = 0
    · rw [if_pos q, if_pos q]
    · rw [if_neg q, if_neg q]
  · rw [if_neg (by decide), if_neg (by decide), if_neg (by decide), if_neg (by decide), if_neg (by decide), if_pos (by decide), h6, hp_b_some]
    rw [hv_ref10]
    by_cases q : v.num f 6 < x
    · rw [if_pos q, if_neg (by grind)]
    · rw [if_neg q, if_pos (by grind)]
end PERF
