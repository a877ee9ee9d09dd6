/-! ===== calls from outside; a deed of the class by its verb ===== -/
def hv_ring (v : HV) (f : Nat) (m : Int32) : HV := if hv_outc v f = 0 then hv_phone (hv_out v f 0) 1 f m 1 else if hv_outc v f = 1 then hv_speak (hv_leave v f) f m 1 else if hv_outc v f = 2 then hv_write v f else hv_acc v 8 1
section RING
variable {g : Nat} {M : hp_M} {v : HV}
theorem hv_outc_4 (v : HV) (f : Nat) : hv_outc v f = 0 ∨ hv_outc v f = 1 ∨ hv_outc v f = 2 ∨ hv_outc v f = 3 := by
  unfold hv_outc
  split
  · exact Or.inl rfl
  · split
    · exact Or.inr (Or.inl rfl)
    · split
      · exact Or.inr (Or.inr (Or.inl rfl))
      · exact Or.inr (Or.inr (Or.inr rfl))
theorem x2_outc (c : CRep (M g) v) {f : Nat} {a0 : Int32} (e0 : a0 = nI f) (hf : f < 10) : F_X2_outcomeOfRing g a0 M = some (hv_outc v f, M) := by
  have h8 := c.s8
  have key : ¬ (v.num f 2 = 0 ∧ v.num f 0 ≤ v.set 5) → A_X2_outcomeOfRing_28 g a0 (v.num f 2) M = some (hv_outc v f, M) := by
    intro h
    unfold A_X2_outcomeOfRing_28 hv_outc
    rw [if_neg h, c.sl]
    by_cases h2 : v.num f 2 = 2
    · rw [if_pos h2, if_pos h2]
    · rw [if_neg h2, if_neg h2]
      by_cases h3 : v.slate.length < 8
      · rw [if_pos h3, if_neg (show ¬ (8 : Int32) ≤ nI v.slate.length from nI_ge (b := 8) h3 (by decide))]
      · rw [if_neg h3, if_pos (show (8 : Int32) ≤ nI v.slate.length from nI_le (a := 8) (by omega) (by omega))]
  unfold F_X2_outcomeOfRing
  rw [x2_g2 c e0 hf, hp_b_some]
  by_cases h1 : v.num f 2 = 0
  · rw [if_pos h1, x2_g0 c e0 hf, hp_b_some, c.st 5 (by decide)]
    by_cases h2 : v.set 5 < v.num f 0
    · rw [if_pos h2]; exact key (fun q => by have := q.2; grind)
    · rw [if_neg h2]
      unfold hv_outc
      rw [if_pos ⟨h1, by grind⟩]
  · rw [if_neg h1]; exact key (fun q => h1 q.1)
theorem x2_ring (c : CRep (M g) v) (h : hv_ok v) {f : Nat} {a0 m : Int32} (e0 : a0 = nI f) (hf : f < 10) : ∃ M', F_X2_takeRing g a0 m M = some (hv_outc v f, M') ∧ CS g M (hv_ring v f m) M' := by
  unfold F_X2_takeRing hv_ring
  rw [x2_outc c e0 hf, hp_b_some]
  rcases hv_outc_4 v f with q | q | q | q
  · rw [q, if_pos rfl, if_pos rfl]
    obtain ⟨M1, e1, c1⟩ := x2_out (w := 0) c e0 hf
    obtain ⟨M2, e2, c2⟩ := x3_hold (m := m) c1.1 e0
    rw [e1, hp_b_some, e2, hp_b_some]
    exact ⟨M2, rfl, c1.tr c2⟩
  · rw [q, if_neg (by decide), if_pos rfl, if_neg (by decide), if_pos rfl]
    obtain ⟨M1, e1, c1⟩ := x2_conn (m := m) c (ok_q10 h) e0 hf (Or.inr rfl)
    rw [e1, hp_b_some]
    exact ⟨M1, rfl, c1⟩
  · have hl : v.slate.length < 8 := by
      unfold hv_outc at q
      split at q
      · exact absurd q (by decide)
      · split at q
        · exact absurd q (by decide)
        · split at q
          · assumption
          · exact absurd q (by decide)
    rw [q, if_neg (by decide), if_neg (by decide), if_pos rfl, if_neg (by decide), if_neg (by decide), if_pos rfl, c.ti]
    obtain ⟨M1, e1, c1⟩ := x6_write (t := v.time) c e0 hl
    rw [e1, hp_b_some, c1.1.ac 6 (by decide) (by decide)]
    exact ⟨_, rfl, c1.tr (CS.acc (i := 6) c1.1)⟩
  · rw [q, if_neg (by decide), if_neg (by decide), if_neg (by decide), if_neg (by decide), if_neg (by decide), if_neg (by decide), c.ac 8 (by decide) (by decide)]
    exact ⟨_, rfl, CS.acc (i := 8) c⟩
theorem hv_hold_eq (h : hv_ok v) {f : Nat} {m : Int32} (hf : f < v.flats) (hp : v.ph = 0) (h2 : v.num f 2 = 0) : hv_put (hv_put ((((v.s_ph 1).s_who f).s_left m).s_out 1) f 2 1) f 3 (1 + v.num f 0) = hv_phone (hv_out v f 0) 1 f m 1 := by
  have hs : v.spoken = 0 := (ok_p0 h hp).2.1
  have hw := ok_w0 h f hf (Or.inl h2)
  have e : up2 (up2 (up2 v.num f 2 1) f 3 (1 + v.num f 0)) f 4 0 = up2 (up2 v.num f 2 1) f 3 (1 + v.num f 0) := by
    funext f' k'; unfold up2; grind
  show (v.flats, v.time, v.ended, v.set, v.acc, up2 (up2 v.num f 2 1) f 3 (1 + v.num f 0), v.heard, (1 : Int32), f, v.spoken, m, (1 : Int32), v.queue, v.slate) = (v.flats, v.time, v.ended, v.set, v.acc, up2 (up2 (up2 v.num f 2 1) f 3 (1 + v.num f 0)) f 4 0, v.heard, (1 : Int32), f, (0 : Int32), m, (1 : Int32), v.queue, v.slate)
  rw [e, hs]
end RING
