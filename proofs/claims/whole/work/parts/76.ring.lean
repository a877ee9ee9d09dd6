/-! ===== calls from outside; a deed of the class by its verb ===== -/
def hv_ring (v : HV) (f : Nat) (m : Int32) : HV := if hv_outc v f = 0 then hv_phone (hv_out v f 0) 1 f m 1 else if hv_outc v f = 1 then hv_speak (hv_leave v f) f m 1 else if hv_outc v f = 2 then hv_write v f else hv_acc v 8 1
section RING
variable {g : Nat} {M : hp_M} {v : HV}
theorem hv_outc_4 (v : HV) (f : Nat) : hv_outc v f = 0 ∨ hv_outc v f = 1 ∨ hv_outc v f = 2 ∨ hv_outc v f = 3 := by
  unfold hv_outc
  split
  · exact Or.inl rfl
  · split
    · exact Or.inr (Or.inl rfl)
    · split
      · exact Or.inr (Or.inr (Or.inl rfl))
      · exact Or.inr (Or.inr (Or.inr rfl))
theorem x2_outc (c : CRep (M g) v) {f : Nat} {a0 : Int32} (e0 : a0 = nI f) (hf : f < 10) : F_X2_outcomeOfRing g a0 M = some (hv_outc v f, M) := by
  have h8 := c.s8
  have key : ¬ (v.num f 2 = 0 ∧ v.num f 0 ≤ v.set 5) → A_X2_outcomeOfRing_28 g a0 (v.num f 2) M = some (hv_outc v f, M) := by
    intro h
    unfold A_X2_outcomeOfRing_28 hv_outc
    rw [if_neg h, c.sl]
    by_cases h2 : v.num f 2 = 2
    · rw [if_pos h2, if_pos h2]
    · rw [if_neg h2, if_neg h2]
      by_cases h3 : v.slate.length < 8
      · rw [if_pos h3, if_neg (show ¬ (8 : Int32) ≤ nI v.slate.length from nI_ge (b := 8) h3 (by decide))]
      · rw [if_neg h3, if_pos (show (8 : Int32) ≤ nI v.slate.length from nI_le (a := 8) (by omega) (by omega))]
  unfold F_X2_outcomeOfRing
  rw [x2_g2 c e0 hf, hp_b_some]
  by_cases h1 : v.num f 2 = 0
  · rw [if_pos h1, x2_g0 c e0 hf, hp_b_some, c.st 5 (by decide)]
    by_cases h2 : v.set 5 < v.num f 0
    · rw [if_pos h2]; exact key (fun q => by have := q.2; grind)
    · rw [if_neg h2]
      unfold hv_outc
      rw [if_pos ⟨h1, by grind⟩]
  · rw [if_neg h1]; exact key (fun q => h1 q.1)
theorem x2_ring (c : CRep (M g) v) (h : hv_ok v) {f : Nat} {a0 m : Int32} (e0 : a0 = nI f) (hf : f < 10) : ∃ M', F_X2_takeRing g a0 m M = some (hv_outc v f, M') ∧ CS g M (hv_ring v f m) M' := by
  unfold F_X2_takeRing hv_ring
  rw [x2_outc c e0 hf, hp_b_some]
  rcases hv_outc_4 v f with q | q | q | q
  · rw [q, if_pos rfl, if_pos rfl]
    obtain ⟨M1, e1, c1⟩ := x2_out (w := 0) c e0 hf
    obtain ⟨M2, e2, c2⟩ := x3_hold (m := m) c1.1 e0
    rw [e1, hp_b_some, e2, hp_b_some]
    exact ⟨M2, rfl, c1.tr c2⟩
  · rw [q, if_neg (by decide), if_pos rfl, if_neg (by decide), if_pos rfl]
    obtain ⟨M1, e1, c1⟩ := x2_conn (m := m) c (ok_q10 h) e0 hf (Or.inr rfl)
    rw [e1, hp_b_some]
    exact ⟨M1, rfl, c1⟩
  · have hl : v.slate.length < 8 := by
      unfold hv_outc at q
      split at q
      · exact absurd q (by decide)
      · split at q
        · exact absurd q (by decide)
        · split at q
          · assumption
          · exact absurd q (by decide)
    rw [q, if_neg (by decide), if_neg (by decide), if_pos rfl, if_neg (by decide), if_neg (by decide), if_pos rfl, c.ti]
    obtain ⟨M1, e1, c1⟩ := x6_write (t := v.time) c e0 hl
    rw [e1, hp_b_some, c1.1.ac 6 (by decide) (by decide)]
    exact ⟨_, rfl, c1.tr (CS.acc (i := 6) c1.1)⟩
  · rw [q, if_neg (by decide), if_neg (by decide), if_neg (by decide), if_neg (by decide), if_neg (by decide), if_neg (by decide), c.ac 8 (by decide) (by decide)]
    exact ⟨_, rfl, CS.acc (i := 8) c⟩
theorem hv_hold_eq (h : hv_ok v) {f : Nat} {m : Int32} (hf : f < v.flats) (hp : v.ph = 0) (h2 : v.num f 2 = 0) : hv_put (hv_put ((((v.s_ph 1).s_who f).s_left m).s_out 1) f 2 1) f 3 (1 + v.num f 0) = hv_phone (hv_out v f 0) 1 f m 1 := by
  have hs : v.spoken = 0 := (ok_p0 h hp).2.1
  have hw := ok_w0 h f hf (Or.inl h2)
  have e : up2 (up2 (up2 v.num f 2 1) f 3 (1 + v.num f 0)) f 4 0 = up2 (up2 v.num f 2 1) f 3 (1 + v.num f 0) := by
    funext f' k'; unfold up2; grind
  show (v.flats, v.time, v.ended, v.set, v.acc, up2 (up2 v.num f 2 1) f 3 (1 + v.num f 0), v.heard, (1 : Int32), f, v.spoken, m, (1 : Int32), v.queue, v.slate) = (v.flats, v.time, v.ended, v.set, v.acc, up2 (up2 (up2 v.num f 2 1) f 3 (1 + v.num f 0)) f 4 0, v.heard, (1 : Int32), f, (0 : Int32), m, (1 : Int32), v.queue, v.slate)
  rw [e, hs]
theorem r_rings (c : RRep (M 13 1) v) (h : hv_ok v) {f : Nat} {a0 m : Int32} (e0 : a0 = nI f) (hf : f < v.flats) : ∃ M', F_X9_rings a0 m M = some (if v.ph = 0 then hv_outc v f else -5, M') ∧ RS M (if v.ph = 0 then hv_ring v f m else v) M' := by
  have h10 : f < 10 := Nat.lt_of_lt_of_le hf (ok_fl h)
  unfold F_X9_rings
  rw [r_outcome c e0 h10, hp_b_some]
  by_cases hp : v.ph = 0
  · rw [if_pos hp, if_pos hp, if_pos hp]
    unfold hv_ring
    rcases hv_outc_4 v f with q | q | q | q
    · have hq : v.num f 2 = 0 := by
        unfold hv_outc at q
        split at q
        · rename_i z; exact z.1
        · split at q
          · exact absurd q (by decide)
          · split at q
            · exact absurd q (by decide)
            · exact absurd q (by decide)
      rw [q, if_pos rfl, if_pos rfl]
      subst e0
      have c1 := RS.ph (x := 1) c
      have c2 := RS.who (w := f) c1.1
      have c3 := RS.left (x := m) c2.1
      have c4 := RS.out (x := 1) c3.1
      obtain ⟨M5, e5, c5⟩ := r_t2 (x := 1) c4.1 (f := f) (a0 := nI f) rfl h10
      rw [e5, hp_b_some, r_g0 c5.1 rfl h10, hp_b_some, show (hv_put ((((v.s_ph 1).s_who f).s_left m).s_out 1) f 2 1).num f 0 = v.num f 0 by show up2 v.num f 2 1 f 0 = _; simp [up2]]
      obtain ⟨M6, e6, c6⟩ := r_t3 (x := 1 + v.num f 0) c5.1 (f := f) (a0 := nI f) rfl h10
      rw [e6, hp_b_some]
      have c7 := ((((c1.tr c2).tr c3).tr c4).tr c5).tr c6
      rw [hv_hold_eq h hf hp hq] at c7
      exact ⟨M6, rfl, c7⟩
    · have hq : v.num f 2 = 2 := by
        unfold hv_outc at q
        split at q
        · exact absurd q (by decide)
        · split at q
          · assumption
          · split at q
            · exact absurd q (by decide)
            · exact absurd q (by decide)
      rw [q, if_neg (by decide), if_pos rfl, if_neg (by decide), if_pos rfl]
      obtain ⟨M1, e1, c1⟩ := r_leave c (ok_q10 h) (ok_qnd h) e0 h10 (ok_qall h f hf hq)
      obtain ⟨M2, e2, c2⟩ := r_speaks (m := m) (u := 1) c1.1 e0 h10 (Or.inr rfl)
      rw [e1, hp_b_some, e2, hp_b_some]
      exact ⟨M2, rfl, c1.tr c2⟩
    · have hl : v.slate.length < 8 := by
        unfold hv_outc at q
        split at q
        · exact absurd q (by decide)
        · split at q
          · exact absurd q (by decide)
          · split at q
            · assumption
            · exact absurd q (by decide)
      rw [q, if_neg (show ¬ ((2 : Int32) = 0) by decide), if_neg (show ¬ ((2 : Int32) = 1) by decide), if_pos (show (2 : Int32) = 2 from rfl), if_neg (show ¬ ((2 : Int32) = 0) by decide), if_neg (show ¬ ((2 : Int32) = 1) by decide), if_pos (show (2 : Int32) = 2 from rfl)]
      generalize hL : v.slate.length = L at hl
      have a1 : (14 : Int32) + (2 : Int32) * nI L = nI (14 + 2 * L) := by rw [show (14 : Int32) = nI 14 from rfl, show (2 : Int32) = nI 2 from rfl, nI_mul, nI_add]
      have a2 : nI (14 + 2 * L) + (1 : Int32) = nI (15 + 2 * L) := by rw [nI_1]; congr 1; omega
      have csl : M 13 1 13 = nI L := by rw [c.sl, hL]
      have k1 : (nI (14 + 2 * L)).toNatClampNeg = 14 + 2 * L := nI_clamp (by omega)
      have k2 : (nI (15 + 2 * L)).toNatClampNeg = 15 + 2 * L := nI_clamp (by omega)
      have b1 : ¬ (nI (14 + 2 * L) < 0 ∨ 242 ≤ 14 + 2 * L) := nI_in2 (by omega) (by decide)
      have b2 : ¬ (nI (15 + 2 * L) < 0 ∨ 242 ≤ 15 + 2 * L) := nI_in2 (by omega) (by decide)
      have s13 : hp_p M 13 1 (14 + 2 * L) a0 13 1 13 = nI L := (hp_p_ro _ _ _ (by omega)).trans csl
      have s1 : hp_p M 13 1 (14 + 2 * L) a0 13 1 1 = v.time := (hp_p_ro _ _ _ (by omega)).trans c.ti
      have s13b : hp_p (hp_p M 13 1 (14 + 2 * L) a0) 13 1 (15 + 2 * L) v.time 13 1 13 = nI L := (hp_p_ro _ _ _ (by omega)).trans s13
      simp only [csl, a1, k1, s13, a2, k2, s1, s13b, if_neg b1, if_neg b2, nI_1]
      subst e0
      have c1 : RS M (v.s_slate (v.slate ++ [(f, v.time)])) (hp_p (hp_p (hp_p M 13 1 (14 + 2 * L) (nI f)) 13 1 (15 + 2 * L) v.time) 13 1 13 (nI (L + 1))) := by
        refine ⟨c.pslate (fun j hj => ?_) ?_ (by simp; omega) (fun i x hx => ?_), fun g j hj => by rw [hp_p_r _ _ _ hj, hp_p_r _ _ _ hj, hp_p_r _ _ _ hj]⟩
        · rw [hp_p_ro _ _ _ (by omega), hp_p_ro _ _ _ (by omega), hp_p_ro _ _ _ (by omega)]
        · rw [hp_p_rs, List.length_append, hL]; rfl
        · by_cases hi : i < v.slate.length
          · rw [List.getElem?_append_left hi] at hx
            have h2 := c.sf i x hx
            simp only [hp_p_at]
            refine ⟨?_, ?_⟩ <;> grind
          · rw [List.getElem?_append_right (by omega)] at hx
            have hz : i - v.slate.length < 1 := (List.getElem?_eq_some_iff.mp hx).1
            have hz2 : i = L := by omega
            subst hz2
            rw [hL, Nat.sub_self] at hx
            cases hx
            simp only [hp_p_at]
            refine ⟨?_, ?_⟩ <;> grind
      obtain ⟨M2, e2, c2⟩ := r_c6 (x := 1) c1.1
      rw [e2, hp_b_some]
      exact ⟨M2, rfl, c1.tr c2⟩
    · rw [q, if_neg (by decide), if_neg (by decide), if_neg (by decide), if_pos rfl, if_neg (by decide), if_neg (by decide), if_neg (by decide)]
      obtain ⟨M2, e2, c2⟩ := r_c8 (x := 1) c
      rw [e2, hp_b_some]
      exact ⟨M2, rfl, c2⟩
  · rw [if_neg hp, if_neg hp, if_neg hp, if_neg (by decide), if_neg (by decide), if_neg (by decide), if_neg (by decide)]
    exact ⟨M, rfl, RS.rf c⟩
end RING
