/-! ===== a minute of the class ===== -/
def hv_hear1 (v : HV) (f : Nat) : HV := if v.num f 2 = 0 ∧ v.num f 1 = 1 ∧ v.num f 0 ≤ v.set 3 then (v.s_heard (up2 v.heard f v.who (v.heard f v.who + 1))).s_acc (up1 v.acc 9 (v.acc 9 + 1)) else v
def hv_hear : Nat → HV → HV
  | 0, v => v
  | n + 1, v => hv_hear1 (hv_hear n v) n
def hv_talk (v : HV) : HV := hv_hear v.flats (hv_talk0 v)
def hv_arrive (w : HV) (f : Nat) : HV := if w.ph = 1 ∧ w.who = f then hv_speak w f w.left 1 else hv_join (hv_put w f 2 2) f
def hv_down (v : HV) (f : Nat) : HV := if v.num f 2 = 1 then (if v.num f 3 - 1 ≤ 0 then hv_arrive (hv_wipe (hv_put v f 3 (v.num f 3 - 1)) f) f else hv_put v f 3 (v.num f 3 - 1)) else v
def hv_downs : Nat → HV → HV
  | 0, v => v
  | n + 1, v => hv_down (hv_downs n v) n
abbrev hv_over (v : HV) : Prop := v.ph = 2 ∧ (v.left ≤ 0 ∨ (0 < v.set 0 ∧ v.set 0 ≤ v.spoken ∧ v.queue ≠ []))
def hv_waits (v : HV) : HV := v.s_num (fun f k => if k = 10 ∧ f ∈ v.queue then v.num f 10 + 1 else v.num f k)
section CLS5
variable {g : Nat} {M : hp_M} {v : HV}
theorem CS.spoken (c : CRep (M g) v) {x : Int32} : CS g M (v.s_spoken x) (hp_p M g 5 2 x) := ⟨c.pphone (p := v.ph) (w := v.who) (l := v.left) (u := v.out) (fun j i h => hp_p_o _ _ _ _ _ (by omega)) ((hp_p_o _ _ _ _ _ (by omega)).trans c.ph) ((hp_p_o _ _ _ _ _ (by omega)).trans c.wh) (hp_p_s _ _ _ _ _) ((hp_p_o _ _ _ _ _ (by omega)).trans c.le) ((hp_p_o _ _ _ _ _ (by omega)).trans c.ou), fun g' hg => hp_p_ne M _ _ _ hg⟩
theorem CS.left (c : CRep (M g) v) {x : Int32} : CS g M (v.s_left x) (hp_p M g 5 3 x) := ⟨c.pphone (p := v.ph) (w := v.who) (sp := v.spoken) (u := v.out) (fun j i h => hp_p_o _ _ _ _ _ (by omega)) ((hp_p_o _ _ _ _ _ (by omega)).trans c.ph) ((hp_p_o _ _ _ _ _ (by omega)).trans c.wh) ((hp_p_o _ _ _ _ _ (by omega)).trans c.sp) (hp_p_s _ _ _ _ _) ((hp_p_o _ _ _ _ _ (by omega)).trans c.ou), fun g' hg => hp_p_ne M _ _ _ hg⟩
theorem hv_hear_k (n : Nat) (v : HV) : (hv_hear n v).flats = v.flats ∧ (hv_hear n v).num = v.num ∧ (hv_hear n v).who = v.who ∧ (hv_hear n v).ph = v.ph ∧ (hv_hear n v).set = v.set ∧ (hv_hear n v).queue = v.queue ∧ (hv_hear n v).left = v.left ∧ (hv_hear n v).slate = v.slate := by
  induction n with
  | zero => exact ⟨rfl, rfl, rfl, rfl, rfl, rfl, rfl, rfl⟩
  | succ n ih =>
    have e : hv_hear (n + 1) v = hv_hear1 (hv_hear n v) n := rfl
    rw [e]
    unfold hv_hear1
    split
    · exact ih
    · exact ih
theorem ok_hear (n : Nat) (h : hv_ok v) : hv_ok (hv_hear n v) := by
  induction n with
  | zero => exact h
  | succ n ih =>
    show hv_ok (hv_hear1 (hv_hear n v) n)
    unfold hv_hear1
    split
    · exact ok_acc (ok_hear1 ih)
    · exact ih
theorem x2_hears (c : CRep (M g) v) (hp : v.ph ≠ 0) (hw : v.who < 10) : ∃ M', L_X2_speakOneMinute_66 g hp_fu 0 M = some ((), M') ∧ CS g M (hv_hear v.flats v) M' := by
  have h10 := c.fl10
  obtain ⟨n', M', e, h⟩ := hp_runs (T := fun n i M1 => L_X2_speakOneMinute_66 g n (nI i) M1) (I := fun i M1 => CS g M (hv_hear i v) M1) (N := v.flats) (fun n i M1 hi hM => by
    have hk := hv_hear_k i v
    show ∃ M2, L_X2_speakOneMinute_66 g (n + 1) (nI i) M1 = L_X2_speakOneMinute_66 g n (nI (i + 1)) M2 ∧ CS g M (hv_hear1 (hv_hear i v) i) M2
    rw [L_X2_speakOneMinute_66.eq_2, hM.1.fl, hk.1, if_neg (nI_ge hi (by omega)), x2_lis hM.1 rfl (by omega), hp_b_some, nI_1]
    unfold hv_hear1
    by_cases hl : (hv_hear i v).num i 2 = 0 ∧ (hv_hear i v).num i 1 = 1 ∧ (hv_hear i v).num i 0 ≤ (hv_hear i v).set 3
    · rw [if_pos hl, if_pos hl, if_neg (by decide)]
      have e1 : M1 g 5 1 = nI (hv_hear i v).who := by rw [hM.1.wh, if_neg (by rw [hk.2.2.2.1]; exact hp)]
      obtain ⟨M2, e2, c2⟩ := x2_hom (f := i) (a0 := nI i) hM.1 rfl e1 (by omega) (by rw [hk.2.2.1]; exact hw)
      exact ⟨M2, by rw [e2, hp_b_some], hM.tr c2⟩
    · rw [if_neg hl, if_neg hl, if_pos rfl]
      exact ⟨M1, rfl, hM⟩) hp_fu M (by unfold hp_fu; omega) (CS.rf c)
  refine ⟨M', e.trans ?_, h⟩
  show L_X2_speakOneMinute_66 g (n' + 1) (nI v.flats) M' = _
  rw [L_X2_speakOneMinute_66.eq_2, h.1.fl, (hv_hear_k v.flats v).1, if_pos (nI_le (Nat.le_refl _) (by omega))]
theorem x2_talk (c : CRep (M g) v) (hp : v.ph = 2) (hw : v.who < 10) : ∃ M', F_X2_speakOneMinute g M = some ((), M') ∧ CS g M (hv_talk v) M' := by
  have hp0 : v.ph ≠ 0 := by rw [hp]; decide
  unfold F_X2_speakOneMinute
  rw [c.sp]
  have c1 := CS.spoken (x := v.spoken + 1) c
  rw [c1.1.le]
  have c2 := CS.left (x := v.left - 1) c1.1
  rw [show (v.s_spoken (v.spoken + 1)).left = v.left from rfl, c2.1.ac 3 (by decide) (by decide)]
  have c3 := CS.acc (i := 3) (x := v.acc 3 + 1) c2.1
  rw [show ((v.s_spoken (v.spoken + 1)).s_left (v.left - 1)).acc 3 = v.acc 3 from rfl]
  have e0 : hp_p (hp_p (hp_p M g 5 2 (v.spoken + 1)) g 5 3 (v.left - 1)) g 2 3 (v.acc 3 + 1) g 5 1 = nI v.who := by rw [c3.1.wh]; exact if_neg hp0
  rw [e0, x2_get (a1 := 7) (k := 7) c3.1 rfl rfl hw (by decide) (by decide) (by decide), hp_b_some, x2_put (a1 := 7) (k := 7) rfl rfl hw (by decide), hp_b_some]
  have c4 := CS.num (f := v.who) (k := 7) (x := v.num v.who 7 + 1) c3.1 hw (by decide)
  obtain ⟨M', e, c5⟩ := x2_hears c4.1 hp0 hw
  exact ⟨M', e, (((c1.tr c2).tr c3).tr c4).tr c5⟩
theorem hv_leave_no {f : Nat} (h : f ∉ v.queue) : hv_leave v f = v := by
  have e : v.queue.filter (fun x => decide (x ≠ f)) = v.queue := List.filter_eq_self.mpr (fun x hx => by simp; intro e; exact h (e ▸ hx))
  unfold hv_leave
  rw [e]
theorem ok_q10 (h : hv_ok v) : ∀ x ∈ v.queue, x < 10 := fun x hx => Nat.lt_of_lt_of_le (ok_qin h x hx).1 (ok_fl h)
theorem ok_s10 (h : hv_ok v) : ∀ x ∈ v.slate, x.1 < 10 := fun x hx => Nat.lt_of_lt_of_le (ok_sl h x hx) (ok_fl h)
theorem ok_w10 (h : hv_ok v) (hp : v.ph ≠ 0) : v.who < 10 := Nat.lt_of_lt_of_le (ok_wh h hp) (ok_fl h)
theorem ok_w10' (h : hv_ok v) : v.who < 10 := by
  by_cases hp : v.ph = 0
  · rw [(ok_p0 h hp).1]; decide
  · exact ok_w10 h hp
/-- who is no QUEUED flat finds room in the queue -/
theorem ok_room (h : hv_ok v) {f : Nat} (hf : f < v.flats) (hn : f ∉ v.queue) : v.queue.length < 10 := by
  have h1 := hv_len (n := v.flats) (l := f :: v.queue) (List.nodup_cons.mpr ⟨hn, ok_qnd h⟩) (fun x hx => by
    rcases List.mem_cons.mp hx with e | e
    · rw [e]; exact hf
    · exact (ok_qin h x e).1)
  have h2 := ok_fl h
  simp only [List.length_cons] at h1
  omega
theorem CS.wipe (c : CRep (M g) v) (hs : ∀ x ∈ v.slate, x.1 < 10) {f : Nat} {a0 : Int32} (e0 : a0 = nI f) (hf : f < 10) : ∃ M', F_X6_wipeFor g a0 M = some (nI v.slate.length - nI (hv_rest v.slate f).length, M') ∧ (M' g 2 7 = v.acc 7) ∧ CS g M (hv_wipe v f) (hp_p M' g 2 7 (v.acc 7 + (nI v.slate.length - nI (hv_rest v.slate f).length))) := by
  obtain ⟨M', e, c1⟩ := x6_wipe c hs e0 hf
  exact ⟨M', e, c1.1.ac 7 (by decide) (by decide), c1.tr (CS.acc (i := 7) c1.1)⟩
theorem x2_down (c : CRep (M g) v) (h : hv_ok v) {f : Nat} {a0 : Int32} (e0 : a0 = nI f) (hf : f < v.flats) : ∃ M', F_X2_comeDown g a0 M = some ((), M') ∧ CS g M (hv_down v f) M' := by
  have h10 : f < 10 := Nat.lt_of_lt_of_le hf (ok_fl h)
  unfold F_X2_comeDown hv_down
  rw [x2_g2 c e0 h10, hp_b_some]
  by_cases h1 : v.num f 2 = 1
  · rw [if_pos h1, if_pos h1, x2_g3 c e0 h10, hp_b_some, x2_p3 e0 h10, hp_b_some]
    have c1 := CS.num (f := f) (k := 3) (x := v.num f 3 - 1) c h10 (by decide)
    by_cases h2 : v.num f 3 - 1 ≤ 0
    · rw [if_pos h2, if_pos h2]
      have hac : (hp_p M g 3 (11 * f + 3) (v.num f 3 - 1)) g 2 7 = v.acc 7 := c1.1.ac 7 (by decide) (by decide)
      obtain ⟨M4, e4, e7, c4⟩ := CS.wipe c1.1 (show ∀ x ∈ v.slate, x.1 < 10 from ok_s10 h) e0 h10
      have hnq : f ∉ v.queue := fun q => by have := (ok_qin h f q).2; rw [h1] at this; exact absurd this (by decide)
      rw [e4, hp_b_some, hac]
      rw [x2_called c4.1 e0 h10 (show v.who < 10 from ok_w10' h), hp_b_some]
      show ∃ M', _ ∧ CS g M (hv_arrive (hv_wipe (hv_put v f 3 (v.num f 3 - 1)) f) f) M'
      have c5 := c1.tr c4
      generalize hp_p M4 g 2 7 _ = M5 at c4 c5 ⊢
      generalize hw : hv_wipe (hv_put v f 3 (v.num f 3 - 1)) f = w at c4 c5 ⊢
      have wq : w.queue = v.queue := by rw [← hw]; rfl
      have wp : w.ph = v.ph := by rw [← hw]; rfl
      have ww : w.who = v.who := by rw [← hw]; rfl
      have wc : CRep (M5 g) w := by rw [← hw]; exact c4.1
      have e1 : (hv_wipe (v.s_num (up2 v.num f 3 (v.num f 3 - 1))) f).ph = w.ph := by rw [← hw]; rfl
      have e2 : (hv_wipe (v.s_num (up2 v.num f 3 (v.num f 3 - 1))) f).who = w.who := by rw [← hw]; rfl
      have c6 : CS g M w M5 := by rw [← hw]; exact c5
      rw [e1, e2]
      unfold hv_arrive
      by_cases hc : w.ph = 1 ∧ w.who = f
      · rw [if_pos hc, if_pos hc, if_neg (by decide), wc.le]
        obtain ⟨M8, e8, c8⟩ := x2_conn (m := w.left) wc (by rw [wq]; exact ok_q10 h) e0 h10 (Or.inr rfl)
        rw [e8, hp_b_some]
        rw [hv_leave_no (by rw [wq]; exact hnq)] at c8
        exact ⟨M8, rfl, c6.tr c8⟩
      · rw [if_neg hc, if_neg hc, if_pos rfl, x2_p2 e0 h10, hp_b_some]
        have c7 := CS.num (f := f) (k := 2) (x := 2) wc h10 (by decide)
        obtain ⟨M8, e8, c8⟩ := x4_join c7.1 e0 (by rw [show (w.s_num (up2 w.num f 2 2)).queue = w.queue from rfl, wq]; exact ok_room h hf hnq)
        rw [e8, hp_b_some]
        exact ⟨M8, rfl, (c6.tr c7).tr c8⟩
    · rw [if_neg h2, if_neg h2]
      exact ⟨_, rfl, c1⟩
  · rw [if_neg h1, if_neg h1]
    exact ⟨M, rfl, CS.rf c⟩
end CLS5
