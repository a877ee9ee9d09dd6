/-! ===== the class's loops over the flats ===== -/
theorem hp_runs {ρ : Type} {T : Nat → Nat → hp_M → Option (ρ × hp_M)} {I : Nat → hp_M → Prop} {N : Nat} (hstep : ∀ (n i : Nat) (M1 : hp_M), i < N → I i M1 → ∃ M2, T (n + 1) i M1 = T n (i + 1) M2 ∧ I (i + 1) M2) : ∀ (n : Nat) (M0 : hp_M), N < n → I 0 M0 → ∃ n' M', T n 0 M0 = T (n' + 1) N M' ∧ I N M' := by
  have key : ∀ (d i n : Nat) (M0 : hp_M), i + d = N → d < n → I i M0 → ∃ n' M', T n i M0 = T (n' + 1) N M' ∧ I N M' := by
    intro d
    induction d with
    | zero =>
      intro i n M0 h1 h2 h3
      obtain ⟨m, rfl⟩ : ∃ m, n = m + 1 := ⟨n - 1, by omega⟩
      obtain rfl : i = N := by omega
      exact ⟨m, M0, rfl, h3⟩
    | succ d ih =>
      intro i n M0 h1 h2 h3
      obtain ⟨m, rfl⟩ : ∃ m, n = m + 1 := ⟨n - 1, by omega⟩
      obtain ⟨M2, e, h4⟩ := hstep m i M0 (by omega) h3
      obtain ⟨n', M', e2, h5⟩ := ih (i + 1) m M2 (by omega) (by omega) h4
      exact ⟨n', M', e.trans e2, h5⟩
  exact fun n M0 h1 h2 => key N 0 n M0 (by omega) h1 h2
/-- a set of flats as a number -/
def hv_bits (p : Nat → Bool) : Nat → Int32
  | 0 => 0
  | n + 1 => if p n then hv_bits p n ||| ((1 : Int32) <<< (nI n &&& 31)) else hv_bits p n
def hv_sum (p : Nat → Int32) : Nat → Int32
  | 0 => 0
  | n + 1 => hv_sum p n + p n
section CLS4
variable {g : Nat} {M : hp_M} {v : HV}
theorem CS.ended (c : CRep (M g) v) {d : Int32} : CS g M (v.s_ended d) (hp_p M g 0 2 d) := ⟨c.phouse (t := v.time) (fun j i h => hp_p_o _ _ _ _ _ (by omega)) ((hp_p_o _ _ _ _ _ (by omega)).trans c.ti) (hp_p_s _ _ _ _ _), fun g' hg => hp_p_ne M _ _ _ hg⟩
theorem CS.time (c : CRep (M g) v) {d : Int32} : CS g M (v.s_time d) (hp_p M g 0 1 d) := ⟨c.phouse (d := v.ended) (fun j i h => hp_p_o _ _ _ _ _ (by omega)) (hp_p_s _ _ _ _ _) ((hp_p_o _ _ _ _ _ (by omega)).trans c.en), fun g' hg => hp_p_ne M _ _ _ hg⟩
theorem x2_end0 (c : CRep (M g) v) {a0 cost : Int32} (e0 : a0 = nI v.who) (hf : v.who < 10) (hc : cost = hv_due v) : ∃ M', A_X2_endCall_35 g a0 v.spoken cost M = some (v.spoken, M') ∧ CS g M (hv_end v) M' := by
  unfold A_X2_endCall_35
  rw [x2_p2 e0 hf, hp_b_some]
  have c1 := CS.num (f := v.who) (k := 2) (x := 0) c hf (by decide)
  have g6 : (v.s_num (up2 v.num v.who 2 0)).num v.who 6 = v.num v.who 6 := by
    show up2 v.num v.who 2 0 v.who 6 = _
    simp [up2]
  rw [x2_g6 c1.1 e0 hf, hp_b_some, g6, x2_p6 e0 hf, hp_b_some]
  have c2 := CS.num (f := v.who) (k := 6) (x := v.num v.who 6 + cost) c1.1 hf (by decide)
  have g8 : ((v.s_num (up2 v.num v.who 2 0)).s_num (up2 (v.s_num (up2 v.num v.who 2 0)).num v.who 6 (v.num v.who 6 + cost))).num v.who 8 = v.num v.who 8 := by
    show up2 (up2 v.num v.who 2 0) v.who 6 (v.num v.who 6 + cost) v.who 8 = _
    simp [up2]
  rw [x2_g8 c2.1 e0 hf, hp_b_some, g8, x2_p8 e0 hf, hp_b_some]
  have c3 := CS.num (f := v.who) (k := 8) (x := v.num v.who 8 + 1) c2.1 hf (by decide)
  rw [c3.1.ac 1 (by decide) (by decide)]
  have c4 := CS.acc (i := 1) (x := v.acc 1 + 1) c3.1
  rw [c4.1.ac 4 (by decide) (by decide)]
  have a4 : (HV.s_acc (HV.s_num (HV.s_num (v.s_num (up2 v.num v.who 2 0)) (up2 (v.s_num (up2 v.num v.who 2 0)).num v.who 6 (v.num v.who 6 + cost))) (up2 ((v.s_num (up2 v.num v.who 2 0)).s_num (up2 (v.s_num (up2 v.num v.who 2 0)).num v.who 6 (v.num v.who 6 + cost))).num v.who 8 (v.num v.who 8 + 1))) (up1 v.acc 1 (v.acc 1 + 1))).acc 4 = v.acc 4 := by
    show up1 v.acc 1 (v.acc 1 + 1) 4 = _
    simp [up1]
  rw [a4]
  have c5 := CS.acc (i := 4) (x := v.acc 4 + cost) c4.1
  rw [c5.1.en]
  have c6 := CS.ended (d := v.ended + v.spoken) c5.1
  obtain ⟨M7, e7, c7⟩ := x3_free c6.1
  refine ⟨M7, ?_, ?_⟩
  · rw [e7, hp_b_some]
  · have e : hv_end v = hv_free ((HV.s_ended (HV.s_acc (HV.s_acc (HV.s_num (HV.s_num (v.s_num (up2 v.num v.who 2 0)) (up2 (v.s_num (up2 v.num v.who 2 0)).num v.who 6 (v.num v.who 6 + cost))) (up2 ((v.s_num (up2 v.num v.who 2 0)).s_num (up2 (v.s_num (up2 v.num v.who 2 0)).num v.who 6 (v.num v.who 6 + cost))).num v.who 8 (v.num v.who 8 + 1))) (up1 v.acc 1 (v.acc 1 + 1))) (up1 (up1 v.acc 1 (v.acc 1 + 1)) 4 (v.acc 4 + cost))) (v.ended + v.spoken))) := by
      subst hc
      rfl
    rw [e]
    exact ((((((c1.tr c2).tr c3).tr c4).tr c5).tr c6).tr c7)
theorem x2_end (c : CRep (M g) v) (hp : v.ph ≠ 0) (hf : v.who < 10) (hu : 0 < v.set 1) : ∃ M', F_X2_endCall g M = some (v.spoken, M') ∧ CS g M (hv_end v) M' := by
  have e0 : M g 5 1 = nI v.who := by rw [c.wh, if_neg hp]
  unfold F_X2_endCall
  rw [c.ou, c.sp]
  by_cases h : v.out = 0
  · rw [if_pos h, x2_cost c hu, hp_b_some]
    exact x2_end0 c e0 hf (by unfold hv_due; rw [if_pos h])
  · rw [if_neg h]
    exact x2_end0 c e0 hf (by unfold hv_due; rw [if_neg h])
theorem x2_are (c : CRep (M g) v) (a0 : Int32) : F_X2_flatsThatAre g a0 M = some (hv_bits (fun f => decide (v.num f 2 = a0)) v.flats, M) := by
  have h10 := c.fl10
  unfold F_X2_flatsThatAre
  obtain ⟨n', M', e, h⟩ := hp_runs (T := fun n i M1 => L_X2_flatsThatAre_4 g a0 n (hv_bits (fun f => decide (v.num f 2 = a0)) i) (nI i) M1) (I := fun _ M1 => M1 = M) (N := v.flats) (fun n i M1 hi hM => by
    subst hM
    refine ⟨M1, ?_, rfl⟩
    show L_X2_flatsThatAre_4 g a0 (n + 1) _ (nI i) M1 = L_X2_flatsThatAre_4 g a0 n _ (nI (i + 1)) M1
    rw [L_X2_flatsThatAre_4.eq_2, c.fl, if_neg (nI_ge hi (by omega)), x2_g2 c rfl (by omega), hp_b_some, nI_1]
    by_cases h : v.num i 2 = a0
    · rw [if_pos h]; simp [hv_bits, h]
    · rw [if_neg h]; simp [hv_bits, h]) hp_fu M (by unfold hp_fu; omega) rfl
  subst h
  refine e.trans ?_
  show L_X2_flatsThatAre_4 g a0 (n' + 1) _ (nI v.flats) M' = _
  rw [L_X2_flatsThatAre_4.eq_2, c.fl, if_pos (nI_le (Nat.le_refl _) (by omega))]
theorem x2_debts (c : CRep (M g) v) : F_X2_debtOfAll g M = some (hv_sum (fun f => v.num f 6) v.flats, M) := by
  have h10 := c.fl10
  unfold F_X2_debtOfAll
  obtain ⟨n', M', e, h⟩ := hp_runs (T := fun n i M1 => L_X2_debtOfAll_4 g n (hv_sum (fun f => v.num f 6) i) (nI i) M1) (I := fun _ M1 => M1 = M) (N := v.flats) (fun n i M1 hi hM => by
    subst hM
    refine ⟨M1, ?_, rfl⟩
    show L_X2_debtOfAll_4 g (n + 1) _ (nI i) M1 = L_X2_debtOfAll_4 g n _ (nI (i + 1)) M1
    rw [L_X2_debtOfAll_4.eq_2, c.fl, if_neg (nI_ge hi (by omega)), x2_g6 c rfl (by omega), hp_b_some, nI_1]
    rfl) hp_fu M (by unfold hp_fu; omega) rfl
  subst h
  refine e.trans ?_
  show L_X2_debtOfAll_4 g (n' + 1) _ (nI v.flats) M' = _
  rw [L_X2_debtOfAll_4.eq_2, c.fl, if_pos (nI_le (Nat.le_refl _) (by omega))]
end CLS4
