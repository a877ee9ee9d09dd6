/-! ===== the reference reads and does a statement ===== -/
/-- what a deed that is not refused returns -/
def hv_res (d : HV) (j f : Nat) (x : Int32) : Int32 :=
  if j < 6 then d.set j else if j = 6 then 1 + d.num f 0 else if j = 7 then d.num f 4 else if j = 8 then d.spoken else if j = 9 then hv_outc d f else if j = 10 then d.num f 6 - x else hv_runE x.toNatClampNeg d 0
section RES
variable {g : Nat} {M : hp_M} {d : HV} {B j f : Nat} {a1 x : Int32}
theorem hv_res_S (h : j < 6) : hv_res d j f x = d.set j := if_pos h
theorem hv_res_11 {y : Nat} (hy : y < 2 ^ 31) : hv_res d 11 f (nI y) = hv_runE y d 0 := by
  unfold hv_res
  iterate 6 rw [if_neg (by decide)]
  rw [nI_clamp hy]
theorem x2_do2 (c : CRep (M g) d) (hg : hv_g B d) (h : tk_ok d.flats j f x) (h0 : hv_ref d j f x = 0) (hA : (hp_vnam.getD j 0 = 0 ∧ a1 = -1) ∨ (hp_vnam.getD j 0 ≠ 0 ∧ a1 = nI f ∧ f < 10)) : ∃ M', F_X2_perform g j a1 x M = some (hv_res d j f x, M') ∧ CS g M (hv_do d j f x) M' := by
  have hf : hp_vnam.getD j 0 ≠ 0 → a1 = nI f ∧ f < 10 := fun q => by
    rcases hA with z | z
    · exact absurd z.1 q
    · exact z.2
  rcases tk_ok_j h with ⟨rfl, q⟩ | ⟨rfl, q1, q2⟩ | ⟨⟨q1, q2⟩, q3⟩ | ⟨rfl, q1, q2, q3⟩ | ⟨rfl, q1⟩ | ⟨rfl, q1⟩ | ⟨rfl, q1, q2, q3⟩ | ⟨rfl, q1, q2⟩ | ⟨rfl, y, q1, q2⟩
  · rw [hv_do_S (by decide)]; exact x2_perfS c (by decide)
  · rw [hv_do_S (by decide)]; exact x2_perfS c (by decide)
  · rw [hv_do_S q2, hv_res_S q2]; exact x2_perfS c q2
  · rw [hv_do_6]; exact x2_perf6 c (hf (by decide)).1 (hf (by decide)).2
  · rw [hv_do_7]; exact x2_perf7 c hg.1.1 (hf (by decide)).1 (hf (by decide)).2
  · rw [hv_ref8] at h0
    by_cases z : d.num f 2 = 3
    · rw [hv_do_8]; exact x2_perf8 c hg.1.1 (ok_sp2 hg.1.1 f q1 z).1
    · rw [if_neg z] at h0; exact absurd h0 (by decide)
  · rw [hv_do_9]; exact x2_perf9 c hg.1.1 (hf (by decide)).1 (hf (by decide)).2
  · rw [hv_do_10]; exact x2_perf10 c (hf (by decide)).1 (hf (by decide)).2
  · subst q1
    rw [hv_do_11 (by omega), hv_res_11 (by omega)]; exact x2_perf11 c hg.1 rfl q2
/-- the reference's deed: done, or refused -/
def RD (M : hp_M) (d : HV) (j f : Nat) (x : Int32) (o : Option (Int32 × hp_M)) : Prop := ∃ r M', o = some (r, M') ∧ ((hv_ref d j f x = 0 ∧ 0 ≤ r ∧ r = hv_res d j f x ∧ RS M (hv_do d j f x) M') ∨ (hv_ref d j f x ≠ 0 ∧ r < 0 ∧ r = -hv_ref d j f x ∧ RS M d M'))
theorem rd_6 (c : RRep (M 13 1) d) (hg : hv_g B d) (hf : f < d.flats) (e1 : a1 = nI f) : RD M d 6 f x (F_X9_wants a1 x M) := by
  have h10 := Nat.lt_of_lt_of_le hf (ok_fl hg.1.1)
  obtain ⟨M', h1, h2⟩ := r_wants (w := x) c e1 h10
  refine ⟨_, M', h1, ?_⟩
  rw [hv_ref6, hv_do_6]
  by_cases z : d.num f 2 = 0
  · rw [if_pos z] at h2 ⊢
    rw [if_pos z]
    have := ok_flr hg.1.1 f hf
    exact Or.inl ⟨rfl, by grind, rfl, h2⟩
  · rw [if_neg z] at h2 ⊢
    rw [if_neg z]
    exact Or.inr ⟨by decide, by decide, rfl, h2⟩
theorem rd_7 (c : RRep (M 13 1) d) (hg : hv_g B d) (hf : f < d.flats) (e1 : a1 = nI f) : RD M d 7 f x (F_X9_gives a1 M) := by
  obtain ⟨M', h1, h2⟩ := r_gives c hg.1.1 e1 hf
  refine ⟨_, M', h1, ?_⟩
  rw [hv_ref7, hv_do_7]
  by_cases z : d.num f 2 = 2 ∨ (d.num f 2 = 1 ∧ ¬ (d.ph = 1 ∧ d.who = f))
  · rw [if_pos z] at h2 ⊢
    rw [if_pos z]
    have := (ok_wi hg.1.1 f hf z).1
    exact Or.inl ⟨rfl, by grind, rfl, h2⟩
  · rw [if_neg z] at h2 ⊢
    rw [if_neg z]
    exact Or.inr ⟨by decide, by decide, rfl, h2⟩
theorem rd_8 (c : RRep (M 13 1) d) (hg : hv_g B d) (hf : f < d.flats) (e1 : a1 = nI f) : RD M d 8 f x (F_X9_hangs a1 M) := by
  have h10 := Nat.lt_of_lt_of_le hf (ok_fl hg.1.1)
  obtain ⟨M', h1, h2⟩ := r_hangs c hg.1.1 e1 h10 (fun q => (ok_sp2 hg.1.1 f hf q).2)
  refine ⟨_, M', h1, ?_⟩
  rw [hv_ref8, hv_do_8]
  by_cases z : d.num f 2 = 3
  · rw [if_pos z] at h2 ⊢
    rw [if_pos z]
    exact Or.inl ⟨rfl, hg.2.1.1.1, rfl, h2⟩
  · rw [if_neg z] at h2 ⊢
    rw [if_neg z]
    exact Or.inr ⟨by decide, by decide, rfl, h2⟩
theorem rd_9 (c : RRep (M 13 1) d) (hg : hv_g B d) (hf : f < d.flats) (e1 : a1 = nI f) : RD M d 9 f x (F_X9_rings a1 x M) := by
  obtain ⟨M', h1, h2⟩ := r_rings (m := x) c hg.1.1 e1 hf
  refine ⟨_, M', h1, ?_⟩
  rw [hv_ref9, hv_do_9]
  by_cases z : d.ph = 0
  · rw [if_pos z] at h2 ⊢
    rw [if_pos z]
    refine Or.inl ⟨rfl, ?_, rfl, h2⟩
    rcases hv_outc_4 d f with q | q | q | q <;> rw [q] <;> decide
  · rw [if_neg z] at h2 ⊢
    rw [if_neg z]
    exact Or.inr ⟨by decide, by decide, rfl, h2⟩
theorem rd_10 (c : RRep (M 13 1) d) (hg : hv_g B d) (hf : f < d.flats) (e1 : a1 = nI f) (hx : 1 ≤ x) : RD M d 10 f x (F_X9_pays a1 x M) := by
  have h10 := Nat.lt_of_lt_of_le hf (ok_fl hg.1.1)
  obtain ⟨M', h1, h2⟩ := r_pays (x := x) c e1 h10
  refine ⟨_, M', h1, ?_⟩
  rw [hv_ref10, hv_do_10]
  by_cases z : x ≤ d.num f 6
  · rw [if_pos z] at h2 ⊢
    rw [if_pos z]
    exact Or.inl ⟨rfl, by grind, rfl, h2⟩
  · rw [if_neg z] at h2 ⊢
    rw [if_neg z]
    exact Or.inr ⟨by decide, by decide, rfl, h2⟩
theorem rd_11 (c : RRep (M 13 1) d) (hg : hv_g B d) {y : Nat} (hy : y < 1000) (e1 : a1 = nI y) : ∃ M', F_X9_minutes a1 M = some (hv_res d 11 f (nI y), M') ∧ 0 ≤ hv_res d 11 f (nI y) ∧ RS M (hv_do d 11 f (nI y)) M' := by
  obtain ⟨e, z1, z2, z3⟩ := hv_runE_nat hg.1 hg.2.1 y
  obtain ⟨M', h1, h2⟩ := r_minutes y hy c hg.1 e1
  rw [hv_res_11 (by omega), hv_do_11 (by omega)]
  refine ⟨M', ?_, ?_, h2⟩
  · rw [h1, z3, z2]
  · rw [z2]; exact nI_pos' (by omega)
end RES
/-- what the reader of the reference changes -/
def RF (M M' : hp_M) : Prop := ∀ g j i : Nat, ¬ (g = 13 ∧ (j = 9 ∨ (j = 0 ∧ 14 ≤ i ∧ i ≤ 19))) → M' g j i = M g j i
def RG (M M' : hp_M) : Prop := ∀ g j i : Nat, ¬ (g = 13 ∧ (j = 1 ∨ j = 9 ∨ (j = 0 ∧ 14 ≤ i ∧ i ≤ 19))) → M' g j i = M g j i
theorem RF.rf (M : hp_M) : RF M M := fun _ _ _ _ => rfl
theorem RF.tr {M M1 M2 : hp_M} (h1 : RF M M1) (h2 : RF M1 M2) : RF M M2 := fun g j i h => (h2 g j i h).trans (h1 g j i h)
theorem RG.rf (M : hp_M) : RG M M := fun _ _ _ _ => rfl
theorem RG.tr {M M1 M2 : hp_M} (h1 : RG M M1) (h2 : RG M1 M2) : RG M M2 := fun g j i h => (h2 g j i h).trans (h1 g j i h)
theorem RG.f {M M' : hp_M} (h : RF M M') : RG M M' := fun g j i h' => h g j i (by omega)
theorem RG.s {M M' : hp_M} {v : HV} (h : RS M v M') : RG M M' := fun g j i h' => by rw [h.2 g j (by omega)]
theorem RF.r {M M' : hp_M} {v : HV} (h : RF M M') (c : RRep (M 13 1) v) : RRep (M' 13 1) v := c.row (fun i _ => h 13 1 i (by omega))
theorem RG.x {T : Nat → Int32} {L : Nat} {M M' : hp_M} (h : RG M M') (hX : RX T L M) : RX T L M' := ⟨(h _ _ _ (by omega)).trans hX.1, fun i hi => (h _ _ _ (by omega)).trans (hX.2 i hi)⟩
theorem RF.x {T : Nat → Int32} {L : Nat} {M M' : hp_M} (h : RF M M') (hX : RX T L M) : RX T L M' := (RG.f h).x hX
theorem RT.s {T : Nat → Int32} {L p : Nat} {M M' : hp_M} (h : RT T L p M) (e : ∀ i : Nat, M' 13 0 i = M 13 0 i) : RT T L p M' := ⟨(e _).trans h.1, (e _).trans h.2.1, (e _).trans h.2.2.1, fun q => (e _).trans (h.2.2.2 q)⟩
theorem RS.z {M M' : hp_M} {v : HV} (h : RS M v M') (j i : Nat) (hj : j ≠ 1) : M' 13 j i = M 13 j i := by rw [h.2 13 j (by omega)]
section RSTM
variable {T : Nat → Int32} {L : Nat} {M : hp_M} {d : HV} {B : Nat}
theorem r_fail {s : Nat} {a0 : Int32} (c : Nat) (e0 : a0 = nI c) (hs : M 13 0 15 = nI s) (h0 : M 13 0 18 = 0) : F_X9_fail a0 M = some (0, hp_p M 13 0 18 (nI (8 * s + c))) := by
  subst e0
  unfold F_X9_fail
  rw [h0, if_pos rfl, hs, show (8 : Int32) = nI 8 from rfl, nI_mul, nI_add]
theorem RF.p {i : Nat} {x : Int32} (h1 : 14 ≤ i) (h2 : i ≤ 19) : RF M (hp_p M 13 0 i x) := fun g j k h => hp_p_o _ _ _ _ _ (by omega)
theorem r_nx (hL : L ≤ 700) {p : Nat} (hp : p ≤ L) (hX : RX T L M) (ha : M 13 0 16 = nI p) : ∃ M', F_X9_next M = some ((), M') ∧ RT T L p M' ∧ RF M M' ∧ M' 13 0 18 = M 13 0 18 ∧ ∀ i : Nat, M' 13 9 i = M 13 9 i := by
  obtain ⟨M', a1, a2, a3⟩ := r_next hL hp hX ha
  exact ⟨M', a1, a2, fun g j i h => a3 g j i (by omega), a3 _ _ _ (by omega), fun i => a3 _ _ _ (by omega)⟩
theorem r_num (hL : L ≤ 700) {p k : Nat} {a0 : Int32} (e0 : a0 = nI k) (hk2 : k < 2) (hp : p ≤ L) (hX : RX T L M) (hT : RT T L p M) (h0 : M 13 0 18 = 0) (lo hi : Int32) : (∃ e M', tk_num T L p lo hi = .inl e ∧ F_X9_number a0 lo hi M = some (0, M') ∧ M' 13 0 18 = e ∧ RF M M') ∨ (∃ M', tk_num T L p lo hi = .inr (tk_n T L p, tk_e T L p) ∧ F_X9_number a0 lo hi M = some (1, M') ∧ RT T L (tk_e T L p) M' ∧ M' 13 9 k = tk_n T L p ∧ (∀ k' : Nat, k' ≠ k → M' 13 9 k' = M 13 9 k') ∧ M' 13 0 18 = 0 ∧ RF M M') := by
  subst e0
  have he := tk_e_le (T := T) hp
  unfold F_X9_number F_X9_isNumber F_X9_in tk_num
  rw [hT.2.1]
  by_cases hk : tk_k T L p = 3
  · rw [if_pos hk, if_pos hk, hT.2.2.2 hk]
    by_cases h1 : tk_n T L p < lo
    · rw [if_pos h1, hp_b_some, if_pos rfl, r_fail (a0 := 2) 2 rfl hT.2.2.1 h0, hp_b_some, if_pos (Or.inl rfl), hp_b_some, if_pos rfl, if_pos (Or.inl h1)]
      exact Or.inl ⟨_, _, rfl, rfl, hp_p_s _ _ _ _ _, RF.p (by omega) (by omega)⟩
    · rw [if_neg h1]
      by_cases h2 : hi < tk_n T L p
      · rw [if_pos h2, hp_b_some, if_pos rfl, r_fail (a0 := 2) 2 rfl hT.2.2.1 h0, hp_b_some, if_pos (Or.inl rfl), hp_b_some, if_pos rfl, if_pos (Or.inr h2)]
        exact Or.inl ⟨_, _, rfl, rfl, hp_p_s _ _ _ _ _, RF.p (by omega) (by omega)⟩
      · have e19 : hp_p M 13 0 19 (tk_n T L p) 13 0 19 = tk_n T L p := hp_p_s _ _ _ _ _
        rw [if_neg h2, if_neg (show ¬ (tk_n T L p < lo ∨ hi < tk_n T L p) from fun q => q.elim h1 h2), hp_b_some, if_neg (by decide), hp_b_some, if_neg (by decide), if_neg (nI_in hk2 (by decide)), nI_clamp (by omega), hT.2.2.2 hk, e19]
        generalize hM1 : hp_p (hp_p M 13 0 19 (tk_n T L p)) 13 9 k (tk_n T L p) = M1
        have f1 : RF M M1 := fun g j i h => by rw [← hM1, hp_p_o (h := by omega), hp_p_o (h := by omega)]
        have g16 : M1 13 0 16 = nI (tk_e T L p) := by rw [← hM1, hp_p_o (h := by omega), hp_p_o (h := by omega)]; exact hT.1
        have g18 : M1 13 0 18 = 0 := by rw [← hM1, hp_p_o (h := by omega), hp_p_o (h := by omega)]; exact h0
        obtain ⟨M2, b1, b2, b3, b4, b5⟩ := r_nx hL he.2 (f1.x hX) g16
        rw [b1, hp_b_some]
        refine Or.inr ⟨M2, rfl, rfl, b2, ?_, fun k' hk' => ?_, b4.trans g18, f1.tr b3⟩
        · rw [b5, ← hM1, hp_p_s]
        · rw [b5, ← hM1, hp_p_o (h := by omega), hp_p_o (h := by omega)]
  · rw [if_neg hk, if_neg hk, r_fail (a0 := 1) 1 rfl hT.2.2.1 h0, hp_b_some, if_pos (Or.inl rfl), hp_b_some, if_pos rfl]
    exact Or.inl ⟨_, _, rfl, rfl, hp_p_s _ _ _ _ _, RF.p (by omega) (by omega)⟩
/-- the semicolon, the deed, and whether it was done -/
theorem r_tail (hL : L ≤ 700) {p j f : Nat} {x : Int32} (hp : p ≤ L) (hT : RT T L p M) (h0 : M 13 0 18 = 0) (c : RRep (M 13 1) d) (D : hp_M → Option (Int32 × hp_M)) (hD : RD M d j f x (D M)) : ∃ (r : Int32) (M' : hp_M), hp_b (F_X9_isSemicolon M) (fun r38 M38 => (if r38 = 0 then (some ((0 : Int32), M38)) else (hp_b (D M38) (fun r39 M39 => (hp_b (F_X9_isDone r39 M39) (fun r40 M40 => (if r40 = 0 then (some ((0 : Int32), M40)) else (some ((1 : Int32), M40)))))))) ) = some (r, M') ∧ RG M M' ∧ ((∃ e, tk_semi T L p = .inl e ∧ r = 0 ∧ M' 13 0 18 = e) ∨ (tk_semi T L p = .inr (tk_e T L p) ∧ tk_k T L p = 1 ∧ ((hv_ref d j f x = 0 ∧ r = 1 ∧ RRep (M' 13 1) (hv_do d j f x) ∧ RT T L p M' ∧ M' 13 0 18 = 0) ∨ (hv_ref d j f x ≠ 0 ∧ r = 0 ∧ M' 13 0 18 = tk_er T L p 4)))) := by
  unfold F_X9_isSemicolon tk_semi
  rw [hT.2.1]
  by_cases hk : tk_k T L p = 1
  · rw [if_pos hk, if_pos hk, hp_b_some, if_neg (by decide)]
    obtain ⟨r, M1, a1, ⟨a2, a3, a4, a5⟩ | ⟨a2, a3, a4, a5⟩⟩ := hD
    · unfold F_X9_isDone
      rw [a1, hp_b_some, if_pos a3, hp_b_some, if_neg (by decide)]
      exact ⟨1, M1, rfl, RG.s a5, Or.inr ⟨rfl, hk, Or.inl ⟨a2, rfl, a5.1, hT.s (fun i => a5.z 0 i (by decide)), (a5.z 0 18 (by decide)).trans h0⟩⟩⟩
    · unfold F_X9_isDone
      rw [a1, hp_b_some, if_neg (by grind), r_fail (a0 := 4) 4 rfl ((a5.z 0 15 (by decide)).trans hT.2.2.1) ((a5.z 0 18 (by decide)).trans h0), hp_b_some, if_pos rfl, hp_b_some, if_pos rfl]
      exact ⟨0, _, rfl, (RG.s a5).tr (RG.f (RF.p (by omega) (by omega))), Or.inr ⟨rfl, hk, Or.inr ⟨a2, rfl, hp_p_s _ _ _ _ _⟩⟩⟩
  · rw [if_neg hk, if_neg hk, r_fail (a0 := 1) 1 rfl hT.2.2.1 h0, hp_b_some, if_pos rfl, hp_b_some, if_pos rfl]
    exact ⟨0, _, rfl, RG.f (RF.p (by omega) (by omega)), Or.inl ⟨_, rfl, rfl, hp_p_s _ _ _ _ _⟩⟩
end RSTM
