/-! ===== the class reads a statement ===== -/
def CF (M M' : hp_M) : Prop := ∀ g j i : Nat, ¬ (g = 12 ∧ j = 1 ∧ 2 ≤ i) → M' g j i = M g j i
theorem CF.rf (M : hp_M) : CF M M := fun _ _ _ _ => rfl
theorem CF.tr {M M1 M2 : hp_M} (h1 : CF M M1) (h2 : CF M1 M2) : CF M M2 := fun g j i h => (h2 g j i h).trans (h1 g j i h)
theorem CF.p {M : hp_M} {i : Nat} {x : Int32} (hi : 2 ≤ i) : CF M (hp_p M 12 1 i x) := fun g j k h => hp_p_o _ _ _ _ _ (by omega)
theorem CF.x {T : Nat → Int32} {L : Nat} {M M' : hp_M} (h : CF M M') (hX : CX T L M) : CX T L M' := ⟨(h _ _ _ (by omega)).trans hX.1, fun i hi => (h _ _ _ (by omega)).trans (hX.2 i hi)⟩
section CSTM
variable {T : Nat → Int32} {L : Nat} {M : hp_M}
theorem x5_fail {s : Nat} {a0 : Int32} (c : Nat) (e0 : a0 = nI c) (hs : M 12 1 4 = nI s) : F_X5_fail a0 M = some (0, hp_p M 12 1 9 (nI (8 * s + c))) := by
  subst e0
  unfold F_X5_fail
  rw [hs, show (8 : Int32) = nI 8 from rfl, nI_mul, nI_add]
theorem x5_nx (hL : L ≤ 700) {p : Nat} (hp : p ≤ L) (hX : CX T L M) (ha : M 12 1 2 = nI p) : ∃ M', F_X5_next M = some ((), M') ∧ CT T L p M' ∧ CF M M' ∧ M' 12 1 6 = M 12 1 6 ∧ M' 12 1 7 = M 12 1 7 ∧ M' 12 1 8 = M 12 1 8 ∧ M' 12 1 9 = M 12 1 9 := by
  obtain ⟨M', a1, a2, a3⟩ := x5_next hL hp hX ha
  exact ⟨M', a1, a2, fun g j i h => a3 g j i (by omega), a3 _ _ _ (by omega), a3 _ _ _ (by omega), a3 _ _ _ (by omega), a3 _ _ _ (by omega)⟩
theorem x5_semi (hL : L ≤ 700) {p : Nat} (hp : p ≤ L) (hX : CX T L M) (ha : M 12 1 2 = nI p) : (∃ e M', tk_semi T L p = .inl e ∧ hp_b (F_X5_next M) (fun _ M6 => (if (M6 12 1 3) = (1 : Int32) then (some ((1 : Int32), M6)) else (hp_b (F_X5_fail (1 : Int32) M6) (fun r7 M7 => (if r7 = 0 then (some ((0 : Int32), M7)) else (some ((1 : Int32), M7))))))) = some (0, M') ∧ M' 12 1 9 = e ∧ CF M M') ∨ (∃ M', tk_semi T L p = .inr (tk_e T L p) ∧ hp_b (F_X5_next M) (fun _ M6 => (if (M6 12 1 3) = (1 : Int32) then (some ((1 : Int32), M6)) else (hp_b (F_X5_fail (1 : Int32) M6) (fun r7 M7 => (if r7 = 0 then (some ((0 : Int32), M7)) else (some ((1 : Int32), M7))))))) = some (1, M') ∧ M' 12 1 2 = nI (tk_e T L p) ∧ M' 12 1 4 = nI (tk_s T L p) ∧ CF M M' ∧ M' 12 1 6 = M 12 1 6 ∧ M' 12 1 7 = M 12 1 7 ∧ M' 12 1 8 = M 12 1 8 ∧ M' 12 1 9 = M 12 1 9) := by
  obtain ⟨M1, a1, a2, a3, a6, a7, a8, a9⟩ := x5_nx hL hp hX ha
  rw [a1, hp_b_some, a2.2.1]
  unfold tk_semi
  by_cases hk : tk_k T L p = 1
  · rw [if_pos hk, if_pos hk]
    exact Or.inr ⟨M1, rfl, rfl, a2.1, a2.2.2.1, a3, a6, a7, a8, a9⟩
  · rw [if_neg hk, if_neg hk, x5_fail (a0 := 1) 1 rfl a2.2.2.1, hp_b_some, if_pos rfl]
    exact Or.inl ⟨_, _, rfl, rfl, hp_p_s _ _ _ _ _, a3.tr (CF.p (by omega))⟩
theorem x5_num1 (hL : L ≤ 700) {p : Nat} (hp : p ≤ L) (hX : CX T L M) (ha : M 12 1 2 = nI p) (lo hi : Int32) : (∃ e M', tk_num T L p lo hi = .inl e ∧ F_X5_readNumber lo hi M = some (0, M') ∧ M' 12 1 9 = e ∧ CF M M') ∨ (∃ M', tk_num T L p lo hi = .inr (tk_n T L p, tk_e T L p) ∧ F_X5_readNumber lo hi M = some (1, M') ∧ M' 12 1 2 = nI (tk_e T L p) ∧ M' 12 1 5 = tk_n T L p ∧ CF M M' ∧ M' 12 1 6 = M 12 1 6 ∧ M' 12 1 7 = M 12 1 7 ∧ M' 12 1 8 = M 12 1 8 ∧ M' 12 1 9 = M 12 1 9) := by
  obtain ⟨M1, a1, a2, a3, a6, a7, a8, a9⟩ := x5_nx hL hp hX ha
  unfold F_X5_readNumber tk_num
  rw [a1, hp_b_some, a2.2.1]
  by_cases hk : tk_k T L p = 3
  · rw [if_pos hk, if_pos hk, a2.2.2.2 hk]
    by_cases h1 : tk_n T L p < lo
    · rw [if_pos h1, if_pos (Or.inl h1), x5_fail (a0 := 2) 2 rfl a2.2.2.1, hp_b_some, if_pos rfl]
      exact Or.inl ⟨_, _, rfl, rfl, hp_p_s _ _ _ _ _, a3.tr (CF.p (by omega))⟩
    · rw [if_neg h1]
      by_cases h2 : tk_n T L p ≤ hi
      · rw [if_pos h2, if_neg (fun q => q.elim h1 (fun z => by grind))]
        exact Or.inr ⟨M1, rfl, rfl, a2.1, a2.2.2.2 hk, a3, a6, a7, a8, a9⟩
      · rw [if_neg h2, if_pos (Or.inr (by grind)), x5_fail (a0 := 2) 2 rfl a2.2.2.1, hp_b_some, if_pos rfl]
        exact Or.inl ⟨_, _, rfl, rfl, hp_p_s _ _ _ _ _, a3.tr (CF.p (by omega))⟩
  · rw [if_neg hk, if_neg hk, x5_fail (a0 := 1) 1 rfl a2.2.2.1, hp_b_some, if_pos (Or.inl rfl)]
    exact Or.inl ⟨_, _, rfl, rfl, hp_p_s _ _ _ _ _, a3.tr (CF.p (by omega))⟩
theorem hp_vwor_j : ∀ j : Nat, j < 12 → hp_vwor.getD j 0 = 29 + j := by decide
theorem x5_verb (hL : L ≤ 700) {p : Nat} (hp : p ≤ L) (hX : CX T L M) (hT : CT T L p M) : ∃ r : Int32, F_X5_verbRead M = some (r, M) ∧ ((tk_vb T L p 12 0 = 12 ∧ r = -1) ∨ (tk_vb T L p 12 0 < 12 ∧ r = nI (tk_vb T L p 12 0))) := by
  have key : ∀ (n j fuel : Nat), j + n = 12 → n < fuel → ∃ r : Int32, L_X5_verbRead_9 (nI 12) fuel (nI j) M = some (r, M) ∧ ((tk_vb T L p n j = 12 ∧ r = -1) ∨ (tk_vb T L p n j < 12 ∧ r = nI (tk_vb T L p n j))) := by
    intro n
    induction n with
    | zero =>
      intro j fuel h1 h2
      obtain ⟨m, rfl⟩ : ∃ m, fuel = m + 1 := ⟨fuel - 1, by omega⟩
      rw [L_X5_verbRead_9.eq_2, if_pos (nI_le (by omega) (by omega))]
      exact ⟨-1, rfl, Or.inl ⟨rfl, rfl⟩⟩
    | succ n ih =>
      intro j fuel h1 h2
      obtain ⟨m, rfl⟩ : ∃ m, fuel = m + 1 := ⟨fuel - 1, by omega⟩
      have ev : tk_vb T L p (n + 1) j = if tk_is T L p (29 + j) then j else tk_vb T L p n (j + 1) := rfl
      rw [L_X5_verbRead_9.eq_2, if_neg (nI_ge (by omega) (by omega)), if_neg (nI_in (by omega) (by decide)), nI_clamp (by omega), hp_vwor_j j (by omega)]
      obtain ⟨r, e1, e2⟩ := x5_is hL hp (t := 29 + j) (by omega) (by omega) hX hT
      rw [e1, hp_b_some, nI_1]
      rcases e2 with ⟨z1, z2⟩ | ⟨z1, z2⟩
      · rw [if_pos z1, ev, if_neg z2]
        exact ih (j + 1) m (by omega) (by omega)
      · rw [if_neg (by rw [z1]; decide), ev, if_pos z2]
        exact ⟨nI j, rfl, Or.inr ⟨by omega, rfl⟩⟩
  unfold F_X5_verbRead
  exact key 12 0 hp_fu (by omega) (by unfold hp_fu; omega)
/-- number and semicolon of a statement -/
theorem x5_tail (hL : L ≤ 700) {p j : Nat} (hp : p ≤ L) (hX : CX T L M) (ha : M 12 1 2 = nI p) (h8 : M 12 1 8 = 0) (h9 : M 12 1 9 = 0) : ∃ (r : Int32) (M' : hp_M), hp_b (F_X7_takesNumber j M) (fun r12 M12 => (if r12 = 0 then (hp_b (F_X5_next M12) (fun _ M13 => (if (M13 12 1 3) = (1 : Int32) then (some ((1 : Int32), M13)) else (hp_b (F_X5_fail (1 : Int32) M13) (fun r14 M14 => (if r14 = 0 then (some ((0 : Int32), M14)) else (some ((1 : Int32), M14)))))))) else (hp_b (F_X5_readNumber (hp_vlea.getD j 0) (hp_vgre.getD j 0) M12) (fun r15 M15 => (if r15 = 0 then (some ((0 : Int32), M15)) else (hp_b (F_X5_next (hp_p M15 12 1 8 (M15 12 1 5))) (fun _ M16 => (if (M16 12 1 3) = (1 : Int32) then (some ((1 : Int32), M16)) else (hp_b (F_X5_fail (1 : Int32) M16) (fun r17 M17 => (if r17 = 0 then (some ((0 : Int32), M17)) else (some ((1 : Int32), M17))))))))))))) = some (r, M') ∧ CF M M' ∧ ((∃ e, (∀ {β : Type} (K : Int32 × Nat → Nat → Int32 ⊕ β), tk_sb (tk_arg2 T L p j) (fun b => tk_sb (tk_semi T L b.2) (K b)) = .inl e) ∧ r = 0 ∧ M' 12 1 9 = e) ∨ (∃ x q, tk_arg2 T L p j = .inr (x, q) ∧ tk_semi T L q = .inr (tk_e T L q) ∧ r = 1 ∧ M' 12 1 8 = x ∧ M' 12 1 4 = nI (tk_s T L q) ∧ M' 12 1 2 = nI (tk_e T L q) ∧ M' 12 1 9 = 0 ∧ M' 12 1 6 = M 12 1 6 ∧ M' 12 1 7 = M 12 1 7)) := by
  unfold F_X7_takesNumber tk_arg2
  by_cases hz : hp_vgre.getD j 0 ≤ 0
  · rw [if_pos hz, if_pos hz, hp_b_some, if_pos rfl]
    rcases x5_semi hL hp hX ha with ⟨e, M', b1, b2, b3, b4⟩ | ⟨M', b1, b2, b3, b4, b5, b6, b7, b8, b9⟩
    · refine ⟨0, M', b2, b4, Or.inl ⟨e, fun K => ?_, rfl, b3⟩⟩
      show tk_sb (tk_semi T L p) (K (0, p)) = _
      rw [b1]; rfl
    · exact ⟨1, M', b2, b5, Or.inr ⟨0, p, rfl, b1, rfl, b8.trans h8, b4, b3, b9.trans h9, b6, b7⟩⟩
  · rw [if_neg hz, if_neg hz, hp_b_some, if_neg (by decide)]
    rcases x5_num1 hL hp hX ha (hp_vlea.getD j 0) (hp_vgre.getD j 0) with ⟨e, M', b1, b2, b3, b4⟩ | ⟨M1, b1, b2, b3, b4, b5, b6, b7, b8, b9⟩
    · rw [b2, hp_b_some, if_pos rfl]
      refine ⟨0, M', rfl, b4, Or.inl ⟨e, fun K => ?_, rfl, b3⟩⟩
      rw [b1]; rfl
    · rw [b2, hp_b_some, if_neg (by decide), b4]
      have he := tk_e_le (T := T) hp
      rcases x5_semi (M := hp_p M1 12 1 8 (tk_n T L p)) hL he.2 ((CF.p (by omega)).x (b5.x hX)) ((hp_p_o _ _ _ _ _ (by omega)).trans b3) with ⟨e, M', c1, c2, c3, c4⟩ | ⟨M', c1, c2, c3, c4, c5, c6, c7, c8, c9⟩
      · refine ⟨0, M', c2, (b5.tr (CF.p (by omega))).tr c4, Or.inl ⟨e, fun K => ?_, rfl, c3⟩⟩
        rw [b1]
        show tk_sb (tk_semi T L (tk_e T L p)) (K (tk_n T L p, tk_e T L p)) = _
        rw [c1]; rfl
      · refine ⟨1, M', c2, (b5.tr (CF.p (by omega))).tr c5, Or.inr ⟨_, _, b1, c1, rfl, ?_, c4, c3, ?_, ?_, ?_⟩⟩
        · rw [c8, hp_p_s]
        · rw [c9, hp_p_o (h := by omega), b9, h9]
        · rw [c6, hp_p_o (h := by omega), b6]
        · rw [c7, hp_p_o (h := by omega), b7]
/-- a whole statement -/
theorem x5_stm (hL : L ≤ 700) {p n : Nat} (hp : p ≤ L) (hX : CX T L M) (ha : M 12 1 2 = nI p) (h9 : M 12 1 9 = 0) : ∃ (r : Int32) (M' : hp_M), F_X5_readStatement (nI n) M = some (r, M') ∧ CF M M' ∧ ((tk_k T L p = 0 ∧ r = 0 ∧ M' 12 1 9 = 0) ∨ (tk_k T L p ≠ 0 ∧ ((∃ e, tk_rd T L p n = .inl e ∧ r = 0 ∧ M' 12 1 9 = e) ∨ (∃ (j : Nat) (f x : Int32) (q : Nat), tk_rd T L p n = .inr (j, f, x, q, tk_e T L q) ∧ r = 1 ∧ M' 12 1 9 = 0 ∧ M' 12 1 6 = nI j ∧ M' 12 1 7 = f ∧ M' 12 1 8 = x ∧ M' 12 1 4 = nI (tk_s T L q) ∧ M' 12 1 2 = nI (tk_e T L q))))) := by
  obtain ⟨M1, a1, a2, a3, a6, a7, a8, a9⟩ := x5_nx hL hp hX ha
  have he := tk_e_le (T := T) hp
  have hX1 := a3.x hX
  unfold F_X5_readStatement
  rw [a1, hp_b_some, a2.2.1]
  by_cases hk : tk_k T L p = 0
  · rw [if_pos hk]
    exact ⟨0, M1, rfl, a3, Or.inl ⟨hk, rfl, a9.trans h9⟩⟩
  · rw [if_neg hk]
    obtain ⟨r, v1, v2⟩ := x5_verb hL hp hX1 a2
    rw [v1, hp_b_some]
    rcases v2 with ⟨w1, w2⟩ | ⟨w1, w2⟩
    · rw [if_pos (by rw [w2]; decide), x5_fail (a0 := 1) 1 rfl a2.2.2.1, hp_b_some, if_pos (Or.inl rfl)]
      refine ⟨0, _, rfl, a3.tr (CF.p (by omega)), Or.inr ⟨hk, Or.inl ⟨tk_er T L p 1, ?_, rfl, hp_p_s _ _ _ _ _⟩⟩⟩
      unfold tk_rd
      rw [if_pos w1]
    · have hrd : tk_rd T L p n = tk_sb (tk_arg1 T L (tk_e T L p) (tk_vb T L p 12 0) n) fun a => tk_sb (tk_arg2 T L a.2 (tk_vb T L p 12 0)) fun b => tk_sb (tk_semi T L b.2) fun e => .inr (tk_vb T L p 12 0, a.1, b.1, b.2, e) := by
        unfold tk_rd
        rw [if_neg (by omega)]
      generalize tk_vb T L p 12 0 = j at *
      rw [w2, if_neg (nI_pos (by omega)), nI_clamp (by omega), if_pos w1]
      by_cases hz : hp_vnam.getD j 0 = 0
      · have ea : tk_arg1 T L (tk_e T L p) j n = .inr (-1, tk_e T L p) := by unfold tk_arg1; rw [if_pos hz]
        rw [if_pos hz]
        generalize hM2 : hp_p (hp_p (hp_p M1 12 1 6 (nI j)) 12 1 7 (-1)) 12 1 8 0 = M2
        have f2 : CF M1 M2 := by rw [← hM2]; exact ((CF.p (by omega)).tr (CF.p (by omega))).tr (CF.p (by omega))
        have g2 : M2 12 1 2 = nI (tk_e T L p) := by rw [← hM2, hp_p_o (h := by omega), hp_p_o (h := by omega), hp_p_o (h := by omega)]; exact a2.1
        have g9 : M2 12 1 9 = 0 := by rw [← hM2, hp_p_o (h := by omega), hp_p_o (h := by omega), hp_p_o (h := by omega)]; exact a9.trans h9
        have g8 : M2 12 1 8 = 0 := by rw [← hM2, hp_p_s]
        have g7 : M2 12 1 7 = -1 := by rw [← hM2, hp_p_o (h := by omega), hp_p_s]
        have g6 : M2 12 1 6 = nI j := by rw [← hM2, hp_p_o (h := by omega), hp_p_o (h := by omega), hp_p_s]
        obtain ⟨r', M', t1, t2, t3⟩ := x5_tail (M := M2) (j := j) hL he.2 (f2.x hX1) g2 g8 g9
        refine ⟨r', M', t1, (a3.tr f2).tr t2, Or.inr ⟨hk, ?_⟩⟩
        rcases t3 with ⟨e, u1, u2, u3⟩ | ⟨x, q, u1, u2, u3, u4, u5, u6, u7, u8, u9⟩
        · refine Or.inl ⟨e, ?_, u2, u3⟩
          rw [hrd, ea]
          exact u1 (fun b e => .inr (j, -1, b.1, b.2, e))
        · refine Or.inr ⟨j, -1, x, q, ?_, u3, u7, u8.trans g6, u9.trans g7, u4, u5, u6⟩
          rw [hrd, ea]
          show tk_sb (tk_arg2 T L (tk_e T L p) j) _ = _
          rw [u1]
          show tk_sb (tk_semi T L q) _ = _
          rw [u2]
          rfl
      · have ea : tk_arg1 T L (tk_e T L p) j n = tk_num T L (tk_e T L p) 0 (nI n - 1) := by unfold tk_arg1; rw [if_neg hz]
        rw [if_neg hz]
        generalize hM2 : hp_p (hp_p M1 12 1 6 (nI j)) 12 1 7 (-1) = M2
        have f2 : CF M1 M2 := by rw [← hM2]; exact (CF.p (by omega)).tr (CF.p (by omega))
        have g2 : M2 12 1 2 = nI (tk_e T L p) := by rw [← hM2, hp_p_o (h := by omega), hp_p_o (h := by omega)]; exact a2.1
        have g9 : M2 12 1 9 = 0 := by rw [← hM2, hp_p_o (h := by omega), hp_p_o (h := by omega)]; exact a9.trans h9
        have g6 : M2 12 1 6 = nI j := by rw [← hM2, hp_p_o (h := by omega), hp_p_s]
        have he2 := tk_e_le (T := T) he.2
        rcases x5_num1 (M := M2) hL he.2 (f2.x hX1) g2 0 (nI n - 1) with ⟨e, M', b1, b2, b3, b4⟩ | ⟨M3, b1, b2, b3, b4, b5, b6, b7, b8, b9⟩
        · rw [b2, hp_b_some, if_pos rfl]
          refine ⟨0, M', rfl, (a3.tr f2).tr b4, Or.inr ⟨hk, Or.inl ⟨e, ?_, rfl, b3⟩⟩⟩
          rw [hrd, ea, b1]
          rfl
        · rw [b2, hp_b_some, if_neg (by decide), b4]
          generalize hM4 : hp_p (hp_p M3 12 1 7 (tk_n T L (tk_e T L p))) 12 1 8 0 = M4
          have f4 : CF M3 M4 := by rw [← hM4]; exact (CF.p (by omega)).tr (CF.p (by omega))
          have k2 : M4 12 1 2 = nI (tk_e T L (tk_e T L p)) := by rw [← hM4, hp_p_o (h := by omega), hp_p_o (h := by omega)]; exact b3
          have k9 : M4 12 1 9 = 0 := by rw [← hM4, hp_p_o (h := by omega), hp_p_o (h := by omega)]; exact b9.trans g9
          have k8 : M4 12 1 8 = 0 := by rw [← hM4, hp_p_s]
          have k7 : M4 12 1 7 = tk_n T L (tk_e T L p) := by rw [← hM4, hp_p_o (h := by omega), hp_p_s]
          have k6 : M4 12 1 6 = nI j := by rw [← hM4, hp_p_o (h := by omega), hp_p_o (h := by omega)]; exact b6.trans g6
          obtain ⟨r', M', t1, t2, t3⟩ := x5_tail (M := M4) (j := j) hL he2.2 (f4.x (b5.x (f2.x hX1))) k2 k8 k9
          refine ⟨r', M', t1, (((a3.tr f2).tr b5).tr f4).tr t2, Or.inr ⟨hk, ?_⟩⟩
          rcases t3 with ⟨e, u1, u2, u3⟩ | ⟨x, q, u1, u2, u3, u4, u5, u6, u7, u8, u9⟩
          · refine Or.inl ⟨e, ?_, u2, u3⟩
            rw [hrd, ea, b1]
            exact u1 (fun b e => .inr (j, tk_n T L (tk_e T L p), b.1, b.2, e))
          · refine Or.inr ⟨j, tk_n T L (tk_e T L p), x, q, ?_, u3, u7, u8.trans k6, u9.trans k7, u4, u5, u6⟩
            rw [hrd, ea, b1]
            show tk_sb (tk_arg2 T L (tk_e T L (tk_e T L p)) j) _ = _
            rw [u1]
            show tk_sb (tk_semi T L q) _ = _
            rw [u2]
            rfl
end CSTM
