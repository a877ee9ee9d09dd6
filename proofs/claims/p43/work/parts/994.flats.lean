/-! ===== hasFlats and holds answer true ===== -/
section FLATS
variable {B : Nat} {v : HV} {M : hp_M}
theorem a_n (c : CRep (M 0) v) (k : Nat) (hk : k < 11) (h0 : k ≠ 0) (h10 : k ≠ 10) : F_X8_account (nI k) M = some (v.acc k, M) := by
  rw [q_acc c hk]
  unfold hv_an
  rw [if_neg h0, if_neg h10]
theorem a_0 (c : CRep (M 0) v) : F_X8_account 0 M = some (v.time, M) := q_acc (k := 0) c (by decide)
theorem a_10 (c : CRep (M 0) v) (h : hv_k B v) : F_X8_account 10 M = some (0, M) := by
  have e : F_X8_account 10 M = some (hv_an v 10, M) := q_acc (k := 10) c (by decide)
  rw [e]
  obtain ⟨-, -, -, -, -, -, -, -, -, a10, -⟩ := h.2.1
  show some (v.acc 4 - v.acc 5 - hv_sum (fun f => v.num f 6) v.flats + v.acc 6 - v.acc 7 - nI v.slate.length, M) = _
  rw [a10]
theorem f_157 (c : CRep (M 0) v) (h : hv_k B v) : L_L_hasFlats_157 (hv_sum (fun f => v.num f 6) v.flats) (hv_sum (fun f => nI (hv_cnt v.slate f)) v.flats) (hv_sum (fun f => v.num f 7) v.flats) (hv_sum (fun f => v.num f 8) v.flats) (hv_dsum v.heard v.flats) hp_fu 0 M = some (1, M) := by
  have ho := h.1.1.1
  have h8 := ok_s8 ho
  obtain ⟨n1, n2, n3⟩ := h.2.2
  obtain ⟨-, -, -, -, -, -, a7, a8, a9, -⟩ := h.2.1
  rw [cnt_sum v.slate (ok_sl ho), a7, a8, a9]
  generalize hd : hv_sum (fun f => v.num f 6) v.flats = dd
  have step : ∀ n i : Nat, i < v.slate.length → L_L_hasFlats_157 dd (nI v.slate.length) (v.acc 3) (v.acc 1) (v.acc 9) (n + 1) (nI i) M = L_L_hasFlats_157 dd (nI v.slate.length) (v.acc 3) (v.acc 1) (v.acc 9) n (nI (i + 1)) M := by
    intro n i hi
    have hx : v.slate[i]? = some v.slate[i] := List.getElem?_eq_getElem hi
    have h1 : ¬ v.time < (v.slate[i]).2 := by
      have := n3 _ (List.getElem_mem hi)
      grind
    rw [L_L_hasFlats_157.eq_2, s_9 c ho, hp_b_some, if_neg (nI_ge hi (by omega)), q_msg c hx, hp_b_some, s_1 c ho, hp_b_some, if_neg h1, nI_1]
    by_cases q : i = 0
    · subst q
      rw [if_pos (by decide)]
    · obtain ⟨j, rfl⟩ : ∃ j, i = j + 1 := ⟨i - 1, by omega⟩
      have hy : v.slate[j]? = some v.slate[j] := List.getElem?_eq_getElem (by omega)
      have h2 : (v.slate[j]).2 ≤ (v.slate[j + 1]).2 := List.pairwise_iff_getElem.mp n2 j (j + 1) (by omega) hi (by omega)
      rw [if_neg (nI_nle (by omega) (by omega)), q_msg c hx, hp_b_some, nI_pred, q_msg c hy, hp_b_some, if_pos h2]
  obtain ⟨n', e⟩ := hp_runs0 (T := fun n i => L_L_hasFlats_157 dd (nI v.slate.length) (v.acc 3) (v.acc 1) (v.acc 9) n (nI i) M) (N := v.slate.length) step hp_fu (by unfold hp_fu; omega)
  have e' : L_L_hasFlats_157 dd (nI v.slate.length) (v.acc 3) (v.acc 1) (v.acc 9) hp_fu 0 M = L_L_hasFlats_157 dd (nI v.slate.length) (v.acc 3) (v.acc 1) (v.acc 9) (n' + 1) (nI v.slate.length) M := e
  have g3 : F_X8_account 3 M = some (v.acc 3, M) := a_n c 3 (by decide) (by decide) (by decide)
  have g1 : F_X8_account 1 M = some (v.acc 1, M) := a_n c 1 (by decide) (by decide) (by decide)
  have g9 : F_X8_account 9 M = some (v.acc 9, M) := a_n c 9 (by decide) (by decide) (by decide)
  rw [e', L_L_hasFlats_157.eq_2, s_9 c ho, hp_b_some, if_pos (nI_le (Nat.le_refl _) (by omega)), s_10 c ho, hp_b_some, if_pos hd, s_9 c ho, hp_b_some, if_pos rfl, if_neg (show ¬ (8 : Int32) < nI v.slate.length from nI_nlt (a := 8) h8 (by decide)), g3, hp_b_some, if_pos rfl, g1, hp_b_some, if_pos rfl, g9, hp_b_some, if_pos rfl]
theorem f_98 (c : CRep (M 0) v) (h : hv_k B v) {f : Nat} (hf : f < v.flats) (rc : Int32 → Int32 → Int32 → Int32 → Int32 → Int32 → hp_M → Option (Int32 × hp_M)) (x1 x2 x3 x4 x5 : Int32) : L_L_hasFlats_98 rc x1 x2 x3 x4 (nI f) hp_fu x5 0 M = rc x1 x2 x3 x4 (x5 + hv_sum (fun k => v.heard f k) v.flats) (nI f + 1) M := by
  have ho := h.1.1.1
  have h10 := ok_fl ho
  obtain ⟨-, -, -, -, a5, -⟩ := h.2.1
  have step : ∀ n i : Nat, i < v.flats → L_L_hasFlats_98 rc x1 x2 x3 x4 (nI f) (n + 1) (x5 + hv_sum (fun k => v.heard f k) i) (nI i) M = L_L_hasFlats_98 rc x1 x2 x3 x4 (nI f) n (x5 + hv_sum (fun k => v.heard f k) (i + 1)) (nI (i + 1)) M := by
    intro n i hi
    have e7 : F_X8_flat (nI i) 7 M = some (v.num i 7, M) := l_n c ho hi 7 (by decide) (by decide) (by decide)
    have es : x5 + hv_sum (fun k => v.heard f k) (i + 1) = x5 + hv_sum (fun k => v.heard f k) i + v.heard f i := by
      show x5 + (hv_sum (fun k => v.heard f k) i + v.heard f i) = _
      grind
    rw [L_L_hasFlats_98.eq_2, s_0 c ho, hp_b_some, if_neg (nI_ge hi (by omega)), q_heard c hf hi, hp_b_some, q_heard c hf hi, hp_b_some, e7, hp_b_some, if_pos (a5 f i hf hi), nI_1, es]
  obtain ⟨n', e⟩ := hp_runs0 (T := fun n i => L_L_hasFlats_98 rc x1 x2 x3 x4 (nI f) n (x5 + hv_sum (fun k => v.heard f k) i) (nI i) M) (N := v.flats) step hp_fu (by unfold hp_fu; omega)
  have z : x5 + hv_sum (fun k => v.heard f k) 0 = x5 := by show x5 + 0 = x5; grind
  have e' : L_L_hasFlats_98 rc x1 x2 x3 x4 (nI f) hp_fu x5 0 M = L_L_hasFlats_98 rc x1 x2 x3 x4 (nI f) (n' + 1) (x5 + hv_sum (fun k => v.heard f k) v.flats) (nI v.flats) M := by
    have e2 : L_L_hasFlats_98 rc x1 x2 x3 x4 (nI f) hp_fu (x5 + hv_sum (fun k => v.heard f k) 0) (nI 0) M = L_L_hasFlats_98 rc x1 x2 x3 x4 (nI f) (n' + 1) (x5 + hv_sum (fun k => v.heard f k) v.flats) (nI v.flats) M := e
    rw [z] at e2
    exact e2
  rw [e', L_L_hasFlats_98.eq_2, s_0 c ho, hp_b_some, if_pos (nI_le (Nat.le_refl _) (by omega))]
/-- hasFlats -/
theorem f_has (c : CRep (M 0) v) (h : hv_k B v) (hB : 10000 * B < 2 ^ 31) : F_L_hasFlats M = some (1, M) := by
  have ho := h.1.1.1
  have h10 := ok_fl ho
  obtain ⟨-, -, a3, a4, -⟩ := h.2.1
  have step : ∀ n i : Nat, i < v.flats → L_L_hasFlats_15 (n + 1) (hv_sum (fun f => v.num f 6) i) (hv_sum (fun f => nI (hv_cnt v.slate f)) i) (hv_sum (fun f => v.num f 7) i) (hv_sum (fun f => v.num f 8) i) (hv_sum (fun f => hv_sum (fun k => v.heard f k) v.flats) i) (nI i) M = L_L_hasFlats_15 n (hv_sum (fun f => v.num f 6) (i + 1)) (hv_sum (fun f => nI (hv_cnt v.slate f)) (i + 1)) (hv_sum (fun f => v.num f 7) (i + 1)) (hv_sum (fun f => v.num f 8) (i + 1)) (hv_sum (fun f => hv_sum (fun k => v.heard f k) v.flats) (i + 1)) (nI (i + 1)) M := by
    intro n i hi
    have e6 : F_X8_flat (nI i) 6 M = some (v.num i 6, M) := l_n c ho hi 6 (by decide) (by decide) (by decide)
    have e7 : F_X8_flat (nI i) 7 M = some (v.num i 7, M) := l_n c ho hi 7 (by decide) (by decide) (by decide)
    have e8 : F_X8_flat (nI i) 8 M = some (v.num i 8, M) := l_n c ho hi 8 (by decide) (by decide) (by decide)
    have h6 : ¬ v.num i 6 < 0 := by
      have := hv_lt_ge hB (a3 i hi)
      grind
    rw [L_L_hasFlats_15.eq_2, s_0 c ho, hp_b_some, if_neg (nI_ge hi (by omega)), e6, hp_b_some, if_neg h6, q_heard c hi hi, hp_b_some, if_pos (a4 i hi), e6, hp_b_some, l_9 c ho hi, hp_b_some, e7, hp_b_some, e8, hp_b_some, f_98 c h hi, nI_1]
    rfl
  obtain ⟨n', e⟩ := hp_runs0 (T := fun n i => L_L_hasFlats_15 n (hv_sum (fun f => v.num f 6) i) (hv_sum (fun f => nI (hv_cnt v.slate f)) i) (hv_sum (fun f => v.num f 7) i) (hv_sum (fun f => v.num f 8) i) (hv_sum (fun f => hv_sum (fun k => v.heard f k) v.flats) i) (nI i) M) (N := v.flats) step hp_fu (by unfold hp_fu; omega)
  unfold F_L_hasFlats
  have e' : L_L_hasFlats_15 hp_fu 0 0 0 0 0 0 M = L_L_hasFlats_15 (n' + 1) (hv_sum (fun f => v.num f 6) v.flats) (hv_sum (fun f => nI (hv_cnt v.slate f)) v.flats) (hv_sum (fun f => v.num f 7) v.flats) (hv_sum (fun f => v.num f 8) v.flats) (hv_sum (fun f => hv_sum (fun k => v.heard f k) v.flats) v.flats) (nI v.flats) M := e
  rw [e', L_L_hasFlats_15.eq_2, s_0 c ho, hp_b_some, if_pos (nI_le (Nat.le_refl _) (by omega))]
  exact f_157 c h
/-- holds -/
theorem h_holds (c : CRep (M 0) v) (h : hv_k B v) (hB : 10000 * B < 2 ^ 31) : F_L_holds M = some (1, M) := by
  have ho := h.1.1.1
  obtain ⟨-, -, -, -, -, -, -, -, -, -, a11, -⟩ := h.2.1
  have n1 := h.2.2.1
  have g1 : F_X8_account 1 M = some (v.acc 1, M) := a_n c 1 (by decide) (by decide) (by decide)
  have g2 : F_X8_account 2 M = some (v.acc 2, M) := a_n c 2 (by decide) (by decide) (by decide)
  have g3 : F_X8_account 3 M = some (v.acc 3, M) := a_n c 3 (by decide) (by decide) (by decide)
  have x1 : ¬ v.acc 1 < v.acc 2 := by grind
  have x2 : ¬ v.time < v.acc 3 := by grind
  unfold F_L_holds
  rw [a_10 c h, hp_b_some, if_pos rfl, a_0 c, hp_b_some, s_1 c ho, hp_b_some, if_pos rfl, g2, hp_b_some, g1, hp_b_some, if_neg x1, g3, hp_b_some, a_0 c, hp_b_some, if_neg x2, p_has c h, hp_b_some, if_neg (by decide), f_has c h hB, hp_b_some, if_neg (by decide)]
end FLATS
