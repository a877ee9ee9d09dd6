/-! ===== hasPhone answers true ===== -/
section PHONE
variable {B : Nat} {v : HV} {M : hp_M}
theorem fn_n {f k : Nat} (h5 : k ≠ 5) (h9 : k ≠ 9) : hv_fn v f k = v.num f k := by
  unfold hv_fn
  rw [if_neg h5, if_neg h9]
theorem l_n (c : CRep (M 0) v) (h : hv_ok v) {f : Nat} (hf : f < v.flats) (k : Nat) (hk : k < 11) (h5 : k ≠ 5) (h9 : k ≠ 9) : F_X8_flat (nI f) (nI k) M = some (v.num f k, M) := by
  rw [q_flat c h hf hk, fn_n h5 h9]
theorem l_x (c : CRep (M 0) v) (h : hv_ok v) {f : Nat} (hf : f < v.flats) (k : Nat) (hk : k < 11) (h5 : k ≠ 5) (h9 : k ≠ 9) {x : Int32} (e : v.num f k = x) : F_X8_flat (nI f) (nI k) M = some (x, M) := by
  rw [l_n c h hf k hk h5 h9, e]
theorem l_5 (c : CRep (M 0) v) (h : hv_ok v) {f : Nat} (hf : f < v.flats) : F_X8_flat (nI f) 5 M = some (hv_pl v.queue f 0, M) := q_flat (k := 5) c h hf (by decide)
theorem l_9 (c : CRep (M 0) v) (h : hv_ok v) {f : Nat} (hf : f < v.flats) : F_X8_flat (nI f) 9 M = some (nI (hv_cnt v.slate f), M) := q_flat (k := 9) c h hf (by decide)
theorem s_0 (c : CRep (M 0) v) (h : hv_ok v) : F_X8_size 0 M = some (nI v.flats, M) := q_size (k := 0) c (ok_ou h) (by decide)
theorem s_1 (c : CRep (M 0) v) (h : hv_ok v) : F_X8_size 1 M = some (v.time, M) := q_size (k := 1) c (ok_ou h) (by decide)
theorem s_2 (c : CRep (M 0) v) (h : hv_ok v) : F_X8_size 2 M = some (v.ph, M) := q_size (k := 2) c (ok_ou h) (by decide)
theorem s_3 (c : CRep (M 0) v) (h : hv_ok v) : F_X8_size 3 M = some (if v.ph = 0 then -1 else nI v.who, M) := q_size (k := 3) c (ok_ou h) (by decide)
theorem s_4 (c : CRep (M 0) v) (h : hv_ok v) : F_X8_size 4 M = some (v.spoken, M) := q_size (k := 4) c (ok_ou h) (by decide)
theorem s_5 (c : CRep (M 0) v) (h : hv_ok v) : F_X8_size 5 M = some (if v.ph = 2 then v.left else 0, M) := q_size (k := 5) c (ok_ou h) (by decide)
theorem s_6 (c : CRep (M 0) v) (h : hv_ok v) : F_X8_size 6 M = some (v.out, M) := q_size (k := 6) c (ok_ou h) (by decide)
theorem s_7 (c : CRep (M 0) v) (h : hv_ok v) : F_X8_size 7 M = some (nI v.queue.length, M) := q_size (k := 7) c (ok_ou h) (by decide)
theorem s_8 (c : CRep (M 0) v) (h : hv_ok v) : F_X8_size 8 M = some (nI (hv_ct (fun f => decide (v.num f 2 = 1)) v.flats), M) := q_size (k := 8) c (ok_ou h) (by decide)
theorem s_9 (c : CRep (M 0) v) (h : hv_ok v) : F_X8_size 9 M = some (nI v.slate.length, M) := q_size (k := 9) c (ok_ou h) (by decide)
theorem s_10 (c : CRep (M 0) v) (h : hv_ok v) : F_X8_size 10 M = some (hv_sum (fun f => v.num f 6) v.flats, M) := q_size (k := 10) c (ok_ou h) (by decide)
def hv_c (v : HV) (s : Int32) (n : Nat) : Nat := hv_ct (fun f => decide (v.num f 2 = s)) n
theorem hv_c_le (s : Int32) (n : Nat) : hv_c v s n ≤ n := hv_ct_le _ n
theorem hv_c_t {s : Int32} {n : Nat} (h : v.num n 2 = s) : nI (hv_c v s (n + 1)) = nI (hv_c v s n) + 1 := by
  have : hv_c v s (n + 1) = hv_c v s n + 1 := if_pos (decide_eq_true h)
  rw [this, nI_succ]
theorem hv_c_f {s : Int32} {n : Nat} (h : ¬ v.num n 2 = s) : nI (hv_c v s (n + 1)) = nI (hv_c v s n) + 0 := by
  have : hv_c v s (n + 1) = hv_c v s n := if_neg (by simpa using h)
  rw [this]
  grind
/-- the last look at a flat: who comes down to a call has no wish just if the telephone is held for it -/
theorem p_238 (c : CRep (M 0) v) (h : hv_k B v) {f : Nat} (hf : f < v.flats) (rc : Int32 → Int32 → Int32 → Int32 → hp_M → Option (Int32 × hp_M)) (x3 x4 x5 : Int32) : A_L_hasPhone_238 rc v.ph (if v.ph = 0 then -1 else nI v.who) x3 x4 x5 (nI f) (v.num f 2) M = rc x3 x4 x5 (nI f + 1) M := by
  have ho := h.1.1.1
  have h10 := ok_fl ho
  unfold A_L_hasPhone_238
  by_cases h1 : v.num f 2 = 1
  · rw [if_pos h1, show F_X8_flat (nI f) 4 M = some (v.num f 4, M) from l_n c ho hf 4 (by decide) (by decide) (by decide), hp_b_some]
    have pos : v.num f 4 ≠ 0 → ¬ (v.ph = 1 ∧ v.who = f) := fun h4 q => h4 (by rw [← q.2]; exact h.2.1.2.1 q.1)
    by_cases h4 : v.num f 4 = 0
    · have hh : v.ph = 1 ∧ v.who = f := by
        by_cases q : v.ph = 1 ∧ v.who = f
        · exact q
        · have := ok_wi ho f hf (Or.inr ⟨h1, q⟩)
          rw [h4] at this
          exact absurd this.1 (by decide)
      have hne : ¬ v.ph = 0 := by rw [hh.1]; decide
      have hw : (if v.ph = 0 then -1 else nI v.who) = nI f := by rw [if_neg hne, hh.2]
      rw [if_pos h4]
      unfold A_L_hasPhone_259
      rw [if_pos hh.1, if_pos hw, if_pos rfl]
    · have hh := pos h4
      rw [if_neg h4]
      unfold A_L_hasPhone_259
      by_cases hp : v.ph = 1
      · have hne : ¬ v.ph = 0 := by rw [hp]; decide
        have hw : ¬ (if v.ph = 0 then -1 else nI v.who) = nI f := by
          rw [if_neg hne]
          exact fun q => hh ⟨hp, (nI_eq (by have := ok_w10' ho; omega) (by omega)).mp q⟩
        rw [if_pos hp, if_neg hw, if_pos rfl]
      · rw [if_neg hp, if_pos rfl]
  · rw [if_neg h1]
theorem p_219 (c : CRep (M 0) v) (h : hv_k B v) {f : Nat} (hf : f < v.flats) (rc : Int32 → Int32 → Int32 → Int32 → hp_M → Option (Int32 × hp_M)) (x3 x4 x5 : Int32) : A_L_hasPhone_219 rc v.ph (if v.ph = 0 then -1 else nI v.who) x3 x4 x5 (nI f) (v.num f 2) M = rc x3 x4 x5 (nI f + 1) M := by
  have ho := h.1.1.1
  unfold A_L_hasPhone_219
  by_cases h2 : v.num f 2 = 2
  · rw [if_pos h2, show F_X8_flat (nI f) 4 M = some (v.num f 4, M) from l_n c ho hf 4 (by decide) (by decide) (by decide), hp_b_some, if_pos (ok_wi ho f hf (Or.inl h2)).1]
    exact p_238 c h hf rc x3 x4 x5
  · rw [if_neg h2]
    exact p_238 c h hf rc x3 x4 x5
theorem p_198 (c : CRep (M 0) v) (h : hv_k B v) {f : Nat} (hf : f < v.flats) (rc : Int32 → Int32 → Int32 → Int32 → hp_M → Option (Int32 × hp_M)) (x3 x4 x5 : Int32) : A_L_hasPhone_198 rc v.ph (if v.ph = 0 then -1 else nI v.who) x3 x4 x5 (nI f) (v.num f 2) M = rc x3 x4 x5 (nI f + 1) M := by
  have ho := h.1.1.1
  have key : v.num f 2 = 0 ∨ v.num f 2 = 3 → A_L_hasPhone_209 rc v.ph (if v.ph = 0 then -1 else nI v.who) x3 x4 x5 (nI f) (v.num f 2) M = rc x3 x4 x5 (nI f + 1) M := by
    intro hq
    unfold A_L_hasPhone_209
    rw [show F_X8_flat (nI f) 4 M = some (v.num f 4, M) from l_n c ho hf 4 (by decide) (by decide) (by decide), hp_b_some, if_pos (ok_w0 ho f hf hq)]
    exact p_219 c h hf rc x3 x4 x5
  unfold A_L_hasPhone_198
  by_cases h0 : v.num f 2 = 0
  · rw [if_pos h0]; exact key (Or.inl h0)
  · rw [if_neg h0]
    by_cases h3 : v.num f 2 = 3
    · rw [if_pos h3]; exact key (Or.inr h3)
    · rw [if_neg h3]; exact p_219 c h hf rc x3 x4 x5
theorem p_181 (c : CRep (M 0) v) (h : hv_k B v) {f : Nat} (hf : f < v.flats) (rc : Int32 → Int32 → Int32 → Int32 → hp_M → Option (Int32 × hp_M)) (x3 x4 x5 : Int32) : A_L_hasPhone_181 rc v.ph (if v.ph = 0 then -1 else nI v.who) x3 x4 x5 (nI f) (v.num f 2) M = rc x3 x4 x5 (nI f + 1) M := by
  have ho := h.1.1.1
  unfold A_L_hasPhone_181
  by_cases h3 : v.num f 2 = 3
  · obtain ⟨e1, e2⟩ := ok_sp2 ho f hf h3
    have hne : ¬ v.ph = 0 := by rw [e1]; decide
    have hw : (if v.ph = 0 then -1 else nI v.who) = nI f := by rw [if_neg hne, e2]
    rw [if_pos h3, if_pos e1, if_pos hw]
    exact p_198 c h hf rc x3 x4 x5
  · rw [if_neg h3]
    exact p_198 c h hf rc x3 x4 x5
theorem p_134 (c : CRep (M 0) v) (h : hv_k B v) {f : Nat} (hf : f < v.flats) (rc : Int32 → Int32 → Int32 → Int32 → hp_M → Option (Int32 × hp_M)) (x3 x4 x5 z : Int32) : A_L_hasPhone_134 rc v.ph (if v.ph = 0 then -1 else nI v.who) x3 x4 x5 (nI f) (v.num f 2) (hv_pl v.queue f 0) z z M = rc x3 x4 x5 (nI f + 1) M := by
  have ho := h.1.1.1
  have h10 := ok_fl ho
  unfold A_L_hasPhone_134
  rw [if_pos rfl]
  by_cases h2 : v.num f 2 = 2
  · obtain ⟨p, e1, e2⟩ := pl_in v.queue 0 (ok_qall ho f hf h2)
    rw [Nat.zero_add] at e2
    have hp : p < 10 := Nat.lt_of_lt_of_le (List.getElem?_eq_some_iff.mp e1).1 c.q10
    have hne : ¬ nI p = -1 := fun q => nI_pos (n := p) (by omega) (by rw [q]; decide)
    rw [if_pos h2, e2]
    unfold A_L_hasPhone_148 A_L_hasPhone_159
    rw [if_neg hne, if_pos rfl, if_neg hne, q_q c e1, hp_b_some, if_pos rfl]
    exact p_181 c h hf rc x3 x4 x5
  · have hn : f ∉ v.queue := fun q => h2 (ok_qin ho f q).2
    rw [if_neg h2, pl_no v.queue 0 hn]
    unfold A_L_hasPhone_148 A_L_hasPhone_159
    rw [if_pos rfl, if_pos rfl, if_pos rfl]
    exact p_181 c h hf rc x3 x4 x5
theorem p_63 (c : CRep (M 0) v) (h : hv_k B v) {f : Nat} (hf : f < v.flats) (rc : Int32 → Int32 → Int32 → Int32 → hp_M → Option (Int32 × hp_M)) (x3 x4 x5 z3 : Int32) : A_L_hasPhone_63 rc v.ph (if v.ph = 0 then -1 else nI v.who) x4 x5 (nI f) (v.num f 2) (hv_pl v.queue f 0) z3 x3 M = rc (x3 + z3) (x4 + if v.num f 2 = 1 then 1 else 0) (x5 + if v.num f 2 = 2 then 1 else 0) (nI f + 1) M := by
  have ho := h.1.1.1
  have e3 : F_X8_flat (nI f) 3 M = some (v.num f 3, M) := l_n c ho hf 3 (by decide) (by decide) (by decide)
  have hst := ok_st ho f hf
  have g0 : ¬ v.num f 2 < 0 := by rcases hst with q | q | q | q <;> rw [q] <;> decide
  have g3 : ¬ (3 : Int32) < v.num f 2 := by rcases hst with q | q | q | q <;> rw [q] <;> decide
  by_cases h1 : v.num f 2 = 1
  · have h3 := ok_sts ho f hf h1
    have h2 : ¬ v.num f 2 = 2 := by rw [h1]; decide
    have hle : ¬ v.num f 3 ≤ 0 := fun q => by
      have := h3.1
      grind
    have r1 : (if v.num f 2 = 1 then (1 : Int32) else 0) = 1 := if_pos h1
    have r2 : (if v.num f 2 = 2 then (1 : Int32) else 0) = 0 := if_neg h2
    rw [r1, r2]
    unfold A_L_hasPhone_63
    rw [if_pos h1]
    unfold A_L_hasPhone_78
    rw [if_neg h2]
    unfold A_L_hasPhone_94
    rw [if_neg g0, if_neg g3, if_pos h1]
    unfold A_L_hasPhone_119
    rw [e3, hp_b_some, if_neg hle]
    exact p_134 c h hf rc _ _ _ 1
  · have h3 := h.2.1.1 f hf h1
    have hle : v.num f 3 ≤ 0 := by rw [h3]; decide
    have r1 : (if v.num f 2 = 1 then (1 : Int32) else 0) = 0 := if_neg h1
    by_cases h2 : v.num f 2 = 2
    · have r2 : (if v.num f 2 = 2 then (1 : Int32) else 0) = 1 := if_pos h2
      rw [r1, r2]
      unfold A_L_hasPhone_63
      rw [if_neg h1]
      unfold A_L_hasPhone_78
      rw [if_pos h2]
      unfold A_L_hasPhone_94
      rw [if_neg g0, if_neg g3, if_neg h1]
      unfold A_L_hasPhone_119
      rw [e3, hp_b_some, if_pos hle]
      exact p_134 c h hf rc _ _ _ 0
    · have r2 : (if v.num f 2 = 2 then (1 : Int32) else 0) = 0 := if_neg h2
      rw [r1, r2]
      unfold A_L_hasPhone_63
      rw [if_neg h1]
      unfold A_L_hasPhone_78
      rw [if_neg h2]
      unfold A_L_hasPhone_94
      rw [if_neg g0, if_neg g3, if_neg h1]
      unfold A_L_hasPhone_119
      rw [e3, hp_b_some, if_pos hle]
      exact p_134 c h hf rc _ _ _ 0
theorem p_step (c : CRep (M 0) v) (h : hv_k B v) (n i : Nat) (hi : i < v.flats) : L_L_hasPhone_23 v.ph (if v.ph = 0 then -1 else nI v.who) (n + 1) (nI (hv_c v 3 i)) (nI (hv_c v 1 i)) (nI (hv_c v 2 i)) (nI i) M = L_L_hasPhone_23 v.ph (if v.ph = 0 then -1 else nI v.who) n (nI (hv_c v 3 (i + 1))) (nI (hv_c v 1 (i + 1))) (nI (hv_c v 2 (i + 1))) (nI (i + 1)) M := by
  have ho := h.1.1.1
  have h10 := ok_fl ho
  have e2 : F_X8_flat (nI i) 2 M = some (v.num i 2, M) := l_n c ho hi 2 (by decide) (by decide) (by decide)
  rw [L_L_hasPhone_23.eq_2, s_0 c ho, hp_b_some, if_neg (nI_ge hi (by omega)), e2, hp_b_some, l_5 c ho hi, hp_b_some]
  have k1 : nI (hv_c v 1 (i + 1)) = nI (hv_c v 1 i) + if v.num i 2 = 1 then 1 else 0 := by
    by_cases q : v.num i 2 = 1
    · rw [if_pos q]; exact hv_c_t q
    · rw [if_neg q]; exact hv_c_f q
  have k2 : nI (hv_c v 2 (i + 1)) = nI (hv_c v 2 i) + if v.num i 2 = 2 then 1 else 0 := by
    by_cases q : v.num i 2 = 2
    · rw [if_pos q]; exact hv_c_t q
    · rw [if_neg q]; exact hv_c_f q
  rw [k1, k2, ← nI_1]
  by_cases q : v.num i 2 = 3
  · rw [if_pos q, p_63 c h hi, hv_c_t q]
  · rw [if_neg q, p_63 c h hi, hv_c_f q]
theorem p_393 (c : CRep (M 0) v) (h : hv_k B v) : A_L_hasPhone_393 (nI (hv_c v 1 v.flats)) (nI (hv_c v 2 v.flats)) M = some (1, M) := by
  have ho := h.1.1.1
  have hq : hv_c v 2 v.flats = v.queue.length := by
    rw [← ct_qn (ok_qnd ho) (fun x hx => (ok_qin ho x hx).1)]
    refine ct_cg (fun f hf => ?_)
    by_cases z : v.num f 2 = 2
    · rw [decide_eq_true z, decide_eq_true (ok_qall ho f hf z)]
    · rw [decide_eq_false z, decide_eq_false (fun y => z (ok_qin ho f y).2)]
  have h1c : nI (hv_ct (fun f => decide (v.num f 2 = 1)) v.flats) = nI (hv_c v 1 v.flats) := rfl
  unfold A_L_hasPhone_393
  rw [s_7 c ho, hp_b_some, hq, if_pos rfl, s_8 c ho, hp_b_some, if_pos h1c, q_qn c, hp_b_some, if_pos rfl, q_qm, hp_b_some, if_pos rfl]
theorem p_350 (c : CRep (M 0) v) (h : hv_k B v) : A_L_hasPhone_350 v.ph (nI (hv_c v 1 v.flats)) (nI (hv_c v 2 v.flats)) M = some (1, M) := by
  have ho := h.1.1.1
  unfold A_L_hasPhone_350
  by_cases hp : v.ph = 2
  · have h0 : ¬ v.spoken < 0 := by have := h.1.2.1.1.1; grind
    have h1 : 1 ≤ v.left := h.1.1.2 (by rw [hp]; decide)
    rw [if_pos hp, s_4 c ho, hp_b_some, if_neg h0, s_5 c ho, hp_b_some, if_pos hp, if_pos h1]
    exact p_393 c h
  · have h0 : v.spoken = 0 := by
      rcases ok_ph ho with q | q | q
      · exact (ok_p0 ho q).2.1
      · exact (ok_he ho q).2.2
      · exact absurd q hp
    rw [if_neg hp, s_4 c ho, hp_b_some, if_pos h0, s_5 c ho, hp_b_some, if_neg hp, if_pos rfl]
    exact p_393 c h
/-- hasPhone -/
theorem p_has (c : CRep (M 0) v) (h : hv_k B v) : F_L_hasPhone M = some (1, M) := by
  have ho := h.1.1.1
  have h10 := ok_fl ho
  unfold F_L_hasPhone
  rw [s_2 c ho, hp_b_some, s_3 c ho, hp_b_some]
  obtain ⟨n', e⟩ := hp_runs0 (T := fun n i => L_L_hasPhone_23 v.ph (if v.ph = 0 then -1 else nI v.who) n (nI (hv_c v 3 i)) (nI (hv_c v 1 i)) (nI (hv_c v 2 i)) (nI i) M) (N := v.flats) (fun n i hi => p_step c h n i hi) hp_fu (by unfold hp_fu; omega)
  have e' : L_L_hasPhone_23 v.ph (if v.ph = 0 then -1 else nI v.who) hp_fu 0 0 0 0 M = L_L_hasPhone_23 v.ph (if v.ph = 0 then -1 else nI v.who) (n' + 1) (nI (hv_c v 3 v.flats)) (nI (hv_c v 1 v.flats)) (nI (hv_c v 2 v.flats)) (nI v.flats) M := e
  rw [e', L_L_hasPhone_23.eq_2, s_0 c ho, hp_b_some, if_pos (nI_le (Nat.le_refl _) (by omega))]
  have no3 : v.ph ≠ 2 → hv_c v 3 v.flats = 0 := fun hp => ct_0 (fun f hf => decide_eq_false (fun q => hp (ok_sp2 ho f hf q).1))
  by_cases h0 : v.ph = 0
  · obtain ⟨-, -, -, q4⟩ := ok_p0 ho h0
    rw [if_pos h0, no3 (by rw [h0]; decide), if_pos nI_0, if_pos h0, if_pos rfl, s_6 c ho, hp_b_some, if_pos q4]
    exact p_350 c h
  · rw [if_neg h0, if_neg h0]
    by_cases h1 : v.ph = 1
    · obtain ⟨q1, q2, -⟩ := ok_he ho h1
      have e2 : F_X8_flat (nI v.who) 2 M = some (v.num v.who 2, M) := l_n c ho (ok_wh ho h0) 2 (by decide) (by decide) (by decide)
      rw [if_pos h1, no3 (by rw [h1]; decide), if_pos nI_0, e2, hp_b_some, if_pos q1, s_6 c ho, hp_b_some, if_pos q2]
      exact p_350 c h
    · have h2 : v.ph = 2 := by
        rcases ok_ph ho with q | q | q
        · exact absurd q h0
        · exact absurd q h1
        · exact q
      have one : hv_c v 3 v.flats = 1 := ct_1 (w := v.who) (ok_wh ho h0) (decide_eq_true (ok_sp ho h2)) (fun f hf hne => decide_eq_false (fun q => hne (ok_sp2 ho f hf q).2.symm))
      rw [if_neg h1, one, if_pos (show nI 1 = 1 from rfl)]
      exact p_350 c h
end PHONE
