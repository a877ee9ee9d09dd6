/-! ===== the reports of both ===== -/
theorem nI_nz {x : Int32} {N : Nat} (hN : N < 2 ^ 31) (h0 : 0 ≤ x) (h : x ≤ nI N) : x = nI x.toNatClampNeg ∧ x.toNatClampNeg ≤ N := by
  obtain ⟨j, hj1, hj2⟩ := nI_of (x := x) (by grind)
  rw [hj2, nI_clamp hj1]
  refine ⟨rfl, ?_⟩
  rw [hj2] at h
  exact (nI_leI hj1 hN).mp h
theorem hv_pl_in {f : Nat} : ∀ (l : List Nat) (i : Nat), f ∈ l → ∃ k : Nat, hv_pl l f i = nI (i + k) ∧ k < l.length := by
  intro l
  induction l with
  | nil => exact fun i h => absurd h (by simp)
  | cons x xs ih =>
    intro i h
    show ∃ k : Nat, (if x = f then nI i else hv_pl xs f (i + 1)) = nI (i + k) ∧ _
    by_cases q : x = f
    · rw [if_pos q]; exact ⟨0, rfl, by simp⟩
    · rw [if_neg q]
      have hm : f ∈ xs := by
        rcases List.mem_cons.mp h with e | e
        · exact absurd e.symm q
        · exact e
      obtain ⟨k, h1, h2⟩ := ih (i + 1) hm
      exact ⟨k + 1, by rw [h1]; congr 1; omega, by simp only [List.length_cons]; omega⟩
section REP3
variable {M : hp_M} {v : HV} {r : List Int32}
theorem hv_dn_99 {n : Nat} (h : n ≤ 99) : hv_dn n ≤ 2 := by
  unfold hv_dn
  repeat' split
  all_goals omega
theorem hv_dn_9 {n : Nat} (h : n ≤ 9) : hv_dn n = 1 := by
  unfold hv_dn
  rw [if_pos (by omega)]
/-- the numbers that the report has of a flat -/
theorem st_num (h : hv_ok v) {f : Nat} (hf : f < v.flats) : (v.num f 2 = 1 → v.num f 3 = nI (v.num f 3).toNatClampNeg ∧ (v.num f 3).toNatClampNeg ≤ 99) ∧ (v.num f 2 = 2 → hv_pl v.queue f 0 = nI (hv_pl v.queue f 0).toNatClampNeg ∧ (hv_pl v.queue f 0).toNatClampNeg ≤ 99) ∧ (v.left = nI v.left.toNatClampNeg ∧ v.left.toNatClampNeg ≤ 99) := by
  have h99 : nI 99 = 99 := rfl
  refine ⟨fun q => ?_, fun q => ?_, ?_⟩
  · have := ok_sts h f hf q
    exact nI_nz (by decide) (by grind) (by rw [h99]; grind)
  · obtain ⟨k, h1, h2⟩ := hv_pl_in v.queue 0 (ok_qall h f hf q)
    have h3 := hv_len (n := v.flats) (l := v.queue) (ok_qnd h) (fun x hx => (ok_qin h x hx).1)
    have h4 := ok_fl h
    rw [h1, nI_clamp (by omega)]
    exact ⟨rfl, by omega⟩
  · have := ok_le h
    exact nI_nz (by decide) this.1 (by rw [h99]; exact this.2)
theorem st_len (h : hv_ok v) {f : Nat} (hf : f < v.flats) : (hv_st v f).length ≤ 3 := by
  obtain ⟨h1, h2, h3⟩ := st_num h hf
  have key : ∀ n : Nat, n ≤ 99 → (hv_dg 12 n).length ≤ 2 := fun n hn => by rw [hv_dg_len 12 n (by omega) (by have := hv_dn_99 hn; omega)]; exact hv_dn_99 hn
  unfold hv_st
  split
  · simp
  · split
    · rename_i q
      rw [List.length_append]
      have := key _ (h1 q).2
      simp only [List.length_cons, List.length_nil]
      omega
    · split
      · rename_i q
        rw [List.length_append]
        have := key _ (h2 q).2
        simp only [List.length_cons, List.length_nil]
        omega
      · rw [List.length_append]
        have := key _ h3.2
        simp only [List.length_cons, List.length_nil]
        omega
theorem x8_st (c : CRep (M 0) v) (h : hv_ok v) {f : Nat} {a0 : Int32} (e0 : a0 = nI f) (hf : f < v.flats) (hr : SB r M) (hl : r.length + 3 ≤ 79) : ∃ M', F_X8_writeState a0 M = some ((), M') ∧ SB (r ++ hv_st v f) M' ∧ ∀ g j i : Nat, g ≠ 14 → M' g j i = M g j i := by
  have h10 : f < 10 := Nat.lt_of_lt_of_le hf (ok_fl h)
  obtain ⟨n1, n2, n3⟩ := st_num h hf
  have two : ∀ (ch : Nat) (a1 : Int32) (x : Int32), a1 = nI ch → ch < 128 → x = nI x.toNatClampNeg → x.toNatClampNeg ≤ 99 → ∃ M1 M', F_J4_append_cf468 a1 M = some ((), M1) ∧ (∀ g j i : Nat, g ≠ 14 → M1 g j i = M g j i) ∧ F_J4_append_bf812 x M1 = some ((), M') ∧ SB (r ++ ([nI ch] ++ hv_dg 12 x.toNatClampNeg)) M' ∧ ∀ g j i : Nat, g ≠ 14 → M' g j i = M g j i := by
    intro ch a1 x e1 hch hx hx2
    obtain ⟨M1, b1, b2, b3⟩ := x_ch hr e1 hch (by omega)
    obtain ⟨M2, d1, d2, d3⟩ := x_nm b2 hx (by omega) (by have := hv_dn_99 hx2; rw [List.length_append]; simp only [List.length_cons, List.length_nil]; omega)
    rw [List.append_assoc] at d2
    exact ⟨M1, M2, b1, b3, d1, d2, fun g j i hg => (d3 g j i hg).trans (b3 g j i hg)⟩
  have cc : ∀ M1 : hp_M, (∀ g j i : Nat, g ≠ 14 → M1 g j i = M g j i) → CRep (M1 0) v := fun M1 hM => c.same (fun j i => hM 0 j i (by decide))
  unfold F_X8_writeState hv_st
  rw [x2_g2 c e0 h10, hp_b_some]
  rcases ok_st h f hf with q | q | q | q
  · rw [if_pos q, if_pos q]
    obtain ⟨M1, b1, b2, b3⟩ := x_ch hr (c := 46) (a0 := 46) rfl (by omega) (by omega)
    rw [b1, hp_b_some]
    exact ⟨M1, rfl, b2, b3⟩
  · obtain ⟨M1, M2, b1, b2, b3, b4, b5⟩ := two 60 60 (v.num f 3) rfl (by omega) (n1 q).1 (n1 q).2
    rw [if_neg (by rw [q]; decide), if_pos q, if_neg (by rw [q]; decide), if_pos q, b1, hp_b_some, x2_g3 (cc M1 b2) e0 h10, hp_b_some, b3, hp_b_some]
    exact ⟨M2, rfl, b4, b5⟩
  · obtain ⟨M1, M2, b1, b2, b3, b4, b5⟩ := two 35 35 (hv_pl v.queue f 0) rfl (by omega) (n2 q).1 (n2 q).2
    rw [if_neg (by rw [q]; decide), if_neg (by rw [q]; decide), if_pos q, if_neg (by rw [q]; decide), if_neg (by rw [q]; decide), if_pos q, b1, hp_b_some, x4_place (cc M1 b2) (ok_q10 h) e0 h10, hp_b_some, b3, hp_b_some]
    exact ⟨M2, rfl, b4, b5⟩
  · obtain ⟨M1, M2, b1, b2, b3, b4, b5⟩ := two 33 33 v.left rfl (by omega) n3.1 n3.2
    rw [if_neg (by rw [q]; decide), if_neg (by rw [q]; decide), if_neg (by rw [q]; decide), if_neg (by rw [q]; decide), if_neg (by rw [q]; decide), if_neg (by rw [q]; decide), b1, hp_b_some, (cc M1 b2).le, b3, hp_b_some]
    exact ⟨M2, rfl, b4, b5⟩
theorem r_st (c : RRep (M 13 1) v) (h : hv_ok v) {f : Nat} {a0 : Int32} (e0 : a0 = nI f) (hf : f < v.flats) (hr : SR r M) (hl : r.length + 4 ≤ 79) : ∃ M', F_X9_writeFlat a0 M = some ((), M') ∧ SR (r ++ hv_dg 12 f ++ hv_st v f) M' ∧ ∀ g j i : Nat, ¬ (g = 13 ∧ (j = 8 ∨ (j = 0 ∧ i = 12))) → M' g j i = M g j i := by
  have h10 : f < 10 := Nat.lt_of_lt_of_le hf (ok_fl h)
  obtain ⟨n1, n2, n3⟩ := st_num h hf
  have hd9 := hv_dn_9 (n := f) (by omega)
  obtain ⟨M0, z1, z2, z3⟩ := r_nm hr e0 (by omega) (by omega)
  have hl0 : (r ++ hv_dg 12 f).length = r.length + 1 := by rw [List.length_append, hv_dg_len 12 f (by omega) (by omega), hd9]
  have cc : ∀ M1 : hp_M, (∀ g j i : Nat, ¬ (g = 13 ∧ (j = 8 ∨ (j = 0 ∧ i = 12))) → M1 g j i = M g j i) → RRep (M1 13 1) v := fun M1 hM => c.row (fun i _ => hM 13 1 i (by omega))
  have two : ∀ (ch : Nat) (a1 : Int32) (x : Int32), a1 = nI ch → ch < 128 → x = nI x.toNatClampNeg → x.toNatClampNeg ≤ 99 → ∃ M1 M', F_X9_write a1 M0 = some ((), M1) ∧ (∀ g j i : Nat, ¬ (g = 13 ∧ (j = 8 ∨ (j = 0 ∧ i = 12))) → M1 g j i = M g j i) ∧ F_X9_writeNumber x M1 = some ((), M') ∧ SR (r ++ hv_dg 12 f ++ ([nI ch] ++ hv_dg 12 x.toNatClampNeg)) M' ∧ ∀ g j i : Nat, ¬ (g = 13 ∧ (j = 8 ∨ (j = 0 ∧ i = 12))) → M' g j i = M g j i := by
    intro ch a1 x e1 hch hx hx2
    obtain ⟨M1, b1, b2, b3⟩ := r_ch z2 e1 hch (by rw [hl0]; omega)
    obtain ⟨M2, d1, d2, d3⟩ := r_nm b2 hx (by omega) (by have := hv_dn_99 hx2; rw [List.length_append, hl0]; simp only [List.length_cons, List.length_nil]; omega)
    rw [List.append_assoc (r ++ hv_dg 12 f)] at d2
    exact ⟨M1, M2, b1, fun g j i hg => (b3 g j i hg).trans (z3 g j i hg), d1, d2, fun g j i hg => (d3 g j i hg).trans ((b3 g j i hg).trans (z3 g j i hg))⟩
  unfold F_X9_writeFlat hv_st
  rw [z1, hp_b_some, r_g2 (cc M0 z3) e0 h10, hp_b_some]
  rcases ok_st h f hf with q | q | q | q
  · rw [if_pos q, if_pos q]
    obtain ⟨M1, b1, b2, b3⟩ := r_ch z2 (c := 46) (a0 := 46) rfl (by omega) (by rw [hl0]; omega)
    rw [b1, hp_b_some]
    exact ⟨M1, rfl, b2, fun g j i hg => (b3 g j i hg).trans (z3 g j i hg)⟩
  · obtain ⟨M1, M2, b1, b2, b3, b4, b5⟩ := two 60 60 (v.num f 3) rfl (by omega) (n1 q).1 (n1 q).2
    rw [if_neg (by rw [q]; decide), if_pos q, if_neg (by rw [q]; decide), if_pos q, b1, hp_b_some, r_g3 (cc M1 b2) e0 h10, hp_b_some, b3, hp_b_some]
    exact ⟨M2, rfl, b4, b5⟩
  · obtain ⟨M1, M2, b1, b2, b3, b4, b5⟩ := two 35 35 (hv_pl v.queue f 0) rfl (by omega) (n2 q).1 (n2 q).2
    rw [if_neg (by rw [q]; decide), if_neg (by rw [q]; decide), if_pos q, if_neg (by rw [q]; decide), if_neg (by rw [q]; decide), if_pos q, b1, hp_b_some, r_place (cc M1 b2) (ok_q10 h) e0 h10, hp_b_some, b3, hp_b_some]
    exact ⟨M2, rfl, b4, b5⟩
  · obtain ⟨M1, M2, b1, b2, b3, b4, b5⟩ := two 33 33 v.left rfl (by omega) n3.1 n3.2
    rw [if_neg (by rw [q]; decide), if_neg (by rw [q]; decide), if_neg (by rw [q]; decide), if_neg (by rw [q]; decide), if_neg (by rw [q]; decide), if_neg (by rw [q]; decide), b1, hp_b_some, (cc M1 b2).le, b3, hp_b_some]
    exact ⟨M2, rfl, b4, b5⟩
theorem wh_len (h : hv_ok v) : ∀ n : Nat, n ≤ v.flats → (hv_wh v n).length ≤ 5 * n := by
  intro n
  induction n with
  | zero => exact fun _ => Nat.le_refl _
  | succ n ih =>
    intro hn
    have h10 := ok_fl h
    have e : hv_wh v (n + 1) = hv_wh v n ++ (if n = 0 then [] else [nI 32]) ++ hv_dg 12 n ++ hv_st v n := rfl
    have h1 := ih (by omega)
    have h2 : (if n = 0 then ([] : List Int32) else [nI 32]).length ≤ 1 := by split <;> simp
    have h3 : (hv_dg 12 n).length = 1 := by rw [hv_dg_len 12 n (by omega) (by rw [hv_dn_9 (by omega)]; omega), hv_dn_9 (by omega)]
    have h4 := st_len h (f := n) (by omega)
    rw [e, List.length_append, List.length_append, List.length_append]
    omega
theorem x8_wh (c : CRep (M 0) v) (h : hv_ok v) (hr : SB r M) (hl : r.length ≤ 79) : ∃ M', F_X8_writeHouse M = some (nI (hv_wh v v.flats).length, M') ∧ SB (hv_wh v v.flats) M' ∧ ∀ g j i : Nat, g ≠ 14 → M' g j i = M g j i := by
  have h10 := c.fl10
  unfold F_X8_writeHouse
  obtain ⟨M1, a1, a2, a3⟩ := x_new hr hl
  rw [a1, hp_b_some]
  obtain ⟨n', M', e, k1, k2⟩ := hp_runs (T := fun n i M1 => L_X8_writeHouse_10 n (nI i) M1) (I := fun i M1 => SB (hv_wh v i) M1 ∧ ∀ g j i : Nat, g ≠ 14 → M1 g j i = M g j i) (N := v.flats) (fun n i M1 hi hM => by
    show ∃ M2, L_X8_writeHouse_10 (n + 1) (nI i) M1 = L_X8_writeHouse_10 n (nI (i + 1)) M2 ∧ SB (hv_wh v i ++ (if i = 0 then [] else [nI 32]) ++ hv_dg 12 i ++ hv_st v i) M2 ∧ _
    have hlen := wh_len h i (by omega)
    have hd9 := hv_dn_9 (n := i) (by omega)
    have c1 : CRep (M1 0) v := c.same (fun j i => hM.2 0 j i (by decide))
    rw [L_X8_writeHouse_10.eq_2, c1.fl, if_neg (nI_ge hi (by omega)), nI_1]
    have hdl := hv_dg_len 12 i (by omega) (by omega)
    by_cases h0 : i = 0
    · rw [if_pos (show nI i ≤ 0 by rw [h0, nI_0]; decide), if_pos h0, List.append_nil]
      obtain ⟨M2, b1, b2, b3⟩ := x_nm (n := i) (a0 := nI i) hM.1 rfl (by omega) (by omega)
      have c2 : CRep (M2 0) v := c1.same (fun j i => b3 0 j i (by decide))
      obtain ⟨M3, d1, d2, d3⟩ := x8_st c2 h (f := i) (a0 := nI i) rfl hi b2 (by rw [List.length_append, hdl]; omega)
      rw [b1, hp_b_some, d1, hp_b_some]
      exact ⟨M3, rfl, d2, fun g j k hg => (d3 g j k hg).trans ((b3 g j k hg).trans (hM.2 g j k hg))⟩
    · rw [if_neg (nI_nle (by omega) (by omega)), if_neg h0]
      obtain ⟨M0, z1, z2, z3⟩ := x_ch hM.1 (c := 32) (a0 := 32) rfl (by omega) (by omega)
      obtain ⟨M2, b1, b2, b3⟩ := x_nm (n := i) (a0 := nI i) z2 rfl (by omega) (by rw [List.length_append]; simp only [List.length_cons, List.length_nil]; omega)
      have c2 : CRep (M2 0) v := c1.same (fun j i => (b3 0 j i (by decide)).trans (z3 0 j i (by decide)))
      obtain ⟨M3, d1, d2, d3⟩ := x8_st c2 h (f := i) (a0 := nI i) rfl hi b2 (by rw [List.length_append, List.length_append, hdl]; simp only [List.length_cons, List.length_nil]; omega)
      rw [z1, hp_b_some, b1, hp_b_some, d1, hp_b_some]
      exact ⟨M3, rfl, d2, fun g j k hg => (d3 g j k hg).trans ((b3 g j k hg).trans ((z3 g j k hg).trans (hM.2 g j k hg)))⟩) 11 M1 (by omega) ⟨a2, a3⟩
  have c1 : CRep (M' 0) v := c.same (fun j i => k2 0 j i (by decide))
  refine ⟨M', Eq.trans e ?_, k1, k2⟩
  show L_X8_writeHouse_10 (n' + 1) (nI v.flats) M' = _
  rw [L_X8_writeHouse_10.eq_2, c1.fl, if_pos (nI_le (Nat.le_refl _) (by omega)), x_len k1, hp_b_some]
theorem r_wh (c : RRep (M 13 1) v) (h : hv_ok v) (hr : SR [] M) : ∃ M', L_X9_writeHouse_12 hp_fu 0 M = some (nI (hv_wh v v.flats).length, M') ∧ SR (hv_wh v v.flats) M' ∧ ∀ g j i : Nat, ¬ (g = 13 ∧ (j = 8 ∨ (j = 0 ∧ i = 12))) → M' g j i = M g j i := by
  have h10 := c.fl10
  obtain ⟨n', M', e, k1, k2⟩ := hp_runs (T := fun n i M1 => L_X9_writeHouse_12 n (nI i) M1) (I := fun i M1 => SR (hv_wh v i) M1 ∧ ∀ g j i : Nat, ¬ (g = 13 ∧ (j = 8 ∨ (j = 0 ∧ i = 12))) → M1 g j i = M g j i) (N := v.flats) (fun n i M1 hi hM => by
    show ∃ M2, L_X9_writeHouse_12 (n + 1) (nI i) M1 = L_X9_writeHouse_12 n (nI (i + 1)) M2 ∧ SR (hv_wh v i ++ (if i = 0 then [] else [nI 32]) ++ hv_dg 12 i ++ hv_st v i) M2 ∧ _
    have hlen := wh_len h i (by omega)
    have c1 : RRep (M1 13 1) v := c.row (fun k _ => hM.2 13 1 k (by omega))
    rw [L_X9_writeHouse_12.eq_2, c1.fl, if_neg (nI_ge hi (by omega)), nI_1]
    by_cases h0 : i = 0
    · rw [if_pos (show nI i ≤ 0 by rw [h0, nI_0]; decide), if_pos h0, List.append_nil]
      obtain ⟨M2, b1, b2, b3⟩ := r_st c1 h (f := i) (a0 := nI i) rfl hi hM.1 (by omega)
      rw [b1, hp_b_some]
      exact ⟨M2, rfl, b2, fun g j k hg => (b3 g j k hg).trans (hM.2 g j k hg)⟩
    · rw [if_neg (nI_nle (by omega) (by omega)), if_neg h0]
      obtain ⟨M0, z1, z2, z3⟩ := r_ch hM.1 (c := 32) (a0 := 32) rfl (by omega) (by omega)
      have c2 : RRep (M0 13 1) v := c1.row (fun k _ => z3 13 1 k (by omega))
      obtain ⟨M2, b1, b2, b3⟩ := r_st c2 h (f := i) (a0 := nI i) rfl hi z2 (by rw [List.length_append]; simp only [List.length_cons, List.length_nil]; omega)
      rw [z1, hp_b_some, b1, hp_b_some]
      exact ⟨M2, rfl, b2, fun g j k hg => (b3 g j k hg).trans ((z3 g j k hg).trans (hM.2 g j k hg))⟩) hp_fu M (by unfold hp_fu; omega) ⟨hr, fun _ _ _ _ => rfl⟩
  have c1 : RRep (M' 13 1) v := c.row (fun k _ => k2 13 1 k (by omega))
  refine ⟨M', Eq.trans e ?_, k1, k2⟩
  show L_X9_writeHouse_12 (n' + 1) (nI v.flats) M' = _
  rw [L_X9_writeHouse_12.eq_2, c1.fl, if_pos (nI_le (Nat.le_refl _) (by omega)), k1.1]
/-- a message of the slate, as numbers -/
theorem sl_num {B : Nat} (h : hv_g B v) (hB : B < 10000000) {i : Nat} {x : Nat × Int32} (hx : v.slate[i]? = some x) : (hv_sl v (2 * i)).toNatClampNeg = x.1 ∧ x.1 ≤ 9 ∧ x.2 = nI (hv_sl v (2 * i + 1)).toNatClampNeg ∧ (hv_sl v (2 * i + 1)).toNatClampNeg < 10000000 := by
  obtain ⟨s0, s1⟩ := hv_sl_0 hx
  have hm := List.mem_of_getElem? hx
  have h1 := ok_s10 h.1.1 x hm
  obtain ⟨t, h2, h3⟩ := h.2.2.2.2 x hm
  rw [s0, s1, nI_clamp (by omega), h2, nI_clamp (by omega)]
  exact ⟨rfl, by omega, rfl, by omega⟩
theorem wm_len {B : Nat} (h : hv_g B v) (hB : B < 10000000) : ∀ n : Nat, n ≤ v.slate.length → (hv_wm v n).length + 1 ≤ 10 * n + (if n = 0 then 1 else 0) := by
  intro n
  induction n with
  | zero => exact fun _ => Nat.le_refl _
  | succ n ih =>
    intro hn
    obtain ⟨x, hx⟩ : ∃ x, v.slate[n]? = some x := ⟨_, List.getElem?_eq_getElem (by omega)⟩
    obtain ⟨s1, s2, s3, s4⟩ := sl_num h hB hx
    have e : hv_wm v (n + 1) = hv_wm v n ++ (if n = 0 then [] else [nI 32]) ++ hv_dg 12 (hv_sl v (2 * n)).toNatClampNeg ++ [nI 64] ++ hv_dg 12 (hv_sl v (2 * n + 1)).toNatClampNeg := rfl
    have h1 := ih (by omega)
    have h3 : (hv_dg 12 (hv_sl v (2 * n)).toNatClampNeg).length = 1 := by rw [s1, hv_dg_len 12 _ (by omega) (by rw [hv_dn_9 s2]; omega), hv_dn_9 s2]
    have hd := hv_dn_le (hv_sl v (2 * n + 1)).toNatClampNeg
    have h4 : (hv_dg 12 (hv_sl v (2 * n + 1)).toNatClampNeg).length ≤ 7 := by rw [hv_dg_len 12 _ s4 (by omega)]; omega
    rw [e, List.length_append, List.length_append, List.length_append, List.length_append]
    simp only [List.length_cons, List.length_nil]
    by_cases h0 : n = 0
    · subst h0
      rw [if_pos rfl] at h1 ⊢
      have : (if 0 + 1 = 0 then 1 else 0) = 0 := rfl
      simp only [List.length_nil]
      omega
    · rw [if_neg h0] at h1 ⊢
      rw [if_neg (by omega)]
      simp only [List.length_cons, List.length_nil]
      omega
theorem x8_ws {B : Nat} (c : CRep (M 0) v) (h : hv_g B v) (hB : B < 10000000) (hr : SB r M) (hl : r.length ≤ 79) : ∃ M', F_X8_writeSlate M = some (nI (hv_ws v).length, M') ∧ SB (hv_ws v) M' ∧ ∀ g j i : Nat, g ≠ 14 → M' g j i = M g j i := by
  have h8 := c.s8
  unfold F_X8_writeSlate
  obtain ⟨M1, a1, a2, a3⟩ := x_new hr hl
  rw [a1, hp_b_some]
  obtain ⟨n', M', e, k1, k2⟩ := hp_runs (T := fun n i M1 => L_X8_writeSlate_10 n (nI i) M1) (I := fun i M1 => SB (hv_wm v i) M1 ∧ ∀ g j i : Nat, g ≠ 14 → M1 g j i = M g j i) (N := v.slate.length) (fun n i M1 hi hM => by
    show ∃ M2, L_X8_writeSlate_10 (n + 1) (nI i) M1 = L_X8_writeSlate_10 n (nI (i + 1)) M2 ∧ SB (hv_wm v i ++ (if i = 0 then [] else [nI 32]) ++ hv_dg 12 (hv_sl v (2 * i)).toNatClampNeg ++ [nI 64] ++ hv_dg 12 (hv_sl v (2 * i + 1)).toNatClampNeg) M2 ∧ _
    obtain ⟨x, hx⟩ : ∃ x, v.slate[i]? = some x := ⟨_, List.getElem?_eq_getElem hi⟩
    obtain ⟨s1, s2, s3, s4⟩ := sl_num h hB hx
    have hlen := wm_len h hB i (by omega)
    have hd := hv_dn_le (hv_sl v (2 * i + 1)).toNatClampNeg
    have hd9 := hv_dn_9 s2
    have hdl := hv_dg_len 12 x.1 (by omega) (by omega)
    have cc : ∀ M2 : hp_M, (∀ g j i : Nat, g ≠ 14 → M2 g j i = M1 g j i) → CRep (M2 0) v := fun M2 hM2 => c.same (fun j i => (hM2 0 j i (by decide)).trans (hM.2 0 j i (by decide)))
    have c1 := cc M1 (fun _ _ _ _ => rfl)
    rw [L_X8_writeSlate_10.eq_2, c1.sl, if_neg (nI_ge hi (by omega)), nI_1, s1]
    by_cases h0 : i = 0
    · rw [if_pos h0] at hlen
      rw [if_pos (show nI i ≤ 0 by rw [h0, nI_0]; decide), if_pos h0, List.append_nil, x6_flatAt c1 rfl hx, hp_b_some]
      obtain ⟨M2, b1, b2, b3⟩ := x_nm (n := x.1) (a0 := nI x.1) hM.1 rfl (by omega) (by omega)
      obtain ⟨M3, d1, d2, d3⟩ := x_ch b2 (c := 64) (a0 := 64) rfl (by omega) (by rw [List.length_append, hdl]; omega)
      have f3 : ∀ g j i : Nat, g ≠ 14 → M3 g j i = M1 g j i := fun g j k hg => (d3 g j k hg).trans (b3 g j k hg)
      obtain ⟨M4, g1, g2, g3⟩ := x_nm d2 s3 s4 (by rw [List.length_append, List.length_append, hdl]; simp only [List.length_cons, List.length_nil]; omega)
      rw [b1, hp_b_some, d1, hp_b_some, x6_minuteAt (cc M3 f3) rfl hx, hp_b_some, g1, hp_b_some]
      exact ⟨M4, rfl, g2, fun g j k hg => (g3 g j k hg).trans ((f3 g j k hg).trans (hM.2 g j k hg))⟩
    · rw [if_neg h0] at hlen
      rw [if_neg (nI_nle (by omega) (by omega)), if_neg h0]
      obtain ⟨M0, z1, z2, z3⟩ := x_ch hM.1 (c := 32) (a0 := 32) rfl (by omega) (by omega)
      obtain ⟨M2, b1, b2, b3⟩ := x_nm (n := x.1) (a0 := nI x.1) z2 rfl (by omega) (by rw [List.length_append]; simp only [List.length_cons, List.length_nil]; omega)
      obtain ⟨M3, d1, d2, d3⟩ := x_ch b2 (c := 64) (a0 := 64) rfl (by omega) (by rw [List.length_append, List.length_append, hdl]; simp only [List.length_cons, List.length_nil]; omega)
      have f3 : ∀ g j i : Nat, g ≠ 14 → M3 g j i = M1 g j i := fun g j k hg => (d3 g j k hg).trans ((b3 g j k hg).trans (z3 g j k hg))
      obtain ⟨M4, g1, g2, g3⟩ := x_nm d2 s3 s4 (by rw [List.length_append, List.length_append, List.length_append, hdl]; simp only [List.length_cons, List.length_nil]; omega)
      rw [z1, hp_b_some, x6_flatAt (cc M0 z3) rfl hx, hp_b_some, b1, hp_b_some, d1, hp_b_some, x6_minuteAt (cc M3 f3) rfl hx, hp_b_some, g1, hp_b_some]
      exact ⟨M4, rfl, g2, fun g j k hg => (g3 g j k hg).trans ((f3 g j k hg).trans (hM.2 g j k hg))⟩) 9 M1 (by omega) ⟨a2, a3⟩
  have c1 : CRep (M' 0) v := c.same (fun j i => k2 0 j i (by decide))
  have hlen := wm_len h hB v.slate.length (Nat.le_refl _)
  have key : ∃ M'', L_X8_writeSlate_10 (n' + 1) (nI v.slate.length) M' = some (nI (hv_ws v).length, M'') ∧ SB (hv_ws v) M'' ∧ ∀ g j i : Nat, g ≠ 14 → M'' g j i = M g j i := by
    rw [L_X8_writeSlate_10.eq_2, c1.sl, if_pos (nI_le (Nat.le_refl _) (by omega)), x_len k1, hp_b_some]
    unfold hv_ws
    by_cases h0 : v.slate.length = 0
    · have e0 : hv_wm v v.slate.length = [] := by rw [h0]; rfl
      rw [e0] at k1 ⊢
      obtain ⟨M2, b1, b2, b3⟩ := x_ch k1 (c := 45) (a0 := 45) rfl (by omega) (by simp)
      rw [if_pos h0, if_pos (show nI ([] : List Int32).length = 0 from nI_0), b1, hp_b_some, x_len b2, hp_b_some]
      exact ⟨M2, rfl, b2, fun g j k hg => (b3 g j k hg).trans (k2 g j k hg)⟩
    · obtain ⟨m, hm⟩ : ∃ m, v.slate.length = m + 1 := ⟨v.slate.length - 1, by omega⟩
      have hpos : 0 < (hv_wm v v.slate.length).length := by
        rw [hm]
        show 0 < (hv_wm v m ++ _ ++ _ ++ [nI 64] ++ _).length
        rw [List.length_append, List.length_append]
        simp only [List.length_cons, List.length_nil]
        omega
      rw [if_neg h0] at hlen
      rw [if_neg h0, if_neg (nI_ne0 hpos (by omega)), x_len k1, hp_b_some]
      exact ⟨M', rfl, k1, k2⟩
  obtain ⟨M'', q1, q2, q3⟩ := key
  exact ⟨M'', Eq.trans e q1, q2, q3⟩
theorem r_ws {B : Nat} (c : RRep (M 13 1) v) (h : hv_g B v) (hB : B < 10000000) (hr : SR [] M) : ∃ M', L_X9_writeSlate_12 hp_fu 0 M = some (nI (hv_ws v).length, M') ∧ SR (hv_ws v) M' ∧ ∀ g j i : Nat, ¬ (g = 13 ∧ (j = 8 ∨ (j = 0 ∧ i = 12))) → M' g j i = M g j i := by
  have h8 := c.s8
  obtain ⟨n', M', e, k1, k2⟩ := hp_runs (T := fun n i M1 => L_X9_writeSlate_12 n (nI i) M1) (I := fun i M1 => SR (hv_wm v i) M1 ∧ ∀ g j i : Nat, ¬ (g = 13 ∧ (j = 8 ∨ (j = 0 ∧ i = 12))) → M1 g j i = M g j i) (N := v.slate.length) (fun n i M1 hi hM => by
    show ∃ M2, L_X9_writeSlate_12 (n + 1) (nI i) M1 = L_X9_writeSlate_12 n (nI (i + 1)) M2 ∧ SR (hv_wm v i ++ (if i = 0 then [] else [nI 32]) ++ hv_dg 12 (hv_sl v (2 * i)).toNatClampNeg ++ [nI 64] ++ hv_dg 12 (hv_sl v (2 * i + 1)).toNatClampNeg) M2 ∧ _
    obtain ⟨x, hx⟩ : ∃ x, v.slate[i]? = some x := ⟨_, List.getElem?_eq_getElem hi⟩
    obtain ⟨s1, s2, s3, s4⟩ := sl_num h hB hx
    have hlen := wm_len h hB i (by omega)
    have hd := hv_dn_le (hv_sl v (2 * i + 1)).toNatClampNeg
    have hd9 := hv_dn_9 s2
    have hdl := hv_dg_len 12 x.1 (by omega) (by omega)
    have cc : ∀ M2 : hp_M, (∀ g j i : Nat, ¬ (g = 13 ∧ (j = 8 ∨ (j = 0 ∧ i = 12))) → M2 g j i = M1 g j i) → RRep (M2 13 1) v := fun M2 hM2 => c.row (fun k _ => (hM2 13 1 k (by omega)).trans (hM.2 13 1 k (by omega)))
    have c1 := cc M1 (fun _ _ _ _ => rfl)
    have i14 : (14 : Int32) + (2 : Int32) * nI i = nI (14 + 2 * i) := by rw [show (14 : Int32) = nI 14 from rfl, show (2 : Int32) = nI 2 from rfl, nI_mul, nI_add]
    have i15 : nI (14 + 2 * i) + (1 : Int32) = nI (15 + 2 * i) := by rw [nI_1]; congr 1; omega
    -- flat, at sign and minute
    have tail : ∀ (M2 : hp_M) (r2 : List Int32), (∀ g j i : Nat, ¬ (g = 13 ∧ (j = 8 ∨ (j = 0 ∧ i = 12))) → M2 g j i = M1 g j i) → SR r2 M2 → r2.length + 9 ≤ 79 → ∃ M3, A_X9_writeSlate_33 (L_X9_writeSlate_12 n) (nI i) M2 = L_X9_writeSlate_12 n (nI (i + 1)) M3 ∧ SR (r2 ++ hv_dg 12 x.1 ++ [nI 64] ++ hv_dg 12 (hv_sl v (2 * i + 1)).toNatClampNeg) M3 ∧ ∀ g j i : Nat, ¬ (g = 13 ∧ (j = 8 ∨ (j = 0 ∧ i = 12))) → M3 g j i = M1 g j i := by
      intro M2 r2 hM2 hr2 hl2
      have c2 := cc M2 hM2
      unfold A_X9_writeSlate_33
      obtain ⟨M3, b1, b2, b3⟩ := r_nm (n := x.1) (a0 := nI x.1) hr2 rfl (by omega) (by omega)
      obtain ⟨M4, d1, d2, d3⟩ := r_ch b2 (c := 64) (a0 := 64) rfl (by omega) (by rw [List.length_append, hdl]; omega)
      have f4 : ∀ g j i : Nat, ¬ (g = 13 ∧ (j = 8 ∨ (j = 0 ∧ i = 12))) → M4 g j i = M1 g j i := fun g j k hg => (d3 g j k hg).trans ((b3 g j k hg).trans (hM2 g j k hg))
      obtain ⟨M5, g1, g2, g3⟩ := r_nm d2 s3 s4 (by rw [List.length_append, List.length_append, hdl]; simp only [List.length_cons, List.length_nil]; omega)
      rw [i14, i15, if_neg (nI_in (by omega) (by decide)), nI_clamp (show 14 + 2 * i < 2 ^ 31 by omega), (c2.sf i x hx).1, b1, hp_b_some, d1, hp_b_some, if_neg (nI_in (by omega) (by decide)), nI_clamp (show 15 + 2 * i < 2 ^ 31 by omega), ((cc M4 f4).sf i x hx).2, g1, hp_b_some, nI_1]
      exact ⟨M5, rfl, g2, fun g j k hg => (g3 g j k hg).trans (f4 g j k hg)⟩
    rw [L_X9_writeSlate_12.eq_2, c1.sl, if_neg (nI_ge hi (by omega)), s1]
    by_cases h0 : i = 0
    · rw [if_pos h0] at hlen
      rw [if_pos (show nI i ≤ 0 by rw [h0, nI_0]; decide), if_pos h0, List.append_nil]
      obtain ⟨M3, b1, b2, b3⟩ := tail M1 (hv_wm v i) (fun _ _ _ _ => rfl) hM.1 (by omega)
      exact ⟨M3, b1, b2, fun g j k hg => (b3 g j k hg).trans (hM.2 g j k hg)⟩
    · rw [if_neg h0] at hlen
      rw [if_neg (nI_nle (by omega) (by omega)), if_neg h0]
      obtain ⟨M0, z1, z2, z3⟩ := r_ch hM.1 (c := 32) (a0 := 32) rfl (by omega) (by omega)
      obtain ⟨M3, b1, b2, b3⟩ := tail M0 _ z3 z2 (by rw [List.length_append]; simp only [List.length_cons, List.length_nil]; omega)
      rw [z1, hp_b_some]
      exact ⟨M3, b1, b2, fun g j k hg => (b3 g j k hg).trans (hM.2 g j k hg)⟩) hp_fu M (by unfold hp_fu; omega) ⟨hr, fun _ _ _ _ => rfl⟩
  have c1 : RRep (M' 13 1) v := c.row (fun k _ => k2 13 1 k (by omega))
  have hlen := wm_len h hB v.slate.length (Nat.le_refl _)
  have key : ∃ M'', L_X9_writeSlate_12 (n' + 1) (nI v.slate.length) M' = some (nI (hv_ws v).length, M'') ∧ SR (hv_ws v) M'' ∧ ∀ g j i : Nat, ¬ (g = 13 ∧ (j = 8 ∨ (j = 0 ∧ i = 12))) → M'' g j i = M g j i := by
    rw [L_X9_writeSlate_12.eq_2, c1.sl, if_pos (nI_le (Nat.le_refl _) (by omega)), k1.1]
    unfold hv_ws
    by_cases h0 : v.slate.length = 0
    · have e0 : hv_wm v v.slate.length = [] := by rw [h0]; rfl
      rw [e0] at k1 ⊢
      obtain ⟨M2, b1, b2, b3⟩ := r_ch k1 (c := 45) (a0 := 45) rfl (by omega) (by simp)
      rw [if_pos h0, if_pos (show nI ([] : List Int32).length = 0 from nI_0), b1, hp_b_some, b2.1]
      exact ⟨M2, rfl, b2, fun g j k hg => (b3 g j k hg).trans (k2 g j k hg)⟩
    · obtain ⟨m, hm⟩ : ∃ m, v.slate.length = m + 1 := ⟨v.slate.length - 1, by omega⟩
      have hpos : 0 < (hv_wm v v.slate.length).length := by
        rw [hm]
        show 0 < (hv_wm v m ++ _ ++ _ ++ [nI 64] ++ _).length
        rw [List.length_append, List.length_append]
        simp only [List.length_cons, List.length_nil]
        omega
      rw [if_neg h0] at hlen
      rw [if_neg h0, if_neg (nI_ne0 hpos (by omega))]
      exact ⟨M', rfl, k1, k2⟩
  obtain ⟨M'', q1, q2, q3⟩ := key
  exact ⟨M'', Eq.trans e q1, q2, q3⟩
theorem ws_len {B : Nat} (h : hv_g B v) (hB : B < 10000000) : (hv_ws v).length ≤ 79 := by
  have hlen := wm_len h hB v.slate.length (Nat.le_refl _)
  have h8 := ok_s8 h.1.1
  unfold hv_ws
  split
  · simp
  · rename_i q
    rw [if_neg q] at hlen
    omega
end REP3
