/-! ===== the reference does a text ===== -/
section RLOOP
variable {T : Nat → Int32} {L : Nat} {M : hp_M} {d : HV} {B : Nat}
theorem tk_is_s {p j : Nat} (hj : j < 12) : tk_is T L p (48 + j) ↔ tk_is T L p (30 + j) := by
  have e : hp_tx (30 + j) = hp_tx (48 + j) := by
    have := hp_tx_same (2 + j) (by omega)
    rw [show 28 + (2 + j) = 30 + j by omega, show 46 + (2 + j) = 48 + j by omega] at this
    exact this
  unfold tk_is
  rw [e]
theorem r_says0 (hL : L ≤ 700) {p j : Nat} (hp : p ≤ L) (hj : j < 12) (hX : RX T L M) (hT : RT T L p M) (h : ¬ tk_is T L p (30 + j)) : F_X9_says (48 + j) M = some (0, M) := by
  obtain ⟨r, e1, ⟨e2, e3⟩ | ⟨e2, e3⟩⟩ := r_says hL hp (t := 48 + j) (by omega) (by omega) hX hT
  · rw [e1, e2]
  · exact absurd ((tk_is_s hj).mp e3) h
theorem r_says1 (hL : L ≤ 700) {p j : Nat} (hp : p ≤ L) (hj : j < 12) (hX : RX T L M) (hT : RT T L p M) (h : tk_is T L p (30 + j)) : F_X9_says (48 + j) M = some (1, M) := by
  obtain ⟨r, e1, ⟨e2, e3⟩ | ⟨e2, e3⟩⟩ := r_says hL hp (t := 48 + j) (by omega) (by omega) hX hT
  · exact absurd ((tk_is_s hj).mpr h) e3
  · rw [e1, e2]
theorem tk_vb_spec (p : Nat) : ∀ n j : Nat, j + n = 12 → (∀ i : Nat, j ≤ i → i < tk_vb T L p n j → ¬ tk_is T L p (30 + i)) ∧ (tk_vb T L p n j < 12 → tk_is T L p (30 + tk_vb T L p n j)) := by
  intro n
  induction n with
  | zero =>
    intro j h
    exact ⟨fun i h1 h2 => absurd (show i < 12 from h2) (by omega), fun h2 => absurd (show 12 < 12 from h2) (by omega)⟩
  | succ n ih =>
    intro j h
    have e : tk_vb T L p (n + 1) j = if tk_is T L p (30 + j) then j else tk_vb T L p n (j + 1) := rfl
    rw [e]
    by_cases q : tk_is T L p (30 + j)
    · rw [if_pos q]
      exact ⟨fun i h1 h2 => absurd h2 (by omega), fun _ => q⟩
    · rw [if_neg q]
      obtain ⟨a, b⟩ := ih (j + 1) (by omega)
      refine ⟨fun i h1 h2 => ?_, b⟩
      by_cases hi : i = j
      · rw [hi]; exact q
      · exact a i (by omega) h2
/-- which word it is -/
theorem r_ahead (hL : L ≤ 700) {p : Nat} (hp : p ≤ L) (hX : RX T L M) (hT : RT T L p M) : F_X9_settingAhead M = some (if tk_vb T L p 12 0 < 6 then nI (tk_vb T L p 12 0) else -1, M) := by
  obtain ⟨a, b⟩ := tk_vb_spec (T := T) (L := L) p 12 0 (by omega)
  have no : ∀ i : Nat, i < tk_vb T L p 12 0 → i < 12 → F_X9_says (48 + i) M = some (0, M) := fun i h1 h2 => r_says0 hL hp h2 hX hT (a i (by omega) h1)
  have ye : ∀ i : Nat, tk_vb T L p 12 0 = i → i < 12 → F_X9_says (48 + i) M = some (1, M) := fun i h1 h2 => r_says1 hL hp h2 hX hT (by rw [← h1]; exact b (by omega))
  generalize tk_vb T L p 12 0 = k at *
  unfold F_X9_settingAhead
  by_cases h6 : k < 6
  · rw [if_pos h6]
    rcases (show k = 0 ∨ k = 1 ∨ k = 2 ∨ k = 3 ∨ k = 4 ∨ k = 5 by omega) with rfl | rfl | rfl | rfl | rfl | rfl
    · rw [ye 0 rfl (by omega), hp_b_some, if_neg (by decide)]; rfl
    · rw [no 0 (by omega) (by omega), hp_b_some, if_pos rfl, ye 1 rfl (by omega), hp_b_some, if_neg (by decide)]; rfl
    · rw [no 0 (by omega) (by omega), hp_b_some, if_pos rfl, no 1 (by omega) (by omega), hp_b_some, if_pos rfl, ye 2 rfl (by omega), hp_b_some, if_neg (by decide)]; rfl
    · rw [no 0 (by omega) (by omega), hp_b_some, if_pos rfl, no 1 (by omega) (by omega), hp_b_some, if_pos rfl, no 2 (by omega) (by omega), hp_b_some, if_pos rfl, ye 3 rfl (by omega), hp_b_some, if_neg (by decide)]; rfl
    · rw [no 0 (by omega) (by omega), hp_b_some, if_pos rfl, no 1 (by omega) (by omega), hp_b_some, if_pos rfl, no 2 (by omega) (by omega), hp_b_some, if_pos rfl, no 3 (by omega) (by omega), hp_b_some, if_pos rfl, ye 4 rfl (by omega), hp_b_some, if_neg (by decide)]; rfl
    · rw [no 0 (by omega) (by omega), hp_b_some, if_pos rfl, no 1 (by omega) (by omega), hp_b_some, if_pos rfl, no 2 (by omega) (by omega), hp_b_some, if_pos rfl, no 3 (by omega) (by omega), hp_b_some, if_pos rfl, no 4 (by omega) (by omega), hp_b_some, if_pos rfl, ye 5 rfl (by omega), hp_b_some, if_neg (by decide)]; rfl
  · rw [if_neg h6, no 0 (by omega) (by omega), hp_b_some, if_pos rfl, no 1 (by omega) (by omega), hp_b_some, if_pos rfl, no 2 (by omega) (by omega), hp_b_some, if_pos rfl, no 3 (by omega) (by omega), hp_b_some, if_pos rfl, no 4 (by omega) (by omega), hp_b_some, if_pos rfl, no 5 (by omega) (by omega), hp_b_some, if_pos rfl]
/-- what is said of a statement that the reference has read and done -/
def RO (T : Nat → Int32) (L p : Nat) (d : HV) (M : hp_M) (o : Option (Int32 × hp_M)) : Prop := ∃ (r : Int32) (M' : hp_M), o = some (r, M') ∧ RG M M' ∧ ((∃ e, tk_stm T L p d = .inl e ∧ r = 0 ∧ M' 13 0 18 = e) ∨ (∃ q d', r = 1 ∧ M' 13 0 18 = 0 ∧ RT T L q M' ∧ RRep (M' 13 1) d' ∧ q ≤ L ∧ ((tk_k T L q = 1 ∧ tk_stm T L p d = .inr (tk_e T L q, d')) ∨ (tk_k T L q ≠ 1 ∧ tk_stm T L p d = .inl (tk_er T L q 1)))))
theorem tk_rd_j {p n j : Nat} (hv : tk_vb T L p 12 0 = j) (hj : j < 12) : tk_rd T L p n = tk_sb (tk_arg1 T L (tk_e T L p) j n) fun a => tk_sb (tk_arg2 T L a.2 j) fun b => tk_sb (tk_semi T L b.2) fun e => .inr (j, a.1, b.1, b.2, e) := by
  unfold tk_rd
  rw [hv, if_neg (by omega)]
theorem r_lm : ∀ j : Nat, j < 6 → ∀ M : hp_M, F_X9_leastOf (nI j) M = some (hp_vlea.getD j 0, M) ∧ F_X9_mostOf (nI j) M = some (hp_vgre.getD j 0, M) := by
  intro j hj M
  rcases (show j = 0 ∨ j = 1 ∨ j = 2 ∨ j = 3 ∨ j = 4 ∨ j = 5 by omega) with rfl | rfl | rfl | rfl | rfl | rfl <;> exact ⟨rfl, rfl⟩
theorem ro_set (hL : L ≤ 700) {p j : Nat} (hp : p ≤ L) (hX : RX T L M) (hT : RT T L p M) (h0 : M 13 0 18 = 0) (c : RRep (M 13 1) d) (hv : tk_vb T L p 12 0 = j) (hj : j < 6) : RO T L p d M (F_X9_readsSetting (nI j) M) := by
  have he := tk_e_le (T := T) hp
  have he2 := tk_e_le (T := T) he.2
  obtain ⟨M1, a1, a2, a3, a4, a5⟩ := r_nx hL he.2 hX hT.1
  have hX1 := a3.x hX
  have hvn : hp_vnam.getD j 0 = 0 ∧ ¬ hp_vgre.getD j 0 ≤ 0 := by
    have : ∀ j : Nat, j < 6 → hp_vnam.getD j 0 = 0 ∧ ¬ hp_vgre.getD j 0 ≤ 0 := by decide
    exact this j hj
  have hrd : tk_rd T L p d.flats = tk_sb (tk_num T L (tk_e T L p) (hp_vlea.getD j 0) (hp_vgre.getD j 0)) fun b => tk_sb (tk_semi T L b.2) fun e => .inr (j, -1, b.1, b.2, e) := by
    have ar1 : tk_arg1 T L (tk_e T L p) j d.flats = .inr (-1, tk_e T L p) := by unfold tk_arg1; rw [if_pos hvn.1]
    have ar2 : ∀ q : Nat, tk_arg2 T L q j = tk_num T L q (hp_vlea.getD j 0) (hp_vgre.getD j 0) := fun q => by unfold tk_arg2; rw [if_neg hvn.2]
    rw [tk_rd_j hv (by omega), ar1]
    show tk_sb (tk_arg2 T L (tk_e T L p) j) _ = _
    rw [ar2]
  unfold F_X9_readsSetting
  rw [a1, hp_b_some, (r_lm j hj M1).1, hp_b_some, (r_lm j hj M1).2, hp_b_some]
  rcases r_num (M := M1) hL (k := 0) (a0 := 0) rfl (by decide) he.2 hX1 a2 (a4.trans h0) (hp_vlea.getD j 0) (hp_vgre.getD j 0) with ⟨e, M2, b1, b2, b3, b4⟩ | ⟨M2, b1, b2, b3, b4, b5, b6, b7⟩
  · rw [b2, hp_b_some, if_pos rfl]
    refine ⟨0, M2, rfl, (RG.f a3).tr (RG.f b4), Or.inl ⟨e, ?_, rfl, b3⟩⟩
    unfold tk_stm
    rw [hrd, b1]
    rfl
  · have ex : (7 : Int32) + nI j = nI (7 + j) := by rw [show (7 : Int32) = nI 7 from rfl, nI_add]
    rw [b2, hp_b_some, if_neg (by decide), ex, if_neg (nI_in (by omega) (by decide)), nI_clamp (by omega), b4]
    have c2 : RRep (M2 13 1) d := b7.r (a3.r c)
    have c3 := RS.set (i := j) (x := tk_n T L (tk_e T L p)) c2 hj
    refine ⟨1, _, rfl, ((RG.f a3).tr (RG.f b7)).tr (RG.s c3), Or.inr ⟨tk_e T L (tk_e T L p), _, rfl, (c3.z 0 18 (by decide)).trans b6, b3.s (fun i => c3.z 0 i (by decide)), c3.1, he2.2, ?_⟩⟩
    unfold tk_stm
    rw [hrd, b1]
    show (_ ∧ tk_sb (tk_sb (tk_semi T L (tk_e T L (tk_e T L p))) _) _ = _) ∨ (_ ∧ tk_sb (tk_sb (tk_semi T L (tk_e T L (tk_e T L p))) _) _ = _)
    unfold tk_semi
    by_cases hk : tk_k T L (tk_e T L (tk_e T L p)) = 1
    · refine Or.inl ⟨hk, ?_⟩
      rw [if_pos hk]
      show (if hv_ref d j (-1 : Int32).toNatClampNeg (tk_n T L (tk_e T L p)) = 0 then Sum.inr (tk_e T L (tk_e T L (tk_e T L p)), hv_do d j (-1 : Int32).toNatClampNeg (tk_n T L (tk_e T L p))) else _) = _
      rw [if_pos (hv_ref_S (Or.inl hj)), hv_do_S hj]
    · refine Or.inr ⟨hk, ?_⟩
      rw [if_neg hk]
      rfl
/-- a statement that names a flat and has a number -/
theorem ro_fn (hL : L ≤ 700) {p j : Nat} (hp : p ≤ L) (hX : RX T L M) (hT : RT T L p M) (h0 : M 13 0 18 = 0) (c : RRep (M 13 1) d) (h10 : d.flats ≤ 10) (hv : tk_vb T L p 12 0 = j) (hj : j = 6 ∨ j = 9 ∨ j = 10) (D : Int32 → Int32 → hp_M → Option (Int32 × hp_M)) (hD : ∀ (M' : hp_M) (f : Nat) (x : Int32), RRep (M' 13 1) d → f < d.flats → hp_vlea.getD j 0 ≤ x → RD M' d j f x (D (nI f) x M')) : RO T L p d M (hp_b (F_X9_next M) (fun _ M19 => (hp_b (F_X9_flatAt M19) (fun r20 M20 => (if r20 = 0 then (some ((0 : Int32), M20)) else (hp_b (F_X9_number (1 : Int32) (hp_vlea.getD j 0) (hp_vgre.getD j 0) M20) (fun r21 M21 => (if r21 = 0 then (some ((0 : Int32), M21)) else (hp_b (F_X9_isSemicolon M21) (fun r22 M22 => (if r22 = 0 then (some ((0 : Int32), M22)) else (hp_b (D (M22 13 9 0) (M22 13 9 1) M22) (fun r23 M23 => (hp_b (F_X9_isDone r23 M23) (fun r24 M24 => (if r24 = 0 then (some ((0 : Int32), M24)) else (some ((1 : Int32), M24)))))))))))))))))) := by
  have he := tk_e_le (T := T) hp
  have he2 := tk_e_le (T := T) he.2
  have he3 := tk_e_le (T := T) he2.2
  obtain ⟨M1, a1, a2, a3, a4, a5⟩ := r_nx hL he.2 hX hT.1
  have c1 := a3.r c
  have hjl : j < 12 := by omega
  have hvn : hp_vnam.getD j 0 ≠ 0 ∧ ¬ hp_vgre.getD j 0 ≤ 0 := by rcases hj with rfl | rfl | rfl <;> decide
  have hrd : tk_rd T L p d.flats = tk_sb (tk_num T L (tk_e T L p) 0 (nI d.flats - 1)) fun a => tk_sb (tk_num T L a.2 (hp_vlea.getD j 0) (hp_vgre.getD j 0)) fun b => tk_sb (tk_semi T L b.2) fun e => .inr (j, a.1, b.1, b.2, e) := by
    have ar1 : tk_arg1 T L (tk_e T L p) j d.flats = tk_num T L (tk_e T L p) 0 (nI d.flats - 1) := by unfold tk_arg1; rw [if_neg hvn.1]
    have ar2 : ∀ q : Nat, tk_arg2 T L q j = tk_num T L q (hp_vlea.getD j 0) (hp_vgre.getD j 0) := fun q => by unfold tk_arg2; rw [if_neg hvn.2]
    rw [tk_rd_j hv hjl, ar1]
    simp only [ar2]
  unfold F_X9_flatAt
  rw [a1, hp_b_some, c1.fl]
  rcases r_num (M := M1) hL (k := 0) (a0 := 0) rfl (by decide) he.2 (a3.x hX) a2 (a4.trans h0) 0 (nI d.flats - 1) with ⟨e, M2, b1, b2, b3, b4⟩ | ⟨M2, b1, b2, b3, b4, b5, b6, b7⟩
  · rw [b2, hp_b_some, if_pos (Or.inl rfl), hp_b_some, if_pos rfl]
    refine ⟨0, M2, rfl, (RG.f a3).tr (RG.f b4), Or.inl ⟨e, ?_, rfl, b3⟩⟩
    unfold tk_stm
    rw [hrd, b1]
    rfl
  · have hfl : ∃ f : Nat, tk_n T L (tk_e T L p) = nI f ∧ f < d.flats := by
      rcases tk_num_in (T := T) hL he.2 (lo := 0) (hi := nI d.flats - 1) with ⟨e, z1, -⟩ | ⟨x, q, z1, z2, z3, z4, z5, y, z6, z7⟩
      · rw [b1] at z1; cases z1
      · rw [b1] at z1
        cases z1
        refine ⟨y, z6, ?_⟩
        rw [z6] at z5
        cases hn : d.flats with
        | zero => rw [hn, nI_0] at z5; rw [z6] at z4; grind
        | succ n =>
          rw [hn, nI_pred] at z5
          have := (nI_leI (by omega) (by omega)).mp z5
          omega
    obtain ⟨f, hf1, hf2⟩ := hfl
    rw [b2, hp_b_some, if_pos (Or.inr rfl), hp_b_some, if_neg (by decide)]
    rcases r_num (M := M2) hL (k := 1) (a0 := 1) rfl (by decide) he2.2 (b7.x (a3.x hX)) b3 b6 (hp_vlea.getD j 0) (hp_vgre.getD j 0) with ⟨e, M3, d1, d2, d3, d4⟩ | ⟨M3, d1, d2, d3, d4, d5, d6, d7⟩
    · rw [d2, hp_b_some, if_pos rfl]
      refine ⟨0, M3, rfl, ((RG.f a3).tr (RG.f b7)).tr (RG.f d4), Or.inl ⟨e, ?_, rfl, d3⟩⟩
      unfold tk_stm
      rw [hrd, b1]
      show tk_sb (tk_sb (tk_num T L (tk_e T L (tk_e T L p)) _ _) _) _ = _
      rw [d1]
      rfl
    · have hlx : hp_vlea.getD j 0 ≤ tk_n T L (tk_e T L (tk_e T L p)) := by
        rcases tk_num_in (T := T) hL he2.2 (lo := hp_vlea.getD j 0) (hi := hp_vgre.getD j 0) with ⟨e, z1, -⟩ | ⟨x, q, z1, z2, z3, z4, z5, z6⟩
        · rw [d1] at z1; cases z1
        · rw [d1] at z1; cases z1; exact z4
      have c3 : RRep (M3 13 1) d := d7.r (b7.r c1)
      have e0 : M3 13 9 0 = nI f := by rw [d5 0 (by decide), b4, hf1]
      have hRD := hD M3 f (tk_n T L (tk_e T L (tk_e T L p))) c3 hf2 hlx
      rw [d2, hp_b_some, if_neg (by decide)]
      obtain ⟨r, M4, g1, g2, g3⟩ := r_tail (M := M3) (T := T) hL he3.2 d3 d6 c3 (fun M22 => D (M22 13 9 0) (M22 13 9 1) M22) (by show RD M3 d j f _ (D (M3 13 9 0) (M3 13 9 1) M3); rw [e0, d4]; exact hRD)
      refine ⟨r, M4, g1, (((RG.f a3).tr (RG.f b7)).tr (RG.f d7)).tr g2, ?_⟩
      have hst : tk_stm T L p d = tk_sb (tk_sb (tk_semi T L (tk_e T L (tk_e T L (tk_e T L p)))) fun e => .inr (j, nI f, tk_n T L (tk_e T L (tk_e T L p)), tk_e T L (tk_e T L (tk_e T L p)), e)) fun q => if hv_ref d q.1 q.2.1.toNatClampNeg q.2.2.1 = 0 then .inr (q.2.2.2.2, hv_do d q.1 q.2.1.toNatClampNeg q.2.2.1) else .inl (tk_er T L q.2.2.2.1 4) := by
        unfold tk_stm
        rw [hrd, b1, hf1]
        show tk_sb (tk_sb (tk_num T L (tk_e T L (tk_e T L p)) _ _) _) _ = _
        rw [d1]
        rfl
      rw [hst]
      rcases g3 with ⟨e, k1, k2, k3⟩ | ⟨k1, k2, ⟨k3, k4, k5, k6, k7⟩ | ⟨k3, k4, k5⟩⟩
      · rw [k1]; exact Or.inl ⟨e, rfl, k2, k3⟩
      · rw [k1]
        show (∃ e, (if hv_ref d j (nI f).toNatClampNeg (tk_n T L (tk_e T L (tk_e T L p))) = 0 then _ else _) = Sum.inl e ∧ _) ∨ _
        refine Or.inr ⟨_, _, k4, k7, k6, k5, he3.2, Or.inl ⟨k2, ?_⟩⟩
        show (if hv_ref d j (nI f).toNatClampNeg (tk_n T L (tk_e T L (tk_e T L p))) = 0 then Sum.inr (_, hv_do d j (nI f).toNatClampNeg (tk_n T L (tk_e T L (tk_e T L p)))) else _) = _
        rw [nI_clamp (by omega), if_pos k3]
      · rw [k1]
        refine Or.inl ⟨_, ?_, k4, k5⟩
        show (if hv_ref d j (nI f).toNatClampNeg (tk_n T L (tk_e T L (tk_e T L p))) = 0 then _ else _) = _
        rw [nI_clamp (by omega), if_neg k3]
/-- a statement that names a flat alone -/
theorem ro_f (hL : L ≤ 700) {p j : Nat} (hp : p ≤ L) (hX : RX T L M) (hT : RT T L p M) (h0 : M 13 0 18 = 0) (c : RRep (M 13 1) d) (h10 : d.flats ≤ 10) (hv : tk_vb T L p 12 0 = j) (hj : j = 7 ∨ j = 8) (D : Int32 → hp_M → Option (Int32 × hp_M)) (hD : ∀ (M' : hp_M) (f : Nat), RRep (M' 13 1) d → f < d.flats → RD M' d j f 0 (D (nI f) M')) : RO T L p d M (hp_b (F_X9_next M) (fun _ M25 => (hp_b (F_X9_flatAt M25) (fun r26 M26 => (if r26 = 0 then (some ((0 : Int32), M26)) else (hp_b (F_X9_isSemicolon M26) (fun r27 M27 => (if r27 = 0 then (some ((0 : Int32), M27)) else (hp_b (D (M27 13 9 0) M27) (fun r28 M28 => (hp_b (F_X9_isDone r28 M28) (fun r29 M29 => (if r29 = 0 then (some ((0 : Int32), M29)) else (some ((1 : Int32), M29)))))))))))))) ) := by
  have he := tk_e_le (T := T) hp
  have he2 := tk_e_le (T := T) he.2
  obtain ⟨M1, a1, a2, a3, a4, a5⟩ := r_nx hL he.2 hX hT.1
  have c1 := a3.r c
  have hjl : j < 12 := by omega
  have hvn : hp_vnam.getD j 0 ≠ 0 ∧ hp_vgre.getD j 0 ≤ 0 := by rcases hj with rfl | rfl <;> decide
  have hrd : tk_rd T L p d.flats = tk_sb (tk_num T L (tk_e T L p) 0 (nI d.flats - 1)) fun a => tk_sb (tk_semi T L a.2) fun e => .inr (j, a.1, 0, a.2, e) := by
    have ar1 : tk_arg1 T L (tk_e T L p) j d.flats = tk_num T L (tk_e T L p) 0 (nI d.flats - 1) := by unfold tk_arg1; rw [if_neg hvn.1]
    have ar2 : ∀ q : Nat, tk_arg2 T L q j = .inr (0, q) := fun q => by unfold tk_arg2; rw [if_pos hvn.2]
    rw [tk_rd_j hv hjl, ar1]
    simp only [ar2]
    rfl
  unfold F_X9_flatAt
  rw [a1, hp_b_some, c1.fl]
  rcases r_num (M := M1) hL (k := 0) (a0 := 0) rfl (by decide) he.2 (a3.x hX) a2 (a4.trans h0) 0 (nI d.flats - 1) with ⟨e, M2, b1, b2, b3, b4⟩ | ⟨M2, b1, b2, b3, b4, b5, b6, b7⟩
  · rw [b2, hp_b_some, if_pos (Or.inl rfl), hp_b_some, if_pos rfl]
    refine ⟨0, M2, rfl, (RG.f a3).tr (RG.f b4), Or.inl ⟨e, ?_, rfl, b3⟩⟩
    unfold tk_stm
    rw [hrd, b1]
    rfl
  · have hfl : ∃ f : Nat, tk_n T L (tk_e T L p) = nI f ∧ f < d.flats := by
      rcases tk_num_in (T := T) hL he.2 (lo := 0) (hi := nI d.flats - 1) with ⟨e, z1, -⟩ | ⟨x, q, z1, z2, z3, z4, z5, y, z6, z7⟩
      · rw [b1] at z1; cases z1
      · rw [b1] at z1
        cases z1
        refine ⟨y, z6, ?_⟩
        rw [z6] at z5
        cases hn : d.flats with
        | zero => rw [hn, nI_0] at z5; rw [z6] at z4; grind
        | succ n =>
          rw [hn, nI_pred] at z5
          have := (nI_leI (by omega) (by omega)).mp z5
          omega
    obtain ⟨f, hf1, hf2⟩ := hfl
    rw [b2, hp_b_some, if_pos (Or.inr rfl), hp_b_some, if_neg (by decide)]
    have c3 : RRep (M2 13 1) d := b7.r c1
    have e0 : M2 13 9 0 = nI f := by rw [b4, hf1]
    have hRD := hD M2 f c3 hf2
    obtain ⟨r, M4, g1, g2, g3⟩ := r_tail (M := M2) (T := T) hL he2.2 b3 b6 c3 (fun M22 => D (M22 13 9 0) M22) (by show RD M2 d j f _ (D (M2 13 9 0) M2); rw [e0]; exact hRD)
    refine ⟨r, M4, g1, ((RG.f a3).tr (RG.f b7)).tr g2, ?_⟩
    have hst : tk_stm T L p d = tk_sb (tk_sb (tk_semi T L (tk_e T L (tk_e T L p))) fun e => .inr (j, nI f, (0 : Int32), tk_e T L (tk_e T L p), e)) fun q => if hv_ref d q.1 q.2.1.toNatClampNeg q.2.2.1 = 0 then .inr (q.2.2.2.2, hv_do d q.1 q.2.1.toNatClampNeg q.2.2.1) else .inl (tk_er T L q.2.2.2.1 4) := by
      unfold tk_stm
      rw [hrd, b1, hf1]
      rfl
    rw [hst]
    rcases g3 with ⟨e, k1, k2, k3⟩ | ⟨k1, k2, ⟨k3, k4, k5, k6, k7⟩ | ⟨k3, k4, k5⟩⟩
    · rw [k1]; exact Or.inl ⟨e, rfl, k2, k3⟩
    · rw [k1]
      refine Or.inr ⟨_, _, k4, k7, k6, k5, he2.2, Or.inl ⟨k2, ?_⟩⟩
      show (if hv_ref d j (nI f).toNatClampNeg 0 = 0 then Sum.inr (_, hv_do d j (nI f).toNatClampNeg 0) else _) = _
      rw [nI_clamp (by omega), if_pos k3]
    · rw [k1]
      refine Or.inl ⟨_, ?_, k4, k5⟩
      show (if hv_ref d j (nI f).toNatClampNeg 0 = 0 then _ else _) = _
      rw [nI_clamp (by omega), if_neg k3]
/-- minutes pass -/
theorem ro_p (hL : L ≤ 700) {p : Nat} (hp : p ≤ L) (hX : RX T L M) (hT : RT T L p M) (h0 : M 13 0 18 = 0) (c : RRep (M 13 1) d) (hg : hv_g B d) (hv : tk_vb T L p 12 0 = 11) : RO T L p d M (hp_b (F_X9_next M) (fun _ M9 => (hp_b (F_X9_number (0 : Int32) (1 : Int32) (999 : Int32) M9) (fun r10 M10 => (if r10 = 0 then (some ((0 : Int32), M10)) else (hp_b (F_X9_isSemicolon M10) (fun r11 M11 => (if r11 = 0 then (some ((0 : Int32), M11)) else (hp_b (F_X9_minutes (M11 13 9 0) M11) (fun r12 M12 => (if r12 < 0 then (some ((0 : Int32), M12)) else (some ((1 : Int32), M12)))))))))))) ) := by
  have he := tk_e_le (T := T) hp
  have he2 := tk_e_le (T := T) he.2
  obtain ⟨M1, a1, a2, a3, a4, a5⟩ := r_nx hL he.2 hX hT.1
  have c1 := a3.r c
  have hrd : tk_rd T L p d.flats = tk_sb (tk_num T L (tk_e T L p) 1 999) fun b => tk_sb (tk_semi T L b.2) fun e => .inr (11, -1, b.1, b.2, e) := by
    have ar1 : tk_arg1 T L (tk_e T L p) 11 d.flats = .inr (-1, tk_e T L p) := by unfold tk_arg1; rw [if_pos (by decide)]
    have ar2 : tk_arg2 T L (tk_e T L p) 11 = tk_num T L (tk_e T L p) 1 999 := by unfold tk_arg2; rw [if_neg (by decide)]; rfl
    rw [tk_rd_j hv (by omega), ar1]
    show tk_sb (tk_arg2 T L (tk_e T L p) 11) _ = _
    rw [ar2]
  rw [a1, hp_b_some]
  rcases r_num (M := M1) hL (k := 0) (a0 := 0) rfl (by decide) he.2 (a3.x hX) a2 (a4.trans h0) 1 999 with ⟨e, M2, b1, b2, b3, b4⟩ | ⟨M2, b1, b2, b3, b4, b5, b6, b7⟩
  · rw [b2, hp_b_some, if_pos rfl]
    refine ⟨0, M2, rfl, (RG.f a3).tr (RG.f b4), Or.inl ⟨e, ?_, rfl, b3⟩⟩
    unfold tk_stm
    rw [hrd, b1]
    rfl
  · have hy : ∃ y : Nat, tk_n T L (tk_e T L p) = nI y ∧ y < 1000 := by
      rcases tk_num_in (T := T) hL he.2 (lo := 1) (hi := 999) with ⟨e, z1, -⟩ | ⟨x, q, z1, z2, z3, z4, z5, y, z6, z7⟩
      · rw [b1] at z1; cases z1
      · rw [b1] at z1
        cases z1
        refine ⟨y, z6, ?_⟩
        rw [z6] at z5
        have := (nI_leI (b := 999) (by omega) (by decide)).mp z5
        omega
    obtain ⟨y, hy1, hy2⟩ := hy
    rw [b2, hp_b_some, if_neg (by decide)]
    have hst : tk_stm T L p d = tk_sb (tk_sb (tk_semi T L (tk_e T L (tk_e T L p))) fun e => .inr (11, (-1 : Int32), nI y, tk_e T L (tk_e T L p), e)) fun q => if hv_ref d q.1 q.2.1.toNatClampNeg q.2.2.1 = 0 then .inr (q.2.2.2.2, hv_do d q.1 q.2.1.toNatClampNeg q.2.2.1) else .inl (tk_er T L q.2.2.2.1 4) := by
      unfold tk_stm
      rw [hrd, b1, hy1]
      rfl
    have c2 : RRep (M2 13 1) d := b7.r c1
    unfold F_X9_isSemicolon
    rw [b3.2.1]
    by_cases hk : tk_k T L (tk_e T L (tk_e T L p)) = 1
    · obtain ⟨M3, d1, d2, d3⟩ := rd_11 (f := (-1 : Int32).toNatClampNeg) (a1 := nI y) c2 hg hy2 rfl
      rw [if_pos hk, hp_b_some, if_neg (by decide), b4, hy1, d1, hp_b_some, if_neg (by grind)]
      refine ⟨1, M3, rfl, ((RG.f a3).tr (RG.f b7)).tr (RG.s d3), Or.inr ⟨_, _, rfl, (d3.z 0 18 (by decide)).trans b6, b3.s (fun i => d3.z 0 i (by decide)), d3.1, he2.2, Or.inl ⟨hk, ?_⟩⟩⟩
      rw [hst]
      unfold tk_semi
      rw [if_pos hk]
      show (if hv_ref d 11 (-1 : Int32).toNatClampNeg (nI y) = 0 then Sum.inr (tk_e T L (tk_e T L (tk_e T L p)), hv_do d 11 (-1 : Int32).toNatClampNeg (nI y)) else Sum.inl (tk_er T L (tk_e T L (tk_e T L p)) 4)) = _
      rw [if_pos (hv_ref_S (Or.inr rfl))]
    · rw [if_neg hk, r_fail (a0 := 1) 1 rfl b3.2.2.1 b6, hp_b_some, if_pos rfl, hp_b_some, if_pos rfl]
      refine ⟨0, _, rfl, ((RG.f a3).tr (RG.f b7)).tr (RG.f (RF.p (by omega) (by omega))), Or.inl ⟨tk_er T L (tk_e T L (tk_e T L p)) 1, ?_, rfl, hp_p_s _ _ _ _ _⟩⟩
      rw [hst]
      unfold tk_semi
      rw [if_neg hk]
      rfl
end RLOOP
