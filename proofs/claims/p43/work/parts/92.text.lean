/-! ===== texts: statements, as values ===== -/
def tk_er (T : Nat → Int32) (L p : Nat) (c : Nat) : Int32 := nI (8 * tk_s T L p + c)
def tk_num (T : Nat → Int32) (L p : Nat) (lo hi : Int32) : Int32 ⊕ (Int32 × Nat) :=
  if tk_k T L p = 3 then (if tk_n T L p < lo ∨ hi < tk_n T L p then .inl (tk_er T L p 2) else .inr (tk_n T L p, tk_e T L p)) else .inl (tk_er T L p 1)
def tk_sb {α β : Type} (x : Int32 ⊕ α) (K : α → Int32 ⊕ β) : Int32 ⊕ β := match x with
  | .inl e => .inl e
  | .inr a => K a
def tk_vb (T : Nat → Int32) (L p : Nat) : Nat → Nat → Nat
  | 0, _ => 12
  | n + 1, j => if tk_is T L p (29 + j) then j else tk_vb T L p n (j + 1)
def tk_arg1 (T : Nat → Int32) (L p j n : Nat) : Int32 ⊕ (Int32 × Nat) := if hp_vnam.getD j 0 = 0 then .inr (-1, p) else tk_num T L p 0 (nI n - 1)
def tk_arg2 (T : Nat → Int32) (L p j : Nat) : Int32 ⊕ (Int32 × Nat) := if hp_vgre.getD j 0 ≤ 0 then .inr (0, p) else tk_num T L p (hp_vlea.getD j 0) (hp_vgre.getD j 0)
def tk_semi (T : Nat → Int32) (L p : Nat) : Int32 ⊕ Nat := if tk_k T L p = 1 then .inr (tk_e T L p) else .inl (tk_er T L p 1)
/-- verb, flat, number, where the semicolon is read from, where it ends -/
def tk_rd (T : Nat → Int32) (L p n : Nat) : Int32 ⊕ (Nat × Int32 × Int32 × Nat × Nat) :=
  if tk_vb T L p 12 0 = 12 then .inl (tk_er T L p 1) else
  tk_sb (tk_arg1 T L (tk_e T L p) (tk_vb T L p 12 0) n) fun a => tk_sb (tk_arg2 T L a.2 (tk_vb T L p 12 0)) fun b => tk_sb (tk_semi T L b.2) fun e => .inr (tk_vb T L p 12 0, a.1, b.1, b.2, e)
/-- what a deed that is not refused makes of a house -/
def hv_do (d : HV) (j f : Nat) (x : Int32) : HV :=
  if j < 6 then d.s_set (up1 d.set j x) else if j = 6 then hv_out d f x else if j = 7 then hv_give d f else if j = 8 then hv_end d else if j = 9 then hv_ring d f x else if j = 10 then hv_pay d f x else (hv_run x.toNatClampNeg d).s_time (d.time + x)
def tk_stm (T : Nat → Int32) (L p : Nat) (d : HV) : Int32 ⊕ (Nat × HV) :=
  tk_sb (tk_rd T L p d.flats) fun q => if hv_ref d q.1 q.2.1.toNatClampNeg q.2.2.1 = 0 then .inr (q.2.2.2.2, hv_do d q.1 q.2.1.toNatClampNeg q.2.2.1) else .inl (tk_er T L q.2.2.2.1 4)
def tk_all (T : Nat → Int32) (L : Nat) : Nat → Nat → HV → Int32 ⊕ HV
  | 0, _, _ => .inl 0
  | n + 1, p, d => if tk_k T L p = 0 then .inr d else tk_sb (tk_stm T L p d) fun q => tk_all T L n q.1 q.2
def hv_add (d : HV) (x : Int32) : HV := (hv_put d d.flats 0 x).s_flats (d.flats + 1)
def tk_fl (T : Nat → Int32) (L : Nat) : Nat → Nat → HV → Int32 ⊕ (Nat × HV)
  | 0, _, _ => .inl 0
  | n + 1, p, d => if tk_k T L p = 3 then (if 9 < tk_n T L p then .inl (tk_er T L p 2) else if d.flats = 10 then .inl (tk_er T L p 3) else if tk_is T L (tk_e T L p) 28 then tk_fl T L n (tk_e T L (tk_e T L p)) (hv_put (hv_add d (tk_n T L p)) d.flats 1 1) else tk_fl T L n (tk_e T L p) (hv_add d (tk_n T L p))) else if tk_k T L p = 1 then .inr (tk_e T L p, d) else .inl (tk_er T L p 1)
/-- a house without flats -/
def hv_new : HV := (0, 0, 0, fun i => hp_fs.getD i 0, fun _ => 0, fun _ _ => 0, fun _ _ => 0, 0, 0, 0, 0, 0, [], [])
def tk_house (T : Nat → Int32) (L : Nat) : Int32 ⊕ (Nat × HV) :=
  if tk_is T L 0 27 then (if tk_k T L (tk_e T L 0) = 3 then tk_fl T L 11 (tk_e T L 0) hv_new else .inl (tk_er T L (tk_e T L 0) 1)) else .inl (tk_er T L 0 1)
/-- what becomes of a text -/
def tk_text (T : Nat → Int32) (L : Nat) : Int32 ⊕ HV := tk_sb (tk_house T L) fun q => tk_all T L 701 q.1 q.2
/-- an error's number -/
def tk_ER (e : Int32) : Prop := ∃ s c : Nat, s ≤ 700 ∧ 1 ≤ c ∧ c ≤ 4 ∧ e = nI (8 * s + c)
theorem tk_ER_0 {e : Int32} (h : tk_ER e) : e ≠ 0 := by
  obtain ⟨s, c, h1, h2, h3, h4⟩ := h
  rw [h4]
  exact nI_ne0 (by omega) (by omega)
section TEXT
variable {T : Nat → Int32} {L : Nat}
theorem tk_er_ER (hL : L ≤ 700) {p c : Nat} (hp : p ≤ L) (h1 : 1 ≤ c) (h2 : c ≤ 4) : tk_ER (tk_er T L p c) := ⟨tk_s T L p, c, by have := tk_s_le (T := T) hp; omega, h1, h2, rfl⟩
theorem tk_vb_le (p : Nat) : ∀ n j : Nat, j + n = 12 → tk_vb T L p n j ≤ 12 := by
  intro n
  induction n with
  | zero => exact fun _ _ => Nat.le_refl _
  | succ n ih =>
    intro j h
    show (if tk_is T L p (29 + j) then j else tk_vb T L p n (j + 1)) ≤ 12
    split
    · omega
    · exact ih (j + 1) (by omega)
theorem tk_num_in (hL : L ≤ 700) {p : Nat} (hp : p ≤ L) {lo hi : Int32} : (∃ e, tk_num T L p lo hi = .inl e ∧ tk_ER e) ∨ ∃ x q, tk_num T L p lo hi = .inr (x, q) ∧ p < q ∧ q ≤ L ∧ lo ≤ x ∧ x ≤ hi ∧ ∃ y : Nat, x = nI y ∧ y < 10000 := by
  unfold tk_num
  by_cases hk : tk_k T L p = 3
  · rw [if_pos hk]
    by_cases hr : tk_n T L p < lo ∨ hi < tk_n T L p
    · rw [if_pos hr]; exact Or.inl ⟨_, rfl, tk_er_ER hL hp (by omega) (by omega)⟩
    · rw [if_neg hr]
      have h1 := tk_s_le (T := T) hp
      have h2 := tk_e_le (T := T) hp
      have h3 := tk_e_lt (T := T) hp (by rw [hk]; decide)
      exact Or.inr ⟨_, _, rfl, by omega, by omega, by grind, by grind, tk_n_nat hp hk⟩
  · rw [if_neg hk]; exact Or.inl ⟨_, rfl, tk_er_ER hL hp (by omega) (by omega)⟩
theorem tk_semi_in (hL : L ≤ 700) {p : Nat} (hp : p ≤ L) : (∃ e, tk_semi T L p = .inl e ∧ tk_ER e) ∨ ∃ q, tk_semi T L p = .inr q ∧ p < q ∧ q ≤ L := by
  unfold tk_semi
  by_cases hk : tk_k T L p = 1
  · rw [if_pos hk]
    have h1 := tk_s_le (T := T) hp
    have h2 := tk_e_le (T := T) hp
    have h3 := tk_e_lt (T := T) hp (by rw [hk]; decide)
    exact Or.inr ⟨_, rfl, by omega, by omega⟩
  · rw [if_neg hk]; exact Or.inl ⟨_, rfl, tk_er_ER hL hp (by omega) (by omega)⟩
/-- what is read: an error, or verb, flat and number in their ranges -/
theorem tk_rd_in (hL : L ≤ 700) {p n : Nat} (hp : p ≤ L) (hk : tk_k T L p ≠ 0) (hn : n ≤ 10) : (∃ e, tk_rd T L p n = .inl e ∧ tk_ER e) ∨ ∃ (j : Nat) (f x : Int32) (q e : Nat), tk_rd T L p n = .inr (j, f, x, q, e) ∧ j < 12 ∧ q ≤ L ∧ p < e ∧ e ≤ L ∧ ((hp_vnam.getD j 0 = 0 ∧ f = -1) ∨ (hp_vnam.getD j 0 ≠ 0 ∧ ∃ f' : Nat, f = nI f' ∧ f' < n)) ∧ ((hp_vgre.getD j 0 ≤ 0 ∧ x = 0) ∨ (¬ hp_vgre.getD j 0 ≤ 0 ∧ hp_vlea.getD j 0 ≤ x ∧ x ≤ hp_vgre.getD j 0 ∧ ∃ y : Nat, x = nI y ∧ y < 10000)) := by
  have h1 := tk_s_le (T := T) hp
  have h2 := tk_e_le (T := T) hp
  have h3 := tk_e_lt (T := T) hp hk
  unfold tk_rd
  by_cases h12 : tk_vb T L p 12 0 = 12
  · rw [if_pos h12]; exact Or.inl ⟨_, rfl, tk_er_ER hL hp (by omega) (by omega)⟩
  · rw [if_neg h12]
    have hj : tk_vb T L p 12 0 < 12 := by have := tk_vb_le (T := T) (L := L) p 12 0 (by omega); omega
    generalize tk_vb T L p 12 0 = j at *
    have hA : (∃ e, tk_arg1 T L (tk_e T L p) j n = .inl e ∧ tk_ER e) ∨ ∃ a q, tk_arg1 T L (tk_e T L p) j n = .inr (a, q) ∧ tk_e T L p ≤ q ∧ q ≤ L ∧ ((hp_vnam.getD j 0 = 0 ∧ a = -1) ∨ (hp_vnam.getD j 0 ≠ 0 ∧ ∃ f' : Nat, a = nI f' ∧ f' < n)) := by
      unfold tk_arg1
      by_cases hz : hp_vnam.getD j 0 = 0
      · rw [if_pos hz]; exact Or.inr ⟨_, _, rfl, Nat.le_refl _, h2.2, Or.inl ⟨hz, rfl⟩⟩
      · rw [if_neg hz]
        rcases tk_num_in (T := T) hL h2.2 (lo := 0) (hi := nI n - 1) with ⟨e, e1, e2⟩ | ⟨x, q, e1, e2, e3, e4, e5, y, e6, e7⟩
        · exact Or.inl ⟨e, e1, e2⟩
        · refine Or.inr ⟨x, q, e1, by omega, e3, Or.inr ⟨hz, y, e6, ?_⟩⟩
          cases n with
          | zero =>
            rw [nI_0] at e5
            grind
          | succ n =>
            rw [nI_pred, e6] at e5
            have := (nI_leI (by omega) (by omega)).mp e5
            omega
    rcases hA with ⟨e, e1, e2⟩ | ⟨a, q, e1, e2, e3, e4⟩
    · rw [e1]; exact Or.inl ⟨e, rfl, e2⟩
    · rw [e1]
      show (∃ e, tk_sb (tk_arg2 T L q j) (fun b => tk_sb (tk_semi T L b.2) fun e => .inr (j, a, b.1, b.2, e)) = .inl e ∧ tk_ER e) ∨ ∃ (j' : Nat) (f x : Int32) (q' e : Nat), tk_sb (tk_arg2 T L q j) (fun b => tk_sb (tk_semi T L b.2) fun e => .inr (j, a, b.1, b.2, e)) = .inr (j', f, x, q', e) ∧ _
      have hB : (∃ e, tk_arg2 T L q j = .inl e ∧ tk_ER e) ∨ ∃ b q', tk_arg2 T L q j = .inr (b, q') ∧ q ≤ q' ∧ q' ≤ L ∧ ((hp_vgre.getD j 0 ≤ 0 ∧ b = 0) ∨ (¬ hp_vgre.getD j 0 ≤ 0 ∧ hp_vlea.getD j 0 ≤ b ∧ b ≤ hp_vgre.getD j 0 ∧ ∃ y : Nat, b = nI y ∧ y < 10000)) := by
        unfold tk_arg2
        by_cases hz : hp_vgre.getD j 0 ≤ 0
        · rw [if_pos hz]; exact Or.inr ⟨_, _, rfl, Nat.le_refl _, e3, Or.inl ⟨hz, rfl⟩⟩
        · rw [if_neg hz]
          rcases tk_num_in (T := T) hL e3 (lo := hp_vlea.getD j 0) (hi := hp_vgre.getD j 0) with ⟨e, f1, f2⟩ | ⟨x, q2, f1, f2, f3, f4, f5, f6⟩
          · exact Or.inl ⟨e, f1, f2⟩
          · exact Or.inr ⟨x, q2, f1, by omega, f3, Or.inr ⟨hz, f4, f5, f6⟩⟩
      rcases hB with ⟨e, f1, f2⟩ | ⟨b, q', f1, f2, f3, f4⟩
      · rw [f1]; exact Or.inl ⟨e, rfl, f2⟩
      · rw [f1]
        show (∃ e, tk_sb (tk_semi T L q') (fun e => .inr (j, a, b, q', e)) = .inl e ∧ tk_ER e) ∨ ∃ (j' : Nat) (f x : Int32) (q'' e : Nat), tk_sb (tk_semi T L q') (fun e => .inr (j, a, b, q', e)) = .inr (j', f, x, q'', e) ∧ _
        rcases tk_semi_in (T := T) hL f3 with ⟨e, g1, g2⟩ | ⟨e, g1, g2, g3⟩
        · rw [g1]; exact Or.inl ⟨e, rfl, g2⟩
        · rw [g1]; exact Or.inr ⟨j, a, b, q', e, rfl, hj, f3, by omega, g3, e4, f4⟩
end TEXT
/-! houses that are read -/
def hv_em (d : HV) : Prop := d.flats ≤ 10 ∧ d.time = 0 ∧ d.ended = 0 ∧ (∀ i : Nat, i < 6 → d.set i = hp_fs.getD i 0) ∧ (∀ i : Nat, d.acc i = 0) ∧ (∀ f k : Nat, 2 ≤ k → d.num f k = 0) ∧ (∀ f : Nat, d.flats ≤ f → d.num f 0 = 0 ∧ d.num f 1 = 0) ∧ (∀ f : Nat, 0 ≤ d.num f 0 ∧ d.num f 0 ≤ 9) ∧ d.ph = 0 ∧ d.who = 0 ∧ d.spoken = 0 ∧ d.left = 0 ∧ d.out = 0 ∧ d.queue = [] ∧ d.slate = []
theorem hv_em_new : hv_em hv_new := by
  refine ⟨by decide, rfl, rfl, fun _ _ => rfl, fun _ => rfl, fun _ _ _ => rfl, fun _ _ => ⟨rfl, rfl⟩, fun _ => ⟨by show (0 : Int32) ≤ 0; decide, by show (0 : Int32) ≤ 9; decide⟩, rfl, rfl, rfl, rfl, rfl, rfl, rfl⟩
theorem hv_em_add {d : HV} (h : hv_em d) {x : Int32} (hx : 0 ≤ x ∧ x ≤ 9) (h10 : d.flats < 10) : hv_em (hv_add d x) := by
  obtain ⟨h1, h2, h3, h4, h5, h6, h7, h8, h9⟩ := h
  refine ⟨h10, h2, h3, h4, h5, fun f k hk => ?_, fun f hf => ?_, fun f => ?_, h9⟩
  · show up2 d.num d.flats 0 x f k = 0
    rw [up2_o (by omega)]; exact h6 f k hk
  · have hf : d.flats + 1 ≤ f := hf
    show up2 d.num d.flats 0 x f 0 = 0 ∧ up2 d.num d.flats 0 x f 1 = 0
    rw [up2_o (by omega), up2_o (by omega)]
    exact h7 f (by omega)
  · show 0 ≤ up2 d.num d.flats 0 x f 0 ∧ up2 d.num d.flats 0 x f 0 ≤ 9
    by_cases hf : f = d.flats
    · rw [hf, show up2 d.num d.flats 0 x d.flats 0 = x from if_pos ⟨rfl, rfl⟩]; exact hx
    · rw [up2_o (by omega)]; exact h8 f
theorem hv_em_cur {d : HV} (h : hv_em d) {f0 : Nat} (hf0 : f0 < d.flats) : hv_em (hv_put d f0 1 1) := by
  obtain ⟨h1, h2, h3, h4, h5, h6, h7, h8, h9⟩ := h
  refine ⟨h1, h2, h3, h4, h5, fun f k hk => ?_, fun f hf => ?_, fun f => ?_, h9⟩
  · show up2 d.num f0 1 1 f k = 0
    rw [up2_o (by omega)]; exact h6 f k hk
  · have hf : d.flats ≤ f := hf
    show up2 d.num f0 1 1 f 0 = 0 ∧ up2 d.num f0 1 1 f 1 = 0
    rw [up2_o (by omega), up2_o (by omega)]
    exact h7 f (by omega)
  · show 0 ≤ up2 d.num f0 1 1 f 0 ∧ up2 d.num f0 1 1 f 0 ≤ 9
    rw [up2_o (by omega)]; exact h8 f
theorem hv_em_g {d : HV} (h : hv_em d) : hv_g 0 d := by
  obtain ⟨h1, h2, h3, h4, h5, h6, h7, h8, h9, h10, h11, h12, h13, h14, h15⟩ := h
  have s2 : ∀ f : Nat, d.num f 2 = 0 := fun f => h6 f 2 (by omega)
  have s4 : ∀ f : Nat, d.num f 4 = 0 := fun f => h6 f 4 (by omega)
  have hset : d.set 1 = 3 := h4 1 (by decide)
  refine ⟨⟨⟨h1, ?_, ?_, ?_, ?_, ?_, ?_, ?_, ?_, ?_, ?_, ?_, ?_, ?_, ?_, ?_, ?_, ?_, ?_, ?_⟩, fun q => absurd h9 q⟩, ⟨?_, ?_⟩, ?_⟩
  · rw [h14]; exact fun x hx => absurd hx (by simp)
  · rw [h14]; exact List.nodup_nil
  · intro f _ q; rw [s2] at q; exact absurd q (by decide)
  · exact fun f _ => Or.inl (s2 f)
  · exact Or.inl h9
  · exact fun _ => ⟨h10, h11, h12, h13⟩
  · exact fun q => absurd h9 q
  · intro q; rw [h9] at q; exact absurd q (by decide)
  · intro f _ q; rw [s2] at q; exact absurd q (by decide)
  · intro q; rw [h9] at q; exact absurd q (by decide)
  · exact Or.inl h13
  · rw [h15]; exact fun x hx => absurd hx (by simp)
  · rw [h15]; exact Nat.zero_le _
  · rw [hset]; decide
  · rw [h12]; decide
  · intro f _ q; rw [s2] at q; exact absurd q (by decide)
  · intro f _ q
    rw [s2] at q
    rcases q with q | q
    · exact absurd q (by decide)
    · exact absurd q.1 (by decide)
  · exact fun f _ _ => s4 f
  · exact fun f _ => h8 f
  · rw [h11, h12]; decide
  · intro i hi
    rw [h4 i hi]
    have : ∀ i : Nat, i < 6 → (0 : Int32) ≤ hp_fs.getD i 0 := by decide +kernel
    exact this i hi
  · exact ⟨⟨0, h2.trans nI_0.symm, Nat.le_refl _⟩, ⟨0, (h5 1).trans nI_0.symm, Nat.le_refl _⟩, by rw [h15]; exact fun x hx => absurd hx (by simp)⟩
section TEXT2
variable {T : Nat → Int32} {L : Nat}
theorem tk_fl_in (hL : L ≤ 700) : ∀ (n p : Nat) (d : HV), n + d.flats = 11 → p ≤ L → hv_em d → (∃ e, tk_fl T L n p d = .inl e ∧ tk_ER e) ∨ ∃ q d', tk_fl T L n p d = .inr (q, d') ∧ 0 < q ∧ q ≤ L ∧ hv_em d' := by
  intro n
  induction n with
  | zero => exact fun p d h hp hd => absurd hd.1 (by omega)
  | succ n ih =>
    intro p d h hp hd
    have h1 := tk_s_le (T := T) hp
    have h2 := tk_e_le (T := T) hp
    have h3 := tk_e_le (T := T) h2.2
    show (∃ e, (if tk_k T L p = 3 then (if 9 < tk_n T L p then .inl (tk_er T L p 2) else if d.flats = 10 then .inl (tk_er T L p 3) else if tk_is T L (tk_e T L p) 28 then tk_fl T L n (tk_e T L (tk_e T L p)) (hv_put (hv_add d (tk_n T L p)) d.flats 1 1) else tk_fl T L n (tk_e T L p) (hv_add d (tk_n T L p))) else if tk_k T L p = 1 then .inr (tk_e T L p, d) else .inl (tk_er T L p 1)) = .inl e ∧ tk_ER e) ∨ ∃ q d', (if tk_k T L p = 3 then (if 9 < tk_n T L p then .inl (tk_er T L p 2) else if d.flats = 10 then .inl (tk_er T L p 3) else if tk_is T L (tk_e T L p) 28 then tk_fl T L n (tk_e T L (tk_e T L p)) (hv_put (hv_add d (tk_n T L p)) d.flats 1 1) else tk_fl T L n (tk_e T L p) (hv_add d (tk_n T L p))) else if tk_k T L p = 1 then .inr (tk_e T L p, d) else .inl (tk_er T L p 1)) = .inr (q, d') ∧ _
    by_cases hk : tk_k T L p = 3
    · obtain ⟨x, hx1, hx2⟩ := tk_n_nat (T := T) hp hk
      rw [if_pos hk]
      by_cases h9 : 9 < tk_n T L p
      · rw [if_pos h9]; exact Or.inl ⟨_, rfl, tk_er_ER hL hp (by omega) (by omega)⟩
      · rw [if_neg h9]
        by_cases h10 : d.flats = 10
        · rw [if_pos h10]; exact Or.inl ⟨_, rfl, tk_er_ER hL hp (by omega) (by omega)⟩
        · have hn : 0 ≤ tk_n T L p := by rw [hx1]; exact nI_pos' (by omega)
          have hd10 := hd.1
          have ha := hv_em_add hd (x := tk_n T L p) ⟨hn, by grind⟩ (by omega)
          rw [if_neg h10]
          by_cases hc : tk_is T L (tk_e T L p) 28
          · rw [if_pos hc]
            exact ih _ _ (by show n + (d.flats + 1) = 11; omega) h3.2 (hv_em_cur ha (by show d.flats < d.flats + 1; omega))
          · rw [if_neg hc]
            exact ih _ _ (by show n + (d.flats + 1) = 11; omega) h2.2 ha
    · rw [if_neg hk]
      by_cases hk1 : tk_k T L p = 1
      · have h4 := tk_e_lt (T := T) hp (by rw [hk1]; decide)
        rw [if_pos hk1]; exact Or.inr ⟨_, _, rfl, by omega, h2.2, hd⟩
      · rw [if_neg hk1]; exact Or.inl ⟨_, rfl, tk_er_ER hL hp (by omega) (by omega)⟩
theorem tk_house_in (hL : L ≤ 700) : (∃ e, tk_house T L = .inl e ∧ tk_ER e) ∨ ∃ q d', tk_house T L = .inr (q, d') ∧ 0 < q ∧ q ≤ L ∧ hv_em d' := by
  have h2 := tk_e_le (T := T) (L := L) (p := 0) (Nat.zero_le _)
  unfold tk_house
  by_cases h1 : tk_is T L 0 27
  · rw [if_pos h1]
    by_cases hk : tk_k T L (tk_e T L 0) = 3
    · rw [if_pos hk]; exact tk_fl_in hL 11 _ hv_new rfl h2.2 hv_em_new
    · rw [if_neg hk]; exact Or.inl ⟨_, rfl, tk_er_ER hL h2.2 (by omega) (by omega)⟩
  · rw [if_neg h1]; exact Or.inl ⟨_, rfl, tk_er_ER hL (Nat.zero_le _) (by omega) (by omega)⟩
end TEXT2
