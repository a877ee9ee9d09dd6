/-! ===== the reference's deeds ===== -/
section REF2
variable {M : hp_M} {v : HV}
theorem r_g0 (c : RRep (M 13 1) v) {f : Nat} {a0 : Int32} (e0 : a0 = nI f) (hf : f < 10) : F_X9_of a0 0 M = some (v.num f 0, M) := r_of (a1 := 0) (k := 0) c e0 rfl hf (by decide)
theorem r_t0 (c : RRep (M 13 1) v) {f : Nat} {a0 x : Int32} (e0 : a0 = nI f) (hf : f < 10) : ∃ M', F_X9_to a0 0 x M = some ((), M') ∧ RS M (hv_put v f 0 x) M' := ⟨_, r_to (a1 := 0) (k := 0) e0 rfl hf (by decide), RS.num (k := 0) c hf (by decide)⟩
theorem r_a0 (c : RRep (M 13 1) v) {f : Nat} {a0 x : Int32} (e0 : a0 = nI f) (hf : f < 10) : ∃ M', F_X9_adds a0 0 x M = some ((), M') ∧ RS M (hv_put v f 0 (v.num f 0 + x)) M' := ⟨_, r_adds (a1 := 0) (k := 0) c e0 rfl hf (by decide), RS.num (k := 0) c hf (by decide)⟩
theorem r_g1 (c : RRep (M 13 1) v) {f : Nat} {a0 : Int32} (e0 : a0 = nI f) (hf : f < 10) : F_X9_of a0 1 M = some (v.num f 1, M) := r_of (a1 := 1) (k := 1) c e0 rfl hf (by decide)
theorem r_t1 (c : RRep (M 13 1) v) {f : Nat} {a0 x : Int32} (e0 : a0 = nI f) (hf : f < 10) : ∃ M', F_X9_to a0 1 x M = some ((), M') ∧ RS M (hv_put v f 1 x) M' := ⟨_, r_to (a1 := 1) (k := 1) e0 rfl hf (by decide), RS.num (k := 1) c hf (by decide)⟩
theorem r_a1 (c : RRep (M 13 1) v) {f : Nat} {a0 x : Int32} (e0 : a0 = nI f) (hf : f < 10) : ∃ M', F_X9_adds a0 1 x M = some ((), M') ∧ RS M (hv_put v f 1 (v.num f 1 + x)) M' := ⟨_, r_adds (a1 := 1) (k := 1) c e0 rfl hf (by decide), RS.num (k := 1) c hf (by decide)⟩
theorem r_g2 (c : RRep (M 13 1) v) {f : Nat} {a0 : Int32} (e0 : a0 = nI f) (hf : f < 10) : F_X9_of a0 2 M = some (v.num f 2, M) := r_of (a1 := 2) (k := 2) c e0 rfl hf (by decide)
theorem r_t2 (c : RRep (M 13 1) v) {f : Nat} {a0 x : Int32} (e0 : a0 = nI f) (hf : f < 10) : ∃ M', F_X9_to a0 2 x M = some ((), M') ∧ RS M (hv_put v f 2 x) M' := ⟨_, r_to (a1 := 2) (k := 2) e0 rfl hf (by decide), RS.num (k := 2) c hf (by decide)⟩
theorem r_a2 (c : RRep (M 13 1) v) {f : Nat} {a0 x : Int32} (e0 : a0 = nI f) (hf : f < 10) : ∃ M', F_X9_adds a0 2 x M = some ((), M') ∧ RS M (hv_put v f 2 (v.num f 2 + x)) M' := ⟨_, r_adds (a1 := 2) (k := 2) c e0 rfl hf (by decide), RS.num (k := 2) c hf (by decide)⟩
theorem r_g3 (c : RRep (M 13 1) v) {f : Nat} {a0 : Int32} (e0 : a0 = nI f) (hf : f < 10) : F_X9_of a0 3 M = some (v.num f 3, M) := r_of (a1 := 3) (k := 3) c e0 rfl hf (by decide)
theorem r_t3 (c : RRep (M 13 1) v) {f : Nat} {a0 x : Int32} (e0 : a0 = nI f) (hf : f < 10) : ∃ M', F_X9_to a0 3 x M = some ((), M') ∧ RS M (hv_put v f 3 x) M' := ⟨_, r_to (a1 := 3) (k := 3) e0 rfl hf (by decide), RS.num (k := 3) c hf (by decide)⟩
theorem r_a3 (c : RRep (M 13 1) v) {f : Nat} {a0 x : Int32} (e0 : a0 = nI f) (hf : f < 10) : ∃ M', F_X9_adds a0 3 x M = some ((), M') ∧ RS M (hv_put v f 3 (v.num f 3 + x)) M' := ⟨_, r_adds (a1 := 3) (k := 3) c e0 rfl hf (by decide), RS.num (k := 3) c hf (by decide)⟩
theorem r_g4 (c : RRep (M 13 1) v) {f : Nat} {a0 : Int32} (e0 : a0 = nI f) (hf : f < 10) : F_X9_of a0 4 M = some (v.num f 4, M) := r_of (a1 := 4) (k := 4) c e0 rfl hf (by decide)
theorem r_t4 (c : RRep (M 13 1) v) {f : Nat} {a0 x : Int32} (e0 : a0 = nI f) (hf : f < 10) : ∃ M', F_X9_to a0 4 x M = some ((), M') ∧ RS M (hv_put v f 4 x) M' := ⟨_, r_to (a1 := 4) (k := 4) e0 rfl hf (by decide), RS.num (k := 4) c hf (by decide)⟩
theorem r_a4 (c : RRep (M 13 1) v) {f : Nat} {a0 x : Int32} (e0 : a0 = nI f) (hf : f < 10) : ∃ M', F_X9_adds a0 4 x M = some ((), M') ∧ RS M (hv_put v f 4 (v.num f 4 + x)) M' := ⟨_, r_adds (a1 := 4) (k := 4) c e0 rfl hf (by decide), RS.num (k := 4) c hf (by decide)⟩
theorem r_g5 (c : RRep (M 13 1) v) {f : Nat} {a0 : Int32} (e0 : a0 = nI f) (hf : f < 10) : F_X9_of a0 5 M = some (v.num f 6, M) := r_of (a1 := 5) (k := 5) c e0 rfl hf (by decide)
theorem r_t5 (c : RRep (M 13 1) v) {f : Nat} {a0 x : Int32} (e0 : a0 = nI f) (hf : f < 10) : ∃ M', F_X9_to a0 5 x M = some ((), M') ∧ RS M (hv_put v f 6 x) M' := ⟨_, r_to (a1 := 5) (k := 5) e0 rfl hf (by decide), RS.num (k := 5) c hf (by decide)⟩
theorem r_a5 (c : RRep (M 13 1) v) {f : Nat} {a0 x : Int32} (e0 : a0 = nI f) (hf : f < 10) : ∃ M', F_X9_adds a0 5 x M = some ((), M') ∧ RS M (hv_put v f 6 (v.num f 6 + x)) M' := ⟨_, r_adds (a1 := 5) (k := 5) c e0 rfl hf (by decide), RS.num (k := 5) c hf (by decide)⟩
theorem r_g6 (c : RRep (M 13 1) v) {f : Nat} {a0 : Int32} (e0 : a0 = nI f) (hf : f < 10) : F_X9_of a0 6 M = some (v.num f 7, M) := r_of (a1 := 6) (k := 6) c e0 rfl hf (by decide)
theorem r_t6 (c : RRep (M 13 1) v) {f : Nat} {a0 x : Int32} (e0 : a0 = nI f) (hf : f < 10) : ∃ M', F_X9_to a0 6 x M = some ((), M') ∧ RS M (hv_put v f 7 x) M' := ⟨_, r_to (a1 := 6) (k := 6) e0 rfl hf (by decide), RS.num (k := 6) c hf (by decide)⟩
theorem r_a6 (c : RRep (M 13 1) v) {f : Nat} {a0 x : Int32} (e0 : a0 = nI f) (hf : f < 10) : ∃ M', F_X9_adds a0 6 x M = some ((), M') ∧ RS M (hv_put v f 7 (v.num f 7 + x)) M' := ⟨_, r_adds (a1 := 6) (k := 6) c e0 rfl hf (by decide), RS.num (k := 6) c hf (by decide)⟩
theorem r_g7 (c : RRep (M 13 1) v) {f : Nat} {a0 : Int32} (e0 : a0 = nI f) (hf : f < 10) : F_X9_of a0 7 M = some (v.num f 8, M) := r_of (a1 := 7) (k := 7) c e0 rfl hf (by decide)
theorem r_t7 (c : RRep (M 13 1) v) {f : Nat} {a0 x : Int32} (e0 : a0 = nI f) (hf : f < 10) : ∃ M', F_X9_to a0 7 x M = some ((), M') ∧ RS M (hv_put v f 8 x) M' := ⟨_, r_to (a1 := 7) (k := 7) e0 rfl hf (by decide), RS.num (k := 7) c hf (by decide)⟩
theorem r_a7 (c : RRep (M 13 1) v) {f : Nat} {a0 x : Int32} (e0 : a0 = nI f) (hf : f < 10) : ∃ M', F_X9_adds a0 7 x M = some ((), M') ∧ RS M (hv_put v f 8 (v.num f 8 + x)) M' := ⟨_, r_adds (a1 := 7) (k := 7) c e0 rfl hf (by decide), RS.num (k := 7) c hf (by decide)⟩
theorem r_g8 (c : RRep (M 13 1) v) {f : Nat} {a0 : Int32} (e0 : a0 = nI f) (hf : f < 10) : F_X9_of a0 8 M = some (v.num f 10, M) := r_of (a1 := 8) (k := 8) c e0 rfl hf (by decide)
theorem r_t8 (c : RRep (M 13 1) v) {f : Nat} {a0 x : Int32} (e0 : a0 = nI f) (hf : f < 10) : ∃ M', F_X9_to a0 8 x M = some ((), M') ∧ RS M (hv_put v f 10 x) M' := ⟨_, r_to (a1 := 8) (k := 8) e0 rfl hf (by decide), RS.num (k := 8) c hf (by decide)⟩
theorem r_a8 (c : RRep (M 13 1) v) {f : Nat} {a0 x : Int32} (e0 : a0 = nI f) (hf : f < 10) : ∃ M', F_X9_adds a0 8 x M = some ((), M') ∧ RS M (hv_put v f 10 (v.num f 10 + x)) M' := ⟨_, r_adds (a1 := 8) (k := 8) c e0 rfl hf (by decide), RS.num (k := 8) c hf (by decide)⟩
theorem r_c1 (c : RRep (M 13 1) v) {x : Int32} : ∃ M', F_X9_counts 1 x M = some ((), M') ∧ RS M (hv_acc v 1 x) M' := ⟨_, r_counts (a0 := 1) (i := 1) c rfl (by decide) (by decide), RS.acc c (by decide) (by decide)⟩
theorem r_c2 (c : RRep (M 13 1) v) {x : Int32} : ∃ M', F_X9_counts 2 x M = some ((), M') ∧ RS M (hv_acc v 2 x) M' := ⟨_, r_counts (a0 := 2) (i := 2) c rfl (by decide) (by decide), RS.acc c (by decide) (by decide)⟩
theorem r_c3 (c : RRep (M 13 1) v) {x : Int32} : ∃ M', F_X9_counts 3 x M = some ((), M') ∧ RS M (hv_acc v 3 x) M' := ⟨_, r_counts (a0 := 3) (i := 3) c rfl (by decide) (by decide), RS.acc c (by decide) (by decide)⟩
theorem r_c4 (c : RRep (M 13 1) v) {x : Int32} : ∃ M', F_X9_counts 4 x M = some ((), M') ∧ RS M (hv_acc v 4 x) M' := ⟨_, r_counts (a0 := 4) (i := 4) c rfl (by decide) (by decide), RS.acc c (by decide) (by decide)⟩
theorem r_c5 (c : RRep (M 13 1) v) {x : Int32} : ∃ M', F_X9_counts 5 x M = some ((), M') ∧ RS M (hv_acc v 5 x) M' := ⟨_, r_counts (a0 := 5) (i := 5) c rfl (by decide) (by decide), RS.acc c (by decide) (by decide)⟩
theorem r_c6 (c : RRep (M 13 1) v) {x : Int32} : ∃ M', F_X9_counts 6 x M = some ((), M') ∧ RS M (hv_acc v 6 x) M' := ⟨_, r_counts (a0 := 6) (i := 6) c rfl (by decide) (by decide), RS.acc c (by decide) (by decide)⟩
theorem r_c7 (c : RRep (M 13 1) v) {x : Int32} : ∃ M', F_X9_counts 7 x M = some ((), M') ∧ RS M (hv_acc v 7 x) M' := ⟨_, r_counts (a0 := 7) (i := 7) c rfl (by decide) (by decide), RS.acc c (by decide) (by decide)⟩
theorem r_c8 (c : RRep (M 13 1) v) {x : Int32} : ∃ M', F_X9_counts 8 x M = some ((), M') ∧ RS M (hv_acc v 8 x) M' := ⟨_, r_counts (a0 := 8) (i := 8) c rfl (by decide) (by decide), RS.acc c (by decide) (by decide)⟩
theorem r_c9 (c : RRep (M 13 1) v) {x : Int32} : ∃ M', F_X9_counts 9 x M = some ((), M') ∧ RS M (hv_acc v 9 x) M' := ⟨_, r_counts (a0 := 9) (i := 9) c rfl (by decide) (by decide), RS.acc c (by decide) (by decide)⟩
theorem r_counts0 {i : Nat} {a0 x : Int32} (e0 : a0 = nI i) (hi2 : i < 10) : F_X9_counts a0 x M = some ((), hp_p M 13 1 (42 + i) (M 13 1 (42 + i) + x)) := by
  subst e0
  unfold F_X9_counts
  have h1 : ¬ (nI 42 + nI i < 0 ∨ 242 ≤ (nI 42 + nI i).toNatClampNeg) := by rw [nI_add]; exact nI_in (by omega) (by decide)
  rw [show (42 : Int32) = nI 42 from rfl, if_neg h1, if_neg h1, show (nI 42 + nI i).toNatClampNeg = 42 + i by rw [nI_add]; exact nI_clamp (by omega)]
theorem r_lies (c : RRep (M 13 1) v) : ∃ M', F_X9_lies M = some ((), M') ∧ RS M (hv_free v) M' := by
  have c1 := RS.ph (x := 0) c
  have c2 := RS.who (w := 0) c1.1
  have c3 := RS.spoken (x := 0) c2.1
  have c4 := RS.left (x := 0) c3.1
  have c5 := RS.out (x := 0) c4.1
  exact ⟨_, rfl, (((c1.tr c2).tr c3).tr c4).tr c5⟩
theorem r_speaks (c : RRep (M 13 1) v) {f : Nat} {a0 m u : Int32} (e0 : a0 = nI f) (hf : f < 10) (hu : u = 0 ∨ u = 1) : ∃ M', F_X9_speaks a0 m u M = some ((), M') ∧ RS M (hv_speak v f m u) M' := by
  unfold F_X9_speaks
  obtain ⟨M1, e1, c1⟩ := r_t2 (x := 3) c e0 hf
  obtain ⟨M2, e2, c2⟩ := r_t4 (x := 0) c1.1 e0 hf
  rw [e1, hp_b_some, e2, hp_b_some]
  subst e0
  have c3 := RS.ph (x := 2) c2.1
  have c4 := RS.who (w := f) c3.1
  have c5 := RS.spoken (x := 0) c4.1
  have c6 := RS.left (x := m) c5.1
  have c7 := RS.out (x := u) c6.1
  have h := (((((c1.tr c2).tr c3).tr c4).tr c5).tr c6).tr c7
  rcases hu with rfl | rfl
  · exact ⟨_, rfl, h⟩
  · exact ⟨_, rfl, h⟩
theorem r_cost (c : RRep (M 13 1) v) (hu : 0 < v.set 1) (m : Int32) : F_X9_costOf m M = some (hv_cost v m, M) := by
  unfold F_X9_costOf
  rw [c.st 1 (by decide), c.st 2 (by decide), if_neg (by grind)]
  rfl
theorem r_ends (c : RRep (M 13 1) v) (hf : v.who < 10) (hu : 0 < v.set 1) (ho : v.out = 0 ∨ v.out = 1) : ∃ M', F_X9_ends M = some ((), M') ∧ RS M (hv_end v) M' := by
  have key : ∃ M', A_X9_ends_32 (nI v.who) (hv_due v) M = some ((), M') ∧ RS M (hv_end v) M' := by
    unfold A_X9_ends_32
    obtain ⟨M1, e1, c1⟩ := r_t2 (a0 := nI v.who) (x := 0) c rfl hf
    obtain ⟨M2, e2, c2⟩ := r_a5 (a0 := nI v.who) (f := v.who) (x := hv_due v) c1.1 rfl hf
    obtain ⟨M3, e3, c3⟩ := r_a7 (a0 := nI v.who) (f := v.who) (x := 1) c2.1 rfl hf
    obtain ⟨M4, e4, c4⟩ := r_c4 (x := hv_due v) c3.1
    obtain ⟨M5, e5, c5⟩ := r_c1 (x := 1) c4.1
    rw [e1, hp_b_some, e2, hp_b_some, e3, hp_b_some, e4, hp_b_some, e5, hp_b_some, c5.1.en, c5.1.sp]
    have c6 := RS.ended (x := v.ended + v.spoken) c5.1
    obtain ⟨M7, e7, c7⟩ := r_lies c6.1
    refine ⟨M7, ?_, ?_⟩
    · refine Eq.trans ?_ (show hp_b (F_X9_lies (hp_p M5 13 1 41 (v.ended + v.spoken))) (fun _ M6 => some ((), M6)) = some ((), M7) by rw [e7, hp_b_some])
      rfl
    · have h := (((((c1.tr c2).tr c3).tr c4).tr c5).tr c6).tr c7
      have e : hv_free ((hv_acc (hv_acc (hv_put (hv_put (hv_put v v.who 2 0) v.who 6 ((hv_put v v.who 2 0).num v.who 6 + hv_due v)) v.who 8 ((hv_put (hv_put v v.who 2 0) v.who 6 ((hv_put v v.who 2 0).num v.who 6 + hv_due v)).num v.who 8 + 1)) 4 (hv_due v)) 1 1).s_ended (v.ended + v.spoken)) = hv_end v := by
        have a1 : (hv_put v v.who 2 0).num v.who 6 = v.num v.who 6 := by show up2 v.num v.who 2 0 v.who 6 = _; simp [up2]
        have a2 : (hv_put (hv_put v v.who 2 0) v.who 6 (v.num v.who 6 + hv_due v)).num v.who 8 = v.num v.who 8 := by show up2 (up2 v.num v.who 2 0) v.who 6 (v.num v.who 6 + hv_due v) v.who 8 = _; simp [up2]
        rw [a1, a2]
        have a3 : up1 (up1 v.acc 4 (v.acc 4 + hv_due v)) 1 (v.acc 1 + 1) = up1 (up1 v.acc 1 (v.acc 1 + 1)) 4 (v.acc 4 + hv_due v) := by
          funext i; unfold up1; grind
        show hv_free (((hv_put (hv_put (hv_put v v.who 2 0) v.who 6 (v.num v.who 6 + hv_due v)) v.who 8 (v.num v.who 8 + 1)).s_acc (up1 (up1 v.acc 4 (v.acc 4 + hv_due v)) 1 (v.acc 1 + 1))).s_ended (v.ended + v.spoken)) = _
        rw [a3]
        rfl
      rw [e] at h
      exact h
  unfold F_X9_ends
  rw [c.ou, c.wh, c.sp]
  rcases ho with h | h
  · rw [if_neg (by rw [h]; decide), r_cost c hu, hp_b_some]
    have : hv_due v = hv_cost v v.spoken := if_pos h
    rw [← this]; exact key
  · rw [if_pos h]
    have : hv_due v = 0 := if_neg (by rw [h]; decide)
    rw [← this]; exact key
theorem r_called (c : RRep (M 13 1) v) {f : Nat} {a0 : Int32} (e0 : a0 = nI f) (hf : f < 10) (hw : v.who < 10) : F_X9_isCalled a0 M = some (if v.ph = 1 ∧ v.who = f then 1 else 0, M) := by
  subst e0
  unfold F_X9_isCalled
  rw [c.ph, c.wh]
  by_cases h : v.ph = 1
  · rw [if_pos h]
    by_cases h2 : v.who = f
    · rw [if_pos (by rw [h2]), if_pos ⟨h, h2⟩]
    · rw [if_neg (fun q => h2 ((nI_eq (by omega) (by omega)).mp q)), if_neg (fun q => h2 q.2)]
  · rw [if_neg h, if_neg (fun q => h q.1)]
theorem r_place (c : RRep (M 13 1) v) (hq : ∀ x ∈ v.queue, x < 10) {f : Nat} {a0 : Int32} (e0 : a0 = nI f) (hf : f < 10) : F_X9_placeOf a0 M = some (hv_pl v.queue f 0, M) := by
  subst e0
  have h10 := c.q10
  have key : ∀ (n i : Nat), i ≤ v.queue.length → v.queue.length < i + n → L_X9_placeOf_2 (nI f) n (nI i) M = some (hv_pl (v.queue.drop i) f i, M) := by
    intro n
    induction n with
    | zero => intro i h1 h2; omega
    | succ n ih =>
      intro i hi hn
      rw [L_X9_placeOf_2.eq_2, c.ql]
      by_cases hlt : i < v.queue.length
      · obtain ⟨x, hx⟩ : ∃ x, v.queue[i]? = some x := ⟨_, List.getElem?_eq_getElem hlt⟩
        have hxm : x < 10 := hq x (List.mem_of_getElem? hx)
        rw [if_neg (nI_ge hlt (by omega)), show (31 : Int32) = nI 31 from rfl, nI_add, if_neg (nI_in (by omega) (by decide)), nI_clamp (by omega), c.qu i x hx, nI_1, ih (i + 1) (by omega) (by omega)]
        have hd : v.queue.drop i = x :: v.queue.drop (i + 1) := by
          rw [List.drop_eq_getElem_cons hlt]
          rw [List.getElem?_eq_getElem hlt] at hx
          cases hx; rfl
        rw [hd]
        show _ = some (if x = f then nI i else hv_pl (v.queue.drop (i + 1)) f (i + 1), M)
        by_cases hxf : x = f
        · rw [if_pos (by rw [hxf]), if_pos hxf]
        · rw [if_neg (fun q => hxf ((nI_eq (by omega) (by omega)).mp q)), if_neg hxf]
      · rw [if_pos (nI_le (by omega) (by omega)), List.drop_of_length_le (by omega)]
        rfl
  unfold F_X9_placeOf
  exact key hp_fu 0 (Nat.zero_le _) (by unfold hp_fu; omega)
end REF2
