/-! ===== the class's deeds ===== -/
/-- the telephone laid down -/
def hv_free (v : HV) : HV := ((((v.s_ph 0).s_who 0).s_spoken 0).s_left 0).s_out 0
def hv_phone (v : HV) (p : Int32) (f : Nat) (m u : Int32) : HV := ((((v.s_ph p).s_who f).s_spoken 0).s_left m).s_out u
def hv_put (v : HV) (f k : Nat) (x : Int32) : HV := v.s_num (up2 v.num f k x)
def hv_acc (v : HV) (i : Nat) (x : Int32) : HV := v.s_acc (up1 v.acc i (v.acc i + x))
def hv_leave (v : HV) (f : Nat) : HV := v.s_queue (v.queue.filter (fun x => decide (x ≠ f)))
/-- f speaks from now on -/
def hv_speak (v : HV) (f : Nat) (m u : Int32) : HV := hv_phone (hv_put (hv_put v f 2 3) f 4 0) 2 f m u
def hv_out (v : HV) (f : Nat) (w : Int32) : HV := hv_put (hv_put (hv_put v f 2 1) f 3 (1 + v.num f 0)) f 4 w
def hv_give (v : HV) (f : Nat) : HV := hv_put (hv_put (hv_put (hv_leave v f) f 2 0) f 3 0) f 4 0
def hv_pay (v : HV) (f : Nat) (x : Int32) : HV := hv_acc (hv_put v f 6 (v.num f 6 - x)) 5 x
def hv_due (v : HV) : Int32 := if v.out = 0 then hv_cost v v.spoken else 0
def hv_end (v : HV) : HV := hv_free ((hv_acc (hv_acc (hv_put (hv_put (hv_put v v.who 2 0) v.who 6 (v.num v.who 6 + hv_due v)) v.who 8 (v.num v.who 8 + 1)) 1 1) 4 (hv_due v)).s_ended (v.ended + v.spoken))
def hv_rest (l : List (Nat × Int32)) (f : Nat) : List (Nat × Int32) := l.filter (fun x => decide (x.1 ≠ f))
section CLS3
variable {g : Nat} {M : hp_M} {v : HV}
theorem x6_wipe (c : CRep (M g) v) (hs : ∀ x ∈ v.slate, x.1 < 10) {f : Nat} {a0 : Int32} (e0 : a0 = nI f) (hf : f < 10) : ∃ M', F_X6_wipeFor g a0 M = some (nI v.slate.length - nI (hv_rest v.slate f).length, M') ∧ CS g M (v.s_slate (hv_rest v.slate f)) M' := by
  subst e0
  have h8 := c.s8
  have key : ∀ (n i : Nat) (M1 : hp_M), i ≤ v.slate.length → v.slate.length < i + n → (∀ g' : Nat, g' ≠ g → M1 g' = M g') → (∀ j' i' : Nat, j' ≠ 9 → j' ≠ 10 → M1 g j' i' = M g j' i') → (∀ i' : Nat, i ≤ i' → M1 g 9 i' = M g 9 i' ∧ M1 g 10 i' = M g 10 i') → (∀ (j : Nat) (x : Nat × Int32), (hv_rest (v.slate.take i) f)[j]? = some x → M1 g 9 j = nI x.1 ∧ M1 g 10 j = x.2) → ∃ M', L_X6_wipeFor_10 g (nI f) (nI v.slate.length) n (nI (hv_rest (v.slate.take i) f).length) (nI i) M1 = some (nI v.slate.length - nI (hv_rest v.slate f).length, M') ∧ CS g M (v.s_slate (hv_rest v.slate f)) M' := by
    intro n
    induction n with
    | zero => intro i M1 h1 h2; omega
    | succ n ih =>
      intro i M1 hi hn ho h7 hd hk
      have hle : (hv_rest (v.slate.take i) f).length ≤ i := by
        have h1 := List.length_filter_le (fun x : Nat × Int32 => decide (x.1 ≠ f)) (v.slate.take i)
        have h2 := List.length_take_le i v.slate
        unfold hv_rest
        omega
      rw [L_X6_wipeFor_10.eq_2]
      by_cases hlt : i < v.slate.length
      · have e8 : ¬ (8 : Int32) ≤ nI i := nI_ge (a := i) (b := 8) (by omega) (by decide)
        have ei : ¬ (nI i < 0 ∨ 8 ≤ (nI i).toNatClampNeg) := nI_in (by omega) (by decide)
        rw [if_neg (nI_ge hlt (by omega)), if_neg e8, if_neg e8, if_neg ei, if_neg ei, if_neg ei, nI_clamp (by omega)]
        obtain ⟨x, hx⟩ : ∃ x, v.slate[i]? = some x := ⟨_, List.getElem?_eq_getElem hlt⟩
        have hxm := hs x (List.mem_of_getElem? hx)
        have ht : v.slate.take (i + 1) = v.slate.take i ++ [x] := by rw [List.take_add_one, hx]; rfl
        rw [(hd i (Nat.le_refl i)).1, (c.sf i x hx).1, nI_1]
        by_cases hxf : x.1 = f
        · rw [if_pos (by rw [hxf])]
          have e : hv_rest (v.slate.take (i + 1)) f = hv_rest (v.slate.take i) f := by unfold hv_rest; rw [ht, List.filter_append]; simp [hxf]
          have := ih (i + 1) M1 (by omega) (by omega) ho h7 (fun i' h => hd i' (by omega)) (by rw [e]; exact hk)
          rw [e] at this
          exact this
        · have e : hv_rest (v.slate.take (i + 1)) f = hv_rest (v.slate.take i) f ++ [x] := by unfold hv_rest; rw [ht, List.filter_append]; simp [hxf]
          have ek : ¬ (nI (hv_rest (v.slate.take i) f).length < 0 ∨ 8 ≤ (nI (hv_rest (v.slate.take i) f).length).toNatClampNeg) := nI_in (by omega) (by decide)
          rw [if_neg (fun q => hxf ((nI_eq (by omega) (by omega)).mp q)), if_neg (nI_nlt hle (by omega)), if_neg ek, if_neg ek, nI_clamp (show (hv_rest (v.slate.take i) f).length < 2 ^ 31 by omega), nI_1]
          have e10 : hp_p M1 g 9 (hv_rest (v.slate.take i) f).length (nI x.1) g 10 i = x.2 := by rw [hp_p_o (h := by omega), (hd i (Nat.le_refl i)).2, (c.sf i x hx).2]
          rw [e10]
          have := ih (i + 1) (hp_p (hp_p M1 g 9 (hv_rest (v.slate.take i) f).length (nI x.1)) g 10 (hv_rest (v.slate.take i) f).length x.2) (by omega) (by omega) (fun g' hg => by rw [hp_p_ne _ _ _ _ hg, hp_p_ne _ _ _ _ hg]; exact ho g' hg) (fun j' i' hj hj2 => by rw [hp_p_o (h := by omega), hp_p_o (h := by omega)]; exact h7 j' i' hj hj2) (fun i' h => by
            have h1 := hd i' (by omega)
            simp only [hp_p_at]
            refine ⟨?_, ?_⟩ <;> grind) (fun j y hy => by
            rw [e] at hy
            by_cases hj : j < (hv_rest (v.slate.take i) f).length
            · rw [List.getElem?_append_left hj] at hy
              have h1 := hk j y hy
              simp only [hp_p_at]
              refine ⟨?_, ?_⟩ <;> grind
            · rw [List.getElem?_append_right (by omega)] at hy
              have hz : j - (hv_rest (v.slate.take i) f).length < 1 := (List.getElem?_eq_some_iff.mp hy).1
              have hz2 : j = (hv_rest (v.slate.take i) f).length := by omega
              subst hz2
              rw [Nat.sub_self] at hy
              cases hy
              simp only [hp_p_at]
              refine ⟨?_, ?_⟩ <;> grind)
          rw [e, List.length_append] at this
          exact this
      · have hie : i = v.slate.length := by omega
        rw [if_pos (nI_le (by omega) (by omega))]
        have hall : v.slate.take i = v.slate := List.take_of_length_le (by omega)
        rw [hall] at hk hle ⊢
        refine ⟨_, rfl, c.pslate (fun j i h9 h10 h8' => ?_) (hp_p_s _ _ _ _ _) (by omega) (fun j x hx => ?_), fun g' hg => by rw [hp_p_ne _ _ _ _ hg]; exact ho g' hg⟩
        · rw [hp_p_o (h := by omega)]; exact h7 j i h9 h10
        · have h1 := hk j x hx
          simp only [hp_p_at]
          refine ⟨?_, ?_⟩ <;> grind
  unfold F_X6_wipeFor
  rw [c.sl]
  exact key hp_fu 0 M (Nat.zero_le _) (by unfold hp_fu; omega) (fun _ _ => rfl) (fun _ _ _ _ => rfl) (fun _ _ => ⟨rfl, rfl⟩) (fun j x hx => by simp [hv_rest] at hx)
theorem x3_free (c : CRep (M g) v) : ∃ M', F_X3_putDown g M = some ((), M') ∧ CS g M (hv_free v) M' := by
  unfold F_X3_putDown
  refine ⟨_, rfl, c.pphone (p := 0) (w := 0) (fun j i hj => ?_) ?_ ?_ ?_ ?_ ?_, fun g' hg => ?_⟩
  all_goals (try funext j' i') <;> simp only [hp_p_at] <;> grind
theorem x3_hold (c : CRep (M g) v) {f : Nat} {a0 m : Int32} (e0 : a0 = nI f) : ∃ M', F_X3_holdFor g a0 m M = some ((), M') ∧ CS g M (hv_phone v 1 f m 1) M' := by
  subst e0
  unfold F_X3_holdFor
  refine ⟨_, rfl, c.pphone (p := 1) (w := f) (fun j i hj => ?_) ?_ ?_ ?_ ?_ ?_, fun g' hg => ?_⟩
  all_goals (try funext j' i') <;> simp only [hp_p_at] <;> grind
theorem x3_conn (c : CRep (M g) v) {f : Nat} {a0 m u : Int32} (e0 : a0 = nI f) (hu : u = 0 ∨ u = 1) : ∃ M', F_X3_connect g a0 m u M = some ((), M') ∧ CS g M (hv_phone v 2 f m u) M' := by
  subst e0
  unfold F_X3_connect
  rw [if_pos hu]
  refine ⟨_, rfl, c.pphone (p := 2) (w := f) (fun j i hj => ?_) ?_ ?_ ?_ ?_ ?_, fun g' hg => ?_⟩
  all_goals (try funext j' i') <;> simp only [hp_p_at] <;> grind
theorem x2_conn (c : CRep (M g) v) (hq : ∀ x ∈ v.queue, x < 10) {f : Nat} {a0 m u : Int32} (e0 : a0 = nI f) (hf : f < 10) (hu : u = 0 ∨ u = 1) : ∃ M', F_X2_connect g a0 m u M = some ((), M') ∧ CS g M (hv_speak (hv_leave v f) f m u) M' := by
  unfold F_X2_connect
  obtain ⟨M1, e1, c1⟩ := x4_leave c hq e0 hf
  rw [e1, hp_b_some, x2_p2 e0 hf, hp_b_some, x2_p4 e0 hf, hp_b_some]
  have c2 := CS.num (f := f) (k := 2) (x := 3) c1.1 hf (by decide)
  have c3 := CS.num (f := f) (k := 4) (x := 0) c2.1 hf (by decide)
  obtain ⟨M4, e4, c4⟩ := x3_conn (m := m) c3.1 e0 hu
  rw [e4, hp_b_some]
  exact ⟨M4, rfl, ((c1.tr c2).tr c3).tr c4⟩
theorem x2_out (c : CRep (M g) v) {f : Nat} {a0 w : Int32} (e0 : a0 = nI f) (hf : f < 10) : ∃ M', F_X2_setOut g a0 w M = some (1 + v.num f 0, M') ∧ CS g M (hv_out v f w) M' := by
  unfold F_X2_setOut
  rw [x2_g0 c e0 hf, hp_b_some, x2_p2 e0 hf, hp_b_some, x2_p3 e0 hf, hp_b_some, x2_p4 e0 hf, hp_b_some]
  have c1 := CS.num (f := f) (k := 2) (x := 1) c hf (by decide)
  have c2 := CS.num (f := f) (k := 3) (x := 1 + v.num f 0) c1.1 hf (by decide)
  have c3 := CS.num (f := f) (k := 4) (x := w) c2.1 hf (by decide)
  exact ⟨_, rfl, (c1.tr c2).tr c3⟩
theorem x2_give (c : CRep (M g) v) (hq : ∀ x ∈ v.queue, x < 10) {f : Nat} {a0 : Int32} (e0 : a0 = nI f) (hf : f < 10) : ∃ M', F_X2_giveUp g a0 M = some (v.num f 4, M') ∧ CS g M (hv_give v f) M' := by
  unfold F_X2_giveUp
  rw [x2_g4 c e0 hf, hp_b_some]
  obtain ⟨M1, e1, c1⟩ := x4_leave c hq e0 hf
  rw [e1, hp_b_some, x2_p2 e0 hf, hp_b_some, x2_p3 e0 hf, hp_b_some, x2_p4 e0 hf, hp_b_some]
  have c2 := CS.num (f := f) (k := 2) (x := 0) c1.1 hf (by decide)
  have c3 := CS.num (f := f) (k := 3) (x := 0) c2.1 hf (by decide)
  have c4 := CS.num (f := f) (k := 4) (x := 0) c3.1 hf (by decide)
  exact ⟨_, rfl, ((c1.tr c2).tr c3).tr c4⟩
theorem x2_money (c : CRep (M g) v) {f : Nat} {a0 x : Int32} (e0 : a0 = nI f) (hf : f < 10) : ∃ M', F_X2_takeMoney g a0 x M = some (v.num f 6 - x, M') ∧ CS g M (hv_pay v f x) M' := by
  unfold F_X2_takeMoney
  rw [x2_g6 c e0 hf, hp_b_some, x2_p6 e0 hf, hp_b_some]
  have c1 := CS.num (f := f) (k := 6) (x := v.num f 6 - x) c hf (by decide)
  rw [c1.1.ac 5 (by decide) (by decide)]
  exact ⟨_, rfl, c1.tr (CS.acc (i := 5) c1.1)⟩
end CLS3
