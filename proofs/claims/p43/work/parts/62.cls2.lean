/-! ===== the class's queue, slate, telephone ===== -/
section CLS2
variable {g : Nat} {M : hp_M} {v : HV}
theorem hp_p_o (M : hp_M) (g j i : Nat) (x : Int32) {g' j' i' : Nat} (h : ¬ (g' = g ∧ j' = j ∧ i' = i)) : hp_p M g j i x g' j' i' = M g' j' i' := if_neg h
theorem hp_p_s (M : hp_M) (g j i : Nat) (x : Int32) : hp_p M g j i x g j i = x := if_pos ⟨rfl, rfl, rfl⟩
theorem nI_in2 {c N : Nat} (h : c < N) (hN : N < 2 ^ 31) : ¬ (nI c < 0 ∨ N ≤ c) := fun q => q.elim (nI_pos (by omega)) (by omega)
theorem x4_at (c : CRep (M g) v) {i x : Nat} {a0 : Int32} (e0 : a0 = nI i) (hx : v.queue[i]? = some x) : F_X4_at g a0 M = some (nI x, M) := by
  subst e0
  have hl : i < v.queue.length := (List.getElem?_eq_some_iff.mp hx).1
  have h10 := c.q10
  unfold F_X4_at
  rw [c.ql, if_neg (nI_pos (by omega)), if_neg (nI_ge hl (by omega)), if_neg (show ¬ (10 : Int32) ≤ nI i from nI_ge (a := i) (b := 10) (by omega) (by decide)), if_neg (nI_in (by omega) (by decide)), nI_clamp (by omega), c.qu i x hx]
theorem x4_join (c : CRep (M g) v) {f : Nat} {a0 : Int32} (e0 : a0 = nI f) (hl : v.queue.length < 10) : ∃ M', F_X4_join g a0 M = some ((), M') ∧ CS g M (v.s_queue (v.queue ++ [f])) M' := by
  subst e0
  unfold F_X4_join
  rw [c.ql, if_neg (nI_pos (by omega)), if_neg (show ¬ (10 : Int32) ≤ nI v.queue.length from nI_ge (b := 10) hl (by decide)), if_neg (nI_in hl (by decide)), nI_clamp (by omega)]
  rw [hp_p_o (h := by omega), c.ql, nI_1]
  refine ⟨_, rfl, c.pqueue (fun j i h7 h6 => ?_) ?_ (by simp; omega) (fun i x hx => ?_), fun g' hg => by rw [hp_p_ne _ _ _ _ hg, hp_p_ne _ _ _ _ hg]⟩
  · rw [hp_p_o (h := by omega), hp_p_o (h := by omega)]
  · rw [hp_p_s, List.length_append]; rfl
  · rw [hp_p_o (h := by omega)]
    by_cases hi : i < v.queue.length
    · rw [hp_p_o (h := by omega)]
      rw [List.getElem?_append_left hi] at hx
      exact c.qu i x hx
    · rw [List.getElem?_append_right (by omega)] at hx
      have hz : i - v.queue.length < 1 := (List.getElem?_eq_some_iff.mp hx).1
      have hz2 : i = v.queue.length := by omega
      subst hz2
      rw [Nat.sub_self] at hx
      cases hx
      rw [hp_p_s]
theorem x4_leave (c : CRep (M g) v) (hq : ∀ x ∈ v.queue, x < 10) {f : Nat} {a0 : Int32} (e0 : a0 = nI f) (hf : f < 10) : ∃ M', F_X4_leave g a0 M = some ((), M') ∧ CS g M (v.s_queue (v.queue.filter (fun x => decide (x ≠ f)))) M' := by
  subst e0
  have h10 := c.q10
  have key : ∀ (n i : Nat) (M1 : hp_M), i ≤ v.queue.length → v.queue.length < i + n → (∀ g' : Nat, g' ≠ g → M1 g' = M g') → (∀ j' i' : Nat, j' ≠ 7 → M1 g j' i' = M g j' i') → (∀ i' : Nat, i ≤ i' → M1 g 7 i' = M g 7 i') → (∀ j x : Nat, ((v.queue.take i).filter (fun x => decide (x ≠ f)))[j]? = some x → M1 g 7 j = nI x) → ∃ M', L_X4_leave_4 g (nI f) n (nI ((v.queue.take i).filter (fun x => decide (x ≠ f))).length) (nI i) M1 = some ((), M') ∧ CS g M (v.s_queue (v.queue.filter (fun x => decide (x ≠ f)))) M' := by
    intro n
    induction n with
    | zero => intro i M1 h1 h2; omega
    | succ n ih =>
      intro i M1 hi hn ho h7 hd hk
      have hle : ((v.queue.take i).filter (fun x => decide (x ≠ f))).length ≤ i := by
        have h1 := List.length_filter_le (fun x => decide (x ≠ f)) (v.queue.take i)
        have h2 := List.length_take_le i v.queue
        omega
      rw [L_X4_leave_4.eq_2, h7 6 1 (by decide), c.ql]
      by_cases hlt : i < v.queue.length
      · rw [if_neg (nI_ge hlt (by omega)), if_neg (show ¬ (10 : Int32) ≤ nI i from nI_ge (a := i) (b := 10) (by omega) (by decide)), if_neg (nI_in (by omega) (by decide)), nI_clamp (by omega), hd i (Nat.le_refl i)]
        obtain ⟨x, hx⟩ : ∃ x, v.queue[i]? = some x := ⟨_, List.getElem?_eq_getElem hlt⟩
        have hxm : x < 10 := hq x (List.mem_of_getElem? hx)
        have ht : v.queue.take (i + 1) = v.queue.take i ++ [x] := by rw [List.take_add_one, hx]; rfl
        rw [c.qu i x hx, nI_1]
        by_cases hxf : x = f
        · rw [if_pos (by rw [hxf])]
          have e : (v.queue.take (i + 1)).filter (fun x => decide (x ≠ f)) = (v.queue.take i).filter (fun x => decide (x ≠ f)) := by rw [ht, List.filter_append]; simp [hxf]
          have := ih (i + 1) M1 (by omega) (by omega) ho h7 (fun i' h => hd i' (by omega)) (by rw [e]; exact hk)
          rw [e] at this
          exact this
        · have e : (v.queue.take (i + 1)).filter (fun x => decide (x ≠ f)) = (v.queue.take i).filter (fun x => decide (x ≠ f)) ++ [x] := by rw [ht, List.filter_append]; simp [hxf]
          rw [if_neg (fun q => hxf ((nI_eq (by omega) (by omega)).mp q)), if_neg (nI_nlt hle (by omega)), if_neg (nI_in2 (by omega) (by decide)), if_neg (nI_in (by omega) (by decide)), nI_clamp (by omega), nI_1]
          have := ih (i + 1) (hp_p M1 g 7 ((v.queue.take i).filter (fun x => decide (x ≠ f))).length (nI x)) (by omega) (by omega) (fun g' hg => by rw [hp_p_ne _ _ _ _ hg]; exact ho g' hg) (fun j' i' hj => by rw [hp_p_o (h := by omega)]; exact h7 j' i' hj) (fun i' h => by rw [hp_p_o (h := by omega)]; exact hd i' (by omega)) (fun j y hy => by
            rw [e] at hy
            by_cases hj : j < ((v.queue.take i).filter (fun x => decide (x ≠ f))).length
            · rw [hp_p_o (h := by omega)]
              rw [List.getElem?_append_left hj] at hy
              exact hk j y hy
            · rw [List.getElem?_append_right (by omega)] at hy
              have hz : j - ((v.queue.take i).filter (fun x => decide (x ≠ f))).length < 1 := (List.getElem?_eq_some_iff.mp hy).1
              have hz2 : j = ((v.queue.take i).filter (fun x => decide (x ≠ f))).length := by omega
              subst hz2
              rw [Nat.sub_self] at hy
              cases hy
              rw [hp_p_s])
          rw [e, List.length_append] at this
          exact this
      · have hie : i = v.queue.length := by omega
        rw [if_pos (nI_le (by omega) (by omega))]
        have hall : v.queue.take i = v.queue := List.take_of_length_le (by omega)
        rw [hall] at hk hle ⊢
        refine ⟨_, rfl, c.pqueue (fun j i h7' h6 => ?_) (hp_p_s _ _ _ _ _) (by omega) (fun j x hx => ?_), fun g' hg => by rw [hp_p_ne _ _ _ _ hg]; exact ho g' hg⟩
        · rw [hp_p_o (h := by omega)]; exact h7 j i h7'
        · rw [hp_p_o (h := by omega)]; exact hk j x hx
  unfold F_X4_leave
  exact key hp_fu 0 M (Nat.zero_le _) (by unfold hp_fu; omega) (fun _ _ => rfl) (fun _ _ _ => rfl) (fun _ _ => rfl) (fun j x hx => by simp at hx)
/-- the place of a flat in the queue -/
def hv_pl : List Nat → Nat → Nat → Int32
  | [], _, _ => -1
  | x :: xs, f, i => if x = f then nI i else hv_pl xs f (i + 1)
theorem x4_place (c : CRep (M g) v) (hq : ∀ x ∈ v.queue, x < 10) {f : Nat} {a0 : Int32} (e0 : a0 = nI f) (hf : f < 10) : F_X4_placeOf g a0 M = some (hv_pl v.queue f 0, M) := by
  subst e0
  have h10 := c.q10
  have key : ∀ (n i : Nat), i ≤ v.queue.length → v.queue.length < i + n → L_X4_placeOf_2 g (nI f) n (nI i) M = some (hv_pl (v.queue.drop i) f i, M) := by
    intro n
    induction n with
    | zero => intro i h1 h2; omega
    | succ n ih =>
      intro i hi hn
      rw [L_X4_placeOf_2.eq_2, c.ql]
      by_cases hlt : i < v.queue.length
      · obtain ⟨x, hx⟩ : ∃ x, v.queue[i]? = some x := ⟨_, List.getElem?_eq_getElem hlt⟩
        have hxm : x < 10 := hq x (List.mem_of_getElem? hx)
        rw [if_neg (nI_ge hlt (by omega)), if_neg (show ¬ (10 : Int32) ≤ nI i from nI_ge (a := i) (b := 10) (by omega) (by decide)), if_neg (nI_in (by omega) (by decide)), nI_clamp (by omega), c.qu i x hx, nI_1, ih (i + 1) (by omega) (by omega)]
        have hd : v.queue.drop i = x :: v.queue.drop (i + 1) := by
          rw [List.drop_eq_getElem_cons hlt]
          rw [List.getElem?_eq_getElem hlt] at hx
          cases hx; rfl
        rw [hd]
        show _ = some (if x = f then nI i else hv_pl (v.queue.drop (i + 1)) f (i + 1), M)
        by_cases hxf : x = f
        · rw [if_pos (by rw [hxf]), if_pos hxf]
        · rw [if_neg (fun q => hxf ((nI_eq (by omega) (by omega)).mp q)), if_neg hxf]
      · rw [if_pos (nI_le (by omega) (by omega)), List.drop_of_length_le (by omega)]
        rfl
  unfold F_X4_placeOf
  have := key hp_fu 0 (Nat.zero_le _) (by unfold hp_fu; omega)
  exact this
theorem x6_flatAt (c : CRep (M g) v) {i : Nat} {x : Nat × Int32} {a0 : Int32} (e0 : a0 = nI i) (hx : v.slate[i]? = some x) : F_X6_flatAt g a0 M = some (nI x.1, M) := by
  subst e0
  have hl : i < v.slate.length := (List.getElem?_eq_some_iff.mp hx).1
  have h8 := c.s8
  unfold F_X6_flatAt
  rw [if_neg (nI_pos (by omega)), if_neg (show ¬ (8 : Int32) ≤ nI i from nI_ge (a := i) (b := 8) (by omega) (by decide)), if_neg (nI_in (by omega) (by decide)), nI_clamp (by omega), (c.sf i x hx).1]
theorem x6_minuteAt (c : CRep (M g) v) {i : Nat} {x : Nat × Int32} {a0 : Int32} (e0 : a0 = nI i) (hx : v.slate[i]? = some x) : F_X6_minuteAt g a0 M = some (x.2, M) := by
  subst e0
  have hl : i < v.slate.length := (List.getElem?_eq_some_iff.mp hx).1
  have h8 := c.s8
  unfold F_X6_minuteAt
  rw [if_neg (nI_pos (by omega)), if_neg (show ¬ (8 : Int32) ≤ nI i from nI_ge (a := i) (b := 8) (by omega) (by decide)), if_neg (nI_in (by omega) (by decide)), nI_clamp (by omega), (c.sf i x hx).2]
/-- how many messages there are for a flat -/
def hv_cnt (l : List (Nat × Int32)) (f : Nat) : Nat := (l.filter (fun x => decide (x.1 = f))).length
theorem x6_count (c : CRep (M g) v) (hs : ∀ x ∈ v.slate, x.1 < 10) {f : Nat} {a0 : Int32} (e0 : a0 = nI f) (hf : f < 10) : F_X6_countFor g a0 M = some (nI (hv_cnt v.slate f), M) := by
  subst e0
  have h8 := c.s8
  have key : ∀ (n i : Nat), i ≤ v.slate.length → v.slate.length < i + n → L_X6_countFor_4 g (nI f) n (nI (hv_cnt (v.slate.take i) f)) (nI i) M = some (nI (hv_cnt v.slate f), M) := by
    intro n
    induction n with
    | zero => intro i h1 h2; omega
    | succ n ih =>
      intro i hi hn
      rw [L_X6_countFor_4.eq_2, c.sl]
      by_cases hlt : i < v.slate.length
      · obtain ⟨x, hx⟩ : ∃ x, v.slate[i]? = some x := ⟨_, List.getElem?_eq_getElem hlt⟩
        have hxm := hs x (List.mem_of_getElem? hx)
        have ht : v.slate.take (i + 1) = v.slate.take i ++ [x] := by rw [List.take_add_one, hx]; rfl
        have := ih (i + 1) (by omega) (by omega)
        rw [if_neg (nI_ge hlt (by omega)), x6_flatAt c rfl hx, hp_b_some, nI_1 i]
        by_cases hxf : x.1 = f
        · have e : hv_cnt (v.slate.take (i + 1)) f = hv_cnt (v.slate.take i) f + 1 := by unfold hv_cnt; rw [ht, List.filter_append, List.length_append]; simp [hxf]
          rw [if_pos (by rw [hxf]), nI_1, ← e]
          exact this
        · have e : hv_cnt (v.slate.take (i + 1)) f = hv_cnt (v.slate.take i) f := by unfold hv_cnt; rw [ht, List.filter_append, List.length_append]; simp [hxf]
          rw [if_neg (fun q => hxf ((nI_eq (by omega) (by omega)).mp q)), ← e]
          exact this
      · rw [if_pos (nI_le (by omega) (by omega)), List.take_of_length_le (by omega)]
  unfold F_X6_countFor
  exact key hp_fu 0 (Nat.zero_le _) (by unfold hp_fu; omega)
theorem x6_write (c : CRep (M g) v) {f : Nat} {a0 t : Int32} (e0 : a0 = nI f) (hl : v.slate.length < 8) : ∃ M', F_X6_write g a0 t M = some ((), M') ∧ CS g M (v.s_slate (v.slate ++ [(f, t)])) M' := by
  subst e0
  unfold F_X6_write
  have e9 : ∀ (M1 : hp_M) (i : Nat) (x : Int32), hp_p M1 g 9 i x g 8 2 = M1 g 8 2 := fun M1 i x => hp_p_o _ _ _ _ _ (by omega)
  have e10 : ∀ (M1 : hp_M) (i : Nat) (x : Int32), hp_p M1 g 10 i x g 8 2 = M1 g 8 2 := fun M1 i x => hp_p_o _ _ _ _ _ (by omega)
  simp only [e9, e10]
  rw [c.sl, if_neg (nI_pos (by omega)), if_neg (show ¬ (8 : Int32) ≤ nI v.slate.length from nI_ge (b := 8) hl (by decide)), if_neg (show ¬ (8 : Int32) ≤ nI v.slate.length from nI_ge (b := 8) hl (by decide)), if_neg (nI_in hl (by decide)), if_neg (nI_in hl (by decide)), nI_clamp (by omega), nI_1]
  refine ⟨_, rfl, c.pslate (fun j i h9 h10 h8 => ?_) ?_ (by simp; omega) (fun i x hx => ?_), fun g' hg => by rw [hp_p_ne _ _ _ _ hg, hp_p_ne _ _ _ _ hg, hp_p_ne _ _ _ _ hg]⟩
  · rw [hp_p_o (h := by omega), hp_p_o (h := by omega), hp_p_o (h := by omega)]
  · rw [hp_p_s, List.length_append]; rfl
  · by_cases hi : i < v.slate.length
    · rw [List.getElem?_append_left hi] at hx
      have h2 := c.sf i x hx
      simp only [hp_p_at]
      refine ⟨?_, ?_⟩ <;> grind
    · rw [List.getElem?_append_right (by omega)] at hx
      have hz : i - v.slate.length < 1 := (List.getElem?_eq_some_iff.mp hx).1
      have hz2 : i = v.slate.length := by omega
      subst hz2
      rw [Nat.sub_self] at hx
      cases hx
      simp only [hp_p_at]
      refine ⟨?_, ?_⟩ <;> grind
end CLS2
