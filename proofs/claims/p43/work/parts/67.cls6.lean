/-! ===== minutes of the class ===== -/
def hv_fin (v : HV) : HV := if hv_over v then hv_end (v.s_acc (up1 v.acc 2 (v.acc 2 + if v.left ≤ 0 then 0 else 1))) else v
def hv_next (v : HV) : HV := if v.ph = 0 then (match v.queue with | [] => v | f :: _ => hv_speak (hv_leave v f) f (v.num f 4) 0) else v
def hv_tick0 (v : HV) : HV := hv_waits (hv_next (hv_fin (hv_downs v.flats v)))
def hv_told (v : HV) : HV := if v.ph = 2 then hv_talk v else v
/-- what a minute does, TIME aside -/
def hv_tick (v : HV) : HV := hv_tick0 (hv_told v)
/-- whether a call ends in this minute -/
def hv_ends (v : HV) : Int32 := if hv_over (hv_downs (hv_told v).flats (hv_told v)) then 1 else 0
def hv_quiet (v : HV) : Prop := v.ph = 0 ∧ v.queue = [] ∧ ∀ f : Nat, f < v.flats → v.num f 2 ≠ 1
theorem ite_iff {α : Type} {P Q : Prop} {d1 : Decidable P} {d2 : Decidable Q} {a b : α} (h : P ↔ Q) : @ite α P d1 a b = @ite α Q d2 a b := by
  by_cases hp : P
  · rw [if_pos hp, if_pos (h.mp hp)]
  · rw [if_neg hp, if_neg (fun q => hp (h.mpr q))]
section CLS6
variable {g : Nat} {M : hp_M} {v : HV}
theorem hv_down_fl (v : HV) (f : Nat) : (hv_down v f).flats = v.flats := by
  unfold hv_down
  split
  · split
    · unfold hv_arrive
      split <;> rfl
    · rfl
  · rfl
theorem ok_down (h : hv_ok v) {f : Nat} (hf : f < v.flats) : hv_ok (hv_down v f) := by
  unfold hv_down
  by_cases h1 : v.num f 2 = 1
  · rw [if_pos h1]
    by_cases h2 : v.num f 3 - 1 ≤ 0
    · rw [if_pos h2]
      unfold hv_arrive
      by_cases h3 : v.ph = 1 ∧ v.who = f
      · rw [if_pos (show (hv_wipe (hv_put v f 3 (v.num f 3 - 1)) f).ph = 1 ∧ (hv_wipe (hv_put v f 3 (v.num f 3 - 1)) f).who = f from h3)]
        exact ok_arrA h hf h1 h3
      · rw [if_neg (show ¬ ((hv_wipe (hv_put v f 3 (v.num f 3 - 1)) f).ph = 1 ∧ (hv_wipe (hv_put v f 3 (v.num f 3 - 1)) f).who = f) from h3)]
        exact ok_arrB h hf h1 h3
    · rw [if_neg h2]
      exact ok_step h hf h1 h2
  · rw [if_neg h1]
    exact h
theorem ok_downs (h : hv_ok v) : ∀ i : Nat, i ≤ v.flats → hv_ok (hv_downs i v) ∧ (hv_downs i v).flats = v.flats := by
  intro i
  induction i with
  | zero => exact fun _ => ⟨h, rfl⟩
  | succ i ih =>
    intro hi
    obtain ⟨h1, h2⟩ := ih (by omega)
    have e : hv_downs (i + 1) v = hv_down (hv_downs i v) i := rfl
    rw [e]
    exact ⟨ok_down h1 (by rw [h2]; omega), (hv_down_fl _ _).trans h2⟩
theorem x2_downs (c : CRep (M g) v) (h : hv_ok v) (a0 : Int32) (rec14 : Int32 → Int32 → hp_M → Option (Int32 × hp_M)) (k2 k3 : Int32) : ∃ n' M', L_X2_letPass_44 g a0 rec14 k2 k3 hp_fu 0 M = L_X2_letPass_44 g a0 rec14 k2 k3 (n' + 1) (nI v.flats) M' ∧ CS g M (hv_downs v.flats v) M' := by
  have h10 := c.fl10
  exact hp_runs (T := fun n i M1 => L_X2_letPass_44 g a0 rec14 k2 k3 n (nI i) M1) (I := fun i M1 => CS g M (hv_downs i v) M1) (N := v.flats) (fun n i M1 hi hM => by
    obtain ⟨h1, h2⟩ := ok_downs h i (by omega)
    show ∃ M2, L_X2_letPass_44 g a0 rec14 k2 k3 (n + 1) (nI i) M1 = L_X2_letPass_44 g a0 rec14 k2 k3 n (nI (i + 1)) M2 ∧ CS g M (hv_down (hv_downs i v) i) M2
    obtain ⟨M2, e2, c2⟩ := x2_down (a0 := nI i) hM.1 h1 rfl (by rw [h2]; exact hi)
    rw [L_X2_letPass_44.eq_2, hM.1.fl, h2, if_neg (nI_ge hi (by omega)), e2, hp_b_some, nI_1]
    exact ⟨M2, rfl, hM.tr c2⟩) hp_fu M (by unfold hp_fu; omega) (CS.rf c)
theorem x2_over (c : CRep (M g) v) : F_X2_isCallOver g M = some (if hv_over v then 1 else 0, M) := by
  have h10 := c.q10
  have key : A_X2_isCallOver_36 g M = some (if v.ph = 2 ∧ v.left ≤ 0 then 1 else 0, M) := by
    unfold A_X2_isCallOver_36 A_X2_isCallOver_37
    rw [c.ph, c.le]
    by_cases h1 : v.ph = 2
    · rw [if_pos h1]
      by_cases h2 : v.left ≤ 0
      · rw [if_pos h2, if_pos ⟨h1, h2⟩]
      · rw [if_neg h2, if_pos rfl, if_neg (fun q => h2 q.2)]
    · rw [if_neg h1, if_neg (fun q => h1 q.1)]
  unfold F_X2_isCallOver
  rw [key, c.st 0 (by decide), c.sp, c.ql]
  by_cases h1 : v.set 0 ≤ 0
  · rw [if_pos h1]
    congr 2
    exact ite_iff (by constructor <;> intro q <;> grind)
  · rw [if_neg h1]
    by_cases h2 : v.spoken < v.set 0
    · rw [if_pos h2]
      congr 2
      exact ite_iff (by constructor <;> intro q <;> grind)
    · rw [if_neg h2]
      by_cases h3 : v.queue = []
      · have hl : v.queue.length = 0 := by rw [h3]; rfl
        rw [hl, if_pos (by decide)]
        congr 2
        exact ite_iff (by constructor <;> intro q <;> grind)
      · have h4 : 0 < v.queue.length := List.length_pos_iff.mpr h3
        rw [if_neg (nI_nle h4 (by omega))]
        unfold A_X2_isCallOver_37
        rw [c.ph, c.le]
        by_cases h5 : v.ph = 2
        · rw [if_pos h5, if_pos (show hv_over v from ⟨h5, Or.inr ⟨by grind, by grind, h3⟩⟩)]
          split
          · rfl
          · rw [if_neg (by decide)]
        · rw [if_neg h5, if_neg (fun q => h5 q.1)]
theorem x2_waits (c : CRep (M g) v) (hq : ∀ x ∈ v.queue, x < 10) (hnd : v.queue.Nodup) : ∃ M', F_X2_countWaiting g M = some ((), M') ∧ CS g M (hv_waits v) M' := by
  have h10 := c.q10
  unfold F_X2_countWaiting
  obtain ⟨n', M', e, h⟩ := hp_runs (T := fun n i M1 => L_X2_countWaiting_2 g n (nI i) M1) (I := fun i M1 => CS g M (v.s_num (fun f k => if k = 10 ∧ f ∈ v.queue.take i then v.num f 10 + 1 else v.num f k)) M1) (N := v.queue.length) (fun n i M1 hi hM => by
    obtain ⟨x, hx⟩ : ∃ x, v.queue[i]? = some x := ⟨_, List.getElem?_eq_getElem hi⟩
    have hx10 := hq x (List.mem_of_getElem? hx)
    have ht : v.queue.take (i + 1) = v.queue.take i ++ [x] := by rw [List.take_add_one, hx]; rfl
    have hnx : x ∉ v.queue.take i := by
      intro q
      have h2 : (v.queue.take (i + 1)).Nodup := hnd.sublist (List.take_sublist _ _)
      rw [ht] at h2
      exact (List.nodup_append.mp h2).2.2 x q x (by simp) rfl
    show ∃ M2, L_X2_countWaiting_2 g (n + 1) (nI i) M1 = L_X2_countWaiting_2 g n (nI (i + 1)) M2 ∧ CS g M _ M2
    rw [L_X2_countWaiting_2.eq_2, hM.1.ql, show (v.s_num (fun f k => if k = 10 ∧ f ∈ v.queue.take i then v.num f 10 + 1 else v.num f k)).queue = v.queue from rfl, if_neg (nI_ge hi (by omega)), x4_at (a0 := nI i) hM.1 rfl hx, hp_b_some, x2_g10 hM.1 rfl hx10, hp_b_some, x2_p10 rfl hx10, hp_b_some, nI_1]
    refine ⟨_, rfl, hM.tr ?_⟩
    have c2 := CS.num (f := x) (k := 10) (x := (v.s_num (fun f k => if k = 10 ∧ f ∈ v.queue.take i then v.num f 10 + 1 else v.num f k)).num x 10 + 1) hM.1 hx10 (by decide)
    have e : (up2 (v.s_num (fun f k => if k = 10 ∧ f ∈ v.queue.take i then v.num f 10 + 1 else v.num f k)).num x 10 ((v.s_num (fun f k => if k = 10 ∧ f ∈ v.queue.take i then v.num f 10 + 1 else v.num f k)).num x 10 + 1)) = (fun f k => if k = 10 ∧ f ∈ v.queue.take (i + 1) then v.num f 10 + 1 else v.num f k) := by
      show up2 (fun f k => if k = 10 ∧ f ∈ v.queue.take i then v.num f 10 + 1 else v.num f k) x 10 ((if (10 : Nat) = 10 ∧ x ∈ v.queue.take i then v.num x 10 + 1 else v.num x 10) + 1) = _
      funext f k
      rw [if_neg (fun q => hnx q.2), ht]
      unfold up2
      by_cases h1 : f = x ∧ k = 10
      · rw [if_pos h1, h1.1, h1.2, if_pos ⟨rfl, by simp⟩]
      · rw [if_neg h1]
        refine ite_iff ?_
        rw [List.mem_append, List.mem_singleton]
        grind
    rw [e] at c2
    exact c2) hp_fu M (by unfold hp_fu; omega) (by
      have e : v.s_num (fun f k => if k = 10 ∧ f ∈ v.queue.take 0 then v.num f 10 + 1 else v.num f k) = v := by
        have e2 : (fun f k => if k = 10 ∧ f ∈ v.queue.take 0 then v.num f 10 + 1 else v.num f k) = v.num := by funext f k; simp
        rw [e2]
      rw [e]
      exact CS.rf c)
  rw [List.take_length] at h
  refine ⟨M', e.trans ?_, h⟩
  show L_X2_countWaiting_2 g (n' + 1) (nI v.queue.length) M' = _
  rw [L_X2_countWaiting_2.eq_2, h.1.ql, if_pos (nI_le (Nat.le_refl _) (by show v.queue.length < 2 ^ 31; omega))]
end CLS6
