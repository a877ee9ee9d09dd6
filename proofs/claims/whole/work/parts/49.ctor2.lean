def hp_idP : List (Nat × Nat) := [(12, 0), (0, 0), (0, 1), (0, 2), (0, 3), (0, 4), (0, 5), (0, 6), (0, 7), (0, 8), (0, 9), (0, 10), (1, 0), (1, 1), (1, 2), (1, 3), (1, 4), (1, 5), (1, 6), (1, 7), (1, 8), (1, 9), (1, 10), (12, 4), (12, 5), (2, 0), (2, 1), (2, 2), (2, 3), (2, 4), (2, 5), (2, 6), (2, 7), (2, 8), (2, 9), (2, 10), (3, 0), (3, 1), (3, 2), (3, 3), (3, 4), (3, 5), (3, 6), (3, 7), (3, 8), (3, 9), (3, 10), (4, 0), (4, 1), (4, 2), (4, 3), (4, 4), (4, 5), (4, 6), (4, 7), (4, 8), (4, 9), (4, 10), (5, 0), (5, 1), (5, 2), (5, 3), (5, 4), (5, 5), (5, 6), (5, 7), (5, 8), (5, 9), (5, 10), (6, 0), (6, 1), (6, 2), (6, 3), (6, 4), (6, 5), (6, 6), (6, 7), (6, 8), (6, 9), (6, 10), (7, 0), (7, 1), (7, 2), (7, 3), (7, 4), (7, 5), (7, 6), (7, 7), (7, 8), (7, 9), (7, 10), (8, 0), (8, 1), (8, 2), (8, 3), (8, 4), (8, 5), (8, 6), (8, 7), (8, 8), (8, 9), (8, 10), (9, 0), (9, 1), (9, 2), (9, 3), (9, 4), (9, 5), (9, 6), (9, 7), (9, 8), (9, 9), (9, 10), (10, 0), (10, 1), (10, 2), (10, 3), (10, 4), (10, 5), (10, 6), (10, 7), (10, 8), (10, 9), (10, 10), (11, 0), (11, 1), (11, 2), (11, 3), (11, 4), (11, 5), (11, 6), (11, 7), (11, 8), (11, 9), (11, 10), (12, 1), (12, 2), (12, 3), (14, 0), (14, 1)]
def hp_idM : List (Nat × Nat) := [(13, 0), (13, 1), (13, 2), (13, 3), (13, 4), (13, 5), (13, 6), (13, 7), (13, 8), (13, 9)]
/-- the memory before the first text is read -/
def hp_M0 : hp_M := fun g j i => if g < 12 then (if j = 5 ∧ i = 1 then -1 else 0) else if g = 12 then (if j = 1 ∧ (i = 6 ∨ i = 7) then -1 else 0) else if g = 14 ∧ j = 1 ∧ i = 5000 then 16 else 0
def hp_z13 (M : hp_M) (k : Nat) : hp_M := fun g j i => if g = 13 ∧ k ≤ j then 0 else M g j i
theorem hp_idP_C : hp_IC hp_idP := by
  have h : ∀ g : Nat, g < 12 → ∀ j : Nat, j < 11 → (g, j) ∈ hp_idP := by decide +kernel
  exact ⟨fun g j hg hj => h g hg j hj, by decide +kernel⟩
theorem hp_id_IL : hp_IL (hp_idP ++ hp_idM ++ [(13, 10)]) := by
  have h : ∀ g : Nat, g < 12 → ∀ j : Nat, j < 11 → (g, j) ∈ (hp_idP ++ hp_idM ++ [(13, 10)]) := by decide +kernel
  have h2 : ∀ j : Nat, j < 10 → (13, j) ∈ hp_idP ++ hp_idM ++ [(13, 10)] := by decide +kernel
  exact ⟨⟨⟨fun g j hg hj => h g hg j hj, by decide +kernel⟩, by decide +kernel, by decide +kernel, by decide +kernel⟩, h2, by decide +kernel⟩
theorem hp_id_IR : hp_IR (hp_idP ++ hp_idM) := by
  show ∀ j : Nat, j < 10 → (13, j) ∈ hp_idP ++ hp_idM
  decide +kernel
theorem hp_arrV (cB : Nat) (n : Nat) (f g : Nat → Value) (h : ∀ i : Nat, i < n → f i = g i) : arrV cB n f = arrV cB n g := by
  unfold arrV
  congr 1
  apply Array.ext
  · simp
  · intro i h1 h2
    simp only [Array.getElem_ofFn]
    exact h i (by simpa using h1)
/-- the same cell, if it says the same within its length -/
theorem hp_atI {D : va_G} {cl : List vw_C} {a cB n : Nat} {f g : Nat → Int32} {H : Heap} (h : ∀ i : Nat, i < n → f i = g i) (q : va_at D cl (a, .inl (cB, n, .inl f)) H) : va_at D cl (a, .inl (cB, n, .inl g)) H := by
  have e : vp_cell cB (n, .inl f) = vp_cell cB (n, .inl g) := hp_arrV cB n (fun j => .int (f j)) (fun j => .int (g j)) (fun i hi => by show Value.int _ = Value.int _; rw [h i hi])
  show H[a]? = some (vp_cell cB (n, .inl g))
  rw [← e]; exact q
theorem hp_atQ {D : va_G} {cl : List vw_C} {a cB n : Nat} {f g : Nat → Option Nat} {H : Heap} (h : ∀ i : Nat, i < n → f i = g i) (q : va_at D cl (a, .inl (cB, n, .inr (.inr (.inr (.inr f))))) H) : va_at D cl (a, .inl (cB, n, .inr (.inr (.inr (.inr g))))) H := by
  have e : vp_cell cB (n, .inr (.inr (.inr (.inr f)))) = vp_cell cB (n, .inr (.inr (.inr (.inr g)))) := hp_arrV cB n (fun j => va_rf (f j)) (fun j => va_rf (g j)) (fun i hi => by show va_rf _ = va_rf _; rw [h i hi])
  show H[a]? = some (vp_cell cB (n, .inr (.inr (.inr (.inr g)))))
  rw [← e]; exact q
theorem hp_atL {D : va_G} {cl : List vw_C} {a cB n : Nat} {f g : Nat → Int64} {H : Heap} (h : ∀ i : Nat, i < n → f i = g i) (q : va_at D cl (a, .inl (cB, n, .inr (.inl f))) H) : va_at D cl (a, .inl (cB, n, .inr (.inl g))) H := by
  have e : vp_cell cB (n, .inr (.inl f)) = vp_cell cB (n, .inr (.inl g)) := hp_arrV cB n (fun j => .long (f j)) (fun j => .long (g j)) (fun i hi => by show Value.long _ = Value.long _; rw [h i hi])
  show H[a]? = some (vp_cell cB (n, .inr (.inl g)))
  rw [← e]; exact q
/-- a world cell by cell -/
theorem hp_cells {A : Nat → Prop} {D : va_G} {cl : List vw_C} {w w' : va_W} {H : Heap} (hl : w.length = w'.length) (h : ∀ (k : Nat) (x y : Nat × va_E), w[k]? = some x → w'[k]? = some y → x.1 = y.1 ∧ (va_at D cl x H → va_at D cl y H)) (hP : va_P D cl w H) (hD : va_D A w) : va_P D cl w' H ∧ va_D A w' := by
  have get : ∀ (k : Nat) (y : Nat × va_E), w'[k]? = some y → ∃ x, w[k]? = some x := fun k y hy => by
    have hk : k < w.length := by rw [hl]; exact (List.getElem?_eq_some_iff.mp hy).1
    exact ⟨w[k], List.getElem?_eq_getElem hk⟩
  refine ⟨fun k y hy => ?_, fun i j p q hp hq hpq => ?_, fun k y hy => ?_⟩
  · obtain ⟨x, hx⟩ := get k y hy
    exact (h k x y hx hy).2 (hP k x hx)
  · obtain ⟨p', hp'⟩ := get i p hp
    obtain ⟨q', hq'⟩ := get j q hq
    exact hD.1 i j p' q' hp' hq' (by rw [(h i p' p hp' hp).1, (h j q' q hq' hq).1, hpq])
  · obtain ⟨x, hx⟩ := get k y hy
    rw [← (h k x y hx hy).1]
    exact hD.2 k x hx
theorem hp_cell1 {A : Nat → Prop} {D : va_G} {cl : List vw_C} {w : va_W} {H : Heap} {i a : Nat} {u v : va_E} (hi : w[i]? = some (a, u)) (h : va_at D cl (a, u) H → va_at D cl (a, v) H) (hP : va_P D cl w H) (hD : va_D A w) : va_P D cl (w.set i (a, v)) H ∧ va_D A (w.set i (a, v)) := by
  refine hp_cells (by simp) (fun k x y hx hy => ?_) hP hD
  by_cases hk : k = i
  · subst hk
    rw [List.getElem?_set_self (List.getElem?_eq_some_iff.mp hx).1] at hy
    cases hy
    rw [hi] at hx
    cases hx
    exact ⟨rfl, h⟩
  · rw [List.getElem?_set_ne (Ne.symm hk), hx] at hy
    cases hy
    exact ⟨rfl, id⟩
theorem hp_same1 {D : va_G} {adr adr' : Nat → Nat → Nat} {adV cA : Nat → Nat} {H : Heap} {k g j : Nat} {f : Nat → Int32} (hk : k = 0 ∨ k = 10) (ha : ∀ g j : Nat, ¬ (g = 13 ∧ k ≤ j) → adr' g j = adr g j) (hg : ¬ (g = 13 ∧ k ≤ j)) (q : va_at D vwCl (adr g j, hp_c adr adV cA g j f) H) : va_at D vwCl (adr' g j, hp_c adr' adV cA g j f) H := by
  rw [ha g j hg]
  by_cases h12 : g < 12
  · rw [hp_c_h h12] at q ⊢
    have e : ∀ i : Nat, adr' g i = adr g i := fun i => ha g i (by omega)
    have e2 : hp_ch adr' cA g j f = hp_ch adr cA g j f := by
      unfold hp_ch
      simp only [hp_F5, hp_F7, hp_F9, e]
    rw [e2]; exact q
  · by_cases h13 : g = 12
    · subst h13
      have e : ∀ h i : Nat, h ≠ 13 → adr' h i = adr h i := fun h i hh => ha h i (by omega)
      match j, q with
      | 0, q => 
        have e2 : hp_c adr' adV cA 12 0 f = hp_c adr adV cA 12 0 f := by
          show (Sum.inr (11, hp_F11 adr' f) : va_E) = .inr (11, hp_F11 adr f)
          simp only [hp_F11, e 0 0 (by decide), e 1 0 (by decide), e 12 4 (by decide), e 10 0 (by decide), e 11 0 (by decide), e 12 1 (by decide), e 12 3 (by decide), e 14 0 (by decide)]
        rw [e2]; exact q
      | 1, q =>
        have e2 : hp_c adr' adV cA 12 1 f = hp_c adr adV cA 12 1 f := by
          show (Sum.inr (8, hp_F8 adr' adV f) : va_E) = .inr (8, hp_F8 adr adV f)
          simp only [hp_F8, e 12 2 (by decide)]
        rw [e2]; exact q
      | 2, q => exact q
      | 3, q => exact q
      | 4, q =>
        have e2 : hp_c adr' adV cA 12 4 f = hp_c adr adV cA 12 4 f := by
          show (Sum.inr (4, hp_F4 adr' f) : va_E) = .inr (4, hp_F4 adr f)
          simp only [hp_F4, e 12 5 (by decide)]
        rw [e2]; exact q
      | j + 5, q => exact hp_atQ (f := hp_vh adr) (g := hp_vh adr') (fun i hi => by unfold hp_vh; rw [e (2 + i) 0 (by omega)]) q
    · by_cases h14 : g = 13
      · subst h14
        rcases hk with rfl | rfl
        · exact absurd ⟨rfl, Nat.zero_le _⟩ hg
        · have e : ∀ i : Nat, i < 10 → adr' 13 i = adr 13 i := fun i hi => ha 13 i (by omega)
          match j, q with
          | 0, q =>
            have e2 : hp_c adr' adV cA 13 0 f = hp_c adr adV cA 13 0 f := by
              show (Sum.inr (12, hp_F12 adr' f) : va_E) = .inr (12, hp_F12 adr f)
              simp only [hp_F12, e 1 (by decide), e 2 (by decide), e 3 (by decide), e 4 (by decide), e 5 (by decide), e 6 (by decide), e 7 (by decide), e 8 (by decide), e 9 (by decide)]
            rw [e2]; exact q
          | 1, q => exact q
          | 2, q => exact q
          | 3, q => exact q
          | 4, q => exact q
          | 5, q => exact q
          | 6, q => exact q
          | 7, q => exact q
          | 8, q => exact q
          | 9, q => exact q
          | j + 10, q => exact q
      · have e2 : hp_c adr' adV cA g j f = hp_c adr adV cA g j f := by
          unfold hp_c
          rw [if_neg h12, if_neg h13, if_neg h14, if_neg h12, if_neg h13, if_neg h14]
          unfold hp_cb
          have e : ∀ i : Nat, adr' 14 i = adr 14 i := fun i => ha 14 i (by omega)
          simp only [hp_FB, e]
        rw [e2]; exact q
/-- new things beside: the cells that were there stay -/
theorem hp_same {A : Nat → Prop} {D : va_G} {ids : List (Nat × Nat)} {adr adr' : Nat → Nat → Nat} {adV cA : Nat → Nat} {M M' : hp_M} {t : va_W} {H : Heap} {k : Nat} (hk : k = 0 ∨ k = 10) (hids : ∀ q ∈ ids, ¬ (q.1 = 13 ∧ k ≤ q.2)) (ha : ∀ g j : Nat, ¬ (g = 13 ∧ k ≤ j) → adr' g j = adr g j) (hM : ∀ g j : Nat, ¬ (g = 13 ∧ k ≤ j) → M' g j = M g j) (hP : va_P D vwCl (hp_wl ids adr adV cA M ++ t) H) (hD : va_D A (hp_wl ids adr adV cA M ++ t)) : va_P D vwCl (hp_wl ids adr' adV cA M' ++ t) H ∧ va_D A (hp_wl ids adr' adV cA M' ++ t) := by
  refine hp_cells (by simp [hp_wl]) (fun i x y hx hy => ?_) hP hD
  by_cases hi : i < ids.length
  · rw [List.getElem?_append_left (by simpa [hp_wl] using hi)] at hx hy
    have e0 : ids[i]? = some ids[i] := List.getElem?_eq_getElem hi
    simp only [hp_wl, List.getElem?_map, e0, Option.map_some, Option.some.injEq] at hx hy
    have hq := hids _ (List.mem_of_getElem? e0)
    subst hx; subst hy
    refine ⟨(ha _ _ hq).symm, fun h => ?_⟩
    show va_at D vwCl (adr' ids[i].1 ids[i].2, hp_c adr' adV cA ids[i].1 ids[i].2 (M' ids[i].1 ids[i].2)) H
    rw [hM _ _ hq]
    exact hp_same1 hk ha hq h
  · rw [List.getElem?_append_right (by simpa [hp_wl] using hi)] at hx hy
    have e1 : (hp_wl ids adr' adV cA M').length = (hp_wl ids adr adV cA M).length := by simp [hp_wl]
    rw [e1, hx] at hy
    cases hy
    exact ⟨rfl, id⟩
def hp_QB {β : Type} (A : Nat → Prop) (D : va_G) (Pb : β → Prop) (PQ : β → va_W) : Array Value → State → Outcome → State → Prop := fun _ st oc t => (∃ b : β, oc = .returned none ∧ Pb b ∧ va_P D vwCl (PQ b) t.heap ∧ va_D A (PQ b)) ∧ va_F A st t
theorem hp_startQ {l : Launch} {y : MethodName} {cc : ByteArray} {nL d k sl : Nat} {Qc : Array Value → State → Outcome → State → Prop} {A : Nat → Prop} {D : va_G} {adV cA : Nat → Nat} {ws t : va_W} {h0 : Nat} {α : Type} {G0 : Option α} (hG0 : G0 ≠ none) (own : String) (hy : plainName y.cls = true) (hown : y.cls = own) (hnm : y.name = "<init>") (hlen : (lg_sl [.ref h0]).length ≤ nL)
    (body : ∀ (p : Program) (e : Env) (s : State) (m : MethodId) (args : Array Value) (below : List Frame) (meth : Method) (c : Code), hp_Cx p s m meth c cc nL own A D adV cA G0 → meth.sig.returnType = none → meth.name = "<init>" →
      hp_Y p l e (hp_rmN d k sl) s m args below meth c nL A D 0 0 (MQ below Qc args s k sl A) 0 [(0, .ref h0)] [] ws t) : Met l y [Cond.code y cc nL none] (hp_rmN d k sl) (va_Pc [.ref h0] (hp_PN A D adV cA (ws ++ t))) Qc k sl A := by
  refine Met.ofW (cc := cc) (maxL := nL) (ret := none) hy rfl ?_
  intro p e s m args below meth c s₁ B hml hv
  obtain ⟨rfl, hT, hA, hP, hD⟩ := hv
  have hl := lv_entry [.ref h0] (n := nL) hlen
  rw [lg_entry_eq]
  subst hown
  exact body p e s m _ below meth c ⟨B.exec, B.bytes, hml, findClass_of_methodNamed B.named, hT, hA, B.notSynchronized, hG0⟩ B.returns ((name_of_methodNamed B.named B.method).1.trans hnm) s.heap [] _ hP hD va_S.rf hl
section HPY2
variable {p : Program} {l : Launch} {e : Env} {R : Room} {s : State} {m : MethodId} {args : Array Value} {below : List Frame} {meth : Method} {c : Code} {cells slots K0 S0 : Nat} {Q : State → Prop}
variable {cc : ByteArray} {nL : Nat} {own : String} {A : Nat → Prop} {D : va_G} {adV cA : Nat → Nat} {α β : Type} {G0 : Option α} {pc n : Nat} {L : List (Nat × Value)} {st : List Value} {ws t t' : va_W}
theorem hy_cell {i a : Nat} {u : va_E} (v : va_E) (hi : t[i]? = some (a, u)) (h : ∀ H : Heap, va_at D vwCl (a, u) H → va_at D vwCl (a, v) H) (ht : t.set i (a, v) = t') (k : hp_Y p l e R s m args below meth c nL A D cells slots Q pc L st ws t') : hp_Y p l e R s m args below meth c nL A D cells slots Q pc L st ws t := by
  intro H locs ls hP hD hS hL
  obtain ⟨hP1, hD1⟩ := hp_cell1 (hy_at hi) (h H) hP hD
  rw [hy_set ht] at hP1 hD1
  exact k H locs ls hP1 hD1 hS hL
theorem hy_Z {ids : List (Nat × Nat)} {adr : Nat → Nat → Nat} {M : hp_M} (hw : ws ++ t = hp_wl ids adr adV cA M) (k : hp_Z p l e R s m args below meth c nL A D ids adr adV cA cells slots Q G0 none pc L st M G0) : hp_Y p l e R s m args below meth c nL A D cells slots Q pc L st ws t := by
  intro H locs ls hP hD hS hL
  rw [hw] at hP hD
  exact k H locs ls rfl ⟨[], rfl, by rw [List.append_nil]; exact hP, by rw [List.append_nil]; exact hD⟩ hS hL
theorem hy_same {ids : List (Nat × Nat)} {adr adr' : Nat → Nat → Nat} {M M' : hp_M} {k : Nat} (hk : k = 0 ∨ k = 10) (hids : ∀ q ∈ ids, ¬ (q.1 = 13 ∧ k ≤ q.2)) (ha : ∀ g j : Nat, ¬ (g = 13 ∧ k ≤ j) → adr' g j = adr g j) (hM : ∀ g j : Nat, ¬ (g = 13 ∧ k ≤ j) → M' g j = M g j) (kk : hp_Y p l e R s m args below meth c nL A D cells slots Q pc L st (hp_wl ids adr' adV cA M') t) : hp_Y p l e R s m args below meth c nL A D cells slots Q pc L st (hp_wl ids adr adV cA M) t := by
  intro H locs ls hP hD hS hL
  obtain ⟨hP1, hD1⟩ := hp_same hk hids ha hM hP hD
  exact kk H locs ls hP1 hD1 hS hL
theorem hy_retB {Pb : β → Prop} {PQ : β → va_W} {ids : List (Nat × Nat)} {adr : Nat → Nat → Nat} {M : hp_M} {G : Option α} (hC : hp_Cx p s m meth c cc nL own A D adV cA G0) (hr : meth.sig.returnType = none) (hdg : decode cc pc = .ok (.return_, 1)) (b : G = G0 → β) (hb : ∀ h : G = G0, Pb (b h)) (hq : ∀ h : G = G0, PQ (b h) = hp_wl ids adr adV cA M) (hf : cells ≤ K0 ∧ slots ≤ S0) : hp_Z p l e R s m args below meth c nL A D ids adr adV cA cells slots (MQ below (hp_QB A D Pb PQ) args s K0 S0 A) G0 none pc L [] M G := by
  intro H locs ls hG hW hS hL
  obtain ⟨tl, htl, hP, hD⟩ := hW
  obtain rfl : tl = [] := htl
  rw [List.append_nil] at hP hD
  have hlocks := hC.2.2.2.2.2.2.1
  exact W.widen hf.1 hf.2 (W.vret hC.1 hC.2.1 hr (fun t ht hWm => ⟨⟨b hG, rfl, hb hG, by rw [hq hG, ht]; exact hP, by rw [hq hG]; exact hD⟩, hS.F ht⟩) hS.2.2 hdg hlocks)
theorem hp_callRB {Pb : β → Prop} {PQ : β → va_W} {ls : Array Slot} {st0 : List Value} {a : Array Value} {mc ms : Nat} {H : Heap} {locs : List Loc} (hr : va_Run p l e R s m args below meth c H locs cells slots mc ms (F0 m pc ls st0) st (hp_QB A D Pb PQ a) A) (hS : va_S A s.heap H locs)
    (kk : ∀ (b : β) (H1 : Heap) (locs1 : List Loc), Pb b → va_P D vwCl (PQ b) H1 → va_D A (PQ b) → va_S A s.heap H1 locs1 → W p l e R s m args below meth c H1 locs1 (cells + mc) (slots + ms) Q (F0 m (pc + 3) ls st)) : W p l e R s m args below meth c H locs cells slots Q (F0 m pc ls st0) := by
  intro T hT X
  obtain ⟨v, st₀, t, T', L, h0, X', hL, e1, e2, ⟨⟨b, hv, ha, hw, hd⟩, hz, hk⟩, st⟩ := hr T hT X
  cases hv
  rw [h0] at hz hk
  obtain ⟨t2, a1, b1⟩ := kk b T'.heap (locs ++ L) ha (by rw [e1]; exact hw) hd
    ⟨Nat.le_trans hS.1 (by rw [e1]; exact hz), fun q h1 h2 => by rw [e1, hk q (Nat.lt_of_lt_of_le h1 hS.1) h2]; exact hS.2.1 q h1 h2, fun q hq => by
      rcases List.mem_append.mp hq with h | h
      · exact hS.2.2 q h
      · exact hL q h⟩ T' rfl X'
  exact ⟨t2, st t2 a1, b1⟩
theorem hy_ctorB (hC : hp_Cx p s m meth c cc nL own A D adV cA G0) {y : MethodName} {cc1 : ByteArray} {nL1 d1 k1 s1 idx q : Nat} {st0 : List Value} {Pb : β → Prop} {PQ : β → va_W} (hct : Met l y [Cond.code y cc1 nL1 none] (hp_rmN d1 k1 s1) (va_Pc [.ref q] (hp_PN A D adV cA (ws ++ t))) (hp_QB A D Pb PQ) k1 s1 A) (hk : hp_Ki y cc1 nL1 0) (hl : hp_ok (.methodLink own idx y)) (hdg : decode cc pc = .ok (.invokespecial idx, 3)) (hst : st0 = .ref q :: st) (hcat : (st.map fun v => v.category).sum ≤ 8) (hR : d1 + 1 ≤ R.frames ∧ 60 * d1 + 60 ≤ R.locals) (hf : cells + k1 ≤ R.cells ∧ slots + s1 ≤ R.slots) (hn : pc + 3 = n) (kk : ∀ b : β, Pb b → hp_Y p l e R s m args below meth c nL A D (cells + k1) (slots + s1) Q n L st (PQ b) []) : hp_Y p l e R s m args below meth c nL A D cells slots Q pc L st0 ws t := by
  subst hn
  intro H locs ls hP hD hS hL
  have hT := hC.2.2.2.2.1
  have hCB : CallB R s args own idx y cc1 nL1 none [Cond.code y cc1 nL1 none] (hp_rmN d1 k1 s1) k1 s1 0 := by
    refine ⟨rfl, rfl, hR.1, ?_, hp_codeIn hT hk.2.2.2.1, List.mem_cons_self, hp_wd hT hk.2.2.2.1 args, hp_wd hT hk.2.2.1 args, ⟨hk.2.2.2.2.1.1, hk.2.2.2.2.1.2.1⟩, fun sig h => ?_, hp_wd hT hl args⟩
    · have := hk.2.2.2.2.2
      show 8 + (nL1 + 11) + 60 * d1 ≤ R.locals
      omega
    · have h2 := hk.2.2.2.2.1.2.2
      rw [h] at h2
      exact (Option.some.inj h2).symm
  exact hp_callRB (va_runI (As := []) (rest := st) ⟨hC.1, hC.2.1, hC.2.2.1, hC.2.2.2.1, fun w h => absurd h List.not_mem_nil⟩ (Ts := []) hct ⟨hCB, hk.1, hp_wd hT hk.2.1 args⟩ ⟨hp_blindN, hp_preN hC hS hP hD⟩ rfl rfl hL.1 hst (lv_room hcat) hdg hf) hS (fun b H1 locs1 ha hP1 hD1 hS1 => kk b ha H1 locs1 ls (by rw [List.append_nil]; exact hP1) (by rw [List.append_nil]; exact hD1) hS1 hL)
end HPY2
def G_X8_init {α : Type} (K : hp_M → Option α) (M : hp_M) : Option α := (hp_b (F_X5_takeText 20 M) (fun _ M1 => (hp_b (F_X8_replaceByText M1) (fun r2 M2 => (K M2)))))
set_option maxHeartbeats 4000000 in
theorem z_X8_init {p : Program} {l : Launch} {e : Env} {s : State} {m : MethodId} {args : Array Value} {below : List Frame} {meth : Method} {c : Code} {A : Nat → Prop} {D : va_G} {ids : List (Nat × Nat)} {adr : Nat → Nat → Nat} {adV cA : Nat → Nat} {Q : State → Prop} {α : Type} {G0 : Option α} (hI : hp_IC ids) (hC : hp_Cx p s m meth c cX8_init 1 "HallPhone" A D adV cA G0) (K : hp_M → Option α) (M : hp_M) (cells slots : Nat) (hf : cells ≤ 139 ∧ slots ≤ 4705) (kk : ∀ M' : hp_M, hp_Z p l e (hp_rmN 8 139 4705) s m args below meth c 1 A D ids adr adV cA cells slots Q G0 none 114 [(0, .ref (adr 12 0))] [] M' (K M')) : hp_Z p l e (hp_rmN 8 139 4705) s m args below meth c 1 A D ids adr adV cA cells slots Q G0 none 100 [(0, .ref (adr 12 0))] [] M (G_X8_init K M) := by
  unfold G_X8_init
  refine hz_aload_n (a := 0) (n := 101) hC dX8_init_100 rfl rfl rfl ?_
  refine fg_X8_39 (n := 104) hC hI dX8_init_101 rfl ?_
  refine hz_ldcS (k := 20) (n := 106) hC dX8_init_104 wd_1_238 (hp_st_s 0 (by decide)) rfl ?_
  refine hz_callVN (k := 1) (As := [.ref (adV 20)]) (st := []) (S1 := fun _ => []) (n := 109) hC (c_X5_takeText l 20 (by decide)  M) kv_X5_takeText wd_1_239 hI dX8_init_106 rfl (hI.2 1 (by decide)) he_X5 rfl rfl rfl (Nat.le_of_ble_eq_true rfl) ⟨Nat.le_of_ble_eq_true rfl, Nat.le_of_ble_eq_true rfl⟩ ⟨hf.1, hf.2⟩ (fun _ => rfl) rfl (fun r1 M1 _ => ?_)
  refine hz_aload_n (a := 0) (n := 110) hC dX8_init_109 rfl rfl rfl ?_
  refine hz_callV (k := 0) (As := []) (st := []) (S1 := fun r => .int r :: []) (n := 113) hC (c_X8_replaceByText l    M1) kv_X8_replaceByText wd_2_57 hI dX8_init_110 rfl (hI.2 0 (by decide)) he_X8 rfl rfl rfl (Nat.le_of_ble_eq_true rfl) ⟨Nat.le_of_ble_eq_true rfl, Nat.le_of_ble_eq_true rfl⟩ ⟨hf.1, hf.2⟩ (fun _ => rfl) rfl (fun r2 M2 _ => ?_)
  refine hz_pop (n := 114) hC dX8_init_113 rfl rfl ?_
  refine hz_L (L' := [(0, .ref (adr 12 0))]) [0] rfl ?_
  exact kk M2
def G_X9_init {α : Type} (K : hp_M → Option α) (M : hp_M) : Option α := (hp_b (F_X9_lay (0 : Int32) M) (fun _ M1 => (K (hp_p M1 13 0 13 (0 : Int32)))))
set_option maxHeartbeats 4000000 in
theorem z_X9_init {p : Program} {l : Launch} {e : Env} {s : State} {m : MethodId} {args : Array Value} {below : List Frame} {meth : Method} {c : Code} {A : Nat → Prop} {D : va_G} {ids : List (Nat × Nat)} {adr : Nat → Nat → Nat} {adV cA : Nat → Nat} {Q : State → Prop} {α : Type} {G0 : Option α} (hI : hp_IR ids) (hC : hp_Cx p s m meth c cX9_init 1 "HallPhoneModel" A D adV cA G0) (K : hp_M → Option α) (M : hp_M) (cells slots : Nat) (hf : cells ≤ 9 ∧ slots ≤ 4748) (kk : ∀ M' : hp_M, hp_Z p l e (hp_rmN 10 9 4748) s m args below meth c 1 A D ids adr adV cA cells slots Q G0 none 93 [(0, .ref (adr 13 0))] [] M' (K M')) : hp_Z p l e (hp_rmN 10 9 4748) s m args below meth c 1 A D ids adr adV cA cells slots Q G0 none 83 [(0, .ref (adr 13 0))] [] M (G_X9_init K M) := by
  unfold G_X9_init
  refine hz_aload_n (a := 0) (n := 84) hC dX9_init_83 rfl rfl rfl ?_
  refine hz_iconst (v := (0 : Int32)) (n := 85) hC dX9_init_84 (by decide +kernel) rfl ?_
  refine hz_callV (k := 1) (As := [.int (0 : Int32)]) (st := []) (S1 := fun _ => []) (n := 88) hC (c_X9_lay l (0 : Int32)   M) kv_X9_lay wd_6_152 hI dX9_init_85 rfl (hI 0 (by decide)) he_X9 rfl rfl rfl (Nat.le_of_ble_eq_true rfl) ⟨Nat.le_of_ble_eq_true rfl, Nat.le_of_ble_eq_true rfl⟩ ⟨hf.1, hf.2⟩ (fun _ => rfl) rfl (fun r1 M1 _ => ?_)
  refine hz_aload_n (a := 0) (n := 89) hC dX9_init_88 rfl rfl rfl ?_
  refine hz_iconst (v := (0 : Int32)) (n := 90) hC dX9_init_89 (by decide +kernel) rfl ?_
  refine fp_X9_42 (n := 93) hC hI (0 : Int32) dX9_init_90 rfl ?_
  refine hz_L (L' := [(0, .ref (adr 13 0))]) [0] rfl ?_
  exact kk (hp_p M1 13 0 13 (0 : Int32))
theorem wd_1_40 : hp_ok (Cond.classLink "HallPhone" 7 "HallPhone$House") := ⟨hp_m1 (List.mem_of_getElem? (i := 40) (by decide +kernel)), rfl⟩
theorem wd_1_144 : hp_ok (Cond.classLink "HallPhone" 19 "HallPhone$History") := ⟨hp_m1 (List.mem_of_getElem? (i := 144) (by decide +kernel)), rfl⟩
theorem wd_1_145 : hp_ok (Cond.instantiable "HallPhone$History" 3) := ⟨hp_m1 (List.mem_of_getElem? (i := 145) (by decide +kernel)), rfl⟩
theorem wd_1_164 : hp_ok (Cond.classLink "HallPhone" 36 "HallPhone$Reader") := ⟨hp_m1 (List.mem_of_getElem? (i := 164) (by decide +kernel)), rfl⟩
theorem wd_1_165 : hp_ok (Cond.instantiable "HallPhone$Reader" 10) := ⟨hp_m1 (List.mem_of_getElem? (i := 165) (by decide +kernel)), rfl⟩
theorem wd_1_205 : hp_ok (Cond.classLink "HallPhone" 50 "java/lang/StringBuilder") := ⟨hp_m1 (List.mem_of_getElem? (i := 205) (by decide +kernel)), rfl⟩
theorem wd_1_206 : hp_ok (Cond.instantiable "java/lang/StringBuilder" 4) := ⟨hp_m1 (List.mem_of_getElem? (i := 206) (by decide +kernel)), rfl⟩
theorem wd_1_35 : hp_ok (Cond.instanceMethod ⟨"HallPhone", "<init>", "()V"⟩) := ⟨hp_m1 (List.mem_of_getElem? (i := 35) (by decide +kernel)), rfl⟩
theorem ki_X8_init : hp_Ki yX8_init cX8_init 1 0 := ⟨rfl, wd_1_35, wd_1_1, wd_1_36, ⟨by decide, by decide, by decide +kernel⟩, by decide⟩
theorem wd_6_149 : hp_ok (Cond.instanceMethod ⟨"HallPhoneModel", "<init>", "()V"⟩) := ⟨hp_m6 (List.mem_of_getElem? (i := 149) (by decide +kernel)), rfl⟩
theorem ki_X9_init : hp_Ki yX9_init cX9_init 1 0 := ⟨rfl, wd_6_149, wd_1_20, wd_6_150, ⟨by decide, by decide, by decide +kernel⟩, by decide⟩
def hp_G8 : Option (Unit × hp_M) := G_X8_init (fun M => some ((), M)) hp_M0
def hp_P8 (h0 : Nat) (b : (Nat → Nat → Nat) × hp_M) : Prop := b.1 12 0 = h0 ∧ hp_G8 = some ((), b.2)
def hp_W8 (adV cA : Nat → Nat) (b : (Nat → Nat → Nat) × hp_M) : va_W := hp_wl hp_idP b.1 adV cA b.2
def hp_ad8 (h0 qb : Nat) (a1 a2 a3 a4 a5 a6 a7 : Nat → Nat → Nat) : Nat → Nat → Nat := fun g j => match g with | 0 => a1 0 j | 1 => a2 0 j | 10 => a4 0 j | 11 => a5 0 j | 12 => (match j with | 0 => h0 | 1 => a6 0 0 | 2 => a6 0 1 | 3 => qb | 4 => a3 0 0 | _ => a3 0 1) | 14 => a7 0 j | g => a3 g j
set_option maxRecDepth 40000 in
set_option maxHeartbeats 8000000 in
theorem c_X8_init (l : Launch) (hG : hp_G8 ≠ none) (A : Nat → Prop) (D : va_G) (adV cA : Nat → Nat) (h0 : Nat) : Met l yX8_init [Cond.code yX8_init cX8_init 1 none] (hp_rmN 8 139 4705) (va_Pc [.ref h0] (hp_PN A D adV cA ([] ++ [(h0, .inr (11, [.null, .null, .null, .null, .null, .int 0, .null, .null, .int 0, .null]))]))) (hp_QB A D (hp_P8 h0) (hp_W8 adV cA)) 139 4705 A := by
  refine hp_startQ hG "HallPhone" (by decide) rfl rfl (by simp only [lg_sl]; exact Nat.le_of_ble_eq_true rfl) ?_
  intro p e s m args below meth c hC hr hni
  refine hy_aload_n (a := 0) (n := 1) hC dX8_init_0 rfl rfl rfl ?_
  refine hy_obj (n := 4) hC dX8_init_1 wd_1_37 (Nat.le_of_ble_eq_true rfl) ⟨Nat.le_of_ble_eq_true rfl, Nat.le_of_ble_eq_true rfl⟩ rfl ?_
  refine hy_aload_n (a := 0) (n := 5) hC dX8_init_4 rfl rfl rfl ?_
  refine hy_new (ci := 5) (C := RX2) (T := TX2) (ty := tyX2) (N := 10) (fs := [.int 0, .int 0, .int 0, .null, .null, .null, .null, .null, .null, .null]) (n := 8) hC dX8_init_5 wd_1_40 wd_1_41 wd_1_2 in_X2 tyX2_ok rfl (fun j hj => by match j, hj with | 0, _ => rfl | 1, _ => rfl | 2, _ => rfl | 3, _ => rfl | 4, _ => rfl | 5, _ => rfl | 6, _ => rfl | 7, _ => rfl | 8, _ => rfl | 9, _ => rfl | j + 10, h => exact absurd h (by omega)) ⟨Nat.le_of_ble_eq_true rfl, Nat.le_of_ble_eq_true rfl⟩ rfl (fun q1 => ?_)
  refine hy_dup (n := 9) hC dX8_init_8 rfl rfl ?_
  refine hy_ctorN (As := []) (t1 := [(h0, .inr (11, [.null, .null, .null, .null, .null, .int 0, .null, .null, .int 0, .null]))]) (n := 12) hC (c_X2_init l) ki_X2_init wd_1_42 dX8_init_9 rfl rfl rfl (Nat.le_of_ble_eq_true rfl) ⟨Nat.le_of_ble_eq_true rfl, Nat.le_of_ble_eq_true rfl⟩ ⟨Nat.le_of_ble_eq_true rfl, Nat.le_of_ble_eq_true rfl⟩ rfl (fun a1 ha1 => ?_)
  subst ha1
  refine hy_putF (T := TX8) (ty := tyX8) (i := 0) (k := 0) (t' := [(h0, .inr (11, [.ref (a1 0 0), .null, .null, .null, .null, .int 0, .null, .null, .int 0, .null]))] ++ WLX2 a1 adV cA) (n := 15) hC hni dX8_init_12 rfl in_X8 tyX8_ok nmX8 rfl (by decide) wd_3_55 rfl rfl rfl rfl rfl (Nat.le_of_ble_eq_true rfl) rfl rfl ?_
  refine hy_aload_n (a := 0) (n := 16) hC dX8_init_15 rfl rfl rfl ?_
  refine hy_new (ci := 5) (C := RX2) (T := TX2) (ty := tyX2) (N := 10) (fs := [.int 0, .int 0, .int 0, .null, .null, .null, .null, .null, .null, .null]) (n := 19) hC dX8_init_16 wd_1_40 wd_1_41 wd_1_2 in_X2 tyX2_ok rfl (fun j hj => by match j, hj with | 0, _ => rfl | 1, _ => rfl | 2, _ => rfl | 3, _ => rfl | 4, _ => rfl | 5, _ => rfl | 6, _ => rfl | 7, _ => rfl | 8, _ => rfl | 9, _ => rfl | j + 10, h => exact absurd h (by omega)) ⟨Nat.le_of_ble_eq_true rfl, Nat.le_of_ble_eq_true rfl⟩ rfl (fun q2 => ?_)
  refine hy_dup (n := 20) hC dX8_init_19 rfl rfl ?_
  refine hy_ctorN (As := []) (t1 := [(h0, .inr (11, [.ref (a1 0 0), .null, .null, .null, .null, .int 0, .null, .null, .int 0, .null]))] ++ WLX2 a1 adV cA) (n := 23) hC (c_X2_init l) ki_X2_init wd_1_42 dX8_init_20 rfl rfl rfl (Nat.le_of_ble_eq_true rfl) ⟨Nat.le_of_ble_eq_true rfl, Nat.le_of_ble_eq_true rfl⟩ ⟨Nat.le_of_ble_eq_true rfl, Nat.le_of_ble_eq_true rfl⟩ rfl (fun a2 ha2 => ?_)
  subst ha2
  refine hy_putF (T := TX8) (ty := tyX8) (i := 0) (k := 1) (t' := ([(h0, .inr (11, [.ref (a1 0 0), .ref (a2 0 0), .null, .null, .null, .int 0, .null, .null, .int 0, .null]))] ++ WLX2 a1 adV cA) ++ WLX2 a2 adV cA) (n := 26) hC hni dX8_init_23 rfl in_X8 tyX8_ok nmX8 rfl (by decide) wd_3_56 rfl rfl rfl rfl rfl (Nat.le_of_ble_eq_true rfl) rfl rfl ?_
  refine hy_aload_n (a := 0) (n := 27) hC dX8_init_26 rfl rfl rfl ?_
  refine hy_new (ci := 4) (C := RX1) (T := TX1) (ty := tyX1) (N := 3) (fs := [.null, .int 0, .int 0]) (n := 30) hC dX8_init_27 wd_1_144 wd_1_145 wd_1_6 in_X1 tyX1_ok rfl (fun j hj => by match j, hj with | 0, _ => rfl | 1, _ => rfl | 2, _ => rfl | j + 3, h => exact absurd h (by omega)) ⟨Nat.le_of_ble_eq_true rfl, Nat.le_of_ble_eq_true rfl⟩ rfl (fun q3 => ?_)
  refine hy_dup (n := 31) hC dX8_init_30 rfl rfl ?_
  refine hy_ctorN (As := []) (t1 := ([(h0, .inr (11, [.ref (a1 0 0), .ref (a2 0 0), .null, .null, .null, .int 0, .null, .null, .int 0, .null]))] ++ WLX2 a1 adV cA) ++ WLX2 a2 adV cA) (n := 34) hC (c_X1_init l) ki_X1_init wd_1_146 dX8_init_31 rfl rfl rfl (Nat.le_of_ble_eq_true rfl) ⟨Nat.le_of_ble_eq_true rfl, Nat.le_of_ble_eq_true rfl⟩ ⟨Nat.le_of_ble_eq_true rfl, Nat.le_of_ble_eq_true rfl⟩ rfl (fun a3 ha3 => ?_)
  subst ha3
  refine hy_putF (T := TX8) (ty := tyX8) (i := 0) (k := 2) (t' := (([(h0, .inr (11, [.ref (a1 0 0), .ref (a2 0 0), .ref (a3 0 0), .null, .null, .int 0, .null, .null, .int 0, .null]))] ++ WLX2 a1 adV cA) ++ WLX2 a2 adV cA) ++ WLX1 a3 adV cA) (n := 37) hC hni dX8_init_34 rfl in_X8 tyX8_ok nmX8 rfl (by decide) wd_3_57 rfl rfl rfl rfl rfl (Nat.le_of_ble_eq_true rfl) rfl rfl ?_
  refine hy_aload_n (a := 0) (n := 38) hC dX8_init_37 rfl rfl rfl ?_
  refine hy_new (ci := 5) (C := RX2) (T := TX2) (ty := tyX2) (N := 10) (fs := [.int 0, .int 0, .int 0, .null, .null, .null, .null, .null, .null, .null]) (n := 41) hC dX8_init_38 wd_1_40 wd_1_41 wd_1_2 in_X2 tyX2_ok rfl (fun j hj => by match j, hj with | 0, _ => rfl | 1, _ => rfl | 2, _ => rfl | 3, _ => rfl | 4, _ => rfl | 5, _ => rfl | 6, _ => rfl | 7, _ => rfl | 8, _ => rfl | 9, _ => rfl | j + 10, h => exact absurd h (by omega)) ⟨Nat.le_of_ble_eq_true rfl, Nat.le_of_ble_eq_true rfl⟩ rfl (fun q4 => ?_)
  refine hy_dup (n := 42) hC dX8_init_41 rfl rfl ?_
  refine hy_ctorN (As := []) (t1 := (([(h0, .inr (11, [.ref (a1 0 0), .ref (a2 0 0), .ref (a3 0 0), .null, .null, .int 0, .null, .null, .int 0, .null]))] ++ WLX2 a1 adV cA) ++ WLX2 a2 adV cA) ++ WLX1 a3 adV cA) (n := 45) hC (c_X2_init l) ki_X2_init wd_1_42 dX8_init_42 rfl rfl rfl (Nat.le_of_ble_eq_true rfl) ⟨Nat.le_of_ble_eq_true rfl, Nat.le_of_ble_eq_true rfl⟩ ⟨Nat.le_of_ble_eq_true rfl, Nat.le_of_ble_eq_true rfl⟩ rfl (fun a4 ha4 => ?_)
  subst ha4
  refine hy_putF (T := TX8) (ty := tyX8) (i := 0) (k := 3) (t' := ((([(h0, .inr (11, [.ref (a1 0 0), .ref (a2 0 0), .ref (a3 0 0), .ref (a4 0 0), .null, .int 0, .null, .null, .int 0, .null]))] ++ WLX2 a1 adV cA) ++ WLX2 a2 adV cA) ++ WLX1 a3 adV cA) ++ WLX2 a4 adV cA) (n := 48) hC hni dX8_init_45 rfl in_X8 tyX8_ok nmX8 rfl (by decide) wd_3_58 rfl rfl rfl rfl rfl (Nat.le_of_ble_eq_true rfl) rfl rfl ?_
  refine hy_aload_n (a := 0) (n := 49) hC dX8_init_48 rfl rfl rfl ?_
  refine hy_new (ci := 5) (C := RX2) (T := TX2) (ty := tyX2) (N := 10) (fs := [.int 0, .int 0, .int 0, .null, .null, .null, .null, .null, .null, .null]) (n := 52) hC dX8_init_49 wd_1_40 wd_1_41 wd_1_2 in_X2 tyX2_ok rfl (fun j hj => by match j, hj with | 0, _ => rfl | 1, _ => rfl | 2, _ => rfl | 3, _ => rfl | 4, _ => rfl | 5, _ => rfl | 6, _ => rfl | 7, _ => rfl | 8, _ => rfl | 9, _ => rfl | j + 10, h => exact absurd h (by omega)) ⟨Nat.le_of_ble_eq_true rfl, Nat.le_of_ble_eq_true rfl⟩ rfl (fun q5 => ?_)
  refine hy_dup (n := 53) hC dX8_init_52 rfl rfl ?_
  refine hy_ctorN (As := []) (t1 := ((([(h0, .inr (11, [.ref (a1 0 0), .ref (a2 0 0), .ref (a3 0 0), .ref (a4 0 0), .null, .int 0, .null, .null, .int 0, .null]))] ++ WLX2 a1 adV cA) ++ WLX2 a2 adV cA) ++ WLX1 a3 adV cA) ++ WLX2 a4 adV cA) (n := 56) hC (c_X2_init l) ki_X2_init wd_1_42 dX8_init_53 rfl rfl rfl (Nat.le_of_ble_eq_true rfl) ⟨Nat.le_of_ble_eq_true rfl, Nat.le_of_ble_eq_true rfl⟩ ⟨Nat.le_of_ble_eq_true rfl, Nat.le_of_ble_eq_true rfl⟩ rfl (fun a5 ha5 => ?_)
  subst ha5
  refine hy_putF (T := TX8) (ty := tyX8) (i := 0) (k := 4) (t' := (((([(h0, .inr (11, [.ref (a1 0 0), .ref (a2 0 0), .ref (a3 0 0), .ref (a4 0 0), .ref (a5 0 0), .int 0, .null, .null, .int 0, .null]))] ++ WLX2 a1 adV cA) ++ WLX2 a2 adV cA) ++ WLX1 a3 adV cA) ++ WLX2 a4 adV cA) ++ WLX2 a5 adV cA) (n := 59) hC hni dX8_init_56 rfl in_X8 tyX8_ok nmX8 rfl (by decide) wd_3_59 rfl rfl rfl rfl rfl (Nat.le_of_ble_eq_true rfl) rfl rfl ?_
  refine hy_aload_n (a := 0) (n := 60) hC dX8_init_59 rfl rfl rfl ?_
  refine hy_iconst (v := (0 : Int32)) (n := 61) hC dX8_init_60 (by decide +kernel) rfl ?_
  refine hy_put (T := TX8) (ty := tyX8) (i := 0) (k := 5) (t' := (((([(h0, .inr (11, [.ref (a1 0 0), .ref (a2 0 0), .ref (a3 0 0), .ref (a4 0 0), .ref (a5 0 0), .int 0, .null, .null, .int 0, .null]))] ++ WLX2 a1 adV cA) ++ WLX2 a2 adV cA) ++ WLX1 a3 adV cA) ++ WLX2 a4 adV cA) ++ WLX2 a5 adV cA) (n := 64) hC dX8_init_61 rfl in_X8 tyX8_ok nmX8 rfl (by decide) wd_3_60 rfl rfl rfl rfl (Nat.le_of_ble_eq_true rfl) rfl rfl ?_
  refine hy_aload_n (a := 0) (n := 65) hC dX8_init_64 rfl rfl rfl ?_
  refine hy_new (ci := 8) (C := RX5) (T := TX5) (ty := tyX5) (N := 10) (fs := [.null, .int 0, .int 0, .int 0, .int 0, .int 0, .null, .int 0, .int 0, .int 0]) (n := 68) hC dX8_init_65 wd_1_164 wd_1_165 wd_1_7 in_X5 tyX5_ok rfl (fun j hj => by match j, hj with | 0, _ => rfl | 1, _ => rfl | 2, _ => rfl | 3, _ => rfl | 4, _ => rfl | 5, _ => rfl | 6, _ => rfl | 7, _ => rfl | 8, _ => rfl | 9, _ => rfl | j + 10, h => exact absurd h (by omega)) ⟨Nat.le_of_ble_eq_true rfl, Nat.le_of_ble_eq_true rfl⟩ rfl (fun q6 => ?_)
  refine hy_dup (n := 69) hC dX8_init_68 rfl rfl ?_
  refine hy_ctorN (As := []) (t1 := (((([(h0, .inr (11, [.ref (a1 0 0), .ref (a2 0 0), .ref (a3 0 0), .ref (a4 0 0), .ref (a5 0 0), .int 0, .null, .null, .int 0, .null]))] ++ WLX2 a1 adV cA) ++ WLX2 a2 adV cA) ++ WLX1 a3 adV cA) ++ WLX2 a4 adV cA) ++ WLX2 a5 adV cA) (n := 72) hC (c_X5_init l) ki_X5_init wd_1_166 dX8_init_69 rfl rfl rfl (Nat.le_of_ble_eq_true rfl) ⟨Nat.le_of_ble_eq_true rfl, Nat.le_of_ble_eq_true rfl⟩ ⟨Nat.le_of_ble_eq_true rfl, Nat.le_of_ble_eq_true rfl⟩ rfl (fun a6 ha6 => ?_)
  subst ha6
  refine hy_putF (T := TX8) (ty := tyX8) (i := 0) (k := 6) (t' := ((((([(h0, .inr (11, [.ref (a1 0 0), .ref (a2 0 0), .ref (a3 0 0), .ref (a4 0 0), .ref (a5 0 0), .int 0, .ref (a6 0 0), .null, .int 0, .null]))] ++ WLX2 a1 adV cA) ++ WLX2 a2 adV cA) ++ WLX1 a3 adV cA) ++ WLX2 a4 adV cA) ++ WLX2 a5 adV cA) ++ WLX5 a6 adV cA) (n := 75) hC hni dX8_init_72 rfl in_X8 tyX8_ok nmX8 rfl (by decide) wd_3_61 rfl rfl rfl rfl rfl (Nat.le_of_ble_eq_true rfl) rfl rfl ?_
  refine hy_aload_n (a := 0) (n := 76) hC dX8_init_75 rfl rfl rfl ?_
  refine hy_sipush (v := (700 : Int32)) (n := 79) hC dX8_init_76 (by decide +kernel) rfl ?_
  refine hy_newa (ty := .int) (N' := 700) (a0 := (700, .inl fun _ => 0)) (j := 0) (n := 81) hC dX8_init_79 rfl hp_acs.1 rfl (fun _ _ _ h1 h2 => Option.some.inj (h1.symm.trans h2)) (fun _ => rfl) (by decide +kernel) (by decide +kernel) (Nat.le_of_ble_eq_true rfl) ⟨Nat.le_of_ble_eq_true rfl, Nat.le_of_ble_eq_true rfl⟩ rfl (fun q7 => ?_)
  refine hy_putF (T := TX8) (ty := tyX8) (i := 0) (k := 7) (t' := (((((([(h0, .inr (11, [.ref (a1 0 0), .ref (a2 0 0), .ref (a3 0 0), .ref (a4 0 0), .ref (a5 0 0), .int 0, .ref (a6 0 0), .ref q7, .int 0, .null]))] ++ WLX2 a1 adV cA) ++ WLX2 a2 adV cA) ++ WLX1 a3 adV cA) ++ WLX2 a4 adV cA) ++ WLX2 a5 adV cA) ++ WLX5 a6 adV cA) ++ [(q7, .inl (cA 0, 700, .inl fun _ => 0))]) (n := 84) hC hni dX8_init_81 rfl in_X8 tyX8_ok nmX8 rfl (by decide) wd_3_62 rfl rfl rfl rfl rfl (Nat.le_of_ble_eq_true rfl) rfl rfl ?_
  refine hy_aload_n (a := 0) (n := 85) hC dX8_init_84 rfl rfl rfl ?_
  refine hy_iconst (v := (0 : Int32)) (n := 86) hC dX8_init_85 (by decide +kernel) rfl ?_
  refine hy_put (T := TX8) (ty := tyX8) (i := 0) (k := 8) (t' := (((((([(h0, .inr (11, [.ref (a1 0 0), .ref (a2 0 0), .ref (a3 0 0), .ref (a4 0 0), .ref (a5 0 0), .int 0, .ref (a6 0 0), .ref q7, .int 0, .null]))] ++ WLX2 a1 adV cA) ++ WLX2 a2 adV cA) ++ WLX1 a3 adV cA) ++ WLX2 a4 adV cA) ++ WLX2 a5 adV cA) ++ WLX5 a6 adV cA) ++ [(q7, .inl (cA 0, 700, .inl fun _ => 0))]) (n := 89) hC dX8_init_86 rfl in_X8 tyX8_ok nmX8 rfl (by decide) wd_3_63 rfl rfl rfl rfl (Nat.le_of_ble_eq_true rfl) rfl rfl ?_
  refine hy_aload_n (a := 0) (n := 90) hC dX8_init_89 rfl rfl rfl ?_
  refine hy_new (ci := 1) (C := RJ4) (T := TJ4) (ty := tyJ4) (N := 4) (fs := [.null, .int 0, .int 0, .int 0]) (n := 93) hC dX8_init_90 wd_1_205 wd_1_206 wd_1_9 in_J4 tyJ4_ok rfl (fun j hj => by match j, hj with | 0, _ => rfl | 1, _ => rfl | 2, _ => rfl | 3, _ => rfl | j + 4, h => exact absurd h (by omega)) ⟨Nat.le_of_ble_eq_true rfl, Nat.le_of_ble_eq_true rfl⟩ rfl (fun q8 => ?_)
  refine hy_dup (n := 94) hC dX8_init_93 rfl rfl ?_
  refine hy_ctor (As := []) (t1 := (((((([(h0, .inr (11, [.ref (a1 0 0), .ref (a2 0 0), .ref (a3 0 0), .ref (a4 0 0), .ref (a5 0 0), .int 0, .ref (a6 0 0), .ref q7, .int 0, .null]))] ++ WLX2 a1 adV cA) ++ WLX2 a2 adV cA) ++ WLX1 a3 adV cA) ++ WLX2 a4 adV cA) ++ WLX2 a5 adV cA) ++ WLX5 a6 adV cA) ++ [(q7, .inl (cA 0, 700, .inl fun _ => 0))]) (n := 97) hC (c_J4_init l) ki_J4_init wd_1_207 dX8_init_94 rfl rfl rfl (Nat.le_of_ble_eq_true rfl) ⟨Nat.le_of_ble_eq_true rfl, Nat.le_of_ble_eq_true rfl⟩ ⟨Nat.le_of_ble_eq_true rfl, Nat.le_of_ble_eq_true rfl⟩ rfl (fun a7 ha7 => ?_)
  subst ha7
  refine hy_putF (T := TX8) (ty := tyX8) (i := 0) (k := 9) (t' := ((((((([(h0, .inr (11, [.ref (a1 0 0), .ref (a2 0 0), .ref (a3 0 0), .ref (a4 0 0), .ref (a5 0 0), .int 0, .ref (a6 0 0), .ref q7, .int 0, .ref (a7 0 0)]))] ++ WLX2 a1 adV cA) ++ WLX2 a2 adV cA) ++ WLX1 a3 adV cA) ++ WLX2 a4 adV cA) ++ WLX2 a5 adV cA) ++ WLX5 a6 adV cA) ++ [(q7, .inl (cA 0, 700, .inl fun _ => 0))]) ++ WLJ4 a7 adV cA) (n := 100) hC hni dX8_init_97 rfl in_X8 tyX8_ok nmX8 rfl (by decide) wd_3_64 rfl rfl rfl rfl rfl (Nat.le_of_ble_eq_true rfl) rfl rfl ?_
  refine hy_cell (i := 24) (a := a3 0 1) (u := .inl (cA 3, 8, .inr (.inr (.inr (.inr (va_up (va_up (va_up (va_up (va_up (va_up (va_up (va_up (fun _ => none) 0 (some (a3 2 0))) 1 (some (a3 3 0))) 2 (some (a3 4 0))) 3 (some (a3 5 0))) 4 (some (a3 6 0))) 5 (some (a3 7 0))) 6 (some (a3 8 0))) 7 (some (a3 9 0)))))))) (.inl (cA 3, 8, .inr (.inr (.inr (.inr (hp_vh (hp_ad8 h0 q7 a1 a2 a3 a4 a5 a6 a7))))))) rfl (fun H => hp_atQ (fun i hi => by
    rcases (show i = 0 ∨ i = 1 ∨ i = 2 ∨ i = 3 ∨ i = 4 ∨ i = 5 ∨ i = 6 ∨ i = 7 by omega) with rfl | rfl | rfl | rfl | rfl | rfl | rfl | rfl <;> rfl)) rfl ?_
  refine hy_cell (i := 139) (a := a7 0 1) (u := .inl (cA 2, 16, .inl fun _ => 0)) (.inl (cA 2, 16, .inl (hp_M0 14 1))) rfl (fun H => hp_atI (fun i hi => by
    unfold hp_M0; rw [if_neg (by decide), if_neg (by decide), if_neg (by omega)])) rfl ?_
  refine hy_Z (adV := adV) (cA := cA) (G0 := hp_G8) (ids := hp_idP) (adr := (hp_ad8 h0 q7 a1 a2 a3 a4 a5 a6 a7)) (M := hp_M0) ?_ ?_
  · rfl
  refine z_X8_init (adr := (hp_ad8 h0 q7 a1 a2 a3 a4 a5 a6 a7)) hp_idP_C hC (fun M => some ((), M)) hp_M0 _ _ ⟨Nat.le_of_ble_eq_true rfl, Nat.le_of_ble_eq_true rfl⟩ (fun M1 => ?_)
  exact hy_retB hC hr dX8_init_114 (fun _ => ((hp_ad8 h0 q7 a1 a2 a3 a4 a5 a6 a7), M1)) (fun h => ⟨rfl, h.symm⟩) (fun _ => rfl) ⟨Nat.le_of_ble_eq_true rfl, Nat.le_of_ble_eq_true rfl⟩
def hp_G9 (M : hp_M) : Option (Unit × hp_M) := G_X9_init (fun M => some ((), M)) (hp_z13 M 0)
def hp_P9 (h0 : Nat) (adr : Nat → Nat → Nat) (M : hp_M) (b : (Nat → Nat → Nat) × hp_M) : Prop := b.1 13 0 = h0 ∧ (∀ g j : Nat, ¬ (g = 13 ∧ 0 ≤ j) → b.1 g j = adr g j) ∧ hp_G9 M = some ((), b.2)
def hp_W9 (adV cA : Nat → Nat) (b : (Nat → Nat → Nat) × hp_M) : va_W := hp_wl (hp_idP ++ hp_idM) b.1 adV cA b.2
def hp_ad9 (adr : Nat → Nat → Nat) (h0 q1 q2 q3 q4 q5 q6 q7 q8 q9 : Nat) : Nat → Nat → Nat := fun g j => if g = 13 then (match j with | 0 => h0 | 1 => q1 | 2 => q2 | 3 => q3 | 4 => q4 | 5 => q5 | 6 => q6 | 7 => q7 | 8 => q8 | _ => q9) else adr g j
theorem hp_idP_13 : ∀ q ∈ hp_idP, ¬ (q.1 = 13 ∧ 0 ≤ q.2) := by decide +kernel
set_option maxRecDepth 40000 in
set_option maxHeartbeats 8000000 in
theorem c_X9_init (l : Launch) (M : hp_M) (hG : hp_G9 M ≠ none) (A : Nat → Prop) (D : va_G) (adr : Nat → Nat → Nat) (adV cA : Nat → Nat) (h0 : Nat) : Met l yX9_init [Cond.code yX9_init cX9_init 1 none] (hp_rmN 10 9 4748) (va_Pc [.ref h0] (hp_PN A D adV cA (hp_wl hp_idP adr adV cA M ++ [(h0, .inr (12, [.null, .null, .null, .null, .null, .int 0, .int 0, .null, .null, .int 0, .int 0, .null, .int 0, .int 0, .int 0, .int 0, .int 0, .int 0, .int 0, .int 0, .null]))]))) (hp_QB A D (hp_P9 h0 adr M) (hp_W9 adV cA)) 9 4748 A := by
  refine hp_startQ hG "HallPhoneModel" (by decide) rfl rfl (by simp only [lg_sl]; exact Nat.le_of_ble_eq_true rfl) ?_
  intro p e s m args below meth c hC hr hni
  refine hy_aload_n (a := 0) (n := 1) hC dX9_init_0 rfl rfl rfl ?_
  refine hy_obj (n := 4) hC dX9_init_1 wd_6_151 (Nat.le_of_ble_eq_true rfl) ⟨Nat.le_of_ble_eq_true rfl, Nat.le_of_ble_eq_true rfl⟩ rfl ?_
  refine hy_aload_n (a := 0) (n := 5) hC dX9_init_4 rfl rfl rfl ?_
  refine hy_sipush (v := (242 : Int32)) (n := 8) hC dX9_init_5 (by decide +kernel) rfl ?_
  refine hy_newa (ty := .int) (N' := 242) (a0 := (242, .inl fun _ => 0)) (j := 0) (n := 10) hC dX9_init_8 rfl hp_acs.1 rfl (fun _ _ _ h1 h2 => Option.some.inj (h1.symm.trans h2)) (fun _ => rfl) (by decide +kernel) (by decide +kernel) (Nat.le_of_ble_eq_true rfl) ⟨Nat.le_of_ble_eq_true rfl, Nat.le_of_ble_eq_true rfl⟩ rfl (fun q1 => ?_)
  refine hy_putF (T := TX9) (ty := tyX9) (i := 0) (k := 0) (t' := [(h0, .inr (12, [.ref q1, .null, .null, .null, .null, .int 0, .int 0, .null, .null, .int 0, .int 0, .null, .int 0, .int 0, .int 0, .int 0, .int 0, .int 0, .int 0, .int 0, .null]))] ++ [(q1, .inl (cA 0, 242, .inl fun _ => 0))]) (n := 13) hC hni dX9_init_10 rfl in_X9 tyX9_ok nmX9 rfl (by decide) wd_7_100 rfl rfl rfl rfl rfl (Nat.le_of_ble_eq_true rfl) rfl rfl ?_
  refine hy_aload_n (a := 0) (n := 14) hC dX9_init_13 rfl rfl rfl ?_
  refine hy_sipush (v := (242 : Int32)) (n := 17) hC dX9_init_14 (by decide +kernel) rfl ?_
  refine hy_newa (ty := .int) (N' := 242) (a0 := (242, .inl fun _ => 0)) (j := 0) (n := 19) hC dX9_init_17 rfl hp_acs.1 rfl (fun _ _ _ h1 h2 => Option.some.inj (h1.symm.trans h2)) (fun _ => rfl) (by decide +kernel) (by decide +kernel) (Nat.le_of_ble_eq_true rfl) ⟨Nat.le_of_ble_eq_true rfl, Nat.le_of_ble_eq_true rfl⟩ rfl (fun q2 => ?_)
  refine hy_putF (T := TX9) (ty := tyX9) (i := 0) (k := 1) (t' := ([(h0, .inr (12, [.ref q1, .ref q2, .null, .null, .null, .int 0, .int 0, .null, .null, .int 0, .int 0, .null, .int 0, .int 0, .int 0, .int 0, .int 0, .int 0, .int 0, .int 0, .null]))] ++ [(q1, .inl (cA 0, 242, .inl fun _ => 0))]) ++ [(q2, .inl (cA 0, 242, .inl fun _ => 0))]) (n := 22) hC hni dX9_init_19 rfl in_X9 tyX9_ok nmX9 rfl (by decide) wd_7_101 rfl rfl rfl rfl rfl (Nat.le_of_ble_eq_true rfl) rfl rfl ?_
  refine hy_aload_n (a := 0) (n := 23) hC dX9_init_22 rfl rfl rfl ?_
  refine hy_sipush (v := (242 : Int32)) (n := 26) hC dX9_init_23 (by decide +kernel) rfl ?_
  refine hy_newa (ty := .int) (N' := 242) (a0 := (242, .inl fun _ => 0)) (j := 0) (n := 28) hC dX9_init_26 rfl hp_acs.1 rfl (fun _ _ _ h1 h2 => Option.some.inj (h1.symm.trans h2)) (fun _ => rfl) (by decide +kernel) (by decide +kernel) (Nat.le_of_ble_eq_true rfl) ⟨Nat.le_of_ble_eq_true rfl, Nat.le_of_ble_eq_true rfl⟩ rfl (fun q3 => ?_)
  refine hy_putF (T := TX9) (ty := tyX9) (i := 0) (k := 2) (t' := (([(h0, .inr (12, [.ref q1, .ref q2, .ref q3, .null, .null, .int 0, .int 0, .null, .null, .int 0, .int 0, .null, .int 0, .int 0, .int 0, .int 0, .int 0, .int 0, .int 0, .int 0, .null]))] ++ [(q1, .inl (cA 0, 242, .inl fun _ => 0))]) ++ [(q2, .inl (cA 0, 242, .inl fun _ => 0))]) ++ [(q3, .inl (cA 0, 242, .inl fun _ => 0))]) (n := 31) hC hni dX9_init_28 rfl in_X9 tyX9_ok nmX9 rfl (by decide) wd_7_102 rfl rfl rfl rfl rfl (Nat.le_of_ble_eq_true rfl) rfl rfl ?_
  refine hy_aload_n (a := 0) (n := 32) hC dX9_init_31 rfl rfl rfl ?_
  refine hy_sipush (v := (1936 : Int32)) (n := 35) hC dX9_init_32 (by decide +kernel) rfl ?_
  refine hy_newa (ty := .int) (N' := 1936) (a0 := (1936, .inl fun _ => 0)) (j := 0) (n := 37) hC dX9_init_35 rfl hp_acs.1 rfl (fun _ _ _ h1 h2 => Option.some.inj (h1.symm.trans h2)) (fun _ => rfl) (by decide +kernel) (by decide +kernel) (Nat.le_of_ble_eq_true rfl) ⟨Nat.le_of_ble_eq_true rfl, Nat.le_of_ble_eq_true rfl⟩ rfl (fun q4 => ?_)
  refine hy_putF (T := TX9) (ty := tyX9) (i := 0) (k := 3) (t' := ((([(h0, .inr (12, [.ref q1, .ref q2, .ref q3, .ref q4, .null, .int 0, .int 0, .null, .null, .int 0, .int 0, .null, .int 0, .int 0, .int 0, .int 0, .int 0, .int 0, .int 0, .int 0, .null]))] ++ [(q1, .inl (cA 0, 242, .inl fun _ => 0))]) ++ [(q2, .inl (cA 0, 242, .inl fun _ => 0))]) ++ [(q3, .inl (cA 0, 242, .inl fun _ => 0))]) ++ [(q4, .inl (cA 0, 1936, .inl fun _ => 0))]) (n := 40) hC hni dX9_init_37 rfl in_X9 tyX9_ok nmX9 rfl (by decide) wd_7_103 rfl rfl rfl rfl rfl (Nat.le_of_ble_eq_true rfl) rfl rfl ?_
  refine hy_aload_n (a := 0) (n := 41) hC dX9_init_40 rfl rfl rfl ?_
  refine hy_sipush (v := (484 : Int32)) (n := 44) hC dX9_init_41 (by decide +kernel) rfl ?_
  refine hy_newa (ty := .int) (N' := 484) (a0 := (484, .inl fun _ => 0)) (j := 0) (n := 46) hC dX9_init_44 rfl hp_acs.1 rfl (fun _ _ _ h1 h2 => Option.some.inj (h1.symm.trans h2)) (fun _ => rfl) (by decide +kernel) (by decide +kernel) (Nat.le_of_ble_eq_true rfl) ⟨Nat.le_of_ble_eq_true rfl, Nat.le_of_ble_eq_true rfl⟩ rfl (fun q5 => ?_)
  refine hy_putF (T := TX9) (ty := tyX9) (i := 0) (k := 4) (t' := (((([(h0, .inr (12, [.ref q1, .ref q2, .ref q3, .ref q4, .ref q5, .int 0, .int 0, .null, .null, .int 0, .int 0, .null, .int 0, .int 0, .int 0, .int 0, .int 0, .int 0, .int 0, .int 0, .null]))] ++ [(q1, .inl (cA 0, 242, .inl fun _ => 0))]) ++ [(q2, .inl (cA 0, 242, .inl fun _ => 0))]) ++ [(q3, .inl (cA 0, 242, .inl fun _ => 0))]) ++ [(q4, .inl (cA 0, 1936, .inl fun _ => 0))]) ++ [(q5, .inl (cA 0, 484, .inl fun _ => 0))]) (n := 49) hC hni dX9_init_46 rfl in_X9 tyX9_ok nmX9 rfl (by decide) wd_7_104 rfl rfl rfl rfl rfl (Nat.le_of_ble_eq_true rfl) rfl rfl ?_
  refine hy_aload_n (a := 0) (n := 50) hC dX9_init_49 rfl rfl rfl ?_
  refine hy_sipush (v := (700 : Int32)) (n := 53) hC dX9_init_50 (by decide +kernel) rfl ?_
  refine hy_newa (ty := .int) (N' := 700) (a0 := (700, .inl fun _ => 0)) (j := 0) (n := 55) hC dX9_init_53 rfl hp_acs.1 rfl (fun _ _ _ h1 h2 => Option.some.inj (h1.symm.trans h2)) (fun _ => rfl) (by decide +kernel) (by decide +kernel) (Nat.le_of_ble_eq_true rfl) ⟨Nat.le_of_ble_eq_true rfl, Nat.le_of_ble_eq_true rfl⟩ rfl (fun q6 => ?_)
  refine hy_putF (T := TX9) (ty := tyX9) (i := 0) (k := 7) (t' := ((((([(h0, .inr (12, [.ref q1, .ref q2, .ref q3, .ref q4, .ref q5, .int 0, .int 0, .ref q6, .null, .int 0, .int 0, .null, .int 0, .int 0, .int 0, .int 0, .int 0, .int 0, .int 0, .int 0, .null]))] ++ [(q1, .inl (cA 0, 242, .inl fun _ => 0))]) ++ [(q2, .inl (cA 0, 242, .inl fun _ => 0))]) ++ [(q3, .inl (cA 0, 242, .inl fun _ => 0))]) ++ [(q4, .inl (cA 0, 1936, .inl fun _ => 0))]) ++ [(q5, .inl (cA 0, 484, .inl fun _ => 0))]) ++ [(q6, .inl (cA 0, 700, .inl fun _ => 0))]) (n := 58) hC hni dX9_init_55 rfl in_X9 tyX9_ok nmX9 rfl (by decide) wd_7_107 rfl rfl rfl rfl rfl (Nat.le_of_ble_eq_true rfl) rfl rfl ?_
  refine hy_aload_n (a := 0) (n := 59) hC dX9_init_58 rfl rfl rfl ?_
  refine hy_sipush (v := (700 : Int32)) (n := 62) hC dX9_init_59 (by decide +kernel) rfl ?_
  refine hy_newa (ty := .int) (N' := 700) (a0 := (700, .inl fun _ => 0)) (j := 0) (n := 64) hC dX9_init_62 rfl hp_acs.1 rfl (fun _ _ _ h1 h2 => Option.some.inj (h1.symm.trans h2)) (fun _ => rfl) (by decide +kernel) (by decide +kernel) (Nat.le_of_ble_eq_true rfl) ⟨Nat.le_of_ble_eq_true rfl, Nat.le_of_ble_eq_true rfl⟩ rfl (fun q7 => ?_)
  refine hy_putF (T := TX9) (ty := tyX9) (i := 0) (k := 8) (t' := (((((([(h0, .inr (12, [.ref q1, .ref q2, .ref q3, .ref q4, .ref q5, .int 0, .int 0, .ref q6, .ref q7, .int 0, .int 0, .null, .int 0, .int 0, .int 0, .int 0, .int 0, .int 0, .int 0, .int 0, .null]))] ++ [(q1, .inl (cA 0, 242, .inl fun _ => 0))]) ++ [(q2, .inl (cA 0, 242, .inl fun _ => 0))]) ++ [(q3, .inl (cA 0, 242, .inl fun _ => 0))]) ++ [(q4, .inl (cA 0, 1936, .inl fun _ => 0))]) ++ [(q5, .inl (cA 0, 484, .inl fun _ => 0))]) ++ [(q6, .inl (cA 0, 700, .inl fun _ => 0))]) ++ [(q7, .inl (cA 0, 700, .inl fun _ => 0))]) (n := 67) hC hni dX9_init_64 rfl in_X9 tyX9_ok nmX9 rfl (by decide) wd_7_108 rfl rfl rfl rfl rfl (Nat.le_of_ble_eq_true rfl) rfl rfl ?_
  refine hy_aload_n (a := 0) (n := 68) hC dX9_init_67 rfl rfl rfl ?_
  refine hy_sipush (v := (200 : Int32)) (n := 71) hC dX9_init_68 (by decide +kernel) rfl ?_
  refine hy_newa (ty := .char) (N' := 200) (a0 := (200, .inl fun _ => 0)) (j := 1) (n := 73) hC dX9_init_71 rfl hp_acs.2.1 rfl (fun _ _ _ h1 h2 => Option.some.inj (h1.symm.trans h2)) (fun _ => rfl) (by decide +kernel) (by decide +kernel) (Nat.le_of_ble_eq_true rfl) ⟨Nat.le_of_ble_eq_true rfl, Nat.le_of_ble_eq_true rfl⟩ rfl (fun q8 => ?_)
  refine hy_putF (T := TX9) (ty := tyX9) (i := 0) (k := 11) (t' := ((((((([(h0, .inr (12, [.ref q1, .ref q2, .ref q3, .ref q4, .ref q5, .int 0, .int 0, .ref q6, .ref q7, .int 0, .int 0, .ref q8, .int 0, .int 0, .int 0, .int 0, .int 0, .int 0, .int 0, .int 0, .null]))] ++ [(q1, .inl (cA 0, 242, .inl fun _ => 0))]) ++ [(q2, .inl (cA 0, 242, .inl fun _ => 0))]) ++ [(q3, .inl (cA 0, 242, .inl fun _ => 0))]) ++ [(q4, .inl (cA 0, 1936, .inl fun _ => 0))]) ++ [(q5, .inl (cA 0, 484, .inl fun _ => 0))]) ++ [(q6, .inl (cA 0, 700, .inl fun _ => 0))]) ++ [(q7, .inl (cA 0, 700, .inl fun _ => 0))]) ++ [(q8, .inl (cA 1, 200, .inl fun _ => 0))]) (n := 76) hC hni dX9_init_73 rfl in_X9 tyX9_ok nmX9 rfl (by decide) wd_7_111 rfl rfl rfl rfl rfl (Nat.le_of_ble_eq_true rfl) rfl rfl ?_
  refine hy_aload_n (a := 0) (n := 77) hC dX9_init_76 rfl rfl rfl ?_
  refine hy_iconst (v := (2 : Int32)) (n := 78) hC dX9_init_77 (by decide +kernel) rfl ?_
  refine hy_newa (ty := .int) (N' := 2) (a0 := (2, .inl fun _ => 0)) (j := 0) (n := 80) hC dX9_init_78 rfl hp_acs.1 rfl (fun _ _ _ h1 h2 => Option.some.inj (h1.symm.trans h2)) (fun _ => rfl) (by decide +kernel) (by decide +kernel) (Nat.le_of_ble_eq_true rfl) ⟨Nat.le_of_ble_eq_true rfl, Nat.le_of_ble_eq_true rfl⟩ rfl (fun q9 => ?_)
  refine hy_putF (T := TX9) (ty := tyX9) (i := 0) (k := 20) (t' := (((((((([(h0, .inr (12, [.ref q1, .ref q2, .ref q3, .ref q4, .ref q5, .int 0, .int 0, .ref q6, .ref q7, .int 0, .int 0, .ref q8, .int 0, .int 0, .int 0, .int 0, .int 0, .int 0, .int 0, .int 0, .ref q9]))] ++ [(q1, .inl (cA 0, 242, .inl fun _ => 0))]) ++ [(q2, .inl (cA 0, 242, .inl fun _ => 0))]) ++ [(q3, .inl (cA 0, 242, .inl fun _ => 0))]) ++ [(q4, .inl (cA 0, 1936, .inl fun _ => 0))]) ++ [(q5, .inl (cA 0, 484, .inl fun _ => 0))]) ++ [(q6, .inl (cA 0, 700, .inl fun _ => 0))]) ++ [(q7, .inl (cA 0, 700, .inl fun _ => 0))]) ++ [(q8, .inl (cA 1, 200, .inl fun _ => 0))]) ++ [(q9, .inl (cA 0, 2, .inl fun _ => 0))]) (n := 83) hC hni dX9_init_80 rfl in_X9 tyX9_ok nmX9 rfl (by decide) wd_7_120 rfl rfl rfl rfl rfl (Nat.le_of_ble_eq_true rfl) rfl rfl ?_
  refine hy_same (k := 0) (adr' := (hp_ad9 adr h0 q1 q2 q3 q4 q5 q6 q7 q8 q9)) (M' := hp_z13 M 0) (Or.inl rfl) hp_idP_13 (fun g j h => if_neg (fun e => h ⟨e, Nat.zero_le _⟩)) (fun g j h => funext fun i => if_neg h) ?_
  refine hy_Z (adV := adV) (cA := cA) (G0 := hp_G9 M) (ids := hp_idP ++ hp_idM) (adr := (hp_ad9 adr h0 q1 q2 q3 q4 q5 q6 q7 q8 q9)) (M := hp_z13 M 0) ?_ ?_
  · rw [show hp_wl (hp_idP ++ hp_idM) (hp_ad9 adr h0 q1 q2 q3 q4 q5 q6 q7 q8 q9) adV cA (hp_z13 M 0) = hp_wl hp_idP (hp_ad9 adr h0 q1 q2 q3 q4 q5 q6 q7 q8 q9) adV cA (hp_z13 M 0) ++ hp_wl hp_idM (hp_ad9 adr h0 q1 q2 q3 q4 q5 q6 q7 q8 q9) adV cA (hp_z13 M 0) from List.map_append]
    congr 1
  refine z_X9_init (adr := (hp_ad9 adr h0 q1 q2 q3 q4 q5 q6 q7 q8 q9)) hp_id_IR hC (fun M => some ((), M)) (hp_z13 M 0) _ _ ⟨Nat.le_of_ble_eq_true rfl, Nat.le_of_ble_eq_true rfl⟩ (fun M1 => ?_)
  exact hy_retB hC hr dX9_init_93 (fun _ => ((hp_ad9 adr h0 q1 q2 q3 q4 q5 q6 q7 q8 q9), M1)) (fun h => ⟨rfl, fun g j hg => if_neg (fun e => hg ⟨e, Nat.zero_le _⟩), h.symm⟩) (fun _ => rfl) ⟨Nat.le_of_ble_eq_true rfl, Nat.le_of_ble_eq_true rfl⟩
