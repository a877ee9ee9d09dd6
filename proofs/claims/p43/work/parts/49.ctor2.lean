def hp_idP : List (Nat × Nat) := [(12, 0), (0, 0), (0, 1), (0, 2), (0, 3), (0, 4), (0, 5), (0, 6), (0, 7), (0, 8), (0, 9), (0, 10), (1, 0), (1, 1), (1, 2), (1, 3), (1, 4), (1, 5), (1, 6), (1, 7), (1, 8), (1, 9), (1, 10), (12, 4), (12, 5), (2, 0), (2, 1), (2, 2), (2, 3), (2, 4), (2, 5), (2, 6), (2, 7), (2, 8), (2, 9), (2, 10), (3, 0), (3, 1), (3, 2), (3, 3), (3, 4), (3, 5), (3, 6), (3, 7), (3, 8), (3, 9), (3, 10), (4, 0), (4, 1), (4, 2), (4, 3), (4, 4), (4, 5), (4, 6), (4, 7), (4, 8), (4, 9), (4, 10), (5, 0), (5, 1), (5, 2), (5, 3), (5, 4), (5, 5), (5, 6), (5, 7), (5, 8), (5, 9), (5, 10), (6, 0), (6, 1), (6, 2), (6, 3), (6, 4), (6, 5), (6, 6), (6, 7), (6, 8), (6, 9), (6, 10), (7, 0), (7, 1), (7, 2), (7, 3), (7, 4), (7, 5), (7, 6), (7, 7), (7, 8), (7, 9), (7, 10), (8, 0), (8, 1), (8, 2), (8, 3), (8, 4), (8, 5), (8, 6), (8, 7), (8, 8), (8, 9), (8, 10), (9, 0), (9, 1), (9, 2), (9, 3), (9, 4), (9, 5), (9, 6), (9, 7), (9, 8), (9, 9), (9, 10), (10, 0), (10, 1), (10, 2), (10, 3), (10, 4), (10, 5), (10, 6), (10, 7), (10, 8), (10, 9), (10, 10), (11, 0), (11, 1), (11, 2), (11, 3), (11, 4), (11, 5), (11, 6), (11, 7), (11, 8), (11, 9), (11, 10), (12, 1), (12, 2), (12, 3), (14, 0), (14, 1)]
/-- the memory before the first text is read -/
def hp_M0 : hp_M := fun g j i => if g < 12 then (if j = 5 ∧ i = 1 then -1 else 0) else if g = 12 then (if j = 1 ∧ (i = 6 ∨ i = 7) then -1 else 0) else if g = 14 ∧ j = 1 ∧ i = 5000 then 16 else 0
theorem hp_idP_C : hp_IC hp_idP := by
  have h : ∀ g : Nat, g < 12 → ∀ j : Nat, j < 11 → (g, j) ∈ hp_idP := by decide +kernel
  exact ⟨fun g j hg hj => h g hg j hj, by decide +kernel⟩
theorem hp_arrV (cB : Nat) (n : Nat) (f g : Nat → Value) (h : ∀ i : Nat, i < n → f i = g i) : arrV cB n f = arrV cB n g := by
  unfold arrV
  congr 1
  apply Array.ext
  · simp
  · intro i h1 h2
    simp only [Array.getElem_ofFn]
    exact h i (by simpa using h1)
/-- the same cell, if it says the same within its length -/
theorem hp_atI {D : va_G} {cl : List vw_C} {a cB n : Nat} {f g : Nat → Int32} {H : Heap} (h : ∀ i : Nat, i < n → f i = g i) (q : va_at D cl (a, .inl (cB, n, .inl f)) H) : va_at D cl (a, .inl (cB, n, .inl g)) H := by
  have e : vp_cell cB (n, .inl f) = vp_cell cB (n, .inl g) := hp_arrV cB n (fun j => .int (f j)) (fun j => .int (g j)) (fun i hi => by show Value.int _ = Value.int _; rw [h i hi])
  show H[a]? = some (vp_cell cB (n, .inl g))
  rw [← e]; exact q
theorem hp_atQ {D : va_G} {cl : List vw_C} {a cB n : Nat} {f g : Nat → Option Nat} {H : Heap} (h : ∀ i : Nat, i < n → f i = g i) (q : va_at D cl (a, .inl (cB, n, .inr (.inr (.inr (.inr f))))) H) : va_at D cl (a, .inl (cB, n, .inr (.inr (.inr (.inr g))))) H := by
  have e : vp_cell cB (n, .inr (.inr (.inr (.inr f)))) = vp_cell cB (n, .inr (.inr (.inr (.inr g)))) := hp_arrV cB n (fun j => va_rf (f j)) (fun j => va_rf (g j)) (fun i hi => by show va_rf _ = va_rf _; rw [h i hi])
  show H[a]? = some (vp_cell cB (n, .inr (.inr (.inr (.inr g)))))
  rw [← e]; exact q
theorem hp_atL {D : va_G} {cl : List vw_C} {a cB n : Nat} {f g : Nat → Int64} {H : Heap} (h : ∀ i : Nat, i < n → f i = g i) (q : va_at D cl (a, .inl (cB, n, .inr (.inl f))) H) : va_at D cl (a, .inl (cB, n, .inr (.inl g))) H := by
  have e : vp_cell cB (n, .inr (.inl f)) = vp_cell cB (n, .inr (.inl g)) := hp_arrV cB n (fun j => .long (f j)) (fun j => .long (g j)) (fun i hi => by show Value.long _ = Value.long _; rw [h i hi])
  show H[a]? = some (vp_cell cB (n, .inr (.inl g)))
  rw [← e]; exact q
/-- a world cell by cell -/
theorem hp_cells {A : Nat → Prop} {D : va_G} {cl : List vw_C} {w w' : va_W} {H : Heap} (hl : w.length = w'.length) (h : ∀ (k : Nat) (x y : Nat × va_E), w[k]? = some x → w'[k]? = some y → x.1 = y.1 ∧ (va_at D cl x H → va_at D cl y H)) (hP : va_P D cl w H) (hD : va_D A w) : va_P D cl w' H ∧ va_D A w' := by
  have get : ∀ (k : Nat) (y : Nat × va_E), w'[k]? = some y → ∃ x, w[k]? = some x := fun k y hy => by
    have hk : k < w.length := by rw [hl]; exact (List.getElem?_eq_some_iff.mp hy).1
    exact ⟨w[k], List.getElem?_eq_getElem hk⟩
  refine ⟨fun k y hy => ?_, fun i j p q hp hq hpq => ?_, fun k y hy => ?_⟩
  · obtain ⟨x, hx⟩ := get k y hy
    exact (h k x y hx hy).2 (hP k x hx)
  · obtain ⟨p', hp'⟩ := get i p hp
    obtain ⟨q', hq'⟩ := get j q hq
    exact hD.1 i j p' q' hp' hq' (by rw [(h i p' p hp' hp).1, (h j q' q hq' hq).1, hpq])
  · obtain ⟨x, hx⟩ := get k y hy
    rw [← (h k x y hx hy).1]
    exact hD.2 k x hx
theorem hp_cell1 {A : Nat → Prop} {D : va_G} {cl : List vw_C} {w : va_W} {H : Heap} {i a : Nat} {u v : va_E} (hi : w[i]? = some (a, u)) (h : va_at D cl (a, u) H → va_at D cl (a, v) H) (hP : va_P D cl w H) (hD : va_D A w) : va_P D cl (w.set i (a, v)) H ∧ va_D A (w.set i (a, v)) := by
  refine hp_cells (by simp) (fun k x y hx hy => ?_) hP hD
  by_cases hk : k = i
  · subst hk
    rw [List.getElem?_set_self (List.getElem?_eq_some_iff.mp hx).1] at hy
    cases hy
    rw [hi] at hx
    cases hx
    exact ⟨rfl, h⟩
  · rw [List.getElem?_set_ne (Ne.symm hk), hx] at hy
    cases hy
    exact ⟨rfl, id⟩
def hp_QB {β : Type} (A : Nat → Prop) (D : va_G) (Pb : β → Prop) (PQ : β → va_W) : Array Value → State → Outcome → State → Prop := fun _ st oc t => (∃ b : β, oc = .returned none ∧ Pb b ∧ va_P D vwCl (PQ b) t.heap ∧ va_D A (PQ b)) ∧ va_F A st t
theorem hp_startQ {l : Launch} {y : MethodName} {cc : ByteArray} {nL d k sl : Nat} {Qc : Array Value → State → Outcome → State → Prop} {A : Nat → Prop} {D : va_G} {adV cA : Nat → Nat} {ws t : va_W} {h0 : Nat} {α : Type} {G0 : Option α} (hG0 : G0 ≠ none) (own : String) (hy : plainName y.cls = true) (hown : y.cls = own) (hnm : y.name = "<init>") (hlen : (lg_sl [.ref h0]).length ≤ nL)
    (body : ∀ (p : Program) (e : Env) (s : State) (m : MethodId) (args : Array Value) (below : List Frame) (meth : Method) (c : Code), hp_Cx p s m meth c cc nL own A D adV cA G0 → meth.sig.returnType = none → meth.name = "<init>" →
      hp_Y p l e (hp_rmN d k sl) s m args below meth c nL A D 0 0 (MQ below Qc args s k sl A) 0 [(0, .ref h0)] [] ws t) : Met l y [Cond.code y cc nL none] (hp_rmN d k sl) (va_Pc [.ref h0] (hp_PN A D adV cA (ws ++ t))) Qc k sl A := by
  refine Met.ofW (cc := cc) (maxL := nL) (ret := none) hy rfl ?_
  intro p e s m args below meth c s₁ B hml hv
  obtain ⟨rfl, hT, hA, hP, hD⟩ := hv
  have hl := lv_entry [.ref h0] (n := nL) hlen
  rw [lg_entry_eq]
  subst hown
  exact body p e s m _ below meth c ⟨B.exec, B.bytes, hml, findClass_of_methodNamed B.named, hT, hA, B.notSynchronized, hG0⟩ B.returns ((name_of_methodNamed B.named B.method).1.trans hnm) s.heap [] _ hP hD va_S.rf hl
section HPY2
variable {p : Program} {l : Launch} {e : Env} {R : Room} {s : State} {m : MethodId} {args : Array Value} {below : List Frame} {meth : Method} {c : Code} {cells slots K0 S0 : Nat} {Q : State → Prop}
variable {cc : ByteArray} {nL : Nat} {own : String} {A : Nat → Prop} {D : va_G} {adV cA : Nat → Nat} {α β : Type} {G0 : Option α} {pc n : Nat} {L : List (Nat × Value)} {st : List Value} {ws t t' : va_W}
theorem hy_cell {i a : Nat} {u : va_E} (v : va_E) (hi : t[i]? = some (a, u)) (h : ∀ H : Heap, va_at D vwCl (a, u) H → va_at D vwCl (a, v) H) (ht : t.set i (a, v) = t') (k : hp_Y p l e R s m args below meth c nL A D cells slots Q pc L st ws t') : hp_Y p l e R s m args below meth c nL A D cells slots Q pc L st ws t := by
  intro H locs ls hP hD hS hL
  obtain ⟨hP1, hD1⟩ := hp_cell1 (hy_at hi) (h H) hP hD
  rw [hy_set ht] at hP1 hD1
  exact k H locs ls hP1 hD1 hS hL
theorem hy_Z {ids : List (Nat × Nat)} {adr : Nat → Nat → Nat} {M : hp_M} (hw : ws ++ t = hp_wl ids adr adV cA M) (k : hp_Z p l e R s m args below meth c nL A D ids adr adV cA cells slots Q G0 none pc L st M G0) : hp_Y p l e R s m args below meth c nL A D cells slots Q pc L st ws t := by
  intro H locs ls hP hD hS hL
  rw [hw] at hP hD
  exact k H locs ls rfl ⟨[], rfl, by rw [List.append_nil]; exact hP, by rw [List.append_nil]; exact hD⟩ hS hL
theorem hy_retB {Pb : β → Prop} {PQ : β → va_W} {ids : List (Nat × Nat)} {adr : Nat → Nat → Nat} {M : hp_M} {G : Option α} (hC : hp_Cx p s m meth c cc nL own A D adV cA G0) (hr : meth.sig.returnType = none) (hdg : decode cc pc = .ok (.return_, 1)) (b : G = G0 → β) (hb : ∀ h : G = G0, Pb (b h)) (hq : ∀ h : G = G0, PQ (b h) = hp_wl ids adr adV cA M) (hf : cells ≤ K0 ∧ slots ≤ S0) : hp_Z p l e R s m args below meth c nL A D ids adr adV cA cells slots (MQ below (hp_QB A D Pb PQ) args s K0 S0 A) G0 none pc L [] M G := by
  intro H locs ls hG hW hS hL
  obtain ⟨tl, htl, hP, hD⟩ := hW
  obtain rfl : tl = [] := htl
  rw [List.append_nil] at hP hD
  have hlocks := hC.2.2.2.2.2.2.1
  exact W.widen hf.1 hf.2 (W.vret hC.1 hC.2.1 hr (fun t ht hWm => ⟨⟨b hG, rfl, hb hG, by rw [hq hG, ht]; exact hP, by rw [hq hG]; exact hD⟩, hS.F ht⟩) hS.2.2 hdg hlocks)
theorem hp_callRB {Pb : β → Prop} {PQ : β → va_W} {ls : Array Slot} {st0 : List Value} {a : Array Value} {mc ms : Nat} {H : Heap} {locs : List Loc} (hr : va_Run p l e R s m args below meth c H locs cells slots mc ms (F0 m pc ls st0) st (hp_QB A D Pb PQ a) A) (hS : va_S A s.heap H locs)
    (kk : ∀ (b : β) (H1 : Heap) (locs1 : List Loc), Pb b → va_P D vwCl (PQ b) H1 → va_D A (PQ b) → va_S A s.heap H1 locs1 → W p l e R s m args below meth c H1 locs1 (cells + mc) (slots + ms) Q (F0 m (pc + 3) ls st)) : W p l e R s m args below meth c H locs cells slots Q (F0 m pc ls st0) := by
  intro T hT X
  obtain ⟨v, st₀, t, T', L, h0, X', hL, e1, e2, ⟨⟨b, hv, ha, hw, hd⟩, hz, hk⟩, st⟩ := hr T hT X
  cases hv
  rw [h0] at hz hk
  obtain ⟨t2, a1, b1⟩ := kk b T'.heap (locs ++ L) ha (by rw [e1]; exact hw) hd
    ⟨Nat.le_trans hS.1 (by rw [e1]; exact hz), fun q h1 h2 => by rw [e1, hk q (Nat.lt_of_lt_of_le h1 hS.1) h2]; exact hS.2.1 q h1 h2, fun q hq => by
      rcases List.mem_append.mp hq with h | h
      · exact hS.2.2 q h
      · exact hL q h⟩ T' rfl X'
  exact ⟨t2, st t2 a1, b1⟩
theorem hy_ctorB (hC : hp_Cx p s m meth c cc nL own A D adV cA G0) {y : MethodName} {cc1 : ByteArray} {nL1 d1 k1 s1 idx q : Nat} {st0 : List Value} {Pb : β → Prop} {PQ : β → va_W} (hct : Met l y [Cond.code y cc1 nL1 none] (hp_rmN d1 k1 s1) (va_Pc [.ref q] (hp_PN A D adV cA (ws ++ t))) (hp_QB A D Pb PQ) k1 s1 A) (hk : hp_Ki y cc1 nL1 0) (hl : hp_ok (.methodLink own idx y)) (hdg : decode cc pc = .ok (.invokespecial idx, 3)) (hst : st0 = .ref q :: st) (hcat : (st.map fun v => v.category).sum ≤ 8) (hR : d1 + 1 ≤ R.frames ∧ 43 * d1 + 43 ≤ R.locals) (hf : cells + k1 ≤ R.cells ∧ slots + s1 ≤ R.slots) (hn : pc + 3 = n) (kk : ∀ b : β, Pb b → hp_Y p l e R s m args below meth c nL A D (cells + k1) (slots + s1) Q n L st (PQ b) []) : hp_Y p l e R s m args below meth c nL A D cells slots Q pc L st0 ws t := by
  subst hn
  intro H locs ls hP hD hS hL
  have hT := hC.2.2.2.2.1
  have hCB : CallB R s args own idx y cc1 nL1 none [Cond.code y cc1 nL1 none] (hp_rmN d1 k1 s1) k1 s1 0 := by
    refine ⟨rfl, rfl, hR.1, ?_, hp_codeIn hT hk.2.2.2.1, List.mem_cons_self, hp_wd hT hk.2.2.2.1 args, hp_wd hT hk.2.2.1 args, ⟨hk.2.2.2.2.1.1, hk.2.2.2.2.1.2.1⟩, fun sig h => ?_, hp_wd hT hl args⟩
    · have := hk.2.2.2.2.2
      show 8 + (nL1 + 11) + 43 * d1 ≤ R.locals
      omega
    · have h2 := hk.2.2.2.2.1.2.2
      rw [h] at h2
      exact (Option.some.inj h2).symm
  exact hp_callRB (va_runI (As := []) (rest := st) ⟨hC.1, hC.2.1, hC.2.2.1, hC.2.2.2.1, fun w h => absurd h List.not_mem_nil⟩ (Ts := []) hct ⟨hCB, hk.1, hp_wd hT hk.2.1 args⟩ ⟨hp_blindN, hp_preN hC hS hP hD⟩ rfl rfl hL.1 hst (lv_room hcat) hdg hf) hS (fun b H1 locs1 ha hP1 hD1 hS1 => kk b ha H1 locs1 ls (by rw [List.append_nil]; exact hP1) (by rw [List.append_nil]; exact hD1) hS1 hL)
end HPY2
def G_X8_init {α : Type} (K : hp_M → Option α) (M : hp_M) : Option α := (hp_b (F_X5_takeText 20 M) (fun _ M1 => (hp_b (F_X8_replaceByText M1) (fun r2 M2 => (K M2)))))
set_option maxHeartbeats 4000000 in
theorem z_X8_init {p : Program} {l : Launch} {e : Env} {s : State} {m : MethodId} {args : Array Value} {below : List Frame} {meth : Method} {c : Code} {A : Nat → Prop} {D : va_G} {ids : List (Nat × Nat)} {adr : Nat → Nat → Nat} {adV cA : Nat → Nat} {Q : State → Prop} {α : Type} {G0 : Option α} (hI : hp_IC ids) (hC : hp_Cx p s m meth c cX8_init 1 "HallPhone" A D adV cA G0) (K : hp_M → Option α) (M : hp_M) (cells slots : Nat) (hf : cells ≤ 139 ∧ slots ≤ 4705) (kk : ∀ M' : hp_M, hp_Z p l e (hp_rmN 8 139 4705) s m args below meth c 1 A D ids adr adV cA cells slots Q G0 none 114 [(0, .ref (adr 12 0))] [] M' (K M')) : hp_Z p l e (hp_rmN 8 139 4705) s m args below meth c 1 A D ids adr adV cA cells slots Q G0 none 100 [(0, .ref (adr 12 0))] [] M (G_X8_init K M) := by
  unfold G_X8_init
  refine hz_aload_n (a := 0) (n := 101) hC dX8_init_100 rfl rfl rfl ?_
  refine fg_X8_39 (n := 104) hC hI dX8_init_101 rfl ?_
  refine hz_ldcS (k := 20) (n := 106) hC dX8_init_104 wd_1_227 (hp_st_s 0 (by decide)) rfl ?_
  refine hz_callVN (k := 1) (As := [.ref (adV 20)]) (st := []) (S1 := fun _ => []) (n := 109) hC (c_X5_takeText l 20 (by decide)  M) kv_X5_takeText wd_1_228 hI dX8_init_106 rfl (hI.2 1 (by decide)) he_X5 rfl rfl rfl (Nat.le_of_ble_eq_true rfl) ⟨Nat.le_of_ble_eq_true rfl, Nat.le_of_ble_eq_true rfl⟩ ⟨hf.1, hf.2⟩ (fun _ => rfl) rfl (fun r1 M1 _ => ?_)
  refine hz_aload_n (a := 0) (n := 110) hC dX8_init_109 rfl rfl rfl ?_
  refine hz_callV (k := 0) (As := []) (st := []) (S1 := fun r => .int r :: []) (n := 113) hC (c_X8_replaceByText l    M1) kv_X8_replaceByText wd_2_46 hI dX8_init_110 rfl (hI.2 0 (by decide)) he_X8 rfl rfl rfl (Nat.le_of_ble_eq_true rfl) ⟨Nat.le_of_ble_eq_true rfl, Nat.le_of_ble_eq_true rfl⟩ ⟨hf.1, hf.2⟩ (fun _ => rfl) rfl (fun r2 M2 _ => ?_)
  refine hz_pop (n := 114) hC dX8_init_113 rfl rfl ?_
  refine hz_L (L' := [(0, .ref (adr 12 0))]) [0] rfl ?_
  exact kk M2
theorem wd_1_35 : hp_ok (Cond.classLink "HallPhone" 7 "HallPhone$House") := ⟨hp_m1 (List.mem_of_getElem? (i := 35) (by decide +kernel)), rfl⟩
theorem wd_1_135 : hp_ok (Cond.classLink "HallPhone" 19 "HallPhone$History") := ⟨hp_m1 (List.mem_of_getElem? (i := 135) (by decide +kernel)), rfl⟩
theorem wd_1_136 : hp_ok (Cond.instantiable "HallPhone$History" 3) := ⟨hp_m1 (List.mem_of_getElem? (i := 136) (by decide +kernel)), rfl⟩
theorem wd_1_155 : hp_ok (Cond.classLink "HallPhone" 36 "HallPhone$Reader") := ⟨hp_m1 (List.mem_of_getElem? (i := 155) (by decide +kernel)), rfl⟩
theorem wd_1_156 : hp_ok (Cond.instantiable "HallPhone$Reader" 10) := ⟨hp_m1 (List.mem_of_getElem? (i := 156) (by decide +kernel)), rfl⟩
theorem wd_1_196 : hp_ok (Cond.classLink "HallPhone" 50 "java/lang/StringBuilder") := ⟨hp_m1 (List.mem_of_getElem? (i := 196) (by decide +kernel)), rfl⟩
theorem wd_1_197 : hp_ok (Cond.instantiable "java/lang/StringBuilder" 4) := ⟨hp_m1 (List.mem_of_getElem? (i := 197) (by decide +kernel)), rfl⟩
theorem wd_1_30 : hp_ok (Cond.instanceMethod ⟨"HallPhone", "<init>", "()V"⟩) := ⟨hp_m1 (List.mem_of_getElem? (i := 30) (by decide +kernel)), rfl⟩
theorem ki_X8_init : hp_Ki yX8_init cX8_init 1 0 := ⟨rfl, wd_1_30, wd_1_1, wd_1_31, ⟨by decide, by decide, by decide +kernel⟩, by decide⟩
def hp_G8 : Option (Unit × hp_M) := G_X8_init (fun M => some ((), M)) hp_M0
def hp_P8 (h0 : Nat) (b : (Nat → Nat → Nat) × hp_M) : Prop := b.1 12 0 = h0 ∧ hp_G8 = some ((), b.2)
def hp_W8 (adV cA : Nat → Nat) (b : (Nat → Nat → Nat) × hp_M) : va_W := hp_wl hp_idP b.1 adV cA b.2
def hp_ad8 (h0 qb : Nat) (a1 a2 a3 a4 a5 a6 a7 : Nat → Nat → Nat) : Nat → Nat → Nat := fun g j => match g with | 0 => a1 0 j | 1 => a2 0 j | 10 => a4 0 j | 11 => a5 0 j | 12 => (match j with | 0 => h0 | 1 => a6 0 0 | 2 => a6 0 1 | 3 => qb | 4 => a3 0 0 | _ => a3 0 1) | 14 => a7 0 j | g => a3 g j
set_option maxRecDepth 40000 in
set_option maxHeartbeats 8000000 in
theorem c_X8_init (l : Launch) (hG : hp_G8 ≠ none) (A : Nat → Prop) (D : va_G) (adV cA : Nat → Nat) (h0 : Nat) : Met l yX8_init [Cond.code yX8_init cX8_init 1 none] (hp_rmN 8 139 4705) (va_Pc [.ref h0] (hp_PN A D adV cA ([] ++ [(h0, .inr (8, [.null, .null, .null, .null, .null, .int 0, .null, .null, .int 0, .null]))]))) (hp_QB A D (hp_P8 h0) (hp_W8 adV cA)) 139 4705 A := by
  refine hp_startQ hG "HallPhone" (by decide) rfl rfl (by simp only [lg_sl]; exact Nat.le_of_ble_eq_true rfl) ?_
  intro p e s m args below meth c hC hr hni
  refine hy_aload_n (a := 0) (n := 1) hC dX8_init_0 rfl rfl rfl ?_
  refine hy_obj (n := 4) hC dX8_init_1 wd_1_32 (Nat.le_of_ble_eq_true rfl) ⟨Nat.le_of_ble_eq_true rfl, Nat.le_of_ble_eq_true rfl⟩ rfl ?_
  refine hy_aload_n (a := 0) (n := 5) hC dX8_init_4 rfl rfl rfl ?_
  refine hy_new (ci := 2) (C := RX2) (T := TX2) (ty := tyX2) (N := 10) (fs := [.int 0, .int 0, .int 0, .null, .null, .null, .null, .null, .null, .null]) (n := 8) hC dX8_init_5 wd_1_35 wd_1_36 wd_1_2 in_X2 tyX2_ok rfl (fun j hj => by match j, hj with | 0, _ => rfl | 1, _ => rfl | 2, _ => rfl | 3, _ => rfl | 4, _ => rfl | 5, _ => rfl | 6, _ => rfl | 7, _ => rfl | 8, _ => rfl | 9, _ => rfl | j + 10, h => exact absurd h (by omega)) ⟨Nat.le_of_ble_eq_true rfl, Nat.le_of_ble_eq_true rfl⟩ rfl (fun q1 => ?_)
  refine hy_dup (n := 9) hC dX8_init_8 rfl rfl ?_
  refine hy_ctorN (As := []) (t1 := [(h0, .inr (8, [.null, .null, .null, .null, .null, .int 0, .null, .null, .int 0, .null]))]) (n := 12) hC (c_X2_init l) ki_X2_init wd_1_37 dX8_init_9 rfl rfl rfl (Nat.le_of_ble_eq_true rfl) ⟨Nat.le_of_ble_eq_true rfl, Nat.le_of_ble_eq_true rfl⟩ ⟨Nat.le_of_ble_eq_true rfl, Nat.le_of_ble_eq_true rfl⟩ rfl (fun a1 ha1 => ?_)
  subst ha1
  refine hy_putF (T := TX8) (ty := tyX8) (i := 0) (k := 0) (t' := [(h0, .inr (8, [.ref (a1 0 0), .null, .null, .null, .null, .int 0, .null, .null, .int 0, .null]))] ++ WLX2 a1 adV cA) (n := 15) hC hni dX8_init_12 rfl in_X8 tyX8_ok nmX8 rfl (by decide) wd_3_44 rfl rfl rfl rfl rfl (Nat.le_of_ble_eq_true rfl) rfl rfl ?_
  refine hy_aload_n (a := 0) (n := 16) hC dX8_init_15 rfl rfl rfl ?_
  refine hy_new (ci := 2) (C := RX2) (T := TX2) (ty := tyX2) (N := 10) (fs := [.int 0, .int 0, .int 0, .null, .null, .null, .null, .null, .null, .null]) (n := 19) hC dX8_init_16 wd_1_35 wd_1_36 wd_1_2 in_X2 tyX2_ok rfl (fun j hj => by match j, hj with | 0, _ => rfl | 1, _ => rfl | 2, _ => rfl | 3, _ => rfl | 4, _ => rfl | 5, _ => rfl | 6, _ => rfl | 7, _ => rfl | 8, _ => rfl | 9, _ => rfl | j + 10, h => exact absurd h (by omega)) ⟨Nat.le_of_ble_eq_true rfl, Nat.le_of_ble_eq_true rfl⟩ rfl (fun q2 => ?_)
  refine hy_dup (n := 20) hC dX8_init_19 rfl rfl ?_
  refine hy_ctorN (As := []) (t1 := [(h0, .inr (8, [.ref (a1 0 0), .null, .null, .null, .null, .int 0, .null, .null, .int 0, .null]))] ++ WLX2 a1 adV cA) (n := 23) hC (c_X2_init l) ki_X2_init wd_1_37 dX8_init_20 rfl rfl rfl (Nat.le_of_ble_eq_true rfl) ⟨Nat.le_of_ble_eq_true rfl, Nat.le_of_ble_eq_true rfl⟩ ⟨Nat.le_of_ble_eq_true rfl, Nat.le_of_ble_eq_true rfl⟩ rfl (fun a2 ha2 => ?_)
  subst ha2
  refine hy_putF (T := TX8) (ty := tyX8) (i := 0) (k := 1) (t' := ([(h0, .inr (8, [.ref (a1 0 0), .ref (a2 0 0), .null, .null, .null, .int 0, .null, .null, .int 0, .null]))] ++ WLX2 a1 adV cA) ++ WLX2 a2 adV cA) (n := 26) hC hni dX8_init_23 rfl in_X8 tyX8_ok nmX8 rfl (by decide) wd_3_45 rfl rfl rfl rfl rfl (Nat.le_of_ble_eq_true rfl) rfl rfl ?_
  refine hy_aload_n (a := 0) (n := 27) hC dX8_init_26 rfl rfl rfl ?_
  refine hy_new (ci := 1) (C := RX1) (T := TX1) (ty := tyX1) (N := 3) (fs := [.null, .int 0, .int 0]) (n := 30) hC dX8_init_27 wd_1_135 wd_1_136 wd_1_6 in_X1 tyX1_ok rfl (fun j hj => by match j, hj with | 0, _ => rfl | 1, _ => rfl | 2, _ => rfl | j + 3, h => exact absurd h (by omega)) ⟨Nat.le_of_ble_eq_true rfl, Nat.le_of_ble_eq_true rfl⟩ rfl (fun q3 => ?_)
  refine hy_dup (n := 31) hC dX8_init_30 rfl rfl ?_
  refine hy_ctorN (As := []) (t1 := ([(h0, .inr (8, [.ref (a1 0 0), .ref (a2 0 0), .null, .null, .null, .int 0, .null, .null, .int 0, .null]))] ++ WLX2 a1 adV cA) ++ WLX2 a2 adV cA) (n := 34) hC (c_X1_init l) ki_X1_init wd_1_137 dX8_init_31 rfl rfl rfl (Nat.le_of_ble_eq_true rfl) ⟨Nat.le_of_ble_eq_true rfl, Nat.le_of_ble_eq_true rfl⟩ ⟨Nat.le_of_ble_eq_true rfl, Nat.le_of_ble_eq_true rfl⟩ rfl (fun a3 ha3 => ?_)
  subst ha3
  refine hy_putF (T := TX8) (ty := tyX8) (i := 0) (k := 2) (t' := (([(h0, .inr (8, [.ref (a1 0 0), .ref (a2 0 0), .ref (a3 0 0), .null, .null, .int 0, .null, .null, .int 0, .null]))] ++ WLX2 a1 adV cA) ++ WLX2 a2 adV cA) ++ WLX1 a3 adV cA) (n := 37) hC hni dX8_init_34 rfl in_X8 tyX8_ok nmX8 rfl (by decide) wd_3_46 rfl rfl rfl rfl rfl (Nat.le_of_ble_eq_true rfl) rfl rfl ?_
  refine hy_aload_n (a := 0) (n := 38) hC dX8_init_37 rfl rfl rfl ?_
  refine hy_new (ci := 2) (C := RX2) (T := TX2) (ty := tyX2) (N := 10) (fs := [.int 0, .int 0, .int 0, .null, .null, .null, .null, .null, .null, .null]) (n := 41) hC dX8_init_38 wd_1_35 wd_1_36 wd_1_2 in_X2 tyX2_ok rfl (fun j hj => by match j, hj with | 0, _ => rfl | 1, _ => rfl | 2, _ => rfl | 3, _ => rfl | 4, _ => rfl | 5, _ => rfl | 6, _ => rfl | 7, _ => rfl | 8, _ => rfl | 9, _ => rfl | j + 10, h => exact absurd h (by omega)) ⟨Nat.le_of_ble_eq_true rfl, Nat.le_of_ble_eq_true rfl⟩ rfl (fun q4 => ?_)
  refine hy_dup (n := 42) hC dX8_init_41 rfl rfl ?_
  refine hy_ctorN (As := []) (t1 := (([(h0, .inr (8, [.ref (a1 0 0), .ref (a2 0 0), .ref (a3 0 0), .null, .null, .int 0, .null, .null, .int 0, .null]))] ++ WLX2 a1 adV cA) ++ WLX2 a2 adV cA) ++ WLX1 a3 adV cA) (n := 45) hC (c_X2_init l) ki_X2_init wd_1_37 dX8_init_42 rfl rfl rfl (Nat.le_of_ble_eq_true rfl) ⟨Nat.le_of_ble_eq_true rfl, Nat.le_of_ble_eq_true rfl⟩ ⟨Nat.le_of_ble_eq_true rfl, Nat.le_of_ble_eq_true rfl⟩ rfl (fun a4 ha4 => ?_)
  subst ha4
  refine hy_putF (T := TX8) (ty := tyX8) (i := 0) (k := 3) (t' := ((([(h0, .inr (8, [.ref (a1 0 0), .ref (a2 0 0), .ref (a3 0 0), .ref (a4 0 0), .null, .int 0, .null, .null, .int 0, .null]))] ++ WLX2 a1 adV cA) ++ WLX2 a2 adV cA) ++ WLX1 a3 adV cA) ++ WLX2 a4 adV cA) (n := 48) hC hni dX8_init_45 rfl in_X8 tyX8_ok nmX8 rfl (by decide) wd_3_47 rfl rfl rfl rfl rfl (Nat.le_of_ble_eq_true rfl) rfl rfl ?_
  refine hy_aload_n (a := 0) (n := 49) hC dX8_init_48 rfl rfl rfl ?_
  refine hy_new (ci := 2) (C := RX2) (T := TX2) (ty := tyX2) (N := 10) (fs := [.int 0, .int 0, .int 0, .null, .null, .null, .null, .null, .null, .null]) (n := 52) hC dX8_init_49 wd_1_35 wd_1_36 wd_1_2 in_X2 tyX2_ok rfl (fun j hj => by match j, hj with | 0, _ => rfl | 1, _ => rfl | 2, _ => rfl | 3, _ => rfl | 4, _ => rfl | 5, _ => rfl | 6, _ => rfl | 7, _ => rfl | 8, _ => rfl | 9, _ => rfl | j + 10, h => exact absurd h (by omega)) ⟨Nat.le_of_ble_eq_true rfl, Nat.le_of_ble_eq_true rfl⟩ rfl (fun q5 => ?_)
  refine hy_dup (n := 53) hC dX8_init_52 rfl rfl ?_
  refine hy_ctorN (As := []) (t1 := ((([(h0, .inr (8, [.ref (a1 0 0), .ref (a2 0 0), .ref (a3 0 0), .ref (a4 0 0), .null, .int 0, .null, .null, .int 0, .null]))] ++ WLX2 a1 adV cA) ++ WLX2 a2 adV cA) ++ WLX1 a3 adV cA) ++ WLX2 a4 adV cA) (n := 56) hC (c_X2_init l) ki_X2_init wd_1_37 dX8_init_53 rfl rfl rfl (Nat.le_of_ble_eq_true rfl) ⟨Nat.le_of_ble_eq_true rfl, Nat.le_of_ble_eq_true rfl⟩ ⟨Nat.le_of_ble_eq_true rfl, Nat.le_of_ble_eq_true rfl⟩ rfl (fun a5 ha5 => ?_)
  subst ha5
  refine hy_putF (T := TX8) (ty := tyX8) (i := 0) (k := 4) (t' := (((([(h0, .inr (8, [.ref (a1 0 0), .ref (a2 0 0), .ref (a3 0 0), .ref (a4 0 0), .ref (a5 0 0), .int 0, .null, .null, .int 0, .null]))] ++ WLX2 a1 adV cA) ++ WLX2 a2 adV cA) ++ WLX1 a3 adV cA) ++ WLX2 a4 adV cA) ++ WLX2 a5 adV cA) (n := 59) hC hni dX8_init_56 rfl in_X8 tyX8_ok nmX8 rfl (by decide) wd_3_48 rfl rfl rfl rfl rfl (Nat.le_of_ble_eq_true rfl) rfl rfl ?_
  refine hy_aload_n (a := 0) (n := 60) hC dX8_init_59 rfl rfl rfl ?_
  refine hy_iconst (v := (0 : Int32)) (n := 61) hC dX8_init_60 (by decide +kernel) rfl ?_
  refine hy_put (T := TX8) (ty := tyX8) (i := 0) (k := 5) (t' := (((([(h0, .inr (8, [.ref (a1 0 0), .ref (a2 0 0), .ref (a3 0 0), .ref (a4 0 0), .ref (a5 0 0), .int 0, .null, .null, .int 0, .null]))] ++ WLX2 a1 adV cA) ++ WLX2 a2 adV cA) ++ WLX1 a3 adV cA) ++ WLX2 a4 adV cA) ++ WLX2 a5 adV cA) (n := 64) hC dX8_init_61 rfl in_X8 tyX8_ok nmX8 rfl (by decide) wd_3_49 rfl rfl rfl rfl (Nat.le_of_ble_eq_true rfl) rfl rfl ?_
  refine hy_aload_n (a := 0) (n := 65) hC dX8_init_64 rfl rfl rfl ?_
  refine hy_new (ci := 5) (C := RX5) (T := TX5) (ty := tyX5) (N := 10) (fs := [.null, .int 0, .int 0, .int 0, .int 0, .int 0, .null, .int 0, .int 0, .int 0]) (n := 68) hC dX8_init_65 wd_1_155 wd_1_156 wd_1_7 in_X5 tyX5_ok rfl (fun j hj => by match j, hj with | 0, _ => rfl | 1, _ => rfl | 2, _ => rfl | 3, _ => rfl | 4, _ => rfl | 5, _ => rfl | 6, _ => rfl | 7, _ => rfl | 8, _ => rfl | 9, _ => rfl | j + 10, h => exact absurd h (by omega)) ⟨Nat.le_of_ble_eq_true rfl, Nat.le_of_ble_eq_true rfl⟩ rfl (fun q6 => ?_)
  refine hy_dup (n := 69) hC dX8_init_68 rfl rfl ?_
  refine hy_ctorN (As := []) (t1 := (((([(h0, .inr (8, [.ref (a1 0 0), .ref (a2 0 0), .ref (a3 0 0), .ref (a4 0 0), .ref (a5 0 0), .int 0, .null, .null, .int 0, .null]))] ++ WLX2 a1 adV cA) ++ WLX2 a2 adV cA) ++ WLX1 a3 adV cA) ++ WLX2 a4 adV cA) ++ WLX2 a5 adV cA) (n := 72) hC (c_X5_init l) ki_X5_init wd_1_157 dX8_init_69 rfl rfl rfl (Nat.le_of_ble_eq_true rfl) ⟨Nat.le_of_ble_eq_true rfl, Nat.le_of_ble_eq_true rfl⟩ ⟨Nat.le_of_ble_eq_true rfl, Nat.le_of_ble_eq_true rfl⟩ rfl (fun a6 ha6 => ?_)
  subst ha6
  refine hy_putF (T := TX8) (ty := tyX8) (i := 0) (k := 6) (t' := ((((([(h0, .inr (8, [.ref (a1 0 0), .ref (a2 0 0), .ref (a3 0 0), .ref (a4 0 0), .ref (a5 0 0), .int 0, .ref (a6 0 0), .null, .int 0, .null]))] ++ WLX2 a1 adV cA) ++ WLX2 a2 adV cA) ++ WLX1 a3 adV cA) ++ WLX2 a4 adV cA) ++ WLX2 a5 adV cA) ++ WLX5 a6 adV cA) (n := 75) hC hni dX8_init_72 rfl in_X8 tyX8_ok nmX8 rfl (by decide) wd_3_50 rfl rfl rfl rfl rfl (Nat.le_of_ble_eq_true rfl) rfl rfl ?_
  refine hy_aload_n (a := 0) (n := 76) hC dX8_init_75 rfl rfl rfl ?_
  refine hy_sipush (v := (700 : Int32)) (n := 79) hC dX8_init_76 (by decide +kernel) rfl ?_
  refine hy_newa (ty := .int) (N' := 700) (a0 := (700, .inl fun _ => 0)) (j := 0) (n := 81) hC dX8_init_79 rfl hp_acs.1 rfl (fun _ _ _ h1 h2 => Option.some.inj (h1.symm.trans h2)) (fun _ => rfl) (by decide +kernel) (by decide +kernel) (Nat.le_of_ble_eq_true rfl) ⟨Nat.le_of_ble_eq_true rfl, Nat.le_of_ble_eq_true rfl⟩ rfl (fun q7 => ?_)
  refine hy_putF (T := TX8) (ty := tyX8) (i := 0) (k := 7) (t' := (((((([(h0, .inr (8, [.ref (a1 0 0), .ref (a2 0 0), .ref (a3 0 0), .ref (a4 0 0), .ref (a5 0 0), .int 0, .ref (a6 0 0), .ref q7, .int 0, .null]))] ++ WLX2 a1 adV cA) ++ WLX2 a2 adV cA) ++ WLX1 a3 adV cA) ++ WLX2 a4 adV cA) ++ WLX2 a5 adV cA) ++ WLX5 a6 adV cA) ++ [(q7, .inl (cA 0, 700, .inl fun _ => 0))]) (n := 84) hC hni dX8_init_81 rfl in_X8 tyX8_ok nmX8 rfl (by decide) wd_3_51 rfl rfl rfl rfl rfl (Nat.le_of_ble_eq_true rfl) rfl rfl ?_
  refine hy_aload_n (a := 0) (n := 85) hC dX8_init_84 rfl rfl rfl ?_
  refine hy_iconst (v := (0 : Int32)) (n := 86) hC dX8_init_85 (by decide +kernel) rfl ?_
  refine hy_put (T := TX8) (ty := tyX8) (i := 0) (k := 8) (t' := (((((([(h0, .inr (8, [.ref (a1 0 0), .ref (a2 0 0), .ref (a3 0 0), .ref (a4 0 0), .ref (a5 0 0), .int 0, .ref (a6 0 0), .ref q7, .int 0, .null]))] ++ WLX2 a1 adV cA) ++ WLX2 a2 adV cA) ++ WLX1 a3 adV cA) ++ WLX2 a4 adV cA) ++ WLX2 a5 adV cA) ++ WLX5 a6 adV cA) ++ [(q7, .inl (cA 0, 700, .inl fun _ => 0))]) (n := 89) hC dX8_init_86 rfl in_X8 tyX8_ok nmX8 rfl (by decide) wd_3_52 rfl rfl rfl rfl (Nat.le_of_ble_eq_true rfl) rfl rfl ?_
  refine hy_aload_n (a := 0) (n := 90) hC dX8_init_89 rfl rfl rfl ?_
  refine hy_new (ci := 0) (C := RJ4) (T := TJ4) (ty := tyJ4) (N := 4) (fs := [.null, .int 0, .int 0, .int 0]) (n := 93) hC dX8_init_90 wd_1_196 wd_1_197 wd_1_9 in_J4 tyJ4_ok rfl (fun j hj => by match j, hj with | 0, _ => rfl | 1, _ => rfl | 2, _ => rfl | 3, _ => rfl | j + 4, h => exact absurd h (by omega)) ⟨Nat.le_of_ble_eq_true rfl, Nat.le_of_ble_eq_true rfl⟩ rfl (fun q8 => ?_)
  refine hy_dup (n := 94) hC dX8_init_93 rfl rfl ?_
  refine hy_ctor (As := []) (t1 := (((((([(h0, .inr (8, [.ref (a1 0 0), .ref (a2 0 0), .ref (a3 0 0), .ref (a4 0 0), .ref (a5 0 0), .int 0, .ref (a6 0 0), .ref q7, .int 0, .null]))] ++ WLX2 a1 adV cA) ++ WLX2 a2 adV cA) ++ WLX1 a3 adV cA) ++ WLX2 a4 adV cA) ++ WLX2 a5 adV cA) ++ WLX5 a6 adV cA) ++ [(q7, .inl (cA 0, 700, .inl fun _ => 0))]) (n := 97) hC (c_J4_init l) ki_J4_init wd_1_198 dX8_init_94 rfl rfl rfl (Nat.le_of_ble_eq_true rfl) ⟨Nat.le_of_ble_eq_true rfl, Nat.le_of_ble_eq_true rfl⟩ ⟨Nat.le_of_ble_eq_true rfl, Nat.le_of_ble_eq_true rfl⟩ rfl (fun a7 ha7 => ?_)
  subst ha7
  refine hy_putF (T := TX8) (ty := tyX8) (i := 0) (k := 9) (t' := ((((((([(h0, .inr (8, [.ref (a1 0 0), .ref (a2 0 0), .ref (a3 0 0), .ref (a4 0 0), .ref (a5 0 0), .int 0, .ref (a6 0 0), .ref q7, .int 0, .ref (a7 0 0)]))] ++ WLX2 a1 adV cA) ++ WLX2 a2 adV cA) ++ WLX1 a3 adV cA) ++ WLX2 a4 adV cA) ++ WLX2 a5 adV cA) ++ WLX5 a6 adV cA) ++ [(q7, .inl (cA 0, 700, .inl fun _ => 0))]) ++ WLJ4 a7 adV cA) (n := 100) hC hni dX8_init_97 rfl in_X8 tyX8_ok nmX8 rfl (by decide) wd_3_53 rfl rfl rfl rfl rfl (Nat.le_of_ble_eq_true rfl) rfl rfl ?_
  refine hy_cell (i := 24) (a := a3 0 1) (u := .inl (cA 3, 8, .inr (.inr (.inr (.inr (va_up (va_up (va_up (va_up (va_up (va_up (va_up (va_up (fun _ => none) 0 (some (a3 2 0))) 1 (some (a3 3 0))) 2 (some (a3 4 0))) 3 (some (a3 5 0))) 4 (some (a3 6 0))) 5 (some (a3 7 0))) 6 (some (a3 8 0))) 7 (some (a3 9 0)))))))) (.inl (cA 3, 8, .inr (.inr (.inr (.inr (hp_vh (hp_ad8 h0 q7 a1 a2 a3 a4 a5 a6 a7))))))) rfl (fun H => hp_atQ (fun i hi => by
    rcases (show i = 0 ∨ i = 1 ∨ i = 2 ∨ i = 3 ∨ i = 4 ∨ i = 5 ∨ i = 6 ∨ i = 7 by omega) with rfl | rfl | rfl | rfl | rfl | rfl | rfl | rfl <;> rfl)) rfl ?_
  refine hy_cell (i := 139) (a := a7 0 1) (u := .inl (cA 2, 16, .inl fun _ => 0)) (.inl (cA 2, 16, .inl (hp_M0 14 1))) rfl (fun H => hp_atI (fun i hi => by
    unfold hp_M0; rw [if_neg (by decide), if_neg (by decide), if_neg (by omega)])) rfl ?_
  refine hy_Z (adV := adV) (cA := cA) (G0 := hp_G8) (ids := hp_idP) (adr := (hp_ad8 h0 q7 a1 a2 a3 a4 a5 a6 a7)) (M := hp_M0) ?_ ?_
  · rfl
  refine z_X8_init (adr := (hp_ad8 h0 q7 a1 a2 a3 a4 a5 a6 a7)) hp_idP_C hC (fun M => some ((), M)) hp_M0 _ _ ⟨Nat.le_of_ble_eq_true rfl, Nat.le_of_ble_eq_true rfl⟩ (fun M1 => ?_)
  exact hy_retB hC hr dX8_init_114 (fun _ => ((hp_ad8 h0 q7 a1 a2 a3 a4 a5 a6 a7), M1)) (fun h => ⟨rfl, h.symm⟩) (fun _ => rfl) ⟨Nat.le_of_ble_eq_true rfl, Nat.le_of_ble_eq_true rfl⟩
