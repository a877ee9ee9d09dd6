abbrev hp_okB (nl : Int32) (M : hp_M) : Prop := ¬ nl = M 14 1 5000 ∧ ¬ nl < 0 ∧ nl.toNatClampNeg ≤ 200 ∧ (M 14 1 5000).toNatClampNeg ≤ nl.toNatClampNeg ∧ ¬ M 14 1 5000 < 0 ∧ ∀ i, i < (M 14 1 5000).toNatClampNeg → fits .byte (.int (M 14 1 i)) = true
def hp_grow (nl : Int32) (f : Nat → Int32) : Nat → Int32 := fun i => if i = 5000 then nl else if i < (f 5000).toNatClampNeg then f i else 0
theorem hp_arr_congr {cI : ClassId} {n : Nat} {f g : Nat → Int32} (h : ∀ j, j < n → f j = g j) : vp_cell cI (n, .inl f) = vp_cell cI (n, .inl g) := by
  show arrV cI n (fun j => .int (f j)) = arrV cI n (fun j => .int (g j))
  unfold arrV
  have e : (fun j : Fin n => Value.int (f j.val)) = fun j : Fin n => Value.int (g j.val) := funext fun j => by rw [h j.val j.isLt]
  rw [e]
theorem hp_wl_get {ids : List (Nat × Nat)} {adr : Nat → Nat → Nat} {adV cA : Nat → Nat} {M : hp_M} {k : Nat} {q : Nat × Nat} (h : ids[k]? = some q) : (hp_wl ids adr adV cA M)[k]? = some (adr q.1 q.2, hp_c adr adV cA q.1 q.2 (M q.1 q.2)) := by simp [hp_wl, h]
theorem hp_wl_len {ids : List (Nat × Nat)} {adr : Nat → Nat → Nat} {adV cA : Nat → Nat} {M : hp_M} : (hp_wl ids adr adV cA M).length = ids.length := by simp [hp_wl]
theorem hp_c_sim {a b : Nat → Nat → Nat} {adV cA : Nat → Nat} (h : hp_sim a b) {g j : Nat} (hg : g < 15) (hn : ¬ (g = 14 ∧ j = 0)) (f : Nat → Int32) : hp_c b adV cA g j f = hp_c a adV cA g j f := by
  unfold hp_c
  split
  · rename_i h1
    unfold hp_ch
    split <;> first | rfl | simp only [hp_F5, hp_F7, hp_F9, h g 1 (by omega), h g 2 (by omega), h g 3 (by omega), h g 4 (by omega), h g 5 (by omega), h g 6 (by omega), h g 8 (by omega), h g 7 (by omega), h g 9 (by omega), h g 10 (by omega)]
  · split
    · unfold hp_cp
      split <;> first | rfl | simp only [hp_F11, hp_F8, hp_F4, h 0 0 (by decide), h 1 0 (by decide), h 12 4 (by decide), h 10 0 (by decide), h 11 0 (by decide), h 12 1 (by decide), h 12 3 (by decide), h 14 0 (by decide), h 12 2 (by decide), h 12 5 (by decide)] | skip
      have e : hp_vh b = hp_vh a := funext fun i => by unfold hp_vh; rw [h (2 + i) 0 (by omega)]
      rw [e]
    · split
      · unfold hp_cm
        split <;> first | rfl | simp only [hp_F12, h 13 1 (by decide), h 13 2 (by decide), h 13 3 (by decide), h 13 4 (by decide), h 13 5 (by decide), h 13 6 (by decide), h 13 7 (by decide), h 13 8 (by decide), h 13 9 (by decide)]
      · unfold hp_cb
        split
        · exact absurd ⟨by omega, rfl⟩ hn
        · rfl
theorem hp_regrow {A : Nat → Prop} {D : va_G} {ids : List (Nat × Nat)} {adr : Nat → Nat → Nat} {adV cA : Nat → Nat} {M : hp_M} {H : Heap} {q q0 : Nat} {f1 : Nat → Int32} (hg : ∀ x ∈ ids, x.1 < 15) (hD0 : va_D A (hp_wl ids adr adV cA M)) (hq0 : ids[q0]? = some (14, 0))
    (hP : va_P D vwCl ((hp_wl ids adr adV cA M ++ ([(q, .inl (cA 2, (f1 5000).toNatClampNeg, .inl f1))] : va_W)).set q0 (adr 14 0, .inr (1, [.ref q, .int (M 14 0 1), .int (M 14 0 2), .int (M 14 0 3)]))) H)
    (hD : va_D A ((hp_wl ids adr adV cA M ++ ([(q, .inl (cA 2, (f1 5000).toNatClampNeg, .inl f1))] : va_W)).set q0 (adr 14 0, .inr (1, [.ref q, .int (M 14 0 1), .int (M 14 0 2), .int (M 14 0 3)])))) :
    hp_W A D ids (fun g j => if g = 14 ∧ j = 1 then q else adr g j) adV cA (hp_sr M 14 1 f1) none H := by
  have hlt : q0 < ids.length := (List.getElem?_eq_some_iff.mp hq0).1
  have hlen : (hp_wl ids adr adV cA M).length = ids.length := hp_wl_len
  have hs : hp_sim adr (fun g j => if g = 14 ∧ j = 1 then q else adr g j) := fun g j n => if_neg n
  -- where an entry of the new world stands in the old one
  have key : ∀ (k : Nat) (x : Nat × va_E), (hp_wl ids (fun g j => if g = 14 ∧ j = 1 then q else adr g j) adV cA (hp_sr M 14 1 f1))[k]? = some x → ∃ k2, ((hp_wl ids adr adV cA M ++ ([(q, .inl (cA 2, (f1 5000).toNatClampNeg, .inl f1))] : va_W)).set q0 (adr 14 0, .inr (1, [.ref q, .int (M 14 0 1), .int (M 14 0 2), .int (M 14 0 3)])))[k2]? = some x ∧ ((ids[k]? = some (14, 1) ∧ k2 = ids.length) ∨ (k2 = k ∧ k < ids.length)) := by
    intro k x hx
    have hk : k < ids.length := by
      have := (List.getElem?_eq_some_iff.mp hx).1
      rwa [hp_wl_len] at this
    have hk2 : ids[k]? = some ids[k] := List.getElem?_eq_getElem hk
    generalize hgj : ids[k] = gj at hk2
    obtain ⟨g, j⟩ := gj
    rw [hp_wl_get hk2] at hx
    have hx : (_, _) = x := Option.some.inj hx
    by_cases c1 : g = 14 ∧ j = 1
    · obtain ⟨rfl, rfl⟩ := c1
      refine ⟨ids.length, ?_, Or.inl ⟨hk2, rfl⟩⟩
      rw [List.getElem?_set_ne (by omega), List.getElem?_append_right (by omega), hlen]
      simp only [Nat.sub_self, List.getElem?_cons_zero]
      rw [← hx]
      simp [hp_sr, hp_c, hp_cb]
    · refine ⟨k, ?_, Or.inr ⟨rfl, hk⟩⟩
      by_cases c0 : g = 14 ∧ j = 0
      · obtain ⟨rfl, rfl⟩ := c0
        have hkq : k = q0 := hD0.1 k q0 _ _ (hp_wl_get hk2) (hp_wl_get hq0) rfl
        subst hkq
        rw [List.getElem?_set_self (by simp [hlen]; omega), ← hx]
        simp [hp_sr, hp_c, hp_cb, hp_FB]
      · have hkq : ¬ q0 = k := by
          intro h
          rw [h, hk2] at hq0
          exact c0 (by cases hq0; exact ⟨rfl, rfl⟩)
        rw [List.getElem?_set_ne hkq, List.getElem?_append_left (by omega), hp_wl_get hk2, ← hx]
        have hgl : g < 15 := hg (g, j) (List.mem_of_getElem? hk2)
        rw [hp_c_sim hs hgl c0]
        have e1 : hp_sr M 14 1 f1 g j = M g j := by unfold hp_sr; rw [if_neg c1]
        rw [e1]
        simp [c1]
  refine ⟨[], rfl, ?_, ?_⟩
  · rw [List.append_nil]
    intro k x hx
    obtain ⟨k2, h1, -⟩ := key k x hx
    exact hP k2 x h1
  · rw [List.append_nil]
    refine ⟨fun i j x y hx hy e => ?_, fun k x hx => ?_⟩
    · obtain ⟨i2, h1, h2⟩ := key i x hx
      obtain ⟨j2, h3, h4⟩ := key j y hy
      have e2 := hD.1 i2 j2 x y h1 h3 e
      rcases h2 with ⟨a1, a2⟩ | ⟨a1, a2⟩ <;> rcases h4 with ⟨b1, b2⟩ | ⟨b1, b2⟩
      · exact hD0.1 i j _ _ (hp_wl_get a1) (hp_wl_get b1) rfl
      · omega
      · omega
      · omega
    · obtain ⟨k2, h1, -⟩ := key k x hx
      exact hD.2 k2 x h1
set_option maxRecDepth 20000 in
set_option maxHeartbeats 4000000 in
theorem c_copyOf (l : Launch) (a1 : Int32) (M : hp_M) (A : Nat → Prop) (D : va_G) (ids : List (Nat × Nat)) (adr : Nat → Nat → Nat) (adV cA : Nat → Nat) (hI : hp_IJ ids) (hok : hp_okB a1 M) : Met l yJ7_copyOf_9075b [Cond.code yJ7_copyOf_9075b cJ7_copyOf_9075b 3 (some (.array .byte))] (hp_rmG 2 1) (va_Pc [.ref (adr 14 1), .int a1] (hp_Pre A D ids adr adV cA M none)) (fun _ st oc t => (∃ q : Nat, oc = .returned (some (.ref q)) ∧ va_P D vwCl (hp_wl ids adr adV cA M ++ [(q, .inl (cA 2, a1.toNatClampNeg, .inl (hp_grow a1 (M 14 1))))]) t.heap ∧ va_D A (hp_wl ids adr adV cA M ++ [(q, .inl (cA 2, a1.toNatClampNeg, .inl (hp_grow a1 (M 14 1))))])) ∧ va_F A st t) 1 200 A := by
  refine Met.ofW (cc := cJ7_copyOf_9075b) (maxL := 3) (ret := some (.array .byte)) (by decide) rfl ?_
  intro p e s m args below meth c s₁ B hml hv
  obtain ⟨rfl, hT, hA, tl, hsb, hP, hD⟩ := hv
  obtain rfl : tl = [] := hsb
  rw [List.append_nil] at hP hD
  have hx := B.exec
  have hb := B.bytes
  have hown : s.vm.findClass "java/util/Arrays" = some m.cls := findClass_of_methodNamed B.named
  obtain ⟨u0, b0, -, -, -, -, hK, -⟩ := id hT
  have hS : va_S A s.heap s.heap [] := va_S.rf
  have hl := lv_entry ([.ref (adr 14 1), .int a1]) (n := 3) (by simp only [lg_sl]; exact Nat.le_of_ble_eq_true rfl)
  rw [lg_entry_eq]
  generalize ((lg_sl [Value.ref (adr 14 1), Value.int a1]) ++ List.replicate (3 - (lg_sl [Value.ref (adr 14 1), Value.int a1]).length) Slot.unset).toArray = ls at hl ⊢
  have hl : lv_has ls 3 [(0, .ref (adr 14 1)), (1, .int a1)] := hl
  obtain ⟨q1, hq1⟩ := List.getElem?_of_mem hI.2.1
  have hw1 := hp_wl_get (adr := adr) (adV := adV) (cA := cA) (M := M) hq1
  rw [ha_b1] at hw1
  have hq1l : q1 < (hp_wl ids adr adV cA M).length := (List.getElem?_eq_some_iff.mp hw1).1
  obtain ⟨k1, k2, k3, k4, k5, k6⟩ := hok
  obtain ⟨n, hn, rfl⟩ := nI_of k2
  obtain ⟨cp, hcp, ecp⟩ := nI_of k5
  rw [ecp] at k1 k4 hw1 k6
  rw [nI_clamp hn] at k3
  rw [nI_clamp hn, nI_clamp hcp] at k4
  rw [nI_clamp hcp] at hw1 k6
  refine lv_iload_n hx hb dJ7_copyOf_9075b_0 rfl (lv_at hl 1 rfl) ?_
  refine lv_aload_n hx hb dJ7_copyOf_9075b_1 rfl (lv_at hl 0 rfl) ?_
  refine va_alen hx hb hK hP q1 2 hw1 rfl (v := nI cp) rfl dJ7_copyOf_9075b_2 ?_
  refine lv_icmp_ne (tgt := 14) hx hb dJ7_copyOf_9075b_3 (by decide) (fun _ => ?_) (fun h => absurd h k1)
  refine lv_iload_n hx hb dJ7_copyOf_9075b_14 rfl (lv_at hl 1 rfl) ?_
  refine va_newa (atype := .byte) hx hb (hp_wd hT hp_acb _) rfl hK hP hD hS hA (a0 := (n, .inl fun _ => 0)) (fun _ => rfl) k2 (nI_clamp hn) (by show n * 1 ≤ _; omega) (by show 0 + 1 ≤ 1; omega) (by show 0 + n ≤ 200 * 1; omega) dJ7_copyOf_9075b_15 (fun q cB H1 hK1 hP1 hD1 hS1 => ?_)
  have hcB : cB = cA 2 := by
    have h1 := (hK1.2 5 (cB, .byte) rfl).2
    have h2 := (hK.2 2 (cA 2, .byte) rfl).2
    exact Option.some.inj (h1.symm.trans h2)
  subst hcB
  refine W.widen (k := 1) (n := 200) (by omega) (by omega) ?_
  refine lv_astore_n (lv' := [(2, .ref q), (0, .ref (adr 14 1)), (1, .int (nI n))]) hx hb dJ7_copyOf_9075b_17 rfl hl (by decide) rfl (fun ls hl => ?_)
  refine lv_aload_n hx hb dJ7_copyOf_9075b_18 rfl (lv_at hl 1 rfl) ?_
  refine lv_iconst (v := 0) hx hb dJ7_copyOf_9075b_19 (by decide) ?_
  refine lv_aload_n hx hb dJ7_copyOf_9075b_20 rfl (lv_at hl 0 rfl) ?_
  refine lv_iconst (v := 0) hx hb dJ7_copyOf_9075b_21 (by decide) ?_
  refine lv_aload_n hx hb dJ7_copyOf_9075b_22 rfl (lv_at hl 1 rfl) ?_
  have hw2 : (hp_wl ids adr adV cA M ++ [(q, (.inl (cA 2, n, .inl fun _ => 0) : va_E))])[q1]? = some (adr 14 1, .inl (cA 2, cp, .inl (M 14 1))) := by
    rw [List.getElem?_append_left hq1l]
    exact hw1
  refine va_alen hx hb hK1 hP1 q1 2 hw2 rfl (v := nI cp) rfl dJ7_copyOf_9075b_23 ?_
  refine lv_iload_n hx hb dJ7_copyOf_9075b_24 rfl (lv_at hl 2 rfl) ?_
  refine va_mmin hx hb (hml.trans hl.1.symm) hown (hp_wd hT wd_3_210 _) (hp_wd hT hp_minw.1 _) (hp_wd hT hp_minw.2.1 _) (hp_wd hT hp_minw.2.2 _) (by show 1 ≤ 2; omega) (Nat.le_of_ble_eq_true rfl) (by show 1 ≤ 1; omega) (by show 200 ≤ 200 * 1; omega) dJ7_copyOf_9075b_25 ?_
  rw [if_neg (nI_nlt (by omega) (by omega))]
  have hw3 : (hp_wl ids adr adV cA M ++ [(q, (.inl (cA 2, n, .inl fun _ => 0) : va_E))])[(hp_wl ids adr adV cA M).length]? = some (q, .inl (cA 2, n, .inl fun _ => 0)) := by
    rw [List.getElem?_append_right (Nat.le_refl _), Nat.sub_self]
    rfl
  refine va_copyi hx hb (hml.trans hl.1.symm) hown (hp_wd hT wd_3_211 _) (hp_wd hT hp_acwo.1 _) (hp_wd hT hp_acwo.2.1 _) (hp_wd hT hp_acwo.2.2 _) hK1 hP1 hD1 hS1 q1 (hp_wl ids adr adV cA M).length 2 2 (ty := .byte) hw2 hw3 rfl rfl rfl (by decide) (by decide) (nI_pos hcp) (by rw [nI_clamp hcp]; show 0 + cp ≤ cp; omega) (by rw [nI_clamp hcp]; show 0 + cp ≤ n; omega) (fun i hi => by rw [nI_clamp hcp] at hi; show fits .byte (.int (M 14 1 (0 + i))) = true; rw [Nat.zero_add]; exact k6 i hi) (by show 1 ≤ 2; omega) (Nat.le_of_ble_eq_true rfl) dJ7_copyOf_9075b_28 (fun H2 locs2 hP2 hD2 hS2 => ?_)
  refine lv_aload_n hx hb dJ7_copyOf_9075b_31 rfl (lv_at hl 0 rfl) ?_
  have e1 : (hp_wl ids adr adV cA M ++ [(q, (.inl (cA 2, n, .inl fun _ => 0) : va_E))]).set (hp_wl ids adr adV cA M).length (q, .inl (cA 2, n, .inl (va_cpy (M 14 1) (fun _ => 0) (0 : Int32).toNatClampNeg (0 : Int32).toNatClampNeg (nI cp).toNatClampNeg))) = hp_wl ids adr adV cA M ++ [(q, .inl (cA 2, n, .inl (hp_cpy cp (M 14 1) (fun _ => 0))))] := by
    rw [hp_cpy_va (nI_clamp hcp), List.set_append_right _ _ (Nat.le_refl _), Nat.sub_self]
    rfl
  rw [e1] at hP2 hD2
  have e2 : vp_cell (cA 2) (n, .inl (hp_cpy cp (M 14 1) (fun _ => 0))) = vp_cell (cA 2) (n, .inl (hp_grow (nI n) (M 14 1))) := by
    refine hp_arr_congr (fun j hj => ?_)
    unfold hp_cpy hp_grow
    rw [if_neg (show ¬ j = 5000 by omega), ecp, nI_clamp hcp]
  have hP3 : va_P D vwCl (hp_wl ids adr adV cA M ++ [(q, .inl (cA 2, n, .inl (hp_grow (nI n) (M 14 1))))]) H2 := by
    intro k x hk
    by_cases hkl : k < (hp_wl ids adr adV cA M).length
    · rw [List.getElem?_append_left hkl] at hk
      exact hP2 k x (by rw [List.getElem?_append_left hkl]; exact hk)
    · have hk2 : k = (hp_wl ids adr adV cA M).length := by
        have := (List.getElem?_eq_some_iff.mp hk).1
        simp at this
        omega
      subst hk2
      have h9 := hP2 _ _ (show (hp_wl ids adr adV cA M ++ [(q, (.inl (cA 2, n, .inl (hp_cpy cp (M 14 1) (fun _ => 0))) : va_E))])[(hp_wl ids adr adV cA M).length]? = some _ by rw [List.getElem?_append_right (Nat.le_refl _), Nat.sub_self]; rfl)
      rw [List.getElem?_append_right (Nat.le_refl _), Nat.sub_self] at hk
      obtain rfl : (_, _) = x := Option.some.inj hk
      exact (show H2[q]? = some (vp_cell (cA 2) (n, .inl (hp_cpy cp (M 14 1) (fun _ => 0)))) from h9).trans (congrArg some e2)
  have hD3 : va_D A (hp_wl ids adr adV cA M ++ [(q, .inl (cA 2, n, .inl (hp_grow (nI n) (M 14 1))))]) := by
    have h8 := hD2.set (p := (hp_wl ids adr adV cA M).length) (a := q) (e0 := .inl (cA 2, n, .inl (hp_cpy cp (M 14 1) (fun _ => 0)))) (e := .inl (cA 2, n, .inl (hp_grow (nI n) (M 14 1)))) (by rw [List.getElem?_append_right (Nat.le_refl _), Nat.sub_self]; rfl)
    rw [List.set_append_right _ _ (Nat.le_refl _), Nat.sub_self] at h8
    exact h8
  have hlocks : meth.locks = false := B.notSynchronized
  exact W.aret hx hb B.returns (Or.inr ⟨_, rfl⟩) (Or.inr ⟨_, rfl⟩) (fun t ht _ => ⟨⟨q, rfl, by rw [ht, nI_clamp hn]; exact hP3, by rw [nI_clamp hn]; exact hD3⟩, hS2.F ht⟩) hS2.2.2 dJ7_copyOf_9075b_32 hlocks
def F_J5_isLatin1_aae02  (M : hp_M) : Option (Int32 × hp_M) := (if (1 : Int32) = 0 then (some ((0 : Int32), M)) else (if (M 14 0 1) = 0 then (some ((1 : Int32), M)) else (some ((0 : Int32), M))))
set_option maxRecDepth 20000 in
set_option maxHeartbeats 4000000 in
theorem c_J5_isLatin1_aae02 (l : Launch)   (M : hp_M) : hp_Ct l yJ5_isLatin1_aae02 cJ5_isLatin1_aae02 1 (some .boolean) 0 hp_IJ (fun adr adV => [.ref (adr 14 0)]) hp_oi M (F_J5_isLatin1_aae02  M) := by
  refine hp_start "java/lang/AbstractStringBuilder" (fun adr adV => [(0, .ref (adr 14 0))]) (by decide) rfl (fun _ _ => by simp only [lg_sl]; exact Nat.le_of_ble_eq_true rfl) (fun _ _ => rfl) ?_
  intro p e s m args below meth c A D ids adr adV cA rep G0 hI hC hr
  unfold F_J5_isLatin1_aae02
  refine hz_getsi (z := 1) (n := 3) hC dJ5_isLatin1_aae02_0 wd_1_215 wd_1_10.1 hp_cs wd_1_214 rfl ?_
  refine hz_if_eq (tgt := 17) (n := 6) hC dJ5_isLatin1_aae02_3 (by decide) rfl (fun _ => ?_) (fun _ => ?_)
  · refine hz_iconst (v := (0 : Int32)) (n := 18) hC dJ5_isLatin1_aae02_17 (by decide +kernel) rfl ?_
    exact hz_zret hC hr nz_0 dJ5_isLatin1_aae02_18
  · refine hz_aload_n (a := 0) (n := 7) hC dJ5_isLatin1_aae02_6 rfl rfl rfl ?_
    refine fg_J5_22 (n := 10) hC hI.1 dJ5_isLatin1_aae02_7 rfl ?_
    refine hz_if_ne (tgt := 17) (n := 13) hC dJ5_isLatin1_aae02_10 (by decide) rfl (fun _ => ?_) (fun _ => ?_)
    · refine hz_iconst (v := (1 : Int32)) (n := 14) hC dJ5_isLatin1_aae02_13 (by decide +kernel) rfl ?_
      refine hz_goto (n := 18) hC dJ5_isLatin1_aae02_14 (by decide) ?_
      exact hz_zret hC hr nz_1 dJ5_isLatin1_aae02_18
    · refine hz_iconst (v := (0 : Int32)) (n := 18) hC dJ5_isLatin1_aae02_17 (by decide +kernel) rfl ?_
      exact hz_zret hC hr nz_0 dJ5_isLatin1_aae02_18
def F_J5_length_8abf5  (M : hp_M) : Option (Int32 × hp_M) := (some ((M 14 0 3), M))
set_option maxRecDepth 20000 in
set_option maxHeartbeats 4000000 in
theorem c_J5_length_8abf5 (l : Launch)   (M : hp_M) : hp_Ct l yJ5_length_8abf5 cJ5_length_8abf5 1 (some .int) 0 hp_IJ (fun adr adV => [.ref (adr 14 0)]) hp_oi M (F_J5_length_8abf5  M) := by
  refine hp_start "java/lang/AbstractStringBuilder" (fun adr adV => [(0, .ref (adr 14 0))]) (by decide) rfl (fun _ _ => by simp only [lg_sl]; exact Nat.le_of_ble_eq_true rfl) (fun _ _ => rfl) ?_
  intro p e s m args below meth c A D ids adr adV cA rep G0 hI hC hr
  unfold F_J5_length_8abf5
  refine hz_aload_n (a := 0) (n := 1) hC dJ5_length_8abf5_0 rfl rfl rfl ?_
  refine fg_J5_79 (n := 4) hC hI.1 dJ5_length_8abf5_1 rfl ?_
  exact hz_iret hC hr dJ5_length_8abf5_4
def F_J8_newLength_cabcc (a0 : Int32) (a1 : Int32) (a2 : Int32) (M : hp_M) : Option (Int32 × hp_M) := (if (a0 + (if a1 < a2 then a2 else a1)) ≤ (0 : Int32) then none else (if (2147483639 : Int32) < (a0 + (if a1 < a2 then a2 else a1)) then none else (some ((a0 + (if a1 < a2 then a2 else a1)), M))))
set_option maxRecDepth 20000 in
set_option maxHeartbeats 4000000 in
theorem c_J8_newLength_cabcc (l : Launch) (a0 : Int32) (a1 : Int32) (a2 : Int32)  (M : hp_M) : hp_Ct l yJ8_newLength_cabcc cJ8_newLength_cabcc 4 (some .int) 1 hp_I0 (fun adr adV => [.int a0, .int a1, .int a2]) hp_oi M (F_J8_newLength_cabcc a0 a1 a2 M) := by
  refine hp_start "jdk/internal/util/ArraysSupport" (fun adr adV => [(0, .int a0), (1, .int a1), (2, .int a2)]) (by decide) rfl (fun _ _ => by simp only [lg_sl]; exact Nat.le_of_ble_eq_true rfl) (fun _ _ => rfl) ?_
  intro p e s m args below meth c A D ids adr adV cA rep G0 hI hC hr
  unfold F_J8_newLength_cabcc
  refine hz_iload_n (a := 0) (n := 1) hC dJ8_newLength_cabcc_0 rfl rfl rfl ?_
  refine hz_iload_n (a := 1) (n := 2) hC dJ8_newLength_cabcc_1 rfl rfl rfl ?_
  refine hz_iload_n (a := 2) (n := 3) hC dJ8_newLength_cabcc_2 rfl rfl rfl ?_
  refine hz_max (n := 6) hC dJ8_newLength_cabcc_3 wd_3_192 hp_maxw ⟨Nat.le_of_ble_eq_true rfl, Nat.le_of_ble_eq_true rfl, Nat.zero_le _, Nat.zero_le _⟩ rfl ?_
  refine hz_iadd (n := 7) hC dJ8_newLength_cabcc_6 rfl ?_
  refine hz_istore_n (L' := [(3, .int (a0 + (if a1 < a2 then a2 else a1))), (0, .int a0), (1, .int a1), (2, .int a2)]) (n := 8) hC dJ8_newLength_cabcc_7 rfl (by decide) rfl rfl ?_
  refine hz_iconst (v := (0 : Int32)) (n := 9) hC dJ8_newLength_cabcc_8 (by decide +kernel) rfl ?_
  refine hz_iload_n (a := 0) (n := 10) hC dJ8_newLength_cabcc_9 rfl rfl rfl ?_
  refine hz_icmp_ge (tgt := 21) (n := 13) hC dJ8_newLength_cabcc_10 (by decide) rfl (fun _ => ?_) (fun _ => ?_)
  · exact hz_none hC
  · refine hz_iload_n (a := 0) (n := 14) hC dJ8_newLength_cabcc_13 rfl rfl rfl ?_
    refine hz_ldci (n := 16) hC dJ8_newLength_cabcc_14 wd_3_195 rfl ?_
    refine hz_icmp_gt (tgt := 21) (n := 19) hC dJ8_newLength_cabcc_16 (by decide) rfl (fun _ => ?_) (fun _ => ?_)
    · exact hz_none hC
    · refine hz_iload_n (a := 0) (n := 20) hC dJ8_newLength_cabcc_19 rfl rfl rfl ?_
      exact hz_iret hC hr dJ8_newLength_cabcc_20
def F_J5_newCapacity_0f7a4 (a0 : Int32) (M : hp_M) : Option (Int32 × hp_M) := (if M 14 1 5000 < 0 then none else (hp_b (F_J8_newLength_cabcc (M 14 1 5000) ((a0 <<< ((M 14 0 1) &&& 31)) - (M 14 1 5000)) ((M 14 1 5000) + ((2 : Int32) <<< ((M 14 0 1) &&& 31))) M) (fun r1 M1 => (if r1 = (2147483647 : Int32) then none else (some ((r1 >>> ((M1 14 0 1) &&& 31)), M1))))))
set_option maxRecDepth 20000 in
set_option maxHeartbeats 4000000 in
theorem c_J5_newCapacity_0f7a4 (l : Launch) (a0 : Int32)  (M : hp_M) : hp_Ct l yJ5_newCapacity_0f7a4 cJ5_newCapacity_0f7a4 6 (some .int) 2 hp_IJ (fun adr adV => [.ref (adr 14 0), .int a0]) hp_oi M (F_J5_newCapacity_0f7a4 a0 M) := by
  refine hp_start "java/lang/AbstractStringBuilder" (fun adr adV => [(0, .ref (adr 14 0)), (1, .int a0)]) (by decide) rfl (fun _ _ => by simp only [lg_sl]; exact Nat.le_of_ble_eq_true rfl) (fun _ _ => rfl) ?_
  intro p e s m args below meth c A D ids adr adV cA rep G0 hI hC hr
  unfold F_J5_newCapacity_0f7a4
  refine hz_aload_n (a := 0) (n := 1) hC dJ5_newCapacity_0f7a4_0 rfl rfl rfl ?_
  refine fg_J5_15 (n := 4) hC hI.1 dJ5_newCapacity_0f7a4_1 rfl ?_
  refine hz_alenB (n := 5) hC dJ5_newCapacity_0f7a4_4 hI.2.1 rfl (fun _ => ?_)
  refine hz_istore_n (L' := [(2, .int (M 14 1 5000)), (0, .ref (adr 14 0)), (1, .int a0)]) (n := 6) hC dJ5_newCapacity_0f7a4_5 rfl (by decide) rfl rfl ?_
  refine hz_iload_n (a := 2) (n := 7) hC dJ5_newCapacity_0f7a4_6 rfl rfl rfl ?_
  refine hz_aload_n (a := 1) (n := 8) hC dJ5_newCapacity_0f7a4_7 rfl rfl rfl ?_
  refine fg_J5_22 (n := 11) hC hI.1 dJ5_newCapacity_0f7a4_8 rfl ?_
  refine hz_ishl (n := 12) hC dJ5_newCapacity_0f7a4_11 rfl ?_
  refine hz_istore_n (L' := [(3, .int (a0 <<< ((M 14 0 1) &&& 31))), (2, .int (M 14 1 5000)), (0, .ref (adr 14 0)), (1, .int a0)]) (n := 13) hC dJ5_newCapacity_0f7a4_12 rfl (by decide) rfl rfl ?_
  refine hz_iload_n (a := 0) (n := 14) hC dJ5_newCapacity_0f7a4_13 rfl rfl rfl ?_
  refine hz_iload_n (a := 1) (n := 15) hC dJ5_newCapacity_0f7a4_14 rfl rfl rfl ?_
  refine hz_isub (n := 16) hC dJ5_newCapacity_0f7a4_15 rfl ?_
  refine hz_istore (L' := [(4, .int ((a0 <<< ((M 14 0 1) &&& 31)) - (M 14 1 5000))), (3, .int (a0 <<< ((M 14 0 1) &&& 31))), (2, .int (M 14 1 5000)), (0, .ref (adr 14 0)), (1, .int a0)]) (n := 18) hC dJ5_newCapacity_0f7a4_16 (by decide) rfl rfl ?_
  refine hz_iload_n (a := 2) (n := 19) hC dJ5_newCapacity_0f7a4_18 rfl rfl rfl ?_
  refine hz_iload (a := 0) (n := 21) hC dJ5_newCapacity_0f7a4_19 rfl rfl ?_
  refine hz_iload_n (a := 2) (n := 22) hC dJ5_newCapacity_0f7a4_21 rfl rfl rfl ?_
  refine hz_iconst (v := (2 : Int32)) (n := 23) hC dJ5_newCapacity_0f7a4_22 (by decide +kernel) rfl ?_
  refine hz_aload_n (a := 3) (n := 24) hC dJ5_newCapacity_0f7a4_23 rfl rfl rfl ?_
  refine fg_J5_22 (n := 27) hC hI.1 dJ5_newCapacity_0f7a4_24 rfl ?_
  refine hz_ishl (n := 28) hC dJ5_newCapacity_0f7a4_27 rfl ?_
  refine hz_iadd (n := 29) hC dJ5_newCapacity_0f7a4_28 rfl ?_
  refine hz_callS (k := 3) (As := [.int (M 14 1 5000), .int ((a0 <<< ((M 14 0 1) &&& 31)) - (M 14 1 5000)), .int ((M 14 1 5000) + ((2 : Int32) <<< ((M 14 0 1) &&& 31)))]) (st := []) (S1 := fun r => .int r :: []) (n := 32) hC (c_J8_newLength_cabcc l (M 14 1 5000) ((a0 <<< ((M 14 0 1) &&& 31)) - (M 14 1 5000)) ((M 14 1 5000) + ((2 : Int32) <<< ((M 14 0 1) &&& 31)))   M) ks_J8_newLength_cabcc wd_3_189 trivial dJ5_newCapacity_0f7a4_29 rfl rfl rfl (Nat.le_of_ble_eq_true rfl) ⟨Nat.le_of_ble_eq_true rfl, Nat.le_of_ble_eq_true rfl⟩ ⟨Nat.zero_le _, Nat.zero_le _⟩ (fun _ => rfl) rfl (fun r1 M1 _ => ?_)
  refine hz_istore (L' := [(5, .int r1), (4, .int ((a0 <<< ((M 14 0 1) &&& 31)) - (M 14 1 5000))), (3, .int (a0 <<< ((M 14 0 1) &&& 31))), (2, .int (M 14 1 5000)), (0, .ref (adr 14 0)), (1, .int a0)]) (n := 34) hC dJ5_newCapacity_0f7a4_32 (by decide) rfl rfl ?_
  refine hz_iload (a := 0) (n := 36) hC dJ5_newCapacity_0f7a4_34 rfl rfl ?_
  refine hz_ldci (n := 38) hC dJ5_newCapacity_0f7a4_36 wd_3_199 rfl ?_
  refine hz_icmp_ne (tgt := 51) (n := 41) hC dJ5_newCapacity_0f7a4_38 (by decide) rfl (fun _ => ?_) (fun _ => ?_)
  · exact hz_none hC
  · refine hz_iload (a := 0) (n := 53) hC dJ5_newCapacity_0f7a4_51 rfl rfl ?_
    refine hz_aload_n (a := 4) (n := 54) hC dJ5_newCapacity_0f7a4_53 rfl rfl rfl ?_
    refine fg_J5_22 (n := 57) hC hI.1 dJ5_newCapacity_0f7a4_54 rfl ?_
    refine hz_ishr (n := 58) hC dJ5_newCapacity_0f7a4_57 rfl ?_
    exact hz_iret hC hr dJ5_newCapacity_0f7a4_58
def F_J5_charAt_5068e (a0 : Int32) (M : hp_M) : Option (Int32 × hp_M) := (if M 14 1 5000 < 0 then none else (hp_b (F_J0_checkIndex_df160 a0 (if ((M 14 1 5000) >>> ((M 14 0 1) &&& 31)) < (M 14 0 3) then ((M 14 1 5000) >>> ((M 14 0 1) &&& 31)) else (M 14 0 3)) M) (fun _ M1 => (if (M 14 0 1) = 0 then (if a0 < 0 ∨ (M1 14 1 5000).toNatClampNeg ≤ (a0).toNatClampNeg then none else (if vp_nar .char (((((M1 14 1 (a0).toNatClampNeg) &&& (255 : Int32))).toUInt32 % 65536).toInt32) = (((((M1 14 1 (a0).toNatClampNeg) &&& (255 : Int32))).toUInt32 % 65536).toInt32) then some ((((((M1 14 1 (a0).toNatClampNeg) &&& (255 : Int32))).toUInt32 % 65536).toInt32), M1) else none)) else none))))
set_option maxRecDepth 20000 in
set_option maxHeartbeats 4000000 in
theorem c_J5_charAt_5068e (l : Launch) (a0 : Int32)  (M : hp_M) : hp_Ct l yJ5_charAt_5068e cJ5_charAt_5068e 5 (some .char) 2 hp_IJ (fun adr adV => [.ref (adr 14 0), .int a0]) hp_oi M (F_J5_charAt_5068e a0 M) := by
  refine hp_start "java/lang/AbstractStringBuilder" (fun adr adV => [(0, .ref (adr 14 0)), (1, .int a0)]) (by decide) rfl (fun _ _ => by simp only [lg_sl]; exact Nat.le_of_ble_eq_true rfl) (fun _ _ => rfl) ?_
  intro p e s m args below meth c A D ids adr adV cA rep G0 hI hC hr
  unfold F_J5_charAt_5068e
  refine hz_aload_n (a := 0) (n := 1) hC dJ5_charAt_5068e_0 rfl rfl rfl ?_
  refine fg_J5_22 (n := 4) hC hI.1 dJ5_charAt_5068e_1 rfl ?_
  refine hz_istore_n (L' := [(2, .int (M 14 0 1)), (0, .ref (adr 14 0)), (1, .int a0)]) (n := 5) hC dJ5_charAt_5068e_4 rfl (by decide) rfl rfl ?_
  refine hz_aload_n (a := 1) (n := 6) hC dJ5_charAt_5068e_5 rfl rfl rfl ?_
  refine fg_J5_15 (n := 9) hC hI.1 dJ5_charAt_5068e_6 rfl ?_
  refine hz_astore_n (L' := [(3, .ref (adr 14 1)), (2, .int (M 14 0 1)), (0, .ref (adr 14 0)), (1, .int a0)]) (n := 10) hC dJ5_charAt_5068e_9 rfl (by decide) rfl rfl ?_
  refine hz_aload_n (a := 2) (n := 11) hC dJ5_charAt_5068e_10 rfl rfl rfl ?_
  refine fg_J5_79 (n := 14) hC hI.1 dJ5_charAt_5068e_11 rfl ?_
  refine hz_aload_n (a := 0) (n := 15) hC dJ5_charAt_5068e_14 rfl rfl rfl ?_
  refine hz_alenB (n := 16) hC dJ5_charAt_5068e_15 hI.2.1 rfl (fun _ => ?_)
  refine hz_iload_n (a := 1) (n := 17) hC dJ5_charAt_5068e_16 rfl rfl rfl ?_
  refine hz_ishr (n := 18) hC dJ5_charAt_5068e_17 rfl ?_
  refine hz_min (n := 21) hC dJ5_charAt_5068e_18 wd_5_40 hp_minw ⟨Nat.le_of_ble_eq_true rfl, Nat.le_of_ble_eq_true rfl, Nat.zero_le _, Nat.zero_le _⟩ rfl ?_
  refine hz_istore (L' := [(4, .int (if ((M 14 1 5000) >>> ((M 14 0 1) &&& 31)) < (M 14 0 3) then ((M 14 1 5000) >>> ((M 14 0 1) &&& 31)) else (M 14 0 3))), (3, .ref (adr 14 1)), (2, .int (M 14 0 1)), (0, .ref (adr 14 0)), (1, .int a0)]) (n := 23) hC dJ5_charAt_5068e_21 (by decide) rfl rfl ?_
  refine hz_iload_n (a := 4) (n := 24) hC dJ5_charAt_5068e_23 rfl rfl rfl ?_
  refine hz_iload (a := 0) (n := 26) hC dJ5_charAt_5068e_24 rfl rfl ?_
  refine hz_callS (k := 2) (As := [.int a0, .int (if ((M 14 1 5000) >>> ((M 14 0 1) &&& 31)) < (M 14 0 3) then ((M 14 1 5000) >>> ((M 14 0 1) &&& 31)) else (M 14 0 3))]) (st := []) (S1 := fun _ => []) (n := 29) hC (c_J0_checkIndex_df160 l a0 (if ((M 14 1 5000) >>> ((M 14 0 1) &&& 31)) < (M 14 0 3) then ((M 14 1 5000) >>> ((M 14 0 1) &&& 31)) else (M 14 0 3))   M) ks_J0_checkIndex_df160 wd_5_41 trivial dJ5_charAt_5068e_26 rfl rfl rfl (Nat.le_of_ble_eq_true rfl) ⟨Nat.le_of_ble_eq_true rfl, Nat.le_of_ble_eq_true rfl⟩ ⟨Nat.zero_le _, Nat.zero_le _⟩ (fun _ => rfl) rfl (fun r1 M1 _ => ?_)
  refine hz_iload_n (a := 2) (n := 30) hC dJ5_charAt_5068e_29 rfl rfl rfl ?_
  refine hz_if_ne (tgt := 42) (n := 33) hC dJ5_charAt_5068e_30 (by decide) rfl (fun _ => ?_) (fun _ => ?_)
  · refine hz_aload_n (a := 1) (n := 34) hC dJ5_charAt_5068e_33 rfl rfl rfl ?_
    refine hz_iload_n (a := 4) (n := 35) hC dJ5_charAt_5068e_34 rfl rfl rfl ?_
    refine hz_baldB (n := 36) hC dJ5_charAt_5068e_35 hI.2.1 rfl (fun _ => ?_)
    refine hz_sipush (v := (255 : Int32)) (n := 39) hC dJ5_charAt_5068e_36 (by decide +kernel) rfl ?_
    refine hz_iand (n := 40) hC dJ5_charAt_5068e_39 rfl ?_
    refine hz_i2c (n := 41) hC dJ5_charAt_5068e_40 rfl ?_
    exact hz_cret hC hr dJ5_charAt_5068e_41
  · exact hz_none hC
def L_J6_stringSize_0f7a4_16 (a0 : Int32)  (k16_0 : Int32) (k16_1 : Int32) : Nat → Int32 → Int32 → hp_M → Option (Int32 × hp_M)
  | 0, _, _, _ => none
  | n16 + 1, x2, x3, M => (if (10 : Int32) ≤ x3 then (some (((10 : Int32) + k16_1), M)) else (if k16_0 ≤ x2 then (L_J6_stringSize_0f7a4_16 a0 k16_0 k16_1 n16 ((10 : Int32) * x2) (x3 + (1 : Int32)) M) else (some ((x3 + k16_1), M))))
def A_J6_stringSize_0f7a4_11 (a0 : Int32)  (y11_0 : Int32) (y11_1 : Int32) (M : hp_M) : Option (Int32 × hp_M) := (L_J6_stringSize_0f7a4_16 a0 y11_0 y11_1 hp_fu (-10 : Int32) (1 : Int32) M)
def F_J6_stringSize_0f7a4 (a0 : Int32) (M : hp_M) : Option (Int32 × hp_M) := (if a0 < 0 then (A_J6_stringSize_0f7a4_11 a0 a0 (1 : Int32) M) else (A_J6_stringSize_0f7a4_11 a0 (-a0) (0 : Int32) M))
set_option maxRecDepth 20000 in
set_option maxHeartbeats 4000000 in
theorem c_J6_stringSize_0f7a4 (l : Launch) (a0 : Int32)  (M : hp_M) : hp_Ct l yJ6_stringSize_0f7a4 cJ6_stringSize_0f7a4 4 (some .int) 0 hp_I0 (fun adr adV => [.int a0]) hp_oi M (F_J6_stringSize_0f7a4 a0 M) := by
  refine hp_start "java/lang/Integer" (fun adr adV => [(0, .int a0)]) (by decide) rfl (fun _ _ => by simp only [lg_sl]; exact Nat.le_of_ble_eq_true rfl) (fun _ _ => rfl) ?_
  intro p e s m args below meth c A D ids adr adV cA rep G0 hI hC hr
  unfold F_J6_stringSize_0f7a4
  have l16 : ∀ (k16_0 : Int32) (k16_1 : Int32) (n16 : Nat) (x2 : Int32) (x3 : Int32) (M : hp_M), hp_Z p l e (hp_rm 0) s m args below meth c 4 A D ids adr adV cA 0 0 (MQ below (hp_Q A D ids adr adV cA rep hp_oi G0) args s 0 0 A) G0 rep 16 [(0, .int k16_0), (1, .int k16_1), (2, .int x2), (3, .int x3)] [] M (L_J6_stringSize_0f7a4_16 a0 k16_0 k16_1 n16 x2 x3 M) := by
    intro k16_0 k16_1 n16
    induction n16 with
    | zero => intro x2 x3 M; exact hz_none hC
    | succ n16 ih16 =>
      intro x2 x3 M
      rw [L_J6_stringSize_0f7a4_16.eq_2]
      refine hz_iload_n (a := 3) (n := 17) hC dJ6_stringSize_0f7a4_16 rfl rfl rfl ?_
      refine hz_bipush (v := (10 : Int32)) (n := 19) hC dJ6_stringSize_0f7a4_17 (by decide +kernel) rfl ?_
      refine hz_icmp_ge (tgt := 42) (n := 22) hC dJ6_stringSize_0f7a4_19 (by decide) rfl (fun _ => ?_) (fun _ => ?_)
      · refine hz_bipush (v := (10 : Int32)) (n := 44) hC dJ6_stringSize_0f7a4_42 (by decide +kernel) rfl ?_
        refine hz_iload_n (a := 1) (n := 45) hC dJ6_stringSize_0f7a4_44 rfl rfl rfl ?_
        refine hz_iadd (n := 46) hC dJ6_stringSize_0f7a4_45 rfl ?_
        exact hz_iret hC hr dJ6_stringSize_0f7a4_46
      · refine hz_iload_n (a := 0) (n := 23) hC dJ6_stringSize_0f7a4_22 rfl rfl rfl ?_
        refine hz_iload_n (a := 2) (n := 24) hC dJ6_stringSize_0f7a4_23 rfl rfl rfl ?_
        refine hz_icmp_le (tgt := 31) (n := 27) hC dJ6_stringSize_0f7a4_24 (by decide) rfl (fun _ => ?_) (fun _ => ?_)
        · refine hz_bipush (v := (10 : Int32)) (n := 33) hC dJ6_stringSize_0f7a4_31 (by decide +kernel) rfl ?_
          refine hz_iload_n (a := 2) (n := 34) hC dJ6_stringSize_0f7a4_33 rfl rfl rfl ?_
          refine hz_imul (n := 35) hC dJ6_stringSize_0f7a4_34 rfl ?_
          refine hz_istore_n (L' := [(2, .int ((10 : Int32) * x2)), (0, .int k16_0), (1, .int k16_1), (3, .int x3)]) (n := 36) hC dJ6_stringSize_0f7a4_35 rfl (by decide) rfl rfl ?_
          refine hz_iinc (a := 3) (v := (x3 + (1 : Int32))) (L' := [(3, .int (x3 + (1 : Int32))), (2, .int ((10 : Int32) * x2)), (0, .int k16_0), (1, .int k16_1)]) (n := 39) hC dJ6_stringSize_0f7a4_36 rfl rfl (by decide) rfl rfl ?_
          refine hz_goto (n := 16) hC dJ6_stringSize_0f7a4_39 (by decide) ?_
          refine hz_L (L' := [(0, .int k16_0), (1, .int k16_1), (2, .int ((10 : Int32) * x2)), (3, .int (x3 + (1 : Int32)))]) [2, 3, 1, 0] rfl ?_
          exact ih16 _ _ _
        · refine hz_iload_n (a := 3) (n := 28) hC dJ6_stringSize_0f7a4_27 rfl rfl rfl ?_
          refine hz_iload_n (a := 1) (n := 29) hC dJ6_stringSize_0f7a4_28 rfl rfl rfl ?_
          refine hz_iadd (n := 30) hC dJ6_stringSize_0f7a4_29 rfl ?_
          exact hz_iret hC hr dJ6_stringSize_0f7a4_30
  have j11 : ∀ (y11_0 : Int32) (y11_1 : Int32) (M : hp_M), hp_Z p l e (hp_rm 0) s m args below meth c 4 A D ids adr adV cA 0 0 (MQ below (hp_Q A D ids adr adV cA rep hp_oi G0) args s 0 0 A) G0 rep 11 [(0, .int y11_0), (1, .int y11_1)] [] M (A_J6_stringSize_0f7a4_11 a0 y11_0 y11_1 M) := by
    intro y11_0 y11_1 M
    unfold A_J6_stringSize_0f7a4_11
    refine hz_bipush (v := (-10 : Int32)) (n := 13) hC dJ6_stringSize_0f7a4_11 (by decide +kernel) rfl ?_
    refine hz_istore_n (L' := [(2, .int (-10 : Int32)), (0, .int y11_0), (1, .int y11_1)]) (n := 14) hC dJ6_stringSize_0f7a4_13 rfl (by decide) rfl rfl ?_
    refine hz_iconst (v := (1 : Int32)) (n := 15) hC dJ6_stringSize_0f7a4_14 (by decide +kernel) rfl ?_
    refine hz_istore_n (L' := [(3, .int (1 : Int32)), (2, .int (-10 : Int32)), (0, .int y11_0), (1, .int y11_1)]) (n := 16) hC dJ6_stringSize_0f7a4_15 rfl (by decide) rfl rfl ?_
    refine hz_L (L' := [(0, .int y11_0), (1, .int y11_1), (2, .int (-10 : Int32)), (3, .int (1 : Int32))]) [2, 3, 1, 0] rfl ?_
    exact l16 _ _ hp_fu _ _ _
  refine hz_iconst (v := (1 : Int32)) (n := 1) hC dJ6_stringSize_0f7a4_0 (by decide +kernel) rfl ?_
  refine hz_istore_n (L' := [(1, .int (1 : Int32)), (0, .int a0)]) (n := 2) hC dJ6_stringSize_0f7a4_1 rfl (by decide) rfl rfl ?_
  refine hz_iload_n (a := 1) (n := 3) hC dJ6_stringSize_0f7a4_2 rfl rfl rfl ?_
  refine hz_if_lt (tgt := 11) (n := 6) hC dJ6_stringSize_0f7a4_3 (by decide) rfl (fun _ => ?_) (fun _ => ?_)
  · refine hz_L (L' := [(0, .int a0), (1, .int (1 : Int32))]) [1, 0] rfl ?_
    exact j11 _ _ _
  · refine hz_iconst (v := (0 : Int32)) (n := 7) hC dJ6_stringSize_0f7a4_6 (by decide +kernel) rfl ?_
    refine hz_istore_n (L' := [(1, .int (0 : Int32)), (0, .int a0)]) (n := 8) hC dJ6_stringSize_0f7a4_7 rfl (by decide) rfl rfl ?_
    refine hz_iload_n (a := 1) (n := 9) hC dJ6_stringSize_0f7a4_8 rfl rfl rfl ?_
    refine hz_ineg (n := 10) hC dJ6_stringSize_0f7a4_9 rfl ?_
    refine hz_istore_n (L' := [(0, .int (-a0)), (1, .int (0 : Int32))]) (n := 11) hC dJ6_stringSize_0f7a4_10 rfl (by decide) rfl rfl ?_
    exact j11 _ _ _
def F_J1_canEncode_fc78d (a0 : Int32) (M : hp_M) : Option (Int32 × hp_M) := (if (255 : Int32) < a0 then (some ((0 : Int32), M)) else (some ((1 : Int32), M)))
set_option maxRecDepth 20000 in
set_option maxHeartbeats 4000000 in
theorem c_J1_canEncode_fc78d (l : Launch) (a0 : Int32)  (M : hp_M) : hp_Ct l yJ1_canEncode_fc78d cJ1_canEncode_fc78d 1 (some .boolean) 0 hp_I0 (fun adr adV => [.int a0]) hp_oi M (F_J1_canEncode_fc78d a0 M) := by
  refine hp_start "java/lang/StringLatin1" (fun adr adV => [(0, .int a0)]) (by decide) rfl (fun _ _ => by simp only [lg_sl]; exact Nat.le_of_ble_eq_true rfl) (fun _ _ => rfl) ?_
  intro p e s m args below meth c A D ids adr adV cA rep G0 hI hC hr
  unfold F_J1_canEncode_fc78d
  refine hz_iload_n (a := 0) (n := 1) hC dJ1_canEncode_fc78d_0 rfl rfl rfl ?_
  refine hz_sipush (v := (255 : Int32)) (n := 4) hC dJ1_canEncode_fc78d_1 (by decide +kernel) rfl ?_
  refine hz_icmp_gt (tgt := 11) (n := 7) hC dJ1_canEncode_fc78d_4 (by decide) rfl (fun _ => ?_) (fun _ => ?_)
  · refine hz_iconst (v := (0 : Int32)) (n := 12) hC dJ1_canEncode_fc78d_11 (by decide +kernel) rfl ?_
    exact hz_zret hC hr nz_0 dJ1_canEncode_fc78d_12
  · refine hz_iconst (v := (1 : Int32)) (n := 8) hC dJ1_canEncode_fc78d_7 (by decide +kernel) rfl ?_
    refine hz_goto (n := 12) hC dJ1_canEncode_fc78d_8 (by decide) ?_
    exact hz_zret hC hr nz_1 dJ1_canEncode_fc78d_12
def L_J6_getChars_ba4f3_22 (a0 : Int32) (a1 : Int32)  (k22_6 : Int32) : Nat → Int32 → Int32 → hp_M → Option (Int32 × hp_M)
  | 0, _, _, _ => none
  | n22 + 1, x0, x5, M => (if (-100 : Int32) < x0 then (if (-x0) < 0 ∨ 100 ≤ ((-x0)).toNatClampNeg then none else (if (x5 + (-1 : Int32)) < 0 ∨ (M 14 1 5000).toNatClampNeg ≤ ((x5 + (-1 : Int32))).toNatClampNeg ∨ 5000 ≤ ((x5 + (-1 : Int32))).toNatClampNeg then none else (if (-9 : Int32) ≤ x0 then (if k22_6 = 0 then (some ((x5 + (-1 : Int32)), (hp_p M 14 1 ((x5 + (-1 : Int32))).toNatClampNeg (vp_nar .byte (hp_do.getD ((-x0)).toNatClampNeg 0))))) else (if ((x5 + (-1 : Int32)) + (-1 : Int32)) < 0 ∨ ((hp_p M 14 1 ((x5 + (-1 : Int32))).toNatClampNeg (vp_nar .byte (hp_do.getD ((-x0)).toNatClampNeg 0))) 14 1 5000).toNatClampNeg ≤ (((x5 + (-1 : Int32)) + (-1 : Int32))).toNatClampNeg ∨ 5000 ≤ (((x5 + (-1 : Int32)) + (-1 : Int32))).toNatClampNeg then none else (some (((x5 + (-1 : Int32)) + (-1 : Int32)), (hp_p (hp_p M 14 1 ((x5 + (-1 : Int32))).toNatClampNeg (vp_nar .byte (hp_do.getD ((-x0)).toNatClampNeg 0))) 14 1 (((x5 + (-1 : Int32)) + (-1 : Int32))).toNatClampNeg (vp_nar .byte (45 : Int32))))))) else (if (-x0) < 0 ∨ 100 ≤ ((-x0)).toNatClampNeg then none else (if ((x5 + (-1 : Int32)) + (-1 : Int32)) < 0 ∨ ((hp_p M 14 1 ((x5 + (-1 : Int32))).toNatClampNeg (vp_nar .byte (hp_do.getD ((-x0)).toNatClampNeg 0))) 14 1 5000).toNatClampNeg ≤ (((x5 + (-1 : Int32)) + (-1 : Int32))).toNatClampNeg ∨ 5000 ≤ (((x5 + (-1 : Int32)) + (-1 : Int32))).toNatClampNeg then none else (if k22_6 = 0 then (some (((x5 + (-1 : Int32)) + (-1 : Int32)), (hp_p (hp_p M 14 1 ((x5 + (-1 : Int32))).toNatClampNeg (vp_nar .byte (hp_do.getD ((-x0)).toNatClampNeg 0))) 14 1 (((x5 + (-1 : Int32)) + (-1 : Int32))).toNatClampNeg (vp_nar .byte (hp_dt.getD ((-x0)).toNatClampNeg 0))))) else (if (((x5 + (-1 : Int32)) + (-1 : Int32)) + (-1 : Int32)) < 0 ∨ ((hp_p (hp_p M 14 1 ((x5 + (-1 : Int32))).toNatClampNeg (vp_nar .byte (hp_do.getD ((-x0)).toNatClampNeg 0))) 14 1 (((x5 + (-1 : Int32)) + (-1 : Int32))).toNatClampNeg (vp_nar .byte (hp_dt.getD ((-x0)).toNatClampNeg 0))) 14 1 5000).toNatClampNeg ≤ ((((x5 + (-1 : Int32)) + (-1 : Int32)) + (-1 : Int32))).toNatClampNeg ∨ 5000 ≤ ((((x5 + (-1 : Int32)) + (-1 : Int32)) + (-1 : Int32))).toNatClampNeg then none else (some ((((x5 + (-1 : Int32)) + (-1 : Int32)) + (-1 : Int32)), (hp_p (hp_p (hp_p M 14 1 ((x5 + (-1 : Int32))).toNatClampNeg (vp_nar .byte (hp_do.getD ((-x0)).toNatClampNeg 0))) 14 1 (((x5 + (-1 : Int32)) + (-1 : Int32))).toNatClampNeg (vp_nar .byte (hp_dt.getD ((-x0)).toNatClampNeg 0))) 14 1 ((((x5 + (-1 : Int32)) + (-1 : Int32)) + (-1 : Int32))).toNatClampNeg (vp_nar .byte (45 : Int32)))))))))))) else (if (100 : Int32) = 0 then none else (if (((x0 / (100 : Int32)) * (100 : Int32)) - x0) < 0 ∨ 100 ≤ ((((x0 / (100 : Int32)) * (100 : Int32)) - x0)).toNatClampNeg then none else (if (x5 + (-1 : Int32)) < 0 ∨ (M 14 1 5000).toNatClampNeg ≤ ((x5 + (-1 : Int32))).toNatClampNeg ∨ 5000 ≤ ((x5 + (-1 : Int32))).toNatClampNeg then none else (if (((x0 / (100 : Int32)) * (100 : Int32)) - x0) < 0 ∨ 100 ≤ ((((x0 / (100 : Int32)) * (100 : Int32)) - x0)).toNatClampNeg then none else (if ((x5 + (-1 : Int32)) + (-1 : Int32)) < 0 ∨ ((hp_p M 14 1 ((x5 + (-1 : Int32))).toNatClampNeg (vp_nar .byte (hp_do.getD ((((x0 / (100 : Int32)) * (100 : Int32)) - x0)).toNatClampNeg 0))) 14 1 5000).toNatClampNeg ≤ (((x5 + (-1 : Int32)) + (-1 : Int32))).toNatClampNeg ∨ 5000 ≤ (((x5 + (-1 : Int32)) + (-1 : Int32))).toNatClampNeg then none else (L_J6_getChars_ba4f3_22 a0 a1 k22_6 n22 (x0 / (100 : Int32)) ((x5 + (-1 : Int32)) + (-1 : Int32)) (hp_p (hp_p M 14 1 ((x5 + (-1 : Int32))).toNatClampNeg (vp_nar .byte (hp_do.getD ((((x0 / (100 : Int32)) * (100 : Int32)) - x0)).toNatClampNeg 0))) 14 1 (((x5 + (-1 : Int32)) + (-1 : Int32))).toNatClampNeg (vp_nar .byte (hp_dt.getD ((((x0 / (100 : Int32)) * (100 : Int32)) - x0)).toNatClampNeg 0))))))))))
def A_J6_getChars_ba4f3_12 (a0 : Int32) (a1 : Int32)  (y12_0 : Int32) (y12_5 : Int32) (z12_0 : Int32) (M : hp_M) : Option (Int32 × hp_M) := (if z12_0 = 0 then (L_J6_getChars_ba4f3_22 a0 a1 z12_0 hp_fu (-y12_0) y12_5 M) else (L_J6_getChars_ba4f3_22 a0 a1 z12_0 hp_fu y12_0 y12_5 M))
def F_J6_getChars_ba4f3 (a0 : Int32) (a1 : Int32) (M : hp_M) : Option (Int32 × hp_M) := (if 0 ≤ a0 then (A_J6_getChars_ba4f3_12 a0 a1 a0 a1 (0 : Int32) M) else (A_J6_getChars_ba4f3_12 a0 a1 a0 a1 (1 : Int32) M))
set_option maxRecDepth 20000 in
set_option maxHeartbeats 4000000 in
theorem c_J6_getChars_ba4f3 (l : Launch) (a0 : Int32) (a1 : Int32)  (M : hp_M) : hp_Ct l yJ6_getChars_ba4f3 cJ6_getChars_ba4f3 7 (some .int) 0 hp_IJ (fun adr adV => [.int a0, .int a1, .ref (adr 14 1)]) hp_oi M (F_J6_getChars_ba4f3 a0 a1 M) := by
  refine hp_start "java/lang/Integer" (fun adr adV => [(0, .int a0), (1, .int a1), (2, .ref (adr 14 1))]) (by decide) rfl (fun _ _ => by simp only [lg_sl]; exact Nat.le_of_ble_eq_true rfl) (fun _ _ => rfl) ?_
  intro p e s m args below meth c A D ids adr adV cA rep G0 hI hC hr
  unfold F_J6_getChars_ba4f3
  have l22 : ∀ (k22_6 : Int32) (n22 : Nat) (x0 : Int32) (x5 : Int32) (M : hp_M), hp_Z p l e (hp_rm 0) s m args below meth c 7 A D ids adr adV cA 0 0 (MQ below (hp_Q A D ids adr adV cA rep hp_oi G0) args s 0 0 A) G0 rep 22 [(0, .int x0), (2, .ref (adr 14 1)), (5, .int x5), (6, .int k22_6)] [] M (L_J6_getChars_ba4f3_22 a0 a1 k22_6 n22 x0 x5 M) := by
    intro k22_6 n22
    induction n22 with
    | zero => intro x0 x5 M; exact hz_none hC
    | succ n22 ih22 =>
      intro x0 x5 M
      rw [L_J6_getChars_ba4f3_22.eq_2]
      refine hz_iload_n (a := 0) (n := 23) hC dJ6_getChars_ba4f3_22 rfl rfl rfl ?_
      refine hz_bipush (v := (-100 : Int32)) (n := 25) hC dJ6_getChars_ba4f3_23 (by decide +kernel) rfl ?_
      refine hz_icmp_gt (tgt := 72) (n := 28) hC dJ6_getChars_ba4f3_25 (by decide) rfl (fun _ => ?_) (fun _ => ?_)
      · refine hz_aload_n (a := 1) (n := 73) hC dJ6_getChars_ba4f3_72 rfl rfl rfl ?_
        refine hz_iinc (a := 2) (v := (x5 + (-1 : Int32))) (L' := [(5, .int (x5 + (-1 : Int32))), (0, .int x0), (2, .ref (adr 14 1)), (6, .int k22_6)]) (n := 76) hC dJ6_getChars_ba4f3_73 rfl rfl (by decide) rfl rfl ?_
        refine hz_iload (a := 0) (n := 78) hC dJ6_getChars_ba4f3_76 rfl rfl ?_
        refine hz_gets (k := 15) (n := 81) hC dJ6_getChars_ba4f3_78 wd_4_41 wd_1_26.1 (by decide +kernel) wd_4_40 rfl ?_
        refine hz_iload_n (a := 1) (n := 82) hC dJ6_getChars_ba4f3_81 rfl rfl rfl ?_
        refine hz_ineg (n := 83) hC dJ6_getChars_ba4f3_82 rfl ?_
        refine hz_tbald (n := 84) hC (hp_do_T hC.2.2.2.2.1) dJ6_getChars_ba4f3_83 rfl (fun _ => ?_)
        refine hz_bastB (n := 85) hC dJ6_getChars_ba4f3_84 hI.2.1 rfl ?_
        refine hz_iload_n (a := 1) (n := 86) hC dJ6_getChars_ba4f3_85 rfl rfl rfl ?_
        refine hz_bipush (v := (-9 : Int32)) (n := 88) hC dJ6_getChars_ba4f3_86 (by decide +kernel) rfl ?_
        refine hz_icmp_ge (tgt := 104) (n := 91) hC dJ6_getChars_ba4f3_88 (by decide) rfl (fun _ => ?_) (fun _ => ?_)
        · refine hz_iload (a := 3) (n := 106) hC dJ6_getChars_ba4f3_104 rfl rfl ?_
          refine hz_if_eq (tgt := 118) (n := 109) hC dJ6_getChars_ba4f3_106 (by decide) rfl (fun _ => ?_) (fun _ => ?_)
          · refine hz_iload (a := 0) (n := 120) hC dJ6_getChars_ba4f3_118 rfl rfl ?_
            exact hz_iret hC hr dJ6_getChars_ba4f3_120
          · refine hz_aload_n (a := 2) (n := 110) hC dJ6_getChars_ba4f3_109 rfl rfl rfl ?_
            refine hz_iinc (a := 0) (v := ((x5 + (-1 : Int32)) + (-1 : Int32))) (L' := [(5, .int ((x5 + (-1 : Int32)) + (-1 : Int32))), (0, .int x0), (2, .ref (adr 14 1)), (6, .int k22_6)]) (n := 113) hC dJ6_getChars_ba4f3_110 rfl rfl (by decide) rfl rfl ?_
            refine hz_iload (a := 0) (n := 115) hC dJ6_getChars_ba4f3_113 rfl rfl ?_
            refine hz_bipush (v := (45 : Int32)) (n := 117) hC dJ6_getChars_ba4f3_115 (by decide +kernel) rfl ?_
            refine hz_bastB (n := 118) hC dJ6_getChars_ba4f3_117 hI.2.1 rfl ?_
            refine hz_iload (a := 0) (n := 120) hC dJ6_getChars_ba4f3_118 rfl rfl ?_
            exact hz_iret hC hr dJ6_getChars_ba4f3_120
        · refine hz_aload_n (a := 2) (n := 92) hC dJ6_getChars_ba4f3_91 rfl rfl rfl ?_
          refine hz_iinc (a := 0) (v := ((x5 + (-1 : Int32)) + (-1 : Int32))) (L' := [(5, .int ((x5 + (-1 : Int32)) + (-1 : Int32))), (0, .int x0), (2, .ref (adr 14 1)), (6, .int k22_6)]) (n := 95) hC dJ6_getChars_ba4f3_92 rfl rfl (by decide) rfl rfl ?_
          refine hz_iload (a := 0) (n := 97) hC dJ6_getChars_ba4f3_95 rfl rfl ?_
          refine hz_gets (k := 16) (n := 100) hC dJ6_getChars_ba4f3_97 wd_4_43 wd_1_26.1 (by decide +kernel) wd_4_42 rfl ?_
          refine hz_iload_n (a := 1) (n := 101) hC dJ6_getChars_ba4f3_100 rfl rfl rfl ?_
          refine hz_ineg (n := 102) hC dJ6_getChars_ba4f3_101 rfl ?_
          refine hz_tbald (n := 103) hC (hp_dt_T hC.2.2.2.2.1) dJ6_getChars_ba4f3_102 rfl (fun _ => ?_)
          refine hz_bastB (n := 104) hC dJ6_getChars_ba4f3_103 hI.2.1 rfl ?_
          refine hz_iload (a := 3) (n := 106) hC dJ6_getChars_ba4f3_104 rfl rfl ?_
          refine hz_if_eq (tgt := 118) (n := 109) hC dJ6_getChars_ba4f3_106 (by decide) rfl (fun _ => ?_) (fun _ => ?_)
          · refine hz_iload (a := 0) (n := 120) hC dJ6_getChars_ba4f3_118 rfl rfl ?_
            exact hz_iret hC hr dJ6_getChars_ba4f3_120
          · refine hz_aload_n (a := 2) (n := 110) hC dJ6_getChars_ba4f3_109 rfl rfl rfl ?_
            refine hz_iinc (a := 0) (v := (((x5 + (-1 : Int32)) + (-1 : Int32)) + (-1 : Int32))) (L' := [(5, .int (((x5 + (-1 : Int32)) + (-1 : Int32)) + (-1 : Int32))), (0, .int x0), (2, .ref (adr 14 1)), (6, .int k22_6)]) (n := 113) hC dJ6_getChars_ba4f3_110 rfl rfl (by decide) rfl rfl ?_
            refine hz_iload (a := 0) (n := 115) hC dJ6_getChars_ba4f3_113 rfl rfl ?_
            refine hz_bipush (v := (45 : Int32)) (n := 117) hC dJ6_getChars_ba4f3_115 (by decide +kernel) rfl ?_
            refine hz_bastB (n := 118) hC dJ6_getChars_ba4f3_117 hI.2.1 rfl ?_
            refine hz_iload (a := 0) (n := 120) hC dJ6_getChars_ba4f3_118 rfl rfl ?_
            exact hz_iret hC hr dJ6_getChars_ba4f3_120
      · refine hz_iload_n (a := 0) (n := 29) hC dJ6_getChars_ba4f3_28 rfl rfl rfl ?_
        refine hz_bipush (v := (100 : Int32)) (n := 31) hC dJ6_getChars_ba4f3_29 (by decide +kernel) rfl ?_
        refine hz_idiv (n := 32) hC dJ6_getChars_ba4f3_31 rfl (fun _ => ?_)
        refine hz_istore_n (L' := [(3, .int (x0 / (100 : Int32))), (0, .int x0), (2, .ref (adr 14 1)), (5, .int x5), (6, .int k22_6)]) (n := 33) hC dJ6_getChars_ba4f3_32 rfl (by decide) rfl rfl ?_
        refine hz_iload_n (a := 0) (n := 34) hC dJ6_getChars_ba4f3_33 rfl rfl rfl ?_
        refine hz_bipush (v := (100 : Int32)) (n := 36) hC dJ6_getChars_ba4f3_34 (by decide +kernel) rfl ?_
        refine hz_imul (n := 37) hC dJ6_getChars_ba4f3_36 rfl ?_
        refine hz_iload_n (a := 1) (n := 38) hC dJ6_getChars_ba4f3_37 rfl rfl rfl ?_
        refine hz_isub (n := 39) hC dJ6_getChars_ba4f3_38 rfl ?_
        refine hz_istore (L' := [(4, .int (((x0 / (100 : Int32)) * (100 : Int32)) - x0)), (3, .int (x0 / (100 : Int32))), (0, .int x0), (2, .ref (adr 14 1)), (5, .int x5), (6, .int k22_6)]) (n := 41) hC dJ6_getChars_ba4f3_39 (by decide) rfl rfl ?_
        refine hz_iload_n (a := 1) (n := 42) hC dJ6_getChars_ba4f3_41 rfl rfl rfl ?_
        refine hz_istore_n (L' := [(0, .int (x0 / (100 : Int32))), (4, .int (((x0 / (100 : Int32)) * (100 : Int32)) - x0)), (3, .int (x0 / (100 : Int32))), (2, .ref (adr 14 1)), (5, .int x5), (6, .int k22_6)]) (n := 43) hC dJ6_getChars_ba4f3_42 rfl (by decide) rfl rfl ?_
        refine hz_aload_n (a := 3) (n := 44) hC dJ6_getChars_ba4f3_43 rfl rfl rfl ?_
        refine hz_iinc (a := 4) (v := (x5 + (-1 : Int32))) (L' := [(5, .int (x5 + (-1 : Int32))), (0, .int (x0 / (100 : Int32))), (4, .int (((x0 / (100 : Int32)) * (100 : Int32)) - x0)), (3, .int (x0 / (100 : Int32))), (2, .ref (adr 14 1)), (6, .int k22_6)]) (n := 47) hC dJ6_getChars_ba4f3_44 rfl rfl (by decide) rfl rfl ?_
        refine hz_iload (a := 0) (n := 49) hC dJ6_getChars_ba4f3_47 rfl rfl ?_
        refine hz_gets (k := 15) (n := 52) hC dJ6_getChars_ba4f3_49 wd_4_41 wd_1_26.1 (by decide +kernel) wd_4_40 rfl ?_
        refine hz_iload (a := 2) (n := 54) hC dJ6_getChars_ba4f3_52 rfl rfl ?_
        refine hz_tbald (n := 55) hC (hp_do_T hC.2.2.2.2.1) dJ6_getChars_ba4f3_54 rfl (fun _ => ?_)
        refine hz_bastB (n := 56) hC dJ6_getChars_ba4f3_55 hI.2.1 rfl ?_
        refine hz_aload_n (a := 4) (n := 57) hC dJ6_getChars_ba4f3_56 rfl rfl rfl ?_
        refine hz_iinc (a := 0) (v := ((x5 + (-1 : Int32)) + (-1 : Int32))) (L' := [(5, .int ((x5 + (-1 : Int32)) + (-1 : Int32))), (0, .int (x0 / (100 : Int32))), (4, .int (((x0 / (100 : Int32)) * (100 : Int32)) - x0)), (3, .int (x0 / (100 : Int32))), (2, .ref (adr 14 1)), (6, .int k22_6)]) (n := 60) hC dJ6_getChars_ba4f3_57 rfl rfl (by decide) rfl rfl ?_
        refine hz_iload (a := 0) (n := 62) hC dJ6_getChars_ba4f3_60 rfl rfl ?_
        refine hz_gets (k := 16) (n := 65) hC dJ6_getChars_ba4f3_62 wd_4_43 wd_1_26.1 (by decide +kernel) wd_4_42 rfl ?_
        refine hz_iload (a := 2) (n := 67) hC dJ6_getChars_ba4f3_65 rfl rfl ?_
        refine hz_tbald (n := 68) hC (hp_dt_T hC.2.2.2.2.1) dJ6_getChars_ba4f3_67 rfl (fun _ => ?_)
        refine hz_bastB (n := 69) hC dJ6_getChars_ba4f3_68 hI.2.1 rfl ?_
        refine hz_goto (n := 22) hC dJ6_getChars_ba4f3_69 (by decide) ?_
        refine hz_L (L' := [(0, .int (x0 / (100 : Int32))), (2, .ref (adr 14 1)), (5, .int ((x5 + (-1 : Int32)) + (-1 : Int32))), (6, .int k22_6)]) [1, 4, 0, 5] rfl ?_
        exact ih22 _ _ _
  have j12 : ∀ (y12_0 : Int32) (y12_5 : Int32) (z12_0 : Int32) (M : hp_M), hp_Z p l e (hp_rm 0) s m args below meth c 7 A D ids adr adV cA 0 0 (MQ below (hp_Q A D ids adr adV cA rep hp_oi G0) args s 0 0 A) G0 rep 12 [(0, .int y12_0), (2, .ref (adr 14 1)), (5, .int y12_5)] [.int z12_0] M (A_J6_getChars_ba4f3_12 a0 a1 y12_0 y12_5 z12_0 M) := by
    intro y12_0 y12_5 z12_0 M
    unfold A_J6_getChars_ba4f3_12
    refine hz_istore (L' := [(6, .int z12_0), (0, .int y12_0), (2, .ref (adr 14 1)), (5, .int y12_5)]) (n := 14) hC dJ6_getChars_ba4f3_12 (by decide) rfl rfl ?_
    refine hz_iload (a := 0) (n := 16) hC dJ6_getChars_ba4f3_14 rfl rfl ?_
    refine hz_if_ne (tgt := 22) (n := 19) hC dJ6_getChars_ba4f3_16 (by decide) rfl (fun _ => ?_) (fun _ => ?_)
    · refine hz_iload_n (a := 1) (n := 20) hC dJ6_getChars_ba4f3_19 rfl rfl rfl ?_
      refine hz_ineg (n := 21) hC dJ6_getChars_ba4f3_20 rfl ?_
      refine hz_istore_n (L' := [(0, .int (-y12_0)), (6, .int z12_0), (2, .ref (adr 14 1)), (5, .int y12_5)]) (n := 22) hC dJ6_getChars_ba4f3_21 rfl (by decide) rfl rfl ?_
      refine hz_L (L' := [(0, .int (-y12_0)), (2, .ref (adr 14 1)), (5, .int y12_5), (6, .int z12_0)]) [0, 2, 3, 1] rfl ?_
      exact l22 _ hp_fu _ _ _
    · refine hz_L (L' := [(0, .int y12_0), (2, .ref (adr 14 1)), (5, .int y12_5), (6, .int z12_0)]) [1, 2, 3, 0] rfl ?_
      exact l22 _ hp_fu _ _ _
  refine hz_iload_n (a := 1) (n := 1) hC dJ6_getChars_ba4f3_0 rfl rfl rfl ?_
  refine hz_istore (L' := [(5, .int a1), (0, .int a0), (1, .int a1), (2, .ref (adr 14 1))]) (n := 3) hC dJ6_getChars_ba4f3_1 (by decide) rfl rfl ?_
  refine hz_iload_n (a := 1) (n := 4) hC dJ6_getChars_ba4f3_3 rfl rfl rfl ?_
  refine hz_if_ge (tgt := 11) (n := 7) hC dJ6_getChars_ba4f3_4 (by decide) rfl (fun _ => ?_) (fun _ => ?_)
  · refine hz_iconst (v := (0 : Int32)) (n := 12) hC dJ6_getChars_ba4f3_11 (by decide +kernel) rfl ?_
    refine hz_L (L' := [(0, .int a0), (2, .ref (adr 14 1)), (5, .int a1)]) [1, 3, 0] rfl ?_
    exact j12 _ _ _ _
  · refine hz_iconst (v := (1 : Int32)) (n := 8) hC dJ6_getChars_ba4f3_7 (by decide +kernel) rfl ?_
    refine hz_goto (n := 12) hC dJ6_getChars_ba4f3_8 (by decide) ?_
    refine hz_L (L' := [(0, .int a0), (2, .ref (adr 14 1)), (5, .int a1)]) [1, 3, 0] rfl ?_
    exact j12 _ _ _ _
def F_J5_ensureCapacityInternal_d00df (a0 : Int32) (M : hp_M) : Option (Unit × hp_M) := (if M 14 1 5000 < 0 then none else (if (a0 - ((M 14 1 5000) >>> ((M 14 0 1) &&& 31))) ≤ 0 then (some ((), M)) else (hp_b (F_J5_newCapacity_0f7a4 a0 M) (fun r1 M1 => (if hp_okB (r1 <<< ((M1 14 0 1) &&& 31)) M1 then (some ((), hp_sr M1 14 1 (hp_grow (r1 <<< ((M1 14 0 1) &&& 31)) (M1 14 1)))) else none)))))
set_option maxRecDepth 20000 in
set_option maxHeartbeats 4000000 in
theorem c_J5_ensureCapacityInternal_d00df (l : Launch) (a0 : Int32) (M : hp_M) : hp_CtG l yJ5_ensureCapacityInternal_d00df cJ5_ensureCapacityInternal_d00df 3 none 3 1 hp_IJ (fun adr adV => [.ref (adr 14 0), .int a0]) hp_oo M (F_J5_ensureCapacityInternal_d00df a0 M) := by
  refine hp_startG "java/lang/AbstractStringBuilder" (fun adr adV => [(0, .ref (adr 14 0)), (1, .int a0)]) (by decide) rfl (fun _ _ => by simp only [lg_sl]; exact Nat.le_of_ble_eq_true rfl) (fun _ _ => rfl) ?_
  intro p e s m args below meth c A D ids adr adV cA G0 hI hC hr
  unfold F_J5_ensureCapacityInternal_d00df
  refine hz_aload_n (a := 0) (n := 1) hC dJ5_ensureCapacityInternal_d00df_0 rfl rfl rfl ?_
  refine fg_J5_15 (n := 4) hC hI.1 dJ5_ensureCapacityInternal_d00df_1 rfl ?_
  refine hz_alenB (n := 5) hC dJ5_ensureCapacityInternal_d00df_4 hI.2.1 rfl (fun _ => ?_)
  refine hz_aload_n (a := 0) (n := 6) hC dJ5_ensureCapacityInternal_d00df_5 rfl rfl rfl ?_
  refine fg_J5_22 (n := 9) hC hI.1 dJ5_ensureCapacityInternal_d00df_6 rfl ?_
  refine hz_ishr (n := 10) hC dJ5_ensureCapacityInternal_d00df_9 rfl ?_
  refine hz_istore_n (L' := [(2, .int ((M 14 1 5000) >>> ((M 14 0 1) &&& 31))), (0, .ref (adr 14 0)), (1, .int a0)]) (n := 11) hC dJ5_ensureCapacityInternal_d00df_10 rfl (by decide) rfl rfl ?_
  refine hz_iload_n (a := 2) (n := 12) hC dJ5_ensureCapacityInternal_d00df_11 rfl rfl rfl ?_
  refine hz_iload_n (a := 0) (n := 13) hC dJ5_ensureCapacityInternal_d00df_12 rfl rfl rfl ?_
  refine hz_isub (n := 14) hC dJ5_ensureCapacityInternal_d00df_13 rfl ?_
  refine hz_if_le (tgt := 38) (n := 17) hC dJ5_ensureCapacityInternal_d00df_14 (by decide) rfl (fun _ => ?_) (fun _ => ?_)
  · exact hz_vretG hC hp_sim.rf hr dJ5_ensureCapacityInternal_d00df_38 ⟨Nat.le_of_ble_eq_true rfl, Nat.le_of_ble_eq_true rfl⟩
  refine hz_aload_n (a := 1) (n := 18) hC dJ5_ensureCapacityInternal_d00df_17 rfl rfl rfl ?_
  refine hz_aload_n (a := 1) (n := 19) hC dJ5_ensureCapacityInternal_d00df_18 rfl rfl rfl ?_
  refine fg_J5_15 (n := 22) hC hI.1 dJ5_ensureCapacityInternal_d00df_19 rfl ?_
  refine hz_aload_n (a := 1) (n := 23) hC dJ5_ensureCapacityInternal_d00df_22 rfl rfl rfl ?_
  refine hz_iload_n (a := 2) (n := 24) hC dJ5_ensureCapacityInternal_d00df_23 rfl rfl rfl ?_
  refine hz_callVU (k := 1) (As := [.int a0]) (st := [.ref (adr 14 1), .ref (adr 14 0)]) (S1 := fun r => [.int r, .ref (adr 14 1), .ref (adr 14 0)]) (n := 27) hC (c_J5_newCapacity_0f7a4 l a0 M) ku_J5_newCapacity_0f7a4 wd_3_185 (hp_selA hC.2.2.2.2.1 rfl hp_prv_newCapacity ku_J5_newCapacity_0f7a4.2.1 args) hI dJ5_ensureCapacityInternal_d00df_24 rfl hI.1 rfl rfl (Nat.le_of_ble_eq_true rfl) ⟨Nat.le_of_ble_eq_true rfl, Nat.le_of_ble_eq_true rfl⟩ ⟨Nat.zero_le _, Nat.zero_le _⟩ (fun _ => rfl) rfl (fun r1 M1 _ => ?_)
  refine hz_aload_n (a := 1) (n := 28) hC dJ5_ensureCapacityInternal_d00df_27 rfl rfl rfl ?_
  refine fg_J5_22 (n := 31) hC hI.1 dJ5_ensureCapacityInternal_d00df_28 rfl ?_
  refine hz_ishl (n := 32) hC dJ5_ensureCapacityInternal_d00df_31 rfl ?_
  refine hz_case (fun hok => ?_) (fun _ => hz_none hC)
  generalize r1 <<< ((M1 14 0 1) &&& 31) = nl at hok ⊢
  intro H locs ls hG hW hS hL
  have hT := hC.2.2.2.2.1
  obtain ⟨tl, hsb, hP, hD⟩ := id hW
  obtain rfl : tl = [] := hsb
  rw [List.append_nil] at hP hD
  obtain ⟨u0, b0, -, -, -, -, hK, -⟩ := id hT
  have hrun := va_runS (R := hp_rmG 3 1) (As := [.ref (adr 14 1), .int nl]) (rest := [.ref (adr 14 0)]) (H := H) (locs := locs) (cells := 0) (slots := 0) (g := F0 m 32 ls [.int nl, .ref (adr 14 1), .ref (adr 14 0)]) (p := p) (e := e) (below := below) (meth := meth) ⟨hC.1, hC.2.1, hC.2.2.1, hC.2.2.2.1, fun w h => absurd h List.not_mem_nil⟩ (Ts := []) (c_copyOf l nl M1 A D ids adr adV cA hI hok) (index := 108) (bytes := cJ7_copyOf_9075b) (maxL := 3) (ret := some (.array .byte)) (n := 2)
    ⟨⟨rfl, rfl, Nat.le_of_ble_eq_true rfl, Nat.le_of_ble_eq_true rfl, hp_codeIn hT ks_J7_copyOf_9075b.2.2.1, List.mem_cons_self, hp_wd hT ks_J7_copyOf_9075b.2.2.1 args, hp_wd hT ks_J7_copyOf_9075b.2.1 args, ⟨by decide, by decide⟩, fun sig h => by have h2 := ks_J7_copyOf_9075b.2.2.2.1.2.2; rw [h] at h2; exact (Option.some.inj h2).symm, hp_wd hT wd_3_200 args⟩, hp_wd hT ks_J7_copyOf_9075b.1 args⟩
    ⟨hp_blind, hp_pre hC hS hW rfl⟩ rfl rfl hL.1 rfl (lv_room (Nat.le_of_ble_eq_true rfl)) dJ5_ensureCapacityInternal_d00df_32 ⟨Nat.le_of_ble_eq_true rfl, Nat.le_of_ble_eq_true rfl⟩
  intro T hT9 X
  obtain ⟨v, st₀, t, T', L, h0, X', hL1, e1, e2, ⟨⟨q, hv, hP1, hD1⟩, hz, hk⟩, st⟩ := hrun T hT9 X
  cases hv
  rw [h0] at hz hk
  rw [← e1] at hP1 hz hk
  have hS1 : va_S A s.heap T'.heap (locs ++ L) := ⟨Nat.le_trans hS.1 hz, fun q h1 h2 => by rw [hk q (Nat.lt_of_lt_of_le h1 hS.1) h2]; exact hS.2.1 q h1 h2, fun q hq => by
      rcases List.mem_append.mp hq with h | h
      · exact hS.2.2 q h
      · exact hL1 q h⟩
  obtain ⟨q0, hq0⟩ := List.getElem?_of_mem hI.1
  have hw0 := hp_wl_get (adr := adr) (adV := adV) (cA := cA) (M := M1) hq0
  rw [he_J4] at hw0
  have hq0l : q0 < (hp_wl ids adr adV cA M1).length := (List.getElem?_eq_some_iff.mp hw0).1
  have hw1 : (hp_wl ids adr adV cA M1 ++ [(q, (.inl (cA 2, nl.toNatClampNeg, .inl (hp_grow nl (M1 14 1))) : va_E))])[q0]? = some (adr 14 0, .inr (1, hp_FB adr (M1 14 0))) := by
    rw [List.getElem?_append_left hq0l]
    exact hw0
  have hn5 : hp_grow nl (M1 14 1) 5000 = nl := by unfold hp_grow; rw [if_pos rfl]
  have hgo : W p l e (hp_rmG 3 1) s m args below meth c T'.heap (locs ++ L) (0 + 1) (0 + 200) (MQ below (hp_QG A D ids adr adV cA hp_oo G0) args s 1 (200 * 1) A) (F0 m 35 ls [.ref q, .ref (adr 14 0)]) := by
    refine va_put hC.1 hC.2.1 (Ts := u_ws RJ4 TJ4 4) (hp_lays hT in_J4 args) (fun _ h => h) tyJ4 tyJ4_ok nmJ4 hC.2.2.2.1 hK hP1 hD1 hS1 q0 hw1 (show vwCl[1]? = some (RJ4, TJ4, 4) from rfl) 0 (by decide) (hp_wd hT wd_1_223 args) (fun _ h => h) rfl (tyJ4_ok 0 (by decide)) rfl rfl (Nat.le_of_ble_eq_true rfl) dJ5_ensureCapacityInternal_d00df_35 (fun H2 locs2 hP2 hD2 hS2 => ?_)
    have hP3 : va_P D vwCl ((hp_wl ids adr adV cA M1 ++ ([(q, .inl (cA 2, (hp_grow nl (M1 14 1) 5000).toNatClampNeg, .inl (hp_grow nl (M1 14 1))))] : va_W)).set q0 (adr 14 0, .inr (1, [.ref q, .int (M1 14 0 1), .int (M1 14 0 2), .int (M1 14 0 3)]))) H2 := by rw [hn5]; exact hP2
    have hD3 : va_D A ((hp_wl ids adr adV cA M1 ++ ([(q, .inl (cA 2, (hp_grow nl (M1 14 1) 5000).toNatClampNeg, .inl (hp_grow nl (M1 14 1))))] : va_W)).set q0 (adr 14 0, .inr (1, [.ref q, .int (M1 14 0 1), .int (M1 14 0 2), .int (M1 14 0 3)]))) := by rw [hn5]; exact hD2
    have hW2 := hp_regrow hI.2.2 hD hq0 hP3 hD3
    have hsim : hp_sim adr (fun g j => if g = 14 ∧ j = 1 then q else adr g j) := fun g j n => if_neg n
    exact hz_vretG (cells := 0 + 1) (slots := 0 + 200) (K0 := 1) (S0 := 200 * 1) (L := []) hC hsim hr dJ5_ensureCapacityInternal_d00df_38 ⟨Nat.le_of_ble_eq_true rfl, Nat.le_of_ble_eq_true rfl⟩ H2 locs2 ls hG hW2 hS2 (lv_sub hL [] rfl)
  obtain ⟨t2, a1, b1⟩ := hgo T' rfl X'
  exact ⟨t2, st t2 a1, b1⟩
def F_J5_setLength_d00df (a0 : Int32) (M : hp_M) : Option (Unit × hp_M) := (if 0 ≤ a0 then (hp_b (F_J5_ensureCapacityInternal_d00df a0 M) (fun _ M1 => (if a0 ≤ (M1 14 0 3) then (if (M1 14 0 3) ≤ a0 then (some ((), (hp_p M1 14 0 3 a0))) else (some ((), (hp_p (hp_p M1 14 0 2 (1 : Int32)) 14 0 3 a0)))) else none))) else none)
set_option maxRecDepth 20000 in
set_option maxHeartbeats 4000000 in
theorem c_J5_setLength_d00df (l : Launch) (a0 : Int32)  (M : hp_M) : hp_CtG l yJ5_setLength_d00df cJ5_setLength_d00df 2 none 4 1 hp_IJ (fun adr adV => [.ref (adr 14 0), .int a0]) hp_oo M (F_J5_setLength_d00df a0 M) := by
  refine hp_startG "java/lang/AbstractStringBuilder" (fun adr adV => [(0, .ref (adr 14 0)), (1, .int a0)]) (by decide) rfl (fun _ _ => by simp only [lg_sl]; exact Nat.le_of_ble_eq_true rfl) (fun _ _ => rfl) ?_
  intro p e s m args below meth c A D ids adr adV cA G0 hI hC hr
  unfold F_J5_setLength_d00df
  refine hz_iload_n (a := 1) (n := 1) hC dJ5_setLength_d00df_0 rfl rfl rfl ?_
  refine hz_if_ge (tgt := 13) (n := 4) hC dJ5_setLength_d00df_1 (by decide) rfl (fun _ => ?_) (fun _ => ?_)
  · refine hz_aload_n (a := 0) (n := 14) hC dJ5_setLength_d00df_13 rfl rfl rfl ?_
    refine hz_iload_n (a := 1) (n := 15) hC dJ5_setLength_d00df_14 rfl rfl rfl ?_
    refine hz_callVUG (k := 1) (As := [.int a0]) (st := []) (S1 := fun adr1 _ => []) (LF := fun adr1 => [(0, .ref (adr1 14 0)), (1, .int a0)]) (n := 18) hC (c_J5_ensureCapacityInternal_d00df l a0   M) ku_J5_ensureCapacityInternal_d00df wd_3_181 (hp_selA hC.2.2.2.2.1 rfl hp_prv_ensureCapacityInternal ku_J5_ensureCapacityInternal_d00df.2.1 args) hI dJ5_setLength_d00df_15 rfl hI.1 rfl rfl (Nat.le_of_ble_eq_true rfl) ⟨Nat.le_of_ble_eq_true rfl, Nat.le_of_ble_eq_true rfl⟩ ⟨Nat.le_of_ble_eq_true rfl, Nat.le_of_ble_eq_true rfl⟩ (fun a h => by first | rfl | simp only [h 12 0 (by decide), h 14 0 (by decide)] | simp only [h 12 0 (by decide)] | simp only [h 14 0 (by decide)]) (fun a r h => by first | rfl | simp only [h 12 0 (by decide), h 14 0 (by decide)] | simp only [h 12 0 (by decide)] | simp only [h 14 0 (by decide)]) rfl (fun r1 M1 adr1 _ hs1 => ?_)
    refine hz_aload_n (a := 0) (n := 19) hC dJ5_setLength_d00df_18 rfl rfl rfl ?_
    refine fg_J5_79 (n := 22) hC hI.1 dJ5_setLength_d00df_19 rfl ?_
    refine hz_iload_n (a := 1) (n := 23) hC dJ5_setLength_d00df_22 rfl rfl rfl ?_
    refine hz_icmp_ge (tgt := 63) (n := 26) hC dJ5_setLength_d00df_23 (by decide) rfl (fun _ => ?_) (fun _ => ?_)
    · refine hz_aload_n (a := 0) (n := 64) hC dJ5_setLength_d00df_63 rfl rfl rfl ?_
      refine fg_J5_79 (n := 67) hC hI.1 dJ5_setLength_d00df_64 rfl ?_
      refine hz_iload_n (a := 1) (n := 68) hC dJ5_setLength_d00df_67 rfl rfl rfl ?_
      refine hz_icmp_le (tgt := 76) (n := 71) hC dJ5_setLength_d00df_68 (by decide) rfl (fun _ => ?_) (fun _ => ?_)
      · refine hz_aload_n (a := 0) (n := 77) hC dJ5_setLength_d00df_76 rfl rfl rfl ?_
        refine hz_iload_n (a := 1) (n := 78) hC dJ5_setLength_d00df_77 rfl rfl rfl ?_
        refine fp_J5_79 (n := 81) hC hI.1 a0 dJ5_setLength_d00df_78 rfl ?_
        exact hz_vretG hC (hp_sim.tr hp_sim.rf hs1) hr dJ5_setLength_d00df_81 ⟨Nat.le_of_ble_eq_true rfl, Nat.le_of_ble_eq_true rfl⟩
      · refine hz_aload_n (a := 0) (n := 72) hC dJ5_setLength_d00df_71 rfl rfl rfl ?_
        refine hz_iconst (v := (1 : Int32)) (n := 73) hC dJ5_setLength_d00df_72 (by decide +kernel) rfl ?_
        refine fp_J5_73 (n := 76) hC hI.1 (1 : Int32) (by decide) dJ5_setLength_d00df_73 rfl ?_
        refine hz_aload_n (a := 0) (n := 77) hC dJ5_setLength_d00df_76 rfl rfl rfl ?_
        refine hz_iload_n (a := 1) (n := 78) hC dJ5_setLength_d00df_77 rfl rfl rfl ?_
        refine fp_J5_79 (n := 81) hC hI.1 a0 dJ5_setLength_d00df_78 rfl ?_
        exact hz_vretG hC (hp_sim.tr hp_sim.rf hs1) hr dJ5_setLength_d00df_81 ⟨Nat.le_of_ble_eq_true rfl, Nat.le_of_ble_eq_true rfl⟩
    · exact hz_none hC
  · exact hz_none hC
def F_J5_append_3fe6f (a0 : Int32) (M : hp_M) : Option (Unit × hp_M) := (hp_b (F_J5_ensureCapacityInternal_d00df ((M 14 0 3) + (1 : Int32)) M) (fun _ M1 => (hp_b (F_J5_isLatin1_aae02 M1) (fun r2 M2 => (if r2 = 0 then none else (hp_b (F_J1_canEncode_fc78d a0 M2) (fun r3 M3 => (if r3 = 0 then none else (if (M3 14 0 3) < 0 ∨ ((hp_p M3 14 0 3 ((M3 14 0 3) + (1 : Int32))) 14 1 5000).toNatClampNeg ≤ ((M3 14 0 3)).toNatClampNeg ∨ 5000 ≤ ((M3 14 0 3)).toNatClampNeg then none else (some ((), (hp_p (hp_p M3 14 0 3 ((M3 14 0 3) + (1 : Int32))) 14 1 ((M3 14 0 3)).toNatClampNeg (vp_nar .byte ((a0).toInt8.toInt32))))))))))))))
set_option maxRecDepth 20000 in
set_option maxHeartbeats 4000000 in
theorem c_J5_append_3fe6f (l : Launch) (a0 : Int32)  (M : hp_M) : hp_CtG l yJ5_append_3fe6f cJ5_append_3fe6f 2 (some (.object "java/lang/AbstractStringBuilder")) 4 1 hp_IJ (fun adr adV => [.ref (adr 14 0), .int a0]) hp_ob M (F_J5_append_3fe6f a0 M) := by
  refine hp_startG "java/lang/AbstractStringBuilder" (fun adr adV => [(0, .ref (adr 14 0)), (1, .int a0)]) (by decide) rfl (fun _ _ => by simp only [lg_sl]; exact Nat.le_of_ble_eq_true rfl) (fun _ _ => rfl) ?_
  intro p e s m args below meth c A D ids adr adV cA G0 hI hC hr
  unfold F_J5_append_3fe6f
  refine hz_aload_n (a := 0) (n := 1) hC dJ5_append_3fe6f_0 rfl rfl rfl ?_
  refine hz_aload_n (a := 0) (n := 2) hC dJ5_append_3fe6f_1 rfl rfl rfl ?_
  refine fg_J5_79 (n := 5) hC hI.1 dJ5_append_3fe6f_2 rfl ?_
  refine hz_iconst (v := (1 : Int32)) (n := 6) hC dJ5_append_3fe6f_5 (by decide +kernel) rfl ?_
  refine hz_iadd (n := 7) hC dJ5_append_3fe6f_6 rfl ?_
  refine hz_callVUG (k := 1) (As := [.int ((M 14 0 3) + (1 : Int32))]) (st := []) (S1 := fun adr1 _ => []) (LF := fun adr1 => [(0, .ref (adr1 14 0)), (1, .int a0)]) (n := 10) hC (c_J5_ensureCapacityInternal_d00df l ((M 14 0 3) + (1 : Int32))   M) ku_J5_ensureCapacityInternal_d00df wd_3_181 (hp_selA hC.2.2.2.2.1 rfl hp_prv_ensureCapacityInternal ku_J5_ensureCapacityInternal_d00df.2.1 args) hI dJ5_append_3fe6f_7 rfl hI.1 rfl rfl (Nat.le_of_ble_eq_true rfl) ⟨Nat.le_of_ble_eq_true rfl, Nat.le_of_ble_eq_true rfl⟩ ⟨Nat.le_of_ble_eq_true rfl, Nat.le_of_ble_eq_true rfl⟩ (fun a h => by first | rfl | simp only [h 12 0 (by decide), h 14 0 (by decide)] | simp only [h 12 0 (by decide)] | simp only [h 14 0 (by decide)]) (fun a r h => by first | rfl | simp only [h 12 0 (by decide), h 14 0 (by decide)] | simp only [h 12 0 (by decide)] | simp only [h 14 0 (by decide)]) rfl (fun r1 M1 adr1 _ hs1 => ?_)
  refine hz_aload_n (a := 0) (n := 11) hC dJ5_append_3fe6f_10 rfl rfl rfl ?_
  refine hz_callVU (k := 0) (As := []) (st := []) (S1 := fun r2 => .int r2 :: []) (n := 14) hC (c_J5_isLatin1_aae02 l    M1) ku_J5_isLatin1_aae02 wd_3_212 (hp_wd hC.2.2.2.2.1 hp_selb args) hI dJ5_append_3fe6f_11 rfl hI.1 rfl rfl (Nat.le_of_ble_eq_true rfl) ⟨Nat.le_of_ble_eq_true rfl, Nat.le_of_ble_eq_true rfl⟩ ⟨Nat.le_of_ble_eq_true rfl, Nat.le_of_ble_eq_true rfl⟩ (fun _ => rfl) rfl (fun r2 M2 _ => ?_)
  refine hz_if_eq (tgt := 45) (n := 17) hC dJ5_append_3fe6f_14 (by decide) rfl (fun _ => ?_) (fun _ => ?_)
  · exact hz_none hC
  · refine hz_iload_n (a := 1) (n := 18) hC dJ5_append_3fe6f_17 rfl rfl rfl ?_
    refine hz_callS (k := 1) (As := [.int a0]) (st := []) (S1 := fun r => .int r :: []) (n := 21) hC (c_J1_canEncode_fc78d l a0   M2) ks_J1_canEncode_fc78d wd_5_0 trivial dJ5_append_3fe6f_18 rfl rfl rfl (Nat.le_of_ble_eq_true rfl) ⟨Nat.le_of_ble_eq_true rfl, Nat.le_of_ble_eq_true rfl⟩ ⟨Nat.le_of_ble_eq_true rfl, Nat.le_of_ble_eq_true rfl⟩ (fun _ => rfl) rfl (fun r3 M3 _ => ?_)
    refine hz_if_eq (tgt := 45) (n := 24) hC dJ5_append_3fe6f_21 (by decide) rfl (fun _ => ?_) (fun _ => ?_)
    · exact hz_none hC
    · refine hz_aload_n (a := 0) (n := 25) hC dJ5_append_3fe6f_24 rfl rfl rfl ?_
      refine fg_J5_15 (n := 28) hC hI.1 dJ5_append_3fe6f_25 rfl ?_
      refine hz_aload_n (a := 0) (n := 29) hC dJ5_append_3fe6f_28 rfl rfl rfl ?_
      refine hz_dup (n := 30) hC dJ5_append_3fe6f_29 rfl rfl ?_
      refine fg_J5_79 (n := 33) hC hI.1 dJ5_append_3fe6f_30 rfl ?_
      refine hz_dup_x1 (n := 34) hC dJ5_append_3fe6f_33 rfl rfl rfl ?_
      refine hz_iconst (v := (1 : Int32)) (n := 35) hC dJ5_append_3fe6f_34 (by decide +kernel) rfl ?_
      refine hz_iadd (n := 36) hC dJ5_append_3fe6f_35 rfl ?_
      refine fp_J5_79 (n := 39) hC hI.1 ((M3 14 0 3) + (1 : Int32)) dJ5_append_3fe6f_36 rfl ?_
      refine hz_iload_n (a := 1) (n := 40) hC dJ5_append_3fe6f_39 rfl rfl rfl ?_
      refine hz_i2b (n := 41) hC dJ5_append_3fe6f_40 rfl ?_
      refine hz_bastB (n := 42) hC dJ5_append_3fe6f_41 hI.2.1 rfl ?_
      refine hz_goto (n := 75) hC dJ5_append_3fe6f_42 (by decide) ?_
      refine hz_aload_n (a := 0) (n := 76) hC dJ5_append_3fe6f_75 rfl rfl rfl ?_
      exact hz_bretG hC (hp_sim.tr hp_sim.rf hs1) hr (Or.inl ⟨_, rfl⟩) dJ5_append_3fe6f_76 ⟨Nat.le_of_ble_eq_true rfl, Nat.le_of_ble_eq_true rfl⟩
def F_J5_append_c97b9 (a0 : Int32) (M : hp_M) : Option (Unit × hp_M) := (hp_b (F_J6_stringSize_0f7a4 a0 M) (fun r1 M1 => (hp_b (F_J5_ensureCapacityInternal_d00df ((M 14 0 3) + r1) M1) (fun _ M2 => (hp_b (F_J5_isLatin1_aae02 M2) (fun r3 M3 => (if r3 = 0 then none else (hp_b (F_J6_getChars_ba4f3 a0 ((M 14 0 3) + r1) M3) (fun r4 M4 => (some ((), (hp_p M4 14 0 3 ((M 14 0 3) + r1)))))))))))))
set_option maxRecDepth 20000 in
set_option maxHeartbeats 4000000 in
theorem c_J5_append_c97b9 (l : Launch) (a0 : Int32)  (M : hp_M) : hp_CtG l yJ5_append_c97b9 cJ5_append_c97b9 4 (some (.object "java/lang/AbstractStringBuilder")) 4 1 hp_IJ (fun adr adV => [.ref (adr 14 0), .int a0]) hp_ob M (F_J5_append_c97b9 a0 M) := by
  refine hp_startG "java/lang/AbstractStringBuilder" (fun adr adV => [(0, .ref (adr 14 0)), (1, .int a0)]) (by decide) rfl (fun _ _ => by simp only [lg_sl]; exact Nat.le_of_ble_eq_true rfl) (fun _ _ => rfl) ?_
  intro p e s m args below meth c A D ids adr adV cA G0 hI hC hr
  unfold F_J5_append_c97b9
  refine hz_aload_n (a := 0) (n := 1) hC dJ5_append_c97b9_0 rfl rfl rfl ?_
  refine fg_J5_79 (n := 4) hC hI.1 dJ5_append_c97b9_1 rfl ?_
  refine hz_istore_n (L' := [(2, .int (M 14 0 3)), (0, .ref (adr 14 0)), (1, .int a0)]) (n := 5) hC dJ5_append_c97b9_4 rfl (by decide) rfl rfl ?_
  refine hz_iload_n (a := 0) (n := 6) hC dJ5_append_c97b9_5 rfl rfl rfl ?_
  refine hz_iload_n (a := 2) (n := 7) hC dJ5_append_c97b9_6 rfl rfl rfl ?_
  refine hz_callS (k := 1) (As := [.int a0]) (st := [.int (M 14 0 3)]) (S1 := fun r => .int r :: [.int (M 14 0 3)]) (n := 10) hC (c_J6_stringSize_0f7a4 l a0   M) ks_J6_stringSize_0f7a4 wd_4_34 trivial dJ5_append_c97b9_7 rfl rfl rfl (Nat.le_of_ble_eq_true rfl) ⟨Nat.le_of_ble_eq_true rfl, Nat.le_of_ble_eq_true rfl⟩ ⟨Nat.le_of_ble_eq_true rfl, Nat.le_of_ble_eq_true rfl⟩ (fun _ => rfl) rfl (fun r1 M1 _ => ?_)
  refine hz_iadd (n := 11) hC dJ5_append_c97b9_10 rfl ?_
  refine hz_istore_n (L' := [(3, .int ((M 14 0 3) + r1)), (2, .int (M 14 0 3)), (0, .ref (adr 14 0)), (1, .int a0)]) (n := 12) hC dJ5_append_c97b9_11 rfl (by decide) rfl rfl ?_
  refine hz_aload_n (a := 2) (n := 13) hC dJ5_append_c97b9_12 rfl rfl rfl ?_
  refine hz_iload_n (a := 0) (n := 14) hC dJ5_append_c97b9_13 rfl rfl rfl ?_
  refine hz_callVUG (k := 1) (As := [.int ((M 14 0 3) + r1)]) (st := []) (S1 := fun adr2 _ => []) (LF := fun adr2 => [(3, .int ((M 14 0 3) + r1)), (2, .int (M 14 0 3)), (0, .ref (adr2 14 0)), (1, .int a0)]) (n := 17) hC (c_J5_ensureCapacityInternal_d00df l ((M 14 0 3) + r1)   M1) ku_J5_ensureCapacityInternal_d00df wd_3_181 (hp_selA hC.2.2.2.2.1 rfl hp_prv_ensureCapacityInternal ku_J5_ensureCapacityInternal_d00df.2.1 args) hI dJ5_append_c97b9_14 rfl hI.1 rfl rfl (Nat.le_of_ble_eq_true rfl) ⟨Nat.le_of_ble_eq_true rfl, Nat.le_of_ble_eq_true rfl⟩ ⟨Nat.le_of_ble_eq_true rfl, Nat.le_of_ble_eq_true rfl⟩ (fun a h => by first | rfl | simp only [h 12 0 (by decide), h 14 0 (by decide)] | simp only [h 12 0 (by decide)] | simp only [h 14 0 (by decide)]) (fun a r h => by first | rfl | simp only [h 12 0 (by decide), h 14 0 (by decide)] | simp only [h 12 0 (by decide)] | simp only [h 14 0 (by decide)]) rfl (fun r2 M2 adr2 _ hs2 => ?_)
  refine hz_aload_n (a := 2) (n := 18) hC dJ5_append_c97b9_17 rfl rfl rfl ?_
  refine hz_callVU (k := 0) (As := []) (st := []) (S1 := fun r3 => .int r3 :: []) (n := 21) hC (c_J5_isLatin1_aae02 l    M2) ku_J5_isLatin1_aae02 wd_3_212 (hp_wd hC.2.2.2.2.1 hp_selb args) hI dJ5_append_c97b9_18 rfl hI.1 rfl rfl (Nat.le_of_ble_eq_true rfl) ⟨Nat.le_of_ble_eq_true rfl, Nat.le_of_ble_eq_true rfl⟩ ⟨Nat.le_of_ble_eq_true rfl, Nat.le_of_ble_eq_true rfl⟩ (fun _ => rfl) rfl (fun r3 M3 _ => ?_)
  refine hz_if_eq (tgt := 37) (n := 24) hC dJ5_append_c97b9_21 (by decide) rfl (fun _ => ?_) (fun _ => ?_)
  · exact hz_none hC
  · refine hz_iload_n (a := 3) (n := 25) hC dJ5_append_c97b9_24 rfl rfl rfl ?_
    refine hz_iload_n (a := 0) (n := 26) hC dJ5_append_c97b9_25 rfl rfl rfl ?_
    refine hz_aload_n (a := 2) (n := 27) hC dJ5_append_c97b9_26 rfl rfl rfl ?_
    refine fg_J5_15 (n := 30) hC hI.1 dJ5_append_c97b9_27 rfl ?_
    refine hz_callS (k := 3) (As := [.int a0, .int ((M 14 0 3) + r1), .ref (adr2 14 1)]) (st := []) (S1 := fun r => .int r :: []) (n := 33) hC (c_J6_getChars_ba4f3 l a0 ((M 14 0 3) + r1)   M3) ks_J6_getChars_ba4f3 wd_4_37 hI dJ5_append_c97b9_30 rfl rfl rfl (Nat.le_of_ble_eq_true rfl) ⟨Nat.le_of_ble_eq_true rfl, Nat.le_of_ble_eq_true rfl⟩ ⟨Nat.le_of_ble_eq_true rfl, Nat.le_of_ble_eq_true rfl⟩ (fun _ => rfl) rfl (fun r4 M4 _ => ?_)
    refine hz_pop (n := 34) hC dJ5_append_c97b9_33 rfl rfl ?_
    refine hz_goto (n := 48) hC dJ5_append_c97b9_34 (by decide) ?_
    refine hz_aload_n (a := 2) (n := 49) hC dJ5_append_c97b9_48 rfl rfl rfl ?_
    refine hz_iload_n (a := 0) (n := 50) hC dJ5_append_c97b9_49 rfl rfl rfl ?_
    refine fp_J5_79 (n := 53) hC hI.1 ((M 14 0 3) + r1) dJ5_append_c97b9_50 rfl ?_
    refine hz_aload_n (a := 2) (n := 54) hC dJ5_append_c97b9_53 rfl rfl rfl ?_
    exact hz_bretG hC (hp_sim.tr hp_sim.rf hs2) hr (Or.inl ⟨_, rfl⟩) dJ5_append_c97b9_54 ⟨Nat.le_of_ble_eq_true rfl, Nat.le_of_ble_eq_true rfl⟩
def F_J4_append_cf468 (a0 : Int32) (M : hp_M) : Option (Unit × hp_M) := (hp_b (F_J5_append_3fe6f a0 M) (fun _ M1 => (some ((), M1))))
set_option maxRecDepth 20000 in
set_option maxHeartbeats 4000000 in
theorem c_J4_append_cf468 (l : Launch) (a0 : Int32)  (M : hp_M) : hp_CtG l yJ4_append_cf468 cJ4_append_cf468 2 (some (.object "java/lang/StringBuilder")) 5 1 hp_IJ (fun adr adV => [.ref (adr 14 0), .int a0]) hp_ob M (F_J4_append_cf468 a0 M) := by
  refine hp_startG "java/lang/StringBuilder" (fun adr adV => [(0, .ref (adr 14 0)), (1, .int a0)]) (by decide) rfl (fun _ _ => by simp only [lg_sl]; exact Nat.le_of_ble_eq_true rfl) (fun _ _ => rfl) ?_
  intro p e s m args below meth c A D ids adr adV cA G0 hI hC hr
  unfold F_J4_append_cf468
  refine hz_aload_n (a := 0) (n := 1) hC dJ4_append_cf468_0 rfl rfl rfl ?_
  refine hz_iload_n (a := 1) (n := 2) hC dJ4_append_cf468_1 rfl rfl rfl ?_
  refine hz_callSUG (k := 1) (As := [.int a0]) (st := []) (S1 := fun adr1 _ => .ref (adr1 14 0) :: []) (LF := fun adr1 => [(0, .ref (adr1 14 0)), (1, .int a0)]) (n := 5) hC rfl rfl (c_J5_append_3fe6f l a0   M) ku_J5_append_3fe6f wd_4_237 hI dJ4_append_cf468_2 rfl hI.1 rfl rfl (Nat.le_of_ble_eq_true rfl) ⟨Nat.le_of_ble_eq_true rfl, Nat.le_of_ble_eq_true rfl⟩ ⟨Nat.le_of_ble_eq_true rfl, Nat.le_of_ble_eq_true rfl⟩ (fun a h => by first | rfl | simp only [h 12 0 (by decide), h 14 0 (by decide)] | simp only [h 12 0 (by decide)] | simp only [h 14 0 (by decide)]) (fun a r h => by first | rfl | simp only [h 12 0 (by decide), h 14 0 (by decide)] | simp only [h 12 0 (by decide)] | simp only [h 14 0 (by decide)]) rfl (fun r1 M1 adr1 _ hs1 => ?_)
  refine hz_pop (n := 6) hC dJ4_append_cf468_5 rfl rfl ?_
  refine hz_aload_n (a := 0) (n := 7) hC dJ4_append_cf468_6 rfl rfl rfl ?_
  exact hz_bretG hC (hp_sim.tr hp_sim.rf hs1) hr (Or.inl ⟨_, rfl⟩) dJ4_append_cf468_7 ⟨Nat.le_of_ble_eq_true rfl, Nat.le_of_ble_eq_true rfl⟩
def F_J4_append_bf812 (a0 : Int32) (M : hp_M) : Option (Unit × hp_M) := (hp_b (F_J5_append_c97b9 a0 M) (fun _ M1 => (some ((), M1))))
set_option maxRecDepth 20000 in
set_option maxHeartbeats 4000000 in
theorem c_J4_append_bf812 (l : Launch) (a0 : Int32)  (M : hp_M) : hp_CtG l yJ4_append_bf812 cJ4_append_bf812 2 (some (.object "java/lang/StringBuilder")) 5 1 hp_IJ (fun adr adV => [.ref (adr 14 0), .int a0]) hp_ob M (F_J4_append_bf812 a0 M) := by
  refine hp_startG "java/lang/StringBuilder" (fun adr adV => [(0, .ref (adr 14 0)), (1, .int a0)]) (by decide) rfl (fun _ _ => by simp only [lg_sl]; exact Nat.le_of_ble_eq_true rfl) (fun _ _ => rfl) ?_
  intro p e s m args below meth c A D ids adr adV cA G0 hI hC hr
  unfold F_J4_append_bf812
  refine hz_aload_n (a := 0) (n := 1) hC dJ4_append_bf812_0 rfl rfl rfl ?_
  refine hz_iload_n (a := 1) (n := 2) hC dJ4_append_bf812_1 rfl rfl rfl ?_
  refine hz_callSUG (k := 1) (As := [.int a0]) (st := []) (S1 := fun adr1 _ => .ref (adr1 14 0) :: []) (LF := fun adr1 => [(0, .ref (adr1 14 0)), (1, .int a0)]) (n := 5) hC rfl rfl (c_J5_append_c97b9 l a0   M) ku_J5_append_c97b9 wd_4_31 hI dJ4_append_bf812_2 rfl hI.1 rfl rfl (Nat.le_of_ble_eq_true rfl) ⟨Nat.le_of_ble_eq_true rfl, Nat.le_of_ble_eq_true rfl⟩ ⟨Nat.le_of_ble_eq_true rfl, Nat.le_of_ble_eq_true rfl⟩ (fun a h => by first | rfl | simp only [h 12 0 (by decide), h 14 0 (by decide)] | simp only [h 12 0 (by decide)] | simp only [h 14 0 (by decide)]) (fun a r h => by first | rfl | simp only [h 12 0 (by decide), h 14 0 (by decide)] | simp only [h 12 0 (by decide)] | simp only [h 14 0 (by decide)]) rfl (fun r1 M1 adr1 _ hs1 => ?_)
  refine hz_pop (n := 6) hC dJ4_append_bf812_5 rfl rfl ?_
  refine hz_aload_n (a := 0) (n := 7) hC dJ4_append_bf812_6 rfl rfl rfl ?_
  exact hz_bretG hC (hp_sim.tr hp_sim.rf hs1) hr (Or.inl ⟨_, rfl⟩) dJ4_append_bf812_7 ⟨Nat.le_of_ble_eq_true rfl, Nat.le_of_ble_eq_true rfl⟩
def F_J4_setLength_d00df (a0 : Int32) (M : hp_M) : Option (Unit × hp_M) := (hp_b (F_J5_setLength_d00df a0 M) (fun _ M1 => (some ((), M1))))
set_option maxRecDepth 20000 in
set_option maxHeartbeats 4000000 in
theorem c_J4_setLength_d00df (l : Launch) (a0 : Int32)  (M : hp_M) : hp_CtG l yJ4_setLength_d00df cJ4_setLength_d00df 2 none 5 1 hp_IJ (fun adr adV => [.ref (adr 14 0), .int a0]) hp_oo M (F_J4_setLength_d00df a0 M) := by
  refine hp_startG "java/lang/StringBuilder" (fun adr adV => [(0, .ref (adr 14 0)), (1, .int a0)]) (by decide) rfl (fun _ _ => by simp only [lg_sl]; exact Nat.le_of_ble_eq_true rfl) (fun _ _ => rfl) ?_
  intro p e s m args below meth c A D ids adr adV cA G0 hI hC hr
  unfold F_J4_setLength_d00df
  refine hz_aload_n (a := 0) (n := 1) hC dJ4_setLength_d00df_0 rfl rfl rfl ?_
  refine hz_iload_n (a := 1) (n := 2) hC dJ4_setLength_d00df_1 rfl rfl rfl ?_
  refine hz_callSUG (k := 1) (As := [.int a0]) (st := []) (S1 := fun adr1 _ => []) (LF := fun adr1 => [(0, .ref (adr1 14 0)), (1, .int a0)]) (n := 5) hC rfl rfl (c_J5_setLength_d00df l a0   M) ku_J5_setLength_d00df wd_3_159 hI dJ4_setLength_d00df_2 rfl hI.1 rfl rfl (Nat.le_of_ble_eq_true rfl) ⟨Nat.le_of_ble_eq_true rfl, Nat.le_of_ble_eq_true rfl⟩ ⟨Nat.le_of_ble_eq_true rfl, Nat.le_of_ble_eq_true rfl⟩ (fun a h => by first | rfl | simp only [h 12 0 (by decide), h 14 0 (by decide)] | simp only [h 12 0 (by decide)] | simp only [h 14 0 (by decide)]) (fun a r h => by first | rfl | simp only [h 12 0 (by decide), h 14 0 (by decide)] | simp only [h 12 0 (by decide)] | simp only [h 14 0 (by decide)]) rfl (fun r1 M1 adr1 _ hs1 => ?_)
  exact hz_vretG hC (hp_sim.tr hp_sim.rf hs1) hr dJ4_setLength_d00df_5 ⟨Nat.le_of_ble_eq_true rfl, Nat.le_of_ble_eq_true rfl⟩
def F_J4_length_8abf5  (M : hp_M) : Option (Int32 × hp_M) := (hp_b (F_J5_length_8abf5 M) (fun r1 M1 => (some (r1, M1))))
set_option maxRecDepth 20000 in
set_option maxHeartbeats 4000000 in
theorem c_J4_length_8abf5 (l : Launch)   (M : hp_M) : hp_Ct l yJ4_length_8abf5 cJ4_length_8abf5 1 (some .int) 1 hp_IJ (fun adr adV => [.ref (adr 14 0)]) hp_oi M (F_J4_length_8abf5  M) := by
  refine hp_start "java/lang/StringBuilder" (fun adr adV => [(0, .ref (adr 14 0))]) (by decide) rfl (fun _ _ => by simp only [lg_sl]; exact Nat.le_of_ble_eq_true rfl) (fun _ _ => rfl) ?_
  intro p e s m args below meth c A D ids adr adV cA rep G0 hI hC hr
  unfold F_J4_length_8abf5
  refine hz_aload_n (a := 0) (n := 1) hC dJ4_length_8abf5_0 rfl rfl rfl ?_
  refine hz_callSU (k := 0) (As := []) (st := []) (S1 := fun r1 => .int r1 :: []) (n := 4) hC rfl rfl (c_J5_length_8abf5 l    M) ku_J5_length_8abf5 wd_4_76 hI dJ4_length_8abf5_1 rfl hI.1 rfl rfl (Nat.le_of_ble_eq_true rfl) ⟨Nat.le_of_ble_eq_true rfl, Nat.le_of_ble_eq_true rfl⟩ ⟨Nat.zero_le _, Nat.zero_le _⟩ (fun _ => rfl) rfl (fun r1 M1 _ => ?_)
  exact hz_iret hC hr dJ4_length_8abf5_4
def F_J4_charAt_5068e (a0 : Int32) (M : hp_M) : Option (Int32 × hp_M) := (hp_b (F_J5_charAt_5068e a0 M) (fun r1 M1 => (if vp_nar .char r1 = r1 then some (r1, M1) else none)))
set_option maxRecDepth 20000 in
set_option maxHeartbeats 4000000 in
theorem c_J4_charAt_5068e (l : Launch) (a0 : Int32)  (M : hp_M) : hp_Ct l yJ4_charAt_5068e cJ4_charAt_5068e 2 (some .char) 3 hp_IJ (fun adr adV => [.ref (adr 14 0), .int a0]) hp_oi M (F_J4_charAt_5068e a0 M) := by
  refine hp_start "java/lang/StringBuilder" (fun adr adV => [(0, .ref (adr 14 0)), (1, .int a0)]) (by decide) rfl (fun _ _ => by simp only [lg_sl]; exact Nat.le_of_ble_eq_true rfl) (fun _ _ => rfl) ?_
  intro p e s m args below meth c A D ids adr adV cA rep G0 hI hC hr
  unfold F_J4_charAt_5068e
  refine hz_aload_n (a := 0) (n := 1) hC dJ4_charAt_5068e_0 rfl rfl rfl ?_
  refine hz_iload_n (a := 1) (n := 2) hC dJ4_charAt_5068e_1 rfl rfl rfl ?_
  refine hz_callSU (k := 1) (As := [.int a0]) (st := []) (S1 := fun r1 => .int r1 :: []) (n := 5) hC rfl rfl (c_J5_charAt_5068e l a0   M) ku_J5_charAt_5068e wd_5_37 hI dJ4_charAt_5068e_2 rfl hI.1 rfl rfl (Nat.le_of_ble_eq_true rfl) ⟨Nat.le_of_ble_eq_true rfl, Nat.le_of_ble_eq_true rfl⟩ ⟨Nat.zero_le _, Nat.zero_le _⟩ (fun _ => rfl) rfl (fun r1 M1 _ => ?_)
  exact hz_cret hC hr dJ4_charAt_5068e_5
