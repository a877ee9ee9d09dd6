theorem hp_TZi {A : Nat → Prop} {D : va_G} {adV cA : Nat → Nat} {s : State} {H : Heap} {C n d : String} {z : Int32} (h : hp_Tab A D adV cA s H) (hl : Cond.laysStatic C n d ∈ lw_tbl) (hi : Cond.initialized C ∈ lw_tbl) (hv : hp_is (Cond.eq (.static C n d) (.int z))) : va_Z C n d (.int z) A s H := by
  obtain ⟨u0, b0, h1, h2, h3, h4, h5, h6⟩ := hp_prem h
  exact ((va_Zof (h1 _ hl) (h1 _ hi) (va_eqt (h2 _ hv)) h4).moved h3.alike).kept h5
theorem hp_TZq {A : Nat → Prop} {D : va_G} {adV cA : Nat → Nat} {s : State} {H : Heap} {C n d : String} (h : hp_Tab A D adV cA s H) (hl : Cond.laysStatic C n d ∈ lw_tbl) (hi : Cond.initialized C ∈ lw_tbl) (hv : hp_is (Cond.isRef (.static C n d))) : va_Zq C n d A s H := by
  obtain ⟨u0, b0, h1, h2, h3, h4, h5, h6⟩ := hp_prem h
  exact ((va_Zqof (h1 _ hl) (h1 _ hi) (h2 _ hv) h4).moved h3.alike).kept h5
def hp_I0 : List (Nat × Nat) → Prop := fun _ => True
theorem hp_vr_pos {adV : Nat → Nat} {x : Int32} (h : ¬ x < 0) : hp_vr adV x = .ref (adV x.toNatClampNeg) := if_neg h
theorem hp_vr_nI {adV : Nat → Nat} {n : Nat} (h : n < 12) : hp_vr adV (nI n) = .ref (adV n) := by
  rw [hp_vr_pos (nI_pos (by omega)), nI_clamp (by omega)]
abbrev hp_tb (t : Nat) : Prop := 20 ≤ t ∧ t < 41
theorem hp_vwB : ∀ n, n < 12 → hp_tb (hp_vwor.getD n 0) := by decide
theorem hp_vwE : ∀ n, n < 12 → 20 + (hp_vwor.getD n 0 - 20) = hp_vwor.getD n 0 := by decide
section HPY
variable {p : Program} {l : Launch} {e : Env} {R : Room} {s : State} {m : MethodId} {args : Array Value} {below : List Frame} {meth : Method} {c : Code} {cells slots : Nat} {Q : State → Prop}
variable {cc : ByteArray} {nL : Nat} {own : String} {A : Nat → Prop} {D : va_G} {ids : List (Nat × Nat)} {adr : Nat → Nat → Nat} {adV cA : Nat → Nat} {α ρ : Type} {G0 G : Option α} {M : hp_M} {rep : hp_T} {pc n : Nat} {L : List (Nat × Value)} {st : List Value} {H : Heap} {locs : List Loc}
theorem hp_vset_OF (h : hp_Tab A D adV cA s H) {v : Nat} (hv : v < 12) : va_OF "HallPhone$Verb" "setting" "I" (.int (hp_vset.getD v 0)) (adV v) A s H := hp_TOF h (hp_st_vn v hv) (hp_vset_p v hv)
theorem hp_vnam_OF (h : hp_Tab A D adV cA s H) {v : Nat} (hv : v < 12) : va_OF "HallPhone$Verb" "namesFlat" "Z" (.int (hp_vnam.getD v 0)) (adV v) A s H := hp_TOF h (hp_st_vn v hv) (hp_vnam_p v hv)
theorem hp_vlea_OF (h : hp_Tab A D adV cA s H) {v : Nat} (hv : v < 12) : va_OF "HallPhone$Verb" "least" "I" (.int (hp_vlea.getD v 0)) (adV v) A s H := hp_TOF h (hp_st_vn v hv) (hp_vlea_p v hv)
theorem hp_vgre_OF (h : hp_Tab A D adV cA s H) {v : Nat} (hv : v < 12) : va_OF "HallPhone$Verb" "greatest" "I" (.int (hp_vgre.getD v 0)) (adV v) A s H := hp_TOF h (hp_st_vn v hv) (hp_vgre_p v hv)
theorem hp_vord_OF (h : hp_Tab A D adV cA s H) {v : Nat} (hv : v < 12) : va_OF "java/lang/Enum" "ordinal" "I" (.int (nI v)) (adV v) A s H := hp_TOF h (hp_st_vn v hv) (hp_vord_p v hv)
theorem hp_vwor_OF (h : hp_Tab A D adV cA s H) {v : Nat} (hv : v < 12) : va_OF "HallPhone$Verb" "word" "Ljava/lang/String;" (.ref (adV (hp_vwor.getD v 0))) (adV v) A s H := by
  have hb := hp_vwB v hv
  have he := hp_vwE v hv
  have h2 := hp_st_s (hp_vwor.getD v 0 - 20) (by omega)
  rw [he] at h2
  exact hp_TOFr h (hp_st_vn v hv) h2 (hp_vwor_p v hv)
theorem hp_v_O (h : hp_Tab A D adV cA s H) {v : Nat} (hv : v < 12) : va_O "HallPhone$Verb" (adV v) A s H := hp_TO h (hp_st_vn v hv) (hp_vexa_p v hv)
theorem hp_s_O (h : hp_Tab A D adV cA s H) {t : Nat} (ht : hp_tb t) : va_O "java/lang/String" (adV t) A s H := by
  obtain ⟨j, rfl⟩ := Nat.exists_eq_add_of_le ht.1
  exact hp_TO h (hp_st_s j (by omega)) (hp_s_ex_p j (by omega))
theorem hp_s_V (h : hp_Tab A D adV cA s H) {t : Nat} (ht : hp_tb t) : va_OF "java/lang/String" "value" "[B" (.ref (adV (100 + t))) (adV t) A s H := by
  obtain ⟨j, rfl⟩ := Nat.exists_eq_add_of_le ht.1
  have h2 := hp_st_b j (by omega)
  rw [show 120 + j = 100 + (20 + j) by omega] at h2
  exact hp_TOFv h (hp_st_s j (by omega)) h2
theorem hp_s_C (h : hp_Tab A D adV cA s H) {t : Nat} (ht : hp_tb t) : va_OF "java/lang/String" "coder" "B" (.int 0) (adV t) A s H := by
  obtain ⟨j, rfl⟩ := Nat.exists_eq_add_of_le ht.1
  exact hp_TOF h (hp_st_s j (by omega)) (hp_s_co_p j (by omega))
theorem hp_s_B (h : hp_Tab A D adV cA s H) {t : Nat} (ht : hp_tb t) : va_T .byte (adV (100 + t)) (hp_tx t).length (fun i => .int ((hp_tx t).getD i 0)) A s H := by
  obtain ⟨j, rfl⟩ := Nat.exists_eq_add_of_le ht.1
  have h2 := hp_tx_T h (j := j) (by omega)
  rw [show 120 + j = 100 + (20 + j) by omega] at h2
  exact h2

theorem hz_gets (hC : hp_Cx p s m meth c cc nL own A D adV cA G0) {C nm d : String} {k idx : Nat} (hdg : decode cc pc = .ok (.getstatic idx, 3)) (hl : Cond.laysStatic C nm d ∈ lw_tbl) (hi : Cond.initialized C ∈ lw_tbl) (hk : (k, Term.static C nm d) ∈ hp_st) (hlink : hp_ok (.fieldLink own idx C nm d)) (hn : pc + 3 = n) (kk : hp_Z p l e R s m args below meth c nL A D ids adr adV cA cells slots Q G0 rep n L (.ref (adV k) :: st) M G) : hp_Z p l e R s m args below meth c nL A D ids adr adV cA cells slots Q G0 rep pc L st M G := by
  subst hn
  intro H locs ls hG hW hS hL
  exact va_gets hC.1 hC.2.1 (hp_TZ hC.2.2.2.2.1 hl hi hk) hS hC.2.2.2.1 (hp_wd hC.2.2.2.2.1 hlink args) (fun _ h => h) hdg (kk H locs ls hG hW hS hL)
theorem hz_getsN (hC : hp_Cx p s m meth c cc nL own A D adV cA G0) {C nm d host : String} {k idx : Nat} (hdg : decode cc pc = .ok (.getstatic idx, 3)) (hl : Cond.laysStatic C nm d ∈ lw_tbl) (hi : Cond.initialized C ∈ lw_tbl) (hk : (k, Term.static C nm d) ∈ hp_st) (hlink : Cond.fieldLinkNest own idx C nm d host ∈ lw_tbl) (hn : pc + 3 = n) (kk : hp_Z p l e R s m args below meth c nL A D ids adr adV cA cells slots Q G0 rep n L (.ref (adV k) :: st) M G) : hp_Z p l e R s m args below meth c nL A D ids adr adV cA cells slots Q G0 rep pc L st M G := by
  subst hn
  intro H locs ls hG hW hS hL
  exact va_getsN hC.1 hC.2.1 (hp_TZ hC.2.2.2.2.1 hl hi hk) hS hC.2.2.2.1 (hp_wdF hC.2.2.2.2.1 hlink args) (fun _ h => h) hdg (kk H locs ls hG hW hS hL)
theorem hz_getsi (hC : hp_Cx p s m meth c cc nL own A D adV cA G0) {C nm d : String} {z : Int32} {idx : Nat} (hdg : decode cc pc = .ok (.getstatic idx, 3)) (hl : Cond.laysStatic C nm d ∈ lw_tbl) (hi : Cond.initialized C ∈ lw_tbl) (hv : hp_is (Cond.eq (.static C nm d) (.int z))) (hlink : hp_ok (.fieldLink own idx C nm d)) (hn : pc + 3 = n) (kk : hp_Z p l e R s m args below meth c nL A D ids adr adV cA cells slots Q G0 rep n L (.int z :: st) M G) : hp_Z p l e R s m args below meth c nL A D ids adr adV cA cells slots Q G0 rep pc L st M G := by
  subst hn
  intro H locs ls hG hW hS hL
  exact va_gets hC.1 hC.2.1 (hp_TZi hC.2.2.2.2.1 hl hi hv) hS hC.2.2.2.1 (hp_wd hC.2.2.2.2.1 hlink args) (fun _ h => h) hdg (kk H locs ls hG hW hS hL)
theorem hz_getsq (hC : hp_Cx p s m meth c cc nL own A D adV cA G0) {C nm d : String} {idx : Nat} (hdg : decode cc pc = .ok (.getstatic idx, 3)) (hl : Cond.laysStatic C nm d ∈ lw_tbl) (hi : Cond.initialized C ∈ lw_tbl) (hv : hp_is (Cond.isRef (.static C nm d))) (hlink : hp_ok (.fieldLink own idx C nm d)) (hn : pc + 3 = n) (k1 : hp_Z p l e R s m args below meth c nL A D ids adr adV cA cells slots Q G0 rep n L (.null :: st) M G) (k2 : ∀ t : Nat, hp_Z p l e R s m args below meth c nL A D ids adr adV cA cells slots Q G0 rep n L (.ref t :: st) M G) : hp_Z p l e R s m args below meth c nL A D ids adr adV cA cells slots Q G0 rep pc L st M G := by
  subst hn
  intro H locs ls hG hW hS hL
  rcases hp_TZq hC.2.2.2.2.1 hl hi hv with h | ⟨t, h⟩
  · exact va_gets hC.1 hC.2.1 h hS hC.2.2.2.1 (hp_wd hC.2.2.2.2.1 hlink args) (fun _ h => h) hdg (k1 H locs ls hG hW hS hL)
  · exact va_gets hC.1 hC.2.1 h hS hC.2.2.2.1 (hp_wd hC.2.2.2.2.1 hlink args) (fun _ h => h) hdg (k2 t H locs ls hG hW hS hL)
theorem hz_tald (hC : hp_Cx p s m meth c cc nL own A D adV cA G0) {i : Int32} {k N : Nat} {f : Nat → Int32} {d : Decidable (i < 0 ∨ N ≤ i.toNatClampNeg)} (hT : va_T .int (adV k) N (fun j => .int (f j)) A s s.heap) (hdg : decode cc pc = .ok (.iaload, 1)) (hn : pc + 1 = n) (kk : ¬ (i < 0 ∨ N ≤ i.toNatClampNeg) → hp_Z p l e R s m args below meth c nL A D ids adr adV cA cells slots Q G0 rep n L (.int (f i.toNatClampNeg) :: st) M G) : hp_Z p l e R s m args below meth c nL A D ids adr adV cA cells slots Q G0 rep pc L (.int i :: .ref (adV k) :: st) M (@ite (Option α) (i < 0 ∨ N ≤ i.toNatClampNeg) d none G) := by
  subst hn
  exact hz_chk hC (fun h0 H locs ls hG hW hS hL => va_ti hC.1 hC.2.1 hT hS h0 rfl hdg (kk h0 H locs ls hG hW hS hL))
theorem hz_tbald (hC : hp_Cx p s m meth c cc nL own A D adV cA G0) {i : Int32} {k N : Nat} {f : Nat → Int32} {d : Decidable (i < 0 ∨ N ≤ i.toNatClampNeg)} (hT : va_T .byte (adV k) N (fun j => .int (f j)) A s s.heap) (hdg : decode cc pc = .ok (.baload, 1)) (hn : pc + 1 = n) (kk : ¬ (i < 0 ∨ N ≤ i.toNatClampNeg) → hp_Z p l e R s m args below meth c nL A D ids adr adV cA cells slots Q G0 rep n L (.int (f i.toNatClampNeg) :: st) M G) : hp_Z p l e R s m args below meth c nL A D ids adr adV cA cells slots Q G0 rep pc L (.int i :: .ref (adV k) :: st) M (@ite (Option α) (i < 0 ∨ N ≤ i.toNatClampNeg) d none G) := by
  subst hn
  exact hz_chk hC (fun h0 H locs ls hG hW hS hL => va_tb hC.1 hC.2.1 hT hS h0 rfl hdg (kk h0 H locs ls hG hW hS hL))
theorem hz_taald (hC : hp_Cx p s m meth c cc nL own A D adV cA G0) {i : Int32} {d : Decidable (i < 0 ∨ 12 ≤ i.toNatClampNeg)} (hdg : decode cc pc = .ok (.aaload, 1)) (hn : pc + 1 = n) (kk : i.toNatClampNeg < 12 → hp_Z p l e R s m args below meth c nL A D ids adr adV cA cells slots Q G0 rep n L (.ref (adV i.toNatClampNeg) :: st) M G) : hp_Z p l e R s m args below meth c nL A D ids adr adV cA cells slots Q G0 rep pc L (.int i :: .ref (adV 14) :: st) M (@ite (Option α) (i < 0 ∨ 12 ≤ i.toNatClampNeg) d none G) := by
  subst hn
  exact hz_chk hC (fun h0 H locs ls hG hW hS hL => vb_tq hC.1 hC.2.1 (hp_all_T hC.2.2.2.2.1) hS h0 rfl hdg (kk (Nat.not_le.mp fun q => h0 (Or.inr q)) H locs ls hG hW hS hL))
theorem hz_tlen (hC : hp_Cx p s m meth c cc nL own A D adV cA G0) {k N : Nat} {ty : FieldType} {f : Nat → Value} (hdg : decode cc pc = .ok (.arraylength, 1)) (hT : va_T ty (adV k) N f A s s.heap) (hn : pc + 1 = n) (kk : hp_Z p l e R s m args below meth c nL A D ids adr adV cA cells slots Q G0 rep n L (.int (nI N) :: st) M G) : hp_Z p l e R s m args below meth c nL A D ids adr adV cA cells slots Q G0 rep pc L (.ref (adV k) :: st) M G := by
  subst hn
  intro H locs ls hG hW hS hL
  exact va_tlen hC.1 hC.2.1 hT hS rfl hdg (kk H locs ls hG hW hS hL)
theorem hz_vget (hC : hp_Cx p s m meth c cc nL own A D adV cA G0) {ref nm d : String} {k idx : Nat} {v : Value} (hdg : decode cc pc = .ok (.getfield idx, 3)) (hE : va_OF ref nm d v (adV k) A s s.heap) (hlink : hp_ok (.fieldLink own idx ref nm d)) (hn : pc + 3 = n) (kk : hp_Z p l e R s m args below meth c nL A D ids adr adV cA cells slots Q G0 rep n L (v :: st) M G) : hp_Z p l e R s m args below meth c nL A D ids adr adV cA cells slots Q G0 rep pc L (.ref (adV k) :: st) M G := by
  subst hn
  intro H locs ls hG hW hS hL
  exact vk_getf hC.1 hC.2.1 hE hS hC.2.2.2.1 (hp_wd hC.2.2.2.2.1 hlink args) (fun _ h => h) hdg (kk H locs ls hG hW hS hL)
theorem hz_vgetN (hC : hp_Cx p s m meth c cc nL own A D adV cA G0) {ref nm d host : String} {k idx : Nat} {v : Value} (hdg : decode cc pc = .ok (.getfield idx, 3)) (hE : va_OF ref nm d v (adV k) A s s.heap) (hlink : Cond.fieldLinkNest own idx ref nm d host ∈ lw_tbl) (hn : pc + 3 = n) (kk : hp_Z p l e R s m args below meth c nL A D ids adr adV cA cells slots Q G0 rep n L (v :: st) M G) : hp_Z p l e R s m args below meth c nL A D ids adr adV cA cells slots Q G0 rep pc L (.ref (adV k) :: st) M G := by
  subst hn
  intro H locs ls hG hW hS hL
  obtain ⟨cf, k1, fi, f, cell, h1, h2, h3, h4, h5, h6⟩ := hE.kept hS.2.1
  exact va_Wgetf hC.1 hC.2.1 hC.2.2.2.1 (hp_wdF hC.2.2.2.2.1 hlink args) h1 h2 h3 h4 (v := v) h5 rfl rfl hdg (kk H locs ls hG hW hS hL)
theorem hz_ldcS (hC : hp_Cx p s m meth c cc nL own A D adV cA G0) {tx : String} {k idx : Nat} (hdg : decode cc pc = .ok (.ldc idx, 2)) (hw : Cond.stringRef own idx tx ∈ lw_tbl) (hk : (k, Term.string own idx) ∈ hp_st) (hn : pc + 2 = n) (kk : hp_Z p l e R s m args below meth c nL A D ids adr adV cA cells slots Q G0 rep n L (.ref (adV k) :: st) M G) : hp_Z p l e R s m args below meth c nL A D ids adr adV cA cells slots Q G0 rep pc L st M G := by
  subst hn
  intro H locs ls hG hW hS hL
  exact va_ldcS hC.1 hC.2.1 hC.2.2.2.1 (hp_TR hC.2.2.2.2.1 hw hk) hdg (kk H locs ls hG hW hS hL)
theorem hz_ldci (hC : hp_Cx p s m meth c cc nL own A D adV cA G0) {v : Int32} {idx : Nat} (hdg : decode cc pc = .ok (.ldc idx, 2)) (hw : hp_ok (.constant own idx v)) (hn : pc + 2 = n) (kk : hp_Z p l e R s m args below meth c nL A D ids adr adV cA cells slots Q G0 rep n L (.int v :: st) M G) : hp_Z p l e R s m args below meth c nL A D ids adr adV cA cells slots Q G0 rep pc L st M G := by
  subst hn
  intro H locs ls hG hW hS hL
  exact lv_ldc hC.1 hC.2.1 hC.2.2.2.1 (hp_wd hC.2.2.2.2.1 hw args) hdg (kk H locs ls hG hW hS hL)
theorem hz_ldcw (hC : hp_Cx p s m meth c cc nL own A D adV cA G0) {v : Int32} {idx : Nat} (hdg : decode cc pc = .ok (.ldc_w idx, 3)) (hw : hp_ok (.constant own idx v)) (hn : pc + 3 = n) (kk : hp_Z p l e R s m args below meth c nL A D ids adr adV cA cells slots Q G0 rep n L (.int v :: st) M G) : hp_Z p l e R s m args below meth c nL A D ids adr adV cA cells slots Q G0 rep pc L st M G := by
  subst hn
  intro H locs ls hG hW hS hL
  exact lv_ldcw hC.1 hC.2.1 hC.2.2.2.1 (hp_wd hC.2.2.2.2.1 hw args) hdg (kk H locs ls hG hW hS hL)
theorem hz_ifnullV (hC : hp_Cx p s m meth c cc nL own A D adV cA G0) {x : Int32} {d : Decidable (x < 0)} {off : Int} {tgt : Nat} {G1 G2 : Option α} (hdg : decode cc pc = .ok (.ifnull off, 3)) (ht : (pc : Int) + off = (tgt : Int)) (hn : pc + 3 = n) (k1 : x < 0 → hp_Z p l e R s m args below meth c nL A D ids adr adV cA cells slots Q G0 rep tgt L st M G1) (k2 : ¬ x < 0 → hp_Z p l e R s m args below meth c nL A D ids adr adV cA cells slots Q G0 rep n L st M G2) : hp_Z p l e R s m args below meth c nL A D ids adr adV cA cells slots Q G0 rep pc L (hp_vr adV x :: st) M (@ite (Option α) (x < 0) d G1 G2) := by
  subst hn
  refine hz_case (fun h H locs ls hG hW hS hL => ?_) (fun h H locs ls hG hW hS hL => ?_)
  · rw [show hp_vr adV x = .null from if_pos h]
    exact lv_ifnullN hC.1 hC.2.1 hdg ht (k1 h H locs ls hG hW hS hL)
  · rw [hp_vr_pos h]
    exact lv_ifnull hC.1 hC.2.1 hdg (k2 h H locs ls hG hW hS hL)
theorem hz_ifnonnullV (hC : hp_Cx p s m meth c cc nL own A D adV cA G0) {x : Int32} {d : Decidable (x < 0)} {off : Int} {tgt : Nat} {G1 G2 : Option α} (hdg : decode cc pc = .ok (.ifnonnull off, 3)) (ht : (pc : Int) + off = (tgt : Int)) (hn : pc + 3 = n) (k1 : x < 0 → hp_Z p l e R s m args below meth c nL A D ids adr adV cA cells slots Q G0 rep n L st M G1) (k2 : ¬ x < 0 → hp_Z p l e R s m args below meth c nL A D ids adr adV cA cells slots Q G0 rep tgt L st M G2) : hp_Z p l e R s m args below meth c nL A D ids adr adV cA cells slots Q G0 rep pc L (hp_vr adV x :: st) M (@ite (Option α) (x < 0) d G1 G2) := by
  subst hn
  refine hz_case (fun h H locs ls hG hW hS hL => ?_) (fun h H locs ls hG hW hS hL => ?_)
  · rw [show hp_vr adV x = .null from if_pos h]
    exact lv_ifnonnullN hC.1 hC.2.1 hdg (k1 h H locs ls hG hW hS hL)
  · rw [hp_vr_pos h]
    exact lv_ifnonnull hC.1 hC.2.1 hdg ht (k2 h H locs ls hG hW hS hL)
theorem hz_eret0 {G0 : Option (Int32 × hp_M)} (hC : hp_Cx p s m meth c cc nL own A D adV cA G0) {ty : FieldType} (hr : meth.sig.returnType = some ty) (hrt : (∃ n, ty = .object n) ∨ ∃ t, ty = .array t) (hdg : decode cc pc = .ok (.areturn, 1)) : hp_Z p l e R s m args below meth c nL A D ids adr adV cA cells slots (MQ below (hp_Q A D ids adr adV cA rep hp_oe G0) args s cells slots A) G0 rep pc L [.null] M (some ((-1 : Int32), M)) := by
  have h := hz_eret (x := (-1 : Int32)) (L := L) (M := M) (rep := rep) (cells := cells) (slots := slots) (below := below) (p := p) (l := l) (e := e) (R := R) (args := args) (ids := ids) (adr := adr) hC hr hrt hdg
  rwa [show hp_vr adV (-1 : Int32) = .null from if_pos (by decide)] at h
theorem hz_eretN {G0 : Option (Int32 × hp_M)} (hC : hp_Cx p s m meth c cc nL own A D adV cA G0) {k : Nat} {ty : FieldType} (hk : k < 12) (hr : meth.sig.returnType = some ty) (hrt : (∃ n, ty = .object n) ∨ ∃ t, ty = .array t) (hdg : decode cc pc = .ok (.areturn, 1)) : hp_Z p l e R s m args below meth c nL A D ids adr adV cA cells slots (MQ below (hp_Q A D ids adr adV cA rep hp_oe G0) args s cells slots A) G0 rep pc L [.ref (adV k)] M (some (nI k, M)) := by
  have h := hz_eret (x := nI k) (L := L) (M := M) (rep := rep) (cells := cells) (slots := slots) (below := below) (p := p) (l := l) (e := e) (R := R) (args := args) (ids := ids) (adr := adr) hC hr hrt hdg
  rwa [hp_vr_nI hk] at h
theorem hz_min (hC : hp_Cx p s m meth c cc nL own A D adV cA G0) {idx : Nat} {x y : Int32} (hdg : decode cc pc = .ok (.invokestatic idx, 3)) (hl : hp_ok (.methodLink own idx Lib.Math.min.name)) (hw : hp_ok (.static Lib.Math.min.name) ∧ hp_ok (.initialized "java/lang/Math") ∧ hp_ok (.code Lib.Math.min.name Lib.Math.min.code 2 (some .int))) (hR : 1 ≤ R.frames ∧ (st.map fun v => v.category).sum + 13 ≤ R.locals ∧ cells ≤ R.cells ∧ slots ≤ R.slots) (hn : pc + 3 = n) (kk : hp_Z p l e R s m args below meth c nL A D ids adr adV cA cells slots Q G0 rep n L (.int (if y < x then y else x) :: st) M G) : hp_Z p l e R s m args below meth c nL A D ids adr adV cA cells slots Q G0 rep pc L (.int y :: .int x :: st) M G := by
  subst hn
  intro H locs ls hG hW hS hL
  have hT := hC.2.2.2.2.1
  exact va_mmin hC.1 hC.2.1 (hC.2.2.1.trans hL.1.symm) hC.2.2.2.1 (hp_wd hT hl args) (hp_wd hT hw.1 args) (hp_wd hT hw.2.1 args) (hp_wd hT hw.2.2 args) hR.1 hR.2.1 hR.2.2.1 hR.2.2.2 hdg (kk H locs ls hG hW hS hL)
def hp_cpy (n : Nat) (f g : Nat → Int32) : Nat → Int32 := fun i => if i < n then f i else g i
theorem hp_cpy_va {n : Nat} {x : Int32} (hx : x.toNatClampNeg = n) (f g : Nat → Int32) : va_cpy f g (0 : Int32).toNatClampNeg (0 : Int32).toNatClampNeg x.toNatClampNeg = hp_cpy n f g := by
  funext j
  rw [hx]
  show va_cpy f g 0 0 n j = _
  unfold hp_cpy
  by_cases h : j < n
  · rw [if_pos h, pk_cpy_in (Nat.zero_le j) (by omega)]
    congr 1
    omega
  · rw [if_neg h, pk_cpy_out (Or.inr (by omega))]
abbrev hp_acw : Prop := hp_ok (.native arraycopyName) ∧ hp_ok (.static arraycopyName) ∧ hp_ok (.initialized "java/lang/System")
theorem hz_copyM (hC : hp_Cx p s m meth c cc nL own A D adV cA G0) {idx g1 j1 g2 j2 N : Nat} {x : Int32} (hx : x = nI N) (hN : N < 2 ^ 31) (hl : hp_ok (.methodLink own idx arraycopyName)) (hw : hp_acw) (hR : 1 ≤ R.frames ∧ (st.map fun v => v.category).sum + (nativeFrameWords "java/lang/System" "arraycopy" 5 + 11) ≤ R.locals) (hdg : decode cc pc = .ok (.invokestatic idx, 3)) (hq1 : (g1, j1) ∈ ids) (hq2 : (g2, j2) ∈ ids) (he1 : ∀ f : Nat → Int32, hp_c adr adV cA g1 j1 f = .inl (cA 0, N, .inl f)) (he2 : ∀ f : Nat → Int32, hp_c adr adV cA g2 j2 f = .inl (cA 0, N, .inl f)) (hn : pc + 3 = n) (kk : hp_Z p l e R s m args below meth c nL A D ids adr adV cA cells slots Q G0 rep n L st (hp_sr M g2 j2 (hp_cpy N (M g1 j1) (M g2 j2))) G) : hp_Z p l e R s m args below meth c nL A D ids adr adV cA cells slots Q G0 rep pc L (.int x :: .int 0 :: .ref (adr g2 j2) :: .int 0 :: .ref (adr g1 j1) :: st) M G := by
  subst hn; subst hx
  intro H locs ls hG hW hS hL
  obtain ⟨tl, hsb, hP, hD⟩ := id hW
  obtain ⟨q1, hk1, -⟩ := hp_wl_at hD hq1
  obtain ⟨q2, hk2, hset⟩ := hp_wl_at hD hq2
  rw [he1] at hk1
  rw [he2] at hk2
  obtain ⟨u0, b0, -, -, -, -, hK, -⟩ := id hC.2.2.2.2.1
  have hT := hC.2.2.2.2.1
  have hc : (nI N).toNatClampNeg = N := nI_clamp hN
  refine va_copyi hC.1 hC.2.1 (hC.2.2.1.trans hL.1.symm) hC.2.2.2.1 (hp_wd hT hl args) (hp_wd hT hw.1 args) (hp_wd hT hw.2.1 args) (hp_wd hT hw.2.2 args) hK hP hD hS q1 q2 0 0 (ty := .int) hk1 hk2 rfl rfl rfl (by decide) (by decide) (nI_pos hN) (by rw [hc]; show 0 + N ≤ N; omega) (by rw [hc]; show 0 + N ≤ N; omega) (fun _ _ => rfl) hR.1 hR.2 hdg (fun H1 locs1 hP1 hD1 hS1 => ?_)
  rw [hp_cpy_va hc] at hP1 hD1
  have h9 := hset (hp_cpy N (M g1 j1) (M g2 j2))
  rw [he2] at h9
  rw [h9] at hP1 hD1
  exact kk H1 locs1 ls hG ⟨tl, hsb, hP1, hD1⟩ hS1 hL
theorem hp_copyt {cc : ByteArray} {pc : Nat} {ls : Array Slot} {rest : List Value} {cl : List vw_C} {tys : List (ClassId × FieldType)} {ws : va_W} {a : Nat} (hexec : p.tables.exec = Jvm.exec) (hb : c.code = cc) (hml : c.maxLocals = ls.size) {own : String} {index : Nat} (hown : s.vm.findClass own = some m.cls) (hlink : (Cond.methodLink own index arraycopyName).before args s = true) (hnat : (Cond.native arraycopyName).before args s = true) (hstat : (Cond.static arraycopyName).before args s = true) (hini : (Cond.initialized "java/lang/System").before args s = true)
    (hK : va_K D cl tys s) (hP : va_P D cl ws H) (hD : va_D A ws) (hS : va_S A s.heap H locs) {b0 N : Nat} {f : Nat → Int32} (hX : va_T .int b0 N (fun j => .int (f j)) A s s.heap) (q1 t1 : Nat) {c1 : ClassId} {g : Nat → Int32} (ha1 : ws[q1]? = some (a, .inl (c1, N, .inl g))) (ht1 : tys[t1]? = some (c1, .int)) (hN : N < 2 ^ 31)
    (hframes : 1 ≤ R.frames) (hlocals : (rest.map fun v => v.category).sum + (nativeFrameWords "java/lang/System" "arraycopy" 5 + 11) ≤ R.locals) (hdg : decode cc pc = .ok (.invokestatic index, 3))
    (kk : ∀ (H1 : Heap) (locs1 : List Loc), va_P D cl (ws.set q1 (a, .inl (c1, N, .inl (hp_cpy N f g)))) H1 → va_D A (ws.set q1 (a, .inl (c1, N, .inl (hp_cpy N f g)))) → va_S A s.heap H1 locs1 → W p l e R s m args below meth c H1 locs1 cells slots Q (F0 m (pc + 3) ls rest)) : W p l e R s m args below meth c H locs cells slots Q (F0 m pc ls (.int (nI N) :: .int 0 :: .ref a :: .int 0 :: .ref b0 :: rest)) := by
  have hcl : (nI N).toNatClampNeg = N := nI_clamp hN
  have hti : (nI N).toInt = (N : Int) := nI_toInt hN
  intro T hT X
  obtain ⟨scr, hs1, hs2, hs3, hs4, -, hs5, hs7⟩ := hX
  have hc0 : H[b0]? = some scr := by rw [hS.2.1 b0 (Array.getElem?_eq_some_iff.mp hs1).1 hs7]; exact hs1
  have hc1 : H[a]? = some (vp_cell c1 (N, .inl g)) := hP q1 _ ha1
  obtain ⟨hs6, k0, hk0, cm0, hkk0⟩ := hs2
  obtain ⟨-, k1, hk1, cm1, hkk1⟩ := (hK.2 t1 _ ht1).1 N (fun j => .int (g j))
  obtain ⟨vm', X', step⟩ := X.arraycopy hexec hown hlink hnat hstat hini (src := b0) (dst := a) (cs := scr) (cd := vp_cell c1 (N, .inl g)) (srcPos := 0) (destPos := 0) (n := nI N) (by rw [hT]; exact hc0) (by rw [hT]; exact hc1)
    hs6 (fun _ h => by cases h) hs3 (fun h => by cases h) hk0 hk1 hkk0 hkk1 (by simp [refKind]) (by decide) (by decide) (nI_pos hN)
    (by rw [hti]; show ¬ (0 : Int) + N > _; omega)
    (by rw [hti]; show ¬ (0 : Int) + N > ((arrV c1 N (fun j => .int (g j))).slots.size : Int); rw [arrV_size]; omega)
    (fun vm₁ _ i hi => by
      have e : scr.slots.getD ((0 : Int32).toNatClampNeg + i) .null = .int (f i) := by
        rw [show (0 : Int32).toNatClampNeg + i = i from Nat.zero_add i, Array.getD_eq_getD_getElem?, hs5 _ (by omega)]
        rfl
      refine ⟨?_, ?_⟩
      · rw [e]
        rfl
      · rw [e]
        exact trivial)
    (g := F0 m pc ls (.int (nI N) :: .int 0 :: .ref a :: .int 0 :: .ref b0 :: rest)) rfl (by rw [hml]) (rest := rest) rfl (by rw [hb]; exact hdg) hframes (by show 2 * 0 + _ + _ ≤ _; omega)
  have e1 : copied scr (vp_cell c1 (N, .inl g)) 0 0 (nI N) = vp_cell c1 (N, .inl (hp_cpy N f g)) := by
    rw [← hp_cpy_va hcl f g]
    exact va_copiedX (fun z => .int z) scr c1 f g hs5 (by rw [hcl]; show 0 + N ≤ N; omega)
  rw [e1] at X' step
  have hl : a < H.size := (Array.getElem?_eq_some_iff.mp hc1).1
  have hheap : ((T.setVm vm').setCell a (vp_cell c1 (N, .inl (hp_cpy N f g)))).heap = H.setIfInBounds a (vp_cell c1 (N, .inl (hp_cpy N f g))) := by rw [← hT]; rfl
  have oq : ∀ q : Nat, q ≠ a → (H.setIfInBounds a (vp_cell c1 (N, .inl (hp_cpy N f g))))[q]? = H[q]? := fun q hq => by simp [Array.getElem?_setIfInBounds, Ne.symm hq]
  obtain ⟨t, a1, b1⟩ := kk _ _ (hP.set hD ha1 (show (H.setIfInBounds a _)[a]? = some _ by simp [Array.getElem?_setIfInBounds, hl]) oq) (hD.set ha1) ⟨by simp; exact hS.1, fun q g1 g2 => by
      rw [oq q (fun e => g2 (by rw [e]; exact hD.2 q1 _ ha1))]
      exact hS.2.1 q g1 g2, fun q hq => by
      rcases List.mem_append.mp hq with h | h
      · exact hS.2.2 q h
      · obtain ⟨z, -, hz⟩ := List.mem_map.mp h
        rw [← hz]
        exact hD.2 q1 _ ha1⟩ _ hheap X'
  exact ⟨t, step t a1, b1⟩
theorem hz_copyT (hC : hp_Cx p s m meth c cc nL own A D adV cA G0) {idx k g2 j2 N : Nat} {f : Nat → Int32} {x : Int32} (hx : x = nI N) (hN : N < 2 ^ 31) (hl : hp_ok (.methodLink own idx arraycopyName)) (hw : hp_acw) (hR : 1 ≤ R.frames ∧ (st.map fun v => v.category).sum + (nativeFrameWords "java/lang/System" "arraycopy" 5 + 11) ≤ R.locals) (hdg : decode cc pc = .ok (.invokestatic idx, 3)) (hX : va_T .int (adV k) N (fun j => .int (f j)) A s s.heap) (hq2 : (g2, j2) ∈ ids) (he2 : ∀ f : Nat → Int32, hp_c adr adV cA g2 j2 f = .inl (cA 0, N, .inl f)) (hn : pc + 3 = n) (kk : hp_Z p l e R s m args below meth c nL A D ids adr adV cA cells slots Q G0 rep n L st (hp_sr M g2 j2 (hp_cpy N f (M g2 j2))) G) : hp_Z p l e R s m args below meth c nL A D ids adr adV cA cells slots Q G0 rep pc L (.int x :: .int 0 :: .ref (adr g2 j2) :: .int 0 :: .ref (adV k) :: st) M G := by
  subst hn; subst hx
  intro H locs ls hG hW hS hL
  obtain ⟨tl, hsb, hP, hD⟩ := id hW
  obtain ⟨q2, hk2, hset⟩ := hp_wl_at hD hq2
  rw [he2] at hk2
  obtain ⟨u0, b0, -, -, -, -, hK, -⟩ := id hC.2.2.2.2.1
  have hT := hC.2.2.2.2.1
  refine hp_copyt hC.1 hC.2.1 (hC.2.2.1.trans hL.1.symm) hC.2.2.2.1 (hp_wd hT hl args) (hp_wd hT hw.1 args) (hp_wd hT hw.2.1 args) (hp_wd hT hw.2.2 args) hK hP hD hS hX q2 0 hk2 rfl hN hR.1 hR.2 hdg (fun H1 locs1 hP1 hD1 hS1 => ?_)
  have h9 := hset (hp_cpy N f (M g2 j2))
  rw [he2] at h9
  rw [h9] at hP1 hD1
  exact kk H1 locs1 ls hG ⟨tl, hsb, hP1, hD1⟩ hS1 hL

theorem hp_recvO {E : String} {q : Nat} (hO : va_O E q A s s.heap) (hS : va_S A s.heap H locs) : ∃ cell : Cell, H[q]? = some cell ∧ cell.vm.isStatics = false ∧ s.vm.findClass E = some cell.cls := by
  obtain ⟨cell, h1, h2, h3, -⟩ := hO.kept hS.2.1
  exact ⟨cell, h1, h2, h3⟩
theorem hz_callO (hC : hp_Cx p s m meth c cc nL own A D adV cA G0) {y : MethodName} {cc1 : ByteArray} {nL1 k d1 idx : Nat} {rt1 : Option FieldType} {I : List (Nat × Nat) → Prop} {av : hp_av} {ov : hp_ov ρ} {G1 : Option (ρ × hp_M)} {K : ρ → hp_M → Option α} {As st0 : List Value} {S1 : ρ → List Value} {q : Nat} (hct : hp_Ct l y cc1 nL1 rt1 d1 I av ov M G1) (hk : hp_Kv y cc1 nL1 rt1 k) (hl : hp_ok (.methodLink own idx y)) (hI : I ids) (hdg : decode cc pc = .ok (.invokevirtual idx, 3)) (hav : av adr adV = .ref q :: As) (hO : va_O y.cls q A s s.heap) (hlen : As.length = k) (hst : st0 = As.reverse ++ .ref q :: st) (hcat : (st.map fun v => v.category).sum ≤ 8) (hR : d1 + 1 ≤ R.frames ∧ 43 * d1 + 43 ≤ R.locals) (hf : cells + 0 ≤ R.cells ∧ slots + 0 ≤ R.slots) (hs1 : ∀ r, (ov adr adV r).toList ++ st = S1 r) (hn : pc + 3 = n) (kk : ∀ (r : ρ) (M' : hp_M), G1 = some (r, M') → hp_Z p l e R s m args below meth c nL A D ids adr adV cA cells slots Q G0 rep n L (S1 r) M' (K r M')) : hp_Z p l e R s m args below meth c nL A D ids adr adV cA cells slots Q G0 rep pc L st0 M (hp_b G1 K) := by
  subst hn
  intro H locs ls hG hW hS hL
  have hne : G1 ≠ none := fun h => hC.2.2.2.2.2.2.2 (by rw [← hG, h]; rfl)
  have hT := hC.2.2.2.2.1
  exact hp_callR (va_runV (As := As) (rest := st) ⟨hC.1, hC.2.1, hC.2.2.1, hC.2.2.2.1, fun w h => absurd h List.not_mem_nil⟩ (Ts := []) (hct A D ids adr adV cA rep hI hne) ⟨hp_CB hT hk.2.2.1 hk.2.2.2.1 hk.2.2.2.2.1 hk.2.2.2.2.2 hl hR, hp_wd hT hk.1 args, hp_wd hT hk.2.1 args⟩ ⟨hp_blind, hp_recvO hO hS, hp_pre hC hS hW (by rw [hav])⟩ rfl hlen hL.1 hst (lv_room hcat) hdg hf) hS (fun r M' H1 locs1 hg hw1 hS1 => by rw [hs1]; exact kk r M' hg H1 locs1 ls (by rw [← hG, hg]; rfl) hw1 hS1 hL)
theorem hz_callON (hC : hp_Cx p s m meth c cc nL own A D adV cA G0) {y : MethodName} {cc1 : ByteArray} {nL1 k d1 idx : Nat} {rt1 : Option FieldType} {I : List (Nat × Nat) → Prop} {av : hp_av} {ov : hp_ov ρ} {G1 : Option (ρ × hp_M)} {K : ρ → hp_M → Option α} {As st0 : List Value} {S1 : ρ → List Value} {q : Nat} (hct : hp_Ct l y cc1 nL1 rt1 d1 I av ov M G1) (hk : hp_Kv y cc1 nL1 rt1 k) {host : String} (hl : Cond.methodLinkNest own idx y host ∈ lw_tbl) (hI : I ids) (hdg : decode cc pc = .ok (.invokevirtual idx, 3)) (hav : av adr adV = .ref q :: As) (hO : va_O y.cls q A s s.heap) (hlen : As.length = k) (hst : st0 = As.reverse ++ .ref q :: st) (hcat : (st.map fun v => v.category).sum ≤ 8) (hR : d1 + 1 ≤ R.frames ∧ 43 * d1 + 43 ≤ R.locals) (hf : cells + 0 ≤ R.cells ∧ slots + 0 ≤ R.slots) (hs1 : ∀ r, (ov adr adV r).toList ++ st = S1 r) (hn : pc + 3 = n) (kk : ∀ (r : ρ) (M' : hp_M), G1 = some (r, M') → hp_Z p l e R s m args below meth c nL A D ids adr adV cA cells slots Q G0 rep n L (S1 r) M' (K r M')) : hp_Z p l e R s m args below meth c nL A D ids adr adV cA cells slots Q G0 rep pc L st0 M (hp_b G1 K) := by
  subst hn
  intro H locs ls hG hW hS hL
  have hne : G1 ≠ none := fun h => hC.2.2.2.2.2.2.2 (by rw [← hG, h]; rfl)
  have hT := hC.2.2.2.2.1
  exact hp_callR (va_runVN (As := As) (rest := st) (host := host) ⟨hC.1, hC.2.1, hC.2.2.1, hC.2.2.2.1, fun w h => absurd h List.not_mem_nil⟩ (Ts := []) (hct A D ids adr adV cA rep hI hne) ⟨hp_CN hT hk.2.2.1 hk.2.2.2.1 hk.2.2.2.2.1 hk.2.2.2.2.2 hl hR, hp_wd hT hk.1 args, hp_wd hT hk.2.1 args⟩ ⟨hp_blind, hp_recvO hO hS, hp_pre hC hS hW (by rw [hav])⟩ rfl hlen hL.1 hst (lv_room hcat) hdg hf) hS (fun r M' H1 locs1 hg hw1 hS1 => by rw [hs1]; exact kk r M' hg H1 locs1 ls (by rw [← hG, hg]; rfl) hw1 hS1 hL)
/-- an inherited method, called by the name of the class below -/
theorem hz_callOU (hC : hp_Cx p s m meth c cc nL own A D adV cA G0) {y : MethodName} {cc1 : ByteArray} {nL1 k d1 idx : Nat} {rt1 : Option FieldType} {I : List (Nat × Nat) → Prop} {av : hp_av} {ov : hp_ov ρ} {G1 : Option (ρ × hp_M)} {K : ρ → hp_M → Option α} {As st0 : List Value} {S1 : ρ → List Value} {x : MethodName} {C : String} {q : Nat} (hct : hp_Ct l y cc1 nL1 rt1 d1 I av ov M G1) (hx : y = ⟨y.cls, x.name, x.desc⟩) (hw : hp_ok (.methodLink own idx x) ∧ hp_ok (.sameMethod x.cls y.cls x.name x.desc) ∧ hp_ok (.selects C x y) ∧ hp_ok (.instanceMethod y) ∧ hp_ok (.initialized y.cls) ∧ hp_ok (.code y cc1 nL1 rt1)) (hd : y.cls ≠ "java/lang/invoke/MethodHandle" ∧ y.cls ≠ "java/lang/invoke/VarHandle" ∧ (parseMethodDescriptor x.desc).map (fun d => d.parameters.length) = some k) (hx1 : nL1 ≤ 24) (hI : I ids) (hdg : decode cc pc = .ok (.invokevirtual idx, 3)) (hav : av adr adV = .ref q :: As) (hO : va_O C q A s s.heap) (hlen : As.length = k) (hst : st0 = As.reverse ++ .ref q :: st) (hcat : (st.map fun v => v.category).sum ≤ 8) (hR : d1 + 1 ≤ R.frames ∧ 43 * d1 + 43 ≤ R.locals) (hf : cells + 0 ≤ R.cells ∧ slots + 0 ≤ R.slots) (hs1 : ∀ r, (ov adr adV r).toList ++ st = S1 r) (hn : pc + 3 = n) (kk : ∀ (r : ρ) (M' : hp_M), G1 = some (r, M') → hp_Z p l e R s m args below meth c nL A D ids adr adV cA cells slots Q G0 rep n L (S1 r) M' (K r M')) : hp_Z p l e R s m args below meth c nL A D ids adr adV cA cells slots Q G0 rep pc L st0 M (hp_b G1 K) := by
  subst hn
  intro H locs ls hG hW hS hL
  have hne : G1 ≠ none := fun h => hC.2.2.2.2.2.2.2 (by rw [← hG, h]; rfl)
  have hT := hC.2.2.2.2.1
  have hCU : va_CU R s args own C y.cls idx x y cc1 nL1 rt1 [Cond.code y cc1 nL1 rt1] (hp_rm d1) 0 0 k := by
    refine ⟨⟨rfl, rfl, hR.1, ?_, fun w hw2 a' U hWm => ?_, List.mem_cons_self⟩, hp_wd hT hw.2.2.2.2.2 args, hp_wd hT hw.2.2.2.2.1 args, ⟨hd.1, hd.2.1⟩, fun sig h => ?_, hp_wd hT hw.1 args, hp_wd hT hw.2.1 args, by rw [← hx]; exact va_Decl.of (hp_wd hT hw.2.2.2.1 args) (hp_wd hT hw.2.2.2.2.2 args), hp_wd hT hw.2.2.1 args, hp_wd hT hw.2.2.2.1 args⟩
    · show 8 + (nL1 + 11) + 43 * d1 ≤ R.locals
      omega
    · rcases List.mem_singleton.mp hw2 with rfl
      exact word_at hWm (good_of_word hw.2.2.2.2.2.2) (hp_wd hT hw.2.2.2.2.2 args)
    · have h2 := hd.2.2
      rw [h] at h2
      exact (Option.some.inj h2).symm
  exact hp_callR (va_runU (As := As) (rest := st) ⟨hC.1, hC.2.1, hC.2.2.1, hC.2.2.2.1, fun w h => absurd h List.not_mem_nil⟩ (Ts := []) (hct A D ids adr adV cA rep hI hne) hCU ⟨hp_blind, hp_recvO hO hS, hp_pre hC hS hW (by rw [hav])⟩ rfl hlen hL.1 hst (lv_room hcat) hdg hf) hS (fun r M' H1 locs1 hg hw1 hS1 => by rw [hs1]; exact kk r M' hg H1 locs1 ls (by rw [← hG, hg]; rfl) hw1 hS1 hL)
theorem hz_vload_n (hC : hp_Cx p s m meth c cc nL own A D adV cA G0) {k : Fin 4} {i a : Nat} {x : Int32} (hdg : decode cc pc = .ok (.aload_n k, 1)) (hi : (k : Nat) = i) (ha : L[a]? = some (i, hp_vr adV x)) (hn : pc + 1 = n) (kk : hp_Z p l e R s m args below meth c nL A D ids adr adV cA cells slots Q G0 rep n L (hp_vr adV x :: st) M G) : hp_Z p l e R s m args below meth c nL A D ids adr adV cA cells slots Q G0 rep pc L st M G := by
  subst hn
  intro H locs ls hG hW hS hL
  have h1 := lv_at hL a ha
  have h2 := kk H locs ls hG hW hS hL
  by_cases h : x < 0
  · rw [show hp_vr adV x = .null from if_pos h] at h1 h2
    exact lv_aload_nN hC.1 hC.2.1 hdg hi h1 h2
  · rw [hp_vr_pos h] at h1 h2
    exact lv_aload_n hC.1 hC.2.1 hdg hi h1 h2
theorem hz_vload (hC : hp_Cx p s m meth c cc nL own A D adV cA G0) {i a : Nat} {x : Int32} (hdg : decode cc pc = .ok (.aload i, 2))  (ha : L[a]? = some (i, hp_vr adV x)) (hn : pc + 2 = n) (kk : hp_Z p l e R s m args below meth c nL A D ids adr adV cA cells slots Q G0 rep n L (hp_vr adV x :: st) M G) : hp_Z p l e R s m args below meth c nL A D ids adr adV cA cells slots Q G0 rep pc L st M G := by
  subst hn
  intro H locs ls hG hW hS hL
  have h1 := lv_at hL a ha
  have h2 := kk H locs ls hG hW hS hL
  by_cases h : x < 0
  · rw [show hp_vr adV x = .null from if_pos h] at h1 h2
    exact lv_aloadN hC.1 hC.2.1 hdg h1 h2
  · rw [hp_vr_pos h] at h1 h2
    exact lv_aload hC.1 hC.2.1 hdg h1 h2
theorem hz_vstore_n (hC : hp_Cx p s m meth c cc nL own A D adV cA G0) {k : Fin 4} {i : Nat} {x : Int32} {L' : List (Nat × Value)} (hdg : decode cc pc = .ok (.astore_n k, 1)) (hi : (k : Nat) = i) (hlt : i < nL) (hl : (i, hp_vr adV x) :: L.filter (fun q => !(q.1 == i) && !(q.1 + 1 == i && q.2.category == 2)) = L') (hn : pc + 1 = n) (kk : hp_Z p l e R s m args below meth c nL A D ids adr adV cA cells slots Q G0 rep n L' st M G) : hp_Z p l e R s m args below meth c nL A D ids adr adV cA cells slots Q G0 rep pc L (hp_vr adV x :: st) M G := by
  subst hn
  intro H locs ls hG hW hS hL
  by_cases h : x < 0
  · rw [show hp_vr adV x = .null from if_pos h] at hl ⊢
    exact lv_astore_nN hC.1 hC.2.1 hdg hi hL hlt hl (fun ls2 hL2 => kk H locs ls2 hG hW hS hL2)
  · rw [hp_vr_pos h] at hl ⊢
    exact lv_astore_n hC.1 hC.2.1 hdg hi hL hlt hl (fun ls2 hL2 => kk H locs ls2 hG hW hS hL2)
theorem hz_vstore (hC : hp_Cx p s m meth c cc nL own A D adV cA G0) {i : Nat} {x : Int32} {L' : List (Nat × Value)} (hdg : decode cc pc = .ok (.astore i, 2))  (hlt : i < nL) (hl : (i, hp_vr adV x) :: L.filter (fun q => !(q.1 == i) && !(q.1 + 1 == i && q.2.category == 2)) = L') (hn : pc + 2 = n) (kk : hp_Z p l e R s m args below meth c nL A D ids adr adV cA cells slots Q G0 rep n L' st M G) : hp_Z p l e R s m args below meth c nL A D ids adr adV cA cells slots Q G0 rep pc L (hp_vr adV x :: st) M G := by
  subst hn
  intro H locs ls hG hW hS hL
  by_cases h : x < 0
  · rw [show hp_vr adV x = .null from if_pos h] at hl ⊢
    exact lv_astoreN hC.1 hC.2.1 hdg hL hlt hl (fun ls2 hL2 => kk H locs ls2 hG hW hS hL2)
  · rw [hp_vr_pos h] at hl ⊢
    exact lv_astore hC.1 hC.2.1 hdg hL hlt hl (fun ls2 hL2 => kk H locs ls2 hG hW hS hL2)
end HPY
