def F_X8_checkRange (a0 : Int32) (a1 : Int32) (a2 : Int32) (M : hp_M) : Option ((Unit ⊕ Nat) × hp_M) := (if a0 < a1 then (some (.inr 0, M)) else (if a0 ≤ a2 then (some (.inl (), M)) else (some (.inr 0, M))))
set_option maxRecDepth 20000 in
set_option maxHeartbeats 4000000 in
theorem c_X8_checkRange (l : Launch) (hl0 : l.stackTraces = false) (a0 : Int32) (a1 : Int32) (a2 : Int32)  (M : hp_M) : hp_CtX l yX8_checkRange cX8_checkRange 3 none 6 2 hp_IC (fun adr adV => [.int a0, .int a1, .int a2]) hp_oo M (F_X8_checkRange a0 a1 a2 M) := by
  refine hp_startX "HallPhone" (fun adr adV => [(0, .int a0), (1, .int a1), (2, .int a2)]) (by decide) rfl (fun _ _ => by simp only [lg_sl]; exact Nat.le_of_ble_eq_true rfl) (fun _ _ => rfl) ?_
  intro p e s m args below meth c A D ids adr adV cA rep G0 hI hC hr hE
  unfold F_X8_checkRange
  refine hz_iload_n (a := 0) (n := 1) hC dX8_checkRange_0 rfl rfl rfl ?_
  refine hz_iload_n (a := 1) (n := 2) hC dX8_checkRange_1 rfl rfl rfl ?_
  refine hz_icmp_lt (tgt := 10) (n := 5) hC dX8_checkRange_2 (by decide) rfl (fun _ => ?_) (fun _ => ?_)
  · exact hz_throwSW hC hE hl0 0 hp_cf_251.1 hp_cf_251.2 hp_cl_251 hp_ci_251 wd_5_90 (hp_st_s 7 (by decide)) hp_ca_251 hp_cg_251 hp_thst dX8_checkRange_10 dX8_checkRange_13 dX8_checkRange_14 dX8_checkRange_17 dX8_checkRange_20 ⟨Nat.le_of_ble_eq_true rfl, Nat.le_of_ble_eq_true rfl, Nat.le_of_ble_eq_true rfl, Nat.le_of_ble_eq_true rfl⟩ ⟨Nat.le_of_ble_eq_true rfl, Nat.le_of_ble_eq_true rfl⟩
  · refine hz_iload_n (a := 0) (n := 6) hC dX8_checkRange_5 rfl rfl rfl ?_
    refine hz_iload_n (a := 2) (n := 7) hC dX8_checkRange_6 rfl rfl rfl ?_
    refine hz_icmp_le (tgt := 21) (n := 10) hC dX8_checkRange_7 (by decide) rfl (fun _ => ?_) (fun _ => ?_)
    · exact hz_vretX hC hr dX8_checkRange_21 ⟨Nat.le_of_ble_eq_true rfl, Nat.le_of_ble_eq_true rfl⟩
    · exact hz_throwSW hC hE hl0 0 hp_cf_251.1 hp_cf_251.2 hp_cl_251 hp_ci_251 wd_5_90 (hp_st_s 7 (by decide)) hp_ca_251 hp_cg_251 hp_thst dX8_checkRange_10 dX8_checkRange_13 dX8_checkRange_14 dX8_checkRange_17 dX8_checkRange_20 ⟨Nat.le_of_ble_eq_true rfl, Nat.le_of_ble_eq_true rfl, Nat.le_of_ble_eq_true rfl, Nat.le_of_ble_eq_true rfl⟩ ⟨Nat.le_of_ble_eq_true rfl, Nat.le_of_ble_eq_true rfl⟩
def F_X8_parse (a0 : Int32) (M : hp_M) : Option ((Int32 ⊕ Nat) × hp_M) := (hp_bx (F_X8_checkRange a0 (0 : Int32) (M 12 0 8) M) (fun _ M1 => (hp_b (F_X5_takeBytes a0 M1) (fun _ M2 => (hp_b (F_X8_replaceByText (hp_p M2 12 0 8 (0 : Int32))) (fun r3 M3 => (some (.inl r3, M3))))))))
set_option maxRecDepth 20000 in
set_option maxHeartbeats 4000000 in
theorem c_X8_parse (l : Launch) (hl0 : l.stackTraces = false) (a0 : Int32)  (M : hp_M) : hp_CtX l yX8_parse cX8_parse 2 (some .int) 8 2 hp_IC (fun adr adV => [.ref (adr 12 0), .int a0]) hp_oi M (F_X8_parse a0 M) := by
  refine hp_startX "HallPhone" (fun adr adV => [(0, .ref (adr 12 0)), (1, .int a0)]) (by decide) rfl (fun _ _ => by simp only [lg_sl]; exact Nat.le_of_ble_eq_true rfl) (fun _ _ => rfl) ?_
  intro p e s m args below meth c A D ids adr adV cA rep G0 hI hC hr hE
  unfold F_X8_parse
  refine hz_iload_n (a := 1) (n := 1) hC dX8_parse_0 rfl rfl rfl ?_
  refine hz_iconst (v := (0 : Int32)) (n := 2) hC dX8_parse_1 (by decide +kernel) rfl ?_
  refine hz_aload_n (a := 0) (n := 3) hC dX8_parse_2 rfl rfl rfl ?_
  refine fg_X8_47 (n := 6) hC hI dX8_parse_3 rfl ?_
  refine hz_callSX (k := 3) (As := [.int a0, .int (0 : Int32), .int (M 12 0 8)]) (st := []) (S1 := fun _ => []) (n := 9) hC hE (c_X8_checkRange l hl0 a0 (0 : Int32) (M 12 0 8)   M) ks_X8_checkRange wd_5_86 hI dX8_parse_6 rfl rfl rfl (Nat.le_of_ble_eq_true rfl) ⟨Nat.le_of_ble_eq_true rfl, Nat.le_of_ble_eq_true rfl⟩ ⟨Nat.le_of_ble_eq_true rfl, Nat.le_of_ble_eq_true rfl⟩ ⟨Nat.le_of_ble_eq_true rfl, Nat.le_of_ble_eq_true rfl⟩ (fun _ => rfl) rfl (fun r1 M1 _ => ?_)
  refine hz_aload_n (a := 0) (n := 10) hC dX8_parse_9 rfl rfl rfl ?_
  refine fg_X8_39 (n := 13) hC hI dX8_parse_10 rfl ?_
  refine hz_aload_n (a := 0) (n := 14) hC dX8_parse_13 rfl rfl rfl ?_
  refine fg_X8_43 (n := 17) hC hI dX8_parse_14 rfl ?_
  refine hz_iload_n (a := 1) (n := 18) hC dX8_parse_17 rfl rfl rfl ?_
  refine hz_callVN (k := 2) (As := [.ref (adr 12 3), .int a0]) (st := []) (S1 := fun _ => []) (n := 21) hC (c_X5_takeBytes l a0   M1) kv_X5_takeBytes wd_5_92 hI dX8_parse_18 rfl (hI.2 1 (by decide)) he_X5 rfl rfl rfl (Nat.le_of_ble_eq_true rfl) ⟨Nat.le_of_ble_eq_true rfl, Nat.le_of_ble_eq_true rfl⟩ ⟨Nat.le_of_ble_eq_true rfl, Nat.le_of_ble_eq_true rfl⟩ (fun _ => rfl) rfl (fun r2 M2 _ => ?_)
  refine hz_aload_n (a := 0) (n := 22) hC dX8_parse_21 rfl rfl rfl ?_
  refine hz_iconst (v := (0 : Int32)) (n := 23) hC dX8_parse_22 (by decide +kernel) rfl ?_
  refine fp_X8_47 (n := 26) hC hI (0 : Int32) dX8_parse_23 rfl ?_
  refine hz_aload_n (a := 0) (n := 27) hC dX8_parse_26 rfl rfl rfl ?_
  refine hz_callV (k := 0) (As := []) (st := []) (S1 := fun r => .int r :: []) (n := 30) hC (c_X8_replaceByText l    (hp_p M2 12 0 8 (0 : Int32))) kv_X8_replaceByText wd_2_57 hI dX8_parse_27 rfl (hI.2 0 (by decide)) he_X8 rfl rfl rfl (Nat.le_of_ble_eq_true rfl) ⟨Nat.le_of_ble_eq_true rfl, Nat.le_of_ble_eq_true rfl⟩ ⟨Nat.le_of_ble_eq_true rfl, Nat.le_of_ble_eq_true rfl⟩ (fun _ => rfl) rfl (fun r3 M3 _ => ?_)
  exact hz_iretX hC hr dX8_parse_30 ⟨Nat.le_of_ble_eq_true rfl, Nat.le_of_ble_eq_true rfl⟩
def F_X8_load (a0 : Int32) (M : hp_M) : Option ((Int32 ⊕ Nat) × hp_M) := (hp_bx (F_X8_checkRange a0 (0 : Int32) (2 : Int32) M) (fun _ M1 => (if a0 = 0 then (hp_b (F_X5_takeText 20 M1) (fun _ M2 => (hp_b (F_X8_replaceByText M2) (fun r3 M3 => (some (.inl r3, M3)))))) else (if a0 = (1 : Int32) then (hp_b (F_X5_takeText 21 M1) (fun _ M4 => (hp_b (F_X8_replaceByText M4) (fun r5 M5 => (some (.inl r5, M5)))))) else (hp_b (F_X5_takeText 22 M1) (fun _ M6 => (hp_b (F_X8_replaceByText M6) (fun r7 M7 => (some (.inl r7, M7))))))))))
set_option maxRecDepth 20000 in
set_option maxHeartbeats 4000000 in
theorem c_X8_load (l : Launch) (hl0 : l.stackTraces = false) (a0 : Int32)  (M : hp_M) : hp_CtX l yX8_load cX8_load 2 (some .int) 8 2 hp_IC (fun adr adV => [.ref (adr 12 0), .int a0]) hp_oi M (F_X8_load a0 M) := by
  refine hp_startX "HallPhone" (fun adr adV => [(0, .ref (adr 12 0)), (1, .int a0)]) (by decide) rfl (fun _ _ => by simp only [lg_sl]; exact Nat.le_of_ble_eq_true rfl) (fun _ _ => rfl) ?_
  intro p e s m args below meth c A D ids adr adV cA rep G0 hI hC hr hE
  unfold F_X8_load
  refine hz_iload_n (a := 1) (n := 1) hC dX8_load_0 rfl rfl rfl ?_
  refine hz_iconst (v := (0 : Int32)) (n := 2) hC dX8_load_1 (by decide +kernel) rfl ?_
  refine hz_iconst (v := (2 : Int32)) (n := 3) hC dX8_load_2 (by decide +kernel) rfl ?_
  refine hz_callSX (k := 3) (As := [.int a0, .int (0 : Int32), .int (2 : Int32)]) (st := []) (S1 := fun _ => []) (n := 6) hC hE (c_X8_checkRange l hl0 a0 (0 : Int32) (2 : Int32)   M) ks_X8_checkRange wd_5_86 hI dX8_load_3 rfl rfl rfl (Nat.le_of_ble_eq_true rfl) ⟨Nat.le_of_ble_eq_true rfl, Nat.le_of_ble_eq_true rfl⟩ ⟨Nat.le_of_ble_eq_true rfl, Nat.le_of_ble_eq_true rfl⟩ ⟨Nat.le_of_ble_eq_true rfl, Nat.le_of_ble_eq_true rfl⟩ (fun _ => rfl) rfl (fun r1 M1 _ => ?_)
  refine hz_aload_n (a := 0) (n := 7) hC dX8_load_6 rfl rfl rfl ?_
  refine fg_X8_39 (n := 10) hC hI dX8_load_7 rfl ?_
  refine hz_iload_n (a := 1) (n := 11) hC dX8_load_10 rfl rfl rfl ?_
  refine hz_if_ne (tgt := 19) (n := 14) hC dX8_load_11 (by decide) rfl (fun _ => ?_) (fun _ => ?_)
  · refine hz_ldcS (k := 20) (n := 16) hC dX8_load_14 wd_1_238 (hp_st_s 0 (by decide)) rfl ?_
    refine hz_goto (n := 31) hC dX8_load_16 (by decide) ?_
    refine hz_callVN (k := 1) (As := [.ref (adV 20)]) (st := []) (S1 := fun _ => []) (n := 34) hC (c_X5_takeText l 20 (by decide)  M1) kv_X5_takeText wd_1_239 hI dX8_load_31 rfl (hI.2 1 (by decide)) he_X5 rfl rfl rfl (Nat.le_of_ble_eq_true rfl) ⟨Nat.le_of_ble_eq_true rfl, Nat.le_of_ble_eq_true rfl⟩ ⟨Nat.le_of_ble_eq_true rfl, Nat.le_of_ble_eq_true rfl⟩ (fun _ => rfl) rfl (fun r2 M2 _ => ?_)
    refine hz_aload_n (a := 0) (n := 35) hC dX8_load_34 rfl rfl rfl ?_
    refine hz_callV (k := 0) (As := []) (st := []) (S1 := fun r => .int r :: []) (n := 38) hC (c_X8_replaceByText l    M2) kv_X8_replaceByText wd_2_57 hI dX8_load_35 rfl (hI.2 0 (by decide)) he_X8 rfl rfl rfl (Nat.le_of_ble_eq_true rfl) ⟨Nat.le_of_ble_eq_true rfl, Nat.le_of_ble_eq_true rfl⟩ ⟨Nat.le_of_ble_eq_true rfl, Nat.le_of_ble_eq_true rfl⟩ (fun _ => rfl) rfl (fun r3 M3 _ => ?_)
    exact hz_iretX hC hr dX8_load_38 ⟨Nat.le_of_ble_eq_true rfl, Nat.le_of_ble_eq_true rfl⟩
  · refine hz_iload_n (a := 1) (n := 20) hC dX8_load_19 rfl rfl rfl ?_
    refine hz_iconst (v := (1 : Int32)) (n := 21) hC dX8_load_20 (by decide +kernel) rfl ?_
    refine hz_icmp_ne (tgt := 29) (n := 24) hC dX8_load_21 (by decide) rfl (fun _ => ?_) (fun _ => ?_)
    · refine hz_ldcS (k := 21) (n := 26) hC dX8_load_24 wd_5_104 (hp_st_s 1 (by decide)) rfl ?_
      refine hz_goto (n := 31) hC dX8_load_26 (by decide) ?_
      refine hz_callVN (k := 1) (As := [.ref (adV 21)]) (st := []) (S1 := fun _ => []) (n := 34) hC (c_X5_takeText l 21 (by decide)  M1) kv_X5_takeText wd_1_239 hI dX8_load_31 rfl (hI.2 1 (by decide)) he_X5 rfl rfl rfl (Nat.le_of_ble_eq_true rfl) ⟨Nat.le_of_ble_eq_true rfl, Nat.le_of_ble_eq_true rfl⟩ ⟨Nat.le_of_ble_eq_true rfl, Nat.le_of_ble_eq_true rfl⟩ (fun _ => rfl) rfl (fun r4 M4 _ => ?_)
      refine hz_aload_n (a := 0) (n := 35) hC dX8_load_34 rfl rfl rfl ?_
      refine hz_callV (k := 0) (As := []) (st := []) (S1 := fun r => .int r :: []) (n := 38) hC (c_X8_replaceByText l    M4) kv_X8_replaceByText wd_2_57 hI dX8_load_35 rfl (hI.2 0 (by decide)) he_X8 rfl rfl rfl (Nat.le_of_ble_eq_true rfl) ⟨Nat.le_of_ble_eq_true rfl, Nat.le_of_ble_eq_true rfl⟩ ⟨Nat.le_of_ble_eq_true rfl, Nat.le_of_ble_eq_true rfl⟩ (fun _ => rfl) rfl (fun r5 M5 _ => ?_)
      exact hz_iretX hC hr dX8_load_38 ⟨Nat.le_of_ble_eq_true rfl, Nat.le_of_ble_eq_true rfl⟩
    · refine hz_ldcS (k := 22) (n := 31) hC dX8_load_29 wd_5_105 (hp_st_s 2 (by decide)) rfl ?_
      refine hz_callVN (k := 1) (As := [.ref (adV 22)]) (st := []) (S1 := fun _ => []) (n := 34) hC (c_X5_takeText l 22 (by decide)  M1) kv_X5_takeText wd_1_239 hI dX8_load_31 rfl (hI.2 1 (by decide)) he_X5 rfl rfl rfl (Nat.le_of_ble_eq_true rfl) ⟨Nat.le_of_ble_eq_true rfl, Nat.le_of_ble_eq_true rfl⟩ ⟨Nat.le_of_ble_eq_true rfl, Nat.le_of_ble_eq_true rfl⟩ (fun _ => rfl) rfl (fun r6 M6 _ => ?_)
      refine hz_aload_n (a := 0) (n := 35) hC dX8_load_34 rfl rfl rfl ?_
      refine hz_callV (k := 0) (As := []) (st := []) (S1 := fun r => .int r :: []) (n := 38) hC (c_X8_replaceByText l    M6) kv_X8_replaceByText wd_2_57 hI dX8_load_35 rfl (hI.2 0 (by decide)) he_X8 rfl rfl rfl (Nat.le_of_ble_eq_true rfl) ⟨Nat.le_of_ble_eq_true rfl, Nat.le_of_ble_eq_true rfl⟩ ⟨Nat.le_of_ble_eq_true rfl, Nat.le_of_ble_eq_true rfl⟩ (fun _ => rfl) rfl (fun r7 M7 _ => ?_)
      exact hz_iretX hC hr dX8_load_38 ⟨Nat.le_of_ble_eq_true rfl, Nat.le_of_ble_eq_true rfl⟩
def F_X8_setting (a0 : Int32) (M : hp_M) : Option ((Int32 ⊕ Nat) × hp_M) := (hp_bx (F_X8_checkRange a0 (0 : Int32) (5 : Int32) M) (fun _ M1 => (hp_b (F_X2_settingNumber 0 a0 M1) (fun r2 M2 => (some (.inl r2, M2))))))
set_option maxRecDepth 20000 in
set_option maxHeartbeats 4000000 in
theorem c_X8_setting (l : Launch) (hl0 : l.stackTraces = false) (a0 : Int32)  (M : hp_M) : hp_CtX l yX8_setting cX8_setting 2 (some .int) 7 2 hp_IC (fun adr adV => [.ref (adr 12 0), .int a0]) hp_oi M (F_X8_setting a0 M) := by
  refine hp_startX "HallPhone" (fun adr adV => [(0, .ref (adr 12 0)), (1, .int a0)]) (by decide) rfl (fun _ _ => by simp only [lg_sl]; exact Nat.le_of_ble_eq_true rfl) (fun _ _ => rfl) ?_
  intro p e s m args below meth c A D ids adr adV cA rep G0 hI hC hr hE
  unfold F_X8_setting
  refine hz_iload_n (a := 1) (n := 1) hC dX8_setting_0 rfl rfl rfl ?_
  refine hz_iconst (v := (0 : Int32)) (n := 2) hC dX8_setting_1 (by decide +kernel) rfl ?_
  refine hz_iconst (v := (5 : Int32)) (n := 3) hC dX8_setting_2 (by decide +kernel) rfl ?_
  refine hz_callSX (k := 3) (As := [.int a0, .int (0 : Int32), .int (5 : Int32)]) (st := []) (S1 := fun _ => []) (n := 6) hC hE (c_X8_checkRange l hl0 a0 (0 : Int32) (5 : Int32)   M) ks_X8_checkRange wd_5_86 hI dX8_setting_3 rfl rfl rfl (Nat.le_of_ble_eq_true rfl) ⟨Nat.le_of_ble_eq_true rfl, Nat.le_of_ble_eq_true rfl⟩ ⟨Nat.le_of_ble_eq_true rfl, Nat.le_of_ble_eq_true rfl⟩ ⟨Nat.le_of_ble_eq_true rfl, Nat.le_of_ble_eq_true rfl⟩ (fun _ => rfl) rfl (fun r1 M1 _ => ?_)
  refine hz_aload_n (a := 0) (n := 7) hC dX8_setting_6 rfl rfl rfl ?_
  refine fg_X8_10 (n := 10) hC hI dX8_setting_7 rfl ?_
  refine hz_iload_n (a := 1) (n := 11) hC dX8_setting_10 rfl rfl rfl ?_
  refine hz_callVN (k := 1) (As := [.int a0]) (st := []) (S1 := fun r => .int r :: []) (n := 14) hC (c_X2_settingNumber l 0 a0 (by decide)  M1) kv_X2_settingNumber wd_5_62 hI dX8_setting_11 rfl (hI.1 0 0 (by decide) (by decide)) (he_X2 (by decide)) rfl rfl rfl (Nat.le_of_ble_eq_true rfl) ⟨Nat.le_of_ble_eq_true rfl, Nat.le_of_ble_eq_true rfl⟩ ⟨Nat.le_of_ble_eq_true rfl, Nat.le_of_ble_eq_true rfl⟩ (fun _ => rfl) rfl (fun r2 M2 _ => ?_)
  exact hz_iretX hC hr dX8_setting_14 ⟨Nat.le_of_ble_eq_true rfl, Nat.le_of_ble_eq_true rfl⟩
def F_X8_checkFlat (a0 : Int32) (M : hp_M) : Option ((Unit ⊕ Nat) × hp_M) := (if a0 < 0 then (some (.inr 1, M)) else (if a0 < (M 0 0 0) then (some (.inl (), M)) else (some (.inr 1, M))))
set_option maxRecDepth 20000 in
set_option maxHeartbeats 4000000 in
theorem c_X8_checkFlat (l : Launch) (hl0 : l.stackTraces = false) (a0 : Int32)  (M : hp_M) : hp_CtX l yX8_checkFlat cX8_checkFlat 2 none 6 2 hp_IC (fun adr adV => [.ref (adr 12 0), .int a0]) hp_oo M (F_X8_checkFlat a0 M) := by
  refine hp_startX "HallPhone" (fun adr adV => [(0, .ref (adr 12 0)), (1, .int a0)]) (by decide) rfl (fun _ _ => by simp only [lg_sl]; exact Nat.le_of_ble_eq_true rfl) (fun _ _ => rfl) ?_
  intro p e s m args below meth c A D ids adr adV cA rep G0 hI hC hr hE
  unfold F_X8_checkFlat
  refine hz_iload_n (a := 1) (n := 1) hC dX8_checkFlat_0 rfl rfl rfl ?_
  refine hz_if_lt (tgt := 15) (n := 4) hC dX8_checkFlat_1 (by decide) rfl (fun _ => ?_) (fun _ => ?_)
  · exact hz_throwSW hC hE hl0 1 hp_cf_290.1 hp_cf_290.2 hp_cl_290 hp_ci_290 wd_5_141 (hp_st_s 6 (by decide)) hp_ca_290 hp_cg_290 hp_thst dX8_checkFlat_15 dX8_checkFlat_18 dX8_checkFlat_19 dX8_checkFlat_22 dX8_checkFlat_25 ⟨Nat.le_of_ble_eq_true rfl, Nat.le_of_ble_eq_true rfl, Nat.le_of_ble_eq_true rfl, Nat.le_of_ble_eq_true rfl⟩ ⟨Nat.le_of_ble_eq_true rfl, Nat.le_of_ble_eq_true rfl⟩
  · refine hz_iload_n (a := 1) (n := 5) hC dX8_checkFlat_4 rfl rfl rfl ?_
    refine hz_aload_n (a := 0) (n := 6) hC dX8_checkFlat_5 rfl rfl rfl ?_
    refine fg_X8_10 (n := 9) hC hI dX8_checkFlat_6 rfl ?_
    refine fg_X8_141 (n := 12) hC (by decide) hI dX8_checkFlat_9 rfl ?_
    refine hz_icmp_lt (tgt := 26) (n := 15) hC dX8_checkFlat_12 (by decide) rfl (fun _ => ?_) (fun _ => ?_)
    · exact hz_vretX hC hr dX8_checkFlat_26 ⟨Nat.le_of_ble_eq_true rfl, Nat.le_of_ble_eq_true rfl⟩
    · exact hz_throwSW hC hE hl0 1 hp_cf_290.1 hp_cf_290.2 hp_cl_290 hp_ci_290 wd_5_141 (hp_st_s 6 (by decide)) hp_ca_290 hp_cg_290 hp_thst dX8_checkFlat_15 dX8_checkFlat_18 dX8_checkFlat_19 dX8_checkFlat_22 dX8_checkFlat_25 ⟨Nat.le_of_ble_eq_true rfl, Nat.le_of_ble_eq_true rfl, Nat.le_of_ble_eq_true rfl, Nat.le_of_ble_eq_true rfl⟩ ⟨Nat.le_of_ble_eq_true rfl, Nat.le_of_ble_eq_true rfl⟩
def F_X8_flat (a0 : Int32) (a1 : Int32) (M : hp_M) : Option ((Int32 ⊕ Nat) × hp_M) := (hp_bx (F_X8_checkFlat a0 M) (fun _ M1 => (hp_bx (F_X8_checkRange a1 (0 : Int32) (10 : Int32) M1) (fun _ M2 => (hp_b (F_X2_flatNumber 0 a0 a1 M2) (fun r3 M3 => (some (.inl r3, M3))))))))
set_option maxRecDepth 20000 in
set_option maxHeartbeats 4000000 in
theorem c_X8_flat (l : Launch) (hl0 : l.stackTraces = false) (a0 : Int32) (a1 : Int32)  (M : hp_M) : hp_CtX l yX8_flat cX8_flat 3 (some .int) 7 4 hp_IC (fun adr adV => [.ref (adr 12 0), .int a0, .int a1]) hp_oi M (F_X8_flat a0 a1 M) := by
  refine hp_startX "HallPhone" (fun adr adV => [(0, .ref (adr 12 0)), (1, .int a0), (2, .int a1)]) (by decide) rfl (fun _ _ => by simp only [lg_sl]; exact Nat.le_of_ble_eq_true rfl) (fun _ _ => rfl) ?_
  intro p e s m args below meth c A D ids adr adV cA rep G0 hI hC hr hE
  unfold F_X8_flat
  refine hz_aload_n (a := 0) (n := 1) hC dX8_flat_0 rfl rfl rfl ?_
  refine hz_iload_n (a := 1) (n := 2) hC dX8_flat_1 rfl rfl rfl ?_
  refine hz_callVX (k := 1) (As := [.int a0]) (st := []) (S1 := fun _ => []) (n := 5) hC hE (c_X8_checkFlat l hl0 a0   M) kv_X8_checkFlat wd_5_128 hI dX8_flat_2 rfl (hI.2 0 (by decide)) he_X8 rfl rfl rfl (Nat.le_of_ble_eq_true rfl) ⟨Nat.le_of_ble_eq_true rfl, Nat.le_of_ble_eq_true rfl⟩ ⟨Nat.le_of_ble_eq_true rfl, Nat.le_of_ble_eq_true rfl⟩ ⟨Nat.le_of_ble_eq_true rfl, Nat.le_of_ble_eq_true rfl⟩ (fun _ => rfl) rfl (fun r1 M1 _ => ?_)
  refine hz_iload_n (a := 2) (n := 6) hC dX8_flat_5 rfl rfl rfl ?_
  refine hz_iconst (v := (0 : Int32)) (n := 7) hC dX8_flat_6 (by decide +kernel) rfl ?_
  refine hz_bipush (v := (10 : Int32)) (n := 9) hC dX8_flat_7 (by decide +kernel) rfl ?_
  refine hz_callSX (k := 3) (As := [.int a1, .int (0 : Int32), .int (10 : Int32)]) (st := []) (S1 := fun _ => []) (n := 12) hC hE (c_X8_checkRange l hl0 a1 (0 : Int32) (10 : Int32)   M1) ks_X8_checkRange wd_5_86 hI dX8_flat_9 rfl rfl rfl (Nat.le_of_ble_eq_true rfl) ⟨Nat.le_of_ble_eq_true rfl, Nat.le_of_ble_eq_true rfl⟩ ⟨Nat.le_of_ble_eq_true rfl, Nat.le_of_ble_eq_true rfl⟩ ⟨Nat.le_of_ble_eq_true rfl, Nat.le_of_ble_eq_true rfl⟩ (fun _ => rfl) rfl (fun r2 M2 _ => ?_)
  refine hz_aload_n (a := 0) (n := 13) hC dX8_flat_12 rfl rfl rfl ?_
  refine fg_X8_10 (n := 16) hC hI dX8_flat_13 rfl ?_
  refine hz_iload_n (a := 1) (n := 17) hC dX8_flat_16 rfl rfl rfl ?_
  refine hz_iload_n (a := 2) (n := 18) hC dX8_flat_17 rfl rfl rfl ?_
  refine hz_callVN (k := 2) (As := [.int a0, .int a1]) (st := []) (S1 := fun r => .int r :: []) (n := 21) hC (c_X2_flatNumber l 0 a0 a1 (by decide)  M2) kv_X2_flatNumber wd_5_67 hI dX8_flat_18 rfl (hI.1 0 0 (by decide) (by decide)) (he_X2 (by decide)) rfl rfl rfl (Nat.le_of_ble_eq_true rfl) ⟨Nat.le_of_ble_eq_true rfl, Nat.le_of_ble_eq_true rfl⟩ ⟨Nat.le_of_ble_eq_true rfl, Nat.le_of_ble_eq_true rfl⟩ (fun _ => rfl) rfl (fun r3 M3 _ => ?_)
  exact hz_iretX hC hr dX8_flat_21 ⟨Nat.le_of_ble_eq_true rfl, Nat.le_of_ble_eq_true rfl⟩
def F_X8_heard (a0 : Int32) (a1 : Int32) (M : hp_M) : Option ((Int32 ⊕ Nat) × hp_M) := (hp_bx (F_X8_checkFlat a0 M) (fun _ M1 => (hp_bx (F_X8_checkFlat a1 M1) (fun _ M2 => (hp_b (F_X2_minutesHeard 0 a0 a1 M2) (fun r3 M3 => (some (.inl r3, M3))))))))
set_option maxRecDepth 20000 in
set_option maxHeartbeats 4000000 in
theorem c_X8_heard (l : Launch) (hl0 : l.stackTraces = false) (a0 : Int32) (a1 : Int32)  (M : hp_M) : hp_CtX l yX8_heard cX8_heard 3 (some .int) 7 4 hp_IC (fun adr adV => [.ref (adr 12 0), .int a0, .int a1]) hp_oi M (F_X8_heard a0 a1 M) := by
  refine hp_startX "HallPhone" (fun adr adV => [(0, .ref (adr 12 0)), (1, .int a0), (2, .int a1)]) (by decide) rfl (fun _ _ => by simp only [lg_sl]; exact Nat.le_of_ble_eq_true rfl) (fun _ _ => rfl) ?_
  intro p e s m args below meth c A D ids adr adV cA rep G0 hI hC hr hE
  unfold F_X8_heard
  refine hz_aload_n (a := 0) (n := 1) hC dX8_heard_0 rfl rfl rfl ?_
  refine hz_iload_n (a := 1) (n := 2) hC dX8_heard_1 rfl rfl rfl ?_
  refine hz_callVX (k := 1) (As := [.int a0]) (st := []) (S1 := fun _ => []) (n := 5) hC hE (c_X8_checkFlat l hl0 a0   M) kv_X8_checkFlat wd_5_128 hI dX8_heard_2 rfl (hI.2 0 (by decide)) he_X8 rfl rfl rfl (Nat.le_of_ble_eq_true rfl) ⟨Nat.le_of_ble_eq_true rfl, Nat.le_of_ble_eq_true rfl⟩ ⟨Nat.le_of_ble_eq_true rfl, Nat.le_of_ble_eq_true rfl⟩ ⟨Nat.le_of_ble_eq_true rfl, Nat.le_of_ble_eq_true rfl⟩ (fun _ => rfl) rfl (fun r1 M1 _ => ?_)
  refine hz_aload_n (a := 0) (n := 6) hC dX8_heard_5 rfl rfl rfl ?_
  refine hz_iload_n (a := 2) (n := 7) hC dX8_heard_6 rfl rfl rfl ?_
  refine hz_callVX (k := 1) (As := [.int a1]) (st := []) (S1 := fun _ => []) (n := 10) hC hE (c_X8_checkFlat l hl0 a1   M1) kv_X8_checkFlat wd_5_128 hI dX8_heard_7 rfl (hI.2 0 (by decide)) he_X8 rfl rfl rfl (Nat.le_of_ble_eq_true rfl) ⟨Nat.le_of_ble_eq_true rfl, Nat.le_of_ble_eq_true rfl⟩ ⟨Nat.le_of_ble_eq_true rfl, Nat.le_of_ble_eq_true rfl⟩ ⟨Nat.le_of_ble_eq_true rfl, Nat.le_of_ble_eq_true rfl⟩ (fun _ => rfl) rfl (fun r2 M2 _ => ?_)
  refine hz_aload_n (a := 0) (n := 11) hC dX8_heard_10 rfl rfl rfl ?_
  refine fg_X8_10 (n := 14) hC hI dX8_heard_11 rfl ?_
  refine hz_iload_n (a := 1) (n := 15) hC dX8_heard_14 rfl rfl rfl ?_
  refine hz_iload_n (a := 2) (n := 16) hC dX8_heard_15 rfl rfl rfl ?_
  refine hz_callVN (k := 2) (As := [.int a0, .int a1]) (st := []) (S1 := fun r => .int r :: []) (n := 19) hC (c_X2_minutesHeard l 0 a0 a1 (by decide)  M2) kv_X2_minutesHeard wd_5_77 hI dX8_heard_16 rfl (hI.1 0 0 (by decide) (by decide)) (he_X2 (by decide)) rfl rfl rfl (Nat.le_of_ble_eq_true rfl) ⟨Nat.le_of_ble_eq_true rfl, Nat.le_of_ble_eq_true rfl⟩ ⟨Nat.le_of_ble_eq_true rfl, Nat.le_of_ble_eq_true rfl⟩ (fun _ => rfl) rfl (fun r3 M3 _ => ?_)
  exact hz_iretX hC hr dX8_heard_19 ⟨Nat.le_of_ble_eq_true rfl, Nat.le_of_ble_eq_true rfl⟩
def F_X8_knowing (a0 : Int32) (M : hp_M) : Option ((Int32 ⊕ Nat) × hp_M) := (hp_bx (F_X8_checkFlat a0 M) (fun _ M1 => (hp_b (F_X2_knowersOf 0 a0 M1) (fun r2 M2 => (some (.inl r2, M2))))))
set_option maxRecDepth 20000 in
set_option maxHeartbeats 4000000 in
theorem c_X8_knowing (l : Launch) (hl0 : l.stackTraces = false) (a0 : Int32)  (M : hp_M) : hp_CtX l yX8_knowing cX8_knowing 2 (some .int) 7 2 hp_IC (fun adr adV => [.ref (adr 12 0), .int a0]) hp_oi M (F_X8_knowing a0 M) := by
  refine hp_startX "HallPhone" (fun adr adV => [(0, .ref (adr 12 0)), (1, .int a0)]) (by decide) rfl (fun _ _ => by simp only [lg_sl]; exact Nat.le_of_ble_eq_true rfl) (fun _ _ => rfl) ?_
  intro p e s m args below meth c A D ids adr adV cA rep G0 hI hC hr hE
  unfold F_X8_knowing
  refine hz_aload_n (a := 0) (n := 1) hC dX8_knowing_0 rfl rfl rfl ?_
  refine hz_iload_n (a := 1) (n := 2) hC dX8_knowing_1 rfl rfl rfl ?_
  refine hz_callVX (k := 1) (As := [.int a0]) (st := []) (S1 := fun _ => []) (n := 5) hC hE (c_X8_checkFlat l hl0 a0   M) kv_X8_checkFlat wd_5_128 hI dX8_knowing_2 rfl (hI.2 0 (by decide)) he_X8 rfl rfl rfl (Nat.le_of_ble_eq_true rfl) ⟨Nat.le_of_ble_eq_true rfl, Nat.le_of_ble_eq_true rfl⟩ ⟨Nat.le_of_ble_eq_true rfl, Nat.le_of_ble_eq_true rfl⟩ ⟨Nat.le_of_ble_eq_true rfl, Nat.le_of_ble_eq_true rfl⟩ (fun _ => rfl) rfl (fun r1 M1 _ => ?_)
  refine hz_aload_n (a := 0) (n := 6) hC dX8_knowing_5 rfl rfl rfl ?_
  refine fg_X8_10 (n := 9) hC hI dX8_knowing_6 rfl ?_
  refine hz_iload_n (a := 1) (n := 10) hC dX8_knowing_9 rfl rfl rfl ?_
  refine hz_callVN (k := 1) (As := [.int a0]) (st := []) (S1 := fun r => .int r :: []) (n := 13) hC (c_X2_knowersOf l 0 a0 (by decide)  M1) kv_X2_knowersOf wd_3_103 hI dX8_knowing_10 rfl (hI.1 0 0 (by decide) (by decide)) (he_X2 (by decide)) rfl rfl rfl (Nat.le_of_ble_eq_true rfl) ⟨Nat.le_of_ble_eq_true rfl, Nat.le_of_ble_eq_true rfl⟩ ⟨Nat.le_of_ble_eq_true rfl, Nat.le_of_ble_eq_true rfl⟩ (fun _ => rfl) rfl (fun r2 M2 _ => ?_)
  exact hz_iretX hC hr dX8_knowing_13 ⟨Nat.le_of_ble_eq_true rfl, Nat.le_of_ble_eq_true rfl⟩
def F_X8_listening (a0 : Int32) (M : hp_M) : Option ((Int32 ⊕ Nat) × hp_M) := (hp_bx (F_X8_checkFlat a0 M) (fun _ M1 => (hp_b (F_X2_listenersOf 0 a0 M1) (fun r2 M2 => (some (.inl r2, M2))))))
set_option maxRecDepth 20000 in
set_option maxHeartbeats 4000000 in
theorem c_X8_listening (l : Launch) (hl0 : l.stackTraces = false) (a0 : Int32)  (M : hp_M) : hp_CtX l yX8_listening cX8_listening 2 (some .int) 7 2 hp_IC (fun adr adV => [.ref (adr 12 0), .int a0]) hp_oi M (F_X8_listening a0 M) := by
  refine hp_startX "HallPhone" (fun adr adV => [(0, .ref (adr 12 0)), (1, .int a0)]) (by decide) rfl (fun _ _ => by simp only [lg_sl]; exact Nat.le_of_ble_eq_true rfl) (fun _ _ => rfl) ?_
  intro p e s m args below meth c A D ids adr adV cA rep G0 hI hC hr hE
  unfold F_X8_listening
  refine hz_aload_n (a := 0) (n := 1) hC dX8_listening_0 rfl rfl rfl ?_
  refine hz_iload_n (a := 1) (n := 2) hC dX8_listening_1 rfl rfl rfl ?_
  refine hz_callVX (k := 1) (As := [.int a0]) (st := []) (S1 := fun _ => []) (n := 5) hC hE (c_X8_checkFlat l hl0 a0   M) kv_X8_checkFlat wd_5_128 hI dX8_listening_2 rfl (hI.2 0 (by decide)) he_X8 rfl rfl rfl (Nat.le_of_ble_eq_true rfl) ⟨Nat.le_of_ble_eq_true rfl, Nat.le_of_ble_eq_true rfl⟩ ⟨Nat.le_of_ble_eq_true rfl, Nat.le_of_ble_eq_true rfl⟩ ⟨Nat.le_of_ble_eq_true rfl, Nat.le_of_ble_eq_true rfl⟩ (fun _ => rfl) rfl (fun r1 M1 _ => ?_)
  refine hz_aload_n (a := 0) (n := 6) hC dX8_listening_5 rfl rfl rfl ?_
  refine fg_X8_10 (n := 9) hC hI dX8_listening_6 rfl ?_
  refine hz_iload_n (a := 1) (n := 10) hC dX8_listening_9 rfl rfl rfl ?_
  refine hz_callVN (k := 1) (As := [.int a0]) (st := []) (S1 := fun r => .int r :: []) (n := 13) hC (c_X2_listenersOf l 0 a0 (by decide)  M1) kv_X2_listenersOf wd_5_190 hI dX8_listening_10 rfl (hI.1 0 0 (by decide) (by decide)) (he_X2 (by decide)) rfl rfl rfl (Nat.le_of_ble_eq_true rfl) ⟨Nat.le_of_ble_eq_true rfl, Nat.le_of_ble_eq_true rfl⟩ ⟨Nat.le_of_ble_eq_true rfl, Nat.le_of_ble_eq_true rfl⟩ (fun _ => rfl) rfl (fun r2 M2 _ => ?_)
  exact hz_iretX hC hr dX8_listening_13 ⟨Nat.le_of_ble_eq_true rfl, Nat.le_of_ble_eq_true rfl⟩
def F_X8_cost (a0 : Int32) (M : hp_M) : Option ((Int32 ⊕ Nat) × hp_M) := (hp_bx (F_X8_checkRange a0 (1 : Int32) (99 : Int32) M) (fun _ M1 => (hp_b (F_X2_costOf 0 a0 M1) (fun r2 M2 => (some (.inl r2, M2))))))
set_option maxRecDepth 20000 in
set_option maxHeartbeats 4000000 in
theorem c_X8_cost (l : Launch) (hl0 : l.stackTraces = false) (a0 : Int32)  (M : hp_M) : hp_CtX l yX8_cost cX8_cost 2 (some .int) 7 2 hp_IC (fun adr adV => [.ref (adr 12 0), .int a0]) hp_oi M (F_X8_cost a0 M) := by
  refine hp_startX "HallPhone" (fun adr adV => [(0, .ref (adr 12 0)), (1, .int a0)]) (by decide) rfl (fun _ _ => by simp only [lg_sl]; exact Nat.le_of_ble_eq_true rfl) (fun _ _ => rfl) ?_
  intro p e s m args below meth c A D ids adr adV cA rep G0 hI hC hr hE
  unfold F_X8_cost
  refine hz_iload_n (a := 1) (n := 1) hC dX8_cost_0 rfl rfl rfl ?_
  refine hz_iconst (v := (1 : Int32)) (n := 2) hC dX8_cost_1 (by decide +kernel) rfl ?_
  refine hz_bipush (v := (99 : Int32)) (n := 4) hC dX8_cost_2 (by decide +kernel) rfl ?_
  refine hz_callSX (k := 3) (As := [.int a0, .int (1 : Int32), .int (99 : Int32)]) (st := []) (S1 := fun _ => []) (n := 7) hC hE (c_X8_checkRange l hl0 a0 (1 : Int32) (99 : Int32)   M) ks_X8_checkRange wd_5_86 hI dX8_cost_4 rfl rfl rfl (Nat.le_of_ble_eq_true rfl) ⟨Nat.le_of_ble_eq_true rfl, Nat.le_of_ble_eq_true rfl⟩ ⟨Nat.le_of_ble_eq_true rfl, Nat.le_of_ble_eq_true rfl⟩ ⟨Nat.le_of_ble_eq_true rfl, Nat.le_of_ble_eq_true rfl⟩ (fun _ => rfl) rfl (fun r1 M1 _ => ?_)
  refine hz_aload_n (a := 0) (n := 8) hC dX8_cost_7 rfl rfl rfl ?_
  refine fg_X8_10 (n := 11) hC hI dX8_cost_8 rfl ?_
  refine hz_iload_n (a := 1) (n := 12) hC dX8_cost_11 rfl rfl rfl ?_
  refine hz_callVN (k := 1) (As := [.int a0]) (st := []) (S1 := fun r => .int r :: []) (n := 15) hC (c_X2_costOf l 0 a0 (by decide)  M1) kv_X2_costOf wd_5_201 hI dX8_cost_12 rfl (hI.1 0 0 (by decide) (by decide)) (he_X2 (by decide)) rfl rfl rfl (Nat.le_of_ble_eq_true rfl) ⟨Nat.le_of_ble_eq_true rfl, Nat.le_of_ble_eq_true rfl⟩ ⟨Nat.le_of_ble_eq_true rfl, Nat.le_of_ble_eq_true rfl⟩ (fun _ => rfl) rfl (fun r2 M2 _ => ?_)
  exact hz_iretX hC hr dX8_cost_15 ⟨Nat.le_of_ble_eq_true rfl, Nat.le_of_ble_eq_true rfl⟩
def F_X8_why (a0 : Int32) (a1 : Int32) (M : hp_M) : Option ((Int32 ⊕ Nat) × hp_M) := (hp_bx (F_X8_checkFlat a0 M) (fun _ M1 => (hp_bx (F_X8_checkRange a1 (0 : Int32) (1 : Int32) M1) (fun _ M2 => (hp_b (F_X2_reasonOf 0 a0 M2) (fun r3 M3 => (if a1 = 0 then (some (.inl r3, M3)) else (hp_b (F_X2_causeOf 0 a0 r3 M3) (fun r4 M4 => (some (.inl r4, M4)))))))))))
set_option maxRecDepth 20000 in
set_option maxHeartbeats 4000000 in
theorem c_X8_why (l : Launch) (hl0 : l.stackTraces = false) (a0 : Int32) (a1 : Int32)  (M : hp_M) : hp_CtX l yX8_why cX8_why 4 (some .int) 7 4 hp_IC (fun adr adV => [.ref (adr 12 0), .int a0, .int a1]) hp_oi M (F_X8_why a0 a1 M) := by
  refine hp_startX "HallPhone" (fun adr adV => [(0, .ref (adr 12 0)), (1, .int a0), (2, .int a1)]) (by decide) rfl (fun _ _ => by simp only [lg_sl]; exact Nat.le_of_ble_eq_true rfl) (fun _ _ => rfl) ?_
  intro p e s m args below meth c A D ids adr adV cA rep G0 hI hC hr hE
  unfold F_X8_why
  refine hz_aload_n (a := 0) (n := 1) hC dX8_why_0 rfl rfl rfl ?_
  refine hz_iload_n (a := 1) (n := 2) hC dX8_why_1 rfl rfl rfl ?_
  refine hz_callVX (k := 1) (As := [.int a0]) (st := []) (S1 := fun _ => []) (n := 5) hC hE (c_X8_checkFlat l hl0 a0   M) kv_X8_checkFlat wd_5_128 hI dX8_why_2 rfl (hI.2 0 (by decide)) he_X8 rfl rfl rfl (Nat.le_of_ble_eq_true rfl) ⟨Nat.le_of_ble_eq_true rfl, Nat.le_of_ble_eq_true rfl⟩ ⟨Nat.le_of_ble_eq_true rfl, Nat.le_of_ble_eq_true rfl⟩ ⟨Nat.le_of_ble_eq_true rfl, Nat.le_of_ble_eq_true rfl⟩ (fun _ => rfl) rfl (fun r1 M1 _ => ?_)
  refine hz_iload_n (a := 2) (n := 6) hC dX8_why_5 rfl rfl rfl ?_
  refine hz_iconst (v := (0 : Int32)) (n := 7) hC dX8_why_6 (by decide +kernel) rfl ?_
  refine hz_iconst (v := (1 : Int32)) (n := 8) hC dX8_why_7 (by decide +kernel) rfl ?_
  refine hz_callSX (k := 3) (As := [.int a1, .int (0 : Int32), .int (1 : Int32)]) (st := []) (S1 := fun _ => []) (n := 11) hC hE (c_X8_checkRange l hl0 a1 (0 : Int32) (1 : Int32)   M1) ks_X8_checkRange wd_5_86 hI dX8_why_8 rfl rfl rfl (Nat.le_of_ble_eq_true rfl) ⟨Nat.le_of_ble_eq_true rfl, Nat.le_of_ble_eq_true rfl⟩ ⟨Nat.le_of_ble_eq_true rfl, Nat.le_of_ble_eq_true rfl⟩ ⟨Nat.le_of_ble_eq_true rfl, Nat.le_of_ble_eq_true rfl⟩ (fun _ => rfl) rfl (fun r2 M2 _ => ?_)
  refine hz_aload_n (a := 0) (n := 12) hC dX8_why_11 rfl rfl rfl ?_
  refine fg_X8_10 (n := 15) hC hI dX8_why_12 rfl ?_
  refine hz_iload_n (a := 1) (n := 16) hC dX8_why_15 rfl rfl rfl ?_
  refine hz_callVN (k := 1) (As := [.int a0]) (st := []) (S1 := fun r => .int r :: []) (n := 19) hC (c_X2_reasonOf l 0 a0 (by decide)  M2) kv_X2_reasonOf wd_5_209 hI dX8_why_16 rfl (hI.1 0 0 (by decide) (by decide)) (he_X2 (by decide)) rfl rfl rfl (Nat.le_of_ble_eq_true rfl) ⟨Nat.le_of_ble_eq_true rfl, Nat.le_of_ble_eq_true rfl⟩ ⟨Nat.le_of_ble_eq_true rfl, Nat.le_of_ble_eq_true rfl⟩ (fun _ => rfl) rfl (fun r3 M3 _ => ?_)
  refine hz_istore_n (L' := [(3, .int r3), (0, .ref (adr 12 0)), (1, .int a0), (2, .int a1)]) (n := 20) hC dX8_why_19 rfl (by decide) rfl rfl ?_
  refine hz_iload_n (a := 3) (n := 21) hC dX8_why_20 rfl rfl rfl ?_
  refine hz_if_ne (tgt := 28) (n := 24) hC dX8_why_21 (by decide) rfl (fun _ => ?_) (fun _ => ?_)
  · refine hz_iload_n (a := 0) (n := 25) hC dX8_why_24 rfl rfl rfl ?_
    refine hz_goto (n := 37) hC dX8_why_25 (by decide) ?_
    exact hz_iretX hC hr dX8_why_37 ⟨Nat.le_of_ble_eq_true rfl, Nat.le_of_ble_eq_true rfl⟩
  · refine hz_aload_n (a := 1) (n := 29) hC dX8_why_28 rfl rfl rfl ?_
    refine fg_X8_10 (n := 32) hC hI dX8_why_29 rfl ?_
    refine hz_iload_n (a := 2) (n := 33) hC dX8_why_32 rfl rfl rfl ?_
    refine hz_iload_n (a := 0) (n := 34) hC dX8_why_33 rfl rfl rfl ?_
    refine hz_callVN (k := 2) (As := [.int a0, .int r3]) (st := []) (S1 := fun r => .int r :: []) (n := 37) hC (c_X2_causeOf l 0 a0 r3 (by decide)  M3) kv_X2_causeOf wd_5_213 hI dX8_why_34 rfl (hI.1 0 0 (by decide) (by decide)) (he_X2 (by decide)) rfl rfl rfl (Nat.le_of_ble_eq_true rfl) ⟨Nat.le_of_ble_eq_true rfl, Nat.le_of_ble_eq_true rfl⟩ ⟨Nat.le_of_ble_eq_true rfl, Nat.le_of_ble_eq_true rfl⟩ (fun _ => rfl) rfl (fun r4 M4 _ => ?_)
    exact hz_iretX hC hr dX8_why_37 ⟨Nat.le_of_ble_eq_true rfl, Nat.le_of_ble_eq_true rfl⟩
def F_X8_speaksIn (a0 : Int32) (M : hp_M) : Option ((Int32 ⊕ Nat) × hp_M) := (hp_bx (F_X8_checkFlat a0 M) (fun _ M1 => (hp_b (F_X2_copyFrom 1 0 M1) (fun _ M2 => (hp_b (F_X2_minutesTillSpeaking 1 a0 M2) (fun r3 M3 => (some (.inl r3, M3))))))))
set_option maxRecDepth 20000 in
set_option maxHeartbeats 4000000 in
theorem c_X8_speaksIn (l : Launch) (hl0 : l.stackTraces = false) (a0 : Int32)  (M : hp_M) : hp_CtX l yX8_speaksIn cX8_speaksIn 2 (some .int) 7 2 hp_IC (fun adr adV => [.ref (adr 12 0), .int a0]) hp_oi M (F_X8_speaksIn a0 M) := by
  refine hp_startX "HallPhone" (fun adr adV => [(0, .ref (adr 12 0)), (1, .int a0)]) (by decide) rfl (fun _ _ => by simp only [lg_sl]; exact Nat.le_of_ble_eq_true rfl) (fun _ _ => rfl) ?_
  intro p e s m args below meth c A D ids adr adV cA rep G0 hI hC hr hE
  unfold F_X8_speaksIn
  refine hz_aload_n (a := 0) (n := 1) hC dX8_speaksIn_0 rfl rfl rfl ?_
  refine hz_iload_n (a := 1) (n := 2) hC dX8_speaksIn_1 rfl rfl rfl ?_
  refine hz_callVX (k := 1) (As := [.int a0]) (st := []) (S1 := fun _ => []) (n := 5) hC hE (c_X8_checkFlat l hl0 a0   M) kv_X8_checkFlat wd_5_128 hI dX8_speaksIn_2 rfl (hI.2 0 (by decide)) he_X8 rfl rfl rfl (Nat.le_of_ble_eq_true rfl) ⟨Nat.le_of_ble_eq_true rfl, Nat.le_of_ble_eq_true rfl⟩ ⟨Nat.le_of_ble_eq_true rfl, Nat.le_of_ble_eq_true rfl⟩ ⟨Nat.le_of_ble_eq_true rfl, Nat.le_of_ble_eq_true rfl⟩ (fun _ => rfl) rfl (fun r1 M1 _ => ?_)
  refine hz_aload_n (a := 0) (n := 6) hC dX8_speaksIn_5 rfl rfl rfl ?_
  refine fg_X8_16 (n := 9) hC hI dX8_speaksIn_6 rfl ?_
  refine hz_aload_n (a := 0) (n := 10) hC dX8_speaksIn_9 rfl rfl rfl ?_
  refine fg_X8_10 (n := 13) hC hI dX8_speaksIn_10 rfl ?_
  refine hz_callVN (k := 1) (As := [.ref (adr 0 0)]) (st := []) (S1 := fun _ => []) (n := 16) hC (c_X2_copyFrom l 1 0 (by decide) (by decide)  M1) kv_X2_copyFrom wd_3_33 hI dX8_speaksIn_13 rfl (hI.1 1 0 (by decide) (by decide)) (he_X2 (by decide)) rfl rfl rfl (Nat.le_of_ble_eq_true rfl) ⟨Nat.le_of_ble_eq_true rfl, Nat.le_of_ble_eq_true rfl⟩ ⟨Nat.le_of_ble_eq_true rfl, Nat.le_of_ble_eq_true rfl⟩ (fun _ => rfl) rfl (fun r2 M2 _ => ?_)
  refine hz_aload_n (a := 0) (n := 17) hC dX8_speaksIn_16 rfl rfl rfl ?_
  refine fg_X8_16 (n := 20) hC hI dX8_speaksIn_17 rfl ?_
  refine hz_iload_n (a := 1) (n := 21) hC dX8_speaksIn_20 rfl rfl rfl ?_
  refine hz_callVN (k := 1) (As := [.int a0]) (st := []) (S1 := fun r => .int r :: []) (n := 24) hC (c_X2_minutesTillSpeaking l 1 a0 (by decide)  M2) kv_X2_minutesTillSpeaking wd_5_224 hI dX8_speaksIn_21 rfl (hI.1 1 0 (by decide) (by decide)) (he_X2 (by decide)) rfl rfl rfl (Nat.le_of_ble_eq_true rfl) ⟨Nat.le_of_ble_eq_true rfl, Nat.le_of_ble_eq_true rfl⟩ ⟨Nat.le_of_ble_eq_true rfl, Nat.le_of_ble_eq_true rfl⟩ (fun _ => rfl) rfl (fun r3 M3 _ => ?_)
  exact hz_iretX hC hr dX8_speaksIn_24 ⟨Nat.le_of_ble_eq_true rfl, Nat.le_of_ble_eq_true rfl⟩
def F_X8_later (a0 : Int32) (M : hp_M) : Option ((Nat ⊕ Nat) × hp_M) := (hp_bx (F_X8_checkRange a0 (0 : Int32) (500 : Int32) M) (fun _ M1 => (hp_b (F_X2_copyFrom 1 0 M1) (fun _ M2 => (hp_b (F_X2_letPass 1 a0 M2) (fun r3 M3 => (some (.inl 1, M3))))))))
set_option maxRecDepth 20000 in
set_option maxHeartbeats 4000000 in
theorem c_X8_later (l : Launch) (hl0 : l.stackTraces = false) (a0 : Int32)  (M : hp_M) : hp_CtX l yX8_later cX8_later 2 (some (.object "HallPhone$House")) 7 2 hp_IC (fun adr adV => [.ref (adr 12 0), .int a0]) hp_oh M (F_X8_later a0 M) := by
  refine hp_startX "HallPhone" (fun adr adV => [(0, .ref (adr 12 0)), (1, .int a0)]) (by decide) rfl (fun _ _ => by simp only [lg_sl]; exact Nat.le_of_ble_eq_true rfl) (fun _ _ => rfl) ?_
  intro p e s m args below meth c A D ids adr adV cA rep G0 hI hC hr hE
  unfold F_X8_later
  refine hz_iload_n (a := 1) (n := 1) hC dX8_later_0 rfl rfl rfl ?_
  refine hz_iconst (v := (0 : Int32)) (n := 2) hC dX8_later_1 (by decide +kernel) rfl ?_
  refine hz_sipush (v := (500 : Int32)) (n := 5) hC dX8_later_2 (by decide +kernel) rfl ?_
  refine hz_callSX (k := 3) (As := [.int a0, .int (0 : Int32), .int (500 : Int32)]) (st := []) (S1 := fun _ => []) (n := 8) hC hE (c_X8_checkRange l hl0 a0 (0 : Int32) (500 : Int32)   M) ks_X8_checkRange wd_5_86 hI dX8_later_5 rfl rfl rfl (Nat.le_of_ble_eq_true rfl) ⟨Nat.le_of_ble_eq_true rfl, Nat.le_of_ble_eq_true rfl⟩ ⟨Nat.le_of_ble_eq_true rfl, Nat.le_of_ble_eq_true rfl⟩ ⟨Nat.le_of_ble_eq_true rfl, Nat.le_of_ble_eq_true rfl⟩ (fun _ => rfl) rfl (fun r1 M1 _ => ?_)
  refine hz_aload_n (a := 0) (n := 9) hC dX8_later_8 rfl rfl rfl ?_
  refine fg_X8_16 (n := 12) hC hI dX8_later_9 rfl ?_
  refine hz_aload_n (a := 0) (n := 13) hC dX8_later_12 rfl rfl rfl ?_
  refine fg_X8_10 (n := 16) hC hI dX8_later_13 rfl ?_
  refine hz_callVN (k := 1) (As := [.ref (adr 0 0)]) (st := []) (S1 := fun _ => []) (n := 19) hC (c_X2_copyFrom l 1 0 (by decide) (by decide)  M1) kv_X2_copyFrom wd_3_33 hI dX8_later_16 rfl (hI.1 1 0 (by decide) (by decide)) (he_X2 (by decide)) rfl rfl rfl (Nat.le_of_ble_eq_true rfl) ⟨Nat.le_of_ble_eq_true rfl, Nat.le_of_ble_eq_true rfl⟩ ⟨Nat.le_of_ble_eq_true rfl, Nat.le_of_ble_eq_true rfl⟩ (fun _ => rfl) rfl (fun r2 M2 _ => ?_)
  refine hz_aload_n (a := 0) (n := 20) hC dX8_later_19 rfl rfl rfl ?_
  refine fg_X8_16 (n := 23) hC hI dX8_later_20 rfl ?_
  refine hz_iload_n (a := 1) (n := 24) hC dX8_later_23 rfl rfl rfl ?_
  refine hz_callVN (k := 1) (As := [.int a0]) (st := []) (S1 := fun r => .int r :: []) (n := 27) hC (c_X2_letPass l 1 a0 (by decide)  M2) kv_X2_letPass wd_5_239 hI dX8_later_24 rfl (hI.1 1 0 (by decide) (by decide)) (he_X2 (by decide)) rfl rfl rfl (Nat.le_of_ble_eq_true rfl) ⟨Nat.le_of_ble_eq_true rfl, Nat.le_of_ble_eq_true rfl⟩ ⟨Nat.le_of_ble_eq_true rfl, Nat.le_of_ble_eq_true rfl⟩ (fun _ => rfl) rfl (fun r3 M3 _ => ?_)
  refine hz_pop (n := 28) hC dX8_later_27 rfl rfl ?_
  refine hz_aload_n (a := 0) (n := 29) hC dX8_later_28 rfl rfl rfl ?_
  refine fg_X8_16 (n := 32) hC hI dX8_later_29 rfl ?_
  exact hz_hretX hC hr (Or.inl ⟨_, rfl⟩) dX8_later_32 ⟨Nat.le_of_ble_eq_true rfl, Nat.le_of_ble_eq_true rfl⟩
def F_X8_flatIn (a0 : Int32) (a1 : Int32) (M : hp_M) : Option ((Int32 ⊕ Nat) × hp_M) := (hp_bx (F_X8_checkFlat a0 M) (fun _ M1 => (hp_bx (F_X8_later a1 M1) (fun r2 M2 => (if r2 < 12 then (hp_b (F_X2_get r2 a0 (2 : Int32) M2) (fun r3 M3 => (some (.inl r3, M3)))) else none)))))
set_option maxRecDepth 20000 in
set_option maxHeartbeats 4000000 in
theorem c_X8_flatIn (l : Launch) (hl0 : l.stackTraces = false) (a0 : Int32) (a1 : Int32)  (M : hp_M) : hp_CtX l yX8_flatIn cX8_flatIn 3 (some .int) 8 4 hp_IC (fun adr adV => [.ref (adr 12 0), .int a0, .int a1]) hp_oi M (F_X8_flatIn a0 a1 M) := by
  refine hp_startX "HallPhone" (fun adr adV => [(0, .ref (adr 12 0)), (1, .int a0), (2, .int a1)]) (by decide) rfl (fun _ _ => by simp only [lg_sl]; exact Nat.le_of_ble_eq_true rfl) (fun _ _ => rfl) ?_
  intro p e s m args below meth c A D ids adr adV cA rep G0 hI hC hr hE
  unfold F_X8_flatIn
  refine hz_aload_n (a := 0) (n := 1) hC dX8_flatIn_0 rfl rfl rfl ?_
  refine hz_iload_n (a := 1) (n := 2) hC dX8_flatIn_1 rfl rfl rfl ?_
  refine hz_callVX (k := 1) (As := [.int a0]) (st := []) (S1 := fun _ => []) (n := 5) hC hE (c_X8_checkFlat l hl0 a0   M) kv_X8_checkFlat wd_5_128 hI dX8_flatIn_2 rfl (hI.2 0 (by decide)) he_X8 rfl rfl rfl (Nat.le_of_ble_eq_true rfl) ⟨Nat.le_of_ble_eq_true rfl, Nat.le_of_ble_eq_true rfl⟩ ⟨Nat.le_of_ble_eq_true rfl, Nat.le_of_ble_eq_true rfl⟩ ⟨Nat.le_of_ble_eq_true rfl, Nat.le_of_ble_eq_true rfl⟩ (fun _ => rfl) rfl (fun r1 M1 _ => ?_)
  refine hz_aload_n (a := 0) (n := 6) hC dX8_flatIn_5 rfl rfl rfl ?_
  refine hz_iload_n (a := 2) (n := 7) hC dX8_flatIn_6 rfl rfl rfl ?_
  refine hz_callVX (k := 1) (As := [.int a1]) (st := []) (S1 := fun r => .ref (adr r 0) :: []) (n := 10) hC hE (c_X8_later l hl0 a1   M1) kv_X8_later wd_5_235 hI dX8_flatIn_7 rfl (hI.2 0 (by decide)) he_X8 rfl rfl rfl (Nat.le_of_ble_eq_true rfl) ⟨Nat.le_of_ble_eq_true rfl, Nat.le_of_ble_eq_true rfl⟩ ⟨Nat.le_of_ble_eq_true rfl, Nat.le_of_ble_eq_true rfl⟩ ⟨Nat.le_of_ble_eq_true rfl, Nat.le_of_ble_eq_true rfl⟩ (fun _ => rfl) rfl (fun r2 M2 _ => ?_)
  refine hz_case (fun hr2 => ?_) (fun _ => hz_none hC)
  refine hz_iload_n (a := 1) (n := 11) hC dX8_flatIn_10 rfl rfl rfl ?_
  refine hz_iconst (v := (2 : Int32)) (n := 12) hC dX8_flatIn_11 (by decide +kernel) rfl ?_
  refine hz_callVN (k := 2) (As := [.int a0, .int (2 : Int32)]) (st := []) (S1 := fun r => .int r :: []) (n := 15) hC (c_X2_get l r2 a0 (2 : Int32) hr2  M2) kv_X2_get wd_5_11 hI dX8_flatIn_12 rfl (hI.1 r2 0 hr2 (by decide)) (he_X2 hr2) rfl rfl rfl (Nat.le_of_ble_eq_true rfl) ⟨Nat.le_of_ble_eq_true rfl, Nat.le_of_ble_eq_true rfl⟩ ⟨Nat.le_of_ble_eq_true rfl, Nat.le_of_ble_eq_true rfl⟩ (fun _ => rfl) rfl (fun r3 M3 _ => ?_)
  exact hz_iretX hC hr dX8_flatIn_15 ⟨Nat.le_of_ble_eq_true rfl, Nat.le_of_ble_eq_true rfl⟩
def F_X8_debtIn (a0 : Int32) (a1 : Int32) (M : hp_M) : Option ((Int32 ⊕ Nat) × hp_M) := (hp_bx (F_X8_checkFlat a0 M) (fun _ M1 => (hp_bx (F_X8_later a1 M1) (fun r2 M2 => (if r2 < 12 then (hp_b (F_X2_get r2 a0 (6 : Int32) M2) (fun r3 M3 => (some (.inl r3, M3)))) else none)))))
set_option maxRecDepth 20000 in
set_option maxHeartbeats 4000000 in
theorem c_X8_debtIn (l : Launch) (hl0 : l.stackTraces = false) (a0 : Int32) (a1 : Int32)  (M : hp_M) : hp_CtX l yX8_debtIn cX8_debtIn 3 (some .int) 8 4 hp_IC (fun adr adV => [.ref (adr 12 0), .int a0, .int a1]) hp_oi M (F_X8_debtIn a0 a1 M) := by
  refine hp_startX "HallPhone" (fun adr adV => [(0, .ref (adr 12 0)), (1, .int a0), (2, .int a1)]) (by decide) rfl (fun _ _ => by simp only [lg_sl]; exact Nat.le_of_ble_eq_true rfl) (fun _ _ => rfl) ?_
  intro p e s m args below meth c A D ids adr adV cA rep G0 hI hC hr hE
  unfold F_X8_debtIn
  refine hz_aload_n (a := 0) (n := 1) hC dX8_debtIn_0 rfl rfl rfl ?_
  refine hz_iload_n (a := 1) (n := 2) hC dX8_debtIn_1 rfl rfl rfl ?_
  refine hz_callVX (k := 1) (As := [.int a0]) (st := []) (S1 := fun _ => []) (n := 5) hC hE (c_X8_checkFlat l hl0 a0   M) kv_X8_checkFlat wd_5_128 hI dX8_debtIn_2 rfl (hI.2 0 (by decide)) he_X8 rfl rfl rfl (Nat.le_of_ble_eq_true rfl) ⟨Nat.le_of_ble_eq_true rfl, Nat.le_of_ble_eq_true rfl⟩ ⟨Nat.le_of_ble_eq_true rfl, Nat.le_of_ble_eq_true rfl⟩ ⟨Nat.le_of_ble_eq_true rfl, Nat.le_of_ble_eq_true rfl⟩ (fun _ => rfl) rfl (fun r1 M1 _ => ?_)
  refine hz_aload_n (a := 0) (n := 6) hC dX8_debtIn_5 rfl rfl rfl ?_
  refine hz_iload_n (a := 2) (n := 7) hC dX8_debtIn_6 rfl rfl rfl ?_
  refine hz_callVX (k := 1) (As := [.int a1]) (st := []) (S1 := fun r => .ref (adr r 0) :: []) (n := 10) hC hE (c_X8_later l hl0 a1   M1) kv_X8_later wd_5_235 hI dX8_debtIn_7 rfl (hI.2 0 (by decide)) he_X8 rfl rfl rfl (Nat.le_of_ble_eq_true rfl) ⟨Nat.le_of_ble_eq_true rfl, Nat.le_of_ble_eq_true rfl⟩ ⟨Nat.le_of_ble_eq_true rfl, Nat.le_of_ble_eq_true rfl⟩ ⟨Nat.le_of_ble_eq_true rfl, Nat.le_of_ble_eq_true rfl⟩ (fun _ => rfl) rfl (fun r2 M2 _ => ?_)
  refine hz_case (fun hr2 => ?_) (fun _ => hz_none hC)
  refine hz_iload_n (a := 1) (n := 11) hC dX8_debtIn_10 rfl rfl rfl ?_
  refine hz_bipush (v := (6 : Int32)) (n := 13) hC dX8_debtIn_11 (by decide +kernel) rfl ?_
  refine hz_callVN (k := 2) (As := [.int a0, .int (6 : Int32)]) (st := []) (S1 := fun r => .int r :: []) (n := 16) hC (c_X2_get l r2 a0 (6 : Int32) hr2  M2) kv_X2_get wd_5_11 hI dX8_debtIn_13 rfl (hI.1 r2 0 hr2 (by decide)) (he_X2 hr2) rfl rfl rfl (Nat.le_of_ble_eq_true rfl) ⟨Nat.le_of_ble_eq_true rfl, Nat.le_of_ble_eq_true rfl⟩ ⟨Nat.le_of_ble_eq_true rfl, Nat.le_of_ble_eq_true rfl⟩ (fun _ => rfl) rfl (fun r3 M3 _ => ?_)
  exact hz_iretX hC hr dX8_debtIn_16 ⟨Nat.le_of_ble_eq_true rfl, Nat.le_of_ble_eq_true rfl⟩
def F_X8_waitIf (a0 : Int32) (M : hp_M) : Option ((Int32 ⊕ Nat) × hp_M) := (hp_bx (F_X8_checkFlat a0 M) (fun _ M1 => (hp_b (F_X2_refusal 0 6 a0 (99 : Int32) M1) (fun r2 M2 => (if r2 = 0 then (hp_b (F_X2_copyFrom 1 0 M2) (fun _ M3 => (hp_b (F_X2_perform 1 6 a0 (99 : Int32) M3) (fun r4 M4 => (hp_b (F_X2_minutesTillSpeaking 1 a0 M4) (fun r5 M5 => (some (.inl r5, M5)))))))) else (some (.inl (-1 : Int32), M2)))))))
set_option maxRecDepth 20000 in
set_option maxHeartbeats 4000000 in
theorem c_X8_waitIf (l : Launch) (hl0 : l.stackTraces = false) (a0 : Int32)  (M : hp_M) : hp_CtX l yX8_waitIf cX8_waitIf 2 (some .int) 7 2 hp_IC (fun adr adV => [.ref (adr 12 0), .int a0]) hp_oi M (F_X8_waitIf a0 M) := by
  refine hp_startX "HallPhone" (fun adr adV => [(0, .ref (adr 12 0)), (1, .int a0)]) (by decide) rfl (fun _ _ => by simp only [lg_sl]; exact Nat.le_of_ble_eq_true rfl) (fun _ _ => rfl) ?_
  intro p e s m args below meth c A D ids adr adV cA rep G0 hI hC hr hE
  unfold F_X8_waitIf
  refine hz_aload_n (a := 0) (n := 1) hC dX8_waitIf_0 rfl rfl rfl ?_
  refine hz_iload_n (a := 1) (n := 2) hC dX8_waitIf_1 rfl rfl rfl ?_
  refine hz_callVX (k := 1) (As := [.int a0]) (st := []) (S1 := fun _ => []) (n := 5) hC hE (c_X8_checkFlat l hl0 a0   M) kv_X8_checkFlat wd_5_128 hI dX8_waitIf_2 rfl (hI.2 0 (by decide)) he_X8 rfl rfl rfl (Nat.le_of_ble_eq_true rfl) ⟨Nat.le_of_ble_eq_true rfl, Nat.le_of_ble_eq_true rfl⟩ ⟨Nat.le_of_ble_eq_true rfl, Nat.le_of_ble_eq_true rfl⟩ ⟨Nat.le_of_ble_eq_true rfl, Nat.le_of_ble_eq_true rfl⟩ (fun _ => rfl) rfl (fun r1 M1 _ => ?_)
  refine hz_aload_n (a := 0) (n := 6) hC dX8_waitIf_5 rfl rfl rfl ?_
  refine fg_X8_10 (n := 9) hC hI dX8_waitIf_6 rfl ?_
  refine hz_gets (k := 6) (n := 12) hC dX8_waitIf_9 wd_6_15 wd_1_18.1 (hp_st_vn 6 (by decide)) wd_6_14 rfl ?_
  refine hz_iload_n (a := 1) (n := 13) hC dX8_waitIf_12 rfl rfl rfl ?_
  refine hz_bipush (v := (99 : Int32)) (n := 15) hC dX8_waitIf_13 (by decide +kernel) rfl ?_
  refine hz_callVN (k := 3) (As := [.ref (adV 6), .int a0, .int (99 : Int32)]) (st := []) (S1 := fun r => .int r :: []) (n := 18) hC (c_X2_refusal l 0 6 a0 (99 : Int32) (by decide) (by decide)  M1) kv_X2_refusal wd_2_144 hI dX8_waitIf_15 rfl (hI.1 0 0 (by decide) (by decide)) (he_X2 (by decide)) rfl rfl rfl (Nat.le_of_ble_eq_true rfl) ⟨Nat.le_of_ble_eq_true rfl, Nat.le_of_ble_eq_true rfl⟩ ⟨Nat.le_of_ble_eq_true rfl, Nat.le_of_ble_eq_true rfl⟩ (fun _ => rfl) rfl (fun r2 M2 _ => ?_)
  refine hz_if_eq (tgt := 23) (n := 21) hC dX8_waitIf_18 (by decide) rfl (fun _ => ?_) (fun _ => ?_)
  · refine hz_aload_n (a := 0) (n := 24) hC dX8_waitIf_23 rfl rfl rfl ?_
    refine fg_X8_16 (n := 27) hC hI dX8_waitIf_24 rfl ?_
    refine hz_aload_n (a := 0) (n := 28) hC dX8_waitIf_27 rfl rfl rfl ?_
    refine fg_X8_10 (n := 31) hC hI dX8_waitIf_28 rfl ?_
    refine hz_callVN (k := 1) (As := [.ref (adr 0 0)]) (st := []) (S1 := fun _ => []) (n := 34) hC (c_X2_copyFrom l 1 0 (by decide) (by decide)  M2) kv_X2_copyFrom wd_3_33 hI dX8_waitIf_31 rfl (hI.1 1 0 (by decide) (by decide)) (he_X2 (by decide)) rfl rfl rfl (Nat.le_of_ble_eq_true rfl) ⟨Nat.le_of_ble_eq_true rfl, Nat.le_of_ble_eq_true rfl⟩ ⟨Nat.le_of_ble_eq_true rfl, Nat.le_of_ble_eq_true rfl⟩ (fun _ => rfl) rfl (fun r3 M3 _ => ?_)
    refine hz_aload_n (a := 0) (n := 35) hC dX8_waitIf_34 rfl rfl rfl ?_
    refine fg_X8_16 (n := 38) hC hI dX8_waitIf_35 rfl ?_
    refine hz_gets (k := 6) (n := 41) hC dX8_waitIf_38 wd_6_15 wd_1_18.1 (hp_st_vn 6 (by decide)) wd_6_14 rfl ?_
    refine hz_iload_n (a := 1) (n := 42) hC dX8_waitIf_41 rfl rfl rfl ?_
    refine hz_bipush (v := (99 : Int32)) (n := 44) hC dX8_waitIf_42 (by decide +kernel) rfl ?_
    refine hz_callVN (k := 3) (As := [.ref (adV 6), .int a0, .int (99 : Int32)]) (st := []) (S1 := fun r => .int r :: []) (n := 47) hC (c_X2_perform l 1 6 a0 (99 : Int32) (by decide) (by decide)  M3) kv_X2_perform wd_2_164 hI dX8_waitIf_44 rfl (hI.1 1 0 (by decide) (by decide)) (he_X2 (by decide)) rfl rfl rfl (Nat.le_of_ble_eq_true rfl) ⟨Nat.le_of_ble_eq_true rfl, Nat.le_of_ble_eq_true rfl⟩ ⟨Nat.le_of_ble_eq_true rfl, Nat.le_of_ble_eq_true rfl⟩ (fun _ => rfl) rfl (fun r4 M4 _ => ?_)
    refine hz_pop (n := 48) hC dX8_waitIf_47 rfl rfl ?_
    refine hz_aload_n (a := 0) (n := 49) hC dX8_waitIf_48 rfl rfl rfl ?_
    refine fg_X8_16 (n := 52) hC hI dX8_waitIf_49 rfl ?_
    refine hz_iload_n (a := 1) (n := 53) hC dX8_waitIf_52 rfl rfl rfl ?_
    refine hz_callVN (k := 1) (As := [.int a0]) (st := []) (S1 := fun r => .int r :: []) (n := 56) hC (c_X2_minutesTillSpeaking l 1 a0 (by decide)  M4) kv_X2_minutesTillSpeaking wd_5_224 hI dX8_waitIf_53 rfl (hI.1 1 0 (by decide) (by decide)) (he_X2 (by decide)) rfl rfl rfl (Nat.le_of_ble_eq_true rfl) ⟨Nat.le_of_ble_eq_true rfl, Nat.le_of_ble_eq_true rfl⟩ ⟨Nat.le_of_ble_eq_true rfl, Nat.le_of_ble_eq_true rfl⟩ (fun _ => rfl) rfl (fun r5 M5 _ => ?_)
    exact hz_iretX hC hr dX8_waitIf_56 ⟨Nat.le_of_ble_eq_true rfl, Nat.le_of_ble_eq_true rfl⟩
  · refine hz_iconst (v := (-1 : Int32)) (n := 22) hC dX8_waitIf_21 (by decide +kernel) rfl ?_
    exact hz_iretX hC hr dX8_waitIf_22 ⟨Nat.le_of_ble_eq_true rfl, Nat.le_of_ble_eq_true rfl⟩
def F_X8_learnsIn (a0 : Int32) (a1 : Int32) (M : hp_M) : Option ((Int32 ⊕ Nat) × hp_M) := (hp_bx (F_X8_checkFlat a0 M) (fun _ M1 => (hp_bx (F_X8_later a1 M1) (fun r2 M2 => (if r2 < 12 then (hp_b (F_X2_knownTo r2 a0 M2) (fun r3 M3 => (hp_b (F_X2_knownTo 0 a0 M3) (fun r4 M4 => (some (.inl (r3 &&& (r4 ^^^ (-1 : Int32))), M4)))))) else none)))))
set_option maxRecDepth 20000 in
set_option maxHeartbeats 4000000 in
theorem c_X8_learnsIn (l : Launch) (hl0 : l.stackTraces = false) (a0 : Int32) (a1 : Int32)  (M : hp_M) : hp_CtX l yX8_learnsIn cX8_learnsIn 3 (some .int) 8 4 hp_IC (fun adr adV => [.ref (adr 12 0), .int a0, .int a1]) hp_oi M (F_X8_learnsIn a0 a1 M) := by
  refine hp_startX "HallPhone" (fun adr adV => [(0, .ref (adr 12 0)), (1, .int a0), (2, .int a1)]) (by decide) rfl (fun _ _ => by simp only [lg_sl]; exact Nat.le_of_ble_eq_true rfl) (fun _ _ => rfl) ?_
  intro p e s m args below meth c A D ids adr adV cA rep G0 hI hC hr hE
  unfold F_X8_learnsIn
  refine hz_aload_n (a := 0) (n := 1) hC dX8_learnsIn_0 rfl rfl rfl ?_
  refine hz_iload_n (a := 1) (n := 2) hC dX8_learnsIn_1 rfl rfl rfl ?_
  refine hz_callVX (k := 1) (As := [.int a0]) (st := []) (S1 := fun _ => []) (n := 5) hC hE (c_X8_checkFlat l hl0 a0   M) kv_X8_checkFlat wd_5_128 hI dX8_learnsIn_2 rfl (hI.2 0 (by decide)) he_X8 rfl rfl rfl (Nat.le_of_ble_eq_true rfl) ⟨Nat.le_of_ble_eq_true rfl, Nat.le_of_ble_eq_true rfl⟩ ⟨Nat.le_of_ble_eq_true rfl, Nat.le_of_ble_eq_true rfl⟩ ⟨Nat.le_of_ble_eq_true rfl, Nat.le_of_ble_eq_true rfl⟩ (fun _ => rfl) rfl (fun r1 M1 _ => ?_)
  refine hz_aload_n (a := 0) (n := 6) hC dX8_learnsIn_5 rfl rfl rfl ?_
  refine hz_iload_n (a := 2) (n := 7) hC dX8_learnsIn_6 rfl rfl rfl ?_
  refine hz_callVX (k := 1) (As := [.int a1]) (st := []) (S1 := fun r => .ref (adr r 0) :: []) (n := 10) hC hE (c_X8_later l hl0 a1   M1) kv_X8_later wd_5_235 hI dX8_learnsIn_7 rfl (hI.2 0 (by decide)) he_X8 rfl rfl rfl (Nat.le_of_ble_eq_true rfl) ⟨Nat.le_of_ble_eq_true rfl, Nat.le_of_ble_eq_true rfl⟩ ⟨Nat.le_of_ble_eq_true rfl, Nat.le_of_ble_eq_true rfl⟩ ⟨Nat.le_of_ble_eq_true rfl, Nat.le_of_ble_eq_true rfl⟩ (fun _ => rfl) rfl (fun r2 M2 _ => ?_)
  refine hz_case (fun hr2 => ?_) (fun _ => hz_none hC)
  refine hz_iload_n (a := 1) (n := 11) hC dX8_learnsIn_10 rfl rfl rfl ?_
  refine hz_callVN (k := 1) (As := [.int a0]) (st := []) (S1 := fun r => .int r :: []) (n := 14) hC (c_X2_knownTo l r2 a0 hr2  M2) kv_X2_knownTo wd_6_23 hI dX8_learnsIn_11 rfl (hI.1 r2 0 hr2 (by decide)) (he_X2 hr2) rfl rfl rfl (Nat.le_of_ble_eq_true rfl) ⟨Nat.le_of_ble_eq_true rfl, Nat.le_of_ble_eq_true rfl⟩ ⟨Nat.le_of_ble_eq_true rfl, Nat.le_of_ble_eq_true rfl⟩ (fun _ => rfl) rfl (fun r3 M3 _ => ?_)
  refine hz_aload_n (a := 0) (n := 15) hC dX8_learnsIn_14 rfl rfl rfl ?_
  refine fg_X8_10 (n := 18) hC hI dX8_learnsIn_15 rfl ?_
  refine hz_iload_n (a := 1) (n := 19) hC dX8_learnsIn_18 rfl rfl rfl ?_
  refine hz_callVN (k := 1) (As := [.int a0]) (st := [.int r3]) (S1 := fun r => .int r :: [.int r3]) (n := 22) hC (c_X2_knownTo l 0 a0 (by decide)  M3) kv_X2_knownTo wd_6_23 hI dX8_learnsIn_19 rfl (hI.1 0 0 (by decide) (by decide)) (he_X2 (by decide)) rfl rfl rfl (Nat.le_of_ble_eq_true rfl) ⟨Nat.le_of_ble_eq_true rfl, Nat.le_of_ble_eq_true rfl⟩ ⟨Nat.le_of_ble_eq_true rfl, Nat.le_of_ble_eq_true rfl⟩ (fun _ => rfl) rfl (fun r4 M4 _ => ?_)
  refine hz_iconst (v := (-1 : Int32)) (n := 23) hC dX8_learnsIn_22 (by decide +kernel) rfl ?_
  refine hz_ixor (n := 24) hC dX8_learnsIn_23 rfl ?_
  refine hz_iand (n := 25) hC dX8_learnsIn_24 rfl ?_
  exact hz_iretX hC hr dX8_learnsIn_25 ⟨Nat.le_of_ble_eq_true rfl, Nat.le_of_ble_eq_true rfl⟩
def F_X8_ifRung (a0 : Int32) (M : hp_M) : Option ((Int32 ⊕ Nat) × hp_M) := (hp_bx (F_X8_checkFlat a0 M) (fun _ M1 => (hp_b (F_X2_refusal 0 9 a0 (1 : Int32) M1) (fun r2 M2 => (if r2 = 0 then (hp_b (F_X2_outcomeOfRing 0 a0 M2) (fun r3 M3 => (some (.inl r3, M3)))) else (some (.inl r2, M2)))))))
set_option maxRecDepth 20000 in
set_option maxHeartbeats 4000000 in
theorem c_X8_ifRung (l : Launch) (hl0 : l.stackTraces = false) (a0 : Int32)  (M : hp_M) : hp_CtX l yX8_ifRung cX8_ifRung 3 (some .int) 7 2 hp_IC (fun adr adV => [.ref (adr 12 0), .int a0]) hp_oi M (F_X8_ifRung a0 M) := by
  refine hp_startX "HallPhone" (fun adr adV => [(0, .ref (adr 12 0)), (1, .int a0)]) (by decide) rfl (fun _ _ => by simp only [lg_sl]; exact Nat.le_of_ble_eq_true rfl) (fun _ _ => rfl) ?_
  intro p e s m args below meth c A D ids adr adV cA rep G0 hI hC hr hE
  unfold F_X8_ifRung
  refine hz_aload_n (a := 0) (n := 1) hC dX8_ifRung_0 rfl rfl rfl ?_
  refine hz_iload_n (a := 1) (n := 2) hC dX8_ifRung_1 rfl rfl rfl ?_
  refine hz_callVX (k := 1) (As := [.int a0]) (st := []) (S1 := fun _ => []) (n := 5) hC hE (c_X8_checkFlat l hl0 a0   M) kv_X8_checkFlat wd_5_128 hI dX8_ifRung_2 rfl (hI.2 0 (by decide)) he_X8 rfl rfl rfl (Nat.le_of_ble_eq_true rfl) ⟨Nat.le_of_ble_eq_true rfl, Nat.le_of_ble_eq_true rfl⟩ ⟨Nat.le_of_ble_eq_true rfl, Nat.le_of_ble_eq_true rfl⟩ ⟨Nat.le_of_ble_eq_true rfl, Nat.le_of_ble_eq_true rfl⟩ (fun _ => rfl) rfl (fun r1 M1 _ => ?_)
  refine hz_aload_n (a := 0) (n := 6) hC dX8_ifRung_5 rfl rfl rfl ?_
  refine fg_X8_10 (n := 9) hC hI dX8_ifRung_6 rfl ?_
  refine hz_gets (k := 9) (n := 12) hC dX8_ifRung_9 wd_6_35 wd_1_18.1 (hp_st_vn 9 (by decide)) wd_6_34 rfl ?_
  refine hz_iload_n (a := 1) (n := 13) hC dX8_ifRung_12 rfl rfl rfl ?_
  refine hz_iconst (v := (1 : Int32)) (n := 14) hC dX8_ifRung_13 (by decide +kernel) rfl ?_
  refine hz_callVN (k := 3) (As := [.ref (adV 9), .int a0, .int (1 : Int32)]) (st := []) (S1 := fun r => .int r :: []) (n := 17) hC (c_X2_refusal l 0 9 a0 (1 : Int32) (by decide) (by decide)  M1) kv_X2_refusal wd_2_144 hI dX8_ifRung_14 rfl (hI.1 0 0 (by decide) (by decide)) (he_X2 (by decide)) rfl rfl rfl (Nat.le_of_ble_eq_true rfl) ⟨Nat.le_of_ble_eq_true rfl, Nat.le_of_ble_eq_true rfl⟩ ⟨Nat.le_of_ble_eq_true rfl, Nat.le_of_ble_eq_true rfl⟩ (fun _ => rfl) rfl (fun r2 M2 _ => ?_)
  refine hz_istore_n (L' := [(2, .int r2), (0, .ref (adr 12 0)), (1, .int a0)]) (n := 18) hC dX8_ifRung_17 rfl (by decide) rfl rfl ?_
  refine hz_iload_n (a := 0) (n := 19) hC dX8_ifRung_18 rfl rfl rfl ?_
  refine hz_if_eq (tgt := 26) (n := 22) hC dX8_ifRung_19 (by decide) rfl (fun _ => ?_) (fun _ => ?_)
  · refine hz_aload_n (a := 1) (n := 27) hC dX8_ifRung_26 rfl rfl rfl ?_
    refine fg_X8_10 (n := 30) hC hI dX8_ifRung_27 rfl ?_
    refine hz_iload_n (a := 2) (n := 31) hC dX8_ifRung_30 rfl rfl rfl ?_
    refine hz_callVN (k := 1) (As := [.int a0]) (st := []) (S1 := fun r => .int r :: []) (n := 34) hC (c_X2_outcomeOfRing l 0 a0 (by decide)  M2) kv_X2_outcomeOfRing wd_6_36 hI dX8_ifRung_31 rfl (hI.1 0 0 (by decide) (by decide)) (he_X2 (by decide)) rfl rfl rfl (Nat.le_of_ble_eq_true rfl) ⟨Nat.le_of_ble_eq_true rfl, Nat.le_of_ble_eq_true rfl⟩ ⟨Nat.le_of_ble_eq_true rfl, Nat.le_of_ble_eq_true rfl⟩ (fun _ => rfl) rfl (fun r3 M3 _ => ?_)
    exact hz_iretX hC hr dX8_ifRung_34 ⟨Nat.le_of_ble_eq_true rfl, Nat.le_of_ble_eq_true rfl⟩
  · refine hz_iload_n (a := 0) (n := 23) hC dX8_ifRung_22 rfl rfl rfl ?_
    refine hz_goto (n := 34) hC dX8_ifRung_23 (by decide) ?_
    exact hz_iretX hC hr dX8_ifRung_34 ⟨Nat.le_of_ble_eq_true rfl, Nat.le_of_ble_eq_true rfl⟩
def F_X8_account (a0 : Int32) (M : hp_M) : Option ((Int32 ⊕ Nat) × hp_M) := (hp_bx (F_X8_checkRange a0 (0 : Int32) (10 : Int32) M) (fun _ M1 => (hp_b (F_X2_accountNumber 0 a0 M1) (fun r2 M2 => (some (.inl r2, M2))))))
set_option maxRecDepth 20000 in
set_option maxHeartbeats 4000000 in
theorem c_X8_account (l : Launch) (hl0 : l.stackTraces = false) (a0 : Int32)  (M : hp_M) : hp_CtX l yX8_account cX8_account 2 (some .int) 7 2 hp_IC (fun adr adV => [.ref (adr 12 0), .int a0]) hp_oi M (F_X8_account a0 M) := by
  refine hp_startX "HallPhone" (fun adr adV => [(0, .ref (adr 12 0)), (1, .int a0)]) (by decide) rfl (fun _ _ => by simp only [lg_sl]; exact Nat.le_of_ble_eq_true rfl) (fun _ _ => rfl) ?_
  intro p e s m args below meth c A D ids adr adV cA rep G0 hI hC hr hE
  unfold F_X8_account
  refine hz_iload_n (a := 1) (n := 1) hC dX8_account_0 rfl rfl rfl ?_
  refine hz_iconst (v := (0 : Int32)) (n := 2) hC dX8_account_1 (by decide +kernel) rfl ?_
  refine hz_bipush (v := (10 : Int32)) (n := 4) hC dX8_account_2 (by decide +kernel) rfl ?_
  refine hz_callSX (k := 3) (As := [.int a0, .int (0 : Int32), .int (10 : Int32)]) (st := []) (S1 := fun _ => []) (n := 7) hC hE (c_X8_checkRange l hl0 a0 (0 : Int32) (10 : Int32)   M) ks_X8_checkRange wd_5_86 hI dX8_account_4 rfl rfl rfl (Nat.le_of_ble_eq_true rfl) ⟨Nat.le_of_ble_eq_true rfl, Nat.le_of_ble_eq_true rfl⟩ ⟨Nat.le_of_ble_eq_true rfl, Nat.le_of_ble_eq_true rfl⟩ ⟨Nat.le_of_ble_eq_true rfl, Nat.le_of_ble_eq_true rfl⟩ (fun _ => rfl) rfl (fun r1 M1 _ => ?_)
  refine hz_aload_n (a := 0) (n := 8) hC dX8_account_7 rfl rfl rfl ?_
  refine fg_X8_10 (n := 11) hC hI dX8_account_8 rfl ?_
  refine hz_iload_n (a := 1) (n := 12) hC dX8_account_11 rfl rfl rfl ?_
  refine hz_callVN (k := 1) (As := [.int a0]) (st := []) (S1 := fun r => .int r :: []) (n := 15) hC (c_X2_accountNumber l 0 a0 (by decide)  M1) kv_X2_accountNumber wd_3_139 hI dX8_account_12 rfl (hI.1 0 0 (by decide) (by decide)) (he_X2 (by decide)) rfl rfl rfl (Nat.le_of_ble_eq_true rfl) ⟨Nat.le_of_ble_eq_true rfl, Nat.le_of_ble_eq_true rfl⟩ ⟨Nat.le_of_ble_eq_true rfl, Nat.le_of_ble_eq_true rfl⟩ (fun _ => rfl) rfl (fun r2 M2 _ => ?_)
  exact hz_iretX hC hr dX8_account_15 ⟨Nat.le_of_ble_eq_true rfl, Nat.le_of_ble_eq_true rfl⟩
def F_X8_changeOfFlat (v0 : Nat) (a1 : Int32) (a2 : Int32) (M : hp_M) : Option ((Int32 ⊕ Nat) × hp_M) := (hp_bx (F_X8_checkFlat a1 M) (fun _ M1 => (hp_bx (F_X8_checkRange a2 (hp_vlea.getD v0 0) (hp_vgre.getD v0 0) M1) (fun _ M2 => (hp_b (F_X2_refusal 0 v0 a1 a2 M2) (fun r3 M3 => (if r3 = 0 then (hp_b (F_X1_keep 0 M3) (fun _ M4 => (hp_b (F_X2_perform 0 v0 a1 a2 M4) (fun r5 M5 => (some (.inl r5, M5)))))) else (some (.inl (-r3), M3)))))))))
set_option maxRecDepth 20000 in
set_option maxHeartbeats 4000000 in
theorem c_X8_changeOfFlat (l : Launch) (hl0 : l.stackTraces = false) (v0 : Nat) (a1 : Int32) (a2 : Int32) (hv0 : v0 < 12) (M : hp_M) : hp_CtX l yX8_changeOfFlat cX8_changeOfFlat 5 (some .int) 7 4 hp_IC (fun adr adV => [.ref (adr 12 0), .ref (adV v0), .int a1, .int a2]) hp_oi M (F_X8_changeOfFlat v0 a1 a2 M) := by
  refine hp_startX "HallPhone" (fun adr adV => [(0, .ref (adr 12 0)), (1, .ref (adV v0)), (2, .int a1), (3, .int a2)]) (by decide) rfl (fun _ _ => by simp only [lg_sl]; exact Nat.le_of_ble_eq_true rfl) (fun _ _ => rfl) ?_
  intro p e s m args below meth c A D ids adr adV cA rep G0 hI hC hr hE
  unfold F_X8_changeOfFlat
  refine hz_aload_n (a := 0) (n := 1) hC dX8_changeOfFlat_0 rfl rfl rfl ?_
  refine hz_iload_n (a := 2) (n := 2) hC dX8_changeOfFlat_1 rfl rfl rfl ?_
  refine hz_callVX (k := 1) (As := [.int a1]) (st := []) (S1 := fun _ => []) (n := 5) hC hE (c_X8_checkFlat l hl0 a1   M) kv_X8_checkFlat wd_5_128 hI dX8_changeOfFlat_2 rfl (hI.2 0 (by decide)) he_X8 rfl rfl rfl (Nat.le_of_ble_eq_true rfl) ⟨Nat.le_of_ble_eq_true rfl, Nat.le_of_ble_eq_true rfl⟩ ⟨Nat.le_of_ble_eq_true rfl, Nat.le_of_ble_eq_true rfl⟩ ⟨Nat.le_of_ble_eq_true rfl, Nat.le_of_ble_eq_true rfl⟩ (fun _ => rfl) rfl (fun r1 M1 _ => ?_)
  refine hz_iload_n (a := 3) (n := 6) hC dX8_changeOfFlat_5 rfl rfl rfl ?_
  refine hz_aload_n (a := 1) (n := 7) hC dX8_changeOfFlat_6 rfl rfl rfl ?_
  refine hz_vgetN (n := 10) hC dX8_changeOfFlat_7 (hp_vlea_OF hC.2.2.2.2.1 hv0) wd_8_233 rfl ?_
  refine hz_aload_n (a := 1) (n := 11) hC dX8_changeOfFlat_10 rfl rfl rfl ?_
  refine hz_vgetN (n := 14) hC dX8_changeOfFlat_11 (hp_vgre_OF hC.2.2.2.2.1 hv0) wd_8_234 rfl ?_
  refine hz_callSX (k := 3) (As := [.int a2, .int (hp_vlea.getD v0 0), .int (hp_vgre.getD v0 0)]) (st := []) (S1 := fun _ => []) (n := 17) hC hE (c_X8_checkRange l hl0 a2 (hp_vlea.getD v0 0) (hp_vgre.getD v0 0)   M1) ks_X8_checkRange wd_5_86 hI dX8_changeOfFlat_14 rfl rfl rfl (Nat.le_of_ble_eq_true rfl) ⟨Nat.le_of_ble_eq_true rfl, Nat.le_of_ble_eq_true rfl⟩ ⟨Nat.le_of_ble_eq_true rfl, Nat.le_of_ble_eq_true rfl⟩ ⟨Nat.le_of_ble_eq_true rfl, Nat.le_of_ble_eq_true rfl⟩ (fun _ => rfl) rfl (fun r2 M2 _ => ?_)
  refine hz_aload_n (a := 0) (n := 18) hC dX8_changeOfFlat_17 rfl rfl rfl ?_
  refine fg_X8_10 (n := 21) hC hI dX8_changeOfFlat_18 rfl ?_
  refine hz_aload_n (a := 1) (n := 22) hC dX8_changeOfFlat_21 rfl rfl rfl ?_
  refine hz_iload_n (a := 2) (n := 23) hC dX8_changeOfFlat_22 rfl rfl rfl ?_
  refine hz_iload_n (a := 3) (n := 24) hC dX8_changeOfFlat_23 rfl rfl rfl ?_
  refine hz_callVN (k := 3) (As := [.ref (adV v0), .int a1, .int a2]) (st := []) (S1 := fun r => .int r :: []) (n := 27) hC (c_X2_refusal l 0 v0 a1 a2 (by decide) hv0  M2) kv_X2_refusal wd_2_144 hI dX8_changeOfFlat_24 rfl (hI.1 0 0 (by decide) (by decide)) (he_X2 (by decide)) rfl rfl rfl (Nat.le_of_ble_eq_true rfl) ⟨Nat.le_of_ble_eq_true rfl, Nat.le_of_ble_eq_true rfl⟩ ⟨Nat.le_of_ble_eq_true rfl, Nat.le_of_ble_eq_true rfl⟩ (fun _ => rfl) rfl (fun r3 M3 _ => ?_)
  refine hz_istore (L' := [(4, .int r3), (0, .ref (adr 12 0)), (1, .ref (adV v0)), (2, .int a1), (3, .int a2)]) (n := 29) hC dX8_changeOfFlat_27 (by decide) rfl rfl ?_
  refine hz_iload (a := 0) (n := 31) hC dX8_changeOfFlat_29 rfl rfl ?_
  refine hz_if_eq (tgt := 38) (n := 34) hC dX8_changeOfFlat_31 (by decide) rfl (fun _ => ?_) (fun _ => ?_)
  · refine hz_aload_n (a := 1) (n := 39) hC dX8_changeOfFlat_38 rfl rfl rfl ?_
    refine fg_X8_22 (n := 42) hC hI dX8_changeOfFlat_39 rfl ?_
    refine hz_aload_n (a := 1) (n := 43) hC dX8_changeOfFlat_42 rfl rfl rfl ?_
    refine fg_X8_10 (n := 46) hC hI dX8_changeOfFlat_43 rfl ?_
    refine hz_callVN (k := 1) (As := [.ref (adr 0 0)]) (st := []) (S1 := fun _ => []) (n := 49) hC (c_X1_keep l 0 (by decide)  M3) kv_X1_keep wd_6_55 hI dX8_changeOfFlat_46 rfl (hI.2 4 (by decide)) he_X1 rfl rfl rfl (Nat.le_of_ble_eq_true rfl) ⟨Nat.le_of_ble_eq_true rfl, Nat.le_of_ble_eq_true rfl⟩ ⟨Nat.le_of_ble_eq_true rfl, Nat.le_of_ble_eq_true rfl⟩ (fun _ => rfl) rfl (fun r4 M4 _ => ?_)
    refine hz_aload_n (a := 1) (n := 50) hC dX8_changeOfFlat_49 rfl rfl rfl ?_
    refine fg_X8_10 (n := 53) hC hI dX8_changeOfFlat_50 rfl ?_
    refine hz_aload_n (a := 2) (n := 54) hC dX8_changeOfFlat_53 rfl rfl rfl ?_
    refine hz_iload_n (a := 3) (n := 55) hC dX8_changeOfFlat_54 rfl rfl rfl ?_
    refine hz_iload_n (a := 4) (n := 56) hC dX8_changeOfFlat_55 rfl rfl rfl ?_
    refine hz_callVN (k := 3) (As := [.ref (adV v0), .int a1, .int a2]) (st := []) (S1 := fun r => .int r :: []) (n := 59) hC (c_X2_perform l 0 v0 a1 a2 (by decide) hv0  M4) kv_X2_perform wd_2_164 hI dX8_changeOfFlat_56 rfl (hI.1 0 0 (by decide) (by decide)) (he_X2 (by decide)) rfl rfl rfl (Nat.le_of_ble_eq_true rfl) ⟨Nat.le_of_ble_eq_true rfl, Nat.le_of_ble_eq_true rfl⟩ ⟨Nat.le_of_ble_eq_true rfl, Nat.le_of_ble_eq_true rfl⟩ (fun _ => rfl) rfl (fun r5 M5 _ => ?_)
    exact hz_iretX hC hr dX8_changeOfFlat_59 ⟨Nat.le_of_ble_eq_true rfl, Nat.le_of_ble_eq_true rfl⟩
  · refine hz_iload (a := 0) (n := 36) hC dX8_changeOfFlat_34 rfl rfl ?_
    refine hz_ineg (n := 37) hC dX8_changeOfFlat_36 rfl ?_
    exact hz_iretX hC hr dX8_changeOfFlat_37 ⟨Nat.le_of_ble_eq_true rfl, Nat.le_of_ble_eq_true rfl⟩
def F_X8_want (a0 : Int32) (a1 : Int32) (M : hp_M) : Option ((Int32 ⊕ Nat) × hp_M) := (hp_bx (F_X8_changeOfFlat 6 a0 a1 M) (fun r1 M1 => (some (.inl r1, M1))))
set_option maxRecDepth 20000 in
set_option maxHeartbeats 4000000 in
theorem c_X8_want (l : Launch) (hl0 : l.stackTraces = false) (a0 : Int32) (a1 : Int32)  (M : hp_M) : hp_CtX l yX8_want cX8_want 3 (some .int) 8 4 hp_IC (fun adr adV => [.ref (adr 12 0), .int a0, .int a1]) hp_oi M (F_X8_want a0 a1 M) := by
  refine hp_startX "HallPhone" (fun adr adV => [(0, .ref (adr 12 0)), (1, .int a0), (2, .int a1)]) (by decide) rfl (fun _ _ => by simp only [lg_sl]; exact Nat.le_of_ble_eq_true rfl) (fun _ _ => rfl) ?_
  intro p e s m args below meth c A D ids adr adV cA rep G0 hI hC hr hE
  unfold F_X8_want
  refine hz_aload_n (a := 0) (n := 1) hC dX8_want_0 rfl rfl rfl ?_
  refine hz_gets (k := 6) (n := 4) hC dX8_want_1 wd_6_15 wd_1_18.1 (hp_st_vn 6 (by decide)) wd_6_14 rfl ?_
  refine hz_iload_n (a := 1) (n := 5) hC dX8_want_4 rfl rfl rfl ?_
  refine hz_iload_n (a := 2) (n := 6) hC dX8_want_5 rfl rfl rfl ?_
  refine hz_callVX (k := 3) (As := [.ref (adV 6), .int a0, .int a1]) (st := []) (S1 := fun r => .int r :: []) (n := 9) hC hE (c_X8_changeOfFlat l hl0 6 a0 a1 (by decide)  M) kv_X8_changeOfFlat wd_6_51 hI dX8_want_6 rfl (hI.2 0 (by decide)) he_X8 rfl rfl rfl (Nat.le_of_ble_eq_true rfl) ⟨Nat.le_of_ble_eq_true rfl, Nat.le_of_ble_eq_true rfl⟩ ⟨Nat.le_of_ble_eq_true rfl, Nat.le_of_ble_eq_true rfl⟩ ⟨Nat.le_of_ble_eq_true rfl, Nat.le_of_ble_eq_true rfl⟩ (fun _ => rfl) rfl (fun r1 M1 _ => ?_)
  exact hz_iretX hC hr dX8_want_9 ⟨Nat.le_of_ble_eq_true rfl, Nat.le_of_ble_eq_true rfl⟩
def F_X8_drop (a0 : Int32) (M : hp_M) : Option ((Int32 ⊕ Nat) × hp_M) := (hp_bx (F_X8_changeOfFlat 7 a0 (0 : Int32) M) (fun r1 M1 => (some (.inl r1, M1))))
set_option maxRecDepth 20000 in
set_option maxHeartbeats 4000000 in
theorem c_X8_drop (l : Launch) (hl0 : l.stackTraces = false) (a0 : Int32)  (M : hp_M) : hp_CtX l yX8_drop cX8_drop 2 (some .int) 8 4 hp_IC (fun adr adV => [.ref (adr 12 0), .int a0]) hp_oi M (F_X8_drop a0 M) := by
  refine hp_startX "HallPhone" (fun adr adV => [(0, .ref (adr 12 0)), (1, .int a0)]) (by decide) rfl (fun _ _ => by simp only [lg_sl]; exact Nat.le_of_ble_eq_true rfl) (fun _ _ => rfl) ?_
  intro p e s m args below meth c A D ids adr adV cA rep G0 hI hC hr hE
  unfold F_X8_drop
  refine hz_aload_n (a := 0) (n := 1) hC dX8_drop_0 rfl rfl rfl ?_
  refine hz_gets (k := 7) (n := 4) hC dX8_drop_1 wd_6_68 wd_1_18.1 (hp_st_vn 7 (by decide)) wd_6_67 rfl ?_
  refine hz_iload_n (a := 1) (n := 5) hC dX8_drop_4 rfl rfl rfl ?_
  refine hz_iconst (v := (0 : Int32)) (n := 6) hC dX8_drop_5 (by decide +kernel) rfl ?_
  refine hz_callVX (k := 3) (As := [.ref (adV 7), .int a0, .int (0 : Int32)]) (st := []) (S1 := fun r => .int r :: []) (n := 9) hC hE (c_X8_changeOfFlat l hl0 7 a0 (0 : Int32) (by decide)  M) kv_X8_changeOfFlat wd_6_51 hI dX8_drop_6 rfl (hI.2 0 (by decide)) he_X8 rfl rfl rfl (Nat.le_of_ble_eq_true rfl) ⟨Nat.le_of_ble_eq_true rfl, Nat.le_of_ble_eq_true rfl⟩ ⟨Nat.le_of_ble_eq_true rfl, Nat.le_of_ble_eq_true rfl⟩ ⟨Nat.le_of_ble_eq_true rfl, Nat.le_of_ble_eq_true rfl⟩ (fun _ => rfl) rfl (fun r1 M1 _ => ?_)
  exact hz_iretX hC hr dX8_drop_9 ⟨Nat.le_of_ble_eq_true rfl, Nat.le_of_ble_eq_true rfl⟩
def F_X8_hang (a0 : Int32) (M : hp_M) : Option ((Int32 ⊕ Nat) × hp_M) := (hp_bx (F_X8_changeOfFlat 8 a0 (0 : Int32) M) (fun r1 M1 => (some (.inl r1, M1))))
set_option maxRecDepth 20000 in
set_option maxHeartbeats 4000000 in
theorem c_X8_hang (l : Launch) (hl0 : l.stackTraces = false) (a0 : Int32)  (M : hp_M) : hp_CtX l yX8_hang cX8_hang 2 (some .int) 8 4 hp_IC (fun adr adV => [.ref (adr 12 0), .int a0]) hp_oi M (F_X8_hang a0 M) := by
  refine hp_startX "HallPhone" (fun adr adV => [(0, .ref (adr 12 0)), (1, .int a0)]) (by decide) rfl (fun _ _ => by simp only [lg_sl]; exact Nat.le_of_ble_eq_true rfl) (fun _ _ => rfl) ?_
  intro p e s m args below meth c A D ids adr adV cA rep G0 hI hC hr hE
  unfold F_X8_hang
  refine hz_aload_n (a := 0) (n := 1) hC dX8_hang_0 rfl rfl rfl ?_
  refine hz_gets (k := 8) (n := 4) hC dX8_hang_1 wd_6_77 wd_1_18.1 (hp_st_vn 8 (by decide)) wd_6_76 rfl ?_
  refine hz_iload_n (a := 1) (n := 5) hC dX8_hang_4 rfl rfl rfl ?_
  refine hz_iconst (v := (0 : Int32)) (n := 6) hC dX8_hang_5 (by decide +kernel) rfl ?_
  refine hz_callVX (k := 3) (As := [.ref (adV 8), .int a0, .int (0 : Int32)]) (st := []) (S1 := fun r => .int r :: []) (n := 9) hC hE (c_X8_changeOfFlat l hl0 8 a0 (0 : Int32) (by decide)  M) kv_X8_changeOfFlat wd_6_51 hI dX8_hang_6 rfl (hI.2 0 (by decide)) he_X8 rfl rfl rfl (Nat.le_of_ble_eq_true rfl) ⟨Nat.le_of_ble_eq_true rfl, Nat.le_of_ble_eq_true rfl⟩ ⟨Nat.le_of_ble_eq_true rfl, Nat.le_of_ble_eq_true rfl⟩ ⟨Nat.le_of_ble_eq_true rfl, Nat.le_of_ble_eq_true rfl⟩ (fun _ => rfl) rfl (fun r1 M1 _ => ?_)
  exact hz_iretX hC hr dX8_hang_9 ⟨Nat.le_of_ble_eq_true rfl, Nat.le_of_ble_eq_true rfl⟩
def F_X8_ring (a0 : Int32) (a1 : Int32) (M : hp_M) : Option ((Int32 ⊕ Nat) × hp_M) := (hp_bx (F_X8_changeOfFlat 9 a0 a1 M) (fun r1 M1 => (some (.inl r1, M1))))
set_option maxRecDepth 20000 in
set_option maxHeartbeats 4000000 in
theorem c_X8_ring (l : Launch) (hl0 : l.stackTraces = false) (a0 : Int32) (a1 : Int32)  (M : hp_M) : hp_CtX l yX8_ring cX8_ring 3 (some .int) 8 4 hp_IC (fun adr adV => [.ref (adr 12 0), .int a0, .int a1]) hp_oi M (F_X8_ring a0 a1 M) := by
  refine hp_startX "HallPhone" (fun adr adV => [(0, .ref (adr 12 0)), (1, .int a0), (2, .int a1)]) (by decide) rfl (fun _ _ => by simp only [lg_sl]; exact Nat.le_of_ble_eq_true rfl) (fun _ _ => rfl) ?_
  intro p e s m args below meth c A D ids adr adV cA rep G0 hI hC hr hE
  unfold F_X8_ring
  refine hz_aload_n (a := 0) (n := 1) hC dX8_ring_0 rfl rfl rfl ?_
  refine hz_gets (k := 9) (n := 4) hC dX8_ring_1 wd_6_35 wd_1_18.1 (hp_st_vn 9 (by decide)) wd_6_34 rfl ?_
  refine hz_iload_n (a := 1) (n := 5) hC dX8_ring_4 rfl rfl rfl ?_
  refine hz_iload_n (a := 2) (n := 6) hC dX8_ring_5 rfl rfl rfl ?_
  refine hz_callVX (k := 3) (As := [.ref (adV 9), .int a0, .int a1]) (st := []) (S1 := fun r => .int r :: []) (n := 9) hC hE (c_X8_changeOfFlat l hl0 9 a0 a1 (by decide)  M) kv_X8_changeOfFlat wd_6_51 hI dX8_ring_6 rfl (hI.2 0 (by decide)) he_X8 rfl rfl rfl (Nat.le_of_ble_eq_true rfl) ⟨Nat.le_of_ble_eq_true rfl, Nat.le_of_ble_eq_true rfl⟩ ⟨Nat.le_of_ble_eq_true rfl, Nat.le_of_ble_eq_true rfl⟩ ⟨Nat.le_of_ble_eq_true rfl, Nat.le_of_ble_eq_true rfl⟩ (fun _ => rfl) rfl (fun r1 M1 _ => ?_)
  exact hz_iretX hC hr dX8_ring_9 ⟨Nat.le_of_ble_eq_true rfl, Nat.le_of_ble_eq_true rfl⟩
def F_X8_pay (a0 : Int32) (a1 : Int32) (M : hp_M) : Option ((Int32 ⊕ Nat) × hp_M) := (hp_bx (F_X8_changeOfFlat 10 a0 a1 M) (fun r1 M1 => (some (.inl r1, M1))))
set_option maxRecDepth 20000 in
set_option maxHeartbeats 4000000 in
theorem c_X8_pay (l : Launch) (hl0 : l.stackTraces = false) (a0 : Int32) (a1 : Int32)  (M : hp_M) : hp_CtX l yX8_pay cX8_pay 3 (some .int) 8 4 hp_IC (fun adr adV => [.ref (adr 12 0), .int a0, .int a1]) hp_oi M (F_X8_pay a0 a1 M) := by
  refine hp_startX "HallPhone" (fun adr adV => [(0, .ref (adr 12 0)), (1, .int a0), (2, .int a1)]) (by decide) rfl (fun _ _ => by simp only [lg_sl]; exact Nat.le_of_ble_eq_true rfl) (fun _ _ => rfl) ?_
  intro p e s m args below meth c A D ids adr adV cA rep G0 hI hC hr hE
  unfold F_X8_pay
  refine hz_aload_n (a := 0) (n := 1) hC dX8_pay_0 rfl rfl rfl ?_
  refine hz_gets (k := 10) (n := 4) hC dX8_pay_1 wd_6_93 wd_1_18.1 (hp_st_vn 10 (by decide)) wd_6_92 rfl ?_
  refine hz_iload_n (a := 1) (n := 5) hC dX8_pay_4 rfl rfl rfl ?_
  refine hz_iload_n (a := 2) (n := 6) hC dX8_pay_5 rfl rfl rfl ?_
  refine hz_callVX (k := 3) (As := [.ref (adV 10), .int a0, .int a1]) (st := []) (S1 := fun r => .int r :: []) (n := 9) hC hE (c_X8_changeOfFlat l hl0 10 a0 a1 (by decide)  M) kv_X8_changeOfFlat wd_6_51 hI dX8_pay_6 rfl (hI.2 0 (by decide)) he_X8 rfl rfl rfl (Nat.le_of_ble_eq_true rfl) ⟨Nat.le_of_ble_eq_true rfl, Nat.le_of_ble_eq_true rfl⟩ ⟨Nat.le_of_ble_eq_true rfl, Nat.le_of_ble_eq_true rfl⟩ ⟨Nat.le_of_ble_eq_true rfl, Nat.le_of_ble_eq_true rfl⟩ (fun _ => rfl) rfl (fun r1 M1 _ => ?_)
  exact hz_iretX hC hr dX8_pay_9 ⟨Nat.le_of_ble_eq_true rfl, Nat.le_of_ble_eq_true rfl⟩
def F_X8_setCurious (a0 : Int32) (a1 : Int32) (M : hp_M) : Option ((Int32 ⊕ Nat) × hp_M) := (hp_bx (F_X8_checkFlat a0 M) (fun _ M1 => (hp_b (F_X2_get 0 a0 (1 : Int32) M1) (fun r2 M2 => (if r2 = (1 : Int32) then (hp_b (F_X1_keep 0 M2) (fun _ M3 => (if a1 = 0 then (hp_b (F_X2_put 0 a0 (1 : Int32) (0 : Int32) M3) (fun _ M4 => (if (1 : Int32) = 0 ∨ (1 : Int32) = 1 then some (.inl (1 : Int32), M4) else none))) else (hp_b (F_X2_put 0 a0 (1 : Int32) (1 : Int32) M3) (fun _ M5 => (if (1 : Int32) = 0 ∨ (1 : Int32) = 1 then some (.inl (1 : Int32), M5) else none)))))) else (hp_b (F_X1_keep 0 M2) (fun _ M6 => (if a1 = 0 then (hp_b (F_X2_put 0 a0 (1 : Int32) (0 : Int32) M6) (fun _ M7 => (if (0 : Int32) = 0 ∨ (0 : Int32) = 1 then some (.inl (0 : Int32), M7) else none))) else (hp_b (F_X2_put 0 a0 (1 : Int32) (1 : Int32) M6) (fun _ M8 => (if (0 : Int32) = 0 ∨ (0 : Int32) = 1 then some (.inl (0 : Int32), M8) else none)))))))))))
set_option maxRecDepth 20000 in
set_option maxHeartbeats 4000000 in
theorem c_X8_setCurious (l : Launch) (hl0 : l.stackTraces = false) (a0 : Int32) (a1 : Int32)  (M : hp_M) : hp_CtX l yX8_setCurious cX8_setCurious 4 (some .boolean) 7 2 hp_IC (fun adr adV => [.ref (adr 12 0), .int a0, .int a1]) hp_oi M (F_X8_setCurious a0 a1 M) := by
  refine hp_startX "HallPhone" (fun adr adV => [(0, .ref (adr 12 0)), (1, .int a0), (2, .int a1)]) (by decide) rfl (fun _ _ => by simp only [lg_sl]; exact Nat.le_of_ble_eq_true rfl) (fun _ _ => rfl) ?_
  intro p e s m args below meth c A D ids adr adV cA rep G0 hI hC hr hE
  unfold F_X8_setCurious
  refine hz_aload_n (a := 0) (n := 1) hC dX8_setCurious_0 rfl rfl rfl ?_
  refine hz_iload_n (a := 1) (n := 2) hC dX8_setCurious_1 rfl rfl rfl ?_
  refine hz_callVX (k := 1) (As := [.int a0]) (st := []) (S1 := fun _ => []) (n := 5) hC hE (c_X8_checkFlat l hl0 a0   M) kv_X8_checkFlat wd_5_128 hI dX8_setCurious_2 rfl (hI.2 0 (by decide)) he_X8 rfl rfl rfl (Nat.le_of_ble_eq_true rfl) ⟨Nat.le_of_ble_eq_true rfl, Nat.le_of_ble_eq_true rfl⟩ ⟨Nat.le_of_ble_eq_true rfl, Nat.le_of_ble_eq_true rfl⟩ ⟨Nat.le_of_ble_eq_true rfl, Nat.le_of_ble_eq_true rfl⟩ (fun _ => rfl) rfl (fun r1 M1 _ => ?_)
  refine hz_aload_n (a := 0) (n := 6) hC dX8_setCurious_5 rfl rfl rfl ?_
  refine fg_X8_10 (n := 9) hC hI dX8_setCurious_6 rfl ?_
  refine hz_iload_n (a := 1) (n := 10) hC dX8_setCurious_9 rfl rfl rfl ?_
  refine hz_iconst (v := (1 : Int32)) (n := 11) hC dX8_setCurious_10 (by decide +kernel) rfl ?_
  refine hz_callVN (k := 2) (As := [.int a0, .int (1 : Int32)]) (st := []) (S1 := fun r => .int r :: []) (n := 14) hC (c_X2_get l 0 a0 (1 : Int32) (by decide)  M1) kv_X2_get wd_5_11 hI dX8_setCurious_11 rfl (hI.1 0 0 (by decide) (by decide)) (he_X2 (by decide)) rfl rfl rfl (Nat.le_of_ble_eq_true rfl) ⟨Nat.le_of_ble_eq_true rfl, Nat.le_of_ble_eq_true rfl⟩ ⟨Nat.le_of_ble_eq_true rfl, Nat.le_of_ble_eq_true rfl⟩ (fun _ => rfl) rfl (fun r2 M2 _ => ?_)
  refine hz_iconst (v := (1 : Int32)) (n := 15) hC dX8_setCurious_14 (by decide +kernel) rfl ?_
  refine hz_icmp_ne (tgt := 22) (n := 18) hC dX8_setCurious_15 (by decide) rfl (fun _ => ?_) (fun _ => ?_)
  · refine hz_iconst (v := (1 : Int32)) (n := 19) hC dX8_setCurious_18 (by decide +kernel) rfl ?_
    refine hz_goto (n := 23) hC dX8_setCurious_19 (by decide) ?_
    refine hz_istore_n (L' := [(3, .int (1 : Int32)), (0, .ref (adr 12 0)), (1, .int a0), (2, .int a1)]) (n := 24) hC dX8_setCurious_23 rfl (by decide) rfl rfl ?_
    refine hz_aload_n (a := 1) (n := 25) hC dX8_setCurious_24 rfl rfl rfl ?_
    refine fg_X8_22 (n := 28) hC hI dX8_setCurious_25 rfl ?_
    refine hz_aload_n (a := 1) (n := 29) hC dX8_setCurious_28 rfl rfl rfl ?_
    refine fg_X8_10 (n := 32) hC hI dX8_setCurious_29 rfl ?_
    refine hz_callVN (k := 1) (As := [.ref (adr 0 0)]) (st := []) (S1 := fun _ => []) (n := 35) hC (c_X1_keep l 0 (by decide)  M2) kv_X1_keep wd_6_55 hI dX8_setCurious_32 rfl (hI.2 4 (by decide)) he_X1 rfl rfl rfl (Nat.le_of_ble_eq_true rfl) ⟨Nat.le_of_ble_eq_true rfl, Nat.le_of_ble_eq_true rfl⟩ ⟨Nat.le_of_ble_eq_true rfl, Nat.le_of_ble_eq_true rfl⟩ (fun _ => rfl) rfl (fun r3 M3 _ => ?_)
    refine hz_aload_n (a := 1) (n := 36) hC dX8_setCurious_35 rfl rfl rfl ?_
    refine fg_X8_10 (n := 39) hC hI dX8_setCurious_36 rfl ?_
    refine hz_iload_n (a := 2) (n := 40) hC dX8_setCurious_39 rfl rfl rfl ?_
    refine hz_iconst (v := (1 : Int32)) (n := 41) hC dX8_setCurious_40 (by decide +kernel) rfl ?_
    refine hz_iload_n (a := 3) (n := 42) hC dX8_setCurious_41 rfl rfl rfl ?_
    refine hz_if_eq (tgt := 49) (n := 45) hC dX8_setCurious_42 (by decide) rfl (fun _ => ?_) (fun _ => ?_)
    · refine hz_iconst (v := (0 : Int32)) (n := 50) hC dX8_setCurious_49 (by decide +kernel) rfl ?_
      refine hz_callVN (k := 3) (As := [.int a0, .int (1 : Int32), .int (0 : Int32)]) (st := []) (S1 := fun _ => []) (n := 53) hC (c_X2_put l 0 a0 (1 : Int32) (0 : Int32) (by decide)  M3) kv_X2_put wd_6_101 hI dX8_setCurious_50 rfl (hI.1 0 0 (by decide) (by decide)) (he_X2 (by decide)) rfl rfl rfl (Nat.le_of_ble_eq_true rfl) ⟨Nat.le_of_ble_eq_true rfl, Nat.le_of_ble_eq_true rfl⟩ ⟨Nat.le_of_ble_eq_true rfl, Nat.le_of_ble_eq_true rfl⟩ (fun _ => rfl) rfl (fun r4 M4 _ => ?_)
      refine hz_iload_n (a := 0) (n := 54) hC dX8_setCurious_53 rfl rfl rfl ?_
      exact hz_bretX hC hr dX8_setCurious_54 ⟨Nat.le_of_ble_eq_true rfl, Nat.le_of_ble_eq_true rfl⟩
    · refine hz_iconst (v := (1 : Int32)) (n := 46) hC dX8_setCurious_45 (by decide +kernel) rfl ?_
      refine hz_goto (n := 50) hC dX8_setCurious_46 (by decide) ?_
      refine hz_callVN (k := 3) (As := [.int a0, .int (1 : Int32), .int (1 : Int32)]) (st := []) (S1 := fun _ => []) (n := 53) hC (c_X2_put l 0 a0 (1 : Int32) (1 : Int32) (by decide)  M3) kv_X2_put wd_6_101 hI dX8_setCurious_50 rfl (hI.1 0 0 (by decide) (by decide)) (he_X2 (by decide)) rfl rfl rfl (Nat.le_of_ble_eq_true rfl) ⟨Nat.le_of_ble_eq_true rfl, Nat.le_of_ble_eq_true rfl⟩ ⟨Nat.le_of_ble_eq_true rfl, Nat.le_of_ble_eq_true rfl⟩ (fun _ => rfl) rfl (fun r5 M5 _ => ?_)
      refine hz_iload_n (a := 0) (n := 54) hC dX8_setCurious_53 rfl rfl rfl ?_
      exact hz_bretX hC hr dX8_setCurious_54 ⟨Nat.le_of_ble_eq_true rfl, Nat.le_of_ble_eq_true rfl⟩
  · refine hz_iconst (v := (0 : Int32)) (n := 23) hC dX8_setCurious_22 (by decide +kernel) rfl ?_
    refine hz_istore_n (L' := [(3, .int (0 : Int32)), (0, .ref (adr 12 0)), (1, .int a0), (2, .int a1)]) (n := 24) hC dX8_setCurious_23 rfl (by decide) rfl rfl ?_
    refine hz_aload_n (a := 1) (n := 25) hC dX8_setCurious_24 rfl rfl rfl ?_
    refine fg_X8_22 (n := 28) hC hI dX8_setCurious_25 rfl ?_
    refine hz_aload_n (a := 1) (n := 29) hC dX8_setCurious_28 rfl rfl rfl ?_
    refine fg_X8_10 (n := 32) hC hI dX8_setCurious_29 rfl ?_
    refine hz_callVN (k := 1) (As := [.ref (adr 0 0)]) (st := []) (S1 := fun _ => []) (n := 35) hC (c_X1_keep l 0 (by decide)  M2) kv_X1_keep wd_6_55 hI dX8_setCurious_32 rfl (hI.2 4 (by decide)) he_X1 rfl rfl rfl (Nat.le_of_ble_eq_true rfl) ⟨Nat.le_of_ble_eq_true rfl, Nat.le_of_ble_eq_true rfl⟩ ⟨Nat.le_of_ble_eq_true rfl, Nat.le_of_ble_eq_true rfl⟩ (fun _ => rfl) rfl (fun r6 M6 _ => ?_)
    refine hz_aload_n (a := 1) (n := 36) hC dX8_setCurious_35 rfl rfl rfl ?_
    refine fg_X8_10 (n := 39) hC hI dX8_setCurious_36 rfl ?_
    refine hz_iload_n (a := 2) (n := 40) hC dX8_setCurious_39 rfl rfl rfl ?_
    refine hz_iconst (v := (1 : Int32)) (n := 41) hC dX8_setCurious_40 (by decide +kernel) rfl ?_
    refine hz_iload_n (a := 3) (n := 42) hC dX8_setCurious_41 rfl rfl rfl ?_
    refine hz_if_eq (tgt := 49) (n := 45) hC dX8_setCurious_42 (by decide) rfl (fun _ => ?_) (fun _ => ?_)
    · refine hz_iconst (v := (0 : Int32)) (n := 50) hC dX8_setCurious_49 (by decide +kernel) rfl ?_
      refine hz_callVN (k := 3) (As := [.int a0, .int (1 : Int32), .int (0 : Int32)]) (st := []) (S1 := fun _ => []) (n := 53) hC (c_X2_put l 0 a0 (1 : Int32) (0 : Int32) (by decide)  M6) kv_X2_put wd_6_101 hI dX8_setCurious_50 rfl (hI.1 0 0 (by decide) (by decide)) (he_X2 (by decide)) rfl rfl rfl (Nat.le_of_ble_eq_true rfl) ⟨Nat.le_of_ble_eq_true rfl, Nat.le_of_ble_eq_true rfl⟩ ⟨Nat.le_of_ble_eq_true rfl, Nat.le_of_ble_eq_true rfl⟩ (fun _ => rfl) rfl (fun r7 M7 _ => ?_)
      refine hz_iload_n (a := 0) (n := 54) hC dX8_setCurious_53 rfl rfl rfl ?_
      exact hz_bretX hC hr dX8_setCurious_54 ⟨Nat.le_of_ble_eq_true rfl, Nat.le_of_ble_eq_true rfl⟩
    · refine hz_iconst (v := (1 : Int32)) (n := 46) hC dX8_setCurious_45 (by decide +kernel) rfl ?_
      refine hz_goto (n := 50) hC dX8_setCurious_46 (by decide) ?_
      refine hz_callVN (k := 3) (As := [.int a0, .int (1 : Int32), .int (1 : Int32)]) (st := []) (S1 := fun _ => []) (n := 53) hC (c_X2_put l 0 a0 (1 : Int32) (1 : Int32) (by decide)  M6) kv_X2_put wd_6_101 hI dX8_setCurious_50 rfl (hI.1 0 0 (by decide) (by decide)) (he_X2 (by decide)) rfl rfl rfl (Nat.le_of_ble_eq_true rfl) ⟨Nat.le_of_ble_eq_true rfl, Nat.le_of_ble_eq_true rfl⟩ ⟨Nat.le_of_ble_eq_true rfl, Nat.le_of_ble_eq_true rfl⟩ (fun _ => rfl) rfl (fun r8 M8 _ => ?_)
      refine hz_iload_n (a := 0) (n := 54) hC dX8_setCurious_53 rfl rfl rfl ?_
      exact hz_bretX hC hr dX8_setCurious_54 ⟨Nat.le_of_ble_eq_true rfl, Nat.le_of_ble_eq_true rfl⟩
def F_X8_set (a0 : Int32) (a1 : Int32) (M : hp_M) : Option ((Int32 ⊕ Nat) × hp_M) := (hp_b (F_X7_ofSetting a0 M) (fun r1 M1 => (if r1 < 0 then (some (.inr 0, M1)) else (if (r1).toNatClampNeg < 12 then (hp_bx (F_X8_checkRange a1 (hp_vlea.getD ((r1).toNatClampNeg) 0) (hp_vgre.getD ((r1).toNatClampNeg) 0) M1) (fun _ M3 => (hp_b (F_X1_keep 0 M3) (fun _ M4 => (hp_b (F_X2_perform 0 ((r1).toNatClampNeg) (-1 : Int32) a1 M4) (fun r5 M5 => (some (.inl r5, M5)))))))) else none))))
set_option maxRecDepth 20000 in
set_option maxHeartbeats 4000000 in
theorem c_X8_set (l : Launch) (hl0 : l.stackTraces = false) (a0 : Int32) (a1 : Int32)  (M : hp_M) : hp_CtX l yX8_set cX8_set 4 (some .int) 7 3 hp_IC (fun adr adV => [.ref (adr 12 0), .int a0, .int a1]) hp_oi M (F_X8_set a0 a1 M) := by
  refine hp_startX "HallPhone" (fun adr adV => [(0, .ref (adr 12 0)), (1, .int a0), (2, .int a1)]) (by decide) rfl (fun _ _ => by simp only [lg_sl]; exact Nat.le_of_ble_eq_true rfl) (fun _ _ => rfl) ?_
  intro p e s m args below meth c A D ids adr adV cA rep G0 hI hC hr hE
  unfold F_X8_set
  refine hz_iload_n (a := 1) (n := 1) hC dX8_set_0 rfl rfl rfl ?_
  refine hz_callSN (k := 1) (As := [.int a0]) (st := []) (S1 := fun r => hp_vr adV r :: []) (n := 4) hC (c_X7_ofSetting l a0   M) ks_X7_ofSetting wd_6_109 trivial dX8_set_1 rfl rfl rfl (Nat.le_of_ble_eq_true rfl) ⟨Nat.le_of_ble_eq_true rfl, Nat.le_of_ble_eq_true rfl⟩ ⟨Nat.le_of_ble_eq_true rfl, Nat.le_of_ble_eq_true rfl⟩ (fun _ => rfl) rfl (fun r1 M1 _ => ?_)
  refine hz_vstore_n (L' := [(3, hp_vr adV r1), (0, .ref (adr 12 0)), (1, .int a0), (2, .int a1)]) (n := 5) hC dX8_set_4 rfl (by decide) rfl rfl ?_
  refine hz_vload_n (a := 0) (n := 6) hC dX8_set_5 rfl rfl rfl ?_
  refine hz_ifnonnullV (tgt := 19) (n := 9) hC dX8_set_6 (by decide) rfl (fun _ => ?_) (fun hp2 => ?_)
  · exact hz_throwS hC hE hl0 0 hp_cf_251.1 hp_cf_251.2 hp_cl_251 hp_ci_251 wd_6_113 (hp_st_s 4 (by decide)) hp_ca_251 hp_cg_251 hp_thst dX8_set_9 dX8_set_12 dX8_set_13 dX8_set_15 dX8_set_18 ⟨Nat.le_of_ble_eq_true rfl, Nat.le_of_ble_eq_true rfl, Nat.le_of_ble_eq_true rfl, Nat.le_of_ble_eq_true rfl⟩ ⟨Nat.le_of_ble_eq_true rfl, Nat.le_of_ble_eq_true rfl⟩
  · refine hz_case (fun he2 => ?_) (fun _ => hz_none hC)
    rw [hp_vr_pos (adV := adV) hp2]
    refine hz_iload_n (a := 3) (n := 20) hC dX8_set_19 rfl rfl rfl ?_
    refine hz_aload_n (a := 0) (n := 21) hC dX8_set_20 rfl rfl rfl ?_
    refine hz_vgetN (n := 24) hC dX8_set_21 (hp_vlea_OF hC.2.2.2.2.1 he2) wd_8_233 rfl ?_
    refine hz_aload_n (a := 0) (n := 25) hC dX8_set_24 rfl rfl rfl ?_
    refine hz_vgetN (n := 28) hC dX8_set_25 (hp_vgre_OF hC.2.2.2.2.1 he2) wd_8_234 rfl ?_
    refine hz_callSX (k := 3) (As := [.int a1, .int (hp_vlea.getD ((r1).toNatClampNeg) 0), .int (hp_vgre.getD ((r1).toNatClampNeg) 0)]) (st := []) (S1 := fun _ => []) (n := 31) hC hE (c_X8_checkRange l hl0 a1 (hp_vlea.getD ((r1).toNatClampNeg) 0) (hp_vgre.getD ((r1).toNatClampNeg) 0)   M1) ks_X8_checkRange wd_5_86 hI dX8_set_28 rfl rfl rfl (Nat.le_of_ble_eq_true rfl) ⟨Nat.le_of_ble_eq_true rfl, Nat.le_of_ble_eq_true rfl⟩ ⟨Nat.le_of_ble_eq_true rfl, Nat.le_of_ble_eq_true rfl⟩ ⟨Nat.le_of_ble_eq_true rfl, Nat.le_of_ble_eq_true rfl⟩ (fun _ => rfl) rfl (fun r3 M3 _ => ?_)
    refine hz_aload_n (a := 1) (n := 32) hC dX8_set_31 rfl rfl rfl ?_
    refine fg_X8_22 (n := 35) hC hI dX8_set_32 rfl ?_
    refine hz_aload_n (a := 1) (n := 36) hC dX8_set_35 rfl rfl rfl ?_
    refine fg_X8_10 (n := 39) hC hI dX8_set_36 rfl ?_
    refine hz_callVN (k := 1) (As := [.ref (adr 0 0)]) (st := []) (S1 := fun _ => []) (n := 42) hC (c_X1_keep l 0 (by decide)  M3) kv_X1_keep wd_6_55 hI dX8_set_39 rfl (hI.2 4 (by decide)) he_X1 rfl rfl rfl (Nat.le_of_ble_eq_true rfl) ⟨Nat.le_of_ble_eq_true rfl, Nat.le_of_ble_eq_true rfl⟩ ⟨Nat.le_of_ble_eq_true rfl, Nat.le_of_ble_eq_true rfl⟩ (fun _ => rfl) rfl (fun r4 M4 _ => ?_)
    refine hz_aload_n (a := 1) (n := 43) hC dX8_set_42 rfl rfl rfl ?_
    refine fg_X8_10 (n := 46) hC hI dX8_set_43 rfl ?_
    refine hz_aload_n (a := 0) (n := 47) hC dX8_set_46 rfl rfl rfl ?_
    refine hz_iconst (v := (-1 : Int32)) (n := 48) hC dX8_set_47 (by decide +kernel) rfl ?_
    refine hz_iload_n (a := 3) (n := 49) hC dX8_set_48 rfl rfl rfl ?_
    refine hz_callVN (k := 3) (As := [.ref (adV ((r1).toNatClampNeg)), .int (-1 : Int32), .int a1]) (st := []) (S1 := fun r => .int r :: []) (n := 52) hC (c_X2_perform l 0 ((r1).toNatClampNeg) (-1 : Int32) a1 (by decide) he2  M4) kv_X2_perform wd_2_164 hI dX8_set_49 rfl (hI.1 0 0 (by decide) (by decide)) (he_X2 (by decide)) rfl rfl rfl (Nat.le_of_ble_eq_true rfl) ⟨Nat.le_of_ble_eq_true rfl, Nat.le_of_ble_eq_true rfl⟩ ⟨Nat.le_of_ble_eq_true rfl, Nat.le_of_ble_eq_true rfl⟩ (fun _ => rfl) rfl (fun r5 M5 _ => ?_)
    exact hz_iretX hC hr dX8_set_52 ⟨Nat.le_of_ble_eq_true rfl, Nat.le_of_ble_eq_true rfl⟩
def F_X8_pass (a0 : Int32) (M : hp_M) : Option ((Int32 ⊕ Nat) × hp_M) := (hp_bx (F_X8_checkRange a0 (hp_vlea.getD 11 0) (hp_vgre.getD 11 0) M) (fun _ M1 => (hp_b (F_X1_keep 0 M1) (fun _ M2 => (hp_b (F_X2_perform 0 11 (-1 : Int32) a0 M2) (fun r3 M3 => (some (.inl r3, M3))))))))
set_option maxRecDepth 20000 in
set_option maxHeartbeats 4000000 in
theorem c_X8_pass (l : Launch) (hl0 : l.stackTraces = false) (a0 : Int32)  (M : hp_M) : hp_CtX l yX8_pass cX8_pass 2 (some .int) 7 2 hp_IC (fun adr adV => [.ref (adr 12 0), .int a0]) hp_oi M (F_X8_pass a0 M) := by
  refine hp_startX "HallPhone" (fun adr adV => [(0, .ref (adr 12 0)), (1, .int a0)]) (by decide) rfl (fun _ _ => by simp only [lg_sl]; exact Nat.le_of_ble_eq_true rfl) (fun _ _ => rfl) ?_
  intro p e s m args below meth c A D ids adr adV cA rep G0 hI hC hr hE
  unfold F_X8_pass
  refine hz_iload_n (a := 1) (n := 1) hC dX8_pass_0 rfl rfl rfl ?_
  refine hz_gets (k := 11) (n := 4) hC dX8_pass_1 wd_6_122 wd_1_18.1 (hp_st_vn 11 (by decide)) wd_6_121 rfl ?_
  refine hz_vgetN (n := 7) hC dX8_pass_4 (hp_vlea_OF hC.2.2.2.2.1 (by decide)) wd_8_233 rfl ?_
  refine hz_gets (k := 11) (n := 10) hC dX8_pass_7 wd_6_122 wd_1_18.1 (hp_st_vn 11 (by decide)) wd_6_121 rfl ?_
  refine hz_vgetN (n := 13) hC dX8_pass_10 (hp_vgre_OF hC.2.2.2.2.1 (by decide)) wd_8_234 rfl ?_
  refine hz_callSX (k := 3) (As := [.int a0, .int (hp_vlea.getD 11 0), .int (hp_vgre.getD 11 0)]) (st := []) (S1 := fun _ => []) (n := 16) hC hE (c_X8_checkRange l hl0 a0 (hp_vlea.getD 11 0) (hp_vgre.getD 11 0)   M) ks_X8_checkRange wd_5_86 hI dX8_pass_13 rfl rfl rfl (Nat.le_of_ble_eq_true rfl) ⟨Nat.le_of_ble_eq_true rfl, Nat.le_of_ble_eq_true rfl⟩ ⟨Nat.le_of_ble_eq_true rfl, Nat.le_of_ble_eq_true rfl⟩ ⟨Nat.le_of_ble_eq_true rfl, Nat.le_of_ble_eq_true rfl⟩ (fun _ => rfl) rfl (fun r1 M1 _ => ?_)
  refine hz_aload_n (a := 0) (n := 17) hC dX8_pass_16 rfl rfl rfl ?_
  refine fg_X8_22 (n := 20) hC hI dX8_pass_17 rfl ?_
  refine hz_aload_n (a := 0) (n := 21) hC dX8_pass_20 rfl rfl rfl ?_
  refine fg_X8_10 (n := 24) hC hI dX8_pass_21 rfl ?_
  refine hz_callVN (k := 1) (As := [.ref (adr 0 0)]) (st := []) (S1 := fun _ => []) (n := 27) hC (c_X1_keep l 0 (by decide)  M1) kv_X1_keep wd_6_55 hI dX8_pass_24 rfl (hI.2 4 (by decide)) he_X1 rfl rfl rfl (Nat.le_of_ble_eq_true rfl) ⟨Nat.le_of_ble_eq_true rfl, Nat.le_of_ble_eq_true rfl⟩ ⟨Nat.le_of_ble_eq_true rfl, Nat.le_of_ble_eq_true rfl⟩ (fun _ => rfl) rfl (fun r2 M2 _ => ?_)
  refine hz_aload_n (a := 0) (n := 28) hC dX8_pass_27 rfl rfl rfl ?_
  refine fg_X8_10 (n := 31) hC hI dX8_pass_28 rfl ?_
  refine hz_gets (k := 11) (n := 34) hC dX8_pass_31 wd_6_122 wd_1_18.1 (hp_st_vn 11 (by decide)) wd_6_121 rfl ?_
  refine hz_iconst (v := (-1 : Int32)) (n := 35) hC dX8_pass_34 (by decide +kernel) rfl ?_
  refine hz_iload_n (a := 1) (n := 36) hC dX8_pass_35 rfl rfl rfl ?_
  refine hz_callVN (k := 3) (As := [.ref (adV 11), .int (-1 : Int32), .int a0]) (st := []) (S1 := fun r => .int r :: []) (n := 39) hC (c_X2_perform l 0 11 (-1 : Int32) a0 (by decide) (by decide)  M2) kv_X2_perform wd_2_164 hI dX8_pass_36 rfl (hI.1 0 0 (by decide) (by decide)) (he_X2 (by decide)) rfl rfl rfl (Nat.le_of_ble_eq_true rfl) ⟨Nat.le_of_ble_eq_true rfl, Nat.le_of_ble_eq_true rfl⟩ ⟨Nat.le_of_ble_eq_true rfl, Nat.le_of_ble_eq_true rfl⟩ (fun _ => rfl) rfl (fun r3 M3 _ => ?_)
  exact hz_iretX hC hr dX8_pass_39 ⟨Nat.le_of_ble_eq_true rfl, Nat.le_of_ble_eq_true rfl⟩
def F_X8_saveSnapshot (a0 : Int32) (M : hp_M) : Option ((Int32 ⊕ Nat) × hp_M) := (hp_bx (F_X8_checkRange a0 (0 : Int32) (1 : Int32) M) (fun _ M1 => (hp_b (F_X8_isSaved a0 M1) (fun r2 M2 => (hp_b (F_X8_snapshotIn a0 M2) (fun r3 M3 => (if r3 < 12 then (hp_b (F_X2_copyFrom r3 0 M3) (fun _ M4 => (if r2 = 0 ∨ r2 = 1 then some (.inl r2, (hp_p M4 12 0 5 ((M4 12 0 5) ||| ((1 : Int32) <<< (a0 &&& 31))))) else none))) else none)))))))
set_option maxRecDepth 20000 in
set_option maxHeartbeats 4000000 in
theorem c_X8_saveSnapshot (l : Launch) (hl0 : l.stackTraces = false) (a0 : Int32)  (M : hp_M) : hp_CtX l yX8_saveSnapshot cX8_saveSnapshot 3 (some .boolean) 7 2 hp_IC (fun adr adV => [.ref (adr 12 0), .int a0]) hp_oi M (F_X8_saveSnapshot a0 M) := by
  refine hp_startX "HallPhone" (fun adr adV => [(0, .ref (adr 12 0)), (1, .int a0)]) (by decide) rfl (fun _ _ => by simp only [lg_sl]; exact Nat.le_of_ble_eq_true rfl) (fun _ _ => rfl) ?_
  intro p e s m args below meth c A D ids adr adV cA rep G0 hI hC hr hE
  unfold F_X8_saveSnapshot
  refine hz_iload_n (a := 1) (n := 1) hC dX8_saveSnapshot_0 rfl rfl rfl ?_
  refine hz_iconst (v := (0 : Int32)) (n := 2) hC dX8_saveSnapshot_1 (by decide +kernel) rfl ?_
  refine hz_iconst (v := (1 : Int32)) (n := 3) hC dX8_saveSnapshot_2 (by decide +kernel) rfl ?_
  refine hz_callSX (k := 3) (As := [.int a0, .int (0 : Int32), .int (1 : Int32)]) (st := []) (S1 := fun _ => []) (n := 6) hC hE (c_X8_checkRange l hl0 a0 (0 : Int32) (1 : Int32)   M) ks_X8_checkRange wd_5_86 hI dX8_saveSnapshot_3 rfl rfl rfl (Nat.le_of_ble_eq_true rfl) ⟨Nat.le_of_ble_eq_true rfl, Nat.le_of_ble_eq_true rfl⟩ ⟨Nat.le_of_ble_eq_true rfl, Nat.le_of_ble_eq_true rfl⟩ ⟨Nat.le_of_ble_eq_true rfl, Nat.le_of_ble_eq_true rfl⟩ (fun _ => rfl) rfl (fun r1 M1 _ => ?_)
  refine hz_aload_n (a := 0) (n := 7) hC dX8_saveSnapshot_6 rfl rfl rfl ?_
  refine hz_iload_n (a := 1) (n := 8) hC dX8_saveSnapshot_7 rfl rfl rfl ?_
  refine hz_callV (k := 1) (As := [.int a0]) (st := []) (S1 := fun r => .int r :: []) (n := 11) hC (c_X8_isSaved l a0   M1) kv_X8_isSaved wd_6_130 hI dX8_saveSnapshot_8 rfl (hI.2 0 (by decide)) he_X8 rfl rfl rfl (Nat.le_of_ble_eq_true rfl) ⟨Nat.le_of_ble_eq_true rfl, Nat.le_of_ble_eq_true rfl⟩ ⟨Nat.le_of_ble_eq_true rfl, Nat.le_of_ble_eq_true rfl⟩ (fun _ => rfl) rfl (fun r2 M2 _ => ?_)
  refine hz_istore_n (L' := [(2, .int r2), (0, .ref (adr 12 0)), (1, .int a0)]) (n := 12) hC dX8_saveSnapshot_11 rfl (by decide) rfl rfl ?_
  refine hz_aload_n (a := 1) (n := 13) hC dX8_saveSnapshot_12 rfl rfl rfl ?_
  refine hz_iload_n (a := 2) (n := 14) hC dX8_saveSnapshot_13 rfl rfl rfl ?_
  refine hz_callV (k := 1) (As := [.int a0]) (st := []) (S1 := fun r => .ref (adr r 0) :: []) (n := 17) hC (c_X8_snapshotIn l a0   M2) kv_X8_snapshotIn wd_6_134 hI dX8_saveSnapshot_14 rfl (hI.2 0 (by decide)) he_X8 rfl rfl rfl (Nat.le_of_ble_eq_true rfl) ⟨Nat.le_of_ble_eq_true rfl, Nat.le_of_ble_eq_true rfl⟩ ⟨Nat.le_of_ble_eq_true rfl, Nat.le_of_ble_eq_true rfl⟩ (fun _ => rfl) rfl (fun r3 M3 _ => ?_)
  refine hz_case (fun hr3 => ?_) (fun _ => hz_none hC)
  refine hz_aload_n (a := 1) (n := 18) hC dX8_saveSnapshot_17 rfl rfl rfl ?_
  refine fg_X8_10 (n := 21) hC hI dX8_saveSnapshot_18 rfl ?_
  refine hz_callVN (k := 1) (As := [.ref (adr 0 0)]) (st := []) (S1 := fun _ => []) (n := 24) hC (c_X2_copyFrom l r3 0 hr3 (by decide)  M3) kv_X2_copyFrom wd_3_33 hI dX8_saveSnapshot_21 rfl (hI.1 r3 0 hr3 (by decide)) (he_X2 hr3) rfl rfl rfl (Nat.le_of_ble_eq_true rfl) ⟨Nat.le_of_ble_eq_true rfl, Nat.le_of_ble_eq_true rfl⟩ ⟨Nat.le_of_ble_eq_true rfl, Nat.le_of_ble_eq_true rfl⟩ (fun _ => rfl) rfl (fun r4 M4 _ => ?_)
  refine hz_aload_n (a := 1) (n := 25) hC dX8_saveSnapshot_24 rfl rfl rfl ?_
  refine hz_dup (n := 26) hC dX8_saveSnapshot_25 rfl rfl ?_
  refine fg_X8_32 (n := 29) hC hI dX8_saveSnapshot_26 rfl ?_
  refine hz_iconst (v := (1 : Int32)) (n := 30) hC dX8_saveSnapshot_29 (by decide +kernel) rfl ?_
  refine hz_iload_n (a := 2) (n := 31) hC dX8_saveSnapshot_30 rfl rfl rfl ?_
  refine hz_ishl (n := 32) hC dX8_saveSnapshot_31 rfl ?_
  refine hz_ior (n := 33) hC dX8_saveSnapshot_32 rfl ?_
  refine fp_X8_32 (n := 36) hC hI ((M4 12 0 5) ||| ((1 : Int32) <<< (a0 &&& 31))) dX8_saveSnapshot_33 rfl ?_
  refine hz_iload_n (a := 0) (n := 37) hC dX8_saveSnapshot_36 rfl rfl rfl ?_
  exact hz_bretX hC hr dX8_saveSnapshot_37 ⟨Nat.le_of_ble_eq_true rfl, Nat.le_of_ble_eq_true rfl⟩
