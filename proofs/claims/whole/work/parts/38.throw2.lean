def F_X8_message (a0 : Int32) (a1 : Int32) (M : hp_M) : Option ((Int32 ⊕ Nat) × hp_M) := (if a0 < 0 then (some (.inr 2, M)) else (if a0 < (M 0 8 2) then (hp_bx (F_X8_checkRange a1 (0 : Int32) (1 : Int32) M) (fun _ M1 => (if a1 = 0 then (hp_b (F_X6_flatAt 0 a0 M1) (fun r2 M2 => (some (.inl r2, M2)))) else (hp_b (F_X6_minuteAt 0 a0 M1) (fun r3 M3 => (some (.inl r3, M3))))))) else (some (.inr 2, M))))
set_option maxRecDepth 20000 in
set_option maxHeartbeats 4000000 in
theorem c_X8_message (l : Launch) (hl0 : l.stackTraces = false) (a0 : Int32) (a1 : Int32)  (M : hp_M) : hp_CtX l yX8_message cX8_message 3 (some .int) 7 4 hp_IC (fun adr adV => [.ref (adr 12 0), .int a0, .int a1]) hp_oi M (F_X8_message a0 a1 M) := by
  refine hp_startX "HallPhone" (fun adr adV => [(0, .ref (adr 12 0)), (1, .int a0), (2, .int a1)]) (by decide) rfl (fun _ _ => by simp only [lg_sl]; exact Nat.le_of_ble_eq_true rfl) (fun _ _ => rfl) ?_
  intro p e s m args below meth c A D ids adr adV cA rep G0 hI hC hr hE
  unfold F_X8_message
  refine hz_iload_n (a := 1) (n := 1) hC dX8_message_0 rfl rfl rfl ?_
  refine hz_if_lt (tgt := 18) (n := 4) hC dX8_message_1 (by decide) rfl (fun _ => ?_) (fun _ => ?_)
  · exact hz_throwNS hC hE hl0 2 hp_cf_120.1 hp_cf_120.2 hp_cl_120 hp_ci_120 wd_5_162 (hp_st_s 3 (by decide)) hp_ca_120 hp_cg_120 hp_thst dX8_message_18 dX8_message_21 dX8_message_22 dX8_message_24 dX8_message_27 ⟨Nat.le_of_ble_eq_true rfl, Nat.le_of_ble_eq_true rfl, Nat.le_of_ble_eq_true rfl, Nat.le_of_ble_eq_true rfl⟩ ⟨Nat.le_of_ble_eq_true rfl, Nat.le_of_ble_eq_true rfl⟩
  · refine hz_iload_n (a := 1) (n := 5) hC dX8_message_4 rfl rfl rfl ?_
    refine hz_aload_n (a := 0) (n := 6) hC dX8_message_5 rfl rfl rfl ?_
    refine fg_X8_10 (n := 9) hC hI dX8_message_6 rfl ?_
    refine fg_X8_112 (n := 12) hC (by decide) hI dX8_message_9 rfl ?_
    refine fg_X8_116 (n := 15) hC (by decide) hI dX8_message_12 rfl ?_
    refine hz_icmp_lt (tgt := 28) (n := 18) hC dX8_message_15 (by decide) rfl (fun _ => ?_) (fun _ => ?_)
    · refine hz_iload_n (a := 2) (n := 29) hC dX8_message_28 rfl rfl rfl ?_
      refine hz_iconst (v := (0 : Int32)) (n := 30) hC dX8_message_29 (by decide +kernel) rfl ?_
      refine hz_iconst (v := (1 : Int32)) (n := 31) hC dX8_message_30 (by decide +kernel) rfl ?_
      refine hz_callSX (k := 3) (As := [.int a1, .int (0 : Int32), .int (1 : Int32)]) (st := []) (S1 := fun _ => []) (n := 34) hC hE (c_X8_checkRange l hl0 a1 (0 : Int32) (1 : Int32)   M) ks_X8_checkRange wd_5_86 hI dX8_message_31 rfl rfl rfl (Nat.le_of_ble_eq_true rfl) ⟨Nat.le_of_ble_eq_true rfl, Nat.le_of_ble_eq_true rfl⟩ ⟨Nat.le_of_ble_eq_true rfl, Nat.le_of_ble_eq_true rfl⟩ ⟨Nat.le_of_ble_eq_true rfl, Nat.le_of_ble_eq_true rfl⟩ (fun _ => rfl) rfl (fun r1 M1 _ => ?_)
      refine hz_iload_n (a := 2) (n := 35) hC dX8_message_34 rfl rfl rfl ?_
      refine hz_if_ne (tgt := 52) (n := 38) hC dX8_message_35 (by decide) rfl (fun _ => ?_) (fun _ => ?_)
      · refine hz_aload_n (a := 0) (n := 39) hC dX8_message_38 rfl rfl rfl ?_
        refine fg_X8_10 (n := 42) hC hI dX8_message_39 rfl ?_
        refine fg_X8_112 (n := 45) hC (by decide) hI dX8_message_42 rfl ?_
        refine hz_iload_n (a := 1) (n := 46) hC dX8_message_45 rfl rfl rfl ?_
        refine hz_callVN (k := 1) (As := [.int a0]) (st := []) (S1 := fun r => .int r :: []) (n := 49) hC (c_X6_flatAt l 0 a0 (by decide)  M1) kv_X6_flatAt wd_5_21 hI dX8_message_46 rfl (hI.1 0 8 (by decide) (by decide)) (he_X6 (by decide)) rfl rfl rfl (Nat.le_of_ble_eq_true rfl) ⟨Nat.le_of_ble_eq_true rfl, Nat.le_of_ble_eq_true rfl⟩ ⟨Nat.le_of_ble_eq_true rfl, Nat.le_of_ble_eq_true rfl⟩ (fun _ => rfl) rfl (fun r2 M2 _ => ?_)
        refine hz_goto (n := 63) hC dX8_message_49 (by decide) ?_
        exact hz_iretX hC hr dX8_message_63 ⟨Nat.le_of_ble_eq_true rfl, Nat.le_of_ble_eq_true rfl⟩
      · refine hz_aload_n (a := 0) (n := 53) hC dX8_message_52 rfl rfl rfl ?_
        refine fg_X8_10 (n := 56) hC hI dX8_message_53 rfl ?_
        refine fg_X8_112 (n := 59) hC (by decide) hI dX8_message_56 rfl ?_
        refine hz_iload_n (a := 1) (n := 60) hC dX8_message_59 rfl rfl rfl ?_
        refine hz_callVN (k := 1) (As := [.int a0]) (st := []) (S1 := fun r => .int r :: []) (n := 63) hC (c_X6_minuteAt l 0 a0 (by decide)  M1) kv_X6_minuteAt wd_5_25 hI dX8_message_60 rfl (hI.1 0 8 (by decide) (by decide)) (he_X6 (by decide)) rfl rfl rfl (Nat.le_of_ble_eq_true rfl) ⟨Nat.le_of_ble_eq_true rfl, Nat.le_of_ble_eq_true rfl⟩ ⟨Nat.le_of_ble_eq_true rfl, Nat.le_of_ble_eq_true rfl⟩ (fun _ => rfl) rfl (fun r3 M3 _ => ?_)
        exact hz_iretX hC hr dX8_message_63 ⟨Nat.le_of_ble_eq_true rfl, Nat.le_of_ble_eq_true rfl⟩
    · exact hz_throwNS hC hE hl0 2 hp_cf_120.1 hp_cf_120.2 hp_cl_120 hp_ci_120 wd_5_162 (hp_st_s 3 (by decide)) hp_ca_120 hp_cg_120 hp_thst dX8_message_18 dX8_message_21 dX8_message_22 dX8_message_24 dX8_message_27 ⟨Nat.le_of_ble_eq_true rfl, Nat.le_of_ble_eq_true rfl, Nat.le_of_ble_eq_true rfl, Nat.le_of_ble_eq_true rfl⟩ ⟨Nat.le_of_ble_eq_true rfl, Nat.le_of_ble_eq_true rfl⟩
def F_X8_restoreSnapshot (a0 : Int32) (M : hp_M) : Option ((Int32 ⊕ Nat) × hp_M) := (hp_bx (F_X8_checkRange a0 (0 : Int32) (1 : Int32) M) (fun _ M1 => (hp_b (F_X8_isSaved a0 M1) (fun r2 M2 => (if r2 = 0 then (some (.inr 2, M2)) else (hp_b (F_X8_snapshotIn a0 M2) (fun r3 M3 => (if r3 < 12 then (hp_b (F_X2_copyFrom 0 r3 M3) (fun _ M4 => (hp_b (F_X1_forget M4) (fun _ M5 => (some (.inl (M5 0 0 1), M5)))))) else none))))))))
set_option maxRecDepth 20000 in
set_option maxHeartbeats 4000000 in
theorem c_X8_restoreSnapshot (l : Launch) (hl0 : l.stackTraces = false) (a0 : Int32)  (M : hp_M) : hp_CtX l yX8_restoreSnapshot cX8_restoreSnapshot 2 (some .int) 7 3 hp_IC (fun adr adV => [.ref (adr 12 0), .int a0]) hp_oi M (F_X8_restoreSnapshot a0 M) := by
  refine hp_startX "HallPhone" (fun adr adV => [(0, .ref (adr 12 0)), (1, .int a0)]) (by decide) rfl (fun _ _ => by simp only [lg_sl]; exact Nat.le_of_ble_eq_true rfl) (fun _ _ => rfl) ?_
  intro p e s m args below meth c A D ids adr adV cA rep G0 hI hC hr hE
  unfold F_X8_restoreSnapshot
  refine hz_iload_n (a := 1) (n := 1) hC dX8_restoreSnapshot_0 rfl rfl rfl ?_
  refine hz_iconst (v := (0 : Int32)) (n := 2) hC dX8_restoreSnapshot_1 (by decide +kernel) rfl ?_
  refine hz_iconst (v := (1 : Int32)) (n := 3) hC dX8_restoreSnapshot_2 (by decide +kernel) rfl ?_
  refine hz_callSX (k := 3) (As := [.int a0, .int (0 : Int32), .int (1 : Int32)]) (st := []) (S1 := fun _ => []) (n := 6) hC hE (c_X8_checkRange l hl0 a0 (0 : Int32) (1 : Int32)   M) ks_X8_checkRange wd_5_86 hI dX8_restoreSnapshot_3 rfl rfl rfl (Nat.le_of_ble_eq_true rfl) ⟨Nat.le_of_ble_eq_true rfl, Nat.le_of_ble_eq_true rfl⟩ ⟨Nat.le_of_ble_eq_true rfl, Nat.le_of_ble_eq_true rfl⟩ ⟨Nat.le_of_ble_eq_true rfl, Nat.le_of_ble_eq_true rfl⟩ (fun _ => rfl) rfl (fun r1 M1 _ => ?_)
  refine hz_aload_n (a := 0) (n := 7) hC dX8_restoreSnapshot_6 rfl rfl rfl ?_
  refine hz_iload_n (a := 1) (n := 8) hC dX8_restoreSnapshot_7 rfl rfl rfl ?_
  refine hz_callV (k := 1) (As := [.int a0]) (st := []) (S1 := fun r => .int r :: []) (n := 11) hC (c_X8_isSaved l a0   M1) kv_X8_isSaved wd_6_130 hI dX8_restoreSnapshot_8 rfl (hI.2 0 (by decide)) he_X8 rfl rfl rfl (Nat.le_of_ble_eq_true rfl) ⟨Nat.le_of_ble_eq_true rfl, Nat.le_of_ble_eq_true rfl⟩ ⟨Nat.le_of_ble_eq_true rfl, Nat.le_of_ble_eq_true rfl⟩ (fun _ => rfl) rfl (fun r2 M2 _ => ?_)
  refine hz_if_ne (tgt := 25) (n := 14) hC dX8_restoreSnapshot_11 (by decide) rfl (fun _ => ?_) (fun _ => ?_)
  · exact hz_throwNSW hC hE hl0 2 hp_cf_120.1 hp_cf_120.2 hp_cl_120 hp_ci_120 wd_6_145 (hp_st_s 5 (by decide)) hp_ca_120 hp_cg_120 hp_thst dX8_restoreSnapshot_14 dX8_restoreSnapshot_17 dX8_restoreSnapshot_18 dX8_restoreSnapshot_21 dX8_restoreSnapshot_24 ⟨Nat.le_of_ble_eq_true rfl, Nat.le_of_ble_eq_true rfl, Nat.le_of_ble_eq_true rfl, Nat.le_of_ble_eq_true rfl⟩ ⟨Nat.le_of_ble_eq_true rfl, Nat.le_of_ble_eq_true rfl⟩
  · refine hz_aload_n (a := 0) (n := 26) hC dX8_restoreSnapshot_25 rfl rfl rfl ?_
    refine fg_X8_10 (n := 29) hC hI dX8_restoreSnapshot_26 rfl ?_
    refine hz_aload_n (a := 0) (n := 30) hC dX8_restoreSnapshot_29 rfl rfl rfl ?_
    refine hz_iload_n (a := 1) (n := 31) hC dX8_restoreSnapshot_30 rfl rfl rfl ?_
    refine hz_callV (k := 1) (As := [.int a0]) (st := [.ref (adr 0 0)]) (S1 := fun r => .ref (adr r 0) :: [.ref (adr 0 0)]) (n := 34) hC (c_X8_snapshotIn l a0   M2) kv_X8_snapshotIn wd_6_134 hI dX8_restoreSnapshot_31 rfl (hI.2 0 (by decide)) he_X8 rfl rfl rfl (Nat.le_of_ble_eq_true rfl) ⟨Nat.le_of_ble_eq_true rfl, Nat.le_of_ble_eq_true rfl⟩ ⟨Nat.le_of_ble_eq_true rfl, Nat.le_of_ble_eq_true rfl⟩ (fun _ => rfl) rfl (fun r3 M3 _ => ?_)
    refine hz_case (fun hr3 => ?_) (fun _ => hz_none hC)
    refine hz_callVN (k := 1) (As := [.ref (adr r3 0)]) (st := []) (S1 := fun _ => []) (n := 37) hC (c_X2_copyFrom l 0 r3 (by decide) hr3  M3) kv_X2_copyFrom wd_3_33 hI dX8_restoreSnapshot_34 rfl (hI.1 0 0 (by decide) (by decide)) (he_X2 (by decide)) rfl rfl rfl (Nat.le_of_ble_eq_true rfl) ⟨Nat.le_of_ble_eq_true rfl, Nat.le_of_ble_eq_true rfl⟩ ⟨Nat.le_of_ble_eq_true rfl, Nat.le_of_ble_eq_true rfl⟩ (fun _ => rfl) rfl (fun r4 M4 _ => ?_)
    refine hz_aload_n (a := 0) (n := 38) hC dX8_restoreSnapshot_37 rfl rfl rfl ?_
    refine fg_X8_22 (n := 41) hC hI dX8_restoreSnapshot_38 rfl ?_
    refine hz_callVN (k := 0) (As := []) (st := []) (S1 := fun _ => []) (n := 44) hC (c_X1_forget l    M4) kv_X1_forget wd_3_51 hI dX8_restoreSnapshot_41 rfl (hI.2 4 (by decide)) he_X1 rfl rfl rfl (Nat.le_of_ble_eq_true rfl) ⟨Nat.le_of_ble_eq_true rfl, Nat.le_of_ble_eq_true rfl⟩ ⟨Nat.le_of_ble_eq_true rfl, Nat.le_of_ble_eq_true rfl⟩ (fun _ => rfl) rfl (fun r5 M5 _ => ?_)
    refine hz_aload_n (a := 0) (n := 45) hC dX8_restoreSnapshot_44 rfl rfl rfl ?_
    refine fg_X8_10 (n := 48) hC hI dX8_restoreSnapshot_45 rfl ?_
    refine fg_X8_281 (n := 51) hC (by decide) hI dX8_restoreSnapshot_48 rfl ?_
    exact hz_iretX hC hr dX8_restoreSnapshot_51 ⟨Nat.le_of_ble_eq_true rfl, Nat.le_of_ble_eq_true rfl⟩
