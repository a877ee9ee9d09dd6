def F_X8_meanCall  (M : hp_M) : Option (UInt64 × hp_M) := (hp_b (F_X2_accountNumber 0 (1 : Int32) M) (fun r1 M1 => (if r1 ≤ 0 then (some (FP.dconst0, M1)) else (if (FP.ddiv (FP.i2d (M1 0 0 2)) (FP.i2d r1)) &&& 0x7fffffffffffffff ≤ 0x7ff0000000000000 then (some ((FP.ddiv (FP.i2d (M1 0 0 2)) (FP.i2d r1)), M1)) else none))))
set_option maxRecDepth 20000 in
set_option maxHeartbeats 4000000 in
theorem c_X8_meanCall (l : Launch)   (M : hp_M) : hp_Ct l yX8_meanCall cX8_meanCall 2 (some .double) 3 hp_IC (fun adr adV => [.ref (adr 12 0)]) hp_od M (F_X8_meanCall  M) := by
  refine hp_start "HallPhone" (fun adr adV => [(0, .ref (adr 12 0))]) (by decide) rfl (fun _ _ => by simp only [lg_sl]; exact Nat.le_of_ble_eq_true rfl) (fun _ _ => rfl) ?_
  intro p e s m args below meth c A D ids adr adV cA rep G0 hI hC hr
  unfold F_X8_meanCall
  refine hz_aload_n (a := 0) (n := 1) hC dX8_meanCall_0 rfl rfl rfl ?_
  refine fg_X8_10 (n := 4) hC hI dX8_meanCall_1 rfl ?_
  refine hz_iconst (v := (1 : Int32)) (n := 5) hC dX8_meanCall_4 (by decide +kernel) rfl ?_
  refine hz_callVN (k := 1) (As := [.int (1 : Int32)]) (st := []) (S1 := fun r => .int r :: []) (n := 8) hC (c_X2_accountNumber l 0 (1 : Int32) (by decide)  M) kv_X2_accountNumber wd_3_139 hI dX8_meanCall_5 rfl (hI.1 0 0 (by decide) (by decide)) (he_X2 (by decide)) rfl rfl rfl (Nat.le_of_ble_eq_true rfl) ⟨Nat.le_of_ble_eq_true rfl, Nat.le_of_ble_eq_true rfl⟩ ⟨Nat.zero_le _, Nat.zero_le _⟩ (fun _ => rfl) rfl (fun r1 M1 _ => ?_)
  refine hz_istore_n (L' := [(1, .int r1), (0, .ref (adr 12 0))]) (n := 9) hC dX8_meanCall_8 rfl (by decide) rfl rfl ?_
  refine hz_iload_n (a := 0) (n := 10) hC dX8_meanCall_9 rfl rfl rfl ?_
  refine hz_if_le (tgt := 27) (n := 13) hC dX8_meanCall_10 (by decide) rfl (fun _ => ?_) (fun _ => ?_)
  · refine hz_dconst0 (n := 28) hC dX8_meanCall_27 rfl ?_
    exact hz_dret hC hr dX8_meanCall_28
  · refine hz_aload_n (a := 1) (n := 14) hC dX8_meanCall_13 rfl rfl rfl ?_
    refine fg_X8_10 (n := 17) hC hI dX8_meanCall_14 rfl ?_
    refine fg_X8_209 (n := 20) hC (by decide) hI dX8_meanCall_17 rfl ?_
    refine hz_i2d (n := 21) hC dX8_meanCall_20 rfl ?_
    refine hz_iload_n (a := 0) (n := 22) hC dX8_meanCall_21 rfl rfl rfl ?_
    refine hz_i2d (n := 23) hC dX8_meanCall_22 rfl ?_
    refine hz_ddiv (n := 24) hC dX8_meanCall_23 rfl ?_
    refine hz_goto (n := 28) hC dX8_meanCall_24 (by decide) ?_
    exact hz_dret hC hr dX8_meanCall_28
def F_X8_busyShare  (M : hp_M) : Option (UInt32 × hp_M) := (hp_b (F_X2_accountNumber 0 (0 : Int32) M) (fun r1 M1 => (if r1 ≤ 0 then (some (FP.fconst0, M1)) else (hp_b (F_X2_accountNumber 0 (3 : Int32) M1) (fun r2 M2 => (if (FP.fdiv (FP.i2f r2) (FP.i2f r1)) &&& 0x7fffffff ≤ 0x7f800000 then (some ((FP.fdiv (FP.i2f r2) (FP.i2f r1)), M2)) else none))))))
set_option maxRecDepth 20000 in
set_option maxHeartbeats 4000000 in
theorem c_X8_busyShare (l : Launch)   (M : hp_M) : hp_Ct l yX8_busyShare cX8_busyShare 2 (some .float) 3 hp_IC (fun adr adV => [.ref (adr 12 0)]) hp_of M (F_X8_busyShare  M) := by
  refine hp_start "HallPhone" (fun adr adV => [(0, .ref (adr 12 0))]) (by decide) rfl (fun _ _ => by simp only [lg_sl]; exact Nat.le_of_ble_eq_true rfl) (fun _ _ => rfl) ?_
  intro p e s m args below meth c A D ids adr adV cA rep G0 hI hC hr
  unfold F_X8_busyShare
  refine hz_aload_n (a := 0) (n := 1) hC dX8_busyShare_0 rfl rfl rfl ?_
  refine fg_X8_10 (n := 4) hC hI dX8_busyShare_1 rfl ?_
  refine hz_iconst (v := (0 : Int32)) (n := 5) hC dX8_busyShare_4 (by decide +kernel) rfl ?_
  refine hz_callVN (k := 1) (As := [.int (0 : Int32)]) (st := []) (S1 := fun r => .int r :: []) (n := 8) hC (c_X2_accountNumber l 0 (0 : Int32) (by decide)  M) kv_X2_accountNumber wd_3_139 hI dX8_busyShare_5 rfl (hI.1 0 0 (by decide) (by decide)) (he_X2 (by decide)) rfl rfl rfl (Nat.le_of_ble_eq_true rfl) ⟨Nat.le_of_ble_eq_true rfl, Nat.le_of_ble_eq_true rfl⟩ ⟨Nat.zero_le _, Nat.zero_le _⟩ (fun _ => rfl) rfl (fun r1 M1 _ => ?_)
  refine hz_istore_n (L' := [(1, .int r1), (0, .ref (adr 12 0))]) (n := 9) hC dX8_busyShare_8 rfl (by decide) rfl rfl ?_
  refine hz_iload_n (a := 0) (n := 10) hC dX8_busyShare_9 rfl rfl rfl ?_
  refine hz_if_le (tgt := 28) (n := 13) hC dX8_busyShare_10 (by decide) rfl (fun _ => ?_) (fun _ => ?_)
  · refine hz_fconst0 (n := 29) hC dX8_busyShare_28 rfl ?_
    exact hz_fret hC hr dX8_busyShare_29
  · refine hz_aload_n (a := 1) (n := 14) hC dX8_busyShare_13 rfl rfl rfl ?_
    refine fg_X8_10 (n := 17) hC hI dX8_busyShare_14 rfl ?_
    refine hz_iconst (v := (3 : Int32)) (n := 18) hC dX8_busyShare_17 (by decide +kernel) rfl ?_
    refine hz_callVN (k := 1) (As := [.int (3 : Int32)]) (st := []) (S1 := fun r => .int r :: []) (n := 21) hC (c_X2_accountNumber l 0 (3 : Int32) (by decide)  M1) kv_X2_accountNumber wd_3_139 hI dX8_busyShare_18 rfl (hI.1 0 0 (by decide) (by decide)) (he_X2 (by decide)) rfl rfl rfl (Nat.le_of_ble_eq_true rfl) ⟨Nat.le_of_ble_eq_true rfl, Nat.le_of_ble_eq_true rfl⟩ ⟨Nat.zero_le _, Nat.zero_le _⟩ (fun _ => rfl) rfl (fun r2 M2 _ => ?_)
    refine hz_i2f (n := 22) hC dX8_busyShare_21 rfl ?_
    refine hz_iload_n (a := 0) (n := 23) hC dX8_busyShare_22 rfl rfl rfl ?_
    refine hz_i2f (n := 24) hC dX8_busyShare_23 rfl ?_
    refine hz_fdiv (n := 25) hC dX8_busyShare_24 rfl ?_
    refine hz_goto (n := 29) hC dX8_busyShare_25 (by decide) ?_
    exact hz_fret hC hr dX8_busyShare_29
def F_X9_meanCall  (M : hp_M) : Option (UInt64 × hp_M) := (if ((hp_p M 13 0 13 (0 : Int32)) 13 1 43) = 0 then (some (FP.dconst0, (hp_p M 13 0 13 (0 : Int32)))) else (if (FP.ddiv (FP.i2d ((hp_p M 13 0 13 (0 : Int32)) 13 1 41)) (FP.i2d ((hp_p M 13 0 13 (0 : Int32)) 13 1 43))) &&& 0x7fffffffffffffff ≤ 0x7ff0000000000000 then (some ((FP.ddiv (FP.i2d ((hp_p M 13 0 13 (0 : Int32)) 13 1 41)) (FP.i2d ((hp_p M 13 0 13 (0 : Int32)) 13 1 43))), (hp_p M 13 0 13 (0 : Int32)))) else none))
set_option maxRecDepth 20000 in
set_option maxHeartbeats 4000000 in
theorem c_X9_meanCall (l : Launch)   (M : hp_M) : hp_Ct l yX9_meanCall cX9_meanCall 1 (some .double) 0 hp_IR (fun adr adV => [.ref (adr 13 0)]) hp_od M (F_X9_meanCall  M) := by
  refine hp_start "HallPhoneModel" (fun adr adV => [(0, .ref (adr 13 0))]) (by decide) rfl (fun _ _ => by simp only [lg_sl]; exact Nat.le_of_ble_eq_true rfl) (fun _ _ => rfl) ?_
  intro p e s m args below meth c A D ids adr adV cA rep G0 hI hC hr
  unfold F_X9_meanCall
  refine hz_aload_n (a := 0) (n := 1) hC dX9_meanCall_0 rfl rfl rfl ?_
  refine hz_iconst (v := (0 : Int32)) (n := 2) hC dX9_meanCall_1 (by decide +kernel) rfl ?_
  refine fp_X9_42 (n := 5) hC hI (0 : Int32) dX9_meanCall_2 rfl ?_
  refine hz_aload_n (a := 0) (n := 6) hC dX9_meanCall_5 rfl rfl rfl ?_
  refine fg_X9_7 (n := 9) hC hI dX9_meanCall_6 rfl ?_
  refine hz_bipush (v := (43 : Int32)) (n := 11) hC dX9_meanCall_9 (by decide +kernel) rfl ?_
  refine hz_ialdc (k := 43) (n := 12) hC (by decide +kernel) (by decide) dX9_meanCall_11 (hI 1 (by decide)) ha_m1 rfl ?_
  refine hz_if_ne (tgt := 19) (n := 15) hC dX9_meanCall_12 (by decide) rfl (fun _ => ?_) (fun _ => ?_)
  · refine hz_dconst0 (n := 16) hC dX9_meanCall_15 rfl ?_
    refine hz_goto (n := 36) hC dX9_meanCall_16 (by decide) ?_
    exact hz_dret hC hr dX9_meanCall_36
  · refine hz_aload_n (a := 0) (n := 20) hC dX9_meanCall_19 rfl rfl rfl ?_
    refine fg_X9_7 (n := 23) hC hI dX9_meanCall_20 rfl ?_
    refine hz_bipush (v := (41 : Int32)) (n := 25) hC dX9_meanCall_23 (by decide +kernel) rfl ?_
    refine hz_ialdc (k := 41) (n := 26) hC (by decide +kernel) (by decide) dX9_meanCall_25 (hI 1 (by decide)) ha_m1 rfl ?_
    refine hz_i2d (n := 27) hC dX9_meanCall_26 rfl ?_
    refine hz_aload_n (a := 0) (n := 28) hC dX9_meanCall_27 rfl rfl rfl ?_
    refine fg_X9_7 (n := 31) hC hI dX9_meanCall_28 rfl ?_
    refine hz_bipush (v := (43 : Int32)) (n := 33) hC dX9_meanCall_31 (by decide +kernel) rfl ?_
    refine hz_ialdc (k := 43) (n := 34) hC (by decide +kernel) (by decide) dX9_meanCall_33 (hI 1 (by decide)) ha_m1 rfl ?_
    refine hz_i2d (n := 35) hC dX9_meanCall_34 rfl ?_
    refine hz_ddiv (n := 36) hC dX9_meanCall_35 rfl ?_
    exact hz_dret hC hr dX9_meanCall_36
def F_X9_busyShare  (M : hp_M) : Option (UInt32 × hp_M) := (if ((hp_p M 13 0 13 (0 : Int32)) 13 1 42) = 0 then (some (FP.fconst0, (hp_p M 13 0 13 (0 : Int32)))) else (if (FP.fdiv (FP.i2f ((hp_p M 13 0 13 (0 : Int32)) 13 1 45)) (FP.i2f ((hp_p M 13 0 13 (0 : Int32)) 13 1 42))) &&& 0x7fffffff ≤ 0x7f800000 then (some ((FP.fdiv (FP.i2f ((hp_p M 13 0 13 (0 : Int32)) 13 1 45)) (FP.i2f ((hp_p M 13 0 13 (0 : Int32)) 13 1 42))), (hp_p M 13 0 13 (0 : Int32)))) else none))
set_option maxRecDepth 20000 in
set_option maxHeartbeats 4000000 in
theorem c_X9_busyShare (l : Launch)   (M : hp_M) : hp_Ct l yX9_busyShare cX9_busyShare 1 (some .float) 0 hp_IR (fun adr adV => [.ref (adr 13 0)]) hp_of M (F_X9_busyShare  M) := by
  refine hp_start "HallPhoneModel" (fun adr adV => [(0, .ref (adr 13 0))]) (by decide) rfl (fun _ _ => by simp only [lg_sl]; exact Nat.le_of_ble_eq_true rfl) (fun _ _ => rfl) ?_
  intro p e s m args below meth c A D ids adr adV cA rep G0 hI hC hr
  unfold F_X9_busyShare
  refine hz_aload_n (a := 0) (n := 1) hC dX9_busyShare_0 rfl rfl rfl ?_
  refine hz_iconst (v := (0 : Int32)) (n := 2) hC dX9_busyShare_1 (by decide +kernel) rfl ?_
  refine fp_X9_42 (n := 5) hC hI (0 : Int32) dX9_busyShare_2 rfl ?_
  refine hz_aload_n (a := 0) (n := 6) hC dX9_busyShare_5 rfl rfl rfl ?_
  refine fg_X9_7 (n := 9) hC hI dX9_busyShare_6 rfl ?_
  refine hz_bipush (v := (42 : Int32)) (n := 11) hC dX9_busyShare_9 (by decide +kernel) rfl ?_
  refine hz_ialdc (k := 42) (n := 12) hC (by decide +kernel) (by decide) dX9_busyShare_11 (hI 1 (by decide)) ha_m1 rfl ?_
  refine hz_if_ne (tgt := 19) (n := 15) hC dX9_busyShare_12 (by decide) rfl (fun _ => ?_) (fun _ => ?_)
  · refine hz_fconst0 (n := 16) hC dX9_busyShare_15 rfl ?_
    refine hz_goto (n := 36) hC dX9_busyShare_16 (by decide) ?_
    exact hz_fret hC hr dX9_busyShare_36
  · refine hz_aload_n (a := 0) (n := 20) hC dX9_busyShare_19 rfl rfl rfl ?_
    refine fg_X9_7 (n := 23) hC hI dX9_busyShare_20 rfl ?_
    refine hz_bipush (v := (45 : Int32)) (n := 25) hC dX9_busyShare_23 (by decide +kernel) rfl ?_
    refine hz_ialdc (k := 45) (n := 26) hC (by decide +kernel) (by decide) dX9_busyShare_25 (hI 1 (by decide)) ha_m1 rfl ?_
    refine hz_i2f (n := 27) hC dX9_busyShare_26 rfl ?_
    refine hz_aload_n (a := 0) (n := 28) hC dX9_busyShare_27 rfl rfl rfl ?_
    refine fg_X9_7 (n := 31) hC hI dX9_busyShare_28 rfl ?_
    refine hz_bipush (v := (42 : Int32)) (n := 33) hC dX9_busyShare_31 (by decide +kernel) rfl ?_
    refine hz_ialdc (k := 42) (n := 34) hC (by decide +kernel) (by decide) dX9_busyShare_33 (hI 1 (by decide)) ha_m1 rfl ?_
    refine hz_i2f (n := 35) hC dX9_busyShare_34 rfl ?_
    refine hz_fdiv (n := 36) hC dX9_busyShare_35 rfl ?_
    exact hz_fret hC hr dX9_busyShare_36
def F_X9_writeNumberR : Nat → Int32 → hp_M → Option (Unit × hp_M)
  | 0, _, _ => none
  | n + 1, a0, M => (if a0 ≤ (9 : Int32) then (if (10 : Int32) = 0 then none else (hp_b (F_X9_write ((48 : Int32) + (a0 - a0 / (10 : Int32) * (10 : Int32))) M) (fun _ M1 => (some ((), M1))))) else (if (10 : Int32) = 0 then none else (hp_b (F_X9_writeNumberR n (a0 / (10 : Int32)) M) (fun _ M2 => (if (10 : Int32) = 0 then none else (hp_b (F_X9_write ((48 : Int32) + (a0 - a0 / (10 : Int32) * (10 : Int32))) M2) (fun _ M3 => (some ((), M3)))))))))
def F_X9_writeNumber (a0 : Int32) (M : hp_M) : Option (Unit × hp_M) := F_X9_writeNumberR 12 a0 M
set_option maxRecDepth 20000 in
set_option maxHeartbeats 4000000 in
theorem c_X9_writeNumberR (l : Launch) : ∀ (n : Nat) (a0 : Int32) (M : hp_M), hp_Ct l yX9_writeNumber cX9_writeNumber 2 none (n + 3) hp_IR (fun adr adV => [.ref (adr 13 0), .int a0]) hp_oo M (F_X9_writeNumberR n a0 M) := by
  intro n
  induction n with
  | zero => intro a0 M A D ids adr adV cA rep hI hG; exact absurd rfl hG
  | succ n ih =>
  intro a0 M
  refine hp_start "HallPhoneModel" (fun adr adV => [(0, .ref (adr 13 0)), (1, .int a0)]) (by decide) rfl (fun _ _ => by simp only [lg_sl]; exact Nat.le_of_ble_eq_true rfl) (fun _ _ => rfl) ?_
  intro p e s m args below meth c A D ids adr adV cA rep G0 hI hC hr
  rw [F_X9_writeNumberR.eq_2]
  refine hz_iload_n (a := 1) (n := 1) hC dX9_writeNumber_0 rfl rfl rfl ?_
  refine hz_bipush (v := (9 : Int32)) (n := 3) hC dX9_writeNumber_1 (by decide +kernel) rfl ?_
  refine hz_icmp_le (tgt := 14) (n := 6) hC dX9_writeNumber_3 (by decide) rfl (fun _ => ?_) (fun _ => ?_)
  · refine hz_aload_n (a := 0) (n := 15) hC dX9_writeNumber_14 rfl rfl rfl ?_
    refine hz_bipush (v := (48 : Int32)) (n := 17) hC dX9_writeNumber_15 (by decide +kernel) rfl ?_
    refine hz_iload_n (a := 1) (n := 18) hC dX9_writeNumber_17 rfl rfl rfl ?_
    refine hz_bipush (v := (10 : Int32)) (n := 20) hC dX9_writeNumber_18 (by decide +kernel) rfl ?_
    refine hz_irem (n := 21) hC dX9_writeNumber_20 rfl (fun _ => ?_)
    refine hz_iadd (n := 22) hC dX9_writeNumber_21 rfl ?_
    refine hz_callV (k := 1) (As := [.int ((48 : Int32) + (a0 - a0 / (10 : Int32) * (10 : Int32)))]) (st := []) (S1 := fun _ => []) (n := 25) hC (c_X9_write l ((48 : Int32) + (a0 - a0 / (10 : Int32) * (10 : Int32)))   M) kv_X9_write wd_8_112 hI dX9_writeNumber_22 rfl (hI 0 (by decide)) he_X9 rfl rfl rfl (Nat.le_of_ble_eq_true rfl) ⟨by show 0 + 1 ≤ n + 1 + 3; omega, by show 60 * 0 + 60 ≤ 60 * (n + 1 + 3); omega⟩ ⟨Nat.zero_le _, Nat.zero_le _⟩ (fun _ => rfl) rfl (fun r1 M1 _ => ?_)
    exact hz_vret hC hr dX9_writeNumber_25
  · refine hz_aload_n (a := 0) (n := 7) hC dX9_writeNumber_6 rfl rfl rfl ?_
    refine hz_iload_n (a := 1) (n := 8) hC dX9_writeNumber_7 rfl rfl rfl ?_
    refine hz_bipush (v := (10 : Int32)) (n := 10) hC dX9_writeNumber_8 (by decide +kernel) rfl ?_
    refine hz_idiv (n := 11) hC dX9_writeNumber_10 rfl (fun _ => ?_)
    refine hz_callV (k := 1) (As := [.int (a0 / (10 : Int32))]) (st := []) (S1 := fun _ => []) (n := 14) hC (ih (a0 / (10 : Int32)) M) kv_X9_writeNumber wd_8_120 hI dX9_writeNumber_11 rfl (hI 0 (by decide)) he_X9 rfl rfl rfl (Nat.le_of_ble_eq_true rfl) ⟨by show n + 3 + 1 ≤ n + 1 + 3; omega, by show 60 * (n + 3) + 60 ≤ 60 * (n + 1 + 3); omega⟩ ⟨Nat.zero_le _, Nat.zero_le _⟩ (fun _ => rfl) rfl (fun r2 M2 _ => ?_)
    refine hz_aload_n (a := 0) (n := 15) hC dX9_writeNumber_14 rfl rfl rfl ?_
    refine hz_bipush (v := (48 : Int32)) (n := 17) hC dX9_writeNumber_15 (by decide +kernel) rfl ?_
    refine hz_iload_n (a := 1) (n := 18) hC dX9_writeNumber_17 rfl rfl rfl ?_
    refine hz_bipush (v := (10 : Int32)) (n := 20) hC dX9_writeNumber_18 (by decide +kernel) rfl ?_
    refine hz_irem (n := 21) hC dX9_writeNumber_20 rfl (fun _ => ?_)
    refine hz_iadd (n := 22) hC dX9_writeNumber_21 rfl ?_
    refine hz_callV (k := 1) (As := [.int ((48 : Int32) + (a0 - a0 / (10 : Int32) * (10 : Int32)))]) (st := []) (S1 := fun _ => []) (n := 25) hC (c_X9_write l ((48 : Int32) + (a0 - a0 / (10 : Int32) * (10 : Int32)))   M2) kv_X9_write wd_8_112 hI dX9_writeNumber_22 rfl (hI 0 (by decide)) he_X9 rfl rfl rfl (Nat.le_of_ble_eq_true rfl) ⟨by show 0 + 1 ≤ n + 1 + 3; omega, by show 60 * 0 + 60 ≤ 60 * (n + 1 + 3); omega⟩ ⟨Nat.zero_le _, Nat.zero_le _⟩ (fun _ => rfl) rfl (fun r3 M3 _ => ?_)
    exact hz_vret hC hr dX9_writeNumber_25
theorem c_X9_writeNumber (l : Launch) (a0 : Int32) (M : hp_M) : hp_Ct l yX9_writeNumber cX9_writeNumber 2 none 15 hp_IR (fun adr adV => [.ref (adr 13 0), .int a0]) hp_oo M (F_X9_writeNumber a0 M) := c_X9_writeNumberR l 12 a0 M
def F_X9_writeFlat (a0 : Int32) (M : hp_M) : Option (Unit × hp_M) := (hp_b (F_X9_writeNumber a0 M) (fun _ M1 => (hp_b (F_X9_of a0 (2 : Int32) M1) (fun r2 M2 => (if r2 = (0 : Int32) then (hp_b (F_X9_write (46 : Int32) M2) (fun _ M3 => (some ((), M3)))) else (if r2 = (1 : Int32) then (hp_b (F_X9_write (60 : Int32) M2) (fun _ M4 => (hp_b (F_X9_of a0 (3 : Int32) M4) (fun r5 M5 => (hp_b (F_X9_writeNumber r5 M5) (fun _ M6 => (some ((), M6)))))))) else (if r2 = (2 : Int32) then (hp_b (F_X9_write (35 : Int32) M2) (fun _ M7 => (hp_b (F_X9_placeOf a0 M7) (fun r8 M8 => (hp_b (F_X9_writeNumber r8 M8) (fun _ M9 => (some ((), M9)))))))) else (hp_b (F_X9_write (33 : Int32) M2) (fun _ M10 => (hp_b (F_X9_writeNumber (M10 13 1 5) M10) (fun _ M11 => (some ((), M11)))))))))))))
set_option maxRecDepth 20000 in
set_option maxHeartbeats 4000000 in
theorem c_X9_writeFlat (l : Launch) (a0 : Int32)  (M : hp_M) : hp_Ct l yX9_writeFlat cX9_writeFlat 2 none 16 hp_IR (fun adr adV => [.ref (adr 13 0), .int a0]) hp_oo M (F_X9_writeFlat a0 M) := by
  refine hp_start "HallPhoneModel" (fun adr adV => [(0, .ref (adr 13 0)), (1, .int a0)]) (by decide) rfl (fun _ _ => by simp only [lg_sl]; exact Nat.le_of_ble_eq_true rfl) (fun _ _ => rfl) ?_
  intro p e s m args below meth c A D ids adr adV cA rep G0 hI hC hr
  unfold F_X9_writeFlat
  refine hz_aload_n (a := 0) (n := 1) hC dX9_writeFlat_0 rfl rfl rfl ?_
  refine hz_iload_n (a := 1) (n := 2) hC dX9_writeFlat_1 rfl rfl rfl ?_
  refine hz_callV (k := 1) (As := [.int a0]) (st := []) (S1 := fun _ => []) (n := 5) hC (c_X9_writeNumber l a0   M) kv_X9_writeNumber wd_8_120 hI dX9_writeFlat_2 rfl (hI 0 (by decide)) he_X9 rfl rfl rfl (Nat.le_of_ble_eq_true rfl) ⟨Nat.le_of_ble_eq_true rfl, Nat.le_of_ble_eq_true rfl⟩ ⟨Nat.zero_le _, Nat.zero_le _⟩ (fun _ => rfl) rfl (fun r1 M1 _ => ?_)
  refine hz_aload_n (a := 0) (n := 6) hC dX9_writeFlat_5 rfl rfl rfl ?_
  refine hz_iload_n (a := 1) (n := 7) hC dX9_writeFlat_6 rfl rfl rfl ?_
  refine hz_iconst (v := (2 : Int32)) (n := 8) hC dX9_writeFlat_7 (by decide +kernel) rfl ?_
  refine hz_callV (k := 2) (As := [.int a0, .int (2 : Int32)]) (st := []) (S1 := fun r => .int r :: []) (n := 11) hC (c_X9_of l a0 (2 : Int32)   M1) kv_X9_of wd_7_7 hI dX9_writeFlat_8 rfl (hI 0 (by decide)) he_X9 rfl rfl rfl (Nat.le_of_ble_eq_true rfl) ⟨Nat.le_of_ble_eq_true rfl, Nat.le_of_ble_eq_true rfl⟩ ⟨Nat.zero_le _, Nat.zero_le _⟩ (fun _ => rfl) rfl (fun r2 M2 _ => ?_)
  refine hz_case (fun hk0 => ?_) (fun hk0 => ?_)
  · refine hz_tabIn (n := 36) hC hk0 dX9_writeFlat_11 (by decide +kernel) (by decide +kernel) (by rfl) (by decide +kernel) ?_
    refine hz_aload_n (a := 0) (n := 37) hC dX9_writeFlat_36 rfl rfl rfl ?_
    refine hz_bipush (v := (46 : Int32)) (n := 39) hC dX9_writeFlat_37 (by decide +kernel) rfl ?_
    refine hz_callV (k := 1) (As := [.int (46 : Int32)]) (st := []) (S1 := fun _ => []) (n := 42) hC (c_X9_write l (46 : Int32)   M2) kv_X9_write wd_8_112 hI dX9_writeFlat_39 rfl (hI 0 (by decide)) he_X9 rfl rfl rfl (Nat.le_of_ble_eq_true rfl) ⟨Nat.le_of_ble_eq_true rfl, Nat.le_of_ble_eq_true rfl⟩ ⟨Nat.zero_le _, Nat.zero_le _⟩ (fun _ => rfl) rfl (fun r3 M3 _ => ?_)
    refine hz_goto (n := 98) hC dX9_writeFlat_42 (by decide) ?_
    exact hz_vret hC hr dX9_writeFlat_98
  refine hz_case (fun hk1 => ?_) (fun hk1 => ?_)
  · refine hz_tabIn (n := 45) hC hk1 dX9_writeFlat_11 (by decide +kernel) (by decide +kernel) (by rfl) (by decide +kernel) ?_
    refine hz_aload_n (a := 0) (n := 46) hC dX9_writeFlat_45 rfl rfl rfl ?_
    refine hz_bipush (v := (60 : Int32)) (n := 48) hC dX9_writeFlat_46 (by decide +kernel) rfl ?_
    refine hz_callV (k := 1) (As := [.int (60 : Int32)]) (st := []) (S1 := fun _ => []) (n := 51) hC (c_X9_write l (60 : Int32)   M2) kv_X9_write wd_8_112 hI dX9_writeFlat_48 rfl (hI 0 (by decide)) he_X9 rfl rfl rfl (Nat.le_of_ble_eq_true rfl) ⟨Nat.le_of_ble_eq_true rfl, Nat.le_of_ble_eq_true rfl⟩ ⟨Nat.zero_le _, Nat.zero_le _⟩ (fun _ => rfl) rfl (fun r4 M4 _ => ?_)
    refine hz_aload_n (a := 0) (n := 52) hC dX9_writeFlat_51 rfl rfl rfl ?_
    refine hz_aload_n (a := 0) (n := 53) hC dX9_writeFlat_52 rfl rfl rfl ?_
    refine hz_iload_n (a := 1) (n := 54) hC dX9_writeFlat_53 rfl rfl rfl ?_
    refine hz_iconst (v := (3 : Int32)) (n := 55) hC dX9_writeFlat_54 (by decide +kernel) rfl ?_
    refine hz_callV (k := 2) (As := [.int a0, .int (3 : Int32)]) (st := [.ref (adr 13 0)]) (S1 := fun r => .int r :: [.ref (adr 13 0)]) (n := 58) hC (c_X9_of l a0 (3 : Int32)   M4) kv_X9_of wd_7_7 hI dX9_writeFlat_55 rfl (hI 0 (by decide)) he_X9 rfl rfl rfl (Nat.le_of_ble_eq_true rfl) ⟨Nat.le_of_ble_eq_true rfl, Nat.le_of_ble_eq_true rfl⟩ ⟨Nat.zero_le _, Nat.zero_le _⟩ (fun _ => rfl) rfl (fun r5 M5 _ => ?_)
    refine hz_callV (k := 1) (As := [.int r5]) (st := []) (S1 := fun _ => []) (n := 61) hC (c_X9_writeNumber l r5   M5) kv_X9_writeNumber wd_8_120 hI dX9_writeFlat_58 rfl (hI 0 (by decide)) he_X9 rfl rfl rfl (Nat.le_of_ble_eq_true rfl) ⟨Nat.le_of_ble_eq_true rfl, Nat.le_of_ble_eq_true rfl⟩ ⟨Nat.zero_le _, Nat.zero_le _⟩ (fun _ => rfl) rfl (fun r6 M6 _ => ?_)
    refine hz_goto (n := 98) hC dX9_writeFlat_61 (by decide) ?_
    exact hz_vret hC hr dX9_writeFlat_98
  refine hz_case (fun hk2 => ?_) (fun hk2 => ?_)
  · refine hz_tabIn (n := 64) hC hk2 dX9_writeFlat_11 (by decide +kernel) (by decide +kernel) (by rfl) (by decide +kernel) ?_
    refine hz_aload_n (a := 0) (n := 65) hC dX9_writeFlat_64 rfl rfl rfl ?_
    refine hz_bipush (v := (35 : Int32)) (n := 67) hC dX9_writeFlat_65 (by decide +kernel) rfl ?_
    refine hz_callV (k := 1) (As := [.int (35 : Int32)]) (st := []) (S1 := fun _ => []) (n := 70) hC (c_X9_write l (35 : Int32)   M2) kv_X9_write wd_8_112 hI dX9_writeFlat_67 rfl (hI 0 (by decide)) he_X9 rfl rfl rfl (Nat.le_of_ble_eq_true rfl) ⟨Nat.le_of_ble_eq_true rfl, Nat.le_of_ble_eq_true rfl⟩ ⟨Nat.zero_le _, Nat.zero_le _⟩ (fun _ => rfl) rfl (fun r7 M7 _ => ?_)
    refine hz_aload_n (a := 0) (n := 71) hC dX9_writeFlat_70 rfl rfl rfl ?_
    refine hz_aload_n (a := 0) (n := 72) hC dX9_writeFlat_71 rfl rfl rfl ?_
    refine hz_iload_n (a := 1) (n := 73) hC dX9_writeFlat_72 rfl rfl rfl ?_
    refine hz_callV (k := 1) (As := [.int a0]) (st := [.ref (adr 13 0)]) (S1 := fun r => .int r :: [.ref (adr 13 0)]) (n := 76) hC (c_X9_placeOf l a0   M7) kv_X9_placeOf wd_7_28 hI dX9_writeFlat_73 rfl (hI 0 (by decide)) he_X9 rfl rfl rfl (Nat.le_of_ble_eq_true rfl) ⟨Nat.le_of_ble_eq_true rfl, Nat.le_of_ble_eq_true rfl⟩ ⟨Nat.zero_le _, Nat.zero_le _⟩ (fun _ => rfl) rfl (fun r8 M8 _ => ?_)
    refine hz_callV (k := 1) (As := [.int r8]) (st := []) (S1 := fun _ => []) (n := 79) hC (c_X9_writeNumber l r8   M8) kv_X9_writeNumber wd_8_120 hI dX9_writeFlat_76 rfl (hI 0 (by decide)) he_X9 rfl rfl rfl (Nat.le_of_ble_eq_true rfl) ⟨Nat.le_of_ble_eq_true rfl, Nat.le_of_ble_eq_true rfl⟩ ⟨Nat.zero_le _, Nat.zero_le _⟩ (fun _ => rfl) rfl (fun r9 M9 _ => ?_)
    refine hz_goto (n := 98) hC dX9_writeFlat_79 (by decide) ?_
    exact hz_vret hC hr dX9_writeFlat_98
  refine hz_tabOut (n := 82) hC (hp_out 3 (by decide) (fun k hk => by
    rcases (show k = 0 ∨ k = 1 ∨ k = 2 by omega) with rfl | rfl | rfl
    · exact fun e => hk0 (Int32.toInt_inj.mp (e.trans (by decide +kernel)))
    · exact fun e => hk1 (Int32.toInt_inj.mp (e.trans (by decide +kernel)))
    · exact fun e => hk2 (Int32.toInt_inj.mp (e.trans (by decide +kernel)))
    )) dX9_writeFlat_11 (by decide +kernel) ?_
  refine hz_aload_n (a := 0) (n := 83) hC dX9_writeFlat_82 rfl rfl rfl ?_
  refine hz_bipush (v := (33 : Int32)) (n := 85) hC dX9_writeFlat_83 (by decide +kernel) rfl ?_
  refine hz_callV (k := 1) (As := [.int (33 : Int32)]) (st := []) (S1 := fun _ => []) (n := 88) hC (c_X9_write l (33 : Int32)   M2) kv_X9_write wd_8_112 hI dX9_writeFlat_85 rfl (hI 0 (by decide)) he_X9 rfl rfl rfl (Nat.le_of_ble_eq_true rfl) ⟨Nat.le_of_ble_eq_true rfl, Nat.le_of_ble_eq_true rfl⟩ ⟨Nat.zero_le _, Nat.zero_le _⟩ (fun _ => rfl) rfl (fun r10 M10 _ => ?_)
  refine hz_aload_n (a := 0) (n := 89) hC dX9_writeFlat_88 rfl rfl rfl ?_
  refine hz_aload_n (a := 0) (n := 90) hC dX9_writeFlat_89 rfl rfl rfl ?_
  refine fg_X9_7 (n := 93) hC hI dX9_writeFlat_90 rfl ?_
  refine hz_iconst (v := (5 : Int32)) (n := 94) hC dX9_writeFlat_93 (by decide +kernel) rfl ?_
  refine hz_ialdc (k := 5) (n := 95) hC (by decide +kernel) (by decide) dX9_writeFlat_94 (hI 1 (by decide)) ha_m1 rfl ?_
  refine hz_callV (k := 1) (As := [.int (M10 13 1 5)]) (st := []) (S1 := fun _ => []) (n := 98) hC (c_X9_writeNumber l (M10 13 1 5)   M10) kv_X9_writeNumber wd_8_120 hI dX9_writeFlat_95 rfl (hI 0 (by decide)) he_X9 rfl rfl rfl (Nat.le_of_ble_eq_true rfl) ⟨Nat.le_of_ble_eq_true rfl, Nat.le_of_ble_eq_true rfl⟩ ⟨Nat.zero_le _, Nat.zero_le _⟩ (fun _ => rfl) rfl (fun r11 M11 _ => ?_)
  exact hz_vret hC hr dX9_writeFlat_98
def L_X9_writeHouse_12    : Nat → Int32 → hp_M → Option (Int32 × hp_M)
  | 0, _, _ => none
  | n12 + 1, x1, M => (if (M 13 1 0) ≤ x1 then (some ((M 13 0 12), M)) else (if x1 ≤ 0 then (hp_b (F_X9_writeFlat x1 M) (fun _ M1 => (L_X9_writeHouse_12  n12 (x1 + (1 : Int32)) M1))) else (hp_b (F_X9_write (32 : Int32) M) (fun _ M2 => (hp_b (F_X9_writeFlat x1 M2) (fun _ M3 => (L_X9_writeHouse_12  n12 (x1 + (1 : Int32)) M3)))))))
def F_X9_writeHouse  (M : hp_M) : Option (Int32 × hp_M) := (L_X9_writeHouse_12 hp_fu (0 : Int32) (hp_p (hp_p M 13 0 13 (0 : Int32)) 13 0 12 (0 : Int32)))
set_option maxRecDepth 20000 in
set_option maxHeartbeats 4000000 in
theorem c_X9_writeHouse (l : Launch)   (M : hp_M) : hp_Ct l yX9_writeHouse cX9_writeHouse 2 (some .int) 17 hp_IR (fun adr adV => [.ref (adr 13 0)]) hp_oi M (F_X9_writeHouse  M) := by
  refine hp_start "HallPhoneModel" (fun adr adV => [(0, .ref (adr 13 0))]) (by decide) rfl (fun _ _ => by simp only [lg_sl]; exact Nat.le_of_ble_eq_true rfl) (fun _ _ => rfl) ?_
  intro p e s m args below meth c A D ids adr adV cA rep G0 hI hC hr
  unfold F_X9_writeHouse
  have l12 : ∀  (n12 : Nat) (x1 : Int32) (M : hp_M), hp_Z p l e (hp_rm 17) s m args below meth c 2 A D ids adr adV cA 0 0 (MQ below (hp_Q A D ids adr adV cA rep hp_oi G0) args s 0 0 A) G0 rep 12 [(0, .ref (adr 13 0)), (1, .int x1)] [] M (L_X9_writeHouse_12  n12 x1 M) := by
    intro  n12
    induction n12 with
    | zero => intro x1 M; exact hz_none hC
    | succ n12 ih12 =>
      intro x1 M
      rw [L_X9_writeHouse_12.eq_2]
      refine hz_iload_n (a := 1) (n := 13) hC dX9_writeHouse_12 rfl rfl rfl ?_
      refine hz_aload_n (a := 0) (n := 14) hC dX9_writeHouse_13 rfl rfl rfl ?_
      refine fg_X9_7 (n := 17) hC hI dX9_writeHouse_14 rfl ?_
      refine hz_iconst (v := (0 : Int32)) (n := 18) hC dX9_writeHouse_17 (by decide +kernel) rfl ?_
      refine hz_ialdc (k := 0) (n := 19) hC (by decide +kernel) (by decide) dX9_writeHouse_18 (hI 1 (by decide)) ha_m1 rfl ?_
      refine hz_icmp_ge (tgt := 43) (n := 22) hC dX9_writeHouse_19 (by decide) rfl (fun _ => ?_) (fun _ => ?_)
      · refine hz_aload_n (a := 0) (n := 44) hC dX9_writeHouse_43 rfl rfl rfl ?_
        refine fg_X9_272 (n := 47) hC hI dX9_writeHouse_44 rfl ?_
        exact hz_iret hC hr dX9_writeHouse_47
      · refine hz_iload_n (a := 1) (n := 23) hC dX9_writeHouse_22 rfl rfl rfl ?_
        refine hz_if_le (tgt := 32) (n := 26) hC dX9_writeHouse_23 (by decide) rfl (fun _ => ?_) (fun _ => ?_)
        · refine hz_aload_n (a := 0) (n := 33) hC dX9_writeHouse_32 rfl rfl rfl ?_
          refine hz_iload_n (a := 1) (n := 34) hC dX9_writeHouse_33 rfl rfl rfl ?_
          refine hz_callV (k := 1) (As := [.int x1]) (st := []) (S1 := fun _ => []) (n := 37) hC (c_X9_writeFlat l x1   M) kv_X9_writeFlat wd_8_116 hI dX9_writeHouse_34 rfl (hI 0 (by decide)) he_X9 rfl rfl rfl (Nat.le_of_ble_eq_true rfl) ⟨Nat.le_of_ble_eq_true rfl, Nat.le_of_ble_eq_true rfl⟩ ⟨Nat.zero_le _, Nat.zero_le _⟩ (fun _ => rfl) rfl (fun r1 M1 _ => ?_)
          refine hz_iinc (a := 1) (v := (x1 + (1 : Int32))) (L' := [(1, .int (x1 + (1 : Int32))), (0, .ref (adr 13 0))]) (n := 40) hC dX9_writeHouse_37 rfl rfl (by decide) rfl rfl ?_
          refine hz_goto (n := 12) hC dX9_writeHouse_40 (by decide) ?_
          refine hz_L (L' := [(0, .ref (adr 13 0)), (1, .int (x1 + (1 : Int32)))]) [1, 0] rfl ?_
          exact ih12 _ _
        · refine hz_aload_n (a := 0) (n := 27) hC dX9_writeHouse_26 rfl rfl rfl ?_
          refine hz_bipush (v := (32 : Int32)) (n := 29) hC dX9_writeHouse_27 (by decide +kernel) rfl ?_
          refine hz_callV (k := 1) (As := [.int (32 : Int32)]) (st := []) (S1 := fun _ => []) (n := 32) hC (c_X9_write l (32 : Int32)   M) kv_X9_write wd_8_112 hI dX9_writeHouse_29 rfl (hI 0 (by decide)) he_X9 rfl rfl rfl (Nat.le_of_ble_eq_true rfl) ⟨Nat.le_of_ble_eq_true rfl, Nat.le_of_ble_eq_true rfl⟩ ⟨Nat.zero_le _, Nat.zero_le _⟩ (fun _ => rfl) rfl (fun r2 M2 _ => ?_)
          refine hz_aload_n (a := 0) (n := 33) hC dX9_writeHouse_32 rfl rfl rfl ?_
          refine hz_iload_n (a := 1) (n := 34) hC dX9_writeHouse_33 rfl rfl rfl ?_
          refine hz_callV (k := 1) (As := [.int x1]) (st := []) (S1 := fun _ => []) (n := 37) hC (c_X9_writeFlat l x1   M2) kv_X9_writeFlat wd_8_116 hI dX9_writeHouse_34 rfl (hI 0 (by decide)) he_X9 rfl rfl rfl (Nat.le_of_ble_eq_true rfl) ⟨Nat.le_of_ble_eq_true rfl, Nat.le_of_ble_eq_true rfl⟩ ⟨Nat.zero_le _, Nat.zero_le _⟩ (fun _ => rfl) rfl (fun r3 M3 _ => ?_)
          refine hz_iinc (a := 1) (v := (x1 + (1 : Int32))) (L' := [(1, .int (x1 + (1 : Int32))), (0, .ref (adr 13 0))]) (n := 40) hC dX9_writeHouse_37 rfl rfl (by decide) rfl rfl ?_
          refine hz_goto (n := 12) hC dX9_writeHouse_40 (by decide) ?_
          refine hz_L (L' := [(0, .ref (adr 13 0)), (1, .int (x1 + (1 : Int32)))]) [1, 0] rfl ?_
          exact ih12 _ _
  refine hz_aload_n (a := 0) (n := 1) hC dX9_writeHouse_0 rfl rfl rfl ?_
  refine hz_iconst (v := (0 : Int32)) (n := 2) hC dX9_writeHouse_1 (by decide +kernel) rfl ?_
  refine fp_X9_42 (n := 5) hC hI (0 : Int32) dX9_writeHouse_2 rfl ?_
  refine hz_aload_n (a := 0) (n := 6) hC dX9_writeHouse_5 rfl rfl rfl ?_
  refine hz_iconst (v := (0 : Int32)) (n := 7) hC dX9_writeHouse_6 (by decide +kernel) rfl ?_
  refine fp_X9_272 (n := 10) hC hI (0 : Int32) dX9_writeHouse_7 rfl ?_
  refine hz_iconst (v := (0 : Int32)) (n := 11) hC dX9_writeHouse_10 (by decide +kernel) rfl ?_
  refine hz_istore_n (L' := [(1, .int (0 : Int32)), (0, .ref (adr 13 0))]) (n := 12) hC dX9_writeHouse_11 rfl (by decide) rfl rfl ?_
  refine hz_L (L' := [(0, .ref (adr 13 0)), (1, .int (0 : Int32))]) [1, 0] rfl ?_
  exact l12 hp_fu _ _
def A_X9_writeSlate_33  (rec12 : Int32 → hp_M → Option (Int32 × hp_M)) (y33_1 : Int32) (M : hp_M) : Option (Int32 × hp_M) := (if ((14 : Int32) + ((2 : Int32) * y33_1)) < 0 ∨ 242 ≤ (((14 : Int32) + ((2 : Int32) * y33_1))).toNatClampNeg then none else (hp_b (F_X9_writeNumber (M 13 1 (((14 : Int32) + ((2 : Int32) * y33_1))).toNatClampNeg) M) (fun _ M2 => (hp_b (F_X9_write (64 : Int32) M2) (fun _ M3 => (if (((14 : Int32) + ((2 : Int32) * y33_1)) + (1 : Int32)) < 0 ∨ 242 ≤ ((((14 : Int32) + ((2 : Int32) * y33_1)) + (1 : Int32))).toNatClampNeg then none else (hp_b (F_X9_writeNumber (M3 13 1 ((((14 : Int32) + ((2 : Int32) * y33_1)) + (1 : Int32))).toNatClampNeg) M3) (fun _ M4 => (rec12 (y33_1 + (1 : Int32)) M4)))))))))
def L_X9_writeSlate_12    : Nat → Int32 → hp_M → Option (Int32 × hp_M)
  | 0, _, _ => none
  | n12 + 1, x1, M => (if (M 13 1 13) ≤ x1 then (if (M 13 0 12) = 0 then (hp_b (F_X9_write (45 : Int32) M) (fun _ M1 => (some ((M1 13 0 12), M1)))) else (some ((M 13 0 12), M))) else (if x1 ≤ 0 then (A_X9_writeSlate_33 (L_X9_writeSlate_12  n12) x1 M) else (hp_b (F_X9_write (32 : Int32) M) (fun _ M5 => (A_X9_writeSlate_33 (L_X9_writeSlate_12  n12) x1 M5)))))
def F_X9_writeSlate  (M : hp_M) : Option (Int32 × hp_M) := (L_X9_writeSlate_12 hp_fu (0 : Int32) (hp_p (hp_p M 13 0 13 (0 : Int32)) 13 0 12 (0 : Int32)))
set_option maxRecDepth 20000 in
set_option maxHeartbeats 4000000 in
theorem c_X9_writeSlate (l : Launch)   (M : hp_M) : hp_Ct l yX9_writeSlate cX9_writeSlate 2 (some .int) 16 hp_IR (fun adr adV => [.ref (adr 13 0)]) hp_oi M (F_X9_writeSlate  M) := by
  refine hp_start "HallPhoneModel" (fun adr adV => [(0, .ref (adr 13 0))]) (by decide) rfl (fun _ _ => by simp only [lg_sl]; exact Nat.le_of_ble_eq_true rfl) (fun _ _ => rfl) ?_
  intro p e s m args below meth c A D ids adr adV cA rep G0 hI hC hr
  unfold F_X9_writeSlate
  have l12 : ∀  (n12 : Nat) (x1 : Int32) (M : hp_M), hp_Z p l e (hp_rm 16) s m args below meth c 2 A D ids adr adV cA 0 0 (MQ below (hp_Q A D ids adr adV cA rep hp_oi G0) args s 0 0 A) G0 rep 12 [(0, .ref (adr 13 0)), (1, .int x1)] [] M (L_X9_writeSlate_12  n12 x1 M) := by
    intro  n12
    induction n12 with
    | zero => intro x1 M; exact hz_none hC
    | succ n12 ih12 =>
      intro x1 M
      rw [L_X9_writeSlate_12.eq_2]
      have j33 : ∀ (y33_1 : Int32) (M : hp_M), hp_Z p l e (hp_rm 16) s m args below meth c 2 A D ids adr adV cA 0 0 (MQ below (hp_Q A D ids adr adV cA rep hp_oi G0) args s 0 0 A) G0 rep 33 [(0, .ref (adr 13 0)), (1, .int y33_1)] [] M (A_X9_writeSlate_33  (L_X9_writeSlate_12  n12) y33_1 M) := by
        intro y33_1 M
        unfold A_X9_writeSlate_33
        refine hz_aload_n (a := 0) (n := 34) hC dX9_writeSlate_33 rfl rfl rfl ?_
        refine hz_aload_n (a := 0) (n := 35) hC dX9_writeSlate_34 rfl rfl rfl ?_
        refine fg_X9_7 (n := 38) hC hI dX9_writeSlate_35 rfl ?_
        refine hz_bipush (v := (14 : Int32)) (n := 40) hC dX9_writeSlate_38 (by decide +kernel) rfl ?_
        refine hz_iconst (v := (2 : Int32)) (n := 41) hC dX9_writeSlate_40 (by decide +kernel) rfl ?_
        refine hz_iload_n (a := 1) (n := 42) hC dX9_writeSlate_41 rfl rfl rfl ?_
        refine hz_imul (n := 43) hC dX9_writeSlate_42 rfl ?_
        refine hz_iadd (n := 44) hC dX9_writeSlate_43 rfl ?_
        refine hz_iald (n := 45) hC dX9_writeSlate_44 (hI 1 (by decide)) ha_m1 rfl (fun _ => ?_)
        refine hz_callV (k := 1) (As := [.int (M 13 1 (((14 : Int32) + ((2 : Int32) * y33_1))).toNatClampNeg)]) (st := []) (S1 := fun _ => []) (n := 48) hC (c_X9_writeNumber l (M 13 1 (((14 : Int32) + ((2 : Int32) * y33_1))).toNatClampNeg)   M) kv_X9_writeNumber wd_8_120 hI dX9_writeSlate_45 rfl (hI 0 (by decide)) he_X9 rfl rfl rfl (Nat.le_of_ble_eq_true rfl) ⟨Nat.le_of_ble_eq_true rfl, Nat.le_of_ble_eq_true rfl⟩ ⟨Nat.zero_le _, Nat.zero_le _⟩ (fun _ => rfl) rfl (fun r2 M2 _ => ?_)
        refine hz_aload_n (a := 0) (n := 49) hC dX9_writeSlate_48 rfl rfl rfl ?_
        refine hz_bipush (v := (64 : Int32)) (n := 51) hC dX9_writeSlate_49 (by decide +kernel) rfl ?_
        refine hz_callV (k := 1) (As := [.int (64 : Int32)]) (st := []) (S1 := fun _ => []) (n := 54) hC (c_X9_write l (64 : Int32)   M2) kv_X9_write wd_8_112 hI dX9_writeSlate_51 rfl (hI 0 (by decide)) he_X9 rfl rfl rfl (Nat.le_of_ble_eq_true rfl) ⟨Nat.le_of_ble_eq_true rfl, Nat.le_of_ble_eq_true rfl⟩ ⟨Nat.zero_le _, Nat.zero_le _⟩ (fun _ => rfl) rfl (fun r3 M3 _ => ?_)
        refine hz_aload_n (a := 0) (n := 55) hC dX9_writeSlate_54 rfl rfl rfl ?_
        refine hz_aload_n (a := 0) (n := 56) hC dX9_writeSlate_55 rfl rfl rfl ?_
        refine fg_X9_7 (n := 59) hC hI dX9_writeSlate_56 rfl ?_
        refine hz_bipush (v := (14 : Int32)) (n := 61) hC dX9_writeSlate_59 (by decide +kernel) rfl ?_
        refine hz_iconst (v := (2 : Int32)) (n := 62) hC dX9_writeSlate_61 (by decide +kernel) rfl ?_
        refine hz_iload_n (a := 1) (n := 63) hC dX9_writeSlate_62 rfl rfl rfl ?_
        refine hz_imul (n := 64) hC dX9_writeSlate_63 rfl ?_
        refine hz_iadd (n := 65) hC dX9_writeSlate_64 rfl ?_
        refine hz_iconst (v := (1 : Int32)) (n := 66) hC dX9_writeSlate_65 (by decide +kernel) rfl ?_
        refine hz_iadd (n := 67) hC dX9_writeSlate_66 rfl ?_
        refine hz_iald (n := 68) hC dX9_writeSlate_67 (hI 1 (by decide)) ha_m1 rfl (fun _ => ?_)
        refine hz_callV (k := 1) (As := [.int (M3 13 1 ((((14 : Int32) + ((2 : Int32) * y33_1)) + (1 : Int32))).toNatClampNeg)]) (st := []) (S1 := fun _ => []) (n := 71) hC (c_X9_writeNumber l (M3 13 1 ((((14 : Int32) + ((2 : Int32) * y33_1)) + (1 : Int32))).toNatClampNeg)   M3) kv_X9_writeNumber wd_8_120 hI dX9_writeSlate_68 rfl (hI 0 (by decide)) he_X9 rfl rfl rfl (Nat.le_of_ble_eq_true rfl) ⟨Nat.le_of_ble_eq_true rfl, Nat.le_of_ble_eq_true rfl⟩ ⟨Nat.zero_le _, Nat.zero_le _⟩ (fun _ => rfl) rfl (fun r4 M4 _ => ?_)
        refine hz_iinc (a := 1) (v := (y33_1 + (1 : Int32))) (L' := [(1, .int (y33_1 + (1 : Int32))), (0, .ref (adr 13 0))]) (n := 74) hC dX9_writeSlate_71 rfl rfl (by decide) rfl rfl ?_
        refine hz_goto (n := 12) hC dX9_writeSlate_74 (by decide) ?_
        refine hz_L (L' := [(0, .ref (adr 13 0)), (1, .int (y33_1 + (1 : Int32)))]) [1, 0] rfl ?_
        exact ih12 _ _
      refine hz_iload_n (a := 1) (n := 13) hC dX9_writeSlate_12 rfl rfl rfl ?_
      refine hz_aload_n (a := 0) (n := 14) hC dX9_writeSlate_13 rfl rfl rfl ?_
      refine fg_X9_7 (n := 17) hC hI dX9_writeSlate_14 rfl ?_
      refine hz_bipush (v := (13 : Int32)) (n := 19) hC dX9_writeSlate_17 (by decide +kernel) rfl ?_
      refine hz_ialdc (k := 13) (n := 20) hC (by decide +kernel) (by decide) dX9_writeSlate_19 (hI 1 (by decide)) ha_m1 rfl ?_
      refine hz_icmp_ge (tgt := 77) (n := 23) hC dX9_writeSlate_20 (by decide) rfl (fun _ => ?_) (fun _ => ?_)
      · refine hz_aload_n (a := 0) (n := 78) hC dX9_writeSlate_77 rfl rfl rfl ?_
        refine fg_X9_272 (n := 81) hC hI dX9_writeSlate_78 rfl ?_
        refine hz_if_ne (tgt := 90) (n := 84) hC dX9_writeSlate_81 (by decide) rfl (fun _ => ?_) (fun _ => ?_)
        · refine hz_aload_n (a := 0) (n := 85) hC dX9_writeSlate_84 rfl rfl rfl ?_
          refine hz_bipush (v := (45 : Int32)) (n := 87) hC dX9_writeSlate_85 (by decide +kernel) rfl ?_
          refine hz_callV (k := 1) (As := [.int (45 : Int32)]) (st := []) (S1 := fun _ => []) (n := 90) hC (c_X9_write l (45 : Int32)   M) kv_X9_write wd_8_112 hI dX9_writeSlate_87 rfl (hI 0 (by decide)) he_X9 rfl rfl rfl (Nat.le_of_ble_eq_true rfl) ⟨Nat.le_of_ble_eq_true rfl, Nat.le_of_ble_eq_true rfl⟩ ⟨Nat.zero_le _, Nat.zero_le _⟩ (fun _ => rfl) rfl (fun r1 M1 _ => ?_)
          refine hz_aload_n (a := 0) (n := 91) hC dX9_writeSlate_90 rfl rfl rfl ?_
          refine fg_X9_272 (n := 94) hC hI dX9_writeSlate_91 rfl ?_
          exact hz_iret hC hr dX9_writeSlate_94
        · refine hz_aload_n (a := 0) (n := 91) hC dX9_writeSlate_90 rfl rfl rfl ?_
          refine fg_X9_272 (n := 94) hC hI dX9_writeSlate_91 rfl ?_
          exact hz_iret hC hr dX9_writeSlate_94
      · refine hz_iload_n (a := 1) (n := 24) hC dX9_writeSlate_23 rfl rfl rfl ?_
        refine hz_if_le (tgt := 33) (n := 27) hC dX9_writeSlate_24 (by decide) rfl (fun _ => ?_) (fun _ => ?_)
        · exact j33 _ _
        · refine hz_aload_n (a := 0) (n := 28) hC dX9_writeSlate_27 rfl rfl rfl ?_
          refine hz_bipush (v := (32 : Int32)) (n := 30) hC dX9_writeSlate_28 (by decide +kernel) rfl ?_
          refine hz_callV (k := 1) (As := [.int (32 : Int32)]) (st := []) (S1 := fun _ => []) (n := 33) hC (c_X9_write l (32 : Int32)   M) kv_X9_write wd_8_112 hI dX9_writeSlate_30 rfl (hI 0 (by decide)) he_X9 rfl rfl rfl (Nat.le_of_ble_eq_true rfl) ⟨Nat.le_of_ble_eq_true rfl, Nat.le_of_ble_eq_true rfl⟩ ⟨Nat.zero_le _, Nat.zero_le _⟩ (fun _ => rfl) rfl (fun r5 M5 _ => ?_)
          exact j33 _ _
  refine hz_aload_n (a := 0) (n := 1) hC dX9_writeSlate_0 rfl rfl rfl ?_
  refine hz_iconst (v := (0 : Int32)) (n := 2) hC dX9_writeSlate_1 (by decide +kernel) rfl ?_
  refine fp_X9_42 (n := 5) hC hI (0 : Int32) dX9_writeSlate_2 rfl ?_
  refine hz_aload_n (a := 0) (n := 6) hC dX9_writeSlate_5 rfl rfl rfl ?_
  refine hz_iconst (v := (0 : Int32)) (n := 7) hC dX9_writeSlate_6 (by decide +kernel) rfl ?_
  refine fp_X9_272 (n := 10) hC hI (0 : Int32) dX9_writeSlate_7 rfl ?_
  refine hz_iconst (v := (0 : Int32)) (n := 11) hC dX9_writeSlate_10 (by decide +kernel) rfl ?_
  refine hz_istore_n (L' := [(1, .int (0 : Int32)), (0, .ref (adr 13 0))]) (n := 12) hC dX9_writeSlate_11 rfl (by decide) rfl rfl ?_
  refine hz_L (L' := [(0, .ref (adr 13 0)), (1, .int (0 : Int32))]) [1, 0] rfl ?_
  exact l12 hp_fu _ _
