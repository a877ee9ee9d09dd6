def F_X2_get (g : Nat) (a0 : Int32) (a1 : Int32) (M : hp_M) : Option (Int32 × hp_M) := (if ((a0 * (11 : Int32)) + a1) < 0 then (some ((0 : Int32), M)) else (if (110 : Int32) ≤ ((a0 * (11 : Int32)) + a1) then (some ((0 : Int32), M)) else (if ((a0 * (11 : Int32)) + a1) < 0 ∨ 110 ≤ (((a0 * (11 : Int32)) + a1)).toNatClampNeg then none else (some ((M g 3 (((a0 * (11 : Int32)) + a1)).toNatClampNeg), M)))))
set_option maxRecDepth 20000 in
set_option maxHeartbeats 4000000 in
theorem c_X2_get (l : Launch) (g : Nat) (a0 : Int32) (a1 : Int32) (hg : g < 12) (M : hp_M) : hp_Ct l yX2_get cX2_get 4 (some .int) 0 hp_IC (fun adr adV => [.ref (adr g 0), .int a0, .int a1]) hp_oi M (F_X2_get g a0 a1 M) := by
  refine hp_start "HallPhone$House" (fun adr adV => [(0, .ref (adr g 0)), (1, .int a0), (2, .int a1)]) (by decide) rfl (fun _ _ => by simp only [lg_sl]; exact Nat.le_of_ble_eq_true rfl) (fun _ _ => rfl) ?_
  intro p e s m args below meth c A D ids adr adV cA rep G0 hI hC hr
  unfold F_X2_get
  refine hz_iload_n (a := 1) (n := 1) hC dX2_get_0 rfl rfl rfl ?_
  refine hz_bipush (v := (11 : Int32)) (n := 3) hC dX2_get_1 (by decide +kernel) rfl ?_
  refine hz_imul (n := 4) hC dX2_get_3 rfl ?_
  refine hz_iload_n (a := 2) (n := 5) hC dX2_get_4 rfl rfl rfl ?_
  refine hz_iadd (n := 6) hC dX2_get_5 rfl ?_
  refine hz_istore_n (L' := [(3, .int ((a0 * (11 : Int32)) + a1)), (0, .ref (adr g 0)), (1, .int a0), (2, .int a1)]) (n := 7) hC dX2_get_6 rfl (by decide) rfl rfl ?_
  refine hz_iload_n (a := 0) (n := 8) hC dX2_get_7 rfl rfl rfl ?_
  refine hz_if_lt (tgt := 29) (n := 11) hC dX2_get_8 (by decide) rfl (fun _ => ?_) (fun _ => ?_)
  · refine hz_iconst (v := (0 : Int32)) (n := 30) hC dX2_get_29 (by decide +kernel) rfl ?_
    exact hz_iret hC hr dX2_get_30
  · refine hz_iload_n (a := 0) (n := 12) hC dX2_get_11 rfl rfl rfl ?_
    refine hz_aload_n (a := 1) (n := 13) hC dX2_get_12 rfl rfl rfl ?_
    refine fg_X2_28 (n := 16) hC hg hI dX2_get_13 rfl ?_
    refine hz_alen (v := (110 : Int32)) (t := 0) (n := 17) hC dX2_get_16 (hI.1 g 3 hg (by decide)) (ha_h3 hg) rfl (by decide +kernel) rfl ?_
    refine hz_icmp_ge (tgt := 29) (n := 20) hC dX2_get_17 (by decide) rfl (fun _ => ?_) (fun _ => ?_)
    · refine hz_iconst (v := (0 : Int32)) (n := 30) hC dX2_get_29 (by decide +kernel) rfl ?_
      exact hz_iret hC hr dX2_get_30
    · refine hz_aload_n (a := 1) (n := 21) hC dX2_get_20 rfl rfl rfl ?_
      refine fg_X2_28 (n := 24) hC hg hI dX2_get_21 rfl ?_
      refine hz_iload_n (a := 0) (n := 25) hC dX2_get_24 rfl rfl rfl ?_
      refine hz_iald (n := 26) hC dX2_get_25 (hI.1 g 3 hg (by decide)) (ha_h3 hg) rfl (fun _ => ?_)
      refine hz_goto (n := 30) hC dX2_get_26 (by decide) ?_
      exact hz_iret hC hr dX2_get_30
def F_X2_put (g : Nat) (a0 : Int32) (a1 : Int32) (a2 : Int32) (M : hp_M) : Option (Unit × hp_M) := (if ((a0 * (11 : Int32)) + a1) < 0 then (some ((), M)) else (if (110 : Int32) ≤ ((a0 * (11 : Int32)) + a1) then (some ((), M)) else (if ((a0 * (11 : Int32)) + a1) < 0 ∨ 110 ≤ (((a0 * (11 : Int32)) + a1)).toNatClampNeg then none else (some ((), (hp_p M g 3 (((a0 * (11 : Int32)) + a1)).toNatClampNeg a2))))))
set_option maxRecDepth 20000 in
set_option maxHeartbeats 4000000 in
theorem c_X2_put (l : Launch) (g : Nat) (a0 : Int32) (a1 : Int32) (a2 : Int32) (hg : g < 12) (M : hp_M) : hp_Ct l yX2_put cX2_put 5 none 0 hp_IC (fun adr adV => [.ref (adr g 0), .int a0, .int a1, .int a2]) hp_oo M (F_X2_put g a0 a1 a2 M) := by
  refine hp_start "HallPhone$House" (fun adr adV => [(0, .ref (adr g 0)), (1, .int a0), (2, .int a1), (3, .int a2)]) (by decide) rfl (fun _ _ => by simp only [lg_sl]; exact Nat.le_of_ble_eq_true rfl) (fun _ _ => rfl) ?_
  intro p e s m args below meth c A D ids adr adV cA rep G0 hI hC hr
  unfold F_X2_put
  refine hz_iload_n (a := 1) (n := 1) hC dX2_put_0 rfl rfl rfl ?_
  refine hz_bipush (v := (11 : Int32)) (n := 3) hC dX2_put_1 (by decide +kernel) rfl ?_
  refine hz_imul (n := 4) hC dX2_put_3 rfl ?_
  refine hz_iload_n (a := 2) (n := 5) hC dX2_put_4 rfl rfl rfl ?_
  refine hz_iadd (n := 6) hC dX2_put_5 rfl ?_
  refine hz_istore (L' := [(4, .int ((a0 * (11 : Int32)) + a1)), (0, .ref (adr g 0)), (1, .int a0), (2, .int a1), (3, .int a2)]) (n := 8) hC dX2_put_6 (by decide) rfl rfl ?_
  refine hz_iload (a := 0) (n := 10) hC dX2_put_8 rfl rfl ?_
  refine hz_if_lt (tgt := 31) (n := 13) hC dX2_put_10 (by decide) rfl (fun _ => ?_) (fun _ => ?_)
  · exact hz_vret hC hr dX2_put_31
  · refine hz_iload (a := 0) (n := 15) hC dX2_put_13 rfl rfl ?_
    refine hz_aload_n (a := 1) (n := 16) hC dX2_put_15 rfl rfl rfl ?_
    refine fg_X2_28 (n := 19) hC hg hI dX2_put_16 rfl ?_
    refine hz_alen (v := (110 : Int32)) (t := 0) (n := 20) hC dX2_put_19 (hI.1 g 3 hg (by decide)) (ha_h3 hg) rfl (by decide +kernel) rfl ?_
    refine hz_icmp_ge (tgt := 31) (n := 23) hC dX2_put_20 (by decide) rfl (fun _ => ?_) (fun _ => ?_)
    · exact hz_vret hC hr dX2_put_31
    · refine hz_aload_n (a := 1) (n := 24) hC dX2_put_23 rfl rfl rfl ?_
      refine fg_X2_28 (n := 27) hC hg hI dX2_put_24 rfl ?_
      refine hz_iload (a := 0) (n := 29) hC dX2_put_27 rfl rfl ?_
      refine hz_iload_n (a := 4) (n := 30) hC dX2_put_29 rfl rfl rfl ?_
      refine hz_iast (n := 31) hC dX2_put_30 (hI.1 g 3 hg (by decide)) (ha_h3 hg) rfl (fun _ => ?_)
      exact hz_vret hC hr dX2_put_31
def F_X2_settingNumber (g : Nat) (a0 : Int32) (M : hp_M) : Option (Int32 × hp_M) := (if a0 < 0 then (some ((0 : Int32), M)) else (if (6 : Int32) ≤ a0 then (some ((0 : Int32), M)) else (if a0 < 0 ∨ 6 ≤ (a0).toNatClampNeg then none else (some ((M g 1 (a0).toNatClampNeg), M)))))
set_option maxRecDepth 20000 in
set_option maxHeartbeats 4000000 in
theorem c_X2_settingNumber (l : Launch) (g : Nat) (a0 : Int32) (hg : g < 12) (M : hp_M) : hp_Ct l yX2_settingNumber cX2_settingNumber 2 (some .int) 0 hp_IC (fun adr adV => [.ref (adr g 0), .int a0]) hp_oi M (F_X2_settingNumber g a0 M) := by
  refine hp_start "HallPhone$House" (fun adr adV => [(0, .ref (adr g 0)), (1, .int a0)]) (by decide) rfl (fun _ _ => by simp only [lg_sl]; exact Nat.le_of_ble_eq_true rfl) (fun _ _ => rfl) ?_
  intro p e s m args below meth c A D ids adr adV cA rep G0 hI hC hr
  unfold F_X2_settingNumber
  refine hz_iload_n (a := 1) (n := 1) hC dX2_settingNumber_0 rfl rfl rfl ?_
  refine hz_if_lt (tgt := 22) (n := 4) hC dX2_settingNumber_1 (by decide) rfl (fun _ => ?_) (fun _ => ?_)
  · refine hz_iconst (v := (0 : Int32)) (n := 23) hC dX2_settingNumber_22 (by decide +kernel) rfl ?_
    exact hz_iret hC hr dX2_settingNumber_23
  · refine hz_iload_n (a := 1) (n := 5) hC dX2_settingNumber_4 rfl rfl rfl ?_
    refine hz_aload_n (a := 0) (n := 6) hC dX2_settingNumber_5 rfl rfl rfl ?_
    refine fg_X2_21 (n := 9) hC hg hI dX2_settingNumber_6 rfl ?_
    refine hz_alen (v := (6 : Int32)) (t := 0) (n := 10) hC dX2_settingNumber_9 (hI.1 g 1 hg (by decide)) (ha_h1 hg) rfl (by decide +kernel) rfl ?_
    refine hz_icmp_ge (tgt := 22) (n := 13) hC dX2_settingNumber_10 (by decide) rfl (fun _ => ?_) (fun _ => ?_)
    · refine hz_iconst (v := (0 : Int32)) (n := 23) hC dX2_settingNumber_22 (by decide +kernel) rfl ?_
      exact hz_iret hC hr dX2_settingNumber_23
    · refine hz_aload_n (a := 0) (n := 14) hC dX2_settingNumber_13 rfl rfl rfl ?_
      refine fg_X2_21 (n := 17) hC hg hI dX2_settingNumber_14 rfl ?_
      refine hz_iload_n (a := 1) (n := 18) hC dX2_settingNumber_17 rfl rfl rfl ?_
      refine hz_iald (n := 19) hC dX2_settingNumber_18 (hI.1 g 1 hg (by decide)) (ha_h1 hg) rfl (fun _ => ?_)
      refine hz_goto (n := 23) hC dX2_settingNumber_19 (by decide) ?_
      exact hz_iret hC hr dX2_settingNumber_23
def F_X2_changeSetting (g : Nat) (a0 : Int32) (a1 : Int32) (M : hp_M) : Option (Int32 × hp_M) := (hp_b (F_X2_settingNumber g a0 M) (fun r1 M1 => (if a0 < 0 then (some (r1, M1)) else (if (6 : Int32) ≤ a0 then (some (r1, M1)) else (if a0 < 0 ∨ 6 ≤ (a0).toNatClampNeg then none else (some (r1, (hp_p M1 g 1 (a0).toNatClampNeg a1))))))))
set_option maxRecDepth 20000 in
set_option maxHeartbeats 4000000 in
theorem c_X2_changeSetting (l : Launch) (g : Nat) (a0 : Int32) (a1 : Int32) (hg : g < 12) (M : hp_M) : hp_Ct l yX2_changeSetting cX2_changeSetting 4 (some .int) 1 hp_IC (fun adr adV => [.ref (adr g 0), .int a0, .int a1]) hp_oi M (F_X2_changeSetting g a0 a1 M) := by
  refine hp_start "HallPhone$House" (fun adr adV => [(0, .ref (adr g 0)), (1, .int a0), (2, .int a1)]) (by decide) rfl (fun _ _ => by simp only [lg_sl]; exact Nat.le_of_ble_eq_true rfl) (fun _ _ => rfl) ?_
  intro p e s m args below meth c A D ids adr adV cA rep G0 hI hC hr
  unfold F_X2_changeSetting
  refine hz_aload_n (a := 0) (n := 1) hC dX2_changeSetting_0 rfl rfl rfl ?_
  refine hz_iload_n (a := 1) (n := 2) hC dX2_changeSetting_1 rfl rfl rfl ?_
  refine hz_callV (k := 1) (As := [.int a0]) (st := []) (S1 := fun r => .int r :: []) (n := 5) hC (c_X2_settingNumber l g a0 hg  M) kv_X2_settingNumber wd_3_28 hI dX2_changeSetting_2 rfl (hI.1 g 0 hg (by decide)) (he_X2 hg) rfl rfl rfl (Nat.le_of_ble_eq_true rfl) ⟨Nat.le_of_ble_eq_true rfl, Nat.le_of_ble_eq_true rfl⟩ ⟨Nat.zero_le _, Nat.zero_le _⟩ (fun _ => rfl) rfl (fun r1 M1 _ => ?_)
  refine hz_istore_n (L' := [(3, .int r1), (0, .ref (adr g 0)), (1, .int a0), (2, .int a1)]) (n := 6) hC dX2_changeSetting_5 rfl (by decide) rfl rfl ?_
  refine hz_iload_n (a := 2) (n := 7) hC dX2_changeSetting_6 rfl rfl rfl ?_
  refine hz_if_lt (tgt := 26) (n := 10) hC dX2_changeSetting_7 (by decide) rfl (fun _ => ?_) (fun _ => ?_)
  · refine hz_iload_n (a := 0) (n := 27) hC dX2_changeSetting_26 rfl rfl rfl ?_
    exact hz_iret hC hr dX2_changeSetting_27
  · refine hz_iload_n (a := 2) (n := 11) hC dX2_changeSetting_10 rfl rfl rfl ?_
    refine hz_aload_n (a := 1) (n := 12) hC dX2_changeSetting_11 rfl rfl rfl ?_
    refine fg_X2_21 (n := 15) hC hg hI dX2_changeSetting_12 rfl ?_
    refine hz_alen (v := (6 : Int32)) (t := 0) (n := 16) hC dX2_changeSetting_15 (hI.1 g 1 hg (by decide)) (ha_h1 hg) rfl (by decide +kernel) rfl ?_
    refine hz_icmp_ge (tgt := 26) (n := 19) hC dX2_changeSetting_16 (by decide) rfl (fun _ => ?_) (fun _ => ?_)
    · refine hz_iload_n (a := 0) (n := 27) hC dX2_changeSetting_26 rfl rfl rfl ?_
      exact hz_iret hC hr dX2_changeSetting_27
    · refine hz_aload_n (a := 1) (n := 20) hC dX2_changeSetting_19 rfl rfl rfl ?_
      refine fg_X2_21 (n := 23) hC hg hI dX2_changeSetting_20 rfl ?_
      refine hz_iload_n (a := 2) (n := 24) hC dX2_changeSetting_23 rfl rfl rfl ?_
      refine hz_iload_n (a := 3) (n := 25) hC dX2_changeSetting_24 rfl rfl rfl ?_
      refine hz_iast (n := 26) hC dX2_changeSetting_25 (hI.1 g 1 hg (by decide)) (ha_h1 hg) rfl (fun _ => ?_)
      refine hz_iload_n (a := 0) (n := 27) hC dX2_changeSetting_26 rfl rfl rfl ?_
      exact hz_iret hC hr dX2_changeSetting_27
def F_X2_minutesHeard (g : Nat) (a0 : Int32) (a1 : Int32) (M : hp_M) : Option (Int32 × hp_M) := (if ((a0 * (10 : Int32)) + a1) < 0 then (some ((0 : Int32), M)) else (if (100 : Int32) ≤ ((a0 * (10 : Int32)) + a1) then (some ((0 : Int32), M)) else (if ((a0 * (10 : Int32)) + a1) < 0 ∨ 100 ≤ (((a0 * (10 : Int32)) + a1)).toNatClampNeg then none else (some ((M g 4 (((a0 * (10 : Int32)) + a1)).toNatClampNeg), M)))))
set_option maxRecDepth 20000 in
set_option maxHeartbeats 4000000 in
theorem c_X2_minutesHeard (l : Launch) (g : Nat) (a0 : Int32) (a1 : Int32) (hg : g < 12) (M : hp_M) : hp_Ct l yX2_minutesHeard cX2_minutesHeard 4 (some .int) 0 hp_IC (fun adr adV => [.ref (adr g 0), .int a0, .int a1]) hp_oi M (F_X2_minutesHeard g a0 a1 M) := by
  refine hp_start "HallPhone$House" (fun adr adV => [(0, .ref (adr g 0)), (1, .int a0), (2, .int a1)]) (by decide) rfl (fun _ _ => by simp only [lg_sl]; exact Nat.le_of_ble_eq_true rfl) (fun _ _ => rfl) ?_
  intro p e s m args below meth c A D ids adr adV cA rep G0 hI hC hr
  unfold F_X2_minutesHeard
  refine hz_iload_n (a := 1) (n := 1) hC dX2_minutesHeard_0 rfl rfl rfl ?_
  refine hz_bipush (v := (10 : Int32)) (n := 3) hC dX2_minutesHeard_1 (by decide +kernel) rfl ?_
  refine hz_imul (n := 4) hC dX2_minutesHeard_3 rfl ?_
  refine hz_iload_n (a := 2) (n := 5) hC dX2_minutesHeard_4 rfl rfl rfl ?_
  refine hz_iadd (n := 6) hC dX2_minutesHeard_5 rfl ?_
  refine hz_istore_n (L' := [(3, .int ((a0 * (10 : Int32)) + a1)), (0, .ref (adr g 0)), (1, .int a0), (2, .int a1)]) (n := 7) hC dX2_minutesHeard_6 rfl (by decide) rfl rfl ?_
  refine hz_iload_n (a := 0) (n := 8) hC dX2_minutesHeard_7 rfl rfl rfl ?_
  refine hz_if_lt (tgt := 29) (n := 11) hC dX2_minutesHeard_8 (by decide) rfl (fun _ => ?_) (fun _ => ?_)
  · refine hz_iconst (v := (0 : Int32)) (n := 30) hC dX2_minutesHeard_29 (by decide +kernel) rfl ?_
    exact hz_iret hC hr dX2_minutesHeard_30
  · refine hz_iload_n (a := 0) (n := 12) hC dX2_minutesHeard_11 rfl rfl rfl ?_
    refine hz_aload_n (a := 1) (n := 13) hC dX2_minutesHeard_12 rfl rfl rfl ?_
    refine fg_X2_31 (n := 16) hC hg hI dX2_minutesHeard_13 rfl ?_
    refine hz_alen (v := (100 : Int32)) (t := 0) (n := 17) hC dX2_minutesHeard_16 (hI.1 g 4 hg (by decide)) (ha_h4 hg) rfl (by decide +kernel) rfl ?_
    refine hz_icmp_ge (tgt := 29) (n := 20) hC dX2_minutesHeard_17 (by decide) rfl (fun _ => ?_) (fun _ => ?_)
    · refine hz_iconst (v := (0 : Int32)) (n := 30) hC dX2_minutesHeard_29 (by decide +kernel) rfl ?_
      exact hz_iret hC hr dX2_minutesHeard_30
    · refine hz_aload_n (a := 1) (n := 21) hC dX2_minutesHeard_20 rfl rfl rfl ?_
      refine fg_X2_31 (n := 24) hC hg hI dX2_minutesHeard_21 rfl ?_
      refine hz_iload_n (a := 0) (n := 25) hC dX2_minutesHeard_24 rfl rfl rfl ?_
      refine hz_iald (n := 26) hC dX2_minutesHeard_25 (hI.1 g 4 hg (by decide)) (ha_h4 hg) rfl (fun _ => ?_)
      refine hz_goto (n := 30) hC dX2_minutesHeard_26 (by decide) ?_
      exact hz_iret hC hr dX2_minutesHeard_30
def F_X2_hearOneMinute (g : Nat) (a0 : Int32) (a1 : Int32) (M : hp_M) : Option (Unit × hp_M) := (if ((a0 * (10 : Int32)) + a1) < 0 then (some ((), M)) else (if (100 : Int32) ≤ ((a0 * (10 : Int32)) + a1) then (some ((), M)) else (if ((a0 * (10 : Int32)) + a1) < 0 ∨ 100 ≤ (((a0 * (10 : Int32)) + a1)).toNatClampNeg then none else (if ((a0 * (10 : Int32)) + a1) < 0 ∨ 100 ≤ (((a0 * (10 : Int32)) + a1)).toNatClampNeg then none else (some ((), (hp_p (hp_p M g 4 (((a0 * (10 : Int32)) + a1)).toNatClampNeg ((M g 4 (((a0 * (10 : Int32)) + a1)).toNatClampNeg) + (1 : Int32))) g 2 9 (((hp_p M g 4 (((a0 * (10 : Int32)) + a1)).toNatClampNeg ((M g 4 (((a0 * (10 : Int32)) + a1)).toNatClampNeg) + (1 : Int32))) g 2 9) + (1 : Int32)))))))))
set_option maxRecDepth 20000 in
set_option maxHeartbeats 4000000 in
theorem c_X2_hearOneMinute (l : Launch) (g : Nat) (a0 : Int32) (a1 : Int32) (hg : g < 12) (M : hp_M) : hp_Ct l yX2_hearOneMinute cX2_hearOneMinute 4 none 0 hp_IC (fun adr adV => [.ref (adr g 0), .int a0, .int a1]) hp_oo M (F_X2_hearOneMinute g a0 a1 M) := by
  refine hp_start "HallPhone$House" (fun adr adV => [(0, .ref (adr g 0)), (1, .int a0), (2, .int a1)]) (by decide) rfl (fun _ _ => by simp only [lg_sl]; exact Nat.le_of_ble_eq_true rfl) (fun _ _ => rfl) ?_
  intro p e s m args below meth c A D ids adr adV cA rep G0 hI hC hr
  unfold F_X2_hearOneMinute
  refine hz_iload_n (a := 1) (n := 1) hC dX2_hearOneMinute_0 rfl rfl rfl ?_
  refine hz_bipush (v := (10 : Int32)) (n := 3) hC dX2_hearOneMinute_1 (by decide +kernel) rfl ?_
  refine hz_imul (n := 4) hC dX2_hearOneMinute_3 rfl ?_
  refine hz_iload_n (a := 2) (n := 5) hC dX2_hearOneMinute_4 rfl rfl rfl ?_
  refine hz_iadd (n := 6) hC dX2_hearOneMinute_5 rfl ?_
  refine hz_istore_n (L' := [(3, .int ((a0 * (10 : Int32)) + a1)), (0, .ref (adr g 0)), (1, .int a0), (2, .int a1)]) (n := 7) hC dX2_hearOneMinute_6 rfl (by decide) rfl rfl ?_
  refine hz_iload_n (a := 0) (n := 8) hC dX2_hearOneMinute_7 rfl rfl rfl ?_
  refine hz_if_lt (tgt := 41) (n := 11) hC dX2_hearOneMinute_8 (by decide) rfl (fun _ => ?_) (fun _ => ?_)
  · exact hz_vret hC hr dX2_hearOneMinute_41
  · refine hz_iload_n (a := 0) (n := 12) hC dX2_hearOneMinute_11 rfl rfl rfl ?_
    refine hz_aload_n (a := 1) (n := 13) hC dX2_hearOneMinute_12 rfl rfl rfl ?_
    refine fg_X2_31 (n := 16) hC hg hI dX2_hearOneMinute_13 rfl ?_
    refine hz_alen (v := (100 : Int32)) (t := 0) (n := 17) hC dX2_hearOneMinute_16 (hI.1 g 4 hg (by decide)) (ha_h4 hg) rfl (by decide +kernel) rfl ?_
    refine hz_icmp_ge (tgt := 41) (n := 20) hC dX2_hearOneMinute_17 (by decide) rfl (fun _ => ?_) (fun _ => ?_)
    · exact hz_vret hC hr dX2_hearOneMinute_41
    · refine hz_aload_n (a := 1) (n := 21) hC dX2_hearOneMinute_20 rfl rfl rfl ?_
      refine fg_X2_31 (n := 24) hC hg hI dX2_hearOneMinute_21 rfl ?_
      refine hz_iload_n (a := 0) (n := 25) hC dX2_hearOneMinute_24 rfl rfl rfl ?_
      refine hz_dup2 (n := 26) hC dX2_hearOneMinute_25 rfl rfl rfl ?_
      refine hz_iald (n := 27) hC dX2_hearOneMinute_26 (hI.1 g 4 hg (by decide)) (ha_h4 hg) rfl (fun _ => ?_)
      refine hz_iconst (v := (1 : Int32)) (n := 28) hC dX2_hearOneMinute_27 (by decide +kernel) rfl ?_
      refine hz_iadd (n := 29) hC dX2_hearOneMinute_28 rfl ?_
      refine hz_iast (n := 30) hC dX2_hearOneMinute_29 (hI.1 g 4 hg (by decide)) (ha_h4 hg) rfl (fun _ => ?_)
      refine hz_aload_n (a := 1) (n := 31) hC dX2_hearOneMinute_30 rfl rfl rfl ?_
      refine fg_X2_25 (n := 34) hC hg hI dX2_hearOneMinute_31 rfl ?_
      refine hz_bipush (v := (9 : Int32)) (n := 36) hC dX2_hearOneMinute_34 (by decide +kernel) rfl ?_
      refine hz_dup2 (n := 37) hC dX2_hearOneMinute_36 rfl rfl rfl ?_
      refine hz_ialdc (k := 9) (n := 38) hC (by decide +kernel) (by decide) dX2_hearOneMinute_37 (hI.1 g 2 hg (by decide)) (ha_h2 hg) rfl ?_
      refine hz_iconst (v := (1 : Int32)) (n := 39) hC dX2_hearOneMinute_38 (by decide +kernel) rfl ?_
      refine hz_iadd (n := 40) hC dX2_hearOneMinute_39 rfl ?_
      refine hz_iastc (k := 9) (n := 41) hC (by decide +kernel) (by decide) dX2_hearOneMinute_40 (hI.1 g 2 hg (by decide)) (ha_h2 hg) rfl ?_
      exact hz_vret hC hr dX2_hearOneMinute_41
def F_X2_addFlat (g : Nat) (a0 : Int32) (M : hp_M) : Option (Int32 × hp_M) := (if (M g 0 0) < (10 : Int32) then (hp_b (F_X2_put g (M g 0 0) (0 : Int32) a0 M) (fun _ M1 => (some ((1 : Int32), (hp_p M1 g 0 0 ((M1 g 0 0) + (1 : Int32))))))) else (some ((0 : Int32), M)))
set_option maxRecDepth 20000 in
set_option maxHeartbeats 4000000 in
theorem c_X2_addFlat (l : Launch) (g : Nat) (a0 : Int32) (hg : g < 12) (M : hp_M) : hp_Ct l yX2_addFlat cX2_addFlat 2 (some .boolean) 1 hp_IC (fun adr adV => [.ref (adr g 0), .int a0]) hp_oi M (F_X2_addFlat g a0 M) := by
  refine hp_start "HallPhone$House" (fun adr adV => [(0, .ref (adr g 0)), (1, .int a0)]) (by decide) rfl (fun _ _ => by simp only [lg_sl]; exact Nat.le_of_ble_eq_true rfl) (fun _ _ => rfl) ?_
  intro p e s m args below meth c A D ids adr adV cA rep G0 hI hC hr
  unfold F_X2_addFlat
  refine hz_aload_n (a := 0) (n := 1) hC dX2_addFlat_0 rfl rfl rfl ?_
  refine fg_X2_9 (n := 4) hC hg hI dX2_addFlat_1 rfl ?_
  refine hz_bipush (v := (10 : Int32)) (n := 6) hC dX2_addFlat_4 (by decide +kernel) rfl ?_
  refine hz_icmp_lt (tgt := 11) (n := 9) hC dX2_addFlat_6 (by decide) rfl (fun _ => ?_) (fun _ => ?_)
  · refine hz_aload_n (a := 0) (n := 12) hC dX2_addFlat_11 rfl rfl rfl ?_
    refine hz_aload_n (a := 0) (n := 13) hC dX2_addFlat_12 rfl rfl rfl ?_
    refine fg_X2_9 (n := 16) hC hg hI dX2_addFlat_13 rfl ?_
    refine hz_iconst (v := (0 : Int32)) (n := 17) hC dX2_addFlat_16 (by decide +kernel) rfl ?_
    refine hz_iload_n (a := 1) (n := 18) hC dX2_addFlat_17 rfl rfl rfl ?_
    refine hz_callV (k := 3) (As := [.int (M g 0 0), .int (0 : Int32), .int a0]) (st := []) (S1 := fun _ => []) (n := 21) hC (c_X2_put l g (M g 0 0) (0 : Int32) a0 hg  M) kv_X2_put wd_2_119 hI dX2_addFlat_18 rfl (hI.1 g 0 hg (by decide)) (he_X2 hg) rfl rfl rfl (Nat.le_of_ble_eq_true rfl) ⟨Nat.le_of_ble_eq_true rfl, Nat.le_of_ble_eq_true rfl⟩ ⟨Nat.zero_le _, Nat.zero_le _⟩ (fun _ => rfl) rfl (fun r1 M1 _ => ?_)
    refine hz_aload_n (a := 0) (n := 22) hC dX2_addFlat_21 rfl rfl rfl ?_
    refine hz_dup (n := 23) hC dX2_addFlat_22 rfl rfl ?_
    refine fg_X2_9 (n := 26) hC hg hI dX2_addFlat_23 rfl ?_
    refine hz_iconst (v := (1 : Int32)) (n := 27) hC dX2_addFlat_26 (by decide +kernel) rfl ?_
    refine hz_iadd (n := 28) hC dX2_addFlat_27 rfl ?_
    refine fp_X2_9 (n := 31) hC hg hI ((M1 g 0 0) + (1 : Int32)) dX2_addFlat_28 rfl ?_
    refine hz_iconst (v := (1 : Int32)) (n := 32) hC dX2_addFlat_31 (by decide +kernel) rfl ?_
    exact hz_zret hC hr nz_1 dX2_addFlat_32
  · refine hz_iconst (v := (0 : Int32)) (n := 10) hC dX2_addFlat_9 (by decide +kernel) rfl ?_
    exact hz_zret hC hr nz_0 dX2_addFlat_10
def L_X2_debtOfAll_4 (g : Nat)   : Nat → Int32 → Int32 → hp_M → Option (Int32 × hp_M)
  | 0, _, _, _ => none
  | n4 + 1, x1, x2, M => (if (M g 0 0) ≤ x2 then (some (x1, M)) else (hp_b (F_X2_get g x2 (6 : Int32) M) (fun r1 M1 => (L_X2_debtOfAll_4 g n4 (x1 + r1) (x2 + (1 : Int32)) M1))))
def F_X2_debtOfAll (g : Nat) (M : hp_M) : Option (Int32 × hp_M) := (L_X2_debtOfAll_4 g hp_fu (0 : Int32) (0 : Int32) M)
set_option maxRecDepth 20000 in
set_option maxHeartbeats 4000000 in
theorem c_X2_debtOfAll (l : Launch) (g : Nat) (hg : g < 12) (M : hp_M) : hp_Ct l yX2_debtOfAll cX2_debtOfAll 3 (some .int) 1 hp_IC (fun adr adV => [.ref (adr g 0)]) hp_oi M (F_X2_debtOfAll g M) := by
  refine hp_start "HallPhone$House" (fun adr adV => [(0, .ref (adr g 0))]) (by decide) rfl (fun _ _ => by simp only [lg_sl]; exact Nat.le_of_ble_eq_true rfl) (fun _ _ => rfl) ?_
  intro p e s m args below meth c A D ids adr adV cA rep G0 hI hC hr
  unfold F_X2_debtOfAll
  have l4 : ∀  (n4 : Nat) (x1 : Int32) (x2 : Int32) (M : hp_M), hp_Z p l e (hp_rm 1) s m args below meth c 3 A D ids adr adV cA 0 0 (MQ below (hp_Q A D ids adr adV cA rep hp_oi G0) args s 0 0 A) G0 rep 4 [(0, .ref (adr g 0)), (1, .int x1), (2, .int x2)] [] M (L_X2_debtOfAll_4 g n4 x1 x2 M) := by
    intro  n4
    induction n4 with
    | zero => intro x1 x2 M; exact hz_none hC
    | succ n4 ih4 =>
      intro x1 x2 M
      rw [L_X2_debtOfAll_4.eq_2]
      refine hz_iload_n (a := 2) (n := 5) hC dX2_debtOfAll_4 rfl rfl rfl ?_
      refine hz_aload_n (a := 0) (n := 6) hC dX2_debtOfAll_5 rfl rfl rfl ?_
      refine fg_X2_9 (n := 9) hC hg hI dX2_debtOfAll_6 rfl ?_
      refine hz_icmp_ge (tgt := 28) (n := 12) hC dX2_debtOfAll_9 (by decide) rfl (fun _ => ?_) (fun _ => ?_)
      · refine hz_iload_n (a := 1) (n := 29) hC dX2_debtOfAll_28 rfl rfl rfl ?_
        exact hz_iret hC hr dX2_debtOfAll_29
      · refine hz_iload_n (a := 1) (n := 13) hC dX2_debtOfAll_12 rfl rfl rfl ?_
        refine hz_aload_n (a := 0) (n := 14) hC dX2_debtOfAll_13 rfl rfl rfl ?_
        refine hz_iload_n (a := 2) (n := 15) hC dX2_debtOfAll_14 rfl rfl rfl ?_
        refine hz_bipush (v := (6 : Int32)) (n := 17) hC dX2_debtOfAll_15 (by decide +kernel) rfl ?_
        refine hz_callV (k := 2) (As := [.int x2, .int (6 : Int32)]) (st := [.int x1]) (S1 := fun r => .int r :: [.int x1]) (n := 20) hC (c_X2_get l g x2 (6 : Int32) hg  M) kv_X2_get wd_2_148 hI dX2_debtOfAll_17 rfl (hI.1 g 0 hg (by decide)) (he_X2 hg) rfl rfl rfl (Nat.le_of_ble_eq_true rfl) ⟨Nat.le_of_ble_eq_true rfl, Nat.le_of_ble_eq_true rfl⟩ ⟨Nat.zero_le _, Nat.zero_le _⟩ (fun _ => rfl) rfl (fun r1 M1 _ => ?_)
        refine hz_iadd (n := 21) hC dX2_debtOfAll_20 rfl ?_
        refine hz_istore_n (L' := [(1, .int (x1 + r1)), (0, .ref (adr g 0)), (2, .int x2)]) (n := 22) hC dX2_debtOfAll_21 rfl (by decide) rfl rfl ?_
        refine hz_iinc (a := 2) (v := (x2 + (1 : Int32))) (L' := [(2, .int (x2 + (1 : Int32))), (1, .int (x1 + r1)), (0, .ref (adr g 0))]) (n := 25) hC dX2_debtOfAll_22 rfl rfl (by decide) rfl rfl ?_
        refine hz_goto (n := 4) hC dX2_debtOfAll_25 (by decide) ?_
        refine hz_L (L' := [(0, .ref (adr g 0)), (1, .int (x1 + r1)), (2, .int (x2 + (1 : Int32)))]) [2, 1, 0] rfl ?_
        exact ih4 _ _ _
  refine hz_iconst (v := (0 : Int32)) (n := 1) hC dX2_debtOfAll_0 (by decide +kernel) rfl ?_
  refine hz_istore_n (L' := [(1, .int (0 : Int32)), (0, .ref (adr g 0))]) (n := 2) hC dX2_debtOfAll_1 rfl (by decide) rfl rfl ?_
  refine hz_iconst (v := (0 : Int32)) (n := 3) hC dX2_debtOfAll_2 (by decide +kernel) rfl ?_
  refine hz_istore_n (L' := [(2, .int (0 : Int32)), (1, .int (0 : Int32)), (0, .ref (adr g 0))]) (n := 4) hC dX2_debtOfAll_3 rfl (by decide) rfl rfl ?_
  refine hz_L (L' := [(0, .ref (adr g 0)), (1, .int (0 : Int32)), (2, .int (0 : Int32))]) [2, 1, 0] rfl ?_
  exact l4 hp_fu _ _ _
def F_X2_accountNumber (g : Nat) (a0 : Int32) (M : hp_M) : Option (Int32 × hp_M) := (if a0 = 0 then (some ((M g 0 1), M)) else (if a0 = (10 : Int32) then (hp_b (F_X2_debtOfAll g M) (fun r1 M1 => (some (((((((M g 2 4) - (M g 2 5)) - r1) + (M1 g 2 6)) - (M1 g 2 7)) - (M1 g 8 2)), M1)))) else (if a0 < 0 then (some ((0 : Int32), M)) else (if (10 : Int32) ≤ a0 then (some ((0 : Int32), M)) else (if a0 < 0 ∨ 10 ≤ (a0).toNatClampNeg then none else (some ((M g 2 (a0).toNatClampNeg), M)))))))
set_option maxRecDepth 20000 in
set_option maxHeartbeats 4000000 in
theorem c_X2_accountNumber (l : Launch) (g : Nat) (a0 : Int32) (hg : g < 12) (M : hp_M) : hp_Ct l yX2_accountNumber cX2_accountNumber 2 (some .int) 2 hp_IC (fun adr adV => [.ref (adr g 0), .int a0]) hp_oi M (F_X2_accountNumber g a0 M) := by
  refine hp_start "HallPhone$House" (fun adr adV => [(0, .ref (adr g 0)), (1, .int a0)]) (by decide) rfl (fun _ _ => by simp only [lg_sl]; exact Nat.le_of_ble_eq_true rfl) (fun _ _ => rfl) ?_
  intro p e s m args below meth c A D ids adr adV cA rep G0 hI hC hr
  unfold F_X2_accountNumber
  refine hz_iload_n (a := 1) (n := 1) hC dX2_accountNumber_0 rfl rfl rfl ?_
  refine hz_if_ne (tgt := 9) (n := 4) hC dX2_accountNumber_1 (by decide) rfl (fun _ => ?_) (fun _ => ?_)
  · refine hz_aload_n (a := 0) (n := 5) hC dX2_accountNumber_4 rfl rfl rfl ?_
    refine fg_X2_15 (n := 8) hC hg hI dX2_accountNumber_5 rfl ?_
    exact hz_iret hC hr dX2_accountNumber_8
  · refine hz_iload_n (a := 1) (n := 10) hC dX2_accountNumber_9 rfl rfl rfl ?_
    refine hz_bipush (v := (10 : Int32)) (n := 12) hC dX2_accountNumber_10 (by decide +kernel) rfl ?_
    refine hz_icmp_ne (tgt := 58) (n := 15) hC dX2_accountNumber_12 (by decide) rfl (fun _ => ?_) (fun _ => ?_)
    · refine hz_aload_n (a := 0) (n := 16) hC dX2_accountNumber_15 rfl rfl rfl ?_
      refine fg_X2_25 (n := 19) hC hg hI dX2_accountNumber_16 rfl ?_
      refine hz_iconst (v := (4 : Int32)) (n := 20) hC dX2_accountNumber_19 (by decide +kernel) rfl ?_
      refine hz_ialdc (k := 4) (n := 21) hC (by decide +kernel) (by decide) dX2_accountNumber_20 (hI.1 g 2 hg (by decide)) (ha_h2 hg) rfl ?_
      refine hz_aload_n (a := 0) (n := 22) hC dX2_accountNumber_21 rfl rfl rfl ?_
      refine fg_X2_25 (n := 25) hC hg hI dX2_accountNumber_22 rfl ?_
      refine hz_iconst (v := (5 : Int32)) (n := 26) hC dX2_accountNumber_25 (by decide +kernel) rfl ?_
      refine hz_ialdc (k := 5) (n := 27) hC (by decide +kernel) (by decide) dX2_accountNumber_26 (hI.1 g 2 hg (by decide)) (ha_h2 hg) rfl ?_
      refine hz_isub (n := 28) hC dX2_accountNumber_27 rfl ?_
      refine hz_aload_n (a := 0) (n := 29) hC dX2_accountNumber_28 rfl rfl rfl ?_
      refine hz_callV (k := 0) (As := []) (st := [.int ((M g 2 4) - (M g 2 5))]) (S1 := fun r => .int r :: [.int ((M g 2 4) - (M g 2 5))]) (n := 32) hC (c_X2_debtOfAll l g hg  M) kv_X2_debtOfAll wd_3_143 hI dX2_accountNumber_29 rfl (hI.1 g 0 hg (by decide)) (he_X2 hg) rfl rfl rfl (Nat.le_of_ble_eq_true rfl) ⟨Nat.le_of_ble_eq_true rfl, Nat.le_of_ble_eq_true rfl⟩ ⟨Nat.zero_le _, Nat.zero_le _⟩ (fun _ => rfl) rfl (fun r1 M1 _ => ?_)
      refine hz_isub (n := 33) hC dX2_accountNumber_32 rfl ?_
      refine hz_aload_n (a := 0) (n := 34) hC dX2_accountNumber_33 rfl rfl rfl ?_
      refine fg_X2_25 (n := 37) hC hg hI dX2_accountNumber_34 rfl ?_
      refine hz_bipush (v := (6 : Int32)) (n := 39) hC dX2_accountNumber_37 (by decide +kernel) rfl ?_
      refine hz_ialdc (k := 6) (n := 40) hC (by decide +kernel) (by decide) dX2_accountNumber_39 (hI.1 g 2 hg (by decide)) (ha_h2 hg) rfl ?_
      refine hz_iadd (n := 41) hC dX2_accountNumber_40 rfl ?_
      refine hz_aload_n (a := 0) (n := 42) hC dX2_accountNumber_41 rfl rfl rfl ?_
      refine fg_X2_25 (n := 45) hC hg hI dX2_accountNumber_42 rfl ?_
      refine hz_bipush (v := (7 : Int32)) (n := 47) hC dX2_accountNumber_45 (by decide +kernel) rfl ?_
      refine hz_ialdc (k := 7) (n := 48) hC (by decide +kernel) (by decide) dX2_accountNumber_47 (hI.1 g 2 hg (by decide)) (ha_h2 hg) rfl ?_
      refine hz_isub (n := 49) hC dX2_accountNumber_48 rfl ?_
      refine hz_aload_n (a := 0) (n := 50) hC dX2_accountNumber_49 rfl rfl rfl ?_
      refine fg_X2_51 (n := 53) hC hg hI dX2_accountNumber_50 rfl ?_
      refine fg_X2_74 (n := 56) hC hg hI dX2_accountNumber_53 rfl ?_
      refine hz_isub (n := 57) hC dX2_accountNumber_56 rfl ?_
      exact hz_iret hC hr dX2_accountNumber_57
    · refine hz_iload_n (a := 1) (n := 59) hC dX2_accountNumber_58 rfl rfl rfl ?_
      refine hz_if_lt (tgt := 80) (n := 62) hC dX2_accountNumber_59 (by decide) rfl (fun _ => ?_) (fun _ => ?_)
      · refine hz_iconst (v := (0 : Int32)) (n := 81) hC dX2_accountNumber_80 (by decide +kernel) rfl ?_
        exact hz_iret hC hr dX2_accountNumber_81
      · refine hz_iload_n (a := 1) (n := 63) hC dX2_accountNumber_62 rfl rfl rfl ?_
        refine hz_aload_n (a := 0) (n := 64) hC dX2_accountNumber_63 rfl rfl rfl ?_
        refine fg_X2_25 (n := 67) hC hg hI dX2_accountNumber_64 rfl ?_
        refine hz_alen (v := (10 : Int32)) (t := 0) (n := 68) hC dX2_accountNumber_67 (hI.1 g 2 hg (by decide)) (ha_h2 hg) rfl (by decide +kernel) rfl ?_
        refine hz_icmp_ge (tgt := 80) (n := 71) hC dX2_accountNumber_68 (by decide) rfl (fun _ => ?_) (fun _ => ?_)
        · refine hz_iconst (v := (0 : Int32)) (n := 81) hC dX2_accountNumber_80 (by decide +kernel) rfl ?_
          exact hz_iret hC hr dX2_accountNumber_81
        · refine hz_aload_n (a := 0) (n := 72) hC dX2_accountNumber_71 rfl rfl rfl ?_
          refine fg_X2_25 (n := 75) hC hg hI dX2_accountNumber_72 rfl ?_
          refine hz_iload_n (a := 1) (n := 76) hC dX2_accountNumber_75 rfl rfl rfl ?_
          refine hz_iald (n := 77) hC dX2_accountNumber_76 (hI.1 g 2 hg (by decide)) (ha_h2 hg) rfl (fun _ => ?_)
          refine hz_goto (n := 81) hC dX2_accountNumber_77 (by decide) ?_
          exact hz_iret hC hr dX2_accountNumber_81
def L_X2_flatsThatAre_4 (g : Nat) (a0 : Int32)   : Nat → Int32 → Int32 → hp_M → Option (Int32 × hp_M)
  | 0, _, _, _ => none
  | n4 + 1, x2, x3, M => (if (M g 0 0) ≤ x3 then (some (x2, M)) else (hp_b (F_X2_get g x3 (2 : Int32) M) (fun r1 M1 => (if r1 = a0 then (L_X2_flatsThatAre_4 g a0 n4 (x2 ||| ((1 : Int32) <<< (x3 &&& 31))) (x3 + (1 : Int32)) M1) else (L_X2_flatsThatAre_4 g a0 n4 x2 (x3 + (1 : Int32)) M1)))))
def F_X2_flatsThatAre (g : Nat) (a0 : Int32) (M : hp_M) : Option (Int32 × hp_M) := (L_X2_flatsThatAre_4 g a0 hp_fu (0 : Int32) (0 : Int32) M)
set_option maxRecDepth 20000 in
set_option maxHeartbeats 4000000 in
theorem c_X2_flatsThatAre (l : Launch) (g : Nat) (a0 : Int32) (hg : g < 12) (M : hp_M) : hp_Ct l yX2_flatsThatAre cX2_flatsThatAre 4 (some .int) 1 hp_IC (fun adr adV => [.ref (adr g 0), .int a0]) hp_oi M (F_X2_flatsThatAre g a0 M) := by
  refine hp_start "HallPhone$House" (fun adr adV => [(0, .ref (adr g 0)), (1, .int a0)]) (by decide) rfl (fun _ _ => by simp only [lg_sl]; exact Nat.le_of_ble_eq_true rfl) (fun _ _ => rfl) ?_
  intro p e s m args below meth c A D ids adr adV cA rep G0 hI hC hr
  unfold F_X2_flatsThatAre
  have l4 : ∀  (n4 : Nat) (x2 : Int32) (x3 : Int32) (M : hp_M), hp_Z p l e (hp_rm 1) s m args below meth c 4 A D ids adr adV cA 0 0 (MQ below (hp_Q A D ids adr adV cA rep hp_oi G0) args s 0 0 A) G0 rep 4 [(0, .ref (adr g 0)), (1, .int a0), (2, .int x2), (3, .int x3)] [] M (L_X2_flatsThatAre_4 g a0 n4 x2 x3 M) := by
    intro  n4
    induction n4 with
    | zero => intro x2 x3 M; exact hz_none hC
    | succ n4 ih4 =>
      intro x2 x3 M
      rw [L_X2_flatsThatAre_4.eq_2]
      refine hz_iload_n (a := 3) (n := 5) hC dX2_flatsThatAre_4 rfl rfl rfl ?_
      refine hz_aload_n (a := 0) (n := 6) hC dX2_flatsThatAre_5 rfl rfl rfl ?_
      refine fg_X2_9 (n := 9) hC hg hI dX2_flatsThatAre_6 rfl ?_
      refine hz_icmp_ge (tgt := 34) (n := 12) hC dX2_flatsThatAre_9 (by decide) rfl (fun _ => ?_) (fun _ => ?_)
      · refine hz_iload_n (a := 2) (n := 35) hC dX2_flatsThatAre_34 rfl rfl rfl ?_
        exact hz_iret hC hr dX2_flatsThatAre_35
      · refine hz_aload_n (a := 0) (n := 13) hC dX2_flatsThatAre_12 rfl rfl rfl ?_
        refine hz_iload_n (a := 3) (n := 14) hC dX2_flatsThatAre_13 rfl rfl rfl ?_
        refine hz_iconst (v := (2 : Int32)) (n := 15) hC dX2_flatsThatAre_14 (by decide +kernel) rfl ?_
        refine hz_callV (k := 2) (As := [.int x3, .int (2 : Int32)]) (st := []) (S1 := fun r => .int r :: []) (n := 18) hC (c_X2_get l g x3 (2 : Int32) hg  M) kv_X2_get wd_2_148 hI dX2_flatsThatAre_15 rfl (hI.1 g 0 hg (by decide)) (he_X2 hg) rfl rfl rfl (Nat.le_of_ble_eq_true rfl) ⟨Nat.le_of_ble_eq_true rfl, Nat.le_of_ble_eq_true rfl⟩ ⟨Nat.zero_le _, Nat.zero_le _⟩ (fun _ => rfl) rfl (fun r1 M1 _ => ?_)
        refine hz_iload_n (a := 1) (n := 19) hC dX2_flatsThatAre_18 rfl rfl rfl ?_
        refine hz_icmp_ne (tgt := 28) (n := 22) hC dX2_flatsThatAre_19 (by decide) rfl (fun _ => ?_) (fun _ => ?_)
        · refine hz_iload_n (a := 2) (n := 23) hC dX2_flatsThatAre_22 rfl rfl rfl ?_
          refine hz_iconst (v := (1 : Int32)) (n := 24) hC dX2_flatsThatAre_23 (by decide +kernel) rfl ?_
          refine hz_iload_n (a := 3) (n := 25) hC dX2_flatsThatAre_24 rfl rfl rfl ?_
          refine hz_ishl (n := 26) hC dX2_flatsThatAre_25 rfl ?_
          refine hz_ior (n := 27) hC dX2_flatsThatAre_26 rfl ?_
          refine hz_istore_n (L' := [(2, .int (x2 ||| ((1 : Int32) <<< (x3 &&& 31)))), (0, .ref (adr g 0)), (1, .int a0), (3, .int x3)]) (n := 28) hC dX2_flatsThatAre_27 rfl (by decide) rfl rfl ?_
          refine hz_iinc (a := 3) (v := (x3 + (1 : Int32))) (L' := [(3, .int (x3 + (1 : Int32))), (2, .int (x2 ||| ((1 : Int32) <<< (x3 &&& 31)))), (0, .ref (adr g 0)), (1, .int a0)]) (n := 31) hC dX2_flatsThatAre_28 rfl rfl (by decide) rfl rfl ?_
          refine hz_goto (n := 4) hC dX2_flatsThatAre_31 (by decide) ?_
          refine hz_L (L' := [(0, .ref (adr g 0)), (1, .int a0), (2, .int (x2 ||| ((1 : Int32) <<< (x3 &&& 31)))), (3, .int (x3 + (1 : Int32)))]) [2, 3, 1, 0] rfl ?_
          exact ih4 _ _ _
        · refine hz_iinc (a := 3) (v := (x3 + (1 : Int32))) (L' := [(3, .int (x3 + (1 : Int32))), (0, .ref (adr g 0)), (1, .int a0), (2, .int x2)]) (n := 31) hC dX2_flatsThatAre_28 rfl rfl (by decide) rfl rfl ?_
          refine hz_goto (n := 4) hC dX2_flatsThatAre_31 (by decide) ?_
          refine hz_L (L' := [(0, .ref (adr g 0)), (1, .int a0), (2, .int x2), (3, .int (x3 + (1 : Int32)))]) [1, 2, 3, 0] rfl ?_
          exact ih4 _ _ _
  refine hz_iconst (v := (0 : Int32)) (n := 1) hC dX2_flatsThatAre_0 (by decide +kernel) rfl ?_
  refine hz_istore_n (L' := [(2, .int (0 : Int32)), (0, .ref (adr g 0)), (1, .int a0)]) (n := 2) hC dX2_flatsThatAre_1 rfl (by decide) rfl rfl ?_
  refine hz_iconst (v := (0 : Int32)) (n := 3) hC dX2_flatsThatAre_2 (by decide +kernel) rfl ?_
  refine hz_istore_n (L' := [(3, .int (0 : Int32)), (2, .int (0 : Int32)), (0, .ref (adr g 0)), (1, .int a0)]) (n := 4) hC dX2_flatsThatAre_3 rfl (by decide) rfl rfl ?_
  refine hz_L (L' := [(0, .ref (adr g 0)), (1, .int a0), (2, .int (0 : Int32)), (3, .int (0 : Int32))]) [2, 3, 1, 0] rfl ?_
  exact l4 hp_fu _ _ _
def F_X2_isListener (g : Nat) (a0 : Int32) (M : hp_M) : Option (Int32 × hp_M) := (hp_b (F_X2_get g a0 (2 : Int32) M) (fun r1 M1 => (if r1 = 0 then (hp_b (F_X2_get g a0 (1 : Int32) M1) (fun r2 M2 => (if r2 = (1 : Int32) then (hp_b (F_X2_get g a0 (0 : Int32) M2) (fun r3 M3 => (if (M3 g 1 3) < r3 then (some ((0 : Int32), M3)) else (some ((1 : Int32), M3))))) else (some ((0 : Int32), M2))))) else (some ((0 : Int32), M1)))))
set_option maxRecDepth 20000 in
set_option maxHeartbeats 4000000 in
theorem c_X2_isListener (l : Launch) (g : Nat) (a0 : Int32) (hg : g < 12) (M : hp_M) : hp_Ct l yX2_isListener cX2_isListener 2 (some .boolean) 1 hp_IC (fun adr adV => [.ref (adr g 0), .int a0]) hp_oi M (F_X2_isListener g a0 M) := by
  refine hp_start "HallPhone$House" (fun adr adV => [(0, .ref (adr g 0)), (1, .int a0)]) (by decide) rfl (fun _ _ => by simp only [lg_sl]; exact Nat.le_of_ble_eq_true rfl) (fun _ _ => rfl) ?_
  intro p e s m args below meth c A D ids adr adV cA rep G0 hI hC hr
  unfold F_X2_isListener
  refine hz_aload_n (a := 0) (n := 1) hC dX2_isListener_0 rfl rfl rfl ?_
  refine hz_iload_n (a := 1) (n := 2) hC dX2_isListener_1 rfl rfl rfl ?_
  refine hz_iconst (v := (2 : Int32)) (n := 3) hC dX2_isListener_2 (by decide +kernel) rfl ?_
  refine hz_callV (k := 2) (As := [.int a0, .int (2 : Int32)]) (st := []) (S1 := fun r => .int r :: []) (n := 6) hC (c_X2_get l g a0 (2 : Int32) hg  M) kv_X2_get wd_2_148 hI dX2_isListener_3 rfl (hI.1 g 0 hg (by decide)) (he_X2 hg) rfl rfl rfl (Nat.le_of_ble_eq_true rfl) ⟨Nat.le_of_ble_eq_true rfl, Nat.le_of_ble_eq_true rfl⟩ ⟨Nat.zero_le _, Nat.zero_le _⟩ (fun _ => rfl) rfl (fun r1 M1 _ => ?_)
  refine hz_if_ne (tgt := 38) (n := 9) hC dX2_isListener_6 (by decide) rfl (fun _ => ?_) (fun _ => ?_)
  · refine hz_aload_n (a := 0) (n := 10) hC dX2_isListener_9 rfl rfl rfl ?_
    refine hz_iload_n (a := 1) (n := 11) hC dX2_isListener_10 rfl rfl rfl ?_
    refine hz_iconst (v := (1 : Int32)) (n := 12) hC dX2_isListener_11 (by decide +kernel) rfl ?_
    refine hz_callV (k := 2) (As := [.int a0, .int (1 : Int32)]) (st := []) (S1 := fun r => .int r :: []) (n := 15) hC (c_X2_get l g a0 (1 : Int32) hg  M1) kv_X2_get wd_2_148 hI dX2_isListener_12 rfl (hI.1 g 0 hg (by decide)) (he_X2 hg) rfl rfl rfl (Nat.le_of_ble_eq_true rfl) ⟨Nat.le_of_ble_eq_true rfl, Nat.le_of_ble_eq_true rfl⟩ ⟨Nat.zero_le _, Nat.zero_le _⟩ (fun _ => rfl) rfl (fun r2 M2 _ => ?_)
    refine hz_iconst (v := (1 : Int32)) (n := 16) hC dX2_isListener_15 (by decide +kernel) rfl ?_
    refine hz_icmp_ne (tgt := 38) (n := 19) hC dX2_isListener_16 (by decide) rfl (fun _ => ?_) (fun _ => ?_)
    · refine hz_aload_n (a := 0) (n := 20) hC dX2_isListener_19 rfl rfl rfl ?_
      refine hz_iload_n (a := 1) (n := 21) hC dX2_isListener_20 rfl rfl rfl ?_
      refine hz_iconst (v := (0 : Int32)) (n := 22) hC dX2_isListener_21 (by decide +kernel) rfl ?_
      refine hz_callV (k := 2) (As := [.int a0, .int (0 : Int32)]) (st := []) (S1 := fun r => .int r :: []) (n := 25) hC (c_X2_get l g a0 (0 : Int32) hg  M2) kv_X2_get wd_2_148 hI dX2_isListener_22 rfl (hI.1 g 0 hg (by decide)) (he_X2 hg) rfl rfl rfl (Nat.le_of_ble_eq_true rfl) ⟨Nat.le_of_ble_eq_true rfl, Nat.le_of_ble_eq_true rfl⟩ ⟨Nat.zero_le _, Nat.zero_le _⟩ (fun _ => rfl) rfl (fun r3 M3 _ => ?_)
      refine hz_aload_n (a := 0) (n := 26) hC dX2_isListener_25 rfl rfl rfl ?_
      refine fg_X2_21 (n := 29) hC hg hI dX2_isListener_26 rfl ?_
      refine hz_iconst (v := (3 : Int32)) (n := 30) hC dX2_isListener_29 (by decide +kernel) rfl ?_
      refine hz_ialdc (k := 3) (n := 31) hC (by decide +kernel) (by decide) dX2_isListener_30 (hI.1 g 1 hg (by decide)) (ha_h1 hg) rfl ?_
      refine hz_icmp_gt (tgt := 38) (n := 34) hC dX2_isListener_31 (by decide) rfl (fun _ => ?_) (fun _ => ?_)
      · refine hz_iconst (v := (0 : Int32)) (n := 39) hC dX2_isListener_38 (by decide +kernel) rfl ?_
        exact hz_zret hC hr nz_0 dX2_isListener_39
      · refine hz_iconst (v := (1 : Int32)) (n := 35) hC dX2_isListener_34 (by decide +kernel) rfl ?_
        refine hz_goto (n := 39) hC dX2_isListener_35 (by decide) ?_
        exact hz_zret hC hr nz_1 dX2_isListener_39
    · refine hz_iconst (v := (0 : Int32)) (n := 39) hC dX2_isListener_38 (by decide +kernel) rfl ?_
      exact hz_zret hC hr nz_0 dX2_isListener_39
  · refine hz_iconst (v := (0 : Int32)) (n := 39) hC dX2_isListener_38 (by decide +kernel) rfl ?_
    exact hz_zret hC hr nz_0 dX2_isListener_39
def L_X2_listenersOf_4 (g : Nat) (a0 : Int32)   : Nat → Int32 → Int32 → hp_M → Option (Int32 × hp_M)
  | 0, _, _, _ => none
  | n4 + 1, x2, x3, M => (if (M g 0 0) ≤ x3 then (some (x2, M)) else (if x3 = a0 then (L_X2_listenersOf_4 g a0 n4 x2 (x3 + (1 : Int32)) M) else (hp_b (F_X2_isListener g x3 M) (fun r1 M1 => (if r1 = 0 then (L_X2_listenersOf_4 g a0 n4 x2 (x3 + (1 : Int32)) M1) else (L_X2_listenersOf_4 g a0 n4 (x2 ||| ((1 : Int32) <<< (x3 &&& 31))) (x3 + (1 : Int32)) M1))))))
def F_X2_listenersOf (g : Nat) (a0 : Int32) (M : hp_M) : Option (Int32 × hp_M) := (L_X2_listenersOf_4 g a0 hp_fu (0 : Int32) (0 : Int32) M)
set_option maxRecDepth 20000 in
set_option maxHeartbeats 4000000 in
theorem c_X2_listenersOf (l : Launch) (g : Nat) (a0 : Int32) (hg : g < 12) (M : hp_M) : hp_Ct l yX2_listenersOf cX2_listenersOf 4 (some .int) 2 hp_IC (fun adr adV => [.ref (adr g 0), .int a0]) hp_oi M (F_X2_listenersOf g a0 M) := by
  refine hp_start "HallPhone$House" (fun adr adV => [(0, .ref (adr g 0)), (1, .int a0)]) (by decide) rfl (fun _ _ => by simp only [lg_sl]; exact Nat.le_of_ble_eq_true rfl) (fun _ _ => rfl) ?_
  intro p e s m args below meth c A D ids adr adV cA rep G0 hI hC hr
  unfold F_X2_listenersOf
  have l4 : ∀  (n4 : Nat) (x2 : Int32) (x3 : Int32) (M : hp_M), hp_Z p l e (hp_rm 2) s m args below meth c 4 A D ids adr adV cA 0 0 (MQ below (hp_Q A D ids adr adV cA rep hp_oi G0) args s 0 0 A) G0 rep 4 [(0, .ref (adr g 0)), (1, .int a0), (2, .int x2), (3, .int x3)] [] M (L_X2_listenersOf_4 g a0 n4 x2 x3 M) := by
    intro  n4
    induction n4 with
    | zero => intro x2 x3 M; exact hz_none hC
    | succ n4 ih4 =>
      intro x2 x3 M
      rw [L_X2_listenersOf_4.eq_2]
      refine hz_iload_n (a := 3) (n := 5) hC dX2_listenersOf_4 rfl rfl rfl ?_
      refine hz_aload_n (a := 0) (n := 6) hC dX2_listenersOf_5 rfl rfl rfl ?_
      refine fg_X2_9 (n := 9) hC hg hI dX2_listenersOf_6 rfl ?_
      refine hz_icmp_ge (tgt := 37) (n := 12) hC dX2_listenersOf_9 (by decide) rfl (fun _ => ?_) (fun _ => ?_)
      · refine hz_iload_n (a := 2) (n := 38) hC dX2_listenersOf_37 rfl rfl rfl ?_
        exact hz_iret hC hr dX2_listenersOf_38
      · refine hz_iload_n (a := 3) (n := 13) hC dX2_listenersOf_12 rfl rfl rfl ?_
        refine hz_iload_n (a := 1) (n := 14) hC dX2_listenersOf_13 rfl rfl rfl ?_
        refine hz_icmp_eq (tgt := 31) (n := 17) hC dX2_listenersOf_14 (by decide) rfl (fun _ => ?_) (fun _ => ?_)
        · refine hz_iinc (a := 3) (v := (x3 + (1 : Int32))) (L' := [(3, .int (x3 + (1 : Int32))), (0, .ref (adr g 0)), (1, .int a0), (2, .int x2)]) (n := 34) hC dX2_listenersOf_31 rfl rfl (by decide) rfl rfl ?_
          refine hz_goto (n := 4) hC dX2_listenersOf_34 (by decide) ?_
          refine hz_L (L' := [(0, .ref (adr g 0)), (1, .int a0), (2, .int x2), (3, .int (x3 + (1 : Int32)))]) [1, 2, 3, 0] rfl ?_
          exact ih4 _ _ _
        · refine hz_aload_n (a := 0) (n := 18) hC dX2_listenersOf_17 rfl rfl rfl ?_
          refine hz_iload_n (a := 3) (n := 19) hC dX2_listenersOf_18 rfl rfl rfl ?_
          refine hz_callV (k := 1) (As := [.int x3]) (st := []) (S1 := fun r => .int r :: []) (n := 22) hC (c_X2_isListener l g x3 hg  M) kv_X2_isListener wd_2_232 hI dX2_listenersOf_19 rfl (hI.1 g 0 hg (by decide)) (he_X2 hg) rfl rfl rfl (Nat.le_of_ble_eq_true rfl) ⟨Nat.le_of_ble_eq_true rfl, Nat.le_of_ble_eq_true rfl⟩ ⟨Nat.zero_le _, Nat.zero_le _⟩ (fun _ => rfl) rfl (fun r1 M1 _ => ?_)
          refine hz_if_eq (tgt := 31) (n := 25) hC dX2_listenersOf_22 (by decide) rfl (fun _ => ?_) (fun _ => ?_)
          · refine hz_iinc (a := 3) (v := (x3 + (1 : Int32))) (L' := [(3, .int (x3 + (1 : Int32))), (0, .ref (adr g 0)), (1, .int a0), (2, .int x2)]) (n := 34) hC dX2_listenersOf_31 rfl rfl (by decide) rfl rfl ?_
            refine hz_goto (n := 4) hC dX2_listenersOf_34 (by decide) ?_
            refine hz_L (L' := [(0, .ref (adr g 0)), (1, .int a0), (2, .int x2), (3, .int (x3 + (1 : Int32)))]) [1, 2, 3, 0] rfl ?_
            exact ih4 _ _ _
          · refine hz_iload_n (a := 2) (n := 26) hC dX2_listenersOf_25 rfl rfl rfl ?_
            refine hz_iconst (v := (1 : Int32)) (n := 27) hC dX2_listenersOf_26 (by decide +kernel) rfl ?_
            refine hz_iload_n (a := 3) (n := 28) hC dX2_listenersOf_27 rfl rfl rfl ?_
            refine hz_ishl (n := 29) hC dX2_listenersOf_28 rfl ?_
            refine hz_ior (n := 30) hC dX2_listenersOf_29 rfl ?_
            refine hz_istore_n (L' := [(2, .int (x2 ||| ((1 : Int32) <<< (x3 &&& 31)))), (0, .ref (adr g 0)), (1, .int a0), (3, .int x3)]) (n := 31) hC dX2_listenersOf_30 rfl (by decide) rfl rfl ?_
            refine hz_iinc (a := 3) (v := (x3 + (1 : Int32))) (L' := [(3, .int (x3 + (1 : Int32))), (2, .int (x2 ||| ((1 : Int32) <<< (x3 &&& 31)))), (0, .ref (adr g 0)), (1, .int a0)]) (n := 34) hC dX2_listenersOf_31 rfl rfl (by decide) rfl rfl ?_
            refine hz_goto (n := 4) hC dX2_listenersOf_34 (by decide) ?_
            refine hz_L (L' := [(0, .ref (adr g 0)), (1, .int a0), (2, .int (x2 ||| ((1 : Int32) <<< (x3 &&& 31)))), (3, .int (x3 + (1 : Int32)))]) [2, 3, 1, 0] rfl ?_
            exact ih4 _ _ _
  refine hz_iconst (v := (0 : Int32)) (n := 1) hC dX2_listenersOf_0 (by decide +kernel) rfl ?_
  refine hz_istore_n (L' := [(2, .int (0 : Int32)), (0, .ref (adr g 0)), (1, .int a0)]) (n := 2) hC dX2_listenersOf_1 rfl (by decide) rfl rfl ?_
  refine hz_iconst (v := (0 : Int32)) (n := 3) hC dX2_listenersOf_2 (by decide +kernel) rfl ?_
  refine hz_istore_n (L' := [(3, .int (0 : Int32)), (2, .int (0 : Int32)), (0, .ref (adr g 0)), (1, .int a0)]) (n := 4) hC dX2_listenersOf_3 rfl (by decide) rfl rfl ?_
  refine hz_L (L' := [(0, .ref (adr g 0)), (1, .int a0), (2, .int (0 : Int32)), (3, .int (0 : Int32))]) [2, 3, 1, 0] rfl ?_
  exact l4 hp_fu _ _ _
def L_X2_knowersOf_4 (g : Nat) (a0 : Int32)   : Nat → Int32 → Int32 → hp_M → Option (Int32 × hp_M)
  | 0, _, _, _ => none
  | n4 + 1, x2, x3, M => (if (M g 0 0) ≤ x3 then (some (x2, M)) else (hp_b (F_X2_minutesHeard g x3 a0 M) (fun r1 M1 => (if r1 < (M1 g 1 4) then (L_X2_knowersOf_4 g a0 n4 x2 (x3 + (1 : Int32)) M1) else (L_X2_knowersOf_4 g a0 n4 (x2 ||| ((1 : Int32) <<< (x3 &&& 31))) (x3 + (1 : Int32)) M1)))))
def F_X2_knowersOf (g : Nat) (a0 : Int32) (M : hp_M) : Option (Int32 × hp_M) := (L_X2_knowersOf_4 g a0 hp_fu (0 : Int32) (0 : Int32) M)
set_option maxRecDepth 20000 in
set_option maxHeartbeats 4000000 in
theorem c_X2_knowersOf (l : Launch) (g : Nat) (a0 : Int32) (hg : g < 12) (M : hp_M) : hp_Ct l yX2_knowersOf cX2_knowersOf 4 (some .int) 1 hp_IC (fun adr adV => [.ref (adr g 0), .int a0]) hp_oi M (F_X2_knowersOf g a0 M) := by
  refine hp_start "HallPhone$House" (fun adr adV => [(0, .ref (adr g 0)), (1, .int a0)]) (by decide) rfl (fun _ _ => by simp only [lg_sl]; exact Nat.le_of_ble_eq_true rfl) (fun _ _ => rfl) ?_
  intro p e s m args below meth c A D ids adr adV cA rep G0 hI hC hr
  unfold F_X2_knowersOf
  have l4 : ∀  (n4 : Nat) (x2 : Int32) (x3 : Int32) (M : hp_M), hp_Z p l e (hp_rm 1) s m args below meth c 4 A D ids adr adV cA 0 0 (MQ below (hp_Q A D ids adr adV cA rep hp_oi G0) args s 0 0 A) G0 rep 4 [(0, .ref (adr g 0)), (1, .int a0), (2, .int x2), (3, .int x3)] [] M (L_X2_knowersOf_4 g a0 n4 x2 x3 M) := by
    intro  n4
    induction n4 with
    | zero => intro x2 x3 M; exact hz_none hC
    | succ n4 ih4 =>
      intro x2 x3 M
      rw [L_X2_knowersOf_4.eq_2]
      refine hz_iload_n (a := 3) (n := 5) hC dX2_knowersOf_4 rfl rfl rfl ?_
      refine hz_aload_n (a := 0) (n := 6) hC dX2_knowersOf_5 rfl rfl rfl ?_
      refine fg_X2_9 (n := 9) hC hg hI dX2_knowersOf_6 rfl ?_
      refine hz_icmp_ge (tgt := 39) (n := 12) hC dX2_knowersOf_9 (by decide) rfl (fun _ => ?_) (fun _ => ?_)
      · refine hz_iload_n (a := 2) (n := 40) hC dX2_knowersOf_39 rfl rfl rfl ?_
        exact hz_iret hC hr dX2_knowersOf_40
      · refine hz_aload_n (a := 0) (n := 13) hC dX2_knowersOf_12 rfl rfl rfl ?_
        refine hz_iload_n (a := 3) (n := 14) hC dX2_knowersOf_13 rfl rfl rfl ?_
        refine hz_iload_n (a := 1) (n := 15) hC dX2_knowersOf_14 rfl rfl rfl ?_
        refine hz_callV (k := 2) (As := [.int x3, .int a0]) (st := []) (S1 := fun r => .int r :: []) (n := 18) hC (c_X2_minutesHeard l g x3 a0 hg  M) kv_X2_minutesHeard wd_3_107 hI dX2_knowersOf_15 rfl (hI.1 g 0 hg (by decide)) (he_X2 hg) rfl rfl rfl (Nat.le_of_ble_eq_true rfl) ⟨Nat.le_of_ble_eq_true rfl, Nat.le_of_ble_eq_true rfl⟩ ⟨Nat.zero_le _, Nat.zero_le _⟩ (fun _ => rfl) rfl (fun r1 M1 _ => ?_)
        refine hz_aload_n (a := 0) (n := 19) hC dX2_knowersOf_18 rfl rfl rfl ?_
        refine fg_X2_21 (n := 22) hC hg hI dX2_knowersOf_19 rfl ?_
        refine hz_iconst (v := (4 : Int32)) (n := 23) hC dX2_knowersOf_22 (by decide +kernel) rfl ?_
        refine hz_ialdc (k := 4) (n := 24) hC (by decide +kernel) (by decide) dX2_knowersOf_23 (hI.1 g 1 hg (by decide)) (ha_h1 hg) rfl ?_
        refine hz_icmp_lt (tgt := 33) (n := 27) hC dX2_knowersOf_24 (by decide) rfl (fun _ => ?_) (fun _ => ?_)
        · refine hz_iinc (a := 3) (v := (x3 + (1 : Int32))) (L' := [(3, .int (x3 + (1 : Int32))), (0, .ref (adr g 0)), (1, .int a0), (2, .int x2)]) (n := 36) hC dX2_knowersOf_33 rfl rfl (by decide) rfl rfl ?_
          refine hz_goto (n := 4) hC dX2_knowersOf_36 (by decide) ?_
          refine hz_L (L' := [(0, .ref (adr g 0)), (1, .int a0), (2, .int x2), (3, .int (x3 + (1 : Int32)))]) [1, 2, 3, 0] rfl ?_
          exact ih4 _ _ _
        · refine hz_iload_n (a := 2) (n := 28) hC dX2_knowersOf_27 rfl rfl rfl ?_
          refine hz_iconst (v := (1 : Int32)) (n := 29) hC dX2_knowersOf_28 (by decide +kernel) rfl ?_
          refine hz_iload_n (a := 3) (n := 30) hC dX2_knowersOf_29 rfl rfl rfl ?_
          refine hz_ishl (n := 31) hC dX2_knowersOf_30 rfl ?_
          refine hz_ior (n := 32) hC dX2_knowersOf_31 rfl ?_
          refine hz_istore_n (L' := [(2, .int (x2 ||| ((1 : Int32) <<< (x3 &&& 31)))), (0, .ref (adr g 0)), (1, .int a0), (3, .int x3)]) (n := 33) hC dX2_knowersOf_32 rfl (by decide) rfl rfl ?_
          refine hz_iinc (a := 3) (v := (x3 + (1 : Int32))) (L' := [(3, .int (x3 + (1 : Int32))), (2, .int (x2 ||| ((1 : Int32) <<< (x3 &&& 31)))), (0, .ref (adr g 0)), (1, .int a0)]) (n := 36) hC dX2_knowersOf_33 rfl rfl (by decide) rfl rfl ?_
          refine hz_goto (n := 4) hC dX2_knowersOf_36 (by decide) ?_
          refine hz_L (L' := [(0, .ref (adr g 0)), (1, .int a0), (2, .int (x2 ||| ((1 : Int32) <<< (x3 &&& 31)))), (3, .int (x3 + (1 : Int32)))]) [2, 3, 1, 0] rfl ?_
          exact ih4 _ _ _
  refine hz_iconst (v := (0 : Int32)) (n := 1) hC dX2_knowersOf_0 (by decide +kernel) rfl ?_
  refine hz_istore_n (L' := [(2, .int (0 : Int32)), (0, .ref (adr g 0)), (1, .int a0)]) (n := 2) hC dX2_knowersOf_1 rfl (by decide) rfl rfl ?_
  refine hz_iconst (v := (0 : Int32)) (n := 3) hC dX2_knowersOf_2 (by decide +kernel) rfl ?_
  refine hz_istore_n (L' := [(3, .int (0 : Int32)), (2, .int (0 : Int32)), (0, .ref (adr g 0)), (1, .int a0)]) (n := 4) hC dX2_knowersOf_3 rfl (by decide) rfl rfl ?_
  refine hz_L (L' := [(0, .ref (adr g 0)), (1, .int a0), (2, .int (0 : Int32)), (3, .int (0 : Int32))]) [2, 3, 1, 0] rfl ?_
  exact l4 hp_fu _ _ _
def L_X2_knownTo_4 (g : Nat) (a0 : Int32)   : Nat → Int32 → Int32 → hp_M → Option (Int32 × hp_M)
  | 0, _, _, _ => none
  | n4 + 1, x2, x3, M => (if (M g 0 0) ≤ x3 then (some (x2, M)) else (hp_b (F_X2_minutesHeard g a0 x3 M) (fun r1 M1 => (if r1 < (M1 g 1 4) then (L_X2_knownTo_4 g a0 n4 x2 (x3 + (1 : Int32)) M1) else (L_X2_knownTo_4 g a0 n4 (x2 ||| ((1 : Int32) <<< (x3 &&& 31))) (x3 + (1 : Int32)) M1)))))
def F_X2_knownTo (g : Nat) (a0 : Int32) (M : hp_M) : Option (Int32 × hp_M) := (L_X2_knownTo_4 g a0 hp_fu (0 : Int32) (0 : Int32) M)
set_option maxRecDepth 20000 in
set_option maxHeartbeats 4000000 in
theorem c_X2_knownTo (l : Launch) (g : Nat) (a0 : Int32) (hg : g < 12) (M : hp_M) : hp_Ct l yX2_knownTo cX2_knownTo 4 (some .int) 1 hp_IC (fun adr adV => [.ref (adr g 0), .int a0]) hp_oi M (F_X2_knownTo g a0 M) := by
  refine hp_start "HallPhone$House" (fun adr adV => [(0, .ref (adr g 0)), (1, .int a0)]) (by decide) rfl (fun _ _ => by simp only [lg_sl]; exact Nat.le_of_ble_eq_true rfl) (fun _ _ => rfl) ?_
  intro p e s m args below meth c A D ids adr adV cA rep G0 hI hC hr
  unfold F_X2_knownTo
  have l4 : ∀  (n4 : Nat) (x2 : Int32) (x3 : Int32) (M : hp_M), hp_Z p l e (hp_rm 1) s m args below meth c 4 A D ids adr adV cA 0 0 (MQ below (hp_Q A D ids adr adV cA rep hp_oi G0) args s 0 0 A) G0 rep 4 [(0, .ref (adr g 0)), (1, .int a0), (2, .int x2), (3, .int x3)] [] M (L_X2_knownTo_4 g a0 n4 x2 x3 M) := by
    intro  n4
    induction n4 with
    | zero => intro x2 x3 M; exact hz_none hC
    | succ n4 ih4 =>
      intro x2 x3 M
      rw [L_X2_knownTo_4.eq_2]
      refine hz_iload_n (a := 3) (n := 5) hC dX2_knownTo_4 rfl rfl rfl ?_
      refine hz_aload_n (a := 0) (n := 6) hC dX2_knownTo_5 rfl rfl rfl ?_
      refine fg_X2_9 (n := 9) hC hg hI dX2_knownTo_6 rfl ?_
      refine hz_icmp_ge (tgt := 39) (n := 12) hC dX2_knownTo_9 (by decide) rfl (fun _ => ?_) (fun _ => ?_)
      · refine hz_iload_n (a := 2) (n := 40) hC dX2_knownTo_39 rfl rfl rfl ?_
        exact hz_iret hC hr dX2_knownTo_40
      · refine hz_aload_n (a := 0) (n := 13) hC dX2_knownTo_12 rfl rfl rfl ?_
        refine hz_iload_n (a := 1) (n := 14) hC dX2_knownTo_13 rfl rfl rfl ?_
        refine hz_iload_n (a := 3) (n := 15) hC dX2_knownTo_14 rfl rfl rfl ?_
        refine hz_callV (k := 2) (As := [.int a0, .int x3]) (st := []) (S1 := fun r => .int r :: []) (n := 18) hC (c_X2_minutesHeard l g a0 x3 hg  M) kv_X2_minutesHeard wd_3_107 hI dX2_knownTo_15 rfl (hI.1 g 0 hg (by decide)) (he_X2 hg) rfl rfl rfl (Nat.le_of_ble_eq_true rfl) ⟨Nat.le_of_ble_eq_true rfl, Nat.le_of_ble_eq_true rfl⟩ ⟨Nat.zero_le _, Nat.zero_le _⟩ (fun _ => rfl) rfl (fun r1 M1 _ => ?_)
        refine hz_aload_n (a := 0) (n := 19) hC dX2_knownTo_18 rfl rfl rfl ?_
        refine fg_X2_21 (n := 22) hC hg hI dX2_knownTo_19 rfl ?_
        refine hz_iconst (v := (4 : Int32)) (n := 23) hC dX2_knownTo_22 (by decide +kernel) rfl ?_
        refine hz_ialdc (k := 4) (n := 24) hC (by decide +kernel) (by decide) dX2_knownTo_23 (hI.1 g 1 hg (by decide)) (ha_h1 hg) rfl ?_
        refine hz_icmp_lt (tgt := 33) (n := 27) hC dX2_knownTo_24 (by decide) rfl (fun _ => ?_) (fun _ => ?_)
        · refine hz_iinc (a := 3) (v := (x3 + (1 : Int32))) (L' := [(3, .int (x3 + (1 : Int32))), (0, .ref (adr g 0)), (1, .int a0), (2, .int x2)]) (n := 36) hC dX2_knownTo_33 rfl rfl (by decide) rfl rfl ?_
          refine hz_goto (n := 4) hC dX2_knownTo_36 (by decide) ?_
          refine hz_L (L' := [(0, .ref (adr g 0)), (1, .int a0), (2, .int x2), (3, .int (x3 + (1 : Int32)))]) [1, 2, 3, 0] rfl ?_
          exact ih4 _ _ _
        · refine hz_iload_n (a := 2) (n := 28) hC dX2_knownTo_27 rfl rfl rfl ?_
          refine hz_iconst (v := (1 : Int32)) (n := 29) hC dX2_knownTo_28 (by decide +kernel) rfl ?_
          refine hz_iload_n (a := 3) (n := 30) hC dX2_knownTo_29 rfl rfl rfl ?_
          refine hz_ishl (n := 31) hC dX2_knownTo_30 rfl ?_
          refine hz_ior (n := 32) hC dX2_knownTo_31 rfl ?_
          refine hz_istore_n (L' := [(2, .int (x2 ||| ((1 : Int32) <<< (x3 &&& 31)))), (0, .ref (adr g 0)), (1, .int a0), (3, .int x3)]) (n := 33) hC dX2_knownTo_32 rfl (by decide) rfl rfl ?_
          refine hz_iinc (a := 3) (v := (x3 + (1 : Int32))) (L' := [(3, .int (x3 + (1 : Int32))), (2, .int (x2 ||| ((1 : Int32) <<< (x3 &&& 31)))), (0, .ref (adr g 0)), (1, .int a0)]) (n := 36) hC dX2_knownTo_33 rfl rfl (by decide) rfl rfl ?_
          refine hz_goto (n := 4) hC dX2_knownTo_36 (by decide) ?_
          refine hz_L (L' := [(0, .ref (adr g 0)), (1, .int a0), (2, .int (x2 ||| ((1 : Int32) <<< (x3 &&& 31)))), (3, .int (x3 + (1 : Int32)))]) [2, 3, 1, 0] rfl ?_
          exact ih4 _ _ _
  refine hz_iconst (v := (0 : Int32)) (n := 1) hC dX2_knownTo_0 (by decide +kernel) rfl ?_
  refine hz_istore_n (L' := [(2, .int (0 : Int32)), (0, .ref (adr g 0)), (1, .int a0)]) (n := 2) hC dX2_knownTo_1 rfl (by decide) rfl rfl ?_
  refine hz_iconst (v := (0 : Int32)) (n := 3) hC dX2_knownTo_2 (by decide +kernel) rfl ?_
  refine hz_istore_n (L' := [(3, .int (0 : Int32)), (2, .int (0 : Int32)), (0, .ref (adr g 0)), (1, .int a0)]) (n := 4) hC dX2_knownTo_3 rfl (by decide) rfl rfl ?_
  refine hz_L (L' := [(0, .ref (adr g 0)), (1, .int a0), (2, .int (0 : Int32)), (3, .int (0 : Int32))]) [2, 3, 1, 0] rfl ?_
  exact l4 hp_fu _ _ _
def F_X2_costOf (g : Nat) (a0 : Int32) (M : hp_M) : Option (Int32 × hp_M) := (if (M g 1 1) ≤ 0 then (some ((0 : Int32), M)) else (if (M g 1 1) = 0 then none else (some (((M g 1 2) * (((a0 + (M g 1 1)) - (1 : Int32)) / (M g 1 1))), M))))
set_option maxRecDepth 20000 in
set_option maxHeartbeats 4000000 in
theorem c_X2_costOf (l : Launch) (g : Nat) (a0 : Int32) (hg : g < 12) (M : hp_M) : hp_Ct l yX2_costOf cX2_costOf 3 (some .int) 0 hp_IC (fun adr adV => [.ref (adr g 0), .int a0]) hp_oi M (F_X2_costOf g a0 M) := by
  refine hp_start "HallPhone$House" (fun adr adV => [(0, .ref (adr g 0)), (1, .int a0)]) (by decide) rfl (fun _ _ => by simp only [lg_sl]; exact Nat.le_of_ble_eq_true rfl) (fun _ _ => rfl) ?_
  intro p e s m args below meth c A D ids adr adV cA rep G0 hI hC hr
  unfold F_X2_costOf
  refine hz_aload_n (a := 0) (n := 1) hC dX2_costOf_0 rfl rfl rfl ?_
  refine fg_X2_21 (n := 4) hC hg hI dX2_costOf_1 rfl ?_
  refine hz_iconst (v := (1 : Int32)) (n := 5) hC dX2_costOf_4 (by decide +kernel) rfl ?_
  refine hz_ialdc (k := 1) (n := 6) hC (by decide +kernel) (by decide) dX2_costOf_5 (hI.1 g 1 hg (by decide)) (ha_h1 hg) rfl ?_
  refine hz_istore_n (L' := [(2, .int (M g 1 1)), (0, .ref (adr g 0)), (1, .int a0)]) (n := 7) hC dX2_costOf_6 rfl (by decide) rfl rfl ?_
  refine hz_iload_n (a := 0) (n := 8) hC dX2_costOf_7 rfl rfl rfl ?_
  refine hz_if_le (tgt := 28) (n := 11) hC dX2_costOf_8 (by decide) rfl (fun _ => ?_) (fun _ => ?_)
  · refine hz_iconst (v := (0 : Int32)) (n := 29) hC dX2_costOf_28 (by decide +kernel) rfl ?_
    exact hz_iret hC hr dX2_costOf_29
  · refine hz_aload_n (a := 1) (n := 12) hC dX2_costOf_11 rfl rfl rfl ?_
    refine fg_X2_21 (n := 15) hC hg hI dX2_costOf_12 rfl ?_
    refine hz_iconst (v := (2 : Int32)) (n := 16) hC dX2_costOf_15 (by decide +kernel) rfl ?_
    refine hz_ialdc (k := 2) (n := 17) hC (by decide +kernel) (by decide) dX2_costOf_16 (hI.1 g 1 hg (by decide)) (ha_h1 hg) rfl ?_
    refine hz_iload_n (a := 2) (n := 18) hC dX2_costOf_17 rfl rfl rfl ?_
    refine hz_iload_n (a := 0) (n := 19) hC dX2_costOf_18 rfl rfl rfl ?_
    refine hz_iadd (n := 20) hC dX2_costOf_19 rfl ?_
    refine hz_iconst (v := (1 : Int32)) (n := 21) hC dX2_costOf_20 (by decide +kernel) rfl ?_
    refine hz_isub (n := 22) hC dX2_costOf_21 rfl ?_
    refine hz_iload_n (a := 0) (n := 23) hC dX2_costOf_22 rfl rfl rfl ?_
    refine hz_idiv (n := 24) hC dX2_costOf_23 rfl (fun _ => ?_)
    refine hz_imul (n := 25) hC dX2_costOf_24 rfl ?_
    refine hz_goto (n := 29) hC dX2_costOf_25 (by decide) ?_
    exact hz_iret hC hr dX2_costOf_29
def F_X2_reasonOf (g : Nat) (a0 : Int32) (M : hp_M) : Option (Int32 × hp_M) := (hp_b (F_X2_get g a0 (2 : Int32) M) (fun r1 M1 => (if r1 = (0 : Int32) then (some ((1 : Int32), M1)) else (if r1 = (1 : Int32) then (some ((2 : Int32), M1)) else (if r1 = (2 : Int32) then (if (M1 g 5 0) = (2 : Int32) then (some ((3 : Int32), M1)) else (if (M1 g 5 0) = (1 : Int32) then (some ((4 : Int32), M1)) else (some ((5 : Int32), M1)))) else (if r1 = (3 : Int32) then (some ((0 : Int32), M1)) else (if (M1 g 5 0) = (2 : Int32) then (some ((3 : Int32), M1)) else (if (M1 g 5 0) = (1 : Int32) then (some ((4 : Int32), M1)) else (some ((5 : Int32), M1))))))))))
set_option maxRecDepth 20000 in
set_option maxHeartbeats 4000000 in
theorem c_X2_reasonOf (l : Launch) (g : Nat) (a0 : Int32) (hg : g < 12) (M : hp_M) : hp_Ct l yX2_reasonOf cX2_reasonOf 2 (some .int) 1 hp_IC (fun adr adV => [.ref (adr g 0), .int a0]) hp_oi M (F_X2_reasonOf g a0 M) := by
  refine hp_start "HallPhone$House" (fun adr adV => [(0, .ref (adr g 0)), (1, .int a0)]) (by decide) rfl (fun _ _ => by simp only [lg_sl]; exact Nat.le_of_ble_eq_true rfl) (fun _ _ => rfl) ?_
  intro p e s m args below meth c A D ids adr adV cA rep G0 hI hC hr
  unfold F_X2_reasonOf
  refine hz_aload_n (a := 0) (n := 1) hC dX2_reasonOf_0 rfl rfl rfl ?_
  refine hz_iload_n (a := 1) (n := 2) hC dX2_reasonOf_1 rfl rfl rfl ?_
  refine hz_iconst (v := (2 : Int32)) (n := 3) hC dX2_reasonOf_2 (by decide +kernel) rfl ?_
  refine hz_callV (k := 2) (As := [.int a0, .int (2 : Int32)]) (st := []) (S1 := fun r => .int r :: []) (n := 6) hC (c_X2_get l g a0 (2 : Int32) hg  M) kv_X2_get wd_2_148 hI dX2_reasonOf_3 rfl (hI.1 g 0 hg (by decide)) (he_X2 hg) rfl rfl rfl (Nat.le_of_ble_eq_true rfl) ⟨Nat.le_of_ble_eq_true rfl, Nat.le_of_ble_eq_true rfl⟩ ⟨Nat.zero_le _, Nat.zero_le _⟩ (fun _ => rfl) rfl (fun r1 M1 _ => ?_)
  refine hz_case (fun hk0 => ?_) (fun hk0 => ?_)
  · refine hz_tabIn (n := 38) hC hk0 dX2_reasonOf_6 (by decide +kernel) (by decide +kernel) (by rfl) (by decide +kernel) ?_
    refine hz_iconst (v := (1 : Int32)) (n := 39) hC dX2_reasonOf_38 (by decide +kernel) rfl ?_
    exact hz_iret hC hr dX2_reasonOf_39
  refine hz_case (fun hk1 => ?_) (fun hk1 => ?_)
  · refine hz_tabIn (n := 40) hC hk1 dX2_reasonOf_6 (by decide +kernel) (by decide +kernel) (by rfl) (by decide +kernel) ?_
    refine hz_iconst (v := (2 : Int32)) (n := 41) hC dX2_reasonOf_40 (by decide +kernel) rfl ?_
    exact hz_iret hC hr dX2_reasonOf_41
  refine hz_case (fun hk2 => ?_) (fun hk2 => ?_)
  · refine hz_tabIn (n := 42) hC hk2 dX2_reasonOf_6 (by decide +kernel) (by decide +kernel) (by rfl) (by decide +kernel) ?_
    refine hz_aload_n (a := 0) (n := 43) hC dX2_reasonOf_42 rfl rfl rfl ?_
    refine fg_X2_37 (n := 46) hC hg hI dX2_reasonOf_43 rfl ?_
    refine fg_X2_93 (n := 49) hC hg hI dX2_reasonOf_46 rfl ?_
    refine hz_iconst (v := (2 : Int32)) (n := 50) hC dX2_reasonOf_49 (by decide +kernel) rfl ?_
    refine hz_icmp_ne (tgt := 57) (n := 53) hC dX2_reasonOf_50 (by decide) rfl (fun _ => ?_) (fun _ => ?_)
    · refine hz_iconst (v := (3 : Int32)) (n := 54) hC dX2_reasonOf_53 (by decide +kernel) rfl ?_
      refine hz_goto (n := 73) hC dX2_reasonOf_54 (by decide) ?_
      exact hz_iret hC hr dX2_reasonOf_73
    · refine hz_aload_n (a := 0) (n := 58) hC dX2_reasonOf_57 rfl rfl rfl ?_
      refine fg_X2_37 (n := 61) hC hg hI dX2_reasonOf_58 rfl ?_
      refine fg_X2_93 (n := 64) hC hg hI dX2_reasonOf_61 rfl ?_
      refine hz_iconst (v := (1 : Int32)) (n := 65) hC dX2_reasonOf_64 (by decide +kernel) rfl ?_
      refine hz_icmp_ne (tgt := 72) (n := 68) hC dX2_reasonOf_65 (by decide) rfl (fun _ => ?_) (fun _ => ?_)
      · refine hz_iconst (v := (4 : Int32)) (n := 69) hC dX2_reasonOf_68 (by decide +kernel) rfl ?_
        refine hz_goto (n := 73) hC dX2_reasonOf_69 (by decide) ?_
        exact hz_iret hC hr dX2_reasonOf_73
      · refine hz_iconst (v := (5 : Int32)) (n := 73) hC dX2_reasonOf_72 (by decide +kernel) rfl ?_
        exact hz_iret hC hr dX2_reasonOf_73
  refine hz_case (fun hk3 => ?_) (fun hk3 => ?_)
  · refine hz_tabIn (n := 36) hC hk3 dX2_reasonOf_6 (by decide +kernel) (by decide +kernel) (by rfl) (by decide +kernel) ?_
    refine hz_iconst (v := (0 : Int32)) (n := 37) hC dX2_reasonOf_36 (by decide +kernel) rfl ?_
    exact hz_iret hC hr dX2_reasonOf_37
  refine hz_tabOut (n := 42) hC (hp_out 4 (by decide) (fun k hk => by
    rcases (show k = 0 ∨ k = 1 ∨ k = 2 ∨ k = 3 by omega) with rfl | rfl | rfl | rfl
    · exact fun e => hk0 (Int32.toInt_inj.mp (e.trans (by decide +kernel)))
    · exact fun e => hk1 (Int32.toInt_inj.mp (e.trans (by decide +kernel)))
    · exact fun e => hk2 (Int32.toInt_inj.mp (e.trans (by decide +kernel)))
    · exact fun e => hk3 (Int32.toInt_inj.mp (e.trans (by decide +kernel)))
    )) dX2_reasonOf_6 (by decide +kernel) ?_
  refine hz_aload_n (a := 0) (n := 43) hC dX2_reasonOf_42 rfl rfl rfl ?_
  refine fg_X2_37 (n := 46) hC hg hI dX2_reasonOf_43 rfl ?_
  refine fg_X2_93 (n := 49) hC hg hI dX2_reasonOf_46 rfl ?_
  refine hz_iconst (v := (2 : Int32)) (n := 50) hC dX2_reasonOf_49 (by decide +kernel) rfl ?_
  refine hz_icmp_ne (tgt := 57) (n := 53) hC dX2_reasonOf_50 (by decide) rfl (fun _ => ?_) (fun _ => ?_)
  · refine hz_iconst (v := (3 : Int32)) (n := 54) hC dX2_reasonOf_53 (by decide +kernel) rfl ?_
    refine hz_goto (n := 73) hC dX2_reasonOf_54 (by decide) ?_
    exact hz_iret hC hr dX2_reasonOf_73
  · refine hz_aload_n (a := 0) (n := 58) hC dX2_reasonOf_57 rfl rfl rfl ?_
    refine fg_X2_37 (n := 61) hC hg hI dX2_reasonOf_58 rfl ?_
    refine fg_X2_93 (n := 64) hC hg hI dX2_reasonOf_61 rfl ?_
    refine hz_iconst (v := (1 : Int32)) (n := 65) hC dX2_reasonOf_64 (by decide +kernel) rfl ?_
    refine hz_icmp_ne (tgt := 72) (n := 68) hC dX2_reasonOf_65 (by decide) rfl (fun _ => ?_) (fun _ => ?_)
    · refine hz_iconst (v := (4 : Int32)) (n := 69) hC dX2_reasonOf_68 (by decide +kernel) rfl ?_
      refine hz_goto (n := 73) hC dX2_reasonOf_69 (by decide) ?_
      exact hz_iret hC hr dX2_reasonOf_73
    · refine hz_iconst (v := (5 : Int32)) (n := 73) hC dX2_reasonOf_72 (by decide +kernel) rfl ?_
      exact hz_iret hC hr dX2_reasonOf_73
def F_X2_causeOf (g : Nat) (a0 : Int32) (a1 : Int32) (M : hp_M) : Option (Int32 × hp_M) := (if a1 = (0 : Int32) then (some ((M g 5 2), M)) else (if a1 = (1 : Int32) then (hp_b (F_X6_countFor g a0 M) (fun r1 M1 => (some (r1, M1)))) else (if a1 = (2 : Int32) then (hp_b (F_X2_get g a0 (3 : Int32) M) (fun r2 M2 => (some (r2, M2)))) else (if a1 = (3 : Int32) then (some ((M g 5 1), M)) else (if a1 = (4 : Int32) then (some ((M g 5 1), M)) else (if a1 = (5 : Int32) then (hp_b (F_X4_placeOf g a0 M) (fun r3 M3 => (some (r3, M3)))) else (some ((M g 5 1), M))))))))
set_option maxRecDepth 20000 in
set_option maxHeartbeats 4000000 in
theorem c_X2_causeOf (l : Launch) (g : Nat) (a0 : Int32) (a1 : Int32) (hg : g < 12) (M : hp_M) : hp_Ct l yX2_causeOf cX2_causeOf 3 (some .int) 2 hp_IC (fun adr adV => [.ref (adr g 0), .int a0, .int a1]) hp_oi M (F_X2_causeOf g a0 a1 M) := by
  refine hp_start "HallPhone$House" (fun adr adV => [(0, .ref (adr g 0)), (1, .int a0), (2, .int a1)]) (by decide) rfl (fun _ _ => by simp only [lg_sl]; exact Nat.le_of_ble_eq_true rfl) (fun _ _ => rfl) ?_
  intro p e s m args below meth c A D ids adr adV cA rep G0 hI hC hr
  unfold F_X2_causeOf
  refine hz_iload_n (a := 2) (n := 1) hC dX2_causeOf_0 rfl rfl rfl ?_
  refine hz_case (fun hk0 => ?_) (fun hk0 => ?_)
  · refine hz_tabIn (n := 40) hC hk0 dX2_causeOf_1 (by decide +kernel) (by decide +kernel) (by rfl) (by decide +kernel) ?_
    refine hz_aload_n (a := 0) (n := 41) hC dX2_causeOf_40 rfl rfl rfl ?_
    refine fg_X2_37 (n := 44) hC hg hI dX2_causeOf_41 rfl ?_
    refine fg_X2_99 (n := 47) hC hg hI dX2_causeOf_44 rfl ?_
    exact hz_iret hC hr dX2_causeOf_47
  refine hz_case (fun hk1 => ?_) (fun hk1 => ?_)
  · refine hz_tabIn (n := 48) hC hk1 dX2_causeOf_1 (by decide +kernel) (by decide +kernel) (by rfl) (by decide +kernel) ?_
    refine hz_aload_n (a := 0) (n := 49) hC dX2_causeOf_48 rfl rfl rfl ?_
    refine fg_X2_51 (n := 52) hC hg hI dX2_causeOf_49 rfl ?_
    refine hz_iload_n (a := 1) (n := 53) hC dX2_causeOf_52 rfl rfl rfl ?_
    refine hz_callVN (k := 1) (As := [.int a0]) (st := []) (S1 := fun r => .int r :: []) (n := 56) hC (c_X6_countFor l g a0 hg  M) kv_X6_countFor wd_5_72 hI dX2_causeOf_53 rfl (hI.1 g 8 hg (by decide)) (he_X6 hg) rfl rfl rfl (Nat.le_of_ble_eq_true rfl) ⟨Nat.le_of_ble_eq_true rfl, Nat.le_of_ble_eq_true rfl⟩ ⟨Nat.zero_le _, Nat.zero_le _⟩ (fun _ => rfl) rfl (fun r1 M1 _ => ?_)
    exact hz_iret hC hr dX2_causeOf_56
  refine hz_case (fun hk2 => ?_) (fun hk2 => ?_)
  · refine hz_tabIn (n := 57) hC hk2 dX2_causeOf_1 (by decide +kernel) (by decide +kernel) (by rfl) (by decide +kernel) ?_
    refine hz_aload_n (a := 0) (n := 58) hC dX2_causeOf_57 rfl rfl rfl ?_
    refine hz_iload_n (a := 1) (n := 59) hC dX2_causeOf_58 rfl rfl rfl ?_
    refine hz_iconst (v := (3 : Int32)) (n := 60) hC dX2_causeOf_59 (by decide +kernel) rfl ?_
    refine hz_callV (k := 2) (As := [.int a0, .int (3 : Int32)]) (st := []) (S1 := fun r => .int r :: []) (n := 63) hC (c_X2_get l g a0 (3 : Int32) hg  M) kv_X2_get wd_2_148 hI dX2_causeOf_60 rfl (hI.1 g 0 hg (by decide)) (he_X2 hg) rfl rfl rfl (Nat.le_of_ble_eq_true rfl) ⟨Nat.le_of_ble_eq_true rfl, Nat.le_of_ble_eq_true rfl⟩ ⟨Nat.zero_le _, Nat.zero_le _⟩ (fun _ => rfl) rfl (fun r2 M2 _ => ?_)
    exact hz_iret hC hr dX2_causeOf_63
  refine hz_case (fun hk3 => ?_) (fun hk3 => ?_)
  · refine hz_tabIn (n := 73) hC hk3 dX2_causeOf_1 (by decide +kernel) (by decide +kernel) (by rfl) (by decide +kernel) ?_
    refine hz_aload_n (a := 0) (n := 74) hC dX2_causeOf_73 rfl rfl rfl ?_
    refine fg_X2_37 (n := 77) hC hg hI dX2_causeOf_74 rfl ?_
    refine fg_X2_96 (n := 80) hC hg hI dX2_causeOf_77 rfl ?_
    exact hz_iret hC hr dX2_causeOf_80
  refine hz_case (fun hk4 => ?_) (fun hk4 => ?_)
  · refine hz_tabIn (n := 73) hC hk4 dX2_causeOf_1 (by decide +kernel) (by decide +kernel) (by rfl) (by decide +kernel) ?_
    refine hz_aload_n (a := 0) (n := 74) hC dX2_causeOf_73 rfl rfl rfl ?_
    refine fg_X2_37 (n := 77) hC hg hI dX2_causeOf_74 rfl ?_
    refine fg_X2_96 (n := 80) hC hg hI dX2_causeOf_77 rfl ?_
    exact hz_iret hC hr dX2_causeOf_80
  refine hz_case (fun hk5 => ?_) (fun hk5 => ?_)
  · refine hz_tabIn (n := 64) hC hk5 dX2_causeOf_1 (by decide +kernel) (by decide +kernel) (by rfl) (by decide +kernel) ?_
    refine hz_aload_n (a := 0) (n := 65) hC dX2_causeOf_64 rfl rfl rfl ?_
    refine fg_X2_44 (n := 68) hC hg hI dX2_causeOf_65 rfl ?_
    refine hz_iload_n (a := 1) (n := 69) hC dX2_causeOf_68 rfl rfl rfl ?_
    refine hz_callVN (k := 1) (As := [.int a0]) (st := []) (S1 := fun r => .int r :: []) (n := 72) hC (c_X4_placeOf l g a0 hg  M) kv_X4_placeOf wd_5_71 hI dX2_causeOf_69 rfl (hI.1 g 6 hg (by decide)) (he_X4 hg) rfl rfl rfl (Nat.le_of_ble_eq_true rfl) ⟨Nat.le_of_ble_eq_true rfl, Nat.le_of_ble_eq_true rfl⟩ ⟨Nat.zero_le _, Nat.zero_le _⟩ (fun _ => rfl) rfl (fun r3 M3 _ => ?_)
    exact hz_iret hC hr dX2_causeOf_72
  refine hz_tabOut (n := 73) hC (hp_out 6 (by decide) (fun k hk => by
    rcases (show k = 0 ∨ k = 1 ∨ k = 2 ∨ k = 3 ∨ k = 4 ∨ k = 5 by omega) with rfl | rfl | rfl | rfl | rfl | rfl
    · exact fun e => hk0 (Int32.toInt_inj.mp (e.trans (by decide +kernel)))
    · exact fun e => hk1 (Int32.toInt_inj.mp (e.trans (by decide +kernel)))
    · exact fun e => hk2 (Int32.toInt_inj.mp (e.trans (by decide +kernel)))
    · exact fun e => hk3 (Int32.toInt_inj.mp (e.trans (by decide +kernel)))
    · exact fun e => hk4 (Int32.toInt_inj.mp (e.trans (by decide +kernel)))
    · exact fun e => hk5 (Int32.toInt_inj.mp (e.trans (by decide +kernel)))
    )) dX2_causeOf_1 (by decide +kernel) ?_
  refine hz_aload_n (a := 0) (n := 74) hC dX2_causeOf_73 rfl rfl rfl ?_
  refine fg_X2_37 (n := 77) hC hg hI dX2_causeOf_74 rfl ?_
  refine fg_X2_96 (n := 80) hC hg hI dX2_causeOf_77 rfl ?_
  exact hz_iret hC hr dX2_causeOf_80
def F_X2_connect (g : Nat) (a0 : Int32) (a1 : Int32) (a2 : Int32) (M : hp_M) : Option (Unit × hp_M) := (hp_b (F_X4_leave g a0 M) (fun _ M1 => (hp_b (F_X2_put g a0 (2 : Int32) (3 : Int32) M1) (fun _ M2 => (hp_b (F_X2_put g a0 (4 : Int32) (0 : Int32) M2) (fun _ M3 => (hp_b (F_X3_connect g a0 a1 a2 M3) (fun _ M4 => (some ((), M4))))))))))
set_option maxRecDepth 20000 in
set_option maxHeartbeats 4000000 in
theorem c_X2_connect (l : Launch) (g : Nat) (a0 : Int32) (a1 : Int32) (a2 : Int32) (hg : g < 12) (M : hp_M) : hp_Ct l yX2_connect cX2_connect 4 none 1 hp_IC (fun adr adV => [.ref (adr g 0), .int a0, .int a1, .int a2]) hp_oo M (F_X2_connect g a0 a1 a2 M) := by
  refine hp_start "HallPhone$House" (fun adr adV => [(0, .ref (adr g 0)), (1, .int a0), (2, .int a1), (3, .int a2)]) (by decide) rfl (fun _ _ => by simp only [lg_sl]; exact Nat.le_of_ble_eq_true rfl) (fun _ _ => rfl) ?_
  intro p e s m args below meth c A D ids adr adV cA rep G0 hI hC hr
  unfold F_X2_connect
  refine hz_aload_n (a := 0) (n := 1) hC dX2_connect_0 rfl rfl rfl ?_
  refine fg_X2_44 (n := 4) hC hg hI dX2_connect_1 rfl ?_
  refine hz_iload_n (a := 1) (n := 5) hC dX2_connect_4 rfl rfl rfl ?_
  refine hz_callVN (k := 1) (As := [.int a0]) (st := []) (S1 := fun _ => []) (n := 8) hC (c_X4_leave l g a0 hg  M) kv_X4_leave wd_2_176 hI dX2_connect_5 rfl (hI.1 g 6 hg (by decide)) (he_X4 hg) rfl rfl rfl (Nat.le_of_ble_eq_true rfl) ⟨Nat.le_of_ble_eq_true rfl, Nat.le_of_ble_eq_true rfl⟩ ⟨Nat.zero_le _, Nat.zero_le _⟩ (fun _ => rfl) rfl (fun r1 M1 _ => ?_)
  refine hz_aload_n (a := 0) (n := 9) hC dX2_connect_8 rfl rfl rfl ?_
  refine hz_iload_n (a := 1) (n := 10) hC dX2_connect_9 rfl rfl rfl ?_
  refine hz_iconst (v := (2 : Int32)) (n := 11) hC dX2_connect_10 (by decide +kernel) rfl ?_
  refine hz_iconst (v := (3 : Int32)) (n := 12) hC dX2_connect_11 (by decide +kernel) rfl ?_
  refine hz_callV (k := 3) (As := [.int a0, .int (2 : Int32), .int (3 : Int32)]) (st := []) (S1 := fun _ => []) (n := 15) hC (c_X2_put l g a0 (2 : Int32) (3 : Int32) hg  M1) kv_X2_put wd_2_119 hI dX2_connect_12 rfl (hI.1 g 0 hg (by decide)) (he_X2 hg) rfl rfl rfl (Nat.le_of_ble_eq_true rfl) ⟨Nat.le_of_ble_eq_true rfl, Nat.le_of_ble_eq_true rfl⟩ ⟨Nat.zero_le _, Nat.zero_le _⟩ (fun _ => rfl) rfl (fun r2 M2 _ => ?_)
  refine hz_aload_n (a := 0) (n := 16) hC dX2_connect_15 rfl rfl rfl ?_
  refine hz_iload_n (a := 1) (n := 17) hC dX2_connect_16 rfl rfl rfl ?_
  refine hz_iconst (v := (4 : Int32)) (n := 18) hC dX2_connect_17 (by decide +kernel) rfl ?_
  refine hz_iconst (v := (0 : Int32)) (n := 19) hC dX2_connect_18 (by decide +kernel) rfl ?_
  refine hz_callV (k := 3) (As := [.int a0, .int (4 : Int32), .int (0 : Int32)]) (st := []) (S1 := fun _ => []) (n := 22) hC (c_X2_put l g a0 (4 : Int32) (0 : Int32) hg  M2) kv_X2_put wd_2_119 hI dX2_connect_19 rfl (hI.1 g 0 hg (by decide)) (he_X2 hg) rfl rfl rfl (Nat.le_of_ble_eq_true rfl) ⟨Nat.le_of_ble_eq_true rfl, Nat.le_of_ble_eq_true rfl⟩ ⟨Nat.zero_le _, Nat.zero_le _⟩ (fun _ => rfl) rfl (fun r3 M3 _ => ?_)
  refine hz_aload_n (a := 0) (n := 23) hC dX2_connect_22 rfl rfl rfl ?_
  refine fg_X2_37 (n := 26) hC hg hI dX2_connect_23 rfl ?_
  refine hz_iload_n (a := 1) (n := 27) hC dX2_connect_26 rfl rfl rfl ?_
  refine hz_iload_n (a := 2) (n := 28) hC dX2_connect_27 rfl rfl rfl ?_
  refine hz_iload_n (a := 3) (n := 29) hC dX2_connect_28 rfl rfl rfl ?_
  refine hz_callVN (k := 3) (As := [.int a0, .int a1, .int a2]) (st := []) (S1 := fun _ => []) (n := 32) hC (c_X3_connect l g a0 a1 a2 hg  M3) kv_X3_connect wd_2_204 hI dX2_connect_29 rfl (hI.1 g 5 hg (by decide)) (he_X3 hg) rfl rfl rfl (Nat.le_of_ble_eq_true rfl) ⟨Nat.le_of_ble_eq_true rfl, Nat.le_of_ble_eq_true rfl⟩ ⟨Nat.zero_le _, Nat.zero_le _⟩ (fun _ => rfl) rfl (fun r4 M4 _ => ?_)
  exact hz_vret hC hr dX2_connect_32
def F_X2_isCalled (g : Nat) (a0 : Int32) (M : hp_M) : Option (Int32 × hp_M) := (if (M g 5 0) = (1 : Int32) then (if (M g 5 1) = a0 then (some ((1 : Int32), M)) else (some ((0 : Int32), M))) else (some ((0 : Int32), M)))
set_option maxRecDepth 20000 in
set_option maxHeartbeats 4000000 in
theorem c_X2_isCalled (l : Launch) (g : Nat) (a0 : Int32) (hg : g < 12) (M : hp_M) : hp_Ct l yX2_isCalled cX2_isCalled 2 (some .boolean) 0 hp_IC (fun adr adV => [.ref (adr g 0), .int a0]) hp_oi M (F_X2_isCalled g a0 M) := by
  refine hp_start "HallPhone$House" (fun adr adV => [(0, .ref (adr g 0)), (1, .int a0)]) (by decide) rfl (fun _ _ => by simp only [lg_sl]; exact Nat.le_of_ble_eq_true rfl) (fun _ _ => rfl) ?_
  intro p e s m args below meth c A D ids adr adV cA rep G0 hI hC hr
  unfold F_X2_isCalled
  refine hz_aload_n (a := 0) (n := 1) hC dX2_isCalled_0 rfl rfl rfl ?_
  refine fg_X2_37 (n := 4) hC hg hI dX2_isCalled_1 rfl ?_
  refine fg_X2_93 (n := 7) hC hg hI dX2_isCalled_4 rfl ?_
  refine hz_iconst (v := (1 : Int32)) (n := 8) hC dX2_isCalled_7 (by decide +kernel) rfl ?_
  refine hz_icmp_ne (tgt := 26) (n := 11) hC dX2_isCalled_8 (by decide) rfl (fun _ => ?_) (fun _ => ?_)
  · refine hz_aload_n (a := 0) (n := 12) hC dX2_isCalled_11 rfl rfl rfl ?_
    refine fg_X2_37 (n := 15) hC hg hI dX2_isCalled_12 rfl ?_
    refine fg_X2_96 (n := 18) hC hg hI dX2_isCalled_15 rfl ?_
    refine hz_iload_n (a := 1) (n := 19) hC dX2_isCalled_18 rfl rfl rfl ?_
    refine hz_icmp_ne (tgt := 26) (n := 22) hC dX2_isCalled_19 (by decide) rfl (fun _ => ?_) (fun _ => ?_)
    · refine hz_iconst (v := (1 : Int32)) (n := 23) hC dX2_isCalled_22 (by decide +kernel) rfl ?_
      refine hz_goto (n := 27) hC dX2_isCalled_23 (by decide) ?_
      exact hz_zret hC hr nz_1 dX2_isCalled_27
    · refine hz_iconst (v := (0 : Int32)) (n := 27) hC dX2_isCalled_26 (by decide +kernel) rfl ?_
      exact hz_zret hC hr nz_0 dX2_isCalled_27
  · refine hz_iconst (v := (0 : Int32)) (n := 27) hC dX2_isCalled_26 (by decide +kernel) rfl ?_
    exact hz_zret hC hr nz_0 dX2_isCalled_27
def F_X2_comeDown (g : Nat) (a0 : Int32) (M : hp_M) : Option (Unit × hp_M) := (hp_b (F_X2_get g a0 (2 : Int32) M) (fun r1 M1 => (if r1 = (1 : Int32) then (hp_b (F_X2_get g a0 (3 : Int32) M1) (fun r2 M2 => (hp_b (F_X2_put g a0 (3 : Int32) (r2 - (1 : Int32)) M2) (fun _ M3 => (if (r2 - (1 : Int32)) ≤ 0 then (hp_b (F_X6_wipeFor g a0 M3) (fun r4 M4 => (hp_b (F_X2_isCalled g a0 (hp_p M4 g 2 7 ((M3 g 2 7) + r4))) (fun r5 M5 => (if r5 = 0 then (hp_b (F_X2_put g a0 (2 : Int32) (2 : Int32) M5) (fun _ M6 => (hp_b (F_X4_join g a0 M6) (fun _ M7 => (some ((), M7)))))) else (hp_b (F_X2_connect g a0 (M5 g 5 3) (1 : Int32) M5) (fun _ M8 => (some ((), M8))))))))) else (some ((), M3))))))) else (some ((), M1)))))
set_option maxRecDepth 20000 in
set_option maxHeartbeats 4000000 in
theorem c_X2_comeDown (l : Launch) (g : Nat) (a0 : Int32) (hg : g < 12) (M : hp_M) : hp_Ct l yX2_comeDown cX2_comeDown 3 none 2 hp_IC (fun adr adV => [.ref (adr g 0), .int a0]) hp_oo M (F_X2_comeDown g a0 M) := by
  refine hp_start "HallPhone$House" (fun adr adV => [(0, .ref (adr g 0)), (1, .int a0)]) (by decide) rfl (fun _ _ => by simp only [lg_sl]; exact Nat.le_of_ble_eq_true rfl) (fun _ _ => rfl) ?_
  intro p e s m args below meth c A D ids adr adV cA rep G0 hI hC hr
  unfold F_X2_comeDown
  refine hz_aload_n (a := 0) (n := 1) hC dX2_comeDown_0 rfl rfl rfl ?_
  refine hz_iload_n (a := 1) (n := 2) hC dX2_comeDown_1 rfl rfl rfl ?_
  refine hz_iconst (v := (2 : Int32)) (n := 3) hC dX2_comeDown_2 (by decide +kernel) rfl ?_
  refine hz_callV (k := 2) (As := [.int a0, .int (2 : Int32)]) (st := []) (S1 := fun r => .int r :: []) (n := 6) hC (c_X2_get l g a0 (2 : Int32) hg  M) kv_X2_get wd_2_148 hI dX2_comeDown_3 rfl (hI.1 g 0 hg (by decide)) (he_X2 hg) rfl rfl rfl (Nat.le_of_ble_eq_true rfl) ⟨Nat.le_of_ble_eq_true rfl, Nat.le_of_ble_eq_true rfl⟩ ⟨Nat.zero_le _, Nat.zero_le _⟩ (fun _ => rfl) rfl (fun r1 M1 _ => ?_)
  refine hz_iconst (v := (1 : Int32)) (n := 7) hC dX2_comeDown_6 (by decide +kernel) rfl ?_
  refine hz_icmp_eq (tgt := 11) (n := 10) hC dX2_comeDown_7 (by decide) rfl (fun _ => ?_) (fun _ => ?_)
  · refine hz_aload_n (a := 0) (n := 12) hC dX2_comeDown_11 rfl rfl rfl ?_
    refine hz_iload_n (a := 1) (n := 13) hC dX2_comeDown_12 rfl rfl rfl ?_
    refine hz_iconst (v := (3 : Int32)) (n := 14) hC dX2_comeDown_13 (by decide +kernel) rfl ?_
    refine hz_callV (k := 2) (As := [.int a0, .int (3 : Int32)]) (st := []) (S1 := fun r => .int r :: []) (n := 17) hC (c_X2_get l g a0 (3 : Int32) hg  M1) kv_X2_get wd_2_148 hI dX2_comeDown_14 rfl (hI.1 g 0 hg (by decide)) (he_X2 hg) rfl rfl rfl (Nat.le_of_ble_eq_true rfl) ⟨Nat.le_of_ble_eq_true rfl, Nat.le_of_ble_eq_true rfl⟩ ⟨Nat.zero_le _, Nat.zero_le _⟩ (fun _ => rfl) rfl (fun r2 M2 _ => ?_)
    refine hz_iconst (v := (1 : Int32)) (n := 18) hC dX2_comeDown_17 (by decide +kernel) rfl ?_
    refine hz_isub (n := 19) hC dX2_comeDown_18 rfl ?_
    refine hz_istore_n (L' := [(2, .int (r2 - (1 : Int32))), (0, .ref (adr g 0)), (1, .int a0)]) (n := 20) hC dX2_comeDown_19 rfl (by decide) rfl rfl ?_
    refine hz_aload_n (a := 1) (n := 21) hC dX2_comeDown_20 rfl rfl rfl ?_
    refine hz_iload_n (a := 2) (n := 22) hC dX2_comeDown_21 rfl rfl rfl ?_
    refine hz_iconst (v := (3 : Int32)) (n := 23) hC dX2_comeDown_22 (by decide +kernel) rfl ?_
    refine hz_iload_n (a := 0) (n := 24) hC dX2_comeDown_23 rfl rfl rfl ?_
    refine hz_callV (k := 3) (As := [.int a0, .int (3 : Int32), .int (r2 - (1 : Int32))]) (st := []) (S1 := fun _ => []) (n := 27) hC (c_X2_put l g a0 (3 : Int32) (r2 - (1 : Int32)) hg  M2) kv_X2_put wd_2_119 hI dX2_comeDown_24 rfl (hI.1 g 0 hg (by decide)) (he_X2 hg) rfl rfl rfl (Nat.le_of_ble_eq_true rfl) ⟨Nat.le_of_ble_eq_true rfl, Nat.le_of_ble_eq_true rfl⟩ ⟨Nat.zero_le _, Nat.zero_le _⟩ (fun _ => rfl) rfl (fun r3 M3 _ => ?_)
    refine hz_iload_n (a := 0) (n := 28) hC dX2_comeDown_27 rfl rfl rfl ?_
    refine hz_if_le (tgt := 32) (n := 31) hC dX2_comeDown_28 (by decide) rfl (fun _ => ?_) (fun _ => ?_)
    · refine hz_aload_n (a := 1) (n := 33) hC dX2_comeDown_32 rfl rfl rfl ?_
      refine fg_X2_25 (n := 36) hC hg hI dX2_comeDown_33 rfl ?_
      refine hz_bipush (v := (7 : Int32)) (n := 38) hC dX2_comeDown_36 (by decide +kernel) rfl ?_
      refine hz_dup2 (n := 39) hC dX2_comeDown_38 rfl rfl rfl ?_
      refine hz_ialdc (k := 7) (n := 40) hC (by decide +kernel) (by decide) dX2_comeDown_39 (hI.1 g 2 hg (by decide)) (ha_h2 hg) rfl ?_
      refine hz_aload_n (a := 1) (n := 41) hC dX2_comeDown_40 rfl rfl rfl ?_
      refine fg_X2_51 (n := 44) hC hg hI dX2_comeDown_41 rfl ?_
      refine hz_iload_n (a := 2) (n := 45) hC dX2_comeDown_44 rfl rfl rfl ?_
      refine hz_callVN (k := 1) (As := [.int a0]) (st := [.int (M3 g 2 7), .int (7 : Int32), .ref (adr g 2)]) (S1 := fun r => .int r :: [.int (M3 g 2 7), .int (7 : Int32), .ref (adr g 2)]) (n := 48) hC (c_X6_wipeFor l g a0 hg  M3) kv_X6_wipeFor wd_3_4 hI dX2_comeDown_45 rfl (hI.1 g 8 hg (by decide)) (he_X6 hg) rfl rfl rfl (Nat.le_of_ble_eq_true rfl) ⟨Nat.le_of_ble_eq_true rfl, Nat.le_of_ble_eq_true rfl⟩ ⟨Nat.zero_le _, Nat.zero_le _⟩ (fun _ => rfl) rfl (fun r4 M4 _ => ?_)
      refine hz_iadd (n := 49) hC dX2_comeDown_48 rfl ?_
      refine hz_iastc (k := 7) (n := 50) hC (by decide +kernel) (by decide) dX2_comeDown_49 (hI.1 g 2 hg (by decide)) (ha_h2 hg) rfl ?_
      refine hz_aload_n (a := 1) (n := 51) hC dX2_comeDown_50 rfl rfl rfl ?_
      refine hz_iload_n (a := 2) (n := 52) hC dX2_comeDown_51 rfl rfl rfl ?_
      refine hz_callV (k := 1) (As := [.int a0]) (st := []) (S1 := fun r => .int r :: []) (n := 55) hC (c_X2_isCalled l g a0 hg  (hp_p M4 g 2 7 ((M3 g 2 7) + r4))) kv_X2_isCalled wd_2_160 hI dX2_comeDown_52 rfl (hI.1 g 0 hg (by decide)) (he_X2 hg) rfl rfl rfl (Nat.le_of_ble_eq_true rfl) ⟨Nat.le_of_ble_eq_true rfl, Nat.le_of_ble_eq_true rfl⟩ ⟨Nat.zero_le _, Nat.zero_le _⟩ (fun _ => rfl) rfl (fun r5 M5 _ => ?_)
      refine hz_if_eq (tgt := 74) (n := 58) hC dX2_comeDown_55 (by decide) rfl (fun _ => ?_) (fun _ => ?_)
      · refine hz_aload_n (a := 1) (n := 75) hC dX2_comeDown_74 rfl rfl rfl ?_
        refine hz_iload_n (a := 2) (n := 76) hC dX2_comeDown_75 rfl rfl rfl ?_
        refine hz_iconst (v := (2 : Int32)) (n := 77) hC dX2_comeDown_76 (by decide +kernel) rfl ?_
        refine hz_iconst (v := (2 : Int32)) (n := 78) hC dX2_comeDown_77 (by decide +kernel) rfl ?_
        refine hz_callV (k := 3) (As := [.int a0, .int (2 : Int32), .int (2 : Int32)]) (st := []) (S1 := fun _ => []) (n := 81) hC (c_X2_put l g a0 (2 : Int32) (2 : Int32) hg  M5) kv_X2_put wd_2_119 hI dX2_comeDown_78 rfl (hI.1 g 0 hg (by decide)) (he_X2 hg) rfl rfl rfl (Nat.le_of_ble_eq_true rfl) ⟨Nat.le_of_ble_eq_true rfl, Nat.le_of_ble_eq_true rfl⟩ ⟨Nat.zero_le _, Nat.zero_le _⟩ (fun _ => rfl) rfl (fun r6 M6 _ => ?_)
        refine hz_aload_n (a := 1) (n := 82) hC dX2_comeDown_81 rfl rfl rfl ?_
        refine fg_X2_44 (n := 85) hC hg hI dX2_comeDown_82 rfl ?_
        refine hz_iload_n (a := 2) (n := 86) hC dX2_comeDown_85 rfl rfl rfl ?_
        refine hz_callVN (k := 1) (As := [.int a0]) (st := []) (S1 := fun _ => []) (n := 89) hC (c_X4_join l g a0 hg  M6) kv_X4_join wd_3_8 hI dX2_comeDown_86 rfl (hI.1 g 6 hg (by decide)) (he_X4 hg) rfl rfl rfl (Nat.le_of_ble_eq_true rfl) ⟨Nat.le_of_ble_eq_true rfl, Nat.le_of_ble_eq_true rfl⟩ ⟨Nat.zero_le _, Nat.zero_le _⟩ (fun _ => rfl) rfl (fun r7 M7 _ => ?_)
        exact hz_vret hC hr dX2_comeDown_89
      · refine hz_aload_n (a := 1) (n := 59) hC dX2_comeDown_58 rfl rfl rfl ?_
        refine hz_iload_n (a := 2) (n := 60) hC dX2_comeDown_59 rfl rfl rfl ?_
        refine hz_aload_n (a := 1) (n := 61) hC dX2_comeDown_60 rfl rfl rfl ?_
        refine fg_X2_37 (n := 64) hC hg hI dX2_comeDown_61 rfl ?_
        refine fg_X2_102 (n := 67) hC hg hI dX2_comeDown_64 rfl ?_
        refine hz_iconst (v := (1 : Int32)) (n := 68) hC dX2_comeDown_67 (by decide +kernel) rfl ?_
        refine hz_callV (k := 3) (As := [.int a0, .int (M5 g 5 3), .int (1 : Int32)]) (st := []) (S1 := fun _ => []) (n := 71) hC (c_X2_connect l g a0 (M5 g 5 3) (1 : Int32) hg  M5) kv_X2_connect wd_2_200 hI dX2_comeDown_68 rfl (hI.1 g 0 hg (by decide)) (he_X2 hg) rfl rfl rfl (Nat.le_of_ble_eq_true rfl) ⟨Nat.le_of_ble_eq_true rfl, Nat.le_of_ble_eq_true rfl⟩ ⟨Nat.zero_le _, Nat.zero_le _⟩ (fun _ => rfl) rfl (fun r8 M8 _ => ?_)
        refine hz_goto (n := 89) hC dX2_comeDown_71 (by decide) ?_
        exact hz_vret hC hr dX2_comeDown_89
    · exact hz_vret hC hr dX2_comeDown_31
  · exact hz_vret hC hr dX2_comeDown_10
def L_X2_countWaiting_2 (g : Nat)   : Nat → Int32 → hp_M → Option (Unit × hp_M)
  | 0, _, _ => none
  | n2 + 1, x1, M => (if (M g 6 1) ≤ x1 then (some ((), M)) else (hp_b (F_X4_at g x1 M) (fun r1 M1 => (hp_b (F_X2_get g r1 (10 : Int32) M1) (fun r2 M2 => (hp_b (F_X2_put g r1 (10 : Int32) (r2 + (1 : Int32)) M2) (fun _ M3 => (L_X2_countWaiting_2 g n2 (x1 + (1 : Int32)) M3))))))))
def F_X2_countWaiting (g : Nat) (M : hp_M) : Option (Unit × hp_M) := (L_X2_countWaiting_2 g hp_fu (0 : Int32) M)
set_option maxRecDepth 20000 in
set_option maxHeartbeats 4000000 in
theorem c_X2_countWaiting (l : Launch) (g : Nat) (hg : g < 12) (M : hp_M) : hp_Ct l yX2_countWaiting cX2_countWaiting 3 none 1 hp_IC (fun adr adV => [.ref (adr g 0)]) hp_oo M (F_X2_countWaiting g M) := by
  refine hp_start "HallPhone$House" (fun adr adV => [(0, .ref (adr g 0))]) (by decide) rfl (fun _ _ => by simp only [lg_sl]; exact Nat.le_of_ble_eq_true rfl) (fun _ _ => rfl) ?_
  intro p e s m args below meth c A D ids adr adV cA rep G0 hI hC hr
  unfold F_X2_countWaiting
  have l2 : ∀  (n2 : Nat) (x1 : Int32) (M : hp_M), hp_Z p l e (hp_rm 1) s m args below meth c 3 A D ids adr adV cA 0 0 (MQ below (hp_Q A D ids adr adV cA rep hp_oo G0) args s 0 0 A) G0 rep 2 [(0, .ref (adr g 0)), (1, .int x1)] [] M (L_X2_countWaiting_2 g n2 x1 M) := by
    intro  n2
    induction n2 with
    | zero => intro x1 M; exact hz_none hC
    | succ n2 ih2 =>
      intro x1 M
      rw [L_X2_countWaiting_2.eq_2]
      refine hz_iload_n (a := 1) (n := 3) hC dX2_countWaiting_2 rfl rfl rfl ?_
      refine hz_aload_n (a := 0) (n := 4) hC dX2_countWaiting_3 rfl rfl rfl ?_
      refine fg_X2_44 (n := 7) hC hg hI dX2_countWaiting_4 rfl ?_
      refine fg_X2_71 (n := 10) hC hg hI dX2_countWaiting_7 rfl ?_
      refine hz_icmp_ge (tgt := 44) (n := 13) hC dX2_countWaiting_10 (by decide) rfl (fun _ => ?_) (fun _ => ?_)
      · exact hz_vret hC hr dX2_countWaiting_44
      · refine hz_aload_n (a := 0) (n := 14) hC dX2_countWaiting_13 rfl rfl rfl ?_
        refine fg_X2_44 (n := 17) hC hg hI dX2_countWaiting_14 rfl ?_
        refine hz_iload_n (a := 1) (n := 18) hC dX2_countWaiting_17 rfl rfl rfl ?_
        refine hz_callVN (k := 1) (As := [.int x1]) (st := []) (S1 := fun r => .int r :: []) (n := 21) hC (c_X4_at l g x1 hg  M) kv_X4_at wd_3_16 hI dX2_countWaiting_18 rfl (hI.1 g 6 hg (by decide)) (he_X4 hg) rfl rfl rfl (Nat.le_of_ble_eq_true rfl) ⟨Nat.le_of_ble_eq_true rfl, Nat.le_of_ble_eq_true rfl⟩ ⟨Nat.zero_le _, Nat.zero_le _⟩ (fun _ => rfl) rfl (fun r1 M1 _ => ?_)
        refine hz_istore_n (L' := [(2, .int r1), (0, .ref (adr g 0)), (1, .int x1)]) (n := 22) hC dX2_countWaiting_21 rfl (by decide) rfl rfl ?_
        refine hz_aload_n (a := 1) (n := 23) hC dX2_countWaiting_22 rfl rfl rfl ?_
        refine hz_iload_n (a := 0) (n := 24) hC dX2_countWaiting_23 rfl rfl rfl ?_
        refine hz_bipush (v := (10 : Int32)) (n := 26) hC dX2_countWaiting_24 (by decide +kernel) rfl ?_
        refine hz_aload_n (a := 1) (n := 27) hC dX2_countWaiting_26 rfl rfl rfl ?_
        refine hz_iload_n (a := 0) (n := 28) hC dX2_countWaiting_27 rfl rfl rfl ?_
        refine hz_bipush (v := (10 : Int32)) (n := 30) hC dX2_countWaiting_28 (by decide +kernel) rfl ?_
        refine hz_callV (k := 2) (As := [.int r1, .int (10 : Int32)]) (st := [.int (10 : Int32), .int r1, .ref (adr g 0)]) (S1 := fun r => .int r :: [.int (10 : Int32), .int r1, .ref (adr g 0)]) (n := 33) hC (c_X2_get l g r1 (10 : Int32) hg  M1) kv_X2_get wd_2_148 hI dX2_countWaiting_30 rfl (hI.1 g 0 hg (by decide)) (he_X2 hg) rfl rfl rfl (Nat.le_of_ble_eq_true rfl) ⟨Nat.le_of_ble_eq_true rfl, Nat.le_of_ble_eq_true rfl⟩ ⟨Nat.zero_le _, Nat.zero_le _⟩ (fun _ => rfl) rfl (fun r2 M2 _ => ?_)
        refine hz_iconst (v := (1 : Int32)) (n := 34) hC dX2_countWaiting_33 (by decide +kernel) rfl ?_
        refine hz_iadd (n := 35) hC dX2_countWaiting_34 rfl ?_
        refine hz_callV (k := 3) (As := [.int r1, .int (10 : Int32), .int (r2 + (1 : Int32))]) (st := []) (S1 := fun _ => []) (n := 38) hC (c_X2_put l g r1 (10 : Int32) (r2 + (1 : Int32)) hg  M2) kv_X2_put wd_2_119 hI dX2_countWaiting_35 rfl (hI.1 g 0 hg (by decide)) (he_X2 hg) rfl rfl rfl (Nat.le_of_ble_eq_true rfl) ⟨Nat.le_of_ble_eq_true rfl, Nat.le_of_ble_eq_true rfl⟩ ⟨Nat.zero_le _, Nat.zero_le _⟩ (fun _ => rfl) rfl (fun r3 M3 _ => ?_)
        refine hz_iinc (a := 2) (v := (x1 + (1 : Int32))) (L' := [(1, .int (x1 + (1 : Int32))), (2, .int r1), (0, .ref (adr g 0))]) (n := 41) hC dX2_countWaiting_38 rfl rfl (by decide) rfl rfl ?_
        refine hz_goto (n := 2) hC dX2_countWaiting_41 (by decide) ?_
        refine hz_L (L' := [(0, .ref (adr g 0)), (1, .int (x1 + (1 : Int32)))]) [2, 0] rfl ?_
        exact ih2 _ _
  refine hz_iconst (v := (0 : Int32)) (n := 1) hC dX2_countWaiting_0 (by decide +kernel) rfl ?_
  refine hz_istore_n (L' := [(1, .int (0 : Int32)), (0, .ref (adr g 0))]) (n := 2) hC dX2_countWaiting_1 rfl (by decide) rfl rfl ?_
  refine hz_L (L' := [(0, .ref (adr g 0)), (1, .int (0 : Int32))]) [1, 0] rfl ?_
  exact l2 hp_fu _ _
def A_X2_endCall_35 (g : Nat)  (y35_1 : Int32) (y35_2 : Int32) (z35_0 : Int32) (M : hp_M) : Option (Int32 × hp_M) := (hp_b (F_X2_put g y35_1 (2 : Int32) (0 : Int32) M) (fun _ M2 => (hp_b (F_X2_get g y35_1 (6 : Int32) M2) (fun r3 M3 => (hp_b (F_X2_put g y35_1 (6 : Int32) (r3 + z35_0) M3) (fun _ M4 => (hp_b (F_X2_get g y35_1 (8 : Int32) M4) (fun r5 M5 => (hp_b (F_X2_put g y35_1 (8 : Int32) (r5 + (1 : Int32)) M5) (fun _ M6 => (hp_b (F_X3_putDown g (hp_p (hp_p (hp_p M6 g 2 1 ((M6 g 2 1) + (1 : Int32))) g 2 4 (((hp_p M6 g 2 1 ((M6 g 2 1) + (1 : Int32))) g 2 4) + z35_0)) g 0 2 (((hp_p (hp_p M6 g 2 1 ((M6 g 2 1) + (1 : Int32))) g 2 4 (((hp_p M6 g 2 1 ((M6 g 2 1) + (1 : Int32))) g 2 4) + z35_0)) g 0 2) + y35_2))) (fun _ M7 => (some (y35_2, M7))))))))))))))
def F_X2_endCall (g : Nat) (M : hp_M) : Option (Int32 × hp_M) := (if (M g 5 4) = 0 then (hp_b (F_X2_costOf g (M g 5 2) M) (fun r1 M1 => (A_X2_endCall_35 g (M g 5 1) (M g 5 2) r1 M1))) else (A_X2_endCall_35 g (M g 5 1) (M g 5 2) (0 : Int32) M))
set_option maxRecDepth 20000 in
set_option maxHeartbeats 4000000 in
theorem c_X2_endCall (l : Launch) (g : Nat) (hg : g < 12) (M : hp_M) : hp_Ct l yX2_endCall cX2_endCall 4 (some .int) 1 hp_IC (fun adr adV => [.ref (adr g 0)]) hp_oi M (F_X2_endCall g M) := by
  refine hp_start "HallPhone$House" (fun adr adV => [(0, .ref (adr g 0))]) (by decide) rfl (fun _ _ => by simp only [lg_sl]; exact Nat.le_of_ble_eq_true rfl) (fun _ _ => rfl) ?_
  intro p e s m args below meth c A D ids adr adV cA rep G0 hI hC hr
  unfold F_X2_endCall
  have j35 : ∀ (y35_1 : Int32) (y35_2 : Int32) (z35_0 : Int32) (M : hp_M), hp_Z p l e (hp_rm 1) s m args below meth c 4 A D ids adr adV cA 0 0 (MQ below (hp_Q A D ids adr adV cA rep hp_oi G0) args s 0 0 A) G0 rep 35 [(0, .ref (adr g 0)), (1, .int y35_1), (2, .int y35_2)] [.int z35_0] M (A_X2_endCall_35 g y35_1 y35_2 z35_0 M) := by
    intro y35_1 y35_2 z35_0 M
    unfold A_X2_endCall_35
    refine hz_istore_n (L' := [(3, .int z35_0), (0, .ref (adr g 0)), (1, .int y35_1), (2, .int y35_2)]) (n := 36) hC dX2_endCall_35 rfl (by decide) rfl rfl ?_
    refine hz_aload_n (a := 1) (n := 37) hC dX2_endCall_36 rfl rfl rfl ?_
    refine hz_iload_n (a := 2) (n := 38) hC dX2_endCall_37 rfl rfl rfl ?_
    refine hz_iconst (v := (2 : Int32)) (n := 39) hC dX2_endCall_38 (by decide +kernel) rfl ?_
    refine hz_iconst (v := (0 : Int32)) (n := 40) hC dX2_endCall_39 (by decide +kernel) rfl ?_
    refine hz_callV (k := 3) (As := [.int y35_1, .int (2 : Int32), .int (0 : Int32)]) (st := []) (S1 := fun _ => []) (n := 43) hC (c_X2_put l g y35_1 (2 : Int32) (0 : Int32) hg  M) kv_X2_put wd_2_119 hI dX2_endCall_40 rfl (hI.1 g 0 hg (by decide)) (he_X2 hg) rfl rfl rfl (Nat.le_of_ble_eq_true rfl) ⟨Nat.le_of_ble_eq_true rfl, Nat.le_of_ble_eq_true rfl⟩ ⟨Nat.zero_le _, Nat.zero_le _⟩ (fun _ => rfl) rfl (fun r2 M2 _ => ?_)
    refine hz_aload_n (a := 1) (n := 44) hC dX2_endCall_43 rfl rfl rfl ?_
    refine hz_iload_n (a := 2) (n := 45) hC dX2_endCall_44 rfl rfl rfl ?_
    refine hz_bipush (v := (6 : Int32)) (n := 47) hC dX2_endCall_45 (by decide +kernel) rfl ?_
    refine hz_aload_n (a := 1) (n := 48) hC dX2_endCall_47 rfl rfl rfl ?_
    refine hz_iload_n (a := 2) (n := 49) hC dX2_endCall_48 rfl rfl rfl ?_
    refine hz_bipush (v := (6 : Int32)) (n := 51) hC dX2_endCall_49 (by decide +kernel) rfl ?_
    refine hz_callV (k := 2) (As := [.int y35_1, .int (6 : Int32)]) (st := [.int (6 : Int32), .int y35_1, .ref (adr g 0)]) (S1 := fun r => .int r :: [.int (6 : Int32), .int y35_1, .ref (adr g 0)]) (n := 54) hC (c_X2_get l g y35_1 (6 : Int32) hg  M2) kv_X2_get wd_2_148 hI dX2_endCall_51 rfl (hI.1 g 0 hg (by decide)) (he_X2 hg) rfl rfl rfl (Nat.le_of_ble_eq_true rfl) ⟨Nat.le_of_ble_eq_true rfl, Nat.le_of_ble_eq_true rfl⟩ ⟨Nat.zero_le _, Nat.zero_le _⟩ (fun _ => rfl) rfl (fun r3 M3 _ => ?_)
    refine hz_iload_n (a := 0) (n := 55) hC dX2_endCall_54 rfl rfl rfl ?_
    refine hz_iadd (n := 56) hC dX2_endCall_55 rfl ?_
    refine hz_callV (k := 3) (As := [.int y35_1, .int (6 : Int32), .int (r3 + z35_0)]) (st := []) (S1 := fun _ => []) (n := 59) hC (c_X2_put l g y35_1 (6 : Int32) (r3 + z35_0) hg  M3) kv_X2_put wd_2_119 hI dX2_endCall_56 rfl (hI.1 g 0 hg (by decide)) (he_X2 hg) rfl rfl rfl (Nat.le_of_ble_eq_true rfl) ⟨Nat.le_of_ble_eq_true rfl, Nat.le_of_ble_eq_true rfl⟩ ⟨Nat.zero_le _, Nat.zero_le _⟩ (fun _ => rfl) rfl (fun r4 M4 _ => ?_)
    refine hz_aload_n (a := 1) (n := 60) hC dX2_endCall_59 rfl rfl rfl ?_
    refine hz_iload_n (a := 2) (n := 61) hC dX2_endCall_60 rfl rfl rfl ?_
    refine hz_bipush (v := (8 : Int32)) (n := 63) hC dX2_endCall_61 (by decide +kernel) rfl ?_
    refine hz_aload_n (a := 1) (n := 64) hC dX2_endCall_63 rfl rfl rfl ?_
    refine hz_iload_n (a := 2) (n := 65) hC dX2_endCall_64 rfl rfl rfl ?_
    refine hz_bipush (v := (8 : Int32)) (n := 67) hC dX2_endCall_65 (by decide +kernel) rfl ?_
    refine hz_callV (k := 2) (As := [.int y35_1, .int (8 : Int32)]) (st := [.int (8 : Int32), .int y35_1, .ref (adr g 0)]) (S1 := fun r => .int r :: [.int (8 : Int32), .int y35_1, .ref (adr g 0)]) (n := 70) hC (c_X2_get l g y35_1 (8 : Int32) hg  M4) kv_X2_get wd_2_148 hI dX2_endCall_67 rfl (hI.1 g 0 hg (by decide)) (he_X2 hg) rfl rfl rfl (Nat.le_of_ble_eq_true rfl) ⟨Nat.le_of_ble_eq_true rfl, Nat.le_of_ble_eq_true rfl⟩ ⟨Nat.zero_le _, Nat.zero_le _⟩ (fun _ => rfl) rfl (fun r5 M5 _ => ?_)
    refine hz_iconst (v := (1 : Int32)) (n := 71) hC dX2_endCall_70 (by decide +kernel) rfl ?_
    refine hz_iadd (n := 72) hC dX2_endCall_71 rfl ?_
    refine hz_callV (k := 3) (As := [.int y35_1, .int (8 : Int32), .int (r5 + (1 : Int32))]) (st := []) (S1 := fun _ => []) (n := 75) hC (c_X2_put l g y35_1 (8 : Int32) (r5 + (1 : Int32)) hg  M5) kv_X2_put wd_2_119 hI dX2_endCall_72 rfl (hI.1 g 0 hg (by decide)) (he_X2 hg) rfl rfl rfl (Nat.le_of_ble_eq_true rfl) ⟨Nat.le_of_ble_eq_true rfl, Nat.le_of_ble_eq_true rfl⟩ ⟨Nat.zero_le _, Nat.zero_le _⟩ (fun _ => rfl) rfl (fun r6 M6 _ => ?_)
    refine hz_aload_n (a := 1) (n := 76) hC dX2_endCall_75 rfl rfl rfl ?_
    refine fg_X2_25 (n := 79) hC hg hI dX2_endCall_76 rfl ?_
    refine hz_iconst (v := (1 : Int32)) (n := 80) hC dX2_endCall_79 (by decide +kernel) rfl ?_
    refine hz_dup2 (n := 81) hC dX2_endCall_80 rfl rfl rfl ?_
    refine hz_ialdc (k := 1) (n := 82) hC (by decide +kernel) (by decide) dX2_endCall_81 (hI.1 g 2 hg (by decide)) (ha_h2 hg) rfl ?_
    refine hz_iconst (v := (1 : Int32)) (n := 83) hC dX2_endCall_82 (by decide +kernel) rfl ?_
    refine hz_iadd (n := 84) hC dX2_endCall_83 rfl ?_
    refine hz_iastc (k := 1) (n := 85) hC (by decide +kernel) (by decide) dX2_endCall_84 (hI.1 g 2 hg (by decide)) (ha_h2 hg) rfl ?_
    refine hz_aload_n (a := 1) (n := 86) hC dX2_endCall_85 rfl rfl rfl ?_
    refine fg_X2_25 (n := 89) hC hg hI dX2_endCall_86 rfl ?_
    refine hz_iconst (v := (4 : Int32)) (n := 90) hC dX2_endCall_89 (by decide +kernel) rfl ?_
    refine hz_dup2 (n := 91) hC dX2_endCall_90 rfl rfl rfl ?_
    refine hz_ialdc (k := 4) (n := 92) hC (by decide +kernel) (by decide) dX2_endCall_91 (hI.1 g 2 hg (by decide)) (ha_h2 hg) rfl ?_
    refine hz_iload_n (a := 0) (n := 93) hC dX2_endCall_92 rfl rfl rfl ?_
    refine hz_iadd (n := 94) hC dX2_endCall_93 rfl ?_
    refine hz_iastc (k := 4) (n := 95) hC (by decide +kernel) (by decide) dX2_endCall_94 (hI.1 g 2 hg (by decide)) (ha_h2 hg) rfl ?_
    refine hz_aload_n (a := 1) (n := 96) hC dX2_endCall_95 rfl rfl rfl ?_
    refine hz_dup (n := 97) hC dX2_endCall_96 rfl rfl ?_
    refine fg_X2_18 (n := 100) hC hg hI dX2_endCall_97 rfl ?_
    refine hz_iload_n (a := 3) (n := 101) hC dX2_endCall_100 rfl rfl rfl ?_
    refine hz_iadd (n := 102) hC dX2_endCall_101 rfl ?_
    refine fp_X2_18 (n := 105) hC hg hI (((hp_p (hp_p M6 g 2 1 ((M6 g 2 1) + (1 : Int32))) g 2 4 (((hp_p M6 g 2 1 ((M6 g 2 1) + (1 : Int32))) g 2 4) + z35_0)) g 0 2) + y35_2) dX2_endCall_102 rfl ?_
    refine hz_aload_n (a := 1) (n := 106) hC dX2_endCall_105 rfl rfl rfl ?_
    refine fg_X2_37 (n := 109) hC hg hI dX2_endCall_106 rfl ?_
    refine hz_callVN (k := 0) (As := []) (st := []) (S1 := fun _ => []) (n := 112) hC (c_X3_putDown l g hg  (hp_p (hp_p (hp_p M6 g 2 1 ((M6 g 2 1) + (1 : Int32))) g 2 4 (((hp_p M6 g 2 1 ((M6 g 2 1) + (1 : Int32))) g 2 4) + z35_0)) g 0 2 (((hp_p (hp_p M6 g 2 1 ((M6 g 2 1) + (1 : Int32))) g 2 4 (((hp_p M6 g 2 1 ((M6 g 2 1) + (1 : Int32))) g 2 4) + z35_0)) g 0 2) + y35_2))) kv_X3_putDown wd_2_77 hI dX2_endCall_109 rfl (hI.1 g 5 hg (by decide)) (he_X3 hg) rfl rfl rfl (Nat.le_of_ble_eq_true rfl) ⟨Nat.le_of_ble_eq_true rfl, Nat.le_of_ble_eq_true rfl⟩ ⟨Nat.zero_le _, Nat.zero_le _⟩ (fun _ => rfl) rfl (fun r7 M7 _ => ?_)
    refine hz_iload_n (a := 3) (n := 113) hC dX2_endCall_112 rfl rfl rfl ?_
    exact hz_iret hC hr dX2_endCall_113
  refine hz_aload_n (a := 0) (n := 1) hC dX2_endCall_0 rfl rfl rfl ?_
  refine fg_X2_37 (n := 4) hC hg hI dX2_endCall_1 rfl ?_
  refine fg_X2_96 (n := 7) hC hg hI dX2_endCall_4 rfl ?_
  refine hz_istore_n (L' := [(1, .int (M g 5 1)), (0, .ref (adr g 0))]) (n := 8) hC dX2_endCall_7 rfl (by decide) rfl rfl ?_
  refine hz_aload_n (a := 1) (n := 9) hC dX2_endCall_8 rfl rfl rfl ?_
  refine fg_X2_37 (n := 12) hC hg hI dX2_endCall_9 rfl ?_
  refine fg_X2_99 (n := 15) hC hg hI dX2_endCall_12 rfl ?_
  refine hz_istore_n (L' := [(2, .int (M g 5 2)), (1, .int (M g 5 1)), (0, .ref (adr g 0))]) (n := 16) hC dX2_endCall_15 rfl (by decide) rfl rfl ?_
  refine hz_aload_n (a := 2) (n := 17) hC dX2_endCall_16 rfl rfl rfl ?_
  refine fg_X2_37 (n := 20) hC hg hI dX2_endCall_17 rfl ?_
  refine fg_X2_105 (n := 23) hC hg hI dX2_endCall_20 rfl ?_
  refine hz_if_eq (tgt := 30) (n := 26) hC dX2_endCall_23 (by decide) rfl (fun _ => ?_) (fun _ => ?_)
  · refine hz_aload_n (a := 2) (n := 31) hC dX2_endCall_30 rfl rfl rfl ?_
    refine hz_iload_n (a := 0) (n := 32) hC dX2_endCall_31 rfl rfl rfl ?_
    refine hz_callV (k := 1) (As := [.int (M g 5 2)]) (st := []) (S1 := fun r => .int r :: []) (n := 35) hC (c_X2_costOf l g (M g 5 2) hg  M) kv_X2_costOf wd_2_184 hI dX2_endCall_32 rfl (hI.1 g 0 hg (by decide)) (he_X2 hg) rfl rfl rfl (Nat.le_of_ble_eq_true rfl) ⟨Nat.le_of_ble_eq_true rfl, Nat.le_of_ble_eq_true rfl⟩ ⟨Nat.zero_le _, Nat.zero_le _⟩ (fun _ => rfl) rfl (fun r1 M1 _ => ?_)
    refine hz_L (L' := [(0, .ref (adr g 0)), (1, .int (M g 5 1)), (2, .int (M g 5 2))]) [2, 1, 0] rfl ?_
    exact j35 _ _ _ _
  · refine hz_iconst (v := (0 : Int32)) (n := 27) hC dX2_endCall_26 (by decide +kernel) rfl ?_
    refine hz_goto (n := 35) hC dX2_endCall_27 (by decide) ?_
    refine hz_L (L' := [(0, .ref (adr g 0)), (1, .int (M g 5 1)), (2, .int (M g 5 2))]) [2, 1, 0] rfl ?_
    exact j35 _ _ _ _
def A_X2_isCallOver_37 (g : Nat)  (z37_0 : Int32) (M : hp_M) : Option (Int32 × hp_M) := (if (M g 5 0) = (2 : Int32) then (if (M g 5 3) ≤ 0 then (some ((1 : Int32), M)) else (if z37_0 = 0 then (some ((0 : Int32), M)) else (some ((1 : Int32), M)))) else (some ((0 : Int32), M)))
def A_X2_isCallOver_36 (g : Nat)   (M : hp_M) : Option (Int32 × hp_M) := (A_X2_isCallOver_37 g (0 : Int32) M)
def F_X2_isCallOver (g : Nat) (M : hp_M) : Option (Int32 × hp_M) := (if (M g 1 0) ≤ 0 then (A_X2_isCallOver_36 g M) else (if (M g 5 2) < (M g 1 0) then (A_X2_isCallOver_36 g M) else (if (M g 6 1) ≤ 0 then (A_X2_isCallOver_36 g M) else (A_X2_isCallOver_37 g (1 : Int32) M))))
set_option maxRecDepth 20000 in
set_option maxHeartbeats 4000000 in
theorem c_X2_isCallOver (l : Launch) (g : Nat) (hg : g < 12) (M : hp_M) : hp_Ct l yX2_isCallOver cX2_isCallOver 3 (some .boolean) 0 hp_IC (fun adr adV => [.ref (adr g 0)]) hp_oi M (F_X2_isCallOver g M) := by
  refine hp_start "HallPhone$House" (fun adr adV => [(0, .ref (adr g 0))]) (by decide) rfl (fun _ _ => by simp only [lg_sl]; exact Nat.le_of_ble_eq_true rfl) (fun _ _ => rfl) ?_
  intro p e s m args below meth c A D ids adr adV cA rep G0 hI hC hr
  unfold F_X2_isCallOver
  have j37 : ∀ (z37_0 : Int32) (M : hp_M), hp_Z p l e (hp_rm 0) s m args below meth c 3 A D ids adr adV cA 0 0 (MQ below (hp_Q A D ids adr adV cA rep hp_oi G0) args s 0 0 A) G0 rep 37 [(0, .ref (adr g 0))] [.int z37_0] M (A_X2_isCallOver_37 g z37_0 M) := by
    intro z37_0 M
    unfold A_X2_isCallOver_37
    refine hz_istore_n (L' := [(2, .int z37_0), (0, .ref (adr g 0))]) (n := 38) hC dX2_isCallOver_37 rfl (by decide) rfl rfl ?_
    refine hz_aload_n (a := 1) (n := 39) hC dX2_isCallOver_38 rfl rfl rfl ?_
    refine fg_X2_37 (n := 42) hC hg hI dX2_isCallOver_39 rfl ?_
    refine fg_X2_93 (n := 45) hC hg hI dX2_isCallOver_42 rfl ?_
    refine hz_iconst (v := (2 : Int32)) (n := 46) hC dX2_isCallOver_45 (by decide +kernel) rfl ?_
    refine hz_icmp_ne (tgt := 67) (n := 49) hC dX2_isCallOver_46 (by decide) rfl (fun _ => ?_) (fun _ => ?_)
    · refine hz_aload_n (a := 1) (n := 50) hC dX2_isCallOver_49 rfl rfl rfl ?_
      refine fg_X2_37 (n := 53) hC hg hI dX2_isCallOver_50 rfl ?_
      refine fg_X2_102 (n := 56) hC hg hI dX2_isCallOver_53 rfl ?_
      refine hz_if_le (tgt := 63) (n := 59) hC dX2_isCallOver_56 (by decide) rfl (fun _ => ?_) (fun _ => ?_)
      · refine hz_iconst (v := (1 : Int32)) (n := 64) hC dX2_isCallOver_63 (by decide +kernel) rfl ?_
        refine hz_goto (n := 68) hC dX2_isCallOver_64 (by decide) ?_
        exact hz_zret hC hr nz_1 dX2_isCallOver_68
      · refine hz_iload_n (a := 0) (n := 60) hC dX2_isCallOver_59 rfl rfl rfl ?_
        refine hz_if_eq (tgt := 67) (n := 63) hC dX2_isCallOver_60 (by decide) rfl (fun _ => ?_) (fun _ => ?_)
        · refine hz_iconst (v := (0 : Int32)) (n := 68) hC dX2_isCallOver_67 (by decide +kernel) rfl ?_
          exact hz_zret hC hr nz_0 dX2_isCallOver_68
        · refine hz_iconst (v := (1 : Int32)) (n := 64) hC dX2_isCallOver_63 (by decide +kernel) rfl ?_
          refine hz_goto (n := 68) hC dX2_isCallOver_64 (by decide) ?_
          exact hz_zret hC hr nz_1 dX2_isCallOver_68
    · refine hz_iconst (v := (0 : Int32)) (n := 68) hC dX2_isCallOver_67 (by decide +kernel) rfl ?_
      exact hz_zret hC hr nz_0 dX2_isCallOver_68
  have j36 : ∀  (M : hp_M), hp_Z p l e (hp_rm 0) s m args below meth c 3 A D ids adr adV cA 0 0 (MQ below (hp_Q A D ids adr adV cA rep hp_oi G0) args s 0 0 A) G0 rep 36 [(0, .ref (adr g 0))] [] M (A_X2_isCallOver_36 g  M) := by
    intro  M
    unfold A_X2_isCallOver_36
    refine hz_iconst (v := (0 : Int32)) (n := 37) hC dX2_isCallOver_36 (by decide +kernel) rfl ?_
    exact j37 _ _
  refine hz_aload_n (a := 0) (n := 1) hC dX2_isCallOver_0 rfl rfl rfl ?_
  refine fg_X2_21 (n := 4) hC hg hI dX2_isCallOver_1 rfl ?_
  refine hz_iconst (v := (0 : Int32)) (n := 5) hC dX2_isCallOver_4 (by decide +kernel) rfl ?_
  refine hz_ialdc (k := 0) (n := 6) hC (by decide +kernel) (by decide) dX2_isCallOver_5 (hI.1 g 1 hg (by decide)) (ha_h1 hg) rfl ?_
  refine hz_istore_n (L' := [(1, .int (M g 1 0)), (0, .ref (adr g 0))]) (n := 7) hC dX2_isCallOver_6 rfl (by decide) rfl rfl ?_
  refine hz_iload_n (a := 0) (n := 8) hC dX2_isCallOver_7 rfl rfl rfl ?_
  refine hz_if_le (tgt := 36) (n := 11) hC dX2_isCallOver_8 (by decide) rfl (fun _ => ?_) (fun _ => ?_)
  · refine hz_L (L' := [(0, .ref (adr g 0))]) [1] rfl ?_
    exact j36 _
  · refine hz_aload_n (a := 1) (n := 12) hC dX2_isCallOver_11 rfl rfl rfl ?_
    refine fg_X2_37 (n := 15) hC hg hI dX2_isCallOver_12 rfl ?_
    refine fg_X2_99 (n := 18) hC hg hI dX2_isCallOver_15 rfl ?_
    refine hz_iload_n (a := 0) (n := 19) hC dX2_isCallOver_18 rfl rfl rfl ?_
    refine hz_icmp_lt (tgt := 36) (n := 22) hC dX2_isCallOver_19 (by decide) rfl (fun _ => ?_) (fun _ => ?_)
    · refine hz_L (L' := [(0, .ref (adr g 0))]) [1] rfl ?_
      exact j36 _
    · refine hz_aload_n (a := 1) (n := 23) hC dX2_isCallOver_22 rfl rfl rfl ?_
      refine fg_X2_44 (n := 26) hC hg hI dX2_isCallOver_23 rfl ?_
      refine fg_X2_71 (n := 29) hC hg hI dX2_isCallOver_26 rfl ?_
      refine hz_if_le (tgt := 36) (n := 32) hC dX2_isCallOver_29 (by decide) rfl (fun _ => ?_) (fun _ => ?_)
      · refine hz_L (L' := [(0, .ref (adr g 0))]) [1] rfl ?_
        exact j36 _
      · refine hz_iconst (v := (1 : Int32)) (n := 33) hC dX2_isCallOver_32 (by decide +kernel) rfl ?_
        refine hz_goto (n := 37) hC dX2_isCallOver_33 (by decide) ?_
        refine hz_L (L' := [(0, .ref (adr g 0))]) [1] rfl ?_
        exact j37 _ _
def F_X2_isQuiet (g : Nat) (M : hp_M) : Option (Int32 × hp_M) := (if (M g 5 0) = 0 then (if (M g 6 1) = 0 then (hp_b (F_X2_flatsThatAre g (1 : Int32) M) (fun r1 M1 => (if r1 = 0 then (some ((1 : Int32), M1)) else (some ((0 : Int32), M1))))) else (some ((0 : Int32), M))) else (some ((0 : Int32), M)))
set_option maxRecDepth 20000 in
set_option maxHeartbeats 4000000 in
theorem c_X2_isQuiet (l : Launch) (g : Nat) (hg : g < 12) (M : hp_M) : hp_Ct l yX2_isQuiet cX2_isQuiet 1 (some .boolean) 2 hp_IC (fun adr adV => [.ref (adr g 0)]) hp_oi M (F_X2_isQuiet g M) := by
  refine hp_start "HallPhone$House" (fun adr adV => [(0, .ref (adr g 0))]) (by decide) rfl (fun _ _ => by simp only [lg_sl]; exact Nat.le_of_ble_eq_true rfl) (fun _ _ => rfl) ?_
  intro p e s m args below meth c A D ids adr adV cA rep G0 hI hC hr
  unfold F_X2_isQuiet
  refine hz_aload_n (a := 0) (n := 1) hC dX2_isQuiet_0 rfl rfl rfl ?_
  refine fg_X2_37 (n := 4) hC hg hI dX2_isQuiet_1 rfl ?_
  refine fg_X2_93 (n := 7) hC hg hI dX2_isQuiet_4 rfl ?_
  refine hz_if_ne (tgt := 32) (n := 10) hC dX2_isQuiet_7 (by decide) rfl (fun _ => ?_) (fun _ => ?_)
  · refine hz_aload_n (a := 0) (n := 11) hC dX2_isQuiet_10 rfl rfl rfl ?_
    refine fg_X2_44 (n := 14) hC hg hI dX2_isQuiet_11 rfl ?_
    refine fg_X2_71 (n := 17) hC hg hI dX2_isQuiet_14 rfl ?_
    refine hz_if_ne (tgt := 32) (n := 20) hC dX2_isQuiet_17 (by decide) rfl (fun _ => ?_) (fun _ => ?_)
    · refine hz_aload_n (a := 0) (n := 21) hC dX2_isQuiet_20 rfl rfl rfl ?_
      refine hz_iconst (v := (1 : Int32)) (n := 22) hC dX2_isQuiet_21 (by decide +kernel) rfl ?_
      refine hz_callV (k := 1) (As := [.int (1 : Int32)]) (st := []) (S1 := fun r => .int r :: []) (n := 25) hC (c_X2_flatsThatAre l g (1 : Int32) hg  M) kv_X2_flatsThatAre wd_2_224 hI dX2_isQuiet_22 rfl (hI.1 g 0 hg (by decide)) (he_X2 hg) rfl rfl rfl (Nat.le_of_ble_eq_true rfl) ⟨Nat.le_of_ble_eq_true rfl, Nat.le_of_ble_eq_true rfl⟩ ⟨Nat.zero_le _, Nat.zero_le _⟩ (fun _ => rfl) rfl (fun r1 M1 _ => ?_)
      refine hz_if_ne (tgt := 32) (n := 28) hC dX2_isQuiet_25 (by decide) rfl (fun _ => ?_) (fun _ => ?_)
      · refine hz_iconst (v := (1 : Int32)) (n := 29) hC dX2_isQuiet_28 (by decide +kernel) rfl ?_
        refine hz_goto (n := 33) hC dX2_isQuiet_29 (by decide) ?_
        exact hz_zret hC hr nz_1 dX2_isQuiet_33
      · refine hz_iconst (v := (0 : Int32)) (n := 33) hC dX2_isQuiet_32 (by decide +kernel) rfl ?_
        exact hz_zret hC hr nz_0 dX2_isQuiet_33
    · refine hz_iconst (v := (0 : Int32)) (n := 33) hC dX2_isQuiet_32 (by decide +kernel) rfl ?_
      exact hz_zret hC hr nz_0 dX2_isQuiet_33
  · refine hz_iconst (v := (0 : Int32)) (n := 33) hC dX2_isQuiet_32 (by decide +kernel) rfl ?_
    exact hz_zret hC hr nz_0 dX2_isQuiet_33
def L_X2_speakOneMinute_66 (g : Nat)   : Nat → Int32 → hp_M → Option (Unit × hp_M)
  | 0, _, _ => none
  | n66 + 1, x1, M => (if (M g 0 0) ≤ x1 then (some ((), M)) else (hp_b (F_X2_isListener g x1 M) (fun r3 M3 => (if r3 = 0 then (L_X2_speakOneMinute_66 g n66 (x1 + (1 : Int32)) M3) else (hp_b (F_X2_hearOneMinute g x1 (M3 g 5 1) M3) (fun _ M4 => (L_X2_speakOneMinute_66 g n66 (x1 + (1 : Int32)) M4)))))))
def F_X2_speakOneMinute (g : Nat) (M : hp_M) : Option (Unit × hp_M) := (hp_b (F_X2_get g ((hp_p (hp_p (hp_p M g 5 2 ((M g 5 2) + (1 : Int32))) g 5 3 (((hp_p M g 5 2 ((M g 5 2) + (1 : Int32))) g 5 3) - (1 : Int32))) g 2 3 (((hp_p (hp_p M g 5 2 ((M g 5 2) + (1 : Int32))) g 5 3 (((hp_p M g 5 2 ((M g 5 2) + (1 : Int32))) g 5 3) - (1 : Int32))) g 2 3) + (1 : Int32))) g 5 1) (7 : Int32) (hp_p (hp_p (hp_p M g 5 2 ((M g 5 2) + (1 : Int32))) g 5 3 (((hp_p M g 5 2 ((M g 5 2) + (1 : Int32))) g 5 3) - (1 : Int32))) g 2 3 (((hp_p (hp_p M g 5 2 ((M g 5 2) + (1 : Int32))) g 5 3 (((hp_p M g 5 2 ((M g 5 2) + (1 : Int32))) g 5 3) - (1 : Int32))) g 2 3) + (1 : Int32)))) (fun r1 M1 => (hp_b (F_X2_put g ((hp_p (hp_p (hp_p M g 5 2 ((M g 5 2) + (1 : Int32))) g 5 3 (((hp_p M g 5 2 ((M g 5 2) + (1 : Int32))) g 5 3) - (1 : Int32))) g 2 3 (((hp_p (hp_p M g 5 2 ((M g 5 2) + (1 : Int32))) g 5 3 (((hp_p M g 5 2 ((M g 5 2) + (1 : Int32))) g 5 3) - (1 : Int32))) g 2 3) + (1 : Int32))) g 5 1) (7 : Int32) (r1 + (1 : Int32)) M1) (fun _ M2 => (L_X2_speakOneMinute_66 g hp_fu (0 : Int32) M2)))))
set_option maxRecDepth 20000 in
set_option maxHeartbeats 4000000 in
theorem c_X2_speakOneMinute (l : Launch) (g : Nat) (hg : g < 12) (M : hp_M) : hp_Ct l yX2_speakOneMinute cX2_speakOneMinute 2 none 2 hp_IC (fun adr adV => [.ref (adr g 0)]) hp_oo M (F_X2_speakOneMinute g M) := by
  refine hp_start "HallPhone$House" (fun adr adV => [(0, .ref (adr g 0))]) (by decide) rfl (fun _ _ => by simp only [lg_sl]; exact Nat.le_of_ble_eq_true rfl) (fun _ _ => rfl) ?_
  intro p e s m args below meth c A D ids adr adV cA rep G0 hI hC hr
  unfold F_X2_speakOneMinute
  have l66 : ∀  (n66 : Nat) (x1 : Int32) (M : hp_M), hp_Z p l e (hp_rm 2) s m args below meth c 2 A D ids adr adV cA 0 0 (MQ below (hp_Q A D ids adr adV cA rep hp_oo G0) args s 0 0 A) G0 rep 66 [(0, .ref (adr g 0)), (1, .int x1)] [] M (L_X2_speakOneMinute_66 g n66 x1 M) := by
    intro  n66
    induction n66 with
    | zero => intro x1 M; exact hz_none hC
    | succ n66 ih66 =>
      intro x1 M
      rw [L_X2_speakOneMinute_66.eq_2]
      refine hz_iload_n (a := 1) (n := 67) hC dX2_speakOneMinute_66 rfl rfl rfl ?_
      refine hz_aload_n (a := 0) (n := 68) hC dX2_speakOneMinute_67 rfl rfl rfl ?_
      refine fg_X2_9 (n := 71) hC hg hI dX2_speakOneMinute_68 rfl ?_
      refine hz_icmp_ge (tgt := 100) (n := 74) hC dX2_speakOneMinute_71 (by decide) rfl (fun _ => ?_) (fun _ => ?_)
      · exact hz_vret hC hr dX2_speakOneMinute_100
      · refine hz_aload_n (a := 0) (n := 75) hC dX2_speakOneMinute_74 rfl rfl rfl ?_
        refine hz_iload_n (a := 1) (n := 76) hC dX2_speakOneMinute_75 rfl rfl rfl ?_
        refine hz_callV (k := 1) (As := [.int x1]) (st := []) (S1 := fun r => .int r :: []) (n := 79) hC (c_X2_isListener l g x1 hg  M) kv_X2_isListener wd_2_232 hI dX2_speakOneMinute_76 rfl (hI.1 g 0 hg (by decide)) (he_X2 hg) rfl rfl rfl (Nat.le_of_ble_eq_true rfl) ⟨Nat.le_of_ble_eq_true rfl, Nat.le_of_ble_eq_true rfl⟩ ⟨Nat.zero_le _, Nat.zero_le _⟩ (fun _ => rfl) rfl (fun r3 M3 _ => ?_)
        refine hz_if_eq (tgt := 94) (n := 82) hC dX2_speakOneMinute_79 (by decide) rfl (fun _ => ?_) (fun _ => ?_)
        · refine hz_iinc (a := 1) (v := (x1 + (1 : Int32))) (L' := [(1, .int (x1 + (1 : Int32))), (0, .ref (adr g 0))]) (n := 97) hC dX2_speakOneMinute_94 rfl rfl (by decide) rfl rfl ?_
          refine hz_goto (n := 66) hC dX2_speakOneMinute_97 (by decide) ?_
          refine hz_L (L' := [(0, .ref (adr g 0)), (1, .int (x1 + (1 : Int32)))]) [1, 0] rfl ?_
          exact ih66 _ _
        · refine hz_aload_n (a := 0) (n := 83) hC dX2_speakOneMinute_82 rfl rfl rfl ?_
          refine hz_iload_n (a := 1) (n := 84) hC dX2_speakOneMinute_83 rfl rfl rfl ?_
          refine hz_aload_n (a := 0) (n := 85) hC dX2_speakOneMinute_84 rfl rfl rfl ?_
          refine fg_X2_37 (n := 88) hC hg hI dX2_speakOneMinute_85 rfl ?_
          refine fg_X2_96 (n := 91) hC hg hI dX2_speakOneMinute_88 rfl ?_
          refine hz_callV (k := 2) (As := [.int x1, .int (M3 g 5 1)]) (st := []) (S1 := fun _ => []) (n := 94) hC (c_X2_hearOneMinute l g x1 (M3 g 5 1) hg  M3) kv_X2_hearOneMinute wd_2_236 hI dX2_speakOneMinute_91 rfl (hI.1 g 0 hg (by decide)) (he_X2 hg) rfl rfl rfl (Nat.le_of_ble_eq_true rfl) ⟨Nat.le_of_ble_eq_true rfl, Nat.le_of_ble_eq_true rfl⟩ ⟨Nat.zero_le _, Nat.zero_le _⟩ (fun _ => rfl) rfl (fun r4 M4 _ => ?_)
          refine hz_iinc (a := 1) (v := (x1 + (1 : Int32))) (L' := [(1, .int (x1 + (1 : Int32))), (0, .ref (adr g 0))]) (n := 97) hC dX2_speakOneMinute_94 rfl rfl (by decide) rfl rfl ?_
          refine hz_goto (n := 66) hC dX2_speakOneMinute_97 (by decide) ?_
          refine hz_L (L' := [(0, .ref (adr g 0)), (1, .int (x1 + (1 : Int32)))]) [1, 0] rfl ?_
          exact ih66 _ _
  refine hz_aload_n (a := 0) (n := 1) hC dX2_speakOneMinute_0 rfl rfl rfl ?_
  refine fg_X2_37 (n := 4) hC hg hI dX2_speakOneMinute_1 rfl ?_
  refine hz_dup (n := 5) hC dX2_speakOneMinute_4 rfl rfl ?_
  refine fg_X2_99 (n := 8) hC hg hI dX2_speakOneMinute_5 rfl ?_
  refine hz_iconst (v := (1 : Int32)) (n := 9) hC dX2_speakOneMinute_8 (by decide +kernel) rfl ?_
  refine hz_iadd (n := 10) hC dX2_speakOneMinute_9 rfl ?_
  refine fp_X2_99 (n := 13) hC hg hI ((M g 5 2) + (1 : Int32)) dX2_speakOneMinute_10 rfl ?_
  refine hz_aload_n (a := 0) (n := 14) hC dX2_speakOneMinute_13 rfl rfl rfl ?_
  refine fg_X2_37 (n := 17) hC hg hI dX2_speakOneMinute_14 rfl ?_
  refine hz_dup (n := 18) hC dX2_speakOneMinute_17 rfl rfl ?_
  refine fg_X2_102 (n := 21) hC hg hI dX2_speakOneMinute_18 rfl ?_
  refine hz_iconst (v := (1 : Int32)) (n := 22) hC dX2_speakOneMinute_21 (by decide +kernel) rfl ?_
  refine hz_isub (n := 23) hC dX2_speakOneMinute_22 rfl ?_
  refine fp_X2_102 (n := 26) hC hg hI (((hp_p M g 5 2 ((M g 5 2) + (1 : Int32))) g 5 3) - (1 : Int32)) dX2_speakOneMinute_23 rfl ?_
  refine hz_aload_n (a := 0) (n := 27) hC dX2_speakOneMinute_26 rfl rfl rfl ?_
  refine fg_X2_25 (n := 30) hC hg hI dX2_speakOneMinute_27 rfl ?_
  refine hz_iconst (v := (3 : Int32)) (n := 31) hC dX2_speakOneMinute_30 (by decide +kernel) rfl ?_
  refine hz_dup2 (n := 32) hC dX2_speakOneMinute_31 rfl rfl rfl ?_
  refine hz_ialdc (k := 3) (n := 33) hC (by decide +kernel) (by decide) dX2_speakOneMinute_32 (hI.1 g 2 hg (by decide)) (ha_h2 hg) rfl ?_
  refine hz_iconst (v := (1 : Int32)) (n := 34) hC dX2_speakOneMinute_33 (by decide +kernel) rfl ?_
  refine hz_iadd (n := 35) hC dX2_speakOneMinute_34 rfl ?_
  refine hz_iastc (k := 3) (n := 36) hC (by decide +kernel) (by decide) dX2_speakOneMinute_35 (hI.1 g 2 hg (by decide)) (ha_h2 hg) rfl ?_
  refine hz_aload_n (a := 0) (n := 37) hC dX2_speakOneMinute_36 rfl rfl rfl ?_
  refine hz_aload_n (a := 0) (n := 38) hC dX2_speakOneMinute_37 rfl rfl rfl ?_
  refine fg_X2_37 (n := 41) hC hg hI dX2_speakOneMinute_38 rfl ?_
  refine fg_X2_96 (n := 44) hC hg hI dX2_speakOneMinute_41 rfl ?_
  refine hz_bipush (v := (7 : Int32)) (n := 46) hC dX2_speakOneMinute_44 (by decide +kernel) rfl ?_
  refine hz_aload_n (a := 0) (n := 47) hC dX2_speakOneMinute_46 rfl rfl rfl ?_
  refine hz_aload_n (a := 0) (n := 48) hC dX2_speakOneMinute_47 rfl rfl rfl ?_
  refine fg_X2_37 (n := 51) hC hg hI dX2_speakOneMinute_48 rfl ?_
  refine fg_X2_96 (n := 54) hC hg hI dX2_speakOneMinute_51 rfl ?_
  refine hz_bipush (v := (7 : Int32)) (n := 56) hC dX2_speakOneMinute_54 (by decide +kernel) rfl ?_
  refine hz_callV (k := 2) (As := [.int ((hp_p (hp_p (hp_p M g 5 2 ((M g 5 2) + (1 : Int32))) g 5 3 (((hp_p M g 5 2 ((M g 5 2) + (1 : Int32))) g 5 3) - (1 : Int32))) g 2 3 (((hp_p (hp_p M g 5 2 ((M g 5 2) + (1 : Int32))) g 5 3 (((hp_p M g 5 2 ((M g 5 2) + (1 : Int32))) g 5 3) - (1 : Int32))) g 2 3) + (1 : Int32))) g 5 1), .int (7 : Int32)]) (st := [.int (7 : Int32), .int ((hp_p (hp_p (hp_p M g 5 2 ((M g 5 2) + (1 : Int32))) g 5 3 (((hp_p M g 5 2 ((M g 5 2) + (1 : Int32))) g 5 3) - (1 : Int32))) g 2 3 (((hp_p (hp_p M g 5 2 ((M g 5 2) + (1 : Int32))) g 5 3 (((hp_p M g 5 2 ((M g 5 2) + (1 : Int32))) g 5 3) - (1 : Int32))) g 2 3) + (1 : Int32))) g 5 1), .ref (adr g 0)]) (S1 := fun r => .int r :: [.int (7 : Int32), .int ((hp_p (hp_p (hp_p M g 5 2 ((M g 5 2) + (1 : Int32))) g 5 3 (((hp_p M g 5 2 ((M g 5 2) + (1 : Int32))) g 5 3) - (1 : Int32))) g 2 3 (((hp_p (hp_p M g 5 2 ((M g 5 2) + (1 : Int32))) g 5 3 (((hp_p M g 5 2 ((M g 5 2) + (1 : Int32))) g 5 3) - (1 : Int32))) g 2 3) + (1 : Int32))) g 5 1), .ref (adr g 0)]) (n := 59) hC (c_X2_get l g ((hp_p (hp_p (hp_p M g 5 2 ((M g 5 2) + (1 : Int32))) g 5 3 (((hp_p M g 5 2 ((M g 5 2) + (1 : Int32))) g 5 3) - (1 : Int32))) g 2 3 (((hp_p (hp_p M g 5 2 ((M g 5 2) + (1 : Int32))) g 5 3 (((hp_p M g 5 2 ((M g 5 2) + (1 : Int32))) g 5 3) - (1 : Int32))) g 2 3) + (1 : Int32))) g 5 1) (7 : Int32) hg  (hp_p (hp_p (hp_p M g 5 2 ((M g 5 2) + (1 : Int32))) g 5 3 (((hp_p M g 5 2 ((M g 5 2) + (1 : Int32))) g 5 3) - (1 : Int32))) g 2 3 (((hp_p (hp_p M g 5 2 ((M g 5 2) + (1 : Int32))) g 5 3 (((hp_p M g 5 2 ((M g 5 2) + (1 : Int32))) g 5 3) - (1 : Int32))) g 2 3) + (1 : Int32)))) kv_X2_get wd_2_148 hI dX2_speakOneMinute_56 rfl (hI.1 g 0 hg (by decide)) (he_X2 hg) rfl rfl rfl (Nat.le_of_ble_eq_true rfl) ⟨Nat.le_of_ble_eq_true rfl, Nat.le_of_ble_eq_true rfl⟩ ⟨Nat.zero_le _, Nat.zero_le _⟩ (fun _ => rfl) rfl (fun r1 M1 _ => ?_)
  refine hz_iconst (v := (1 : Int32)) (n := 60) hC dX2_speakOneMinute_59 (by decide +kernel) rfl ?_
  refine hz_iadd (n := 61) hC dX2_speakOneMinute_60 rfl ?_
  refine hz_callV (k := 3) (As := [.int ((hp_p (hp_p (hp_p M g 5 2 ((M g 5 2) + (1 : Int32))) g 5 3 (((hp_p M g 5 2 ((M g 5 2) + (1 : Int32))) g 5 3) - (1 : Int32))) g 2 3 (((hp_p (hp_p M g 5 2 ((M g 5 2) + (1 : Int32))) g 5 3 (((hp_p M g 5 2 ((M g 5 2) + (1 : Int32))) g 5 3) - (1 : Int32))) g 2 3) + (1 : Int32))) g 5 1), .int (7 : Int32), .int (r1 + (1 : Int32))]) (st := []) (S1 := fun _ => []) (n := 64) hC (c_X2_put l g ((hp_p (hp_p (hp_p M g 5 2 ((M g 5 2) + (1 : Int32))) g 5 3 (((hp_p M g 5 2 ((M g 5 2) + (1 : Int32))) g 5 3) - (1 : Int32))) g 2 3 (((hp_p (hp_p M g 5 2 ((M g 5 2) + (1 : Int32))) g 5 3 (((hp_p M g 5 2 ((M g 5 2) + (1 : Int32))) g 5 3) - (1 : Int32))) g 2 3) + (1 : Int32))) g 5 1) (7 : Int32) (r1 + (1 : Int32)) hg  M1) kv_X2_put wd_2_119 hI dX2_speakOneMinute_61 rfl (hI.1 g 0 hg (by decide)) (he_X2 hg) rfl rfl rfl (Nat.le_of_ble_eq_true rfl) ⟨Nat.le_of_ble_eq_true rfl, Nat.le_of_ble_eq_true rfl⟩ ⟨Nat.zero_le _, Nat.zero_le _⟩ (fun _ => rfl) rfl (fun r2 M2 _ => ?_)
  refine hz_iconst (v := (0 : Int32)) (n := 65) hC dX2_speakOneMinute_64 (by decide +kernel) rfl ?_
  refine hz_istore_n (L' := [(1, .int (0 : Int32)), (0, .ref (adr g 0))]) (n := 66) hC dX2_speakOneMinute_65 rfl (by decide) rfl rfl ?_
  refine hz_L (L' := [(0, .ref (adr g 0)), (1, .int (0 : Int32))]) [1, 0] rfl ?_
  exact l66 hp_fu _ _
def A_X2_letPass_104 (g : Nat) (a0 : Int32) (rec14 : Int32 → Int32 → hp_M → Option (Int32 × hp_M)) (y104_2 : Int32) (y104_3 : Int32) (M : hp_M) : Option (Int32 × hp_M) := (if (M g 5 0) = 0 then (if (M g 6 1) ≤ 0 then (hp_b (F_X2_countWaiting g M) (fun _ M4 => (rec14 y104_2 (y104_3 + (1 : Int32)) M4))) else (hp_b (F_X4_at g (0 : Int32) M) (fun r5 M5 => (hp_b (F_X2_get g r5 (4 : Int32) M5) (fun r6 M6 => (hp_b (F_X2_connect g r5 r6 (0 : Int32) M6) (fun _ M7 => (hp_b (F_X2_countWaiting g M7) (fun _ M8 => (rec14 y104_2 (y104_3 + (1 : Int32)) M8)))))))))) else (hp_b (F_X2_countWaiting g M) (fun _ M9 => (rec14 y104_2 (y104_3 + (1 : Int32)) M9))))
def A_X2_letPass_94 (g : Nat) (a0 : Int32) (rec14 : Int32 → Int32 → hp_M → Option (Int32 × hp_M)) (y94_2 : Int32) (y94_3 : Int32) (z94_0 : Int32) (z94_1 : Int32) (z94_2 : Int32) (M : hp_M) : Option (Int32 × hp_M) := (if z94_2 < 0 ∨ 10 ≤ (z94_2).toNatClampNeg then none else (hp_b (F_X2_endCall g (hp_p M g 2 (z94_2).toNatClampNeg (z94_1 + z94_0))) (fun r10 M10 => (A_X2_letPass_104 g a0 rec14 (y94_2 + (1 : Int32)) y94_3 M10))))
def L_X2_letPass_44 (g : Nat) (a0 : Int32) (rec14 : Int32 → Int32 → hp_M → Option (Int32 × hp_M)) (k44_2 : Int32) (k44_3 : Int32) : Nat → Int32 → hp_M → Option (Int32 × hp_M)
  | 0, _, _ => none
  | n44 + 1, x4, M => (if (M g 0 0) ≤ x4 then (hp_b (F_X2_isCallOver g M) (fun r3 M3 => (if r3 = 0 then (A_X2_letPass_104 g a0 rec14 k44_2 k44_3 M3) else (if (M3 g 5 3) ≤ 0 then (A_X2_letPass_94 g a0 rec14 k44_2 k44_3 (0 : Int32) (M3 g 2 2) (2 : Int32) M3) else (A_X2_letPass_94 g a0 rec14 k44_2 k44_3 (1 : Int32) (M3 g 2 2) (2 : Int32) M3))))) else (hp_b (F_X2_comeDown g x4 M) (fun _ M11 => (L_X2_letPass_44 g a0 rec14 k44_2 k44_3 n44 (x4 + (1 : Int32)) M11))))
def A_X2_letPass_41 (g : Nat) (a0 : Int32) (rec14 : Int32 → Int32 → hp_M → Option (Int32 × hp_M)) (y41_2 : Int32) (y41_3 : Int32) (M : hp_M) : Option (Int32 × hp_M) := (L_X2_letPass_44 g a0 rec14 y41_2 y41_3 hp_fu (0 : Int32) M)
def L_X2_letPass_14 (g : Nat) (a0 : Int32)   : Nat → Int32 → Int32 → hp_M → Option (Int32 × hp_M)
  | 0, _, _, _ => none
  | n14 + 1, x2, x3, M => (if a0 ≤ x3 then (some (x2, M)) else (hp_b (F_X2_isQuiet g M) (fun r1 M1 => (if r1 = 0 then (if (M1 g 5 0) = (2 : Int32) then (hp_b (F_X2_speakOneMinute g M1) (fun _ M2 => (A_X2_letPass_41 g a0 (L_X2_letPass_14 g a0 n14) x2 x3 M2))) else (A_X2_letPass_41 g a0 (L_X2_letPass_14 g a0 n14) x2 x3 M1)) else (some (x2, M1))))))
def F_X2_letPass (g : Nat) (a0 : Int32) (M : hp_M) : Option (Int32 × hp_M) := (L_X2_letPass_14 g a0 hp_fu (0 : Int32) (0 : Int32) (hp_p M g 0 1 ((M g 0 1) + a0)))
set_option maxRecDepth 20000 in
set_option maxHeartbeats 4000000 in
theorem c_X2_letPass (l : Launch) (g : Nat) (a0 : Int32) (hg : g < 12) (M : hp_M) : hp_Ct l yX2_letPass cX2_letPass 5 (some .int) 3 hp_IC (fun adr adV => [.ref (adr g 0), .int a0]) hp_oi M (F_X2_letPass g a0 M) := by
  refine hp_start "HallPhone$House" (fun adr adV => [(0, .ref (adr g 0)), (1, .int a0)]) (by decide) rfl (fun _ _ => by simp only [lg_sl]; exact Nat.le_of_ble_eq_true rfl) (fun _ _ => rfl) ?_
  intro p e s m args below meth c A D ids adr adV cA rep G0 hI hC hr
  unfold F_X2_letPass
  have l14 : ∀  (n14 : Nat) (x2 : Int32) (x3 : Int32) (M : hp_M), hp_Z p l e (hp_rm 3) s m args below meth c 5 A D ids adr adV cA 0 0 (MQ below (hp_Q A D ids adr adV cA rep hp_oi G0) args s 0 0 A) G0 rep 14 [(0, .ref (adr g 0)), (1, .int a0), (2, .int x2), (3, .int x3)] [] M (L_X2_letPass_14 g a0 n14 x2 x3 M) := by
    intro  n14
    induction n14 with
    | zero => intro x2 x3 M; exact hz_none hC
    | succ n14 ih14 =>
      intro x2 x3 M
      rw [L_X2_letPass_14.eq_2]
      have j104 : ∀ (y104_2 : Int32) (y104_3 : Int32) (M : hp_M), hp_Z p l e (hp_rm 3) s m args below meth c 5 A D ids adr adV cA 0 0 (MQ below (hp_Q A D ids adr adV cA rep hp_oi G0) args s 0 0 A) G0 rep 104 [(0, .ref (adr g 0)), (1, .int a0), (2, .int y104_2), (3, .int y104_3)] [] M (A_X2_letPass_104 g a0 (L_X2_letPass_14 g a0 n14) y104_2 y104_3 M) := by
        intro y104_2 y104_3 M
        unfold A_X2_letPass_104
        refine hz_aload_n (a := 0) (n := 105) hC dX2_letPass_104 rfl rfl rfl ?_
        refine fg_X2_37 (n := 108) hC hg hI dX2_letPass_105 rfl ?_
        refine fg_X2_93 (n := 111) hC hg hI dX2_letPass_108 rfl ?_
        refine hz_if_ne (tgt := 148) (n := 114) hC dX2_letPass_111 (by decide) rfl (fun _ => ?_) (fun _ => ?_)
        · refine hz_aload_n (a := 0) (n := 115) hC dX2_letPass_114 rfl rfl rfl ?_
          refine fg_X2_44 (n := 118) hC hg hI dX2_letPass_115 rfl ?_
          refine fg_X2_71 (n := 121) hC hg hI dX2_letPass_118 rfl ?_
          refine hz_if_le (tgt := 148) (n := 124) hC dX2_letPass_121 (by decide) rfl (fun _ => ?_) (fun _ => ?_)
          · refine hz_aload_n (a := 0) (n := 149) hC dX2_letPass_148 rfl rfl rfl ?_
            refine hz_callV (k := 0) (As := []) (st := []) (S1 := fun _ => []) (n := 152) hC (c_X2_countWaiting l g hg  M) kv_X2_countWaiting wd_3_20 hI dX2_letPass_149 rfl (hI.1 g 0 hg (by decide)) (he_X2 hg) rfl rfl rfl (Nat.le_of_ble_eq_true rfl) ⟨Nat.le_of_ble_eq_true rfl, Nat.le_of_ble_eq_true rfl⟩ ⟨Nat.zero_le _, Nat.zero_le _⟩ (fun _ => rfl) rfl (fun r4 M4 _ => ?_)
            refine hz_iinc (a := 3) (v := (y104_3 + (1 : Int32))) (L' := [(3, .int (y104_3 + (1 : Int32))), (0, .ref (adr g 0)), (1, .int a0), (2, .int y104_2)]) (n := 155) hC dX2_letPass_152 rfl rfl (by decide) rfl rfl ?_
            refine hz_goto (n := 14) hC dX2_letPass_155 (by decide) ?_
            refine hz_L (L' := [(0, .ref (adr g 0)), (1, .int a0), (2, .int y104_2), (3, .int (y104_3 + (1 : Int32)))]) [1, 2, 3, 0] rfl ?_
            exact ih14 _ _ _
          · refine hz_aload_n (a := 0) (n := 125) hC dX2_letPass_124 rfl rfl rfl ?_
            refine fg_X2_44 (n := 128) hC hg hI dX2_letPass_125 rfl ?_
            refine hz_iconst (v := (0 : Int32)) (n := 129) hC dX2_letPass_128 (by decide +kernel) rfl ?_
            refine hz_callVN (k := 1) (As := [.int (0 : Int32)]) (st := []) (S1 := fun r => .int r :: []) (n := 132) hC (c_X4_at l g (0 : Int32) hg  M) kv_X4_at wd_3_16 hI dX2_letPass_129 rfl (hI.1 g 6 hg (by decide)) (he_X4 hg) rfl rfl rfl (Nat.le_of_ble_eq_true rfl) ⟨Nat.le_of_ble_eq_true rfl, Nat.le_of_ble_eq_true rfl⟩ ⟨Nat.zero_le _, Nat.zero_le _⟩ (fun _ => rfl) rfl (fun r5 M5 _ => ?_)
            refine hz_istore (L' := [(4, .int r5), (0, .ref (adr g 0)), (1, .int a0), (2, .int y104_2), (3, .int y104_3)]) (n := 134) hC dX2_letPass_132 (by decide) rfl rfl ?_
            refine hz_aload_n (a := 1) (n := 135) hC dX2_letPass_134 rfl rfl rfl ?_
            refine hz_iload (a := 0) (n := 137) hC dX2_letPass_135 rfl rfl ?_
            refine hz_aload_n (a := 1) (n := 138) hC dX2_letPass_137 rfl rfl rfl ?_
            refine hz_iload (a := 0) (n := 140) hC dX2_letPass_138 rfl rfl ?_
            refine hz_iconst (v := (4 : Int32)) (n := 141) hC dX2_letPass_140 (by decide +kernel) rfl ?_
            refine hz_callV (k := 2) (As := [.int r5, .int (4 : Int32)]) (st := [.int r5, .ref (adr g 0)]) (S1 := fun r => .int r :: [.int r5, .ref (adr g 0)]) (n := 144) hC (c_X2_get l g r5 (4 : Int32) hg  M5) kv_X2_get wd_2_148 hI dX2_letPass_141 rfl (hI.1 g 0 hg (by decide)) (he_X2 hg) rfl rfl rfl (Nat.le_of_ble_eq_true rfl) ⟨Nat.le_of_ble_eq_true rfl, Nat.le_of_ble_eq_true rfl⟩ ⟨Nat.zero_le _, Nat.zero_le _⟩ (fun _ => rfl) rfl (fun r6 M6 _ => ?_)
            refine hz_iconst (v := (0 : Int32)) (n := 145) hC dX2_letPass_144 (by decide +kernel) rfl ?_
            refine hz_callV (k := 3) (As := [.int r5, .int r6, .int (0 : Int32)]) (st := []) (S1 := fun _ => []) (n := 148) hC (c_X2_connect l g r5 r6 (0 : Int32) hg  M6) kv_X2_connect wd_2_200 hI dX2_letPass_145 rfl (hI.1 g 0 hg (by decide)) (he_X2 hg) rfl rfl rfl (Nat.le_of_ble_eq_true rfl) ⟨Nat.le_of_ble_eq_true rfl, Nat.le_of_ble_eq_true rfl⟩ ⟨Nat.zero_le _, Nat.zero_le _⟩ (fun _ => rfl) rfl (fun r7 M7 _ => ?_)
            refine hz_aload_n (a := 1) (n := 149) hC dX2_letPass_148 rfl rfl rfl ?_
            refine hz_callV (k := 0) (As := []) (st := []) (S1 := fun _ => []) (n := 152) hC (c_X2_countWaiting l g hg  M7) kv_X2_countWaiting wd_3_20 hI dX2_letPass_149 rfl (hI.1 g 0 hg (by decide)) (he_X2 hg) rfl rfl rfl (Nat.le_of_ble_eq_true rfl) ⟨Nat.le_of_ble_eq_true rfl, Nat.le_of_ble_eq_true rfl⟩ ⟨Nat.zero_le _, Nat.zero_le _⟩ (fun _ => rfl) rfl (fun r8 M8 _ => ?_)
            refine hz_iinc (a := 4) (v := (y104_3 + (1 : Int32))) (L' := [(3, .int (y104_3 + (1 : Int32))), (4, .int r5), (0, .ref (adr g 0)), (1, .int a0), (2, .int y104_2)]) (n := 155) hC dX2_letPass_152 rfl rfl (by decide) rfl rfl ?_
            refine hz_goto (n := 14) hC dX2_letPass_155 (by decide) ?_
            refine hz_L (L' := [(0, .ref (adr g 0)), (1, .int a0), (2, .int y104_2), (3, .int (y104_3 + (1 : Int32)))]) [2, 3, 4, 0] rfl ?_
            exact ih14 _ _ _
        · refine hz_aload_n (a := 0) (n := 149) hC dX2_letPass_148 rfl rfl rfl ?_
          refine hz_callV (k := 0) (As := []) (st := []) (S1 := fun _ => []) (n := 152) hC (c_X2_countWaiting l g hg  M) kv_X2_countWaiting wd_3_20 hI dX2_letPass_149 rfl (hI.1 g 0 hg (by decide)) (he_X2 hg) rfl rfl rfl (Nat.le_of_ble_eq_true rfl) ⟨Nat.le_of_ble_eq_true rfl, Nat.le_of_ble_eq_true rfl⟩ ⟨Nat.zero_le _, Nat.zero_le _⟩ (fun _ => rfl) rfl (fun r9 M9 _ => ?_)
          refine hz_iinc (a := 3) (v := (y104_3 + (1 : Int32))) (L' := [(3, .int (y104_3 + (1 : Int32))), (0, .ref (adr g 0)), (1, .int a0), (2, .int y104_2)]) (n := 155) hC dX2_letPass_152 rfl rfl (by decide) rfl rfl ?_
          refine hz_goto (n := 14) hC dX2_letPass_155 (by decide) ?_
          refine hz_L (L' := [(0, .ref (adr g 0)), (1, .int a0), (2, .int y104_2), (3, .int (y104_3 + (1 : Int32)))]) [1, 2, 3, 0] rfl ?_
          exact ih14 _ _ _
      have j94 : ∀ (y94_2 : Int32) (y94_3 : Int32) (z94_0 : Int32) (z94_1 : Int32) (z94_2 : Int32) (M : hp_M), hp_Z p l e (hp_rm 3) s m args below meth c 5 A D ids adr adV cA 0 0 (MQ below (hp_Q A D ids adr adV cA rep hp_oi G0) args s 0 0 A) G0 rep 94 [(0, .ref (adr g 0)), (1, .int a0), (2, .int y94_2), (3, .int y94_3)] [.int z94_0, .int z94_1, .int z94_2, .ref (adr g 2)] M (A_X2_letPass_94 g a0 (L_X2_letPass_14 g a0 n14) y94_2 y94_3 z94_0 z94_1 z94_2 M) := by
        intro y94_2 y94_3 z94_0 z94_1 z94_2 M
        unfold A_X2_letPass_94
        refine hz_iadd (n := 95) hC dX2_letPass_94 rfl ?_
        refine hz_iast (n := 96) hC dX2_letPass_95 (hI.1 g 2 hg (by decide)) (ha_h2 hg) rfl (fun _ => ?_)
        refine hz_aload_n (a := 0) (n := 97) hC dX2_letPass_96 rfl rfl rfl ?_
        refine hz_callV (k := 0) (As := []) (st := []) (S1 := fun r => .int r :: []) (n := 100) hC (c_X2_endCall l g hg  (hp_p M g 2 (z94_2).toNatClampNeg (z94_1 + z94_0))) kv_X2_endCall wd_2_180 hI dX2_letPass_97 rfl (hI.1 g 0 hg (by decide)) (he_X2 hg) rfl rfl rfl (Nat.le_of_ble_eq_true rfl) ⟨Nat.le_of_ble_eq_true rfl, Nat.le_of_ble_eq_true rfl⟩ ⟨Nat.zero_le _, Nat.zero_le _⟩ (fun _ => rfl) rfl (fun r10 M10 _ => ?_)
        refine hz_pop (n := 101) hC dX2_letPass_100 rfl rfl ?_
        refine hz_iinc (a := 2) (v := (y94_2 + (1 : Int32))) (L' := [(2, .int (y94_2 + (1 : Int32))), (0, .ref (adr g 0)), (1, .int a0), (3, .int y94_3)]) (n := 104) hC dX2_letPass_101 rfl rfl (by decide) rfl rfl ?_
        refine hz_L (L' := [(0, .ref (adr g 0)), (1, .int a0), (2, .int (y94_2 + (1 : Int32))), (3, .int y94_3)]) [1, 2, 0, 3] rfl ?_
        exact j104 _ _ _
      have l44 : ∀ (k44_2 : Int32) (k44_3 : Int32) (n44 : Nat) (x4 : Int32) (M : hp_M), hp_Z p l e (hp_rm 3) s m args below meth c 5 A D ids adr adV cA 0 0 (MQ below (hp_Q A D ids adr adV cA rep hp_oi G0) args s 0 0 A) G0 rep 44 [(0, .ref (adr g 0)), (1, .int a0), (2, .int k44_2), (3, .int k44_3), (4, .int x4)] [] M (L_X2_letPass_44 g a0 (L_X2_letPass_14 g a0 n14) k44_2 k44_3 n44 x4 M) := by
        intro k44_2 k44_3 n44
        induction n44 with
        | zero => intro x4 M; exact hz_none hC
        | succ n44 ih44 =>
          intro x4 M
          rw [L_X2_letPass_44.eq_2]
          refine hz_iload (a := 4) (n := 46) hC dX2_letPass_44 rfl rfl ?_
          refine hz_aload_n (a := 0) (n := 47) hC dX2_letPass_46 rfl rfl rfl ?_
          refine fg_X2_9 (n := 50) hC hg hI dX2_letPass_47 rfl ?_
          refine hz_icmp_ge (tgt := 65) (n := 53) hC dX2_letPass_50 (by decide) rfl (fun _ => ?_) (fun _ => ?_)
          · refine hz_aload_n (a := 0) (n := 66) hC dX2_letPass_65 rfl rfl rfl ?_
            refine hz_callV (k := 0) (As := []) (st := []) (S1 := fun r => .int r :: []) (n := 69) hC (c_X2_isCallOver l g hg  M) kv_X2_isCallOver wd_3_12 hI dX2_letPass_66 rfl (hI.1 g 0 hg (by decide)) (he_X2 hg) rfl rfl rfl (Nat.le_of_ble_eq_true rfl) ⟨Nat.le_of_ble_eq_true rfl, Nat.le_of_ble_eq_true rfl⟩ ⟨Nat.zero_le _, Nat.zero_le _⟩ (fun _ => rfl) rfl (fun r3 M3 _ => ?_)
            refine hz_if_eq (tgt := 104) (n := 72) hC dX2_letPass_69 (by decide) rfl (fun _ => ?_) (fun _ => ?_)
            · refine hz_L (L' := [(0, .ref (adr g 0)), (1, .int a0), (2, .int k44_2), (3, .int k44_3)]) [0, 1, 2, 3] rfl ?_
              exact j104 _ _ _
            · refine hz_aload_n (a := 0) (n := 73) hC dX2_letPass_72 rfl rfl rfl ?_
              refine fg_X2_25 (n := 76) hC hg hI dX2_letPass_73 rfl ?_
              refine hz_iconst (v := (2 : Int32)) (n := 77) hC dX2_letPass_76 (by decide +kernel) rfl ?_
              refine hz_dup2 (n := 78) hC dX2_letPass_77 rfl rfl rfl ?_
              refine hz_ialdc (k := 2) (n := 79) hC (by decide +kernel) (by decide) dX2_letPass_78 (hI.1 g 2 hg (by decide)) (ha_h2 hg) rfl ?_
              refine hz_aload_n (a := 0) (n := 80) hC dX2_letPass_79 rfl rfl rfl ?_
              refine fg_X2_37 (n := 83) hC hg hI dX2_letPass_80 rfl ?_
              refine fg_X2_102 (n := 86) hC hg hI dX2_letPass_83 rfl ?_
              refine hz_if_le (tgt := 93) (n := 89) hC dX2_letPass_86 (by decide) rfl (fun _ => ?_) (fun _ => ?_)
              · refine hz_iconst (v := (0 : Int32)) (n := 94) hC dX2_letPass_93 (by decide +kernel) rfl ?_
                refine hz_L (L' := [(0, .ref (adr g 0)), (1, .int a0), (2, .int k44_2), (3, .int k44_3)]) [0, 1, 2, 3] rfl ?_
                exact j94 _ _ _ _ _ _
              · refine hz_iconst (v := (1 : Int32)) (n := 90) hC dX2_letPass_89 (by decide +kernel) rfl ?_
                refine hz_goto (n := 94) hC dX2_letPass_90 (by decide) ?_
                refine hz_L (L' := [(0, .ref (adr g 0)), (1, .int a0), (2, .int k44_2), (3, .int k44_3)]) [0, 1, 2, 3] rfl ?_
                exact j94 _ _ _ _ _ _
          · refine hz_aload_n (a := 0) (n := 54) hC dX2_letPass_53 rfl rfl rfl ?_
            refine hz_iload (a := 4) (n := 56) hC dX2_letPass_54 rfl rfl ?_
            refine hz_callV (k := 1) (As := [.int x4]) (st := []) (S1 := fun _ => []) (n := 59) hC (c_X2_comeDown l g x4 hg  M) kv_X2_comeDown wd_3_0 hI dX2_letPass_56 rfl (hI.1 g 0 hg (by decide)) (he_X2 hg) rfl rfl rfl (Nat.le_of_ble_eq_true rfl) ⟨Nat.le_of_ble_eq_true rfl, Nat.le_of_ble_eq_true rfl⟩ ⟨Nat.zero_le _, Nat.zero_le _⟩ (fun _ => rfl) rfl (fun r11 M11 _ => ?_)
            refine hz_iinc (a := 4) (v := (x4 + (1 : Int32))) (L' := [(4, .int (x4 + (1 : Int32))), (0, .ref (adr g 0)), (1, .int a0), (2, .int k44_2), (3, .int k44_3)]) (n := 62) hC dX2_letPass_59 rfl rfl (by decide) rfl rfl ?_
            refine hz_goto (n := 44) hC dX2_letPass_62 (by decide) ?_
            refine hz_L (L' := [(0, .ref (adr g 0)), (1, .int a0), (2, .int k44_2), (3, .int k44_3), (4, .int (x4 + (1 : Int32)))]) [1, 2, 3, 4, 0] rfl ?_
            exact ih44 _ _
      have j41 : ∀ (y41_2 : Int32) (y41_3 : Int32) (M : hp_M), hp_Z p l e (hp_rm 3) s m args below meth c 5 A D ids adr adV cA 0 0 (MQ below (hp_Q A D ids adr adV cA rep hp_oi G0) args s 0 0 A) G0 rep 41 [(0, .ref (adr g 0)), (1, .int a0), (2, .int y41_2), (3, .int y41_3)] [] M (A_X2_letPass_41 g a0 (L_X2_letPass_14 g a0 n14) y41_2 y41_3 M) := by
        intro y41_2 y41_3 M
        unfold A_X2_letPass_41
        refine hz_iconst (v := (0 : Int32)) (n := 42) hC dX2_letPass_41 (by decide +kernel) rfl ?_
        refine hz_istore (L' := [(4, .int (0 : Int32)), (0, .ref (adr g 0)), (1, .int a0), (2, .int y41_2), (3, .int y41_3)]) (n := 44) hC dX2_letPass_42 (by decide) rfl rfl ?_
        refine hz_L (L' := [(0, .ref (adr g 0)), (1, .int a0), (2, .int y41_2), (3, .int y41_3), (4, .int (0 : Int32))]) [1, 2, 3, 4, 0] rfl ?_
        exact l44 _ _ hp_fu _ _
      refine hz_iload_n (a := 3) (n := 15) hC dX2_letPass_14 rfl rfl rfl ?_
      refine hz_iload_n (a := 1) (n := 16) hC dX2_letPass_15 rfl rfl rfl ?_
      refine hz_icmp_ge (tgt := 158) (n := 19) hC dX2_letPass_16 (by decide) rfl (fun _ => ?_) (fun _ => ?_)
      · refine hz_iload_n (a := 2) (n := 159) hC dX2_letPass_158 rfl rfl rfl ?_
        exact hz_iret hC hr dX2_letPass_159
      · refine hz_aload_n (a := 0) (n := 20) hC dX2_letPass_19 rfl rfl rfl ?_
        refine hz_callV (k := 0) (As := []) (st := []) (S1 := fun r => .int r :: []) (n := 23) hC (c_X2_isQuiet l g hg  M) kv_X2_isQuiet wd_2_220 hI dX2_letPass_20 rfl (hI.1 g 0 hg (by decide)) (he_X2 hg) rfl rfl rfl (Nat.le_of_ble_eq_true rfl) ⟨Nat.le_of_ble_eq_true rfl, Nat.le_of_ble_eq_true rfl⟩ ⟨Nat.zero_le _, Nat.zero_le _⟩ (fun _ => rfl) rfl (fun r1 M1 _ => ?_)
        refine hz_if_ne (tgt := 158) (n := 26) hC dX2_letPass_23 (by decide) rfl (fun _ => ?_) (fun _ => ?_)
        · refine hz_aload_n (a := 0) (n := 27) hC dX2_letPass_26 rfl rfl rfl ?_
          refine fg_X2_37 (n := 30) hC hg hI dX2_letPass_27 rfl ?_
          refine fg_X2_93 (n := 33) hC hg hI dX2_letPass_30 rfl ?_
          refine hz_iconst (v := (2 : Int32)) (n := 34) hC dX2_letPass_33 (by decide +kernel) rfl ?_
          refine hz_icmp_ne (tgt := 41) (n := 37) hC dX2_letPass_34 (by decide) rfl (fun _ => ?_) (fun _ => ?_)
          · refine hz_aload_n (a := 0) (n := 38) hC dX2_letPass_37 rfl rfl rfl ?_
            refine hz_callV (k := 0) (As := []) (st := []) (S1 := fun _ => []) (n := 41) hC (c_X2_speakOneMinute l g hg  M1) kv_X2_speakOneMinute wd_2_228 hI dX2_letPass_38 rfl (hI.1 g 0 hg (by decide)) (he_X2 hg) rfl rfl rfl (Nat.le_of_ble_eq_true rfl) ⟨Nat.le_of_ble_eq_true rfl, Nat.le_of_ble_eq_true rfl⟩ ⟨Nat.zero_le _, Nat.zero_le _⟩ (fun _ => rfl) rfl (fun r2 M2 _ => ?_)
            exact j41 _ _ _
          · exact j41 _ _ _
        · refine hz_iload_n (a := 2) (n := 159) hC dX2_letPass_158 rfl rfl rfl ?_
          exact hz_iret hC hr dX2_letPass_159
  refine hz_iconst (v := (0 : Int32)) (n := 1) hC dX2_letPass_0 (by decide +kernel) rfl ?_
  refine hz_istore_n (L' := [(2, .int (0 : Int32)), (0, .ref (adr g 0)), (1, .int a0)]) (n := 2) hC dX2_letPass_1 rfl (by decide) rfl rfl ?_
  refine hz_aload_n (a := 1) (n := 3) hC dX2_letPass_2 rfl rfl rfl ?_
  refine hz_dup (n := 4) hC dX2_letPass_3 rfl rfl ?_
  refine fg_X2_15 (n := 7) hC hg hI dX2_letPass_4 rfl ?_
  refine hz_iload_n (a := 2) (n := 8) hC dX2_letPass_7 rfl rfl rfl ?_
  refine hz_iadd (n := 9) hC dX2_letPass_8 rfl ?_
  refine fp_X2_15 (n := 12) hC hg hI ((M g 0 1) + a0) dX2_letPass_9 rfl ?_
  refine hz_iconst (v := (0 : Int32)) (n := 13) hC dX2_letPass_12 (by decide +kernel) rfl ?_
  refine hz_istore_n (L' := [(3, .int (0 : Int32)), (2, .int (0 : Int32)), (0, .ref (adr g 0)), (1, .int a0)]) (n := 14) hC dX2_letPass_13 rfl (by decide) rfl rfl ?_
  refine hz_L (L' := [(0, .ref (adr g 0)), (1, .int a0), (2, .int (0 : Int32)), (3, .int (0 : Int32))]) [2, 3, 1, 0] rfl ?_
  exact l14 hp_fu _ _ _
def L_X2_minutesTillSpeaking_2 (g : Nat) (a0 : Int32)   : Nat → Int32 → hp_M → Option (Int32 × hp_M)
  | 0, _, _ => none
  | n2 + 1, x2, M => (if (500 : Int32) < x2 then (some ((-1 : Int32), M)) else (hp_b (F_X2_isQuiet g M) (fun r1 M1 => (if r1 = 0 then (hp_b (F_X2_get g a0 (2 : Int32) M1) (fun r2 M2 => (if r2 = (3 : Int32) then (some (x2, M2)) else (hp_b (F_X2_letPass g (1 : Int32) M2) (fun r3 M3 => (L_X2_minutesTillSpeaking_2 g a0 n2 (x2 + (1 : Int32)) M3)))))) else (some ((-1 : Int32), M1))))))
def F_X2_minutesTillSpeaking (g : Nat) (a0 : Int32) (M : hp_M) : Option (Int32 × hp_M) := (L_X2_minutesTillSpeaking_2 g a0 hp_fu (0 : Int32) M)
set_option maxRecDepth 20000 in
set_option maxHeartbeats 4000000 in
theorem c_X2_minutesTillSpeaking (l : Launch) (g : Nat) (a0 : Int32) (hg : g < 12) (M : hp_M) : hp_Ct l yX2_minutesTillSpeaking cX2_minutesTillSpeaking 3 (some .int) 4 hp_IC (fun adr adV => [.ref (adr g 0), .int a0]) hp_oi M (F_X2_minutesTillSpeaking g a0 M) := by
  refine hp_start "HallPhone$House" (fun adr adV => [(0, .ref (adr g 0)), (1, .int a0)]) (by decide) rfl (fun _ _ => by simp only [lg_sl]; exact Nat.le_of_ble_eq_true rfl) (fun _ _ => rfl) ?_
  intro p e s m args below meth c A D ids adr adV cA rep G0 hI hC hr
  unfold F_X2_minutesTillSpeaking
  have l2 : ∀  (n2 : Nat) (x2 : Int32) (M : hp_M), hp_Z p l e (hp_rm 4) s m args below meth c 3 A D ids adr adV cA 0 0 (MQ below (hp_Q A D ids adr adV cA rep hp_oi G0) args s 0 0 A) G0 rep 2 [(0, .ref (adr g 0)), (1, .int a0), (2, .int x2)] [] M (L_X2_minutesTillSpeaking_2 g a0 n2 x2 M) := by
    intro  n2
    induction n2 with
    | zero => intro x2 M; exact hz_none hC
    | succ n2 ih2 =>
      intro x2 M
      rw [L_X2_minutesTillSpeaking_2.eq_2]
      refine hz_iload_n (a := 2) (n := 3) hC dX2_minutesTillSpeaking_2 rfl rfl rfl ?_
      refine hz_sipush (v := (500 : Int32)) (n := 6) hC dX2_minutesTillSpeaking_3 (by decide +kernel) rfl ?_
      refine hz_icmp_gt (tgt := 40) (n := 9) hC dX2_minutesTillSpeaking_6 (by decide) rfl (fun _ => ?_) (fun _ => ?_)
      · refine hz_iconst (v := (-1 : Int32)) (n := 41) hC dX2_minutesTillSpeaking_40 (by decide +kernel) rfl ?_
        exact hz_iret hC hr dX2_minutesTillSpeaking_41
      · refine hz_aload_n (a := 0) (n := 10) hC dX2_minutesTillSpeaking_9 rfl rfl rfl ?_
        refine hz_callV (k := 0) (As := []) (st := []) (S1 := fun r => .int r :: []) (n := 13) hC (c_X2_isQuiet l g hg  M) kv_X2_isQuiet wd_2_220 hI dX2_minutesTillSpeaking_10 rfl (hI.1 g 0 hg (by decide)) (he_X2 hg) rfl rfl rfl (Nat.le_of_ble_eq_true rfl) ⟨Nat.le_of_ble_eq_true rfl, Nat.le_of_ble_eq_true rfl⟩ ⟨Nat.zero_le _, Nat.zero_le _⟩ (fun _ => rfl) rfl (fun r1 M1 _ => ?_)
        refine hz_if_ne (tgt := 40) (n := 16) hC dX2_minutesTillSpeaking_13 (by decide) rfl (fun _ => ?_) (fun _ => ?_)
        · refine hz_aload_n (a := 0) (n := 17) hC dX2_minutesTillSpeaking_16 rfl rfl rfl ?_
          refine hz_iload_n (a := 1) (n := 18) hC dX2_minutesTillSpeaking_17 rfl rfl rfl ?_
          refine hz_iconst (v := (2 : Int32)) (n := 19) hC dX2_minutesTillSpeaking_18 (by decide +kernel) rfl ?_
          refine hz_callV (k := 2) (As := [.int a0, .int (2 : Int32)]) (st := []) (S1 := fun r => .int r :: []) (n := 22) hC (c_X2_get l g a0 (2 : Int32) hg  M1) kv_X2_get wd_2_148 hI dX2_minutesTillSpeaking_19 rfl (hI.1 g 0 hg (by decide)) (he_X2 hg) rfl rfl rfl (Nat.le_of_ble_eq_true rfl) ⟨Nat.le_of_ble_eq_true rfl, Nat.le_of_ble_eq_true rfl⟩ ⟨Nat.zero_le _, Nat.zero_le _⟩ (fun _ => rfl) rfl (fun r2 M2 _ => ?_)
          refine hz_iconst (v := (3 : Int32)) (n := 23) hC dX2_minutesTillSpeaking_22 (by decide +kernel) rfl ?_
          refine hz_icmp_ne (tgt := 28) (n := 26) hC dX2_minutesTillSpeaking_23 (by decide) rfl (fun _ => ?_) (fun _ => ?_)
          · refine hz_iload_n (a := 2) (n := 27) hC dX2_minutesTillSpeaking_26 rfl rfl rfl ?_
            exact hz_iret hC hr dX2_minutesTillSpeaking_27
          · refine hz_aload_n (a := 0) (n := 29) hC dX2_minutesTillSpeaking_28 rfl rfl rfl ?_
            refine hz_iconst (v := (1 : Int32)) (n := 30) hC dX2_minutesTillSpeaking_29 (by decide +kernel) rfl ?_
            refine hz_callV (k := 1) (As := [.int (1 : Int32)]) (st := []) (S1 := fun r => .int r :: []) (n := 33) hC (c_X2_letPass l g (1 : Int32) hg  M2) kv_X2_letPass wd_2_216 hI dX2_minutesTillSpeaking_30 rfl (hI.1 g 0 hg (by decide)) (he_X2 hg) rfl rfl rfl (Nat.le_of_ble_eq_true rfl) ⟨Nat.le_of_ble_eq_true rfl, Nat.le_of_ble_eq_true rfl⟩ ⟨Nat.zero_le _, Nat.zero_le _⟩ (fun _ => rfl) rfl (fun r3 M3 _ => ?_)
            refine hz_pop (n := 34) hC dX2_minutesTillSpeaking_33 rfl rfl ?_
            refine hz_iinc (a := 2) (v := (x2 + (1 : Int32))) (L' := [(2, .int (x2 + (1 : Int32))), (0, .ref (adr g 0)), (1, .int a0)]) (n := 37) hC dX2_minutesTillSpeaking_34 rfl rfl (by decide) rfl rfl ?_
            refine hz_goto (n := 2) hC dX2_minutesTillSpeaking_37 (by decide) ?_
            refine hz_L (L' := [(0, .ref (adr g 0)), (1, .int a0), (2, .int (x2 + (1 : Int32)))]) [1, 2, 0] rfl ?_
            exact ih2 _ _
        · refine hz_iconst (v := (-1 : Int32)) (n := 41) hC dX2_minutesTillSpeaking_40 (by decide +kernel) rfl ?_
          exact hz_iret hC hr dX2_minutesTillSpeaking_41
  refine hz_iconst (v := (0 : Int32)) (n := 1) hC dX2_minutesTillSpeaking_0 (by decide +kernel) rfl ?_
  refine hz_istore_n (L' := [(2, .int (0 : Int32)), (0, .ref (adr g 0)), (1, .int a0)]) (n := 2) hC dX2_minutesTillSpeaking_1 rfl (by decide) rfl rfl ?_
  refine hz_L (L' := [(0, .ref (adr g 0)), (1, .int a0), (2, .int (0 : Int32))]) [1, 2, 0] rfl ?_
  exact l2 hp_fu _ _
def L_X2_minutesTillFree_2 (g : Nat)   : Nat → Int32 → hp_M → Option (Int32 × hp_M)
  | 0, _, _ => none
  | n2 + 1, x1, M => (if (500 : Int32) < x1 then (some ((-1 : Int32), M)) else (if (M g 5 0) = 0 then (some (x1, M)) else (hp_b (F_X2_letPass g (1 : Int32) M) (fun r1 M1 => (L_X2_minutesTillFree_2 g n2 (x1 + (1 : Int32)) M1)))))
def F_X2_minutesTillFree (g : Nat) (M : hp_M) : Option (Int32 × hp_M) := (L_X2_minutesTillFree_2 g hp_fu (0 : Int32) M)
set_option maxRecDepth 20000 in
set_option maxHeartbeats 4000000 in
theorem c_X2_minutesTillFree (l : Launch) (g : Nat) (hg : g < 12) (M : hp_M) : hp_Ct l yX2_minutesTillFree cX2_minutesTillFree 2 (some .int) 4 hp_IC (fun adr adV => [.ref (adr g 0)]) hp_oi M (F_X2_minutesTillFree g M) := by
  refine hp_start "HallPhone$House" (fun adr adV => [(0, .ref (adr g 0))]) (by decide) rfl (fun _ _ => by simp only [lg_sl]; exact Nat.le_of_ble_eq_true rfl) (fun _ _ => rfl) ?_
  intro p e s m args below meth c A D ids adr adV cA rep G0 hI hC hr
  unfold F_X2_minutesTillFree
  have l2 : ∀  (n2 : Nat) (x1 : Int32) (M : hp_M), hp_Z p l e (hp_rm 4) s m args below meth c 2 A D ids adr adV cA 0 0 (MQ below (hp_Q A D ids adr adV cA rep hp_oi G0) args s 0 0 A) G0 rep 2 [(0, .ref (adr g 0)), (1, .int x1)] [] M (L_X2_minutesTillFree_2 g n2 x1 M) := by
    intro  n2
    induction n2 with
    | zero => intro x1 M; exact hz_none hC
    | succ n2 ih2 =>
      intro x1 M
      rw [L_X2_minutesTillFree_2.eq_2]
      refine hz_iload_n (a := 1) (n := 3) hC dX2_minutesTillFree_2 rfl rfl rfl ?_
      refine hz_sipush (v := (500 : Int32)) (n := 6) hC dX2_minutesTillFree_3 (by decide +kernel) rfl ?_
      refine hz_icmp_gt (tgt := 33) (n := 9) hC dX2_minutesTillFree_6 (by decide) rfl (fun _ => ?_) (fun _ => ?_)
      · refine hz_iconst (v := (-1 : Int32)) (n := 34) hC dX2_minutesTillFree_33 (by decide +kernel) rfl ?_
        exact hz_iret hC hr dX2_minutesTillFree_34
      · refine hz_aload_n (a := 0) (n := 10) hC dX2_minutesTillFree_9 rfl rfl rfl ?_
        refine fg_X2_37 (n := 13) hC hg hI dX2_minutesTillFree_10 rfl ?_
        refine fg_X2_93 (n := 16) hC hg hI dX2_minutesTillFree_13 rfl ?_
        refine hz_if_ne (tgt := 21) (n := 19) hC dX2_minutesTillFree_16 (by decide) rfl (fun _ => ?_) (fun _ => ?_)
        · refine hz_iload_n (a := 1) (n := 20) hC dX2_minutesTillFree_19 rfl rfl rfl ?_
          exact hz_iret hC hr dX2_minutesTillFree_20
        · refine hz_aload_n (a := 0) (n := 22) hC dX2_minutesTillFree_21 rfl rfl rfl ?_
          refine hz_iconst (v := (1 : Int32)) (n := 23) hC dX2_minutesTillFree_22 (by decide +kernel) rfl ?_
          refine hz_callV (k := 1) (As := [.int (1 : Int32)]) (st := []) (S1 := fun r => .int r :: []) (n := 26) hC (c_X2_letPass l g (1 : Int32) hg  M) kv_X2_letPass wd_2_216 hI dX2_minutesTillFree_23 rfl (hI.1 g 0 hg (by decide)) (he_X2 hg) rfl rfl rfl (Nat.le_of_ble_eq_true rfl) ⟨Nat.le_of_ble_eq_true rfl, Nat.le_of_ble_eq_true rfl⟩ ⟨Nat.zero_le _, Nat.zero_le _⟩ (fun _ => rfl) rfl (fun r1 M1 _ => ?_)
          refine hz_pop (n := 27) hC dX2_minutesTillFree_26 rfl rfl ?_
          refine hz_iinc (a := 1) (v := (x1 + (1 : Int32))) (L' := [(1, .int (x1 + (1 : Int32))), (0, .ref (adr g 0))]) (n := 30) hC dX2_minutesTillFree_27 rfl rfl (by decide) rfl rfl ?_
          refine hz_goto (n := 2) hC dX2_minutesTillFree_30 (by decide) ?_
          refine hz_L (L' := [(0, .ref (adr g 0)), (1, .int (x1 + (1 : Int32)))]) [1, 0] rfl ?_
          exact ih2 _ _
  refine hz_iconst (v := (0 : Int32)) (n := 1) hC dX2_minutesTillFree_0 (by decide +kernel) rfl ?_
  refine hz_istore_n (L' := [(1, .int (0 : Int32)), (0, .ref (adr g 0))]) (n := 2) hC dX2_minutesTillFree_1 rfl (by decide) rfl rfl ?_
  refine hz_L (L' := [(0, .ref (adr g 0)), (1, .int (0 : Int32))]) [1, 0] rfl ?_
  exact l2 hp_fu _ _
def L_X2_minutesTillAllSpoke_5 (g : Nat) (a0 : Int32) (a1 : Int32)   : Nat → Int32 → Int32 → hp_M → Option (Int32 × hp_M)
  | 0, _, _, _ => none
  | n5 + 1, x3, x4, M => (if a1 ≤ x4 then (some (a1, M)) else (if (500 : Int32) < x4 then (some (a1, M)) else (hp_b (F_X2_letPass g (1 : Int32) M) (fun r1 M1 => (hp_b (F_X2_flatsThatAre g (3 : Int32) M1) (fun r2 M2 => (if (x3 &&& (r2 ^^^ (-1 : Int32))) = 0 then (some (x4, M2)) else (L_X2_minutesTillAllSpoke_5 g a0 a1 n5 (x3 &&& (r2 ^^^ (-1 : Int32))) (x4 + (1 : Int32)) M2))))))))
def F_X2_minutesTillAllSpoke (g : Nat) (a0 : Int32) (a1 : Int32) (M : hp_M) : Option (Int32 × hp_M) := (L_X2_minutesTillAllSpoke_5 g a0 a1 hp_fu a0 (1 : Int32) M)
set_option maxRecDepth 20000 in
set_option maxHeartbeats 4000000 in
theorem c_X2_minutesTillAllSpoke (l : Launch) (g : Nat) (a0 : Int32) (a1 : Int32) (hg : g < 12) (M : hp_M) : hp_Ct l yX2_minutesTillAllSpoke cX2_minutesTillAllSpoke 5 (some .int) 4 hp_IC (fun adr adV => [.ref (adr g 0), .int a0, .int a1]) hp_oi M (F_X2_minutesTillAllSpoke g a0 a1 M) := by
  refine hp_start "HallPhone$House" (fun adr adV => [(0, .ref (adr g 0)), (1, .int a0), (2, .int a1)]) (by decide) rfl (fun _ _ => by simp only [lg_sl]; exact Nat.le_of_ble_eq_true rfl) (fun _ _ => rfl) ?_
  intro p e s m args below meth c A D ids adr adV cA rep G0 hI hC hr
  unfold F_X2_minutesTillAllSpoke
  have l5 : ∀  (n5 : Nat) (x3 : Int32) (x4 : Int32) (M : hp_M), hp_Z p l e (hp_rm 4) s m args below meth c 5 A D ids adr adV cA 0 0 (MQ below (hp_Q A D ids adr adV cA rep hp_oi G0) args s 0 0 A) G0 rep 5 [(0, .ref (adr g 0)), (2, .int a1), (3, .int x3), (4, .int x4)] [] M (L_X2_minutesTillAllSpoke_5 g a0 a1 n5 x3 x4 M) := by
    intro  n5
    induction n5 with
    | zero => intro x3 x4 M; exact hz_none hC
    | succ n5 ih5 =>
      intro x3 x4 M
      rw [L_X2_minutesTillAllSpoke_5.eq_2]
      refine hz_iload (a := 3) (n := 7) hC dX2_minutesTillAllSpoke_5 rfl rfl ?_
      refine hz_iload_n (a := 1) (n := 8) hC dX2_minutesTillAllSpoke_7 rfl rfl rfl ?_
      refine hz_icmp_ge (tgt := 48) (n := 11) hC dX2_minutesTillAllSpoke_8 (by decide) rfl (fun _ => ?_) (fun _ => ?_)
      · refine hz_iload_n (a := 1) (n := 49) hC dX2_minutesTillAllSpoke_48 rfl rfl rfl ?_
        exact hz_iret hC hr dX2_minutesTillAllSpoke_49
      · refine hz_iload (a := 3) (n := 13) hC dX2_minutesTillAllSpoke_11 rfl rfl ?_
        refine hz_sipush (v := (500 : Int32)) (n := 16) hC dX2_minutesTillAllSpoke_13 (by decide +kernel) rfl ?_
        refine hz_icmp_gt (tgt := 48) (n := 19) hC dX2_minutesTillAllSpoke_16 (by decide) rfl (fun _ => ?_) (fun _ => ?_)
        · refine hz_iload_n (a := 1) (n := 49) hC dX2_minutesTillAllSpoke_48 rfl rfl rfl ?_
          exact hz_iret hC hr dX2_minutesTillAllSpoke_49
        · refine hz_aload_n (a := 0) (n := 20) hC dX2_minutesTillAllSpoke_19 rfl rfl rfl ?_
          refine hz_iconst (v := (1 : Int32)) (n := 21) hC dX2_minutesTillAllSpoke_20 (by decide +kernel) rfl ?_
          refine hz_callV (k := 1) (As := [.int (1 : Int32)]) (st := []) (S1 := fun r => .int r :: []) (n := 24) hC (c_X2_letPass l g (1 : Int32) hg  M) kv_X2_letPass wd_2_216 hI dX2_minutesTillAllSpoke_21 rfl (hI.1 g 0 hg (by decide)) (he_X2 hg) rfl rfl rfl (Nat.le_of_ble_eq_true rfl) ⟨Nat.le_of_ble_eq_true rfl, Nat.le_of_ble_eq_true rfl⟩ ⟨Nat.zero_le _, Nat.zero_le _⟩ (fun _ => rfl) rfl (fun r1 M1 _ => ?_)
          refine hz_pop (n := 25) hC dX2_minutesTillAllSpoke_24 rfl rfl ?_
          refine hz_iload_n (a := 2) (n := 26) hC dX2_minutesTillAllSpoke_25 rfl rfl rfl ?_
          refine hz_aload_n (a := 0) (n := 27) hC dX2_minutesTillAllSpoke_26 rfl rfl rfl ?_
          refine hz_iconst (v := (3 : Int32)) (n := 28) hC dX2_minutesTillAllSpoke_27 (by decide +kernel) rfl ?_
          refine hz_callV (k := 1) (As := [.int (3 : Int32)]) (st := [.int x3]) (S1 := fun r => .int r :: [.int x3]) (n := 31) hC (c_X2_flatsThatAre l g (3 : Int32) hg  M1) kv_X2_flatsThatAre wd_2_224 hI dX2_minutesTillAllSpoke_28 rfl (hI.1 g 0 hg (by decide)) (he_X2 hg) rfl rfl rfl (Nat.le_of_ble_eq_true rfl) ⟨Nat.le_of_ble_eq_true rfl, Nat.le_of_ble_eq_true rfl⟩ ⟨Nat.zero_le _, Nat.zero_le _⟩ (fun _ => rfl) rfl (fun r2 M2 _ => ?_)
          refine hz_iconst (v := (-1 : Int32)) (n := 32) hC dX2_minutesTillAllSpoke_31 (by decide +kernel) rfl ?_
          refine hz_ixor (n := 33) hC dX2_minutesTillAllSpoke_32 rfl ?_
          refine hz_iand (n := 34) hC dX2_minutesTillAllSpoke_33 rfl ?_
          refine hz_istore_n (L' := [(3, .int (x3 &&& (r2 ^^^ (-1 : Int32)))), (0, .ref (adr g 0)), (2, .int a1), (4, .int x4)]) (n := 35) hC dX2_minutesTillAllSpoke_34 rfl (by decide) rfl rfl ?_
          refine hz_iload_n (a := 0) (n := 36) hC dX2_minutesTillAllSpoke_35 rfl rfl rfl ?_
          refine hz_if_ne (tgt := 42) (n := 39) hC dX2_minutesTillAllSpoke_36 (by decide) rfl (fun _ => ?_) (fun _ => ?_)
          · refine hz_iload (a := 3) (n := 41) hC dX2_minutesTillAllSpoke_39 rfl rfl ?_
            exact hz_iret hC hr dX2_minutesTillAllSpoke_41
          · refine hz_iinc (a := 3) (v := (x4 + (1 : Int32))) (L' := [(4, .int (x4 + (1 : Int32))), (3, .int (x3 &&& (r2 ^^^ (-1 : Int32)))), (0, .ref (adr g 0)), (2, .int a1)]) (n := 45) hC dX2_minutesTillAllSpoke_42 rfl rfl (by decide) rfl rfl ?_
            refine hz_goto (n := 5) hC dX2_minutesTillAllSpoke_45 (by decide) ?_
            refine hz_L (L' := [(0, .ref (adr g 0)), (2, .int a1), (3, .int (x3 &&& (r2 ^^^ (-1 : Int32)))), (4, .int (x4 + (1 : Int32)))]) [2, 3, 1, 0] rfl ?_
            exact ih5 _ _ _
  refine hz_iload_n (a := 1) (n := 1) hC dX2_minutesTillAllSpoke_0 rfl rfl rfl ?_
  refine hz_istore_n (L' := [(3, .int a0), (0, .ref (adr g 0)), (1, .int a0), (2, .int a1)]) (n := 2) hC dX2_minutesTillAllSpoke_1 rfl (by decide) rfl rfl ?_
  refine hz_iconst (v := (1 : Int32)) (n := 3) hC dX2_minutesTillAllSpoke_2 (by decide +kernel) rfl ?_
  refine hz_istore (L' := [(4, .int (1 : Int32)), (3, .int a0), (0, .ref (adr g 0)), (1, .int a0), (2, .int a1)]) (n := 5) hC dX2_minutesTillAllSpoke_3 (by decide) rfl rfl ?_
  refine hz_L (L' := [(0, .ref (adr g 0)), (2, .int a1), (3, .int a0), (4, .int (1 : Int32))]) [2, 4, 1, 0] rfl ?_
  exact l5 hp_fu _ _ _
def F_X2_setOut (g : Nat) (a0 : Int32) (a1 : Int32) (M : hp_M) : Option (Int32 × hp_M) := (hp_b (F_X2_get g a0 (0 : Int32) M) (fun r1 M1 => (hp_b (F_X2_put g a0 (2 : Int32) (1 : Int32) M1) (fun _ M2 => (hp_b (F_X2_put g a0 (3 : Int32) ((1 : Int32) + r1) M2) (fun _ M3 => (hp_b (F_X2_put g a0 (4 : Int32) a1 M3) (fun _ M4 => (some (((1 : Int32) + r1), M4))))))))))
set_option maxRecDepth 20000 in
set_option maxHeartbeats 4000000 in
theorem c_X2_setOut (l : Launch) (g : Nat) (a0 : Int32) (a1 : Int32) (hg : g < 12) (M : hp_M) : hp_Ct l yX2_setOut cX2_setOut 4 (some .int) 1 hp_IC (fun adr adV => [.ref (adr g 0), .int a0, .int a1]) hp_oi M (F_X2_setOut g a0 a1 M) := by
  refine hp_start "HallPhone$House" (fun adr adV => [(0, .ref (adr g 0)), (1, .int a0), (2, .int a1)]) (by decide) rfl (fun _ _ => by simp only [lg_sl]; exact Nat.le_of_ble_eq_true rfl) (fun _ _ => rfl) ?_
  intro p e s m args below meth c A D ids adr adV cA rep G0 hI hC hr
  unfold F_X2_setOut
  refine hz_iconst (v := (1 : Int32)) (n := 1) hC dX2_setOut_0 (by decide +kernel) rfl ?_
  refine hz_aload_n (a := 0) (n := 2) hC dX2_setOut_1 rfl rfl rfl ?_
  refine hz_iload_n (a := 1) (n := 3) hC dX2_setOut_2 rfl rfl rfl ?_
  refine hz_iconst (v := (0 : Int32)) (n := 4) hC dX2_setOut_3 (by decide +kernel) rfl ?_
  refine hz_callV (k := 2) (As := [.int a0, .int (0 : Int32)]) (st := [.int (1 : Int32)]) (S1 := fun r => .int r :: [.int (1 : Int32)]) (n := 7) hC (c_X2_get l g a0 (0 : Int32) hg  M) kv_X2_get wd_2_148 hI dX2_setOut_4 rfl (hI.1 g 0 hg (by decide)) (he_X2 hg) rfl rfl rfl (Nat.le_of_ble_eq_true rfl) ⟨Nat.le_of_ble_eq_true rfl, Nat.le_of_ble_eq_true rfl⟩ ⟨Nat.zero_le _, Nat.zero_le _⟩ (fun _ => rfl) rfl (fun r1 M1 _ => ?_)
  refine hz_iadd (n := 8) hC dX2_setOut_7 rfl ?_
  refine hz_istore_n (L' := [(3, .int ((1 : Int32) + r1)), (0, .ref (adr g 0)), (1, .int a0), (2, .int a1)]) (n := 9) hC dX2_setOut_8 rfl (by decide) rfl rfl ?_
  refine hz_aload_n (a := 1) (n := 10) hC dX2_setOut_9 rfl rfl rfl ?_
  refine hz_iload_n (a := 2) (n := 11) hC dX2_setOut_10 rfl rfl rfl ?_
  refine hz_iconst (v := (2 : Int32)) (n := 12) hC dX2_setOut_11 (by decide +kernel) rfl ?_
  refine hz_iconst (v := (1 : Int32)) (n := 13) hC dX2_setOut_12 (by decide +kernel) rfl ?_
  refine hz_callV (k := 3) (As := [.int a0, .int (2 : Int32), .int (1 : Int32)]) (st := []) (S1 := fun _ => []) (n := 16) hC (c_X2_put l g a0 (2 : Int32) (1 : Int32) hg  M1) kv_X2_put wd_2_119 hI dX2_setOut_13 rfl (hI.1 g 0 hg (by decide)) (he_X2 hg) rfl rfl rfl (Nat.le_of_ble_eq_true rfl) ⟨Nat.le_of_ble_eq_true rfl, Nat.le_of_ble_eq_true rfl⟩ ⟨Nat.zero_le _, Nat.zero_le _⟩ (fun _ => rfl) rfl (fun r2 M2 _ => ?_)
  refine hz_aload_n (a := 1) (n := 17) hC dX2_setOut_16 rfl rfl rfl ?_
  refine hz_iload_n (a := 2) (n := 18) hC dX2_setOut_17 rfl rfl rfl ?_
  refine hz_iconst (v := (3 : Int32)) (n := 19) hC dX2_setOut_18 (by decide +kernel) rfl ?_
  refine hz_iload_n (a := 0) (n := 20) hC dX2_setOut_19 rfl rfl rfl ?_
  refine hz_callV (k := 3) (As := [.int a0, .int (3 : Int32), .int ((1 : Int32) + r1)]) (st := []) (S1 := fun _ => []) (n := 23) hC (c_X2_put l g a0 (3 : Int32) ((1 : Int32) + r1) hg  M2) kv_X2_put wd_2_119 hI dX2_setOut_20 rfl (hI.1 g 0 hg (by decide)) (he_X2 hg) rfl rfl rfl (Nat.le_of_ble_eq_true rfl) ⟨Nat.le_of_ble_eq_true rfl, Nat.le_of_ble_eq_true rfl⟩ ⟨Nat.zero_le _, Nat.zero_le _⟩ (fun _ => rfl) rfl (fun r3 M3 _ => ?_)
  refine hz_aload_n (a := 1) (n := 24) hC dX2_setOut_23 rfl rfl rfl ?_
  refine hz_iload_n (a := 2) (n := 25) hC dX2_setOut_24 rfl rfl rfl ?_
  refine hz_iconst (v := (4 : Int32)) (n := 26) hC dX2_setOut_25 (by decide +kernel) rfl ?_
  refine hz_iload_n (a := 3) (n := 27) hC dX2_setOut_26 rfl rfl rfl ?_
  refine hz_callV (k := 3) (As := [.int a0, .int (4 : Int32), .int a1]) (st := []) (S1 := fun _ => []) (n := 30) hC (c_X2_put l g a0 (4 : Int32) a1 hg  M3) kv_X2_put wd_2_119 hI dX2_setOut_27 rfl (hI.1 g 0 hg (by decide)) (he_X2 hg) rfl rfl rfl (Nat.le_of_ble_eq_true rfl) ⟨Nat.le_of_ble_eq_true rfl, Nat.le_of_ble_eq_true rfl⟩ ⟨Nat.zero_le _, Nat.zero_le _⟩ (fun _ => rfl) rfl (fun r4 M4 _ => ?_)
  refine hz_iload_n (a := 0) (n := 31) hC dX2_setOut_30 rfl rfl rfl ?_
  exact hz_iret hC hr dX2_setOut_31
def F_X2_giveUp (g : Nat) (a0 : Int32) (M : hp_M) : Option (Int32 × hp_M) := (hp_b (F_X2_get g a0 (4 : Int32) M) (fun r1 M1 => (hp_b (F_X4_leave g a0 M1) (fun _ M2 => (hp_b (F_X2_put g a0 (2 : Int32) (0 : Int32) M2) (fun _ M3 => (hp_b (F_X2_put g a0 (3 : Int32) (0 : Int32) M3) (fun _ M4 => (hp_b (F_X2_put g a0 (4 : Int32) (0 : Int32) M4) (fun _ M5 => (some (r1, M5))))))))))))
set_option maxRecDepth 20000 in
set_option maxHeartbeats 4000000 in
theorem c_X2_giveUp (l : Launch) (g : Nat) (a0 : Int32) (hg : g < 12) (M : hp_M) : hp_Ct l yX2_giveUp cX2_giveUp 3 (some .int) 1 hp_IC (fun adr adV => [.ref (adr g 0), .int a0]) hp_oi M (F_X2_giveUp g a0 M) := by
  refine hp_start "HallPhone$House" (fun adr adV => [(0, .ref (adr g 0)), (1, .int a0)]) (by decide) rfl (fun _ _ => by simp only [lg_sl]; exact Nat.le_of_ble_eq_true rfl) (fun _ _ => rfl) ?_
  intro p e s m args below meth c A D ids adr adV cA rep G0 hI hC hr
  unfold F_X2_giveUp
  refine hz_aload_n (a := 0) (n := 1) hC dX2_giveUp_0 rfl rfl rfl ?_
  refine hz_iload_n (a := 1) (n := 2) hC dX2_giveUp_1 rfl rfl rfl ?_
  refine hz_iconst (v := (4 : Int32)) (n := 3) hC dX2_giveUp_2 (by decide +kernel) rfl ?_
  refine hz_callV (k := 2) (As := [.int a0, .int (4 : Int32)]) (st := []) (S1 := fun r => .int r :: []) (n := 6) hC (c_X2_get l g a0 (4 : Int32) hg  M) kv_X2_get wd_2_148 hI dX2_giveUp_3 rfl (hI.1 g 0 hg (by decide)) (he_X2 hg) rfl rfl rfl (Nat.le_of_ble_eq_true rfl) ⟨Nat.le_of_ble_eq_true rfl, Nat.le_of_ble_eq_true rfl⟩ ⟨Nat.zero_le _, Nat.zero_le _⟩ (fun _ => rfl) rfl (fun r1 M1 _ => ?_)
  refine hz_istore_n (L' := [(2, .int r1), (0, .ref (adr g 0)), (1, .int a0)]) (n := 7) hC dX2_giveUp_6 rfl (by decide) rfl rfl ?_
  refine hz_aload_n (a := 1) (n := 8) hC dX2_giveUp_7 rfl rfl rfl ?_
  refine fg_X2_44 (n := 11) hC hg hI dX2_giveUp_8 rfl ?_
  refine hz_iload_n (a := 2) (n := 12) hC dX2_giveUp_11 rfl rfl rfl ?_
  refine hz_callVN (k := 1) (As := [.int a0]) (st := []) (S1 := fun _ => []) (n := 15) hC (c_X4_leave l g a0 hg  M1) kv_X4_leave wd_2_176 hI dX2_giveUp_12 rfl (hI.1 g 6 hg (by decide)) (he_X4 hg) rfl rfl rfl (Nat.le_of_ble_eq_true rfl) ⟨Nat.le_of_ble_eq_true rfl, Nat.le_of_ble_eq_true rfl⟩ ⟨Nat.zero_le _, Nat.zero_le _⟩ (fun _ => rfl) rfl (fun r2 M2 _ => ?_)
  refine hz_aload_n (a := 1) (n := 16) hC dX2_giveUp_15 rfl rfl rfl ?_
  refine hz_iload_n (a := 2) (n := 17) hC dX2_giveUp_16 rfl rfl rfl ?_
  refine hz_iconst (v := (2 : Int32)) (n := 18) hC dX2_giveUp_17 (by decide +kernel) rfl ?_
  refine hz_iconst (v := (0 : Int32)) (n := 19) hC dX2_giveUp_18 (by decide +kernel) rfl ?_
  refine hz_callV (k := 3) (As := [.int a0, .int (2 : Int32), .int (0 : Int32)]) (st := []) (S1 := fun _ => []) (n := 22) hC (c_X2_put l g a0 (2 : Int32) (0 : Int32) hg  M2) kv_X2_put wd_2_119 hI dX2_giveUp_19 rfl (hI.1 g 0 hg (by decide)) (he_X2 hg) rfl rfl rfl (Nat.le_of_ble_eq_true rfl) ⟨Nat.le_of_ble_eq_true rfl, Nat.le_of_ble_eq_true rfl⟩ ⟨Nat.zero_le _, Nat.zero_le _⟩ (fun _ => rfl) rfl (fun r3 M3 _ => ?_)
  refine hz_aload_n (a := 1) (n := 23) hC dX2_giveUp_22 rfl rfl rfl ?_
  refine hz_iload_n (a := 2) (n := 24) hC dX2_giveUp_23 rfl rfl rfl ?_
  refine hz_iconst (v := (3 : Int32)) (n := 25) hC dX2_giveUp_24 (by decide +kernel) rfl ?_
  refine hz_iconst (v := (0 : Int32)) (n := 26) hC dX2_giveUp_25 (by decide +kernel) rfl ?_
  refine hz_callV (k := 3) (As := [.int a0, .int (3 : Int32), .int (0 : Int32)]) (st := []) (S1 := fun _ => []) (n := 29) hC (c_X2_put l g a0 (3 : Int32) (0 : Int32) hg  M3) kv_X2_put wd_2_119 hI dX2_giveUp_26 rfl (hI.1 g 0 hg (by decide)) (he_X2 hg) rfl rfl rfl (Nat.le_of_ble_eq_true rfl) ⟨Nat.le_of_ble_eq_true rfl, Nat.le_of_ble_eq_true rfl⟩ ⟨Nat.zero_le _, Nat.zero_le _⟩ (fun _ => rfl) rfl (fun r4 M4 _ => ?_)
  refine hz_aload_n (a := 1) (n := 30) hC dX2_giveUp_29 rfl rfl rfl ?_
  refine hz_iload_n (a := 2) (n := 31) hC dX2_giveUp_30 rfl rfl rfl ?_
  refine hz_iconst (v := (4 : Int32)) (n := 32) hC dX2_giveUp_31 (by decide +kernel) rfl ?_
  refine hz_iconst (v := (0 : Int32)) (n := 33) hC dX2_giveUp_32 (by decide +kernel) rfl ?_
  refine hz_callV (k := 3) (As := [.int a0, .int (4 : Int32), .int (0 : Int32)]) (st := []) (S1 := fun _ => []) (n := 36) hC (c_X2_put l g a0 (4 : Int32) (0 : Int32) hg  M4) kv_X2_put wd_2_119 hI dX2_giveUp_33 rfl (hI.1 g 0 hg (by decide)) (he_X2 hg) rfl rfl rfl (Nat.le_of_ble_eq_true rfl) ⟨Nat.le_of_ble_eq_true rfl, Nat.le_of_ble_eq_true rfl⟩ ⟨Nat.zero_le _, Nat.zero_le _⟩ (fun _ => rfl) rfl (fun r5 M5 _ => ?_)
  refine hz_iload_n (a := 0) (n := 37) hC dX2_giveUp_36 rfl rfl rfl ?_
  exact hz_iret hC hr dX2_giveUp_37
def A_X2_outcomeOfRing_28 (g : Nat) (a0 : Int32)  (y28_2 : Int32) (M : hp_M) : Option (Int32 × hp_M) := (if y28_2 = (2 : Int32) then (some ((1 : Int32), M)) else (if (8 : Int32) ≤ (M g 8 2) then (some ((3 : Int32), M)) else (some ((2 : Int32), M))))
def F_X2_outcomeOfRing (g : Nat) (a0 : Int32) (M : hp_M) : Option (Int32 × hp_M) := (hp_b (F_X2_get g a0 (2 : Int32) M) (fun r1 M1 => (if r1 = 0 then (hp_b (F_X2_get g a0 (0 : Int32) M1) (fun r2 M2 => (if (M2 g 1 5) < r2 then (A_X2_outcomeOfRing_28 g a0 r1 M2) else (some ((0 : Int32), M2))))) else (A_X2_outcomeOfRing_28 g a0 r1 M1))))
set_option maxRecDepth 20000 in
set_option maxHeartbeats 4000000 in
theorem c_X2_outcomeOfRing (l : Launch) (g : Nat) (a0 : Int32) (hg : g < 12) (M : hp_M) : hp_Ct l yX2_outcomeOfRing cX2_outcomeOfRing 3 (some .int) 1 hp_IC (fun adr adV => [.ref (adr g 0), .int a0]) hp_oi M (F_X2_outcomeOfRing g a0 M) := by
  refine hp_start "HallPhone$House" (fun adr adV => [(0, .ref (adr g 0)), (1, .int a0)]) (by decide) rfl (fun _ _ => by simp only [lg_sl]; exact Nat.le_of_ble_eq_true rfl) (fun _ _ => rfl) ?_
  intro p e s m args below meth c A D ids adr adV cA rep G0 hI hC hr
  unfold F_X2_outcomeOfRing
  have j28 : ∀ (y28_2 : Int32) (M : hp_M), hp_Z p l e (hp_rm 1) s m args below meth c 3 A D ids adr adV cA 0 0 (MQ below (hp_Q A D ids adr adV cA rep hp_oi G0) args s 0 0 A) G0 rep 28 [(0, .ref (adr g 0)), (2, .int y28_2)] [] M (A_X2_outcomeOfRing_28 g a0 y28_2 M) := by
    intro y28_2 M
    unfold A_X2_outcomeOfRing_28
    refine hz_iload_n (a := 1) (n := 29) hC dX2_outcomeOfRing_28 rfl rfl rfl ?_
    refine hz_iconst (v := (2 : Int32)) (n := 30) hC dX2_outcomeOfRing_29 (by decide +kernel) rfl ?_
    refine hz_icmp_ne (tgt := 35) (n := 33) hC dX2_outcomeOfRing_30 (by decide) rfl (fun _ => ?_) (fun _ => ?_)
    · refine hz_iconst (v := (1 : Int32)) (n := 34) hC dX2_outcomeOfRing_33 (by decide +kernel) rfl ?_
      exact hz_iret hC hr dX2_outcomeOfRing_34
    · refine hz_aload_n (a := 0) (n := 36) hC dX2_outcomeOfRing_35 rfl rfl rfl ?_
      refine fg_X2_51 (n := 39) hC hg hI dX2_outcomeOfRing_36 rfl ?_
      refine fg_X2_74 (n := 42) hC hg hI dX2_outcomeOfRing_39 rfl ?_
      refine hz_bipush (v := (8 : Int32)) (n := 44) hC dX2_outcomeOfRing_42 (by decide +kernel) rfl ?_
      refine hz_icmp_ge (tgt := 51) (n := 47) hC dX2_outcomeOfRing_44 (by decide) rfl (fun _ => ?_) (fun _ => ?_)
      · refine hz_iconst (v := (3 : Int32)) (n := 52) hC dX2_outcomeOfRing_51 (by decide +kernel) rfl ?_
        exact hz_iret hC hr dX2_outcomeOfRing_52
      · refine hz_iconst (v := (2 : Int32)) (n := 48) hC dX2_outcomeOfRing_47 (by decide +kernel) rfl ?_
        refine hz_goto (n := 52) hC dX2_outcomeOfRing_48 (by decide) ?_
        exact hz_iret hC hr dX2_outcomeOfRing_52
  refine hz_aload_n (a := 0) (n := 1) hC dX2_outcomeOfRing_0 rfl rfl rfl ?_
  refine hz_iload_n (a := 1) (n := 2) hC dX2_outcomeOfRing_1 rfl rfl rfl ?_
  refine hz_iconst (v := (2 : Int32)) (n := 3) hC dX2_outcomeOfRing_2 (by decide +kernel) rfl ?_
  refine hz_callV (k := 2) (As := [.int a0, .int (2 : Int32)]) (st := []) (S1 := fun r => .int r :: []) (n := 6) hC (c_X2_get l g a0 (2 : Int32) hg  M) kv_X2_get wd_2_148 hI dX2_outcomeOfRing_3 rfl (hI.1 g 0 hg (by decide)) (he_X2 hg) rfl rfl rfl (Nat.le_of_ble_eq_true rfl) ⟨Nat.le_of_ble_eq_true rfl, Nat.le_of_ble_eq_true rfl⟩ ⟨Nat.zero_le _, Nat.zero_le _⟩ (fun _ => rfl) rfl (fun r1 M1 _ => ?_)
  refine hz_istore_n (L' := [(2, .int r1), (0, .ref (adr g 0)), (1, .int a0)]) (n := 7) hC dX2_outcomeOfRing_6 rfl (by decide) rfl rfl ?_
  refine hz_iload_n (a := 0) (n := 8) hC dX2_outcomeOfRing_7 rfl rfl rfl ?_
  refine hz_if_ne (tgt := 28) (n := 11) hC dX2_outcomeOfRing_8 (by decide) rfl (fun _ => ?_) (fun _ => ?_)
  · refine hz_aload_n (a := 1) (n := 12) hC dX2_outcomeOfRing_11 rfl rfl rfl ?_
    refine hz_iload_n (a := 2) (n := 13) hC dX2_outcomeOfRing_12 rfl rfl rfl ?_
    refine hz_iconst (v := (0 : Int32)) (n := 14) hC dX2_outcomeOfRing_13 (by decide +kernel) rfl ?_
    refine hz_callV (k := 2) (As := [.int a0, .int (0 : Int32)]) (st := []) (S1 := fun r => .int r :: []) (n := 17) hC (c_X2_get l g a0 (0 : Int32) hg  M1) kv_X2_get wd_2_148 hI dX2_outcomeOfRing_14 rfl (hI.1 g 0 hg (by decide)) (he_X2 hg) rfl rfl rfl (Nat.le_of_ble_eq_true rfl) ⟨Nat.le_of_ble_eq_true rfl, Nat.le_of_ble_eq_true rfl⟩ ⟨Nat.zero_le _, Nat.zero_le _⟩ (fun _ => rfl) rfl (fun r2 M2 _ => ?_)
    refine hz_aload_n (a := 1) (n := 18) hC dX2_outcomeOfRing_17 rfl rfl rfl ?_
    refine fg_X2_21 (n := 21) hC hg hI dX2_outcomeOfRing_18 rfl ?_
    refine hz_iconst (v := (5 : Int32)) (n := 22) hC dX2_outcomeOfRing_21 (by decide +kernel) rfl ?_
    refine hz_ialdc (k := 5) (n := 23) hC (by decide +kernel) (by decide) dX2_outcomeOfRing_22 (hI.1 g 1 hg (by decide)) (ha_h1 hg) rfl ?_
    refine hz_icmp_gt (tgt := 28) (n := 26) hC dX2_outcomeOfRing_23 (by decide) rfl (fun _ => ?_) (fun _ => ?_)
    · refine hz_L (L' := [(0, .ref (adr g 0)), (2, .int r1)]) [1, 0] rfl ?_
      exact j28 _ _
    · refine hz_iconst (v := (0 : Int32)) (n := 27) hC dX2_outcomeOfRing_26 (by decide +kernel) rfl ?_
      exact hz_iret hC hr dX2_outcomeOfRing_27
  · refine hz_L (L' := [(0, .ref (adr g 0)), (2, .int r1)]) [1, 0] rfl ?_
    exact j28 _ _
def F_X2_takeRing (g : Nat) (a0 : Int32) (a1 : Int32) (M : hp_M) : Option (Int32 × hp_M) := (hp_b (F_X2_outcomeOfRing g a0 M) (fun r1 M1 => (if r1 = (0 : Int32) then (hp_b (F_X2_setOut g a0 (0 : Int32) M1) (fun r2 M2 => (hp_b (F_X3_holdFor g a0 a1 M2) (fun _ M3 => (some (r1, M3)))))) else (if r1 = (1 : Int32) then (hp_b (F_X2_connect g a0 a1 (1 : Int32) M1) (fun _ M4 => (some (r1, M4)))) else (if r1 = (2 : Int32) then (hp_b (F_X6_write g a0 (M1 g 0 1) M1) (fun _ M5 => (some (r1, (hp_p M5 g 2 6 ((M5 g 2 6) + (1 : Int32))))))) else (some (r1, (hp_p M1 g 2 8 ((M1 g 2 8) + (1 : Int32))))))))))
set_option maxRecDepth 20000 in
set_option maxHeartbeats 4000000 in
theorem c_X2_takeRing (l : Launch) (g : Nat) (a0 : Int32) (a1 : Int32) (hg : g < 12) (M : hp_M) : hp_Ct l yX2_takeRing cX2_takeRing 4 (some .int) 2 hp_IC (fun adr adV => [.ref (adr g 0), .int a0, .int a1]) hp_oi M (F_X2_takeRing g a0 a1 M) := by
  refine hp_start "HallPhone$House" (fun adr adV => [(0, .ref (adr g 0)), (1, .int a0), (2, .int a1)]) (by decide) rfl (fun _ _ => by simp only [lg_sl]; exact Nat.le_of_ble_eq_true rfl) (fun _ _ => rfl) ?_
  intro p e s m args below meth c A D ids adr adV cA rep G0 hI hC hr
  unfold F_X2_takeRing
  refine hz_aload_n (a := 0) (n := 1) hC dX2_takeRing_0 rfl rfl rfl ?_
  refine hz_iload_n (a := 1) (n := 2) hC dX2_takeRing_1 rfl rfl rfl ?_
  refine hz_callV (k := 1) (As := [.int a0]) (st := []) (S1 := fun r => .int r :: []) (n := 5) hC (c_X2_outcomeOfRing l g a0 hg  M) kv_X2_outcomeOfRing wd_2_192 hI dX2_takeRing_2 rfl (hI.1 g 0 hg (by decide)) (he_X2 hg) rfl rfl rfl (Nat.le_of_ble_eq_true rfl) ⟨Nat.le_of_ble_eq_true rfl, Nat.le_of_ble_eq_true rfl⟩ ⟨Nat.zero_le _, Nat.zero_le _⟩ (fun _ => rfl) rfl (fun r1 M1 _ => ?_)
  refine hz_istore_n (L' := [(3, .int r1), (0, .ref (adr g 0)), (1, .int a0), (2, .int a1)]) (n := 6) hC dX2_takeRing_5 rfl (by decide) rfl rfl ?_
  refine hz_iload_n (a := 0) (n := 7) hC dX2_takeRing_6 rfl rfl rfl ?_
  refine hz_case (fun hk0 => ?_) (fun hk0 => ?_)
  · refine hz_tabIn (n := 32) hC hk0 dX2_takeRing_7 (by decide +kernel) (by decide +kernel) (by rfl) (by decide +kernel) ?_
    refine hz_aload_n (a := 1) (n := 33) hC dX2_takeRing_32 rfl rfl rfl ?_
    refine hz_iload_n (a := 2) (n := 34) hC dX2_takeRing_33 rfl rfl rfl ?_
    refine hz_iconst (v := (0 : Int32)) (n := 35) hC dX2_takeRing_34 (by decide +kernel) rfl ?_
    refine hz_callV (k := 2) (As := [.int a0, .int (0 : Int32)]) (st := []) (S1 := fun r => .int r :: []) (n := 38) hC (c_X2_setOut l g a0 (0 : Int32) hg  M1) kv_X2_setOut wd_2_168 hI dX2_takeRing_35 rfl (hI.1 g 0 hg (by decide)) (he_X2 hg) rfl rfl rfl (Nat.le_of_ble_eq_true rfl) ⟨Nat.le_of_ble_eq_true rfl, Nat.le_of_ble_eq_true rfl⟩ ⟨Nat.zero_le _, Nat.zero_le _⟩ (fun _ => rfl) rfl (fun r2 M2 _ => ?_)
    refine hz_pop (n := 39) hC dX2_takeRing_38 rfl rfl ?_
    refine hz_aload_n (a := 1) (n := 40) hC dX2_takeRing_39 rfl rfl rfl ?_
    refine fg_X2_37 (n := 43) hC hg hI dX2_takeRing_40 rfl ?_
    refine hz_iload_n (a := 2) (n := 44) hC dX2_takeRing_43 rfl rfl rfl ?_
    refine hz_iload_n (a := 3) (n := 45) hC dX2_takeRing_44 rfl rfl rfl ?_
    refine hz_callVN (k := 2) (As := [.int a0, .int a1]) (st := []) (S1 := fun _ => []) (n := 48) hC (c_X3_holdFor l g a0 a1 hg  M2) kv_X3_holdFor wd_2_196 hI dX2_takeRing_45 rfl (hI.1 g 5 hg (by decide)) (he_X3 hg) rfl rfl rfl (Nat.le_of_ble_eq_true rfl) ⟨Nat.le_of_ble_eq_true rfl, Nat.le_of_ble_eq_true rfl⟩ ⟨Nat.zero_le _, Nat.zero_le _⟩ (fun _ => rfl) rfl (fun r3 M3 _ => ?_)
    refine hz_goto (n := 98) hC dX2_takeRing_48 (by decide) ?_
    refine hz_iload_n (a := 0) (n := 99) hC dX2_takeRing_98 rfl rfl rfl ?_
    exact hz_iret hC hr dX2_takeRing_99
  refine hz_case (fun hk1 => ?_) (fun hk1 => ?_)
  · refine hz_tabIn (n := 51) hC hk1 dX2_takeRing_7 (by decide +kernel) (by decide +kernel) (by rfl) (by decide +kernel) ?_
    refine hz_aload_n (a := 1) (n := 52) hC dX2_takeRing_51 rfl rfl rfl ?_
    refine hz_iload_n (a := 2) (n := 53) hC dX2_takeRing_52 rfl rfl rfl ?_
    refine hz_iload_n (a := 3) (n := 54) hC dX2_takeRing_53 rfl rfl rfl ?_
    refine hz_iconst (v := (1 : Int32)) (n := 55) hC dX2_takeRing_54 (by decide +kernel) rfl ?_
    refine hz_callV (k := 3) (As := [.int a0, .int a1, .int (1 : Int32)]) (st := []) (S1 := fun _ => []) (n := 58) hC (c_X2_connect l g a0 a1 (1 : Int32) hg  M1) kv_X2_connect wd_2_200 hI dX2_takeRing_55 rfl (hI.1 g 0 hg (by decide)) (he_X2 hg) rfl rfl rfl (Nat.le_of_ble_eq_true rfl) ⟨Nat.le_of_ble_eq_true rfl, Nat.le_of_ble_eq_true rfl⟩ ⟨Nat.zero_le _, Nat.zero_le _⟩ (fun _ => rfl) rfl (fun r4 M4 _ => ?_)
    refine hz_goto (n := 98) hC dX2_takeRing_58 (by decide) ?_
    refine hz_iload_n (a := 0) (n := 99) hC dX2_takeRing_98 rfl rfl rfl ?_
    exact hz_iret hC hr dX2_takeRing_99
  refine hz_case (fun hk2 => ?_) (fun hk2 => ?_)
  · refine hz_tabIn (n := 61) hC hk2 dX2_takeRing_7 (by decide +kernel) (by decide +kernel) (by rfl) (by decide +kernel) ?_
    refine hz_aload_n (a := 1) (n := 62) hC dX2_takeRing_61 rfl rfl rfl ?_
    refine fg_X2_51 (n := 65) hC hg hI dX2_takeRing_62 rfl ?_
    refine hz_iload_n (a := 2) (n := 66) hC dX2_takeRing_65 rfl rfl rfl ?_
    refine hz_aload_n (a := 1) (n := 67) hC dX2_takeRing_66 rfl rfl rfl ?_
    refine fg_X2_15 (n := 70) hC hg hI dX2_takeRing_67 rfl ?_
    refine hz_callVN (k := 2) (As := [.int a0, .int (M1 g 0 1)]) (st := []) (S1 := fun _ => []) (n := 73) hC (c_X6_write l g a0 (M1 g 0 1) hg  M1) kv_X6_write wd_2_208 hI dX2_takeRing_70 rfl (hI.1 g 8 hg (by decide)) (he_X6 hg) rfl rfl rfl (Nat.le_of_ble_eq_true rfl) ⟨Nat.le_of_ble_eq_true rfl, Nat.le_of_ble_eq_true rfl⟩ ⟨Nat.zero_le _, Nat.zero_le _⟩ (fun _ => rfl) rfl (fun r5 M5 _ => ?_)
    refine hz_aload_n (a := 1) (n := 74) hC dX2_takeRing_73 rfl rfl rfl ?_
    refine fg_X2_25 (n := 77) hC hg hI dX2_takeRing_74 rfl ?_
    refine hz_bipush (v := (6 : Int32)) (n := 79) hC dX2_takeRing_77 (by decide +kernel) rfl ?_
    refine hz_dup2 (n := 80) hC dX2_takeRing_79 rfl rfl rfl ?_
    refine hz_ialdc (k := 6) (n := 81) hC (by decide +kernel) (by decide) dX2_takeRing_80 (hI.1 g 2 hg (by decide)) (ha_h2 hg) rfl ?_
    refine hz_iconst (v := (1 : Int32)) (n := 82) hC dX2_takeRing_81 (by decide +kernel) rfl ?_
    refine hz_iadd (n := 83) hC dX2_takeRing_82 rfl ?_
    refine hz_iastc (k := 6) (n := 84) hC (by decide +kernel) (by decide) dX2_takeRing_83 (hI.1 g 2 hg (by decide)) (ha_h2 hg) rfl ?_
    refine hz_goto (n := 98) hC dX2_takeRing_84 (by decide) ?_
    refine hz_iload_n (a := 0) (n := 99) hC dX2_takeRing_98 rfl rfl rfl ?_
    exact hz_iret hC hr dX2_takeRing_99
  refine hz_tabOut (n := 87) hC (hp_out 3 (by decide) (fun k hk => by
    rcases (show k = 0 ∨ k = 1 ∨ k = 2 by omega) with rfl | rfl | rfl
    · exact fun e => hk0 (Int32.toInt_inj.mp (e.trans (by decide +kernel)))
    · exact fun e => hk1 (Int32.toInt_inj.mp (e.trans (by decide +kernel)))
    · exact fun e => hk2 (Int32.toInt_inj.mp (e.trans (by decide +kernel)))
    )) dX2_takeRing_7 (by decide +kernel) ?_
  refine hz_aload_n (a := 1) (n := 88) hC dX2_takeRing_87 rfl rfl rfl ?_
  refine fg_X2_25 (n := 91) hC hg hI dX2_takeRing_88 rfl ?_
  refine hz_bipush (v := (8 : Int32)) (n := 93) hC dX2_takeRing_91 (by decide +kernel) rfl ?_
  refine hz_dup2 (n := 94) hC dX2_takeRing_93 rfl rfl rfl ?_
  refine hz_ialdc (k := 8) (n := 95) hC (by decide +kernel) (by decide) dX2_takeRing_94 (hI.1 g 2 hg (by decide)) (ha_h2 hg) rfl ?_
  refine hz_iconst (v := (1 : Int32)) (n := 96) hC dX2_takeRing_95 (by decide +kernel) rfl ?_
  refine hz_iadd (n := 97) hC dX2_takeRing_96 rfl ?_
  refine hz_iastc (k := 8) (n := 98) hC (by decide +kernel) (by decide) dX2_takeRing_97 (hI.1 g 2 hg (by decide)) (ha_h2 hg) rfl ?_
  refine hz_iload_n (a := 0) (n := 99) hC dX2_takeRing_98 rfl rfl rfl ?_
  exact hz_iret hC hr dX2_takeRing_99
def F_X2_takeMoney (g : Nat) (a0 : Int32) (a1 : Int32) (M : hp_M) : Option (Int32 × hp_M) := (hp_b (F_X2_get g a0 (6 : Int32) M) (fun r1 M1 => (hp_b (F_X2_put g a0 (6 : Int32) (r1 - a1) M1) (fun _ M2 => (some ((r1 - a1), (hp_p M2 g 2 5 ((M2 g 2 5) + a1))))))))
set_option maxRecDepth 20000 in
set_option maxHeartbeats 4000000 in
theorem c_X2_takeMoney (l : Launch) (g : Nat) (a0 : Int32) (a1 : Int32) (hg : g < 12) (M : hp_M) : hp_Ct l yX2_takeMoney cX2_takeMoney 4 (some .int) 1 hp_IC (fun adr adV => [.ref (adr g 0), .int a0, .int a1]) hp_oi M (F_X2_takeMoney g a0 a1 M) := by
  refine hp_start "HallPhone$House" (fun adr adV => [(0, .ref (adr g 0)), (1, .int a0), (2, .int a1)]) (by decide) rfl (fun _ _ => by simp only [lg_sl]; exact Nat.le_of_ble_eq_true rfl) (fun _ _ => rfl) ?_
  intro p e s m args below meth c A D ids adr adV cA rep G0 hI hC hr
  unfold F_X2_takeMoney
  refine hz_aload_n (a := 0) (n := 1) hC dX2_takeMoney_0 rfl rfl rfl ?_
  refine hz_iload_n (a := 1) (n := 2) hC dX2_takeMoney_1 rfl rfl rfl ?_
  refine hz_bipush (v := (6 : Int32)) (n := 4) hC dX2_takeMoney_2 (by decide +kernel) rfl ?_
  refine hz_callV (k := 2) (As := [.int a0, .int (6 : Int32)]) (st := []) (S1 := fun r => .int r :: []) (n := 7) hC (c_X2_get l g a0 (6 : Int32) hg  M) kv_X2_get wd_2_148 hI dX2_takeMoney_4 rfl (hI.1 g 0 hg (by decide)) (he_X2 hg) rfl rfl rfl (Nat.le_of_ble_eq_true rfl) ⟨Nat.le_of_ble_eq_true rfl, Nat.le_of_ble_eq_true rfl⟩ ⟨Nat.zero_le _, Nat.zero_le _⟩ (fun _ => rfl) rfl (fun r1 M1 _ => ?_)
  refine hz_iload_n (a := 2) (n := 8) hC dX2_takeMoney_7 rfl rfl rfl ?_
  refine hz_isub (n := 9) hC dX2_takeMoney_8 rfl ?_
  refine hz_istore_n (L' := [(3, .int (r1 - a1)), (0, .ref (adr g 0)), (1, .int a0), (2, .int a1)]) (n := 10) hC dX2_takeMoney_9 rfl (by decide) rfl rfl ?_
  refine hz_aload_n (a := 1) (n := 11) hC dX2_takeMoney_10 rfl rfl rfl ?_
  refine hz_iload_n (a := 2) (n := 12) hC dX2_takeMoney_11 rfl rfl rfl ?_
  refine hz_bipush (v := (6 : Int32)) (n := 14) hC dX2_takeMoney_12 (by decide +kernel) rfl ?_
  refine hz_iload_n (a := 0) (n := 15) hC dX2_takeMoney_14 rfl rfl rfl ?_
  refine hz_callV (k := 3) (As := [.int a0, .int (6 : Int32), .int (r1 - a1)]) (st := []) (S1 := fun _ => []) (n := 18) hC (c_X2_put l g a0 (6 : Int32) (r1 - a1) hg  M1) kv_X2_put wd_2_119 hI dX2_takeMoney_15 rfl (hI.1 g 0 hg (by decide)) (he_X2 hg) rfl rfl rfl (Nat.le_of_ble_eq_true rfl) ⟨Nat.le_of_ble_eq_true rfl, Nat.le_of_ble_eq_true rfl⟩ ⟨Nat.zero_le _, Nat.zero_le _⟩ (fun _ => rfl) rfl (fun r2 M2 _ => ?_)
  refine hz_aload_n (a := 1) (n := 19) hC dX2_takeMoney_18 rfl rfl rfl ?_
  refine fg_X2_25 (n := 22) hC hg hI dX2_takeMoney_19 rfl ?_
  refine hz_iconst (v := (5 : Int32)) (n := 23) hC dX2_takeMoney_22 (by decide +kernel) rfl ?_
  refine hz_dup2 (n := 24) hC dX2_takeMoney_23 rfl rfl rfl ?_
  refine hz_ialdc (k := 5) (n := 25) hC (by decide +kernel) (by decide) dX2_takeMoney_24 (hI.1 g 2 hg (by decide)) (ha_h2 hg) rfl ?_
  refine hz_iload_n (a := 3) (n := 26) hC dX2_takeMoney_25 rfl rfl rfl ?_
  refine hz_iadd (n := 27) hC dX2_takeMoney_26 rfl ?_
  refine hz_iastc (k := 5) (n := 28) hC (by decide +kernel) (by decide) dX2_takeMoney_27 (hI.1 g 2 hg (by decide)) (ha_h2 hg) rfl ?_
  refine hz_iload_n (a := 0) (n := 29) hC dX2_takeMoney_28 rfl rfl rfl ?_
  exact hz_iret hC hr dX2_takeMoney_29
