def L_X8_appendFourBytes_3 (a0 : Int32)   : Nat → Int32 → hp_M → Option (Unit × hp_M)
  | 0, _, _ => none
  | n3 + 1, x2, M => (if x2 < 0 then (some ((), M)) else (if (M 12 0 8) < 0 then (L_X8_appendFourBytes_3 a0 n3 (x2 + (-8 : Int32)) M) else (if (700 : Int32) ≤ (M 12 0 8) then (L_X8_appendFourBytes_3 a0 n3 (x2 + (-8 : Int32)) M) else (if (M 12 0 8) < 0 ∨ 700 ≤ ((M 12 0 8)).toNatClampNeg then none else (L_X8_appendFourBytes_3 a0 n3 (x2 + (-8 : Int32)) (hp_p (hp_p M 12 3 ((M 12 0 8)).toNatClampNeg (((a0.toUInt32 >>> (x2.toUInt32 &&& Int32.toUInt32 31)).toInt32) &&& (255 : Int32))) 12 0 8 (((hp_p M 12 3 ((M 12 0 8)).toNatClampNeg (((a0.toUInt32 >>> (x2.toUInt32 &&& Int32.toUInt32 31)).toInt32) &&& (255 : Int32))) 12 0 8) + (1 : Int32))))))))
def F_X8_appendFourBytes (a0 : Int32) (M : hp_M) : Option (Unit × hp_M) := (L_X8_appendFourBytes_3 a0 hp_fu (24 : Int32) M)
set_option maxRecDepth 20000 in
set_option maxHeartbeats 4000000 in
theorem c_X8_appendFourBytes (l : Launch) (a0 : Int32)  (M : hp_M) : hp_Ct l yX8_appendFourBytes cX8_appendFourBytes 3 none 0 hp_IC (fun adr adV => [.ref (adr 12 0), .int a0]) hp_oo M (F_X8_appendFourBytes a0 M) := by
  refine hp_start "HallPhone" (fun adr adV => [(0, .ref (adr 12 0)), (1, .int a0)]) (by decide) rfl (fun _ _ => by simp only [lg_sl]; exact Nat.le_of_ble_eq_true rfl) (fun _ _ => rfl) ?_
  intro p e s m args below meth c A D ids adr adV cA rep G0 hI hC hr
  unfold F_X8_appendFourBytes
  have l3 : ∀  (n3 : Nat) (x2 : Int32) (M : hp_M), hp_Z p l e (hp_rm 0) s m args below meth c 3 A D ids adr adV cA 0 0 (MQ below (hp_Q A D ids adr adV cA rep hp_oo G0) args s 0 0 A) G0 rep 3 [(0, .ref (adr 12 0)), (1, .int a0), (2, .int x2)] [] M (L_X8_appendFourBytes_3 a0 n3 x2 M) := by
    intro  n3
    induction n3 with
    | zero => intro x2 M; exact hz_none hC
    | succ n3 ih3 =>
      intro x2 M
      rw [L_X8_appendFourBytes_3.eq_2]
      refine hz_iload_n (a := 2) (n := 4) hC dX8_appendFourBytes_3 rfl rfl rfl ?_
      refine hz_if_lt (tgt := 58) (n := 7) hC dX8_appendFourBytes_4 (by decide) rfl (fun _ => ?_) (fun _ => ?_)
      · exact hz_vret hC hr dX8_appendFourBytes_58
      · refine hz_aload_n (a := 0) (n := 8) hC dX8_appendFourBytes_7 rfl rfl rfl ?_
        refine fg_X8_47 (n := 11) hC hI dX8_appendFourBytes_8 rfl ?_
        refine hz_if_lt (tgt := 52) (n := 14) hC dX8_appendFourBytes_11 (by decide) rfl (fun _ => ?_) (fun _ => ?_)
        · refine hz_iinc (a := 2) (v := (x2 + (-8 : Int32))) (L' := [(2, .int (x2 + (-8 : Int32))), (0, .ref (adr 12 0)), (1, .int a0)]) (n := 55) hC dX8_appendFourBytes_52 rfl rfl (by decide) rfl rfl ?_
          refine hz_goto (n := 3) hC dX8_appendFourBytes_55 (by decide) ?_
          refine hz_L (L' := [(0, .ref (adr 12 0)), (1, .int a0), (2, .int (x2 + (-8 : Int32)))]) [1, 2, 0] rfl ?_
          exact ih3 _ _
        · refine hz_aload_n (a := 0) (n := 15) hC dX8_appendFourBytes_14 rfl rfl rfl ?_
          refine fg_X8_47 (n := 18) hC hI dX8_appendFourBytes_15 rfl ?_
          refine hz_aload_n (a := 0) (n := 19) hC dX8_appendFourBytes_18 rfl rfl rfl ?_
          refine fg_X8_43 (n := 22) hC hI dX8_appendFourBytes_19 rfl ?_
          refine hz_alen (v := (700 : Int32)) (t := 0) (n := 23) hC dX8_appendFourBytes_22 (hI.2 3 (by decide)) ha_p3 rfl (by decide +kernel) rfl ?_
          refine hz_icmp_ge (tgt := 52) (n := 26) hC dX8_appendFourBytes_23 (by decide) rfl (fun _ => ?_) (fun _ => ?_)
          · refine hz_iinc (a := 2) (v := (x2 + (-8 : Int32))) (L' := [(2, .int (x2 + (-8 : Int32))), (0, .ref (adr 12 0)), (1, .int a0)]) (n := 55) hC dX8_appendFourBytes_52 rfl rfl (by decide) rfl rfl ?_
            refine hz_goto (n := 3) hC dX8_appendFourBytes_55 (by decide) ?_
            refine hz_L (L' := [(0, .ref (adr 12 0)), (1, .int a0), (2, .int (x2 + (-8 : Int32)))]) [1, 2, 0] rfl ?_
            exact ih3 _ _
          · refine hz_aload_n (a := 0) (n := 27) hC dX8_appendFourBytes_26 rfl rfl rfl ?_
            refine fg_X8_43 (n := 30) hC hI dX8_appendFourBytes_27 rfl ?_
            refine hz_aload_n (a := 0) (n := 31) hC dX8_appendFourBytes_30 rfl rfl rfl ?_
            refine fg_X8_47 (n := 34) hC hI dX8_appendFourBytes_31 rfl ?_
            refine hz_iload_n (a := 1) (n := 35) hC dX8_appendFourBytes_34 rfl rfl rfl ?_
            refine hz_iload_n (a := 2) (n := 36) hC dX8_appendFourBytes_35 rfl rfl rfl ?_
            refine hz_iushr (n := 37) hC dX8_appendFourBytes_36 rfl rfl ?_
            refine hz_sipush (v := (255 : Int32)) (n := 40) hC dX8_appendFourBytes_37 (by decide +kernel) rfl ?_
            refine hz_iand (n := 41) hC dX8_appendFourBytes_40 rfl ?_
            refine hz_iast (n := 42) hC dX8_appendFourBytes_41 (hI.2 3 (by decide)) ha_p3 rfl (fun _ => ?_)
            refine hz_aload_n (a := 0) (n := 43) hC dX8_appendFourBytes_42 rfl rfl rfl ?_
            refine hz_dup (n := 44) hC dX8_appendFourBytes_43 rfl rfl ?_
            refine fg_X8_47 (n := 47) hC hI dX8_appendFourBytes_44 rfl ?_
            refine hz_iconst (v := (1 : Int32)) (n := 48) hC dX8_appendFourBytes_47 (by decide +kernel) rfl ?_
            refine hz_iadd (n := 49) hC dX8_appendFourBytes_48 rfl ?_
            refine fp_X8_47 (n := 52) hC hI (((hp_p M 12 3 ((M 12 0 8)).toNatClampNeg (((a0.toUInt32 >>> (x2.toUInt32 &&& Int32.toUInt32 31)).toInt32) &&& (255 : Int32))) 12 0 8) + (1 : Int32)) dX8_appendFourBytes_49 rfl ?_
            refine hz_iinc (a := 2) (v := (x2 + (-8 : Int32))) (L' := [(2, .int (x2 + (-8 : Int32))), (0, .ref (adr 12 0)), (1, .int a0)]) (n := 55) hC dX8_appendFourBytes_52 rfl rfl (by decide) rfl rfl ?_
            refine hz_goto (n := 3) hC dX8_appendFourBytes_55 (by decide) ?_
            refine hz_L (L' := [(0, .ref (adr 12 0)), (1, .int a0), (2, .int (x2 + (-8 : Int32)))]) [1, 2, 0] rfl ?_
            exact ih3 _ _
  refine hz_bipush (v := (24 : Int32)) (n := 2) hC dX8_appendFourBytes_0 (by decide +kernel) rfl ?_
  refine hz_istore_n (L' := [(2, .int (24 : Int32)), (0, .ref (adr 12 0)), (1, .int a0)]) (n := 3) hC dX8_appendFourBytes_2 rfl (by decide) rfl rfl ?_
  refine hz_L (L' := [(0, .ref (adr 12 0)), (1, .int a0), (2, .int (24 : Int32))]) [1, 2, 0] rfl ?_
  exact l3 hp_fu _ _
def F_X8_append (a0 : Int32) (a1 : Int32) (a2 : Int32) (a3 : Int32) (a4 : Int32) (M : hp_M) : Option (Int32 × hp_M) := (if ((M 12 0 8) + (20 : Int32)) ≤ (700 : Int32) then (hp_b (F_X8_appendFourBytes a0 M) (fun _ M1 => (hp_b (F_X8_appendFourBytes a1 M1) (fun _ M2 => (hp_b (F_X8_appendFourBytes a2 M2) (fun _ M3 => (hp_b (F_X8_appendFourBytes a3 M3) (fun _ M4 => (hp_b (F_X8_appendFourBytes a4 M4) (fun _ M5 => (some ((M5 12 0 8), M5)))))))))))) else (some ((-1 : Int32), M)))
set_option maxRecDepth 20000 in
set_option maxHeartbeats 4000000 in
theorem c_X8_append (l : Launch) (a0 : Int32) (a1 : Int32) (a2 : Int32) (a3 : Int32) (a4 : Int32)  (M : hp_M) : hp_Ct l yX8_append cX8_append 6 (some .int) 1 hp_IC (fun adr adV => [.ref (adr 12 0), .int a0, .int a1, .int a2, .int a3, .int a4]) hp_oi M (F_X8_append a0 a1 a2 a3 a4 M) := by
  refine hp_start "HallPhone" (fun adr adV => [(0, .ref (adr 12 0)), (1, .int a0), (2, .int a1), (3, .int a2), (4, .int a3), (5, .int a4)]) (by decide) rfl (fun _ _ => by simp only [lg_sl]; exact Nat.le_of_ble_eq_true rfl) (fun _ _ => rfl) ?_
  intro p e s m args below meth c A D ids adr adV cA rep G0 hI hC hr
  unfold F_X8_append
  refine hz_aload_n (a := 0) (n := 1) hC dX8_append_0 rfl rfl rfl ?_
  refine fg_X8_47 (n := 4) hC hI dX8_append_1 rfl ?_
  refine hz_bipush (v := (20 : Int32)) (n := 6) hC dX8_append_4 (by decide +kernel) rfl ?_
  refine hz_iadd (n := 7) hC dX8_append_6 rfl ?_
  refine hz_sipush (v := (700 : Int32)) (n := 10) hC dX8_append_7 (by decide +kernel) rfl ?_
  refine hz_icmp_le (tgt := 15) (n := 13) hC dX8_append_10 (by decide) rfl (fun _ => ?_) (fun _ => ?_)
  · refine hz_aload_n (a := 0) (n := 16) hC dX8_append_15 rfl rfl rfl ?_
    refine hz_iload_n (a := 1) (n := 17) hC dX8_append_16 rfl rfl rfl ?_
    refine hz_callV (k := 1) (As := [.int a0]) (st := []) (S1 := fun _ => []) (n := 20) hC (c_X8_appendFourBytes l a0   M) kv_X8_appendFourBytes wd_3_90 hI dX8_append_17 rfl (hI.2 0 (by decide)) he_X8 rfl rfl rfl (Nat.le_of_ble_eq_true rfl) ⟨Nat.le_of_ble_eq_true rfl, Nat.le_of_ble_eq_true rfl⟩ ⟨Nat.zero_le _, Nat.zero_le _⟩ (fun _ => rfl) rfl (fun r1 M1 _ => ?_)
    refine hz_aload_n (a := 0) (n := 21) hC dX8_append_20 rfl rfl rfl ?_
    refine hz_iload_n (a := 2) (n := 22) hC dX8_append_21 rfl rfl rfl ?_
    refine hz_callV (k := 1) (As := [.int a1]) (st := []) (S1 := fun _ => []) (n := 25) hC (c_X8_appendFourBytes l a1   M1) kv_X8_appendFourBytes wd_3_90 hI dX8_append_22 rfl (hI.2 0 (by decide)) he_X8 rfl rfl rfl (Nat.le_of_ble_eq_true rfl) ⟨Nat.le_of_ble_eq_true rfl, Nat.le_of_ble_eq_true rfl⟩ ⟨Nat.zero_le _, Nat.zero_le _⟩ (fun _ => rfl) rfl (fun r2 M2 _ => ?_)
    refine hz_aload_n (a := 0) (n := 26) hC dX8_append_25 rfl rfl rfl ?_
    refine hz_iload_n (a := 3) (n := 27) hC dX8_append_26 rfl rfl rfl ?_
    refine hz_callV (k := 1) (As := [.int a2]) (st := []) (S1 := fun _ => []) (n := 30) hC (c_X8_appendFourBytes l a2   M2) kv_X8_appendFourBytes wd_3_90 hI dX8_append_27 rfl (hI.2 0 (by decide)) he_X8 rfl rfl rfl (Nat.le_of_ble_eq_true rfl) ⟨Nat.le_of_ble_eq_true rfl, Nat.le_of_ble_eq_true rfl⟩ ⟨Nat.zero_le _, Nat.zero_le _⟩ (fun _ => rfl) rfl (fun r3 M3 _ => ?_)
    refine hz_aload_n (a := 0) (n := 31) hC dX8_append_30 rfl rfl rfl ?_
    refine hz_iload (a := 4) (n := 33) hC dX8_append_31 rfl rfl ?_
    refine hz_callV (k := 1) (As := [.int a3]) (st := []) (S1 := fun _ => []) (n := 36) hC (c_X8_appendFourBytes l a3   M3) kv_X8_appendFourBytes wd_3_90 hI dX8_append_33 rfl (hI.2 0 (by decide)) he_X8 rfl rfl rfl (Nat.le_of_ble_eq_true rfl) ⟨Nat.le_of_ble_eq_true rfl, Nat.le_of_ble_eq_true rfl⟩ ⟨Nat.zero_le _, Nat.zero_le _⟩ (fun _ => rfl) rfl (fun r4 M4 _ => ?_)
    refine hz_aload_n (a := 0) (n := 37) hC dX8_append_36 rfl rfl rfl ?_
    refine hz_iload (a := 5) (n := 39) hC dX8_append_37 rfl rfl ?_
    refine hz_callV (k := 1) (As := [.int a4]) (st := []) (S1 := fun _ => []) (n := 42) hC (c_X8_appendFourBytes l a4   M4) kv_X8_appendFourBytes wd_3_90 hI dX8_append_39 rfl (hI.2 0 (by decide)) he_X8 rfl rfl rfl (Nat.le_of_ble_eq_true rfl) ⟨Nat.le_of_ble_eq_true rfl, Nat.le_of_ble_eq_true rfl⟩ ⟨Nat.zero_le _, Nat.zero_le _⟩ (fun _ => rfl) rfl (fun r5 M5 _ => ?_)
    refine hz_aload_n (a := 0) (n := 43) hC dX8_append_42 rfl rfl rfl ?_
    refine fg_X8_47 (n := 46) hC hI dX8_append_43 rfl ?_
    exact hz_iret hC hr dX8_append_46
  · refine hz_iconst (v := (-1 : Int32)) (n := 14) hC dX8_append_13 (by decide +kernel) rfl ?_
    exact hz_iret hC hr dX8_append_14
def F_X1_forget  (M : hp_M) : Option (Unit × hp_M) := (some ((), (hp_p (hp_p M 12 4 1 (0 : Int32)) 12 4 2 (0 : Int32))))
set_option maxRecDepth 20000 in
set_option maxHeartbeats 4000000 in
theorem c_X1_forget (l : Launch)   (M : hp_M) : hp_Ct l yX1_forget cX1_forget 1 none 0 hp_IC (fun adr adV => [.ref (adr 12 4)]) hp_oo M (F_X1_forget  M) := by
  refine hp_start "HallPhone$History" (fun adr adV => [(0, .ref (adr 12 4))]) (by decide) rfl (fun _ _ => by simp only [lg_sl]; exact Nat.le_of_ble_eq_true rfl) (fun _ _ => rfl) ?_
  intro p e s m args below meth c A D ids adr adV cA rep G0 hI hC hr
  unfold F_X1_forget
  refine hz_aload_n (a := 0) (n := 1) hC dX1_forget_0 rfl rfl rfl ?_
  refine hz_iconst (v := (0 : Int32)) (n := 2) hC dX1_forget_1 (by decide +kernel) rfl ?_
  refine fp_X1_17 (n := 5) hC hI (0 : Int32) dX1_forget_2 rfl ?_
  refine hz_aload_n (a := 0) (n := 6) hC dX1_forget_5 rfl rfl rfl ?_
  refine hz_iconst (v := (0 : Int32)) (n := 7) hC dX1_forget_6 (by decide +kernel) rfl ?_
  refine fp_X1_21 (n := 10) hC hI (0 : Int32) dX1_forget_7 rfl ?_
  exact hz_vret hC hr dX1_forget_10
def F_X5_fail (a0 : Int32) (M : hp_M) : Option (Int32 × hp_M) := (some ((0 : Int32), (hp_p M 12 1 9 (((8 : Int32) * (M 12 1 4)) + a0))))
set_option maxRecDepth 20000 in
set_option maxHeartbeats 4000000 in
theorem c_X5_fail (l : Launch) (a0 : Int32)  (M : hp_M) : hp_Ct l yX5_fail cX5_fail 2 (some .boolean) 0 hp_IC (fun adr adV => [.ref (adr 12 1), .int a0]) hp_oi M (F_X5_fail a0 M) := by
  refine hp_start "HallPhone$Reader" (fun adr adV => [(0, .ref (adr 12 1)), (1, .int a0)]) (by decide) rfl (fun _ _ => by simp only [lg_sl]; exact Nat.le_of_ble_eq_true rfl) (fun _ _ => rfl) ?_
  intro p e s m args below meth c A D ids adr adV cA rep G0 hI hC hr
  unfold F_X5_fail
  refine hz_aload_n (a := 0) (n := 1) hC dX5_fail_0 rfl rfl rfl ?_
  refine hz_bipush (v := (8 : Int32)) (n := 3) hC dX5_fail_1 (by decide +kernel) rfl ?_
  refine hz_aload_n (a := 0) (n := 4) hC dX5_fail_3 rfl rfl rfl ?_
  refine fg_X5_25 (n := 7) hC hI dX5_fail_4 rfl ?_
  refine hz_imul (n := 8) hC dX5_fail_7 rfl ?_
  refine hz_iload_n (a := 1) (n := 9) hC dX5_fail_8 rfl rfl rfl ?_
  refine hz_iadd (n := 10) hC dX5_fail_9 rfl ?_
  refine fp_X5_41 (n := 13) hC hI (((8 : Int32) * (M 12 1 4)) + a0) dX5_fail_10 rfl ?_
  refine hz_iconst (v := (0 : Int32)) (n := 14) hC dX5_fail_13 (by decide +kernel) rfl ?_
  exact hz_zret hC hr nz_0 dX5_fail_14
def F_X5_byteAt (a0 : Int32) (M : hp_M) : Option (Int32 × hp_M) := (if a0 < 0 then (some ((-1 : Int32), M)) else (if (700 : Int32) ≤ a0 then (some ((-1 : Int32), M)) else (if a0 < 0 ∨ 700 ≤ (a0).toNatClampNeg then none else (some ((M 12 2 (a0).toNatClampNeg), M)))))
set_option maxRecDepth 20000 in
set_option maxHeartbeats 4000000 in
theorem c_X5_byteAt (l : Launch) (a0 : Int32)  (M : hp_M) : hp_Ct l yX5_byteAt cX5_byteAt 2 (some .int) 0 hp_IC (fun adr adV => [.ref (adr 12 1), .int a0]) hp_oi M (F_X5_byteAt a0 M) := by
  refine hp_start "HallPhone$Reader" (fun adr adV => [(0, .ref (adr 12 1)), (1, .int a0)]) (by decide) rfl (fun _ _ => by simp only [lg_sl]; exact Nat.le_of_ble_eq_true rfl) (fun _ _ => rfl) ?_
  intro p e s m args below meth c A D ids adr adV cA rep G0 hI hC hr
  unfold F_X5_byteAt
  refine hz_iload_n (a := 1) (n := 1) hC dX5_byteAt_0 rfl rfl rfl ?_
  refine hz_if_lt (tgt := 22) (n := 4) hC dX5_byteAt_1 (by decide) rfl (fun _ => ?_) (fun _ => ?_)
  · refine hz_iconst (v := (-1 : Int32)) (n := 23) hC dX5_byteAt_22 (by decide +kernel) rfl ?_
    exact hz_iret hC hr dX5_byteAt_23
  · refine hz_iload_n (a := 1) (n := 5) hC dX5_byteAt_4 rfl rfl rfl ?_
    refine hz_aload_n (a := 0) (n := 6) hC dX5_byteAt_5 rfl rfl rfl ?_
    refine fg_X5_9 (n := 9) hC hI dX5_byteAt_6 rfl ?_
    refine hz_alen (v := (700 : Int32)) (t := 0) (n := 10) hC dX5_byteAt_9 (hI.2 2 (by decide)) ha_p2 rfl (by decide +kernel) rfl ?_
    refine hz_icmp_ge (tgt := 22) (n := 13) hC dX5_byteAt_10 (by decide) rfl (fun _ => ?_) (fun _ => ?_)
    · refine hz_iconst (v := (-1 : Int32)) (n := 23) hC dX5_byteAt_22 (by decide +kernel) rfl ?_
      exact hz_iret hC hr dX5_byteAt_23
    · refine hz_aload_n (a := 0) (n := 14) hC dX5_byteAt_13 rfl rfl rfl ?_
      refine fg_X5_9 (n := 17) hC hI dX5_byteAt_14 rfl ?_
      refine hz_iload_n (a := 1) (n := 18) hC dX5_byteAt_17 rfl rfl rfl ?_
      refine hz_iald (n := 19) hC dX5_byteAt_18 (hI.2 2 (by decide)) ha_p2 rfl (fun _ => ?_)
      refine hz_goto (n := 23) hC dX5_byteAt_19 (by decide) ?_
      exact hz_iret hC hr dX5_byteAt_23
def F_X5_isDigit (a0 : Int32) (M : hp_M) : Option (Int32 × hp_M) := (if a0 < (48 : Int32) then (some ((0 : Int32), M)) else (if (57 : Int32) < a0 then (some ((0 : Int32), M)) else (some ((1 : Int32), M))))
set_option maxRecDepth 20000 in
set_option maxHeartbeats 4000000 in
theorem c_X5_isDigit (l : Launch) (a0 : Int32)  (M : hp_M) : hp_Ct l yX5_isDigit cX5_isDigit 1 (some .boolean) 0 hp_IC (fun adr adV => [.int a0]) hp_oi M (F_X5_isDigit a0 M) := by
  refine hp_start "HallPhone$Reader" (fun adr adV => [(0, .int a0)]) (by decide) rfl (fun _ _ => by simp only [lg_sl]; exact Nat.le_of_ble_eq_true rfl) (fun _ _ => rfl) ?_
  intro p e s m args below meth c A D ids adr adV cA rep G0 hI hC hr
  unfold F_X5_isDigit
  refine hz_iload_n (a := 0) (n := 1) hC dX5_isDigit_0 rfl rfl rfl ?_
  refine hz_bipush (v := (48 : Int32)) (n := 3) hC dX5_isDigit_1 (by decide +kernel) rfl ?_
  refine hz_icmp_lt (tgt := 16) (n := 6) hC dX5_isDigit_3 (by decide) rfl (fun _ => ?_) (fun _ => ?_)
  · refine hz_iconst (v := (0 : Int32)) (n := 17) hC dX5_isDigit_16 (by decide +kernel) rfl ?_
    exact hz_zret hC hr nz_0 dX5_isDigit_17
  · refine hz_iload_n (a := 0) (n := 7) hC dX5_isDigit_6 rfl rfl rfl ?_
    refine hz_bipush (v := (57 : Int32)) (n := 9) hC dX5_isDigit_7 (by decide +kernel) rfl ?_
    refine hz_icmp_gt (tgt := 16) (n := 12) hC dX5_isDigit_9 (by decide) rfl (fun _ => ?_) (fun _ => ?_)
    · refine hz_iconst (v := (0 : Int32)) (n := 17) hC dX5_isDigit_16 (by decide +kernel) rfl ?_
      exact hz_zret hC hr nz_0 dX5_isDigit_17
    · refine hz_iconst (v := (1 : Int32)) (n := 13) hC dX5_isDigit_12 (by decide +kernel) rfl ?_
      refine hz_goto (n := 17) hC dX5_isDigit_13 (by decide) ?_
      exact hz_zret hC hr nz_1 dX5_isDigit_17
def F_X5_isLetter (a0 : Int32) (M : hp_M) : Option (Int32 × hp_M) := (if a0 < (97 : Int32) then (some ((0 : Int32), M)) else (if (122 : Int32) < a0 then (some ((0 : Int32), M)) else (some ((1 : Int32), M))))
set_option maxRecDepth 20000 in
set_option maxHeartbeats 4000000 in
theorem c_X5_isLetter (l : Launch) (a0 : Int32)  (M : hp_M) : hp_Ct l yX5_isLetter cX5_isLetter 1 (some .boolean) 0 hp_IC (fun adr adV => [.int a0]) hp_oi M (F_X5_isLetter a0 M) := by
  refine hp_start "HallPhone$Reader" (fun adr adV => [(0, .int a0)]) (by decide) rfl (fun _ _ => by simp only [lg_sl]; exact Nat.le_of_ble_eq_true rfl) (fun _ _ => rfl) ?_
  intro p e s m args below meth c A D ids adr adV cA rep G0 hI hC hr
  unfold F_X5_isLetter
  refine hz_iload_n (a := 0) (n := 1) hC dX5_isLetter_0 rfl rfl rfl ?_
  refine hz_bipush (v := (97 : Int32)) (n := 3) hC dX5_isLetter_1 (by decide +kernel) rfl ?_
  refine hz_icmp_lt (tgt := 16) (n := 6) hC dX5_isLetter_3 (by decide) rfl (fun _ => ?_) (fun _ => ?_)
  · refine hz_iconst (v := (0 : Int32)) (n := 17) hC dX5_isLetter_16 (by decide +kernel) rfl ?_
    exact hz_zret hC hr nz_0 dX5_isLetter_17
  · refine hz_iload_n (a := 0) (n := 7) hC dX5_isLetter_6 rfl rfl rfl ?_
    refine hz_bipush (v := (122 : Int32)) (n := 9) hC dX5_isLetter_7 (by decide +kernel) rfl ?_
    refine hz_icmp_gt (tgt := 16) (n := 12) hC dX5_isLetter_9 (by decide) rfl (fun _ => ?_) (fun _ => ?_)
    · refine hz_iconst (v := (0 : Int32)) (n := 17) hC dX5_isLetter_16 (by decide +kernel) rfl ?_
      exact hz_zret hC hr nz_0 dX5_isLetter_17
    · refine hz_iconst (v := (1 : Int32)) (n := 13) hC dX5_isLetter_12 (by decide +kernel) rfl ?_
      refine hz_goto (n := 17) hC dX5_isLetter_13 (by decide) ?_
      exact hz_zret hC hr nz_1 dX5_isLetter_17
def F_X5_isSpace (a0 : Int32) (M : hp_M) : Option (Int32 × hp_M) := (if a0 = (32 : Int32) then (some ((1 : Int32), M)) else (if a0 = (10 : Int32) then (some ((1 : Int32), M)) else (some ((0 : Int32), M))))
set_option maxRecDepth 20000 in
set_option maxHeartbeats 4000000 in
theorem c_X5_isSpace (l : Launch) (a0 : Int32)  (M : hp_M) : hp_Ct l yX5_isSpace cX5_isSpace 1 (some .boolean) 0 hp_IC (fun adr adV => [.int a0]) hp_oi M (F_X5_isSpace a0 M) := by
  refine hp_start "HallPhone$Reader" (fun adr adV => [(0, .int a0)]) (by decide) rfl (fun _ _ => by simp only [lg_sl]; exact Nat.le_of_ble_eq_true rfl) (fun _ _ => rfl) ?_
  intro p e s m args below meth c A D ids adr adV cA rep G0 hI hC hr
  unfold F_X5_isSpace
  refine hz_iload_n (a := 0) (n := 1) hC dX5_isSpace_0 rfl rfl rfl ?_
  refine hz_bipush (v := (32 : Int32)) (n := 3) hC dX5_isSpace_1 (by decide +kernel) rfl ?_
  refine hz_icmp_eq (tgt := 12) (n := 6) hC dX5_isSpace_3 (by decide) rfl (fun _ => ?_) (fun _ => ?_)
  · refine hz_iconst (v := (1 : Int32)) (n := 13) hC dX5_isSpace_12 (by decide +kernel) rfl ?_
    refine hz_goto (n := 17) hC dX5_isSpace_13 (by decide) ?_
    exact hz_zret hC hr nz_1 dX5_isSpace_17
  · refine hz_iload_n (a := 0) (n := 7) hC dX5_isSpace_6 rfl rfl rfl ?_
    refine hz_bipush (v := (10 : Int32)) (n := 9) hC dX5_isSpace_7 (by decide +kernel) rfl ?_
    refine hz_icmp_ne (tgt := 16) (n := 12) hC dX5_isSpace_9 (by decide) rfl (fun _ => ?_) (fun _ => ?_)
    · refine hz_iconst (v := (1 : Int32)) (n := 13) hC dX5_isSpace_12 (by decide +kernel) rfl ?_
      refine hz_goto (n := 17) hC dX5_isSpace_13 (by decide) ?_
      exact hz_zret hC hr nz_1 dX5_isSpace_17
    · refine hz_iconst (v := (0 : Int32)) (n := 17) hC dX5_isSpace_16 (by decide +kernel) rfl ?_
      exact hz_zret hC hr nz_0 dX5_isSpace_17
def A_X5_nextNumber_79    (M : hp_M) : Option (Unit × hp_M) := (if (4 : Int32) < ((M 12 1 2) - (M 12 1 4)) then (some ((), (hp_p M 12 1 3 (4 : Int32)))) else (some ((), (hp_p M 12 1 3 (3 : Int32)))))
def L_X5_nextNumber_5    : Nat → hp_M → Option (Unit × hp_M)
  | 0, _ => none
  | n5 + 1, M => (if (M 12 1 1) ≤ (M 12 1 2) then (A_X5_nextNumber_79 M) else (hp_b (F_X5_byteAt (M 12 1 2) M) (fun r1 M1 => (hp_b (F_X5_isDigit r1 M1) (fun r2 M2 => (if r2 = 0 then (A_X5_nextNumber_79 M2) else (if (4 : Int32) ≤ ((M2 12 1 2) - (M2 12 1 4)) then (L_X5_nextNumber_5  n5  (hp_p M2 12 1 2 ((M2 12 1 2) + (1 : Int32)))) else (hp_b (F_X5_byteAt (M2 12 1 2) M2) (fun r3 M3 => (L_X5_nextNumber_5  n5  (hp_p (hp_p M3 12 1 5 ((((10 : Int32) * (M2 12 1 5)) + r3) - (48 : Int32))) 12 1 2 (((hp_p M3 12 1 5 ((((10 : Int32) * (M2 12 1 5)) + r3) - (48 : Int32))) 12 1 2) + (1 : Int32)))))))))))))
def F_X5_nextNumber  (M : hp_M) : Option (Unit × hp_M) := (L_X5_nextNumber_5 hp_fu (hp_p M 12 1 5 (0 : Int32)))
set_option maxRecDepth 20000 in
set_option maxHeartbeats 4000000 in
theorem c_X5_nextNumber (l : Launch)   (M : hp_M) : hp_Ct l yX5_nextNumber cX5_nextNumber 1 none 1 hp_IC (fun adr adV => [.ref (adr 12 1)]) hp_oo M (F_X5_nextNumber  M) := by
  refine hp_start "HallPhone$Reader" (fun adr adV => [(0, .ref (adr 12 1))]) (by decide) rfl (fun _ _ => by simp only [lg_sl]; exact Nat.le_of_ble_eq_true rfl) (fun _ _ => rfl) ?_
  intro p e s m args below meth c A D ids adr adV cA rep G0 hI hC hr
  unfold F_X5_nextNumber
  have j79 : ∀  (M : hp_M), hp_Z p l e (hp_rm 1) s m args below meth c 1 A D ids adr adV cA 0 0 (MQ below (hp_Q A D ids adr adV cA rep hp_oo G0) args s 0 0 A) G0 rep 79 [(0, .ref (adr 12 1))] [] M (A_X5_nextNumber_79   M) := by
    intro  M
    unfold A_X5_nextNumber_79
    refine hz_aload_n (a := 0) (n := 80) hC dX5_nextNumber_79 rfl rfl rfl ?_
    refine hz_aload_n (a := 0) (n := 81) hC dX5_nextNumber_80 rfl rfl rfl ?_
    refine fg_X5_19 (n := 84) hC hI dX5_nextNumber_81 rfl ?_
    refine hz_aload_n (a := 0) (n := 85) hC dX5_nextNumber_84 rfl rfl rfl ?_
    refine fg_X5_25 (n := 88) hC hI dX5_nextNumber_85 rfl ?_
    refine hz_isub (n := 89) hC dX5_nextNumber_88 rfl ?_
    refine hz_iconst (v := (4 : Int32)) (n := 90) hC dX5_nextNumber_89 (by decide +kernel) rfl ?_
    refine hz_icmp_gt (tgt := 97) (n := 93) hC dX5_nextNumber_90 (by decide) rfl (fun _ => ?_) (fun _ => ?_)
    · refine hz_iconst (v := (4 : Int32)) (n := 98) hC dX5_nextNumber_97 (by decide +kernel) rfl ?_
      refine fp_X5_22 (n := 101) hC hI (4 : Int32) dX5_nextNumber_98 rfl ?_
      exact hz_vret hC hr dX5_nextNumber_101
    · refine hz_iconst (v := (3 : Int32)) (n := 94) hC dX5_nextNumber_93 (by decide +kernel) rfl ?_
      refine hz_goto (n := 98) hC dX5_nextNumber_94 (by decide) ?_
      refine fp_X5_22 (n := 101) hC hI (3 : Int32) dX5_nextNumber_98 rfl ?_
      exact hz_vret hC hr dX5_nextNumber_101
  have l5 : ∀  (n5 : Nat)  (M : hp_M), hp_Z p l e (hp_rm 1) s m args below meth c 1 A D ids adr adV cA 0 0 (MQ below (hp_Q A D ids adr adV cA rep hp_oo G0) args s 0 0 A) G0 rep 5 [(0, .ref (adr 12 1))] [] M (L_X5_nextNumber_5  n5  M) := by
    intro  n5
    induction n5 with
    | zero => intro  M; exact hz_none hC
    | succ n5 ih5 =>
      intro  M
      rw [L_X5_nextNumber_5.eq_2]
      refine hz_aload_n (a := 0) (n := 6) hC dX5_nextNumber_5 rfl rfl rfl ?_
      refine fg_X5_19 (n := 9) hC hI dX5_nextNumber_6 rfl ?_
      refine hz_aload_n (a := 0) (n := 10) hC dX5_nextNumber_9 rfl rfl rfl ?_
      refine fg_X5_15 (n := 13) hC hI dX5_nextNumber_10 rfl ?_
      refine hz_icmp_ge (tgt := 79) (n := 16) hC dX5_nextNumber_13 (by decide) rfl (fun _ => ?_) (fun _ => ?_)
      · exact j79 _
      · refine hz_aload_n (a := 0) (n := 17) hC dX5_nextNumber_16 rfl rfl rfl ?_
        refine hz_aload_n (a := 0) (n := 18) hC dX5_nextNumber_17 rfl rfl rfl ?_
        refine fg_X5_19 (n := 21) hC hI dX5_nextNumber_18 rfl ?_
        refine hz_callV (k := 1) (As := [.int (M 12 1 2)]) (st := []) (S1 := fun r => .int r :: []) (n := 24) hC (c_X5_byteAt l (M 12 1 2)   M) kv_X5_byteAt wd_2_89 hI dX5_nextNumber_21 rfl (hI.2 1 (by decide)) he_X5 rfl rfl rfl (Nat.le_of_ble_eq_true rfl) ⟨Nat.le_of_ble_eq_true rfl, Nat.le_of_ble_eq_true rfl⟩ ⟨Nat.zero_le _, Nat.zero_le _⟩ (fun _ => rfl) rfl (fun r1 M1 _ => ?_)
        refine hz_callS (k := 1) (As := [.int r1]) (st := []) (S1 := fun r => .int r :: []) (n := 27) hC (c_X5_isDigit l r1   M1) ks_X5_isDigit wd_2_99 hI dX5_nextNumber_24 rfl rfl rfl (Nat.le_of_ble_eq_true rfl) ⟨Nat.le_of_ble_eq_true rfl, Nat.le_of_ble_eq_true rfl⟩ ⟨Nat.zero_le _, Nat.zero_le _⟩ (fun _ => rfl) rfl (fun r2 M2 _ => ?_)
        refine hz_if_eq (tgt := 79) (n := 30) hC dX5_nextNumber_27 (by decide) rfl (fun _ => ?_) (fun _ => ?_)
        · exact j79 _
        · refine hz_aload_n (a := 0) (n := 31) hC dX5_nextNumber_30 rfl rfl rfl ?_
          refine fg_X5_19 (n := 34) hC hI dX5_nextNumber_31 rfl ?_
          refine hz_aload_n (a := 0) (n := 35) hC dX5_nextNumber_34 rfl rfl rfl ?_
          refine fg_X5_25 (n := 38) hC hI dX5_nextNumber_35 rfl ?_
          refine hz_isub (n := 39) hC dX5_nextNumber_38 rfl ?_
          refine hz_iconst (v := (4 : Int32)) (n := 40) hC dX5_nextNumber_39 (by decide +kernel) rfl ?_
          refine hz_icmp_ge (tgt := 66) (n := 43) hC dX5_nextNumber_40 (by decide) rfl (fun _ => ?_) (fun _ => ?_)
          · refine hz_aload_n (a := 0) (n := 67) hC dX5_nextNumber_66 rfl rfl rfl ?_
            refine hz_dup (n := 68) hC dX5_nextNumber_67 rfl rfl ?_
            refine fg_X5_19 (n := 71) hC hI dX5_nextNumber_68 rfl ?_
            refine hz_iconst (v := (1 : Int32)) (n := 72) hC dX5_nextNumber_71 (by decide +kernel) rfl ?_
            refine hz_iadd (n := 73) hC dX5_nextNumber_72 rfl ?_
            refine fp_X5_19 (n := 76) hC hI ((M2 12 1 2) + (1 : Int32)) dX5_nextNumber_73 rfl ?_
            refine hz_goto (n := 5) hC dX5_nextNumber_76 (by decide) ?_
            exact ih5 _
          · refine hz_aload_n (a := 0) (n := 44) hC dX5_nextNumber_43 rfl rfl rfl ?_
            refine hz_bipush (v := (10 : Int32)) (n := 46) hC dX5_nextNumber_44 (by decide +kernel) rfl ?_
            refine hz_aload_n (a := 0) (n := 47) hC dX5_nextNumber_46 rfl rfl rfl ?_
            refine fg_X5_28 (n := 50) hC hI dX5_nextNumber_47 rfl ?_
            refine hz_imul (n := 51) hC dX5_nextNumber_50 rfl ?_
            refine hz_aload_n (a := 0) (n := 52) hC dX5_nextNumber_51 rfl rfl rfl ?_
            refine hz_aload_n (a := 0) (n := 53) hC dX5_nextNumber_52 rfl rfl rfl ?_
            refine fg_X5_19 (n := 56) hC hI dX5_nextNumber_53 rfl ?_
            refine hz_callV (k := 1) (As := [.int (M2 12 1 2)]) (st := [.int ((10 : Int32) * (M2 12 1 5)), .ref (adr 12 1)]) (S1 := fun r => .int r :: [.int ((10 : Int32) * (M2 12 1 5)), .ref (adr 12 1)]) (n := 59) hC (c_X5_byteAt l (M2 12 1 2)   M2) kv_X5_byteAt wd_2_89 hI dX5_nextNumber_56 rfl (hI.2 1 (by decide)) he_X5 rfl rfl rfl (Nat.le_of_ble_eq_true rfl) ⟨Nat.le_of_ble_eq_true rfl, Nat.le_of_ble_eq_true rfl⟩ ⟨Nat.zero_le _, Nat.zero_le _⟩ (fun _ => rfl) rfl (fun r3 M3 _ => ?_)
            refine hz_iadd (n := 60) hC dX5_nextNumber_59 rfl ?_
            refine hz_bipush (v := (48 : Int32)) (n := 62) hC dX5_nextNumber_60 (by decide +kernel) rfl ?_
            refine hz_isub (n := 63) hC dX5_nextNumber_62 rfl ?_
            refine fp_X5_28 (n := 66) hC hI ((((10 : Int32) * (M2 12 1 5)) + r3) - (48 : Int32)) dX5_nextNumber_63 rfl ?_
            refine hz_aload_n (a := 0) (n := 67) hC dX5_nextNumber_66 rfl rfl rfl ?_
            refine hz_dup (n := 68) hC dX5_nextNumber_67 rfl rfl ?_
            refine fg_X5_19 (n := 71) hC hI dX5_nextNumber_68 rfl ?_
            refine hz_iconst (v := (1 : Int32)) (n := 72) hC dX5_nextNumber_71 (by decide +kernel) rfl ?_
            refine hz_iadd (n := 73) hC dX5_nextNumber_72 rfl ?_
            refine fp_X5_19 (n := 76) hC hI (((hp_p M3 12 1 5 ((((10 : Int32) * (M2 12 1 5)) + r3) - (48 : Int32))) 12 1 2) + (1 : Int32)) dX5_nextNumber_73 rfl ?_
            refine hz_goto (n := 5) hC dX5_nextNumber_76 (by decide) ?_
            exact ih5 _
  refine hz_aload_n (a := 0) (n := 1) hC dX5_nextNumber_0 rfl rfl rfl ?_
  refine hz_iconst (v := (0 : Int32)) (n := 2) hC dX5_nextNumber_1 (by decide +kernel) rfl ?_
  refine fp_X5_28 (n := 5) hC hI (0 : Int32) dX5_nextNumber_2 rfl ?_
  exact l5 hp_fu _
def L_X5_next_84    : Nat → hp_M → Option (Unit × hp_M)
  | 0, _ => none
  | n84 + 1, M => (if (M 12 1 1) ≤ (M 12 1 2) then (some ((), M)) else (hp_b (F_X5_byteAt (M 12 1 2) M) (fun r7 M7 => (hp_b (F_X5_isLetter r7 M7) (fun r8 M8 => (if r8 = 0 then (some ((), M8)) else (L_X5_next_84  n84  (hp_p M8 12 1 2 ((M8 12 1 2) + (1 : Int32))))))))))
def A_X5_next_38    (M : hp_M) : Option (Unit × hp_M) := (if ((hp_p M 12 1 4 (M 12 1 2)) 12 1 2) < ((hp_p M 12 1 4 (M 12 1 2)) 12 1 1) then (hp_b (F_X5_byteAt ((hp_p M 12 1 4 (M 12 1 2)) 12 1 2) (hp_p M 12 1 4 (M 12 1 2))) (fun r1 M1 => (hp_b (F_X5_isLetter r1 M1) (fun r2 M2 => (if r2 = 0 then (hp_b (F_X5_byteAt (M2 12 1 2) M2) (fun r3 M3 => (hp_b (F_X5_isDigit r3 M3) (fun r4 M4 => (if r4 = 0 then (hp_b (F_X5_byteAt (M4 12 1 2) M4) (fun r5 M5 => (if r5 = (59 : Int32) then (some ((), (hp_p (hp_p M5 12 1 3 (1 : Int32)) 12 1 2 (((hp_p M5 12 1 3 (1 : Int32)) 12 1 2) + (1 : Int32))))) else (some ((), (hp_p (hp_p M5 12 1 3 (4 : Int32)) 12 1 2 (((hp_p M5 12 1 3 (4 : Int32)) 12 1 2) + (1 : Int32)))))))) else (hp_b (F_X5_nextNumber M4) (fun _ M6 => (some ((), M6))))))))) else (L_X5_next_84 hp_fu (hp_p M2 12 1 3 (2 : Int32)))))))) else (some ((), (hp_p (hp_p M 12 1 4 (M 12 1 2)) 12 1 3 (0 : Int32)))))
def L_X5_next_0    : Nat → hp_M → Option (Unit × hp_M)
  | 0, _ => none
  | n0 + 1, M => (if (M 12 1 1) ≤ (M 12 1 2) then (A_X5_next_38 M) else (hp_b (F_X5_byteAt (M 12 1 2) M) (fun r9 M9 => (hp_b (F_X5_isSpace r9 M9) (fun r10 M10 => (if r10 = 0 then (A_X5_next_38 M10) else (L_X5_next_0  n0  (hp_p M10 12 1 2 ((M10 12 1 2) + (1 : Int32))))))))))
def F_X5_next  (M : hp_M) : Option (Unit × hp_M) := (L_X5_next_0 hp_fu M)
set_option maxRecDepth 20000 in
set_option maxHeartbeats 4000000 in
theorem c_X5_next (l : Launch)   (M : hp_M) : hp_Ct l yX5_next cX5_next 1 none 2 hp_IC (fun adr adV => [.ref (adr 12 1)]) hp_oo M (F_X5_next  M) := by
  refine hp_start "HallPhone$Reader" (fun adr adV => [(0, .ref (adr 12 1))]) (by decide) rfl (fun _ _ => by simp only [lg_sl]; exact Nat.le_of_ble_eq_true rfl) (fun _ _ => rfl) ?_
  intro p e s m args below meth c A D ids adr adV cA rep G0 hI hC hr
  unfold F_X5_next
  have l84 : ∀  (n84 : Nat)  (M : hp_M), hp_Z p l e (hp_rm 2) s m args below meth c 1 A D ids adr adV cA 0 0 (MQ below (hp_Q A D ids adr adV cA rep hp_oo G0) args s 0 0 A) G0 rep 84 [(0, .ref (adr 12 1))] [] M (L_X5_next_84  n84  M) := by
    intro  n84
    induction n84 with
    | zero => intro  M; exact hz_none hC
    | succ n84 ih84 =>
      intro  M
      rw [L_X5_next_84.eq_2]
      refine hz_aload_n (a := 0) (n := 85) hC dX5_next_84 rfl rfl rfl ?_
      refine fg_X5_19 (n := 88) hC hI dX5_next_85 rfl ?_
      refine hz_aload_n (a := 0) (n := 89) hC dX5_next_88 rfl rfl rfl ?_
      refine fg_X5_15 (n := 92) hC hI dX5_next_89 rfl ?_
      refine hz_icmp_ge (tgt := 175) (n := 95) hC dX5_next_92 (by decide) rfl (fun _ => ?_) (fun _ => ?_)
      · exact hz_vret hC hr dX5_next_175
      · refine hz_aload_n (a := 0) (n := 96) hC dX5_next_95 rfl rfl rfl ?_
        refine hz_aload_n (a := 0) (n := 97) hC dX5_next_96 rfl rfl rfl ?_
        refine fg_X5_19 (n := 100) hC hI dX5_next_97 rfl ?_
        refine hz_callV (k := 1) (As := [.int (M 12 1 2)]) (st := []) (S1 := fun r => .int r :: []) (n := 103) hC (c_X5_byteAt l (M 12 1 2)   M) kv_X5_byteAt wd_2_89 hI dX5_next_100 rfl (hI.2 1 (by decide)) he_X5 rfl rfl rfl (Nat.le_of_ble_eq_true rfl) ⟨Nat.le_of_ble_eq_true rfl, Nat.le_of_ble_eq_true rfl⟩ ⟨Nat.zero_le _, Nat.zero_le _⟩ (fun _ => rfl) rfl (fun r7 M7 _ => ?_)
        refine hz_callS (k := 1) (As := [.int r7]) (st := []) (S1 := fun r => .int r :: []) (n := 106) hC (c_X5_isLetter l r7   M7) ks_X5_isLetter wd_2_96 hI dX5_next_103 rfl rfl rfl (Nat.le_of_ble_eq_true rfl) ⟨Nat.le_of_ble_eq_true rfl, Nat.le_of_ble_eq_true rfl⟩ ⟨Nat.zero_le _, Nat.zero_le _⟩ (fun _ => rfl) rfl (fun r8 M8 _ => ?_)
        refine hz_if_eq (tgt := 175) (n := 109) hC dX5_next_106 (by decide) rfl (fun _ => ?_) (fun _ => ?_)
        · exact hz_vret hC hr dX5_next_175
        · refine hz_aload_n (a := 0) (n := 110) hC dX5_next_109 rfl rfl rfl ?_
          refine hz_dup (n := 111) hC dX5_next_110 rfl rfl ?_
          refine fg_X5_19 (n := 114) hC hI dX5_next_111 rfl ?_
          refine hz_iconst (v := (1 : Int32)) (n := 115) hC dX5_next_114 (by decide +kernel) rfl ?_
          refine hz_iadd (n := 116) hC dX5_next_115 rfl ?_
          refine fp_X5_19 (n := 119) hC hI ((M8 12 1 2) + (1 : Int32)) dX5_next_116 rfl ?_
          refine hz_goto (n := 84) hC dX5_next_119 (by decide) ?_
          exact ih84 _
  have j38 : ∀  (M : hp_M), hp_Z p l e (hp_rm 2) s m args below meth c 1 A D ids adr adV cA 0 0 (MQ below (hp_Q A D ids adr adV cA rep hp_oo G0) args s 0 0 A) G0 rep 38 [(0, .ref (adr 12 1))] [] M (A_X5_next_38   M) := by
    intro  M
    unfold A_X5_next_38
    refine hz_aload_n (a := 0) (n := 39) hC dX5_next_38 rfl rfl rfl ?_
    refine hz_aload_n (a := 0) (n := 40) hC dX5_next_39 rfl rfl rfl ?_
    refine fg_X5_19 (n := 43) hC hI dX5_next_40 rfl ?_
    refine fp_X5_25 (n := 46) hC hI (M 12 1 2) dX5_next_43 rfl ?_
    refine hz_aload_n (a := 0) (n := 47) hC dX5_next_46 rfl rfl rfl ?_
    refine fg_X5_19 (n := 50) hC hI dX5_next_47 rfl ?_
    refine hz_aload_n (a := 0) (n := 51) hC dX5_next_50 rfl rfl rfl ?_
    refine fg_X5_15 (n := 54) hC hI dX5_next_51 rfl ?_
    refine hz_icmp_lt (tgt := 65) (n := 57) hC dX5_next_54 (by decide) rfl (fun _ => ?_) (fun _ => ?_)
    · refine hz_aload_n (a := 0) (n := 66) hC dX5_next_65 rfl rfl rfl ?_
      refine hz_aload_n (a := 0) (n := 67) hC dX5_next_66 rfl rfl rfl ?_
      refine fg_X5_19 (n := 70) hC hI dX5_next_67 rfl ?_
      refine hz_callV (k := 1) (As := [.int ((hp_p M 12 1 4 (M 12 1 2)) 12 1 2)]) (st := []) (S1 := fun r => .int r :: []) (n := 73) hC (c_X5_byteAt l ((hp_p M 12 1 4 (M 12 1 2)) 12 1 2)   (hp_p M 12 1 4 (M 12 1 2))) kv_X5_byteAt wd_2_89 hI dX5_next_70 rfl (hI.2 1 (by decide)) he_X5 rfl rfl rfl (Nat.le_of_ble_eq_true rfl) ⟨Nat.le_of_ble_eq_true rfl, Nat.le_of_ble_eq_true rfl⟩ ⟨Nat.zero_le _, Nat.zero_le _⟩ (fun _ => rfl) rfl (fun r1 M1 _ => ?_)
      refine hz_callS (k := 1) (As := [.int r1]) (st := []) (S1 := fun r => .int r :: []) (n := 76) hC (c_X5_isLetter l r1   M1) ks_X5_isLetter wd_2_96 hI dX5_next_73 rfl rfl rfl (Nat.le_of_ble_eq_true rfl) ⟨Nat.le_of_ble_eq_true rfl, Nat.le_of_ble_eq_true rfl⟩ ⟨Nat.zero_le _, Nat.zero_le _⟩ (fun _ => rfl) rfl (fun r2 M2 _ => ?_)
      refine hz_if_eq (tgt := 122) (n := 79) hC dX5_next_76 (by decide) rfl (fun _ => ?_) (fun _ => ?_)
      · refine hz_aload_n (a := 0) (n := 123) hC dX5_next_122 rfl rfl rfl ?_
        refine hz_aload_n (a := 0) (n := 124) hC dX5_next_123 rfl rfl rfl ?_
        refine fg_X5_19 (n := 127) hC hI dX5_next_124 rfl ?_
        refine hz_callV (k := 1) (As := [.int (M2 12 1 2)]) (st := []) (S1 := fun r => .int r :: []) (n := 130) hC (c_X5_byteAt l (M2 12 1 2)   M2) kv_X5_byteAt wd_2_89 hI dX5_next_127 rfl (hI.2 1 (by decide)) he_X5 rfl rfl rfl (Nat.le_of_ble_eq_true rfl) ⟨Nat.le_of_ble_eq_true rfl, Nat.le_of_ble_eq_true rfl⟩ ⟨Nat.zero_le _, Nat.zero_le _⟩ (fun _ => rfl) rfl (fun r3 M3 _ => ?_)
        refine hz_callS (k := 1) (As := [.int r3]) (st := []) (S1 := fun r => .int r :: []) (n := 133) hC (c_X5_isDigit l r3   M3) ks_X5_isDigit wd_2_99 hI dX5_next_130 rfl rfl rfl (Nat.le_of_ble_eq_true rfl) ⟨Nat.le_of_ble_eq_true rfl, Nat.le_of_ble_eq_true rfl⟩ ⟨Nat.zero_le _, Nat.zero_le _⟩ (fun _ => rfl) rfl (fun r4 M4 _ => ?_)
        refine hz_if_eq (tgt := 143) (n := 136) hC dX5_next_133 (by decide) rfl (fun _ => ?_) (fun _ => ?_)
        · refine hz_aload_n (a := 0) (n := 144) hC dX5_next_143 rfl rfl rfl ?_
          refine hz_aload_n (a := 0) (n := 145) hC dX5_next_144 rfl rfl rfl ?_
          refine hz_aload_n (a := 0) (n := 146) hC dX5_next_145 rfl rfl rfl ?_
          refine fg_X5_19 (n := 149) hC hI dX5_next_146 rfl ?_
          refine hz_callV (k := 1) (As := [.int (M4 12 1 2)]) (st := [.ref (adr 12 1)]) (S1 := fun r => .int r :: [.ref (adr 12 1)]) (n := 152) hC (c_X5_byteAt l (M4 12 1 2)   M4) kv_X5_byteAt wd_2_89 hI dX5_next_149 rfl (hI.2 1 (by decide)) he_X5 rfl rfl rfl (Nat.le_of_ble_eq_true rfl) ⟨Nat.le_of_ble_eq_true rfl, Nat.le_of_ble_eq_true rfl⟩ ⟨Nat.zero_le _, Nat.zero_le _⟩ (fun _ => rfl) rfl (fun r5 M5 _ => ?_)
          refine hz_bipush (v := (59 : Int32)) (n := 154) hC dX5_next_152 (by decide +kernel) rfl ?_
          refine hz_icmp_ne (tgt := 161) (n := 157) hC dX5_next_154 (by decide) rfl (fun _ => ?_) (fun _ => ?_)
          · refine hz_iconst (v := (1 : Int32)) (n := 158) hC dX5_next_157 (by decide +kernel) rfl ?_
            refine hz_goto (n := 162) hC dX5_next_158 (by decide) ?_
            refine fp_X5_22 (n := 165) hC hI (1 : Int32) dX5_next_162 rfl ?_
            refine hz_aload_n (a := 0) (n := 166) hC dX5_next_165 rfl rfl rfl ?_
            refine hz_dup (n := 167) hC dX5_next_166 rfl rfl ?_
            refine fg_X5_19 (n := 170) hC hI dX5_next_167 rfl ?_
            refine hz_iconst (v := (1 : Int32)) (n := 171) hC dX5_next_170 (by decide +kernel) rfl ?_
            refine hz_iadd (n := 172) hC dX5_next_171 rfl ?_
            refine fp_X5_19 (n := 175) hC hI (((hp_p M5 12 1 3 (1 : Int32)) 12 1 2) + (1 : Int32)) dX5_next_172 rfl ?_
            exact hz_vret hC hr dX5_next_175
          · refine hz_iconst (v := (4 : Int32)) (n := 162) hC dX5_next_161 (by decide +kernel) rfl ?_
            refine fp_X5_22 (n := 165) hC hI (4 : Int32) dX5_next_162 rfl ?_
            refine hz_aload_n (a := 0) (n := 166) hC dX5_next_165 rfl rfl rfl ?_
            refine hz_dup (n := 167) hC dX5_next_166 rfl rfl ?_
            refine fg_X5_19 (n := 170) hC hI dX5_next_167 rfl ?_
            refine hz_iconst (v := (1 : Int32)) (n := 171) hC dX5_next_170 (by decide +kernel) rfl ?_
            refine hz_iadd (n := 172) hC dX5_next_171 rfl ?_
            refine fp_X5_19 (n := 175) hC hI (((hp_p M5 12 1 3 (4 : Int32)) 12 1 2) + (1 : Int32)) dX5_next_172 rfl ?_
            exact hz_vret hC hr dX5_next_175
        · refine hz_aload_n (a := 0) (n := 137) hC dX5_next_136 rfl rfl rfl ?_
          refine hz_callV (k := 0) (As := []) (st := []) (S1 := fun _ => []) (n := 140) hC (c_X5_nextNumber l    M4) kv_X5_nextNumber wd_2_102 hI dX5_next_137 rfl (hI.2 1 (by decide)) he_X5 rfl rfl rfl (Nat.le_of_ble_eq_true rfl) ⟨Nat.le_of_ble_eq_true rfl, Nat.le_of_ble_eq_true rfl⟩ ⟨Nat.zero_le _, Nat.zero_le _⟩ (fun _ => rfl) rfl (fun r6 M6 _ => ?_)
          refine hz_goto (n := 175) hC dX5_next_140 (by decide) ?_
          exact hz_vret hC hr dX5_next_175
      · refine hz_aload_n (a := 0) (n := 80) hC dX5_next_79 rfl rfl rfl ?_
        refine hz_iconst (v := (2 : Int32)) (n := 81) hC dX5_next_80 (by decide +kernel) rfl ?_
        refine fp_X5_22 (n := 84) hC hI (2 : Int32) dX5_next_81 rfl ?_
        exact l84 hp_fu _
    · refine hz_aload_n (a := 0) (n := 58) hC dX5_next_57 rfl rfl rfl ?_
      refine hz_iconst (v := (0 : Int32)) (n := 59) hC dX5_next_58 (by decide +kernel) rfl ?_
      refine fp_X5_22 (n := 62) hC hI (0 : Int32) dX5_next_59 rfl ?_
      refine hz_goto (n := 175) hC dX5_next_62 (by decide) ?_
      exact hz_vret hC hr dX5_next_175
  have l0 : ∀  (n0 : Nat)  (M : hp_M), hp_Z p l e (hp_rm 2) s m args below meth c 1 A D ids adr adV cA 0 0 (MQ below (hp_Q A D ids adr adV cA rep hp_oo G0) args s 0 0 A) G0 rep 0 [(0, .ref (adr 12 1))] [] M (L_X5_next_0  n0  M) := by
    intro  n0
    induction n0 with
    | zero => intro  M; exact hz_none hC
    | succ n0 ih0 =>
      intro  M
      rw [L_X5_next_0.eq_2]
      refine hz_aload_n (a := 0) (n := 1) hC dX5_next_0 rfl rfl rfl ?_
      refine fg_X5_19 (n := 4) hC hI dX5_next_1 rfl ?_
      refine hz_aload_n (a := 0) (n := 5) hC dX5_next_4 rfl rfl rfl ?_
      refine fg_X5_15 (n := 8) hC hI dX5_next_5 rfl ?_
      refine hz_icmp_ge (tgt := 38) (n := 11) hC dX5_next_8 (by decide) rfl (fun _ => ?_) (fun _ => ?_)
      · exact j38 _
      · refine hz_aload_n (a := 0) (n := 12) hC dX5_next_11 rfl rfl rfl ?_
        refine hz_aload_n (a := 0) (n := 13) hC dX5_next_12 rfl rfl rfl ?_
        refine fg_X5_19 (n := 16) hC hI dX5_next_13 rfl ?_
        refine hz_callV (k := 1) (As := [.int (M 12 1 2)]) (st := []) (S1 := fun r => .int r :: []) (n := 19) hC (c_X5_byteAt l (M 12 1 2)   M) kv_X5_byteAt wd_2_89 hI dX5_next_16 rfl (hI.2 1 (by decide)) he_X5 rfl rfl rfl (Nat.le_of_ble_eq_true rfl) ⟨Nat.le_of_ble_eq_true rfl, Nat.le_of_ble_eq_true rfl⟩ ⟨Nat.zero_le _, Nat.zero_le _⟩ (fun _ => rfl) rfl (fun r9 M9 _ => ?_)
        refine hz_callS (k := 1) (As := [.int r9]) (st := []) (S1 := fun r => .int r :: []) (n := 22) hC (c_X5_isSpace l r9   M9) ks_X5_isSpace wd_2_93 hI dX5_next_19 rfl rfl rfl (Nat.le_of_ble_eq_true rfl) ⟨Nat.le_of_ble_eq_true rfl, Nat.le_of_ble_eq_true rfl⟩ ⟨Nat.zero_le _, Nat.zero_le _⟩ (fun _ => rfl) rfl (fun r10 M10 _ => ?_)
        refine hz_if_eq (tgt := 38) (n := 25) hC dX5_next_22 (by decide) rfl (fun _ => ?_) (fun _ => ?_)
        · exact j38 _
        · refine hz_aload_n (a := 0) (n := 26) hC dX5_next_25 rfl rfl rfl ?_
          refine hz_dup (n := 27) hC dX5_next_26 rfl rfl ?_
          refine fg_X5_19 (n := 30) hC hI dX5_next_27 rfl ?_
          refine hz_iconst (v := (1 : Int32)) (n := 31) hC dX5_next_30 (by decide +kernel) rfl ?_
          refine hz_iadd (n := 32) hC dX5_next_31 rfl ?_
          refine fp_X5_19 (n := 35) hC hI ((M10 12 1 2) + (1 : Int32)) dX5_next_32 rfl ?_
          refine hz_goto (n := 0) hC dX5_next_35 (by decide) ?_
          exact ih0 _
  exact l0 hp_fu _
def F_X5_readNumber (a0 : Int32) (a1 : Int32) (M : hp_M) : Option (Int32 × hp_M) := (hp_b (F_X5_next M) (fun _ M1 => (if (M1 12 1 3) = (3 : Int32) then (if (M1 12 1 5) < a0 then (hp_b (F_X5_fail (2 : Int32) M1) (fun r2 M2 => (if r2 = 0 then (some ((0 : Int32), M2)) else (some ((1 : Int32), M2))))) else (if (M1 12 1 5) ≤ a1 then (some ((1 : Int32), M1)) else (hp_b (F_X5_fail (2 : Int32) M1) (fun r3 M3 => (if r3 = 0 then (some ((0 : Int32), M3)) else (some ((1 : Int32), M3))))))) else (hp_b (F_X5_fail (1 : Int32) M1) (fun r4 M4 => (if r4 = 0 ∨ r4 = 1 then some (r4, M4) else none))))))
set_option maxRecDepth 20000 in
set_option maxHeartbeats 4000000 in
theorem c_X5_readNumber (l : Launch) (a0 : Int32) (a1 : Int32)  (M : hp_M) : hp_Ct l yX5_readNumber cX5_readNumber 3 (some .boolean) 3 hp_IC (fun adr adV => [.ref (adr 12 1), .int a0, .int a1]) hp_oi M (F_X5_readNumber a0 a1 M) := by
  refine hp_start "HallPhone$Reader" (fun adr adV => [(0, .ref (adr 12 1)), (1, .int a0), (2, .int a1)]) (by decide) rfl (fun _ _ => by simp only [lg_sl]; exact Nat.le_of_ble_eq_true rfl) (fun _ _ => rfl) ?_
  intro p e s m args below meth c A D ids adr adV cA rep G0 hI hC hr
  unfold F_X5_readNumber
  refine hz_aload_n (a := 0) (n := 1) hC dX5_readNumber_0 rfl rfl rfl ?_
  refine hz_callV (k := 0) (As := []) (st := []) (S1 := fun _ => []) (n := 4) hC (c_X5_next l    M) kv_X5_next wd_2_85 hI dX5_readNumber_1 rfl (hI.2 1 (by decide)) he_X5 rfl rfl rfl (Nat.le_of_ble_eq_true rfl) ⟨Nat.le_of_ble_eq_true rfl, Nat.le_of_ble_eq_true rfl⟩ ⟨Nat.zero_le _, Nat.zero_le _⟩ (fun _ => rfl) rfl (fun r1 M1 _ => ?_)
  refine hz_aload_n (a := 0) (n := 5) hC dX5_readNumber_4 rfl rfl rfl ?_
  refine fg_X5_22 (n := 8) hC hI dX5_readNumber_5 rfl ?_
  refine hz_iconst (v := (3 : Int32)) (n := 9) hC dX5_readNumber_8 (by decide +kernel) rfl ?_
  refine hz_icmp_eq (tgt := 18) (n := 12) hC dX5_readNumber_9 (by decide) rfl (fun _ => ?_) (fun _ => ?_)
  · refine hz_aload_n (a := 0) (n := 19) hC dX5_readNumber_18 rfl rfl rfl ?_
    refine fg_X5_28 (n := 22) hC hI dX5_readNumber_19 rfl ?_
    refine hz_iload_n (a := 1) (n := 23) hC dX5_readNumber_22 rfl rfl rfl ?_
    refine hz_icmp_lt (tgt := 34) (n := 26) hC dX5_readNumber_23 (by decide) rfl (fun _ => ?_) (fun _ => ?_)
    · refine hz_aload_n (a := 0) (n := 35) hC dX5_readNumber_34 rfl rfl rfl ?_
      refine hz_iconst (v := (2 : Int32)) (n := 36) hC dX5_readNumber_35 (by decide +kernel) rfl ?_
      refine hz_callV (k := 1) (As := [.int (2 : Int32)]) (st := []) (S1 := fun r => .int r :: []) (n := 39) hC (c_X5_fail l (2 : Int32)   M1) kv_X5_fail wd_2_111 hI dX5_readNumber_36 rfl (hI.2 1 (by decide)) he_X5 rfl rfl rfl (Nat.le_of_ble_eq_true rfl) ⟨Nat.le_of_ble_eq_true rfl, Nat.le_of_ble_eq_true rfl⟩ ⟨Nat.zero_le _, Nat.zero_le _⟩ (fun _ => rfl) rfl (fun r2 M2 _ => ?_)
      refine hz_if_eq (tgt := 46) (n := 42) hC dX5_readNumber_39 (by decide) rfl (fun _ => ?_) (fun _ => ?_)
      · refine hz_iconst (v := (0 : Int32)) (n := 47) hC dX5_readNumber_46 (by decide +kernel) rfl ?_
        exact hz_zret hC hr nz_0 dX5_readNumber_47
      · refine hz_iconst (v := (1 : Int32)) (n := 43) hC dX5_readNumber_42 (by decide +kernel) rfl ?_
        refine hz_goto (n := 47) hC dX5_readNumber_43 (by decide) ?_
        exact hz_zret hC hr nz_1 dX5_readNumber_47
    · refine hz_aload_n (a := 0) (n := 27) hC dX5_readNumber_26 rfl rfl rfl ?_
      refine fg_X5_28 (n := 30) hC hI dX5_readNumber_27 rfl ?_
      refine hz_iload_n (a := 2) (n := 31) hC dX5_readNumber_30 rfl rfl rfl ?_
      refine hz_icmp_le (tgt := 42) (n := 34) hC dX5_readNumber_31 (by decide) rfl (fun _ => ?_) (fun _ => ?_)
      · refine hz_iconst (v := (1 : Int32)) (n := 43) hC dX5_readNumber_42 (by decide +kernel) rfl ?_
        refine hz_goto (n := 47) hC dX5_readNumber_43 (by decide) ?_
        exact hz_zret hC hr nz_1 dX5_readNumber_47
      · refine hz_aload_n (a := 0) (n := 35) hC dX5_readNumber_34 rfl rfl rfl ?_
        refine hz_iconst (v := (2 : Int32)) (n := 36) hC dX5_readNumber_35 (by decide +kernel) rfl ?_
        refine hz_callV (k := 1) (As := [.int (2 : Int32)]) (st := []) (S1 := fun r => .int r :: []) (n := 39) hC (c_X5_fail l (2 : Int32)   M1) kv_X5_fail wd_2_111 hI dX5_readNumber_36 rfl (hI.2 1 (by decide)) he_X5 rfl rfl rfl (Nat.le_of_ble_eq_true rfl) ⟨Nat.le_of_ble_eq_true rfl, Nat.le_of_ble_eq_true rfl⟩ ⟨Nat.zero_le _, Nat.zero_le _⟩ (fun _ => rfl) rfl (fun r3 M3 _ => ?_)
        refine hz_if_eq (tgt := 46) (n := 42) hC dX5_readNumber_39 (by decide) rfl (fun _ => ?_) (fun _ => ?_)
        · refine hz_iconst (v := (0 : Int32)) (n := 47) hC dX5_readNumber_46 (by decide +kernel) rfl ?_
          exact hz_zret hC hr nz_0 dX5_readNumber_47
        · refine hz_iconst (v := (1 : Int32)) (n := 43) hC dX5_readNumber_42 (by decide +kernel) rfl ?_
          refine hz_goto (n := 47) hC dX5_readNumber_43 (by decide) ?_
          exact hz_zret hC hr nz_1 dX5_readNumber_47
  · refine hz_aload_n (a := 0) (n := 13) hC dX5_readNumber_12 rfl rfl rfl ?_
    refine hz_iconst (v := (1 : Int32)) (n := 14) hC dX5_readNumber_13 (by decide +kernel) rfl ?_
    refine hz_callV (k := 1) (As := [.int (1 : Int32)]) (st := []) (S1 := fun r => .int r :: []) (n := 17) hC (c_X5_fail l (1 : Int32)   M1) kv_X5_fail wd_2_111 hI dX5_readNumber_14 rfl (hI.2 1 (by decide)) he_X5 rfl rfl rfl (Nat.le_of_ble_eq_true rfl) ⟨Nat.le_of_ble_eq_true rfl, Nat.le_of_ble_eq_true rfl⟩ ⟨Nat.zero_le _, Nat.zero_le _⟩ (fun _ => rfl) rfl (fun r4 M4 _ => ?_)
    exact hz_bret hC hr dX5_readNumber_17
def F_X8_queued (a0 : Int32) (M : hp_M) : Option (Int32 × hp_M) := (hp_b (F_X4_at 0 a0 M) (fun r1 M1 => (some (r1, M1))))
set_option maxRecDepth 20000 in
set_option maxHeartbeats 4000000 in
theorem c_X8_queued (l : Launch) (a0 : Int32)  (M : hp_M) : hp_Ct l yX8_queued cX8_queued 2 (some .int) 1 hp_IC (fun adr adV => [.ref (adr 12 0), .int a0]) hp_oi M (F_X8_queued a0 M) := by
  refine hp_start "HallPhone" (fun adr adV => [(0, .ref (adr 12 0)), (1, .int a0)]) (by decide) rfl (fun _ _ => by simp only [lg_sl]; exact Nat.le_of_ble_eq_true rfl) (fun _ _ => rfl) ?_
  intro p e s m args below meth c A D ids adr adV cA rep G0 hI hC hr
  unfold F_X8_queued
  refine hz_aload_n (a := 0) (n := 1) hC dX8_queued_0 rfl rfl rfl ?_
  refine fg_X8_10 (n := 4) hC hI dX8_queued_1 rfl ?_
  refine fg_X8_103 (n := 7) hC (by decide) hI dX8_queued_4 rfl ?_
  refine hz_iload_n (a := 1) (n := 8) hC dX8_queued_7 rfl rfl rfl ?_
  refine hz_callVN (k := 1) (As := [.int a0]) (st := []) (S1 := fun r => .int r :: []) (n := 11) hC (c_X4_at l 0 a0 (by decide)  M) kv_X4_at wd_3_98 hI dX8_queued_8 rfl (hI.1 0 6 (by decide) (by decide)) (he_X4 (by decide)) rfl rfl rfl (Nat.le_of_ble_eq_true rfl) ⟨Nat.le_of_ble_eq_true rfl, Nat.le_of_ble_eq_true rfl⟩ ⟨Nat.zero_le _, Nat.zero_le _⟩ (fun _ => rfl) rfl (fun r1 M1 _ => ?_)
  exact hz_iret hC hr dX8_queued_11
def F_X8_isSaved (a0 : Int32) (M : hp_M) : Option (Int32 × hp_M) := (if ((M 12 0 5) &&& ((1 : Int32) <<< (a0 &&& 31))) = 0 then (some ((0 : Int32), M)) else (some ((1 : Int32), M)))
set_option maxRecDepth 20000 in
set_option maxHeartbeats 4000000 in
theorem c_X8_isSaved (l : Launch) (a0 : Int32)  (M : hp_M) : hp_Ct l yX8_isSaved cX8_isSaved 2 (some .boolean) 0 hp_IC (fun adr adV => [.ref (adr 12 0), .int a0]) hp_oi M (F_X8_isSaved a0 M) := by
  refine hp_start "HallPhone" (fun adr adV => [(0, .ref (adr 12 0)), (1, .int a0)]) (by decide) rfl (fun _ _ => by simp only [lg_sl]; exact Nat.le_of_ble_eq_true rfl) (fun _ _ => rfl) ?_
  intro p e s m args below meth c A D ids adr adV cA rep G0 hI hC hr
  unfold F_X8_isSaved
  refine hz_aload_n (a := 0) (n := 1) hC dX8_isSaved_0 rfl rfl rfl ?_
  refine fg_X8_32 (n := 4) hC hI dX8_isSaved_1 rfl ?_
  refine hz_iconst (v := (1 : Int32)) (n := 5) hC dX8_isSaved_4 (by decide +kernel) rfl ?_
  refine hz_iload_n (a := 1) (n := 6) hC dX8_isSaved_5 rfl rfl rfl ?_
  refine hz_ishl (n := 7) hC dX8_isSaved_6 rfl ?_
  refine hz_iand (n := 8) hC dX8_isSaved_7 rfl ?_
  refine hz_if_eq (tgt := 15) (n := 11) hC dX8_isSaved_8 (by decide) rfl (fun _ => ?_) (fun _ => ?_)
  · refine hz_iconst (v := (0 : Int32)) (n := 16) hC dX8_isSaved_15 (by decide +kernel) rfl ?_
    exact hz_zret hC hr nz_0 dX8_isSaved_16
  · refine hz_iconst (v := (1 : Int32)) (n := 12) hC dX8_isSaved_11 (by decide +kernel) rfl ?_
    refine hz_goto (n := 16) hC dX8_isSaved_12 (by decide) ?_
    exact hz_zret hC hr nz_1 dX8_isSaved_16
def F_X8_snapshotIn (a0 : Int32) (M : hp_M) : Option (Nat × hp_M) := (if a0 = 0 then (some (10, M)) else (some (11, M)))
set_option maxRecDepth 20000 in
set_option maxHeartbeats 4000000 in
theorem c_X8_snapshotIn (l : Launch) (a0 : Int32)  (M : hp_M) : hp_Ct l yX8_snapshotIn cX8_snapshotIn 2 (some (.object "HallPhone$House")) 0 hp_IC (fun adr adV => [.ref (adr 12 0), .int a0]) hp_oh M (F_X8_snapshotIn a0 M) := by
  refine hp_start "HallPhone" (fun adr adV => [(0, .ref (adr 12 0)), (1, .int a0)]) (by decide) rfl (fun _ _ => by simp only [lg_sl]; exact Nat.le_of_ble_eq_true rfl) (fun _ _ => rfl) ?_
  intro p e s m args below meth c A D ids adr adV cA rep G0 hI hC hr
  unfold F_X8_snapshotIn
  refine hz_iload_n (a := 1) (n := 1) hC dX8_snapshotIn_0 rfl rfl rfl ?_
  refine hz_if_ne (tgt := 11) (n := 4) hC dX8_snapshotIn_1 (by decide) rfl (fun _ => ?_) (fun _ => ?_)
  · refine hz_aload_n (a := 0) (n := 5) hC dX8_snapshotIn_4 rfl rfl rfl ?_
    refine fg_X8_26 (n := 8) hC hI dX8_snapshotIn_5 rfl ?_
    refine hz_goto (n := 15) hC dX8_snapshotIn_8 (by decide) ?_
    exact hz_hret hC hr (Or.inl ⟨_, rfl⟩) dX8_snapshotIn_15
  · refine hz_aload_n (a := 0) (n := 12) hC dX8_snapshotIn_11 rfl rfl rfl ?_
    refine fg_X8_29 (n := 15) hC hI dX8_snapshotIn_12 rfl ?_
    exact hz_hret hC hr (Or.inl ⟨_, rfl⟩) dX8_snapshotIn_15
