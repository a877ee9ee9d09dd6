def F_X1_forget  (M : hp_M) : Option (Unit × hp_M) := (some ((), (hp_p (hp_p M 12 4 1 (0 : Int32)) 12 4 2 (0 : Int32))))
set_option maxRecDepth 20000 in
set_option maxHeartbeats 4000000 in
theorem c_X1_forget (l : Launch)   (M : hp_M) : hp_Ct l yX1_forget cX1_forget 1 none 0 hp_IC (fun adr adV => [.ref (adr 12 4)]) hp_oo M (F_X1_forget  M) := by
  refine hp_start "HallPhone$History" (fun adr adV => [(0, .ref (adr 12 4))]) (by decide) rfl (fun _ _ => by simp only [lg_sl]; exact Nat.le_of_ble_eq_true rfl) (fun _ _ => rfl) ?_
  intro p e s m args below meth c A D ids adr adV cA rep G0 hI hC hr
  unfold F_X1_forget
  refine hz_aload_n (a := 0) (n := 1) hC dX1_forget_0 rfl rfl rfl ?_
  refine hz_iconst (v := (0 : Int32)) (n := 2) hC dX1_forget_1 (by decide +kernel) rfl ?_
  refine fp_X1_17 (n := 5) hC hI (0 : Int32) dX1_forget_2 rfl ?_
  refine hz_aload_n (a := 0) (n := 6) hC dX1_forget_5 rfl rfl rfl ?_
  refine hz_iconst (v := (0 : Int32)) (n := 7) hC dX1_forget_6 (by decide +kernel) rfl ?_
  refine fp_X1_21 (n := 10) hC hI (0 : Int32) dX1_forget_7 rfl ?_
  exact hz_vret hC hr dX1_forget_10
def F_X5_fail (a0 : Int32) (M : hp_M) : Option (Int32 × hp_M) := (some ((0 : Int32), (hp_p M 12 1 9 (((8 : Int32) * (M 12 1 4)) + a0))))
set_option maxRecDepth 20000 in
set_option maxHeartbeats 4000000 in
theorem c_X5_fail (l : Launch) (a0 : Int32)  (M : hp_M) : hp_Ct l yX5_fail cX5_fail 2 (some .boolean) 0 hp_IC (fun adr adV => [.ref (adr 12 1), .int a0]) hp_oi M (F_X5_fail a0 M) := by
  refine hp_start "HallPhone$Reader" (fun adr adV => [(0, .ref (adr 12 1)), (1, .int a0)]) (by decide) rfl (fun _ _ => by simp only [lg_sl]; exact Nat.le_of_ble_eq_true rfl) (fun _ _ => rfl) ?_
  intro p e s m args below meth c A D ids adr adV cA rep G0 hI hC hr
  unfold F_X5_fail
  refine hz_aload_n (a := 0) (n := 1) hC dX5_fail_0 rfl rfl rfl ?_
  refine hz_bipush (v := (8 : Int32)) (n := 3) hC dX5_fail_1 (by decide +kernel) rfl ?_
  refine hz_aload_n (a := 0) (n := 4) hC dX5_fail_3 rfl rfl rfl ?_
  refine fg_X5_25 (n := 7) hC hI dX5_fail_4 rfl ?_
  refine hz_imul (n := 8) hC dX5_fail_7 rfl ?_
  refine hz_iload_n (a := 1) (n := 9) hC dX5_fail_8 rfl rfl rfl ?_
  refine hz_iadd (n := 10) hC dX5_fail_9 rfl ?_
  refine fp_X5_41 (n := 13) hC hI (((8 : Int32) * (M 12 1 4)) + a0) dX5_fail_10 rfl ?_
  refine hz_iconst (v := (0 : Int32)) (n := 14) hC dX5_fail_13 (by decide +kernel) rfl ?_
  exact hz_zret hC hr nz_0 dX5_fail_14
def F_X5_byteAt (a0 : Int32) (M : hp_M) : Option (Int32 × hp_M) := (if a0 < 0 then (some ((-1 : Int32), M)) else (if (700 : Int32) ≤ a0 then (some ((-1 : Int32), M)) else (if a0 < 0 ∨ 700 ≤ (a0).toNatClampNeg then none else (some ((M 12 2 (a0).toNatClampNeg), M)))))
set_option maxRecDepth 20000 in
set_option maxHeartbeats 4000000 in
theorem c_X5_byteAt (l : Launch) (a0 : Int32)  (M : hp_M) : hp_Ct l yX5_byteAt cX5_byteAt 2 (some .int) 0 hp_IC (fun adr adV => [.ref (adr 12 1), .int a0]) hp_oi M (F_X5_byteAt a0 M) := by
  refine hp_start "HallPhone$Reader" (fun adr adV => [(0, .ref (adr 12 1)), (1, .int a0)]) (by decide) rfl (fun _ _ => by simp only [lg_sl]; exact Nat.le_of_ble_eq_true rfl) (fun _ _ => rfl) ?_
  intro p e s m args below meth c A D ids adr adV cA rep G0 hI hC hr
  unfold F_X5_byteAt
  refine hz_iload_n (a := 1) (n := 1) hC dX5_byteAt_0 rfl rfl rfl ?_
  refine hz_if_lt (tgt := 22) (n := 4) hC dX5_byteAt_1 (by decide) rfl (fun _ => ?_) (fun _ => ?_)
  · refine hz_iconst (v := (-1 : Int32)) (n := 23) hC dX5_byteAt_22 (by decide +kernel) rfl ?_
    exact hz_iret hC hr dX5_byteAt_23
  · refine hz_iload_n (a := 1) (n := 5) hC dX5_byteAt_4 rfl rfl rfl ?_
    refine hz_aload_n (a := 0) (n := 6) hC dX5_byteAt_5 rfl rfl rfl ?_
    refine fg_X5_9 (n := 9) hC hI dX5_byteAt_6 rfl ?_
    refine hz_alen (v := (700 : Int32)) (t := 0) (n := 10) hC dX5_byteAt_9 (hI.2 2 (by decide)) ha_p2 rfl (by decide +kernel) rfl ?_
    refine hz_icmp_ge (tgt := 22) (n := 13) hC dX5_byteAt_10 (by decide) rfl (fun _ => ?_) (fun _ => ?_)
    · refine hz_iconst (v := (-1 : Int32)) (n := 23) hC dX5_byteAt_22 (by decide +kernel) rfl ?_
      exact hz_iret hC hr dX5_byteAt_23
    · refine hz_aload_n (a := 0) (n := 14) hC dX5_byteAt_13 rfl rfl rfl ?_
      refine fg_X5_9 (n := 17) hC hI dX5_byteAt_14 rfl ?_
      refine hz_iload_n (a := 1) (n := 18) hC dX5_byteAt_17 rfl rfl rfl ?_
      refine hz_iald (n := 19) hC dX5_byteAt_18 (hI.2 2 (by decide)) ha_p2 rfl (fun _ => ?_)
      refine hz_goto (n := 23) hC dX5_byteAt_19 (by decide) ?_
      exact hz_iret hC hr dX5_byteAt_23
def L_X5_isWord_28 (t0 : Nat)   : Nat → Int32 → hp_M → Option (Int32 × hp_M)
  | 0, _, _ => none
  | n28 + 1, x2, M => (hp_b (F_J0_length_8abf5 t0 M) (fun r2 M2 => (if r2 ≤ x2 then (some ((1 : Int32), M2)) else (hp_b (F_X5_byteAt ((M2 12 1 4) + x2) M2) (fun r3 M3 => (hp_b (F_J0_charAt_5068e t0 x2 M3) (fun r4 M4 => (if r3 = r4 then (L_X5_isWord_28 t0 n28 (x2 + (1 : Int32)) M4) else (some ((0 : Int32), M4))))))))))
def F_X5_isWord (t0 : Nat) (M : hp_M) : Option (Int32 × hp_M) := (if (M 12 1 3) = (2 : Int32) then (hp_b (F_J0_length_8abf5 t0 M) (fun r1 M1 => (if ((M 12 1 2) - (M 12 1 4)) = r1 then (L_X5_isWord_28 t0 hp_fu (0 : Int32) M1) else (some ((0 : Int32), M1))))) else (some ((0 : Int32), M)))
set_option maxRecDepth 20000 in
set_option maxHeartbeats 4000000 in
theorem c_X5_isWord (l : Launch) (t0 : Nat) (ht0 : hp_tb t0) (M : hp_M) : hp_Ct l yX5_isWord cX5_isWord 3 (some .boolean) 4 hp_IC (fun adr adV => [.ref (adr 12 1), .ref (adV t0)]) hp_oi M (F_X5_isWord t0 M) := by
  refine hp_start "HallPhone$Reader" (fun adr adV => [(0, .ref (adr 12 1)), (1, .ref (adV t0))]) (by decide) rfl (fun _ _ => by simp only [lg_sl]; exact Nat.le_of_ble_eq_true rfl) (fun _ _ => rfl) ?_
  intro p e s m args below meth c A D ids adr adV cA rep G0 hI hC hr
  unfold F_X5_isWord
  have l28 : ∀  (n28 : Nat) (x2 : Int32) (M : hp_M), hp_Z p l e (hp_rm 4) s m args below meth c 3 A D ids adr adV cA 0 0 (MQ below (hp_Q A D ids adr adV cA rep hp_oi G0) args s 0 0 A) G0 rep 28 [(0, .ref (adr 12 1)), (1, .ref (adV t0)), (2, .int x2)] [] M (L_X5_isWord_28 t0 n28 x2 M) := by
    intro  n28
    induction n28 with
    | zero => intro x2 M; exact hz_none hC
    | succ n28 ih28 =>
      intro x2 M
      rw [L_X5_isWord_28.eq_2]
      refine hz_iload_n (a := 2) (n := 29) hC dX5_isWord_28 rfl rfl rfl ?_
      refine hz_aload_n (a := 1) (n := 30) hC dX5_isWord_29 rfl rfl rfl ?_
      refine hz_callO (k := 0) (As := []) (st := [.int x2]) (S1 := fun r => .int r :: [.int x2]) (n := 33) hC (c_J0_length_8abf5 l t0 ht0  M) kv_J0_length_8abf5 wd_1_232 trivial dX5_isWord_30 rfl (hp_s_O hC.2.2.2.2.1 ht0) rfl rfl (Nat.le_of_ble_eq_true rfl) ⟨Nat.le_of_ble_eq_true rfl, Nat.le_of_ble_eq_true rfl⟩ ⟨Nat.zero_le _, Nat.zero_le _⟩ (fun _ => rfl) rfl (fun r2 M2 _ => ?_)
      refine hz_icmp_ge (tgt := 62) (n := 36) hC dX5_isWord_33 (by decide) rfl (fun _ => ?_) (fun _ => ?_)
      · refine hz_iconst (v := (1 : Int32)) (n := 63) hC dX5_isWord_62 (by decide +kernel) rfl ?_
        exact hz_zret hC hr nz_1 dX5_isWord_63
      · refine hz_aload_n (a := 0) (n := 37) hC dX5_isWord_36 rfl rfl rfl ?_
        refine hz_aload_n (a := 0) (n := 38) hC dX5_isWord_37 rfl rfl rfl ?_
        refine fg_X5_25 (n := 41) hC hI dX5_isWord_38 rfl ?_
        refine hz_iload_n (a := 2) (n := 42) hC dX5_isWord_41 rfl rfl rfl ?_
        refine hz_iadd (n := 43) hC dX5_isWord_42 rfl ?_
        refine hz_callV (k := 1) (As := [.int ((M2 12 1 4) + x2)]) (st := []) (S1 := fun r => .int r :: []) (n := 46) hC (c_X5_byteAt l ((M2 12 1 4) + x2)   M2) kv_X5_byteAt wd_2_78 hI dX5_isWord_43 rfl (hI.2 1 (by decide)) he_X5 rfl rfl rfl (Nat.le_of_ble_eq_true rfl) ⟨Nat.le_of_ble_eq_true rfl, Nat.le_of_ble_eq_true rfl⟩ ⟨Nat.zero_le _, Nat.zero_le _⟩ (fun _ => rfl) rfl (fun r3 M3 _ => ?_)
        refine hz_aload_n (a := 1) (n := 47) hC dX5_isWord_46 rfl rfl rfl ?_
        refine hz_iload_n (a := 2) (n := 48) hC dX5_isWord_47 rfl rfl rfl ?_
        refine hz_callO (k := 1) (As := [.int x2]) (st := [.int r3]) (S1 := fun r => .int r :: [.int r3]) (n := 51) hC (c_J0_charAt_5068e l t0 x2 ht0  M3) kv_J0_charAt_5068e wd_2_1 trivial dX5_isWord_48 rfl (hp_s_O hC.2.2.2.2.1 ht0) rfl rfl (Nat.le_of_ble_eq_true rfl) ⟨Nat.le_of_ble_eq_true rfl, Nat.le_of_ble_eq_true rfl⟩ ⟨Nat.zero_le _, Nat.zero_le _⟩ (fun _ => rfl) rfl (fun r4 M4 _ => ?_)
        refine hz_icmp_eq (tgt := 56) (n := 54) hC dX5_isWord_51 (by decide) rfl (fun _ => ?_) (fun _ => ?_)
        · refine hz_iinc (a := 2) (v := (x2 + (1 : Int32))) (L' := [(2, .int (x2 + (1 : Int32))), (0, .ref (adr 12 1)), (1, .ref (adV t0))]) (n := 59) hC dX5_isWord_56 rfl rfl (by decide) rfl rfl ?_
          refine hz_goto (n := 28) hC dX5_isWord_59 (by decide) ?_
          refine hz_L (L' := [(0, .ref (adr 12 1)), (1, .ref (adV t0)), (2, .int (x2 + (1 : Int32)))]) [1, 2, 0] rfl ?_
          exact ih28 _ _
        · refine hz_iconst (v := (0 : Int32)) (n := 55) hC dX5_isWord_54 (by decide +kernel) rfl ?_
          exact hz_zret hC hr nz_0 dX5_isWord_55
  refine hz_aload_n (a := 0) (n := 1) hC dX5_isWord_0 rfl rfl rfl ?_
  refine fg_X5_22 (n := 4) hC hI dX5_isWord_1 rfl ?_
  refine hz_iconst (v := (2 : Int32)) (n := 5) hC dX5_isWord_4 (by decide +kernel) rfl ?_
  refine hz_icmp_ne (tgt := 24) (n := 8) hC dX5_isWord_5 (by decide) rfl (fun _ => ?_) (fun _ => ?_)
  · refine hz_aload_n (a := 0) (n := 9) hC dX5_isWord_8 rfl rfl rfl ?_
    refine fg_X5_19 (n := 12) hC hI dX5_isWord_9 rfl ?_
    refine hz_aload_n (a := 0) (n := 13) hC dX5_isWord_12 rfl rfl rfl ?_
    refine fg_X5_25 (n := 16) hC hI dX5_isWord_13 rfl ?_
    refine hz_isub (n := 17) hC dX5_isWord_16 rfl ?_
    refine hz_aload_n (a := 1) (n := 18) hC dX5_isWord_17 rfl rfl rfl ?_
    refine hz_callO (k := 0) (As := []) (st := [.int ((M 12 1 2) - (M 12 1 4))]) (S1 := fun r => .int r :: [.int ((M 12 1 2) - (M 12 1 4))]) (n := 21) hC (c_J0_length_8abf5 l t0 ht0  M) kv_J0_length_8abf5 wd_1_232 trivial dX5_isWord_18 rfl (hp_s_O hC.2.2.2.2.1 ht0) rfl rfl (Nat.le_of_ble_eq_true rfl) ⟨Nat.le_of_ble_eq_true rfl, Nat.le_of_ble_eq_true rfl⟩ ⟨Nat.zero_le _, Nat.zero_le _⟩ (fun _ => rfl) rfl (fun r1 M1 _ => ?_)
    refine hz_icmp_eq (tgt := 26) (n := 24) hC dX5_isWord_21 (by decide) rfl (fun _ => ?_) (fun _ => ?_)
    · refine hz_iconst (v := (0 : Int32)) (n := 27) hC dX5_isWord_26 (by decide +kernel) rfl ?_
      refine hz_istore_n (L' := [(2, .int (0 : Int32)), (0, .ref (adr 12 1)), (1, .ref (adV t0))]) (n := 28) hC dX5_isWord_27 rfl (by decide) rfl rfl ?_
      refine hz_L (L' := [(0, .ref (adr 12 1)), (1, .ref (adV t0)), (2, .int (0 : Int32))]) [1, 2, 0] rfl ?_
      exact l28 hp_fu _ _
    · refine hz_iconst (v := (0 : Int32)) (n := 25) hC dX5_isWord_24 (by decide +kernel) rfl ?_
      exact hz_zret hC hr nz_0 dX5_isWord_25
  · refine hz_iconst (v := (0 : Int32)) (n := 25) hC dX5_isWord_24 (by decide +kernel) rfl ?_
    exact hz_zret hC hr nz_0 dX5_isWord_25
def F_X5_isDigit (a0 : Int32) (M : hp_M) : Option (Int32 × hp_M) := (if a0 < (48 : Int32) then (some ((0 : Int32), M)) else (if (57 : Int32) < a0 then (some ((0 : Int32), M)) else (some ((1 : Int32), M))))
set_option maxRecDepth 20000 in
set_option maxHeartbeats 4000000 in
theorem c_X5_isDigit (l : Launch) (a0 : Int32)  (M : hp_M) : hp_Ct l yX5_isDigit cX5_isDigit 1 (some .boolean) 0 hp_IC (fun adr adV => [.int a0]) hp_oi M (F_X5_isDigit a0 M) := by
  refine hp_start "HallPhone$Reader" (fun adr adV => [(0, .int a0)]) (by decide) rfl (fun _ _ => by simp only [lg_sl]; exact Nat.le_of_ble_eq_true rfl) (fun _ _ => rfl) ?_
  intro p e s m args below meth c A D ids adr adV cA rep G0 hI hC hr
  unfold F_X5_isDigit
  refine hz_iload_n (a := 0) (n := 1) hC dX5_isDigit_0 rfl rfl rfl ?_
  refine hz_bipush (v := (48 : Int32)) (n := 3) hC dX5_isDigit_1 (by decide +kernel) rfl ?_
  refine hz_icmp_lt (tgt := 16) (n := 6) hC dX5_isDigit_3 (by decide) rfl (fun _ => ?_) (fun _ => ?_)
  · refine hz_iconst (v := (0 : Int32)) (n := 17) hC dX5_isDigit_16 (by decide +kernel) rfl ?_
    exact hz_zret hC hr nz_0 dX5_isDigit_17
  · refine hz_iload_n (a := 0) (n := 7) hC dX5_isDigit_6 rfl rfl rfl ?_
    refine hz_bipush (v := (57 : Int32)) (n := 9) hC dX5_isDigit_7 (by decide +kernel) rfl ?_
    refine hz_icmp_gt (tgt := 16) (n := 12) hC dX5_isDigit_9 (by decide) rfl (fun _ => ?_) (fun _ => ?_)
    · refine hz_iconst (v := (0 : Int32)) (n := 17) hC dX5_isDigit_16 (by decide +kernel) rfl ?_
      exact hz_zret hC hr nz_0 dX5_isDigit_17
    · refine hz_iconst (v := (1 : Int32)) (n := 13) hC dX5_isDigit_12 (by decide +kernel) rfl ?_
      refine hz_goto (n := 17) hC dX5_isDigit_13 (by decide) ?_
      exact hz_zret hC hr nz_1 dX5_isDigit_17
def F_X5_isLetter (a0 : Int32) (M : hp_M) : Option (Int32 × hp_M) := (if a0 < (97 : Int32) then (some ((0 : Int32), M)) else (if (122 : Int32) < a0 then (some ((0 : Int32), M)) else (some ((1 : Int32), M))))
set_option maxRecDepth 20000 in
set_option maxHeartbeats 4000000 in
theorem c_X5_isLetter (l : Launch) (a0 : Int32)  (M : hp_M) : hp_Ct l yX5_isLetter cX5_isLetter 1 (some .boolean) 0 hp_IC (fun adr adV => [.int a0]) hp_oi M (F_X5_isLetter a0 M) := by
  refine hp_start "HallPhone$Reader" (fun adr adV => [(0, .int a0)]) (by decide) rfl (fun _ _ => by simp only [lg_sl]; exact Nat.le_of_ble_eq_true rfl) (fun _ _ => rfl) ?_
  intro p e s m args below meth c A D ids adr adV cA rep G0 hI hC hr
  unfold F_X5_isLetter
  refine hz_iload_n (a := 0) (n := 1) hC dX5_isLetter_0 rfl rfl rfl ?_
  refine hz_bipush (v := (97 : Int32)) (n := 3) hC dX5_isLetter_1 (by decide +kernel) rfl ?_
  refine hz_icmp_lt (tgt := 16) (n := 6) hC dX5_isLetter_3 (by decide) rfl (fun _ => ?_) (fun _ => ?_)
  · refine hz_iconst (v := (0 : Int32)) (n := 17) hC dX5_isLetter_16 (by decide +kernel) rfl ?_
    exact hz_zret hC hr nz_0 dX5_isLetter_17
  · refine hz_iload_n (a := 0) (n := 7) hC dX5_isLetter_6 rfl rfl rfl ?_
    refine hz_bipush (v := (122 : Int32)) (n := 9) hC dX5_isLetter_7 (by decide +kernel) rfl ?_
    refine hz_icmp_gt (tgt := 16) (n := 12) hC dX5_isLetter_9 (by decide) rfl (fun _ => ?_) (fun _ => ?_)
    · refine hz_iconst (v := (0 : Int32)) (n := 17) hC dX5_isLetter_16 (by decide +kernel) rfl ?_
      exact hz_zret hC hr nz_0 dX5_isLetter_17
    · refine hz_iconst (v := (1 : Int32)) (n := 13) hC dX5_isLetter_12 (by decide +kernel) rfl ?_
      refine hz_goto (n := 17) hC dX5_isLetter_13 (by decide) ?_
      exact hz_zret hC hr nz_1 dX5_isLetter_17
def F_X5_isSpace (a0 : Int32) (M : hp_M) : Option (Int32 × hp_M) := (if a0 = (32 : Int32) then (some ((1 : Int32), M)) else (if a0 = (10 : Int32) then (some ((1 : Int32), M)) else (some ((0 : Int32), M))))
set_option maxRecDepth 20000 in
set_option maxHeartbeats 4000000 in
theorem c_X5_isSpace (l : Launch) (a0 : Int32)  (M : hp_M) : hp_Ct l yX5_isSpace cX5_isSpace 1 (some .boolean) 0 hp_IC (fun adr adV => [.int a0]) hp_oi M (F_X5_isSpace a0 M) := by
  refine hp_start "HallPhone$Reader" (fun adr adV => [(0, .int a0)]) (by decide) rfl (fun _ _ => by simp only [lg_sl]; exact Nat.le_of_ble_eq_true rfl) (fun _ _ => rfl) ?_
  intro p e s m args below meth c A D ids adr adV cA rep G0 hI hC hr
  unfold F_X5_isSpace
  refine hz_iload_n (a := 0) (n := 1) hC dX5_isSpace_0 rfl rfl rfl ?_
  refine hz_bipush (v := (32 : Int32)) (n := 3) hC dX5_isSpace_1 (by decide +kernel) rfl ?_
  refine hz_icmp_eq (tgt := 12) (n := 6) hC dX5_isSpace_3 (by decide) rfl (fun _ => ?_) (fun _ => ?_)
  · refine hz_iconst (v := (1 : Int32)) (n := 13) hC dX5_isSpace_12 (by decide +kernel) rfl ?_
    refine hz_goto (n := 17) hC dX5_isSpace_13 (by decide) ?_
    exact hz_zret hC hr nz_1 dX5_isSpace_17
  · refine hz_iload_n (a := 0) (n := 7) hC dX5_isSpace_6 rfl rfl rfl ?_
    refine hz_bipush (v := (10 : Int32)) (n := 9) hC dX5_isSpace_7 (by decide +kernel) rfl ?_
    refine hz_icmp_ne (tgt := 16) (n := 12) hC dX5_isSpace_9 (by decide) rfl (fun _ => ?_) (fun _ => ?_)
    · refine hz_iconst (v := (1 : Int32)) (n := 13) hC dX5_isSpace_12 (by decide +kernel) rfl ?_
      refine hz_goto (n := 17) hC dX5_isSpace_13 (by decide) ?_
      exact hz_zret hC hr nz_1 dX5_isSpace_17
    · refine hz_iconst (v := (0 : Int32)) (n := 17) hC dX5_isSpace_16 (by decide +kernel) rfl ?_
      exact hz_zret hC hr nz_0 dX5_isSpace_17
def A_X5_nextNumber_79    (M : hp_M) : Option (Unit × hp_M) := (if (4 : Int32) < ((M 12 1 2) - (M 12 1 4)) then (some ((), (hp_p M 12 1 3 (4 : Int32)))) else (some ((), (hp_p M 12 1 3 (3 : Int32)))))
def L_X5_nextNumber_5    : Nat → hp_M → Option (Unit × hp_M)
  | 0, _ => none
  | n5 + 1, M => (if (M 12 1 1) ≤ (M 12 1 2) then (A_X5_nextNumber_79 M) else (hp_b (F_X5_byteAt (M 12 1 2) M) (fun r1 M1 => (hp_b (F_X5_isDigit r1 M1) (fun r2 M2 => (if r2 = 0 then (A_X5_nextNumber_79 M2) else (if (4 : Int32) ≤ ((M2 12 1 2) - (M2 12 1 4)) then (L_X5_nextNumber_5  n5  (hp_p M2 12 1 2 ((M2 12 1 2) + (1 : Int32)))) else (hp_b (F_X5_byteAt (M2 12 1 2) M2) (fun r3 M3 => (L_X5_nextNumber_5  n5  (hp_p (hp_p M3 12 1 5 ((((10 : Int32) * (M2 12 1 5)) + r3) - (48 : Int32))) 12 1 2 (((hp_p M3 12 1 5 ((((10 : Int32) * (M2 12 1 5)) + r3) - (48 : Int32))) 12 1 2) + (1 : Int32)))))))))))))
def F_X5_nextNumber  (M : hp_M) : Option (Unit × hp_M) := (L_X5_nextNumber_5 hp_fu (hp_p M 12 1 5 (0 : Int32)))
set_option maxRecDepth 20000 in
set_option maxHeartbeats 4000000 in
theorem c_X5_nextNumber (l : Launch)   (M : hp_M) : hp_Ct l yX5_nextNumber cX5_nextNumber 1 none 1 hp_IC (fun adr adV => [.ref (adr 12 1)]) hp_oo M (F_X5_nextNumber  M) := by
  refine hp_start "HallPhone$Reader" (fun adr adV => [(0, .ref (adr 12 1))]) (by decide) rfl (fun _ _ => by simp only [lg_sl]; exact Nat.le_of_ble_eq_true rfl) (fun _ _ => rfl) ?_
  intro p e s m args below meth c A D ids adr adV cA rep G0 hI hC hr
  unfold F_X5_nextNumber
  have j79 : ∀  (M : hp_M), hp_Z p l e (hp_rm 1) s m args below meth c 1 A D ids adr adV cA 0 0 (MQ below (hp_Q A D ids adr adV cA rep hp_oo G0) args s 0 0 A) G0 rep 79 [(0, .ref (adr 12 1))] [] M (A_X5_nextNumber_79   M) := by
    intro  M
    unfold A_X5_nextNumber_79
    refine hz_aload_n (a := 0) (n := 80) hC dX5_nextNumber_79 rfl rfl rfl ?_
    refine hz_aload_n (a := 0) (n := 81) hC dX5_nextNumber_80 rfl rfl rfl ?_
    refine fg_X5_19 (n := 84) hC hI dX5_nextNumber_81 rfl ?_
    refine hz_aload_n (a := 0) (n := 85) hC dX5_nextNumber_84 rfl rfl rfl ?_
    refine fg_X5_25 (n := 88) hC hI dX5_nextNumber_85 rfl ?_
    refine hz_isub (n := 89) hC dX5_nextNumber_88 rfl ?_
    refine hz_iconst (v := (4 : Int32)) (n := 90) hC dX5_nextNumber_89 (by decide +kernel) rfl ?_
    refine hz_icmp_gt (tgt := 97) (n := 93) hC dX5_nextNumber_90 (by decide) rfl (fun _ => ?_) (fun _ => ?_)
    · refine hz_iconst (v := (4 : Int32)) (n := 98) hC dX5_nextNumber_97 (by decide +kernel) rfl ?_
      refine fp_X5_22 (n := 101) hC hI (4 : Int32) dX5_nextNumber_98 rfl ?_
      exact hz_vret hC hr dX5_nextNumber_101
    · refine hz_iconst (v := (3 : Int32)) (n := 94) hC dX5_nextNumber_93 (by decide +kernel) rfl ?_
      refine hz_goto (n := 98) hC dX5_nextNumber_94 (by decide) ?_
      refine fp_X5_22 (n := 101) hC hI (3 : Int32) dX5_nextNumber_98 rfl ?_
      exact hz_vret hC hr dX5_nextNumber_101
  have l5 : ∀  (n5 : Nat)  (M : hp_M), hp_Z p l e (hp_rm 1) s m args below meth c 1 A D ids adr adV cA 0 0 (MQ below (hp_Q A D ids adr adV cA rep hp_oo G0) args s 0 0 A) G0 rep 5 [(0, .ref (adr 12 1))] [] M (L_X5_nextNumber_5  n5  M) := by
    intro  n5
    induction n5 with
    | zero => intro  M; exact hz_none hC
    | succ n5 ih5 =>
      intro  M
      rw [L_X5_nextNumber_5.eq_2]
      refine hz_aload_n (a := 0) (n := 6) hC dX5_nextNumber_5 rfl rfl rfl ?_
      refine fg_X5_19 (n := 9) hC hI dX5_nextNumber_6 rfl ?_
      refine hz_aload_n (a := 0) (n := 10) hC dX5_nextNumber_9 rfl rfl rfl ?_
      refine fg_X5_15 (n := 13) hC hI dX5_nextNumber_10 rfl ?_
      refine hz_icmp_ge (tgt := 79) (n := 16) hC dX5_nextNumber_13 (by decide) rfl (fun _ => ?_) (fun _ => ?_)
      · exact j79 _
      · refine hz_aload_n (a := 0) (n := 17) hC dX5_nextNumber_16 rfl rfl rfl ?_
        refine hz_aload_n (a := 0) (n := 18) hC dX5_nextNumber_17 rfl rfl rfl ?_
        refine fg_X5_19 (n := 21) hC hI dX5_nextNumber_18 rfl ?_
        refine hz_callV (k := 1) (As := [.int (M 12 1 2)]) (st := []) (S1 := fun r => .int r :: []) (n := 24) hC (c_X5_byteAt l (M 12 1 2)   M) kv_X5_byteAt wd_2_78 hI dX5_nextNumber_21 rfl (hI.2 1 (by decide)) he_X5 rfl rfl rfl (Nat.le_of_ble_eq_true rfl) ⟨Nat.le_of_ble_eq_true rfl, Nat.le_of_ble_eq_true rfl⟩ ⟨Nat.zero_le _, Nat.zero_le _⟩ (fun _ => rfl) rfl (fun r1 M1 _ => ?_)
        refine hz_callS (k := 1) (As := [.int r1]) (st := []) (S1 := fun r => .int r :: []) (n := 27) hC (c_X5_isDigit l r1   M1) ks_X5_isDigit wd_2_88 hI dX5_nextNumber_24 rfl rfl rfl (Nat.le_of_ble_eq_true rfl) ⟨Nat.le_of_ble_eq_true rfl, Nat.le_of_ble_eq_true rfl⟩ ⟨Nat.zero_le _, Nat.zero_le _⟩ (fun _ => rfl) rfl (fun r2 M2 _ => ?_)
        refine hz_if_eq (tgt := 79) (n := 30) hC dX5_nextNumber_27 (by decide) rfl (fun _ => ?_) (fun _ => ?_)
        · exact j79 _
        · refine hz_aload_n (a := 0) (n := 31) hC dX5_nextNumber_30 rfl rfl rfl ?_
          refine fg_X5_19 (n := 34) hC hI dX5_nextNumber_31 rfl ?_
          refine hz_aload_n (a := 0) (n := 35) hC dX5_nextNumber_34 rfl rfl rfl ?_
          refine fg_X5_25 (n := 38) hC hI dX5_nextNumber_35 rfl ?_
          refine hz_isub (n := 39) hC dX5_nextNumber_38 rfl ?_
          refine hz_iconst (v := (4 : Int32)) (n := 40) hC dX5_nextNumber_39 (by decide +kernel) rfl ?_
          refine hz_icmp_ge (tgt := 66) (n := 43) hC dX5_nextNumber_40 (by decide) rfl (fun _ => ?_) (fun _ => ?_)
          · refine hz_aload_n (a := 0) (n := 67) hC dX5_nextNumber_66 rfl rfl rfl ?_
            refine hz_dup (n := 68) hC dX5_nextNumber_67 rfl rfl ?_
            refine fg_X5_19 (n := 71) hC hI dX5_nextNumber_68 rfl ?_
            refine hz_iconst (v := (1 : Int32)) (n := 72) hC dX5_nextNumber_71 (by decide +kernel) rfl ?_
            refine hz_iadd (n := 73) hC dX5_nextNumber_72 rfl ?_
            refine fp_X5_19 (n := 76) hC hI ((M2 12 1 2) + (1 : Int32)) dX5_nextNumber_73 rfl ?_
            refine hz_goto (n := 5) hC dX5_nextNumber_76 (by decide) ?_
            exact ih5 _
          · refine hz_aload_n (a := 0) (n := 44) hC dX5_nextNumber_43 rfl rfl rfl ?_
            refine hz_bipush (v := (10 : Int32)) (n := 46) hC dX5_nextNumber_44 (by decide +kernel) rfl ?_
            refine hz_aload_n (a := 0) (n := 47) hC dX5_nextNumber_46 rfl rfl rfl ?_
            refine fg_X5_28 (n := 50) hC hI dX5_nextNumber_47 rfl ?_
            refine hz_imul (n := 51) hC dX5_nextNumber_50 rfl ?_
            refine hz_aload_n (a := 0) (n := 52) hC dX5_nextNumber_51 rfl rfl rfl ?_
            refine hz_aload_n (a := 0) (n := 53) hC dX5_nextNumber_52 rfl rfl rfl ?_
            refine fg_X5_19 (n := 56) hC hI dX5_nextNumber_53 rfl ?_
            refine hz_callV (k := 1) (As := [.int (M2 12 1 2)]) (st := [.int ((10 : Int32) * (M2 12 1 5)), .ref (adr 12 1)]) (S1 := fun r => .int r :: [.int ((10 : Int32) * (M2 12 1 5)), .ref (adr 12 1)]) (n := 59) hC (c_X5_byteAt l (M2 12 1 2)   M2) kv_X5_byteAt wd_2_78 hI dX5_nextNumber_56 rfl (hI.2 1 (by decide)) he_X5 rfl rfl rfl (Nat.le_of_ble_eq_true rfl) ⟨Nat.le_of_ble_eq_true rfl, Nat.le_of_ble_eq_true rfl⟩ ⟨Nat.zero_le _, Nat.zero_le _⟩ (fun _ => rfl) rfl (fun r3 M3 _ => ?_)
            refine hz_iadd (n := 60) hC dX5_nextNumber_59 rfl ?_
            refine hz_bipush (v := (48 : Int32)) (n := 62) hC dX5_nextNumber_60 (by decide +kernel) rfl ?_
            refine hz_isub (n := 63) hC dX5_nextNumber_62 rfl ?_
            refine fp_X5_28 (n := 66) hC hI ((((10 : Int32) * (M2 12 1 5)) + r3) - (48 : Int32)) dX5_nextNumber_63 rfl ?_
            refine hz_aload_n (a := 0) (n := 67) hC dX5_nextNumber_66 rfl rfl rfl ?_
            refine hz_dup (n := 68) hC dX5_nextNumber_67 rfl rfl ?_
            refine fg_X5_19 (n := 71) hC hI dX5_nextNumber_68 rfl ?_
            refine hz_iconst (v := (1 : Int32)) (n := 72) hC dX5_nextNumber_71 (by decide +kernel) rfl ?_
            refine hz_iadd (n := 73) hC dX5_nextNumber_72 rfl ?_
            refine fp_X5_19 (n := 76) hC hI (((hp_p M3 12 1 5 ((((10 : Int32) * (M2 12 1 5)) + r3) - (48 : Int32))) 12 1 2) + (1 : Int32)) dX5_nextNumber_73 rfl ?_
            refine hz_goto (n := 5) hC dX5_nextNumber_76 (by decide) ?_
            exact ih5 _
  refine hz_aload_n (a := 0) (n := 1) hC dX5_nextNumber_0 rfl rfl rfl ?_
  refine hz_iconst (v := (0 : Int32)) (n := 2) hC dX5_nextNumber_1 (by decide +kernel) rfl ?_
  refine fp_X5_28 (n := 5) hC hI (0 : Int32) dX5_nextNumber_2 rfl ?_
  exact l5 hp_fu _
def L_X5_next_84    : Nat → hp_M → Option (Unit × hp_M)
  | 0, _ => none
  | n84 + 1, M => (if (M 12 1 1) ≤ (M 12 1 2) then (some ((), M)) else (hp_b (F_X5_byteAt (M 12 1 2) M) (fun r7 M7 => (hp_b (F_X5_isLetter r7 M7) (fun r8 M8 => (if r8 = 0 then (some ((), M8)) else (L_X5_next_84  n84  (hp_p M8 12 1 2 ((M8 12 1 2) + (1 : Int32))))))))))
def A_X5_next_38    (M : hp_M) : Option (Unit × hp_M) := (if ((hp_p M 12 1 4 (M 12 1 2)) 12 1 2) < ((hp_p M 12 1 4 (M 12 1 2)) 12 1 1) then (hp_b (F_X5_byteAt ((hp_p M 12 1 4 (M 12 1 2)) 12 1 2) (hp_p M 12 1 4 (M 12 1 2))) (fun r1 M1 => (hp_b (F_X5_isLetter r1 M1) (fun r2 M2 => (if r2 = 0 then (hp_b (F_X5_byteAt (M2 12 1 2) M2) (fun r3 M3 => (hp_b (F_X5_isDigit r3 M3) (fun r4 M4 => (if r4 = 0 then (hp_b (F_X5_byteAt (M4 12 1 2) M4) (fun r5 M5 => (if r5 = (59 : Int32) then (some ((), (hp_p (hp_p M5 12 1 3 (1 : Int32)) 12 1 2 (((hp_p M5 12 1 3 (1 : Int32)) 12 1 2) + (1 : Int32))))) else (some ((), (hp_p (hp_p M5 12 1 3 (4 : Int32)) 12 1 2 (((hp_p M5 12 1 3 (4 : Int32)) 12 1 2) + (1 : Int32)))))))) else (hp_b (F_X5_nextNumber M4) (fun _ M6 => (some ((), M6))))))))) else (L_X5_next_84 hp_fu (hp_p M2 12 1 3 (2 : Int32)))))))) else (some ((), (hp_p (hp_p M 12 1 4 (M 12 1 2)) 12 1 3 (0 : Int32)))))
def L_X5_next_0    : Nat → hp_M → Option (Unit × hp_M)
  | 0, _ => none
  | n0 + 1, M => (if (M 12 1 1) ≤ (M 12 1 2) then (A_X5_next_38 M) else (hp_b (F_X5_byteAt (M 12 1 2) M) (fun r9 M9 => (hp_b (F_X5_isSpace r9 M9) (fun r10 M10 => (if r10 = 0 then (A_X5_next_38 M10) else (L_X5_next_0  n0  (hp_p M10 12 1 2 ((M10 12 1 2) + (1 : Int32))))))))))
def F_X5_next  (M : hp_M) : Option (Unit × hp_M) := (L_X5_next_0 hp_fu M)
set_option maxRecDepth 20000 in
set_option maxHeartbeats 4000000 in
theorem c_X5_next (l : Launch)   (M : hp_M) : hp_Ct l yX5_next cX5_next 1 none 2 hp_IC (fun adr adV => [.ref (adr 12 1)]) hp_oo M (F_X5_next  M) := by
  refine hp_start "HallPhone$Reader" (fun adr adV => [(0, .ref (adr 12 1))]) (by decide) rfl (fun _ _ => by simp only [lg_sl]; exact Nat.le_of_ble_eq_true rfl) (fun _ _ => rfl) ?_
  intro p e s m args below meth c A D ids adr adV cA rep G0 hI hC hr
  unfold F_X5_next
  have l84 : ∀  (n84 : Nat)  (M : hp_M), hp_Z p l e (hp_rm 2) s m args below meth c 1 A D ids adr adV cA 0 0 (MQ below (hp_Q A D ids adr adV cA rep hp_oo G0) args s 0 0 A) G0 rep 84 [(0, .ref (adr 12 1))] [] M (L_X5_next_84  n84  M) := by
    intro  n84
    induction n84 with
    | zero => intro  M; exact hz_none hC
    | succ n84 ih84 =>
      intro  M
      rw [L_X5_next_84.eq_2]
      refine hz_aload_n (a := 0) (n := 85) hC dX5_next_84 rfl rfl rfl ?_
      refine fg_X5_19 (n := 88) hC hI dX5_next_85 rfl ?_
      refine hz_aload_n (a := 0) (n := 89) hC dX5_next_88 rfl rfl rfl ?_
      refine fg_X5_15 (n := 92) hC hI dX5_next_89 rfl ?_
      refine hz_icmp_ge (tgt := 175) (n := 95) hC dX5_next_92 (by decide) rfl (fun _ => ?_) (fun _ => ?_)
      · exact hz_vret hC hr dX5_next_175
      · refine hz_aload_n (a := 0) (n := 96) hC dX5_next_95 rfl rfl rfl ?_
        refine hz_aload_n (a := 0) (n := 97) hC dX5_next_96 rfl rfl rfl ?_
        refine fg_X5_19 (n := 100) hC hI dX5_next_97 rfl ?_
        refine hz_callV (k := 1) (As := [.int (M 12 1 2)]) (st := []) (S1 := fun r => .int r :: []) (n := 103) hC (c_X5_byteAt l (M 12 1 2)   M) kv_X5_byteAt wd_2_78 hI dX5_next_100 rfl (hI.2 1 (by decide)) he_X5 rfl rfl rfl (Nat.le_of_ble_eq_true rfl) ⟨Nat.le_of_ble_eq_true rfl, Nat.le_of_ble_eq_true rfl⟩ ⟨Nat.zero_le _, Nat.zero_le _⟩ (fun _ => rfl) rfl (fun r7 M7 _ => ?_)
        refine hz_callS (k := 1) (As := [.int r7]) (st := []) (S1 := fun r => .int r :: []) (n := 106) hC (c_X5_isLetter l r7   M7) ks_X5_isLetter wd_2_85 hI dX5_next_103 rfl rfl rfl (Nat.le_of_ble_eq_true rfl) ⟨Nat.le_of_ble_eq_true rfl, Nat.le_of_ble_eq_true rfl⟩ ⟨Nat.zero_le _, Nat.zero_le _⟩ (fun _ => rfl) rfl (fun r8 M8 _ => ?_)
        refine hz_if_eq (tgt := 175) (n := 109) hC dX5_next_106 (by decide) rfl (fun _ => ?_) (fun _ => ?_)
        · exact hz_vret hC hr dX5_next_175
        · refine hz_aload_n (a := 0) (n := 110) hC dX5_next_109 rfl rfl rfl ?_
          refine hz_dup (n := 111) hC dX5_next_110 rfl rfl ?_
          refine fg_X5_19 (n := 114) hC hI dX5_next_111 rfl ?_
          refine hz_iconst (v := (1 : Int32)) (n := 115) hC dX5_next_114 (by decide +kernel) rfl ?_
          refine hz_iadd (n := 116) hC dX5_next_115 rfl ?_
          refine fp_X5_19 (n := 119) hC hI ((M8 12 1 2) + (1 : Int32)) dX5_next_116 rfl ?_
          refine hz_goto (n := 84) hC dX5_next_119 (by decide) ?_
          exact ih84 _
  have j38 : ∀  (M : hp_M), hp_Z p l e (hp_rm 2) s m args below meth c 1 A D ids adr adV cA 0 0 (MQ below (hp_Q A D ids adr adV cA rep hp_oo G0) args s 0 0 A) G0 rep 38 [(0, .ref (adr 12 1))] [] M (A_X5_next_38   M) := by
    intro  M
    unfold A_X5_next_38
    refine hz_aload_n (a := 0) (n := 39) hC dX5_next_38 rfl rfl rfl ?_
    refine hz_aload_n (a := 0) (n := 40) hC dX5_next_39 rfl rfl rfl ?_
    refine fg_X5_19 (n := 43) hC hI dX5_next_40 rfl ?_
    refine fp_X5_25 (n := 46) hC hI (M 12 1 2) dX5_next_43 rfl ?_
    refine hz_aload_n (a := 0) (n := 47) hC dX5_next_46 rfl rfl rfl ?_
    refine fg_X5_19 (n := 50) hC hI dX5_next_47 rfl ?_
    refine hz_aload_n (a := 0) (n := 51) hC dX5_next_50 rfl rfl rfl ?_
    refine fg_X5_15 (n := 54) hC hI dX5_next_51 rfl ?_
    refine hz_icmp_lt (tgt := 65) (n := 57) hC dX5_next_54 (by decide) rfl (fun _ => ?_) (fun _ => ?_)
    · refine hz_aload_n (a := 0) (n := 66) hC dX5_next_65 rfl rfl rfl ?_
      refine hz_aload_n (a := 0) (n := 67) hC dX5_next_66 rfl rfl rfl ?_
      refine fg_X5_19 (n := 70) hC hI dX5_next_67 rfl ?_
      refine hz_callV (k := 1) (As := [.int ((hp_p M 12 1 4 (M 12 1 2)) 12 1 2)]) (st := []) (S1 := fun r => .int r :: []) (n := 73) hC (c_X5_byteAt l ((hp_p M 12 1 4 (M 12 1 2)) 12 1 2)   (hp_p M 12 1 4 (M 12 1 2))) kv_X5_byteAt wd_2_78 hI dX5_next_70 rfl (hI.2 1 (by decide)) he_X5 rfl rfl rfl (Nat.le_of_ble_eq_true rfl) ⟨Nat.le_of_ble_eq_true rfl, Nat.le_of_ble_eq_true rfl⟩ ⟨Nat.zero_le _, Nat.zero_le _⟩ (fun _ => rfl) rfl (fun r1 M1 _ => ?_)
      refine hz_callS (k := 1) (As := [.int r1]) (st := []) (S1 := fun r => .int r :: []) (n := 76) hC (c_X5_isLetter l r1   M1) ks_X5_isLetter wd_2_85 hI dX5_next_73 rfl rfl rfl (Nat.le_of_ble_eq_true rfl) ⟨Nat.le_of_ble_eq_true rfl, Nat.le_of_ble_eq_true rfl⟩ ⟨Nat.zero_le _, Nat.zero_le _⟩ (fun _ => rfl) rfl (fun r2 M2 _ => ?_)
      refine hz_if_eq (tgt := 122) (n := 79) hC dX5_next_76 (by decide) rfl (fun _ => ?_) (fun _ => ?_)
      · refine hz_aload_n (a := 0) (n := 123) hC dX5_next_122 rfl rfl rfl ?_
        refine hz_aload_n (a := 0) (n := 124) hC dX5_next_123 rfl rfl rfl ?_
        refine fg_X5_19 (n := 127) hC hI dX5_next_124 rfl ?_
        refine hz_callV (k := 1) (As := [.int (M2 12 1 2)]) (st := []) (S1 := fun r => .int r :: []) (n := 130) hC (c_X5_byteAt l (M2 12 1 2)   M2) kv_X5_byteAt wd_2_78 hI dX5_next_127 rfl (hI.2 1 (by decide)) he_X5 rfl rfl rfl (Nat.le_of_ble_eq_true rfl) ⟨Nat.le_of_ble_eq_true rfl, Nat.le_of_ble_eq_true rfl⟩ ⟨Nat.zero_le _, Nat.zero_le _⟩ (fun _ => rfl) rfl (fun r3 M3 _ => ?_)
        refine hz_callS (k := 1) (As := [.int r3]) (st := []) (S1 := fun r => .int r :: []) (n := 133) hC (c_X5_isDigit l r3   M3) ks_X5_isDigit wd_2_88 hI dX5_next_130 rfl rfl rfl (Nat.le_of_ble_eq_true rfl) ⟨Nat.le_of_ble_eq_true rfl, Nat.le_of_ble_eq_true rfl⟩ ⟨Nat.zero_le _, Nat.zero_le _⟩ (fun _ => rfl) rfl (fun r4 M4 _ => ?_)
        refine hz_if_eq (tgt := 143) (n := 136) hC dX5_next_133 (by decide) rfl (fun _ => ?_) (fun _ => ?_)
        · refine hz_aload_n (a := 0) (n := 144) hC dX5_next_143 rfl rfl rfl ?_
          refine hz_aload_n (a := 0) (n := 145) hC dX5_next_144 rfl rfl rfl ?_
          refine hz_aload_n (a := 0) (n := 146) hC dX5_next_145 rfl rfl rfl ?_
          refine fg_X5_19 (n := 149) hC hI dX5_next_146 rfl ?_
          refine hz_callV (k := 1) (As := [.int (M4 12 1 2)]) (st := [.ref (adr 12 1)]) (S1 := fun r => .int r :: [.ref (adr 12 1)]) (n := 152) hC (c_X5_byteAt l (M4 12 1 2)   M4) kv_X5_byteAt wd_2_78 hI dX5_next_149 rfl (hI.2 1 (by decide)) he_X5 rfl rfl rfl (Nat.le_of_ble_eq_true rfl) ⟨Nat.le_of_ble_eq_true rfl, Nat.le_of_ble_eq_true rfl⟩ ⟨Nat.zero_le _, Nat.zero_le _⟩ (fun _ => rfl) rfl (fun r5 M5 _ => ?_)
          refine hz_bipush (v := (59 : Int32)) (n := 154) hC dX5_next_152 (by decide +kernel) rfl ?_
          refine hz_icmp_ne (tgt := 161) (n := 157) hC dX5_next_154 (by decide) rfl (fun _ => ?_) (fun _ => ?_)
          · refine hz_iconst (v := (1 : Int32)) (n := 158) hC dX5_next_157 (by decide +kernel) rfl ?_
            refine hz_goto (n := 162) hC dX5_next_158 (by decide) ?_
            refine fp_X5_22 (n := 165) hC hI (1 : Int32) dX5_next_162 rfl ?_
            refine hz_aload_n (a := 0) (n := 166) hC dX5_next_165 rfl rfl rfl ?_
            refine hz_dup (n := 167) hC dX5_next_166 rfl rfl ?_
            refine fg_X5_19 (n := 170) hC hI dX5_next_167 rfl ?_
            refine hz_iconst (v := (1 : Int32)) (n := 171) hC dX5_next_170 (by decide +kernel) rfl ?_
            refine hz_iadd (n := 172) hC dX5_next_171 rfl ?_
            refine fp_X5_19 (n := 175) hC hI (((hp_p M5 12 1 3 (1 : Int32)) 12 1 2) + (1 : Int32)) dX5_next_172 rfl ?_
            exact hz_vret hC hr dX5_next_175
          · refine hz_iconst (v := (4 : Int32)) (n := 162) hC dX5_next_161 (by decide +kernel) rfl ?_
            refine fp_X5_22 (n := 165) hC hI (4 : Int32) dX5_next_162 rfl ?_
            refine hz_aload_n (a := 0) (n := 166) hC dX5_next_165 rfl rfl rfl ?_
            refine hz_dup (n := 167) hC dX5_next_166 rfl rfl ?_
            refine fg_X5_19 (n := 170) hC hI dX5_next_167 rfl ?_
            refine hz_iconst (v := (1 : Int32)) (n := 171) hC dX5_next_170 (by decide +kernel) rfl ?_
            refine hz_iadd (n := 172) hC dX5_next_171 rfl ?_
            refine fp_X5_19 (n := 175) hC hI (((hp_p M5 12 1 3 (4 : Int32)) 12 1 2) + (1 : Int32)) dX5_next_172 rfl ?_
            exact hz_vret hC hr dX5_next_175
        · refine hz_aload_n (a := 0) (n := 137) hC dX5_next_136 rfl rfl rfl ?_
          refine hz_callV (k := 0) (As := []) (st := []) (S1 := fun _ => []) (n := 140) hC (c_X5_nextNumber l    M4) kv_X5_nextNumber wd_2_91 hI dX5_next_137 rfl (hI.2 1 (by decide)) he_X5 rfl rfl rfl (Nat.le_of_ble_eq_true rfl) ⟨Nat.le_of_ble_eq_true rfl, Nat.le_of_ble_eq_true rfl⟩ ⟨Nat.zero_le _, Nat.zero_le _⟩ (fun _ => rfl) rfl (fun r6 M6 _ => ?_)
          refine hz_goto (n := 175) hC dX5_next_140 (by decide) ?_
          exact hz_vret hC hr dX5_next_175
      · refine hz_aload_n (a := 0) (n := 80) hC dX5_next_79 rfl rfl rfl ?_
        refine hz_iconst (v := (2 : Int32)) (n := 81) hC dX5_next_80 (by decide +kernel) rfl ?_
        refine fp_X5_22 (n := 84) hC hI (2 : Int32) dX5_next_81 rfl ?_
        exact l84 hp_fu _
    · refine hz_aload_n (a := 0) (n := 58) hC dX5_next_57 rfl rfl rfl ?_
      refine hz_iconst (v := (0 : Int32)) (n := 59) hC dX5_next_58 (by decide +kernel) rfl ?_
      refine fp_X5_22 (n := 62) hC hI (0 : Int32) dX5_next_59 rfl ?_
      refine hz_goto (n := 175) hC dX5_next_62 (by decide) ?_
      exact hz_vret hC hr dX5_next_175
  have l0 : ∀  (n0 : Nat)  (M : hp_M), hp_Z p l e (hp_rm 2) s m args below meth c 1 A D ids adr adV cA 0 0 (MQ below (hp_Q A D ids adr adV cA rep hp_oo G0) args s 0 0 A) G0 rep 0 [(0, .ref (adr 12 1))] [] M (L_X5_next_0  n0  M) := by
    intro  n0
    induction n0 with
    | zero => intro  M; exact hz_none hC
    | succ n0 ih0 =>
      intro  M
      rw [L_X5_next_0.eq_2]
      refine hz_aload_n (a := 0) (n := 1) hC dX5_next_0 rfl rfl rfl ?_
      refine fg_X5_19 (n := 4) hC hI dX5_next_1 rfl ?_
      refine hz_aload_n (a := 0) (n := 5) hC dX5_next_4 rfl rfl rfl ?_
      refine fg_X5_15 (n := 8) hC hI dX5_next_5 rfl ?_
      refine hz_icmp_ge (tgt := 38) (n := 11) hC dX5_next_8 (by decide) rfl (fun _ => ?_) (fun _ => ?_)
      · exact j38 _
      · refine hz_aload_n (a := 0) (n := 12) hC dX5_next_11 rfl rfl rfl ?_
        refine hz_aload_n (a := 0) (n := 13) hC dX5_next_12 rfl rfl rfl ?_
        refine fg_X5_19 (n := 16) hC hI dX5_next_13 rfl ?_
        refine hz_callV (k := 1) (As := [.int (M 12 1 2)]) (st := []) (S1 := fun r => .int r :: []) (n := 19) hC (c_X5_byteAt l (M 12 1 2)   M) kv_X5_byteAt wd_2_78 hI dX5_next_16 rfl (hI.2 1 (by decide)) he_X5 rfl rfl rfl (Nat.le_of_ble_eq_true rfl) ⟨Nat.le_of_ble_eq_true rfl, Nat.le_of_ble_eq_true rfl⟩ ⟨Nat.zero_le _, Nat.zero_le _⟩ (fun _ => rfl) rfl (fun r9 M9 _ => ?_)
        refine hz_callS (k := 1) (As := [.int r9]) (st := []) (S1 := fun r => .int r :: []) (n := 22) hC (c_X5_isSpace l r9   M9) ks_X5_isSpace wd_2_82 hI dX5_next_19 rfl rfl rfl (Nat.le_of_ble_eq_true rfl) ⟨Nat.le_of_ble_eq_true rfl, Nat.le_of_ble_eq_true rfl⟩ ⟨Nat.zero_le _, Nat.zero_le _⟩ (fun _ => rfl) rfl (fun r10 M10 _ => ?_)
        refine hz_if_eq (tgt := 38) (n := 25) hC dX5_next_22 (by decide) rfl (fun _ => ?_) (fun _ => ?_)
        · exact j38 _
        · refine hz_aload_n (a := 0) (n := 26) hC dX5_next_25 rfl rfl rfl ?_
          refine hz_dup (n := 27) hC dX5_next_26 rfl rfl ?_
          refine fg_X5_19 (n := 30) hC hI dX5_next_27 rfl ?_
          refine hz_iconst (v := (1 : Int32)) (n := 31) hC dX5_next_30 (by decide +kernel) rfl ?_
          refine hz_iadd (n := 32) hC dX5_next_31 rfl ?_
          refine fp_X5_19 (n := 35) hC hI ((M10 12 1 2) + (1 : Int32)) dX5_next_32 rfl ?_
          refine hz_goto (n := 0) hC dX5_next_35 (by decide) ?_
          exact ih0 _
  exact l0 hp_fu _
def A_X5_readFlats_115 (b0 : Nat)   (M : hp_M) : Option (Int32 × hp_M) := (if (M 12 1 3) = (1 : Int32) then (some ((1 : Int32), M)) else (hp_b (F_X5_fail (1 : Int32) M) (fun r5 M5 => (if r5 = 0 then (some ((0 : Int32), M5)) else (some ((1 : Int32), M5))))))
def L_X5_readFlats_39 (b0 : Nat)   : Nat → Int32 → hp_M → Option (Int32 × hp_M)
  | 0, _, _ => none
  | n39 + 1, x2, M => (if (10 : Int32) < x2 then (A_X5_readFlats_115 b0 M) else (if (M 12 1 3) = (3 : Int32) then (if (M 12 1 5) ≤ (9 : Int32) then (hp_b (F_X2_addFlat b0 (M 12 1 5) M) (fun r6 M6 => (if r6 = 0 then (hp_b (F_X5_fail (3 : Int32) M6) (fun r7 M7 => (if r7 = 0 ∨ r7 = 1 then some (r7, M7) else none))) else (hp_b (F_X5_next M6) (fun _ M8 => (hp_b (F_X5_isWord 28 M8) (fun r9 M9 => (if r9 = 0 then (L_X5_readFlats_39 b0 n39 (x2 + (1 : Int32)) M9) else (hp_b (F_X2_put b0 x2 (1 : Int32) (1 : Int32) M9) (fun _ M10 => (hp_b (F_X5_next M10) (fun _ M11 => (L_X5_readFlats_39 b0 n39 (x2 + (1 : Int32)) M11))))))))))))) else (hp_b (F_X5_fail (2 : Int32) M) (fun r12 M12 => (if r12 = 0 ∨ r12 = 1 then some (r12, M12) else none)))) else (A_X5_readFlats_115 b0 M)))
def F_X5_readFlats (b0 : Nat) (M : hp_M) : Option (Int32 × hp_M) := (hp_b (F_X5_next M) (fun _ M1 => (hp_b (F_X5_isWord 27 M1) (fun r2 M2 => (if r2 = 0 then (hp_b (F_X5_fail (1 : Int32) M2) (fun r3 M3 => (if r3 = 0 ∨ r3 = 1 then some (r3, M3) else none))) else (hp_b (F_X5_next M2) (fun _ M4 => (if (M4 12 1 3) = (3 : Int32) then (L_X5_readFlats_39 b0 hp_fu (0 : Int32) M4) else (hp_b (F_X5_fail (1 : Int32) M4) (fun r13 M13 => (if r13 = 0 ∨ r13 = 1 then some (r13, M13) else none)))))))))))
set_option maxRecDepth 20000 in
set_option maxHeartbeats 4000000 in
theorem c_X5_readFlats (l : Launch) (b0 : Nat) (hb0 : b0 < 12) (M : hp_M) : hp_Ct l yX5_readFlats cX5_readFlats 3 (some .boolean) 5 hp_IC (fun adr adV => [.ref (adr 12 1), .ref (adr b0 0)]) hp_oi M (F_X5_readFlats b0 M) := by
  refine hp_start "HallPhone$Reader" (fun adr adV => [(0, .ref (adr 12 1)), (1, .ref (adr b0 0))]) (by decide) rfl (fun _ _ => by simp only [lg_sl]; exact Nat.le_of_ble_eq_true rfl) (fun _ _ => rfl) ?_
  intro p e s m args below meth c A D ids adr adV cA rep G0 hI hC hr
  unfold F_X5_readFlats
  have j115 : ∀  (M : hp_M), hp_Z p l e (hp_rm 5) s m args below meth c 3 A D ids adr adV cA 0 0 (MQ below (hp_Q A D ids adr adV cA rep hp_oi G0) args s 0 0 A) G0 rep 115 [(0, .ref (adr 12 1))] [] M (A_X5_readFlats_115 b0  M) := by
    intro  M
    unfold A_X5_readFlats_115
    refine hz_aload_n (a := 0) (n := 116) hC dX5_readFlats_115 rfl rfl rfl ?_
    refine fg_X5_22 (n := 119) hC hI dX5_readFlats_116 rfl ?_
    refine hz_iconst (v := (1 : Int32)) (n := 120) hC dX5_readFlats_119 (by decide +kernel) rfl ?_
    refine hz_icmp_eq (tgt := 131) (n := 123) hC dX5_readFlats_120 (by decide) rfl (fun _ => ?_) (fun _ => ?_)
    · refine hz_iconst (v := (1 : Int32)) (n := 132) hC dX5_readFlats_131 (by decide +kernel) rfl ?_
      refine hz_goto (n := 136) hC dX5_readFlats_132 (by decide) ?_
      exact hz_zret hC hr nz_1 dX5_readFlats_136
    · refine hz_aload_n (a := 0) (n := 124) hC dX5_readFlats_123 rfl rfl rfl ?_
      refine hz_iconst (v := (1 : Int32)) (n := 125) hC dX5_readFlats_124 (by decide +kernel) rfl ?_
      refine hz_callV (k := 1) (As := [.int (1 : Int32)]) (st := []) (S1 := fun r => .int r :: []) (n := 128) hC (c_X5_fail l (1 : Int32)   M) kv_X5_fail wd_2_100 hI dX5_readFlats_125 rfl (hI.2 1 (by decide)) he_X5 rfl rfl rfl (Nat.le_of_ble_eq_true rfl) ⟨Nat.le_of_ble_eq_true rfl, Nat.le_of_ble_eq_true rfl⟩ ⟨Nat.zero_le _, Nat.zero_le _⟩ (fun _ => rfl) rfl (fun r5 M5 _ => ?_)
      refine hz_if_eq (tgt := 135) (n := 131) hC dX5_readFlats_128 (by decide) rfl (fun _ => ?_) (fun _ => ?_)
      · refine hz_iconst (v := (0 : Int32)) (n := 136) hC dX5_readFlats_135 (by decide +kernel) rfl ?_
        exact hz_zret hC hr nz_0 dX5_readFlats_136
      · refine hz_iconst (v := (1 : Int32)) (n := 132) hC dX5_readFlats_131 (by decide +kernel) rfl ?_
        refine hz_goto (n := 136) hC dX5_readFlats_132 (by decide) ?_
        exact hz_zret hC hr nz_1 dX5_readFlats_136
  have l39 : ∀  (n39 : Nat) (x2 : Int32) (M : hp_M), hp_Z p l e (hp_rm 5) s m args below meth c 3 A D ids adr adV cA 0 0 (MQ below (hp_Q A D ids adr adV cA rep hp_oi G0) args s 0 0 A) G0 rep 39 [(0, .ref (adr 12 1)), (1, .ref (adr b0 0)), (2, .int x2)] [] M (L_X5_readFlats_39 b0 n39 x2 M) := by
    intro  n39
    induction n39 with
    | zero => intro x2 M; exact hz_none hC
    | succ n39 ih39 =>
      intro x2 M
      rw [L_X5_readFlats_39.eq_2]
      refine hz_iload_n (a := 2) (n := 40) hC dX5_readFlats_39 rfl rfl rfl ?_
      refine hz_bipush (v := (10 : Int32)) (n := 42) hC dX5_readFlats_40 (by decide +kernel) rfl ?_
      refine hz_icmp_gt (tgt := 115) (n := 45) hC dX5_readFlats_42 (by decide) rfl (fun _ => ?_) (fun _ => ?_)
      · refine hz_L (L' := [(0, .ref (adr 12 1))]) [0] rfl ?_
        exact j115 _
      · refine hz_aload_n (a := 0) (n := 46) hC dX5_readFlats_45 rfl rfl rfl ?_
        refine fg_X5_22 (n := 49) hC hI dX5_readFlats_46 rfl ?_
        refine hz_iconst (v := (3 : Int32)) (n := 50) hC dX5_readFlats_49 (by decide +kernel) rfl ?_
        refine hz_icmp_ne (tgt := 115) (n := 53) hC dX5_readFlats_50 (by decide) rfl (fun _ => ?_) (fun _ => ?_)
        · refine hz_aload_n (a := 0) (n := 54) hC dX5_readFlats_53 rfl rfl rfl ?_
          refine fg_X5_28 (n := 57) hC hI dX5_readFlats_54 rfl ?_
          refine hz_bipush (v := (9 : Int32)) (n := 59) hC dX5_readFlats_57 (by decide +kernel) rfl ?_
          refine hz_icmp_le (tgt := 68) (n := 62) hC dX5_readFlats_59 (by decide) rfl (fun _ => ?_) (fun _ => ?_)
          · refine hz_aload_n (a := 1) (n := 69) hC dX5_readFlats_68 rfl rfl rfl ?_
            refine hz_aload_n (a := 0) (n := 70) hC dX5_readFlats_69 rfl rfl rfl ?_
            refine fg_X5_28 (n := 73) hC hI dX5_readFlats_70 rfl ?_
            refine hz_callVN (k := 1) (As := [.int (M 12 1 5)]) (st := []) (S1 := fun r => .int r :: []) (n := 76) hC (c_X2_addFlat l b0 (M 12 1 5) hb0  M) kv_X2_addFlat wd_2_104 hI dX5_readFlats_73 rfl (hI.1 b0 0 hb0 (by decide)) (he_X2 hb0) rfl rfl rfl (Nat.le_of_ble_eq_true rfl) ⟨Nat.le_of_ble_eq_true rfl, Nat.le_of_ble_eq_true rfl⟩ ⟨Nat.zero_le _, Nat.zero_le _⟩ (fun _ => rfl) rfl (fun r6 M6 _ => ?_)
            refine hz_if_ne (tgt := 85) (n := 79) hC dX5_readFlats_76 (by decide) rfl (fun _ => ?_) (fun _ => ?_)
            · refine hz_aload_n (a := 0) (n := 80) hC dX5_readFlats_79 rfl rfl rfl ?_
              refine hz_iconst (v := (3 : Int32)) (n := 81) hC dX5_readFlats_80 (by decide +kernel) rfl ?_
              refine hz_callV (k := 1) (As := [.int (3 : Int32)]) (st := []) (S1 := fun r => .int r :: []) (n := 84) hC (c_X5_fail l (3 : Int32)   M6) kv_X5_fail wd_2_100 hI dX5_readFlats_81 rfl (hI.2 1 (by decide)) he_X5 rfl rfl rfl (Nat.le_of_ble_eq_true rfl) ⟨Nat.le_of_ble_eq_true rfl, Nat.le_of_ble_eq_true rfl⟩ ⟨Nat.zero_le _, Nat.zero_le _⟩ (fun _ => rfl) rfl (fun r7 M7 _ => ?_)
              exact hz_bret hC hr dX5_readFlats_84
            · refine hz_aload_n (a := 0) (n := 86) hC dX5_readFlats_85 rfl rfl rfl ?_
              refine hz_callV (k := 0) (As := []) (st := []) (S1 := fun _ => []) (n := 89) hC (c_X5_next l    M6) kv_X5_next wd_2_74 hI dX5_readFlats_86 rfl (hI.2 1 (by decide)) he_X5 rfl rfl rfl (Nat.le_of_ble_eq_true rfl) ⟨Nat.le_of_ble_eq_true rfl, Nat.le_of_ble_eq_true rfl⟩ ⟨Nat.zero_le _, Nat.zero_le _⟩ (fun _ => rfl) rfl (fun r8 M8 _ => ?_)
              refine hz_aload_n (a := 0) (n := 90) hC dX5_readFlats_89 rfl rfl rfl ?_
              refine hz_ldcS (k := 28) (n := 92) hC dX5_readFlats_90 wd_2_112 (hp_st_s 8 (by decide)) rfl ?_
              refine hz_callV (k := 1) (As := [.ref (adV 28)]) (st := []) (S1 := fun r => .int r :: []) (n := 95) hC (c_X5_isWord l 28 (by decide)  M8) kv_X5_isWord wd_2_96 hI dX5_readFlats_92 rfl (hI.2 1 (by decide)) he_X5 rfl rfl rfl (Nat.le_of_ble_eq_true rfl) ⟨Nat.le_of_ble_eq_true rfl, Nat.le_of_ble_eq_true rfl⟩ ⟨Nat.zero_le _, Nat.zero_le _⟩ (fun _ => rfl) rfl (fun r9 M9 _ => ?_)
              refine hz_if_eq (tgt := 109) (n := 98) hC dX5_readFlats_95 (by decide) rfl (fun _ => ?_) (fun _ => ?_)
              · refine hz_iinc (a := 2) (v := (x2 + (1 : Int32))) (L' := [(2, .int (x2 + (1 : Int32))), (0, .ref (adr 12 1)), (1, .ref (adr b0 0))]) (n := 112) hC dX5_readFlats_109 rfl rfl (by decide) rfl rfl ?_
                refine hz_goto (n := 39) hC dX5_readFlats_112 (by decide) ?_
                refine hz_L (L' := [(0, .ref (adr 12 1)), (1, .ref (adr b0 0)), (2, .int (x2 + (1 : Int32)))]) [1, 2, 0] rfl ?_
                exact ih39 _ _
              · refine hz_aload_n (a := 1) (n := 99) hC dX5_readFlats_98 rfl rfl rfl ?_
                refine hz_iload_n (a := 2) (n := 100) hC dX5_readFlats_99 rfl rfl rfl ?_
                refine hz_iconst (v := (1 : Int32)) (n := 101) hC dX5_readFlats_100 (by decide +kernel) rfl ?_
                refine hz_iconst (v := (1 : Int32)) (n := 102) hC dX5_readFlats_101 (by decide +kernel) rfl ?_
                refine hz_callVN (k := 3) (As := [.int x2, .int (1 : Int32), .int (1 : Int32)]) (st := []) (S1 := fun _ => []) (n := 105) hC (c_X2_put l b0 x2 (1 : Int32) (1 : Int32) hb0  M9) kv_X2_put wd_2_113 hI dX5_readFlats_102 rfl (hI.1 b0 0 hb0 (by decide)) (he_X2 hb0) rfl rfl rfl (Nat.le_of_ble_eq_true rfl) ⟨Nat.le_of_ble_eq_true rfl, Nat.le_of_ble_eq_true rfl⟩ ⟨Nat.zero_le _, Nat.zero_le _⟩ (fun _ => rfl) rfl (fun r10 M10 _ => ?_)
                refine hz_aload_n (a := 0) (n := 106) hC dX5_readFlats_105 rfl rfl rfl ?_
                refine hz_callV (k := 0) (As := []) (st := []) (S1 := fun _ => []) (n := 109) hC (c_X5_next l    M10) kv_X5_next wd_2_74 hI dX5_readFlats_106 rfl (hI.2 1 (by decide)) he_X5 rfl rfl rfl (Nat.le_of_ble_eq_true rfl) ⟨Nat.le_of_ble_eq_true rfl, Nat.le_of_ble_eq_true rfl⟩ ⟨Nat.zero_le _, Nat.zero_le _⟩ (fun _ => rfl) rfl (fun r11 M11 _ => ?_)
                refine hz_iinc (a := 2) (v := (x2 + (1 : Int32))) (L' := [(2, .int (x2 + (1 : Int32))), (0, .ref (adr 12 1)), (1, .ref (adr b0 0))]) (n := 112) hC dX5_readFlats_109 rfl rfl (by decide) rfl rfl ?_
                refine hz_goto (n := 39) hC dX5_readFlats_112 (by decide) ?_
                refine hz_L (L' := [(0, .ref (adr 12 1)), (1, .ref (adr b0 0)), (2, .int (x2 + (1 : Int32)))]) [1, 2, 0] rfl ?_
                exact ih39 _ _
          · refine hz_aload_n (a := 0) (n := 63) hC dX5_readFlats_62 rfl rfl rfl ?_
            refine hz_iconst (v := (2 : Int32)) (n := 64) hC dX5_readFlats_63 (by decide +kernel) rfl ?_
            refine hz_callV (k := 1) (As := [.int (2 : Int32)]) (st := []) (S1 := fun r => .int r :: []) (n := 67) hC (c_X5_fail l (2 : Int32)   M) kv_X5_fail wd_2_100 hI dX5_readFlats_64 rfl (hI.2 1 (by decide)) he_X5 rfl rfl rfl (Nat.le_of_ble_eq_true rfl) ⟨Nat.le_of_ble_eq_true rfl, Nat.le_of_ble_eq_true rfl⟩ ⟨Nat.zero_le _, Nat.zero_le _⟩ (fun _ => rfl) rfl (fun r12 M12 _ => ?_)
            exact hz_bret hC hr dX5_readFlats_67
        · refine hz_L (L' := [(0, .ref (adr 12 1))]) [0] rfl ?_
          exact j115 _
  refine hz_aload_n (a := 0) (n := 1) hC dX5_readFlats_0 rfl rfl rfl ?_
  refine hz_callV (k := 0) (As := []) (st := []) (S1 := fun _ => []) (n := 4) hC (c_X5_next l    M) kv_X5_next wd_2_74 hI dX5_readFlats_1 rfl (hI.2 1 (by decide)) he_X5 rfl rfl rfl (Nat.le_of_ble_eq_true rfl) ⟨Nat.le_of_ble_eq_true rfl, Nat.le_of_ble_eq_true rfl⟩ ⟨Nat.zero_le _, Nat.zero_le _⟩ (fun _ => rfl) rfl (fun r1 M1 _ => ?_)
  refine hz_aload_n (a := 0) (n := 5) hC dX5_readFlats_4 rfl rfl rfl ?_
  refine hz_ldcS (k := 27) (n := 7) hC dX5_readFlats_5 wd_2_95 (hp_st_s 7 (by decide)) rfl ?_
  refine hz_callV (k := 1) (As := [.ref (adV 27)]) (st := []) (S1 := fun r => .int r :: []) (n := 10) hC (c_X5_isWord l 27 (by decide)  M1) kv_X5_isWord wd_2_96 hI dX5_readFlats_7 rfl (hI.2 1 (by decide)) he_X5 rfl rfl rfl (Nat.le_of_ble_eq_true rfl) ⟨Nat.le_of_ble_eq_true rfl, Nat.le_of_ble_eq_true rfl⟩ ⟨Nat.zero_le _, Nat.zero_le _⟩ (fun _ => rfl) rfl (fun r2 M2 _ => ?_)
  refine hz_if_ne (tgt := 19) (n := 13) hC dX5_readFlats_10 (by decide) rfl (fun _ => ?_) (fun _ => ?_)
  · refine hz_aload_n (a := 0) (n := 14) hC dX5_readFlats_13 rfl rfl rfl ?_
    refine hz_iconst (v := (1 : Int32)) (n := 15) hC dX5_readFlats_14 (by decide +kernel) rfl ?_
    refine hz_callV (k := 1) (As := [.int (1 : Int32)]) (st := []) (S1 := fun r => .int r :: []) (n := 18) hC (c_X5_fail l (1 : Int32)   M2) kv_X5_fail wd_2_100 hI dX5_readFlats_15 rfl (hI.2 1 (by decide)) he_X5 rfl rfl rfl (Nat.le_of_ble_eq_true rfl) ⟨Nat.le_of_ble_eq_true rfl, Nat.le_of_ble_eq_true rfl⟩ ⟨Nat.zero_le _, Nat.zero_le _⟩ (fun _ => rfl) rfl (fun r3 M3 _ => ?_)
    exact hz_bret hC hr dX5_readFlats_18
  · refine hz_aload_n (a := 0) (n := 20) hC dX5_readFlats_19 rfl rfl rfl ?_
    refine hz_callV (k := 0) (As := []) (st := []) (S1 := fun _ => []) (n := 23) hC (c_X5_next l    M2) kv_X5_next wd_2_74 hI dX5_readFlats_20 rfl (hI.2 1 (by decide)) he_X5 rfl rfl rfl (Nat.le_of_ble_eq_true rfl) ⟨Nat.le_of_ble_eq_true rfl, Nat.le_of_ble_eq_true rfl⟩ ⟨Nat.zero_le _, Nat.zero_le _⟩ (fun _ => rfl) rfl (fun r4 M4 _ => ?_)
    refine hz_aload_n (a := 0) (n := 24) hC dX5_readFlats_23 rfl rfl rfl ?_
    refine fg_X5_22 (n := 27) hC hI dX5_readFlats_24 rfl ?_
    refine hz_iconst (v := (3 : Int32)) (n := 28) hC dX5_readFlats_27 (by decide +kernel) rfl ?_
    refine hz_icmp_eq (tgt := 37) (n := 31) hC dX5_readFlats_28 (by decide) rfl (fun _ => ?_) (fun _ => ?_)
    · refine hz_iconst (v := (0 : Int32)) (n := 38) hC dX5_readFlats_37 (by decide +kernel) rfl ?_
      refine hz_istore_n (L' := [(2, .int (0 : Int32)), (0, .ref (adr 12 1)), (1, .ref (adr b0 0))]) (n := 39) hC dX5_readFlats_38 rfl (by decide) rfl rfl ?_
      refine hz_L (L' := [(0, .ref (adr 12 1)), (1, .ref (adr b0 0)), (2, .int (0 : Int32))]) [1, 2, 0] rfl ?_
      exact l39 hp_fu _ _
    · refine hz_aload_n (a := 0) (n := 32) hC dX5_readFlats_31 rfl rfl rfl ?_
      refine hz_iconst (v := (1 : Int32)) (n := 33) hC dX5_readFlats_32 (by decide +kernel) rfl ?_
      refine hz_callV (k := 1) (As := [.int (1 : Int32)]) (st := []) (S1 := fun r => .int r :: []) (n := 36) hC (c_X5_fail l (1 : Int32)   M4) kv_X5_fail wd_2_100 hI dX5_readFlats_33 rfl (hI.2 1 (by decide)) he_X5 rfl rfl rfl (Nat.le_of_ble_eq_true rfl) ⟨Nat.le_of_ble_eq_true rfl, Nat.le_of_ble_eq_true rfl⟩ ⟨Nat.zero_le _, Nat.zero_le _⟩ (fun _ => rfl) rfl (fun r13 M13 _ => ?_)
      exact hz_bret hC hr dX5_readFlats_36
def F_X5_readNumber (a0 : Int32) (a1 : Int32) (M : hp_M) : Option (Int32 × hp_M) := (hp_b (F_X5_next M) (fun _ M1 => (if (M1 12 1 3) = (3 : Int32) then (if (M1 12 1 5) < a0 then (hp_b (F_X5_fail (2 : Int32) M1) (fun r2 M2 => (if r2 = 0 then (some ((0 : Int32), M2)) else (some ((1 : Int32), M2))))) else (if (M1 12 1 5) ≤ a1 then (some ((1 : Int32), M1)) else (hp_b (F_X5_fail (2 : Int32) M1) (fun r3 M3 => (if r3 = 0 then (some ((0 : Int32), M3)) else (some ((1 : Int32), M3))))))) else (hp_b (F_X5_fail (1 : Int32) M1) (fun r4 M4 => (if r4 = 0 ∨ r4 = 1 then some (r4, M4) else none))))))
set_option maxRecDepth 20000 in
set_option maxHeartbeats 4000000 in
theorem c_X5_readNumber (l : Launch) (a0 : Int32) (a1 : Int32)  (M : hp_M) : hp_Ct l yX5_readNumber cX5_readNumber 3 (some .boolean) 3 hp_IC (fun adr adV => [.ref (adr 12 1), .int a0, .int a1]) hp_oi M (F_X5_readNumber a0 a1 M) := by
  refine hp_start "HallPhone$Reader" (fun adr adV => [(0, .ref (adr 12 1)), (1, .int a0), (2, .int a1)]) (by decide) rfl (fun _ _ => by simp only [lg_sl]; exact Nat.le_of_ble_eq_true rfl) (fun _ _ => rfl) ?_
  intro p e s m args below meth c A D ids adr adV cA rep G0 hI hC hr
  unfold F_X5_readNumber
  refine hz_aload_n (a := 0) (n := 1) hC dX5_readNumber_0 rfl rfl rfl ?_
  refine hz_callV (k := 0) (As := []) (st := []) (S1 := fun _ => []) (n := 4) hC (c_X5_next l    M) kv_X5_next wd_2_74 hI dX5_readNumber_1 rfl (hI.2 1 (by decide)) he_X5 rfl rfl rfl (Nat.le_of_ble_eq_true rfl) ⟨Nat.le_of_ble_eq_true rfl, Nat.le_of_ble_eq_true rfl⟩ ⟨Nat.zero_le _, Nat.zero_le _⟩ (fun _ => rfl) rfl (fun r1 M1 _ => ?_)
  refine hz_aload_n (a := 0) (n := 5) hC dX5_readNumber_4 rfl rfl rfl ?_
  refine fg_X5_22 (n := 8) hC hI dX5_readNumber_5 rfl ?_
  refine hz_iconst (v := (3 : Int32)) (n := 9) hC dX5_readNumber_8 (by decide +kernel) rfl ?_
  refine hz_icmp_eq (tgt := 18) (n := 12) hC dX5_readNumber_9 (by decide) rfl (fun _ => ?_) (fun _ => ?_)
  · refine hz_aload_n (a := 0) (n := 19) hC dX5_readNumber_18 rfl rfl rfl ?_
    refine fg_X5_28 (n := 22) hC hI dX5_readNumber_19 rfl ?_
    refine hz_iload_n (a := 1) (n := 23) hC dX5_readNumber_22 rfl rfl rfl ?_
    refine hz_icmp_lt (tgt := 34) (n := 26) hC dX5_readNumber_23 (by decide) rfl (fun _ => ?_) (fun _ => ?_)
    · refine hz_aload_n (a := 0) (n := 35) hC dX5_readNumber_34 rfl rfl rfl ?_
      refine hz_iconst (v := (2 : Int32)) (n := 36) hC dX5_readNumber_35 (by decide +kernel) rfl ?_
      refine hz_callV (k := 1) (As := [.int (2 : Int32)]) (st := []) (S1 := fun r => .int r :: []) (n := 39) hC (c_X5_fail l (2 : Int32)   M1) kv_X5_fail wd_2_100 hI dX5_readNumber_36 rfl (hI.2 1 (by decide)) he_X5 rfl rfl rfl (Nat.le_of_ble_eq_true rfl) ⟨Nat.le_of_ble_eq_true rfl, Nat.le_of_ble_eq_true rfl⟩ ⟨Nat.zero_le _, Nat.zero_le _⟩ (fun _ => rfl) rfl (fun r2 M2 _ => ?_)
      refine hz_if_eq (tgt := 46) (n := 42) hC dX5_readNumber_39 (by decide) rfl (fun _ => ?_) (fun _ => ?_)
      · refine hz_iconst (v := (0 : Int32)) (n := 47) hC dX5_readNumber_46 (by decide +kernel) rfl ?_
        exact hz_zret hC hr nz_0 dX5_readNumber_47
      · refine hz_iconst (v := (1 : Int32)) (n := 43) hC dX5_readNumber_42 (by decide +kernel) rfl ?_
        refine hz_goto (n := 47) hC dX5_readNumber_43 (by decide) ?_
        exact hz_zret hC hr nz_1 dX5_readNumber_47
    · refine hz_aload_n (a := 0) (n := 27) hC dX5_readNumber_26 rfl rfl rfl ?_
      refine fg_X5_28 (n := 30) hC hI dX5_readNumber_27 rfl ?_
      refine hz_iload_n (a := 2) (n := 31) hC dX5_readNumber_30 rfl rfl rfl ?_
      refine hz_icmp_le (tgt := 42) (n := 34) hC dX5_readNumber_31 (by decide) rfl (fun _ => ?_) (fun _ => ?_)
      · refine hz_iconst (v := (1 : Int32)) (n := 43) hC dX5_readNumber_42 (by decide +kernel) rfl ?_
        refine hz_goto (n := 47) hC dX5_readNumber_43 (by decide) ?_
        exact hz_zret hC hr nz_1 dX5_readNumber_47
      · refine hz_aload_n (a := 0) (n := 35) hC dX5_readNumber_34 rfl rfl rfl ?_
        refine hz_iconst (v := (2 : Int32)) (n := 36) hC dX5_readNumber_35 (by decide +kernel) rfl ?_
        refine hz_callV (k := 1) (As := [.int (2 : Int32)]) (st := []) (S1 := fun r => .int r :: []) (n := 39) hC (c_X5_fail l (2 : Int32)   M1) kv_X5_fail wd_2_100 hI dX5_readNumber_36 rfl (hI.2 1 (by decide)) he_X5 rfl rfl rfl (Nat.le_of_ble_eq_true rfl) ⟨Nat.le_of_ble_eq_true rfl, Nat.le_of_ble_eq_true rfl⟩ ⟨Nat.zero_le _, Nat.zero_le _⟩ (fun _ => rfl) rfl (fun r3 M3 _ => ?_)
        refine hz_if_eq (tgt := 46) (n := 42) hC dX5_readNumber_39 (by decide) rfl (fun _ => ?_) (fun _ => ?_)
        · refine hz_iconst (v := (0 : Int32)) (n := 47) hC dX5_readNumber_46 (by decide +kernel) rfl ?_
          exact hz_zret hC hr nz_0 dX5_readNumber_47
        · refine hz_iconst (v := (1 : Int32)) (n := 43) hC dX5_readNumber_42 (by decide +kernel) rfl ?_
          refine hz_goto (n := 47) hC dX5_readNumber_43 (by decide) ?_
          exact hz_zret hC hr nz_1 dX5_readNumber_47
  · refine hz_aload_n (a := 0) (n := 13) hC dX5_readNumber_12 rfl rfl rfl ?_
    refine hz_iconst (v := (1 : Int32)) (n := 14) hC dX5_readNumber_13 (by decide +kernel) rfl ?_
    refine hz_callV (k := 1) (As := [.int (1 : Int32)]) (st := []) (S1 := fun r => .int r :: []) (n := 17) hC (c_X5_fail l (1 : Int32)   M1) kv_X5_fail wd_2_100 hI dX5_readNumber_14 rfl (hI.2 1 (by decide)) he_X5 rfl rfl rfl (Nat.le_of_ble_eq_true rfl) ⟨Nat.le_of_ble_eq_true rfl, Nat.le_of_ble_eq_true rfl⟩ ⟨Nat.zero_le _, Nat.zero_le _⟩ (fun _ => rfl) rfl (fun r4 M4 _ => ?_)
    exact hz_bret hC hr dX5_readNumber_17
def L_X5_verbRead_9   (k9_2 : Int32) : Nat → Int32 → hp_M → Option (Int32 × hp_M)
  | 0, _, _ => none
  | n9 + 1, x3, M => (if k9_2 ≤ x3 then (some ((-1 : Int32), M)) else (if x3 < 0 ∨ 12 ≤ (x3).toNatClampNeg then none else (hp_b (F_X5_isWord (hp_vwor.getD ((x3).toNatClampNeg) 0) M) (fun r2 M2 => (if r2 = 0 then (L_X5_verbRead_9 k9_2 n9 (x3 + (1 : Int32)) M2) else (some (nI ((x3).toNatClampNeg), M2)))))))
def F_X5_verbRead  (M : hp_M) : Option (Int32 × hp_M) := (L_X5_verbRead_9 (nI 12) hp_fu (0 : Int32) M)
set_option maxRecDepth 20000 in
set_option maxHeartbeats 4000000 in
theorem c_X5_verbRead (l : Launch)   (M : hp_M) : hp_Ct l yX5_verbRead cX5_verbRead 5 (some (.object "HallPhone$Verb")) 5 hp_IC (fun adr adV => [.ref (adr 12 1)]) hp_oe M (F_X5_verbRead  M) := by
  refine hp_start "HallPhone$Reader" (fun adr adV => [(0, .ref (adr 12 1))]) (by decide) rfl (fun _ _ => by simp only [lg_sl]; exact Nat.le_of_ble_eq_true rfl) (fun _ _ => rfl) ?_
  intro p e s m args below meth c A D ids adr adV cA rep G0 hI hC hr
  unfold F_X5_verbRead
  have l9 : ∀ (k9_2 : Int32) (n9 : Nat) (x3 : Int32) (M : hp_M), hp_Z p l e (hp_rm 5) s m args below meth c 5 A D ids adr adV cA 0 0 (MQ below (hp_Q A D ids adr adV cA rep hp_oe G0) args s 0 0 A) G0 rep 9 [(0, .ref (adr 12 1)), (1, .ref (adV 14)), (2, .int k9_2), (3, .int x3)] [] M (L_X5_verbRead_9 k9_2 n9 x3 M) := by
    intro k9_2 n9
    induction n9 with
    | zero => intro x3 M; exact hz_none hC
    | succ n9 ih9 =>
      intro x3 M
      rw [L_X5_verbRead_9.eq_2]
      refine hz_iload_n (a := 3) (n := 10) hC dX5_verbRead_9 rfl rfl rfl ?_
      refine hz_iload_n (a := 2) (n := 11) hC dX5_verbRead_10 rfl rfl rfl ?_
      refine hz_icmp_ge (tgt := 40) (n := 14) hC dX5_verbRead_11 (by decide) rfl (fun _ => ?_) (fun _ => ?_)
      · refine hz_null (n := 41) hC dX5_verbRead_40 rfl ?_
        exact hz_eret0 hC hr (Or.inl ⟨_, rfl⟩) dX5_verbRead_41
      · refine hz_aload_n (a := 1) (n := 15) hC dX5_verbRead_14 rfl rfl rfl ?_
        refine hz_iload_n (a := 3) (n := 16) hC dX5_verbRead_15 rfl rfl rfl ?_
        refine hz_taald (n := 17) hC dX5_verbRead_16 rfl (fun he1 => ?_)
        refine hz_astore (L' := [(4, .ref (adV ((x3).toNatClampNeg))), (0, .ref (adr 12 1)), (1, .ref (adV 14)), (2, .int k9_2), (3, .int x3)]) (n := 19) hC dX5_verbRead_17 (by decide) rfl rfl ?_
        refine hz_aload_n (a := 1) (n := 20) hC dX5_verbRead_19 rfl rfl rfl ?_
        refine hz_aload (a := 0) (n := 22) hC dX5_verbRead_20 rfl rfl ?_
        refine hz_vgetN (n := 25) hC dX5_verbRead_22 (hp_vwor_OF hC.2.2.2.2.1 he1) wd_4_147 rfl ?_
        refine hz_callV (k := 1) (As := [.ref (adV (hp_vwor.getD ((x3).toNatClampNeg) 0))]) (st := []) (S1 := fun r => .int r :: []) (n := 28) hC (c_X5_isWord l (hp_vwor.getD ((x3).toNatClampNeg) 0) (hp_vwB _ he1)  M) kv_X5_isWord wd_2_96 hI dX5_verbRead_25 rfl (hI.2 1 (by decide)) he_X5 rfl rfl rfl (Nat.le_of_ble_eq_true rfl) ⟨Nat.le_of_ble_eq_true rfl, Nat.le_of_ble_eq_true rfl⟩ ⟨Nat.zero_le _, Nat.zero_le _⟩ (fun _ => rfl) rfl (fun r2 M2 _ => ?_)
        refine hz_if_eq (tgt := 34) (n := 31) hC dX5_verbRead_28 (by decide) rfl (fun _ => ?_) (fun _ => ?_)
        · refine hz_iinc (a := 4) (v := (x3 + (1 : Int32))) (L' := [(3, .int (x3 + (1 : Int32))), (4, .ref (adV ((x3).toNatClampNeg))), (0, .ref (adr 12 1)), (1, .ref (adV 14)), (2, .int k9_2)]) (n := 37) hC dX5_verbRead_34 rfl rfl (by decide) rfl rfl ?_
          refine hz_goto (n := 9) hC dX5_verbRead_37 (by decide) ?_
          refine hz_L (L' := [(0, .ref (adr 12 1)), (1, .ref (adV 14)), (2, .int k9_2), (3, .int (x3 + (1 : Int32)))]) [2, 3, 4, 0] rfl ?_
          exact ih9 _ _
        · refine hz_aload (a := 0) (n := 33) hC dX5_verbRead_31 rfl rfl ?_
          exact hz_eretN hC he1 hr (Or.inl ⟨_, rfl⟩) dX5_verbRead_33
  refine hz_getsN (k := 14) (n := 3) hC dX5_verbRead_0 wd_2_123 wd_1_18.1 (by decide +kernel) wd_2_122 rfl ?_
  refine hz_astore_n (L' := [(1, .ref (adV 14)), (0, .ref (adr 12 1))]) (n := 4) hC dX5_verbRead_3 rfl (by decide) rfl rfl ?_
  refine hz_aload_n (a := 0) (n := 5) hC dX5_verbRead_4 rfl rfl rfl ?_
  refine hz_tlen (n := 6) hC dX5_verbRead_5 (hp_all_T hC.2.2.2.2.1) rfl ?_
  refine hz_istore_n (L' := [(2, .int (nI 12)), (1, .ref (adV 14)), (0, .ref (adr 12 1))]) (n := 7) hC dX5_verbRead_6 rfl (by decide) rfl rfl ?_
  refine hz_iconst (v := (0 : Int32)) (n := 8) hC dX5_verbRead_7 (by decide +kernel) rfl ?_
  refine hz_istore_n (L' := [(3, .int (0 : Int32)), (2, .int (nI 12)), (1, .ref (adV 14)), (0, .ref (adr 12 1))]) (n := 9) hC dX5_verbRead_8 rfl (by decide) rfl rfl ?_
  refine hz_L (L' := [(0, .ref (adr 12 1)), (1, .ref (adV 14)), (2, .int (nI 12)), (3, .int (0 : Int32))]) [3, 2, 1, 0] rfl ?_
  exact l9 _ hp_fu _ _
def F_X5_readStatement (a0 : Int32) (M : hp_M) : Option (Int32 × hp_M) := (hp_b (F_X5_next M) (fun _ M1 => (if (M1 12 1 3) = 0 then (some ((0 : Int32), M1)) else (hp_b (F_X5_verbRead M1) (fun r2 M2 => (if r2 < 0 then (hp_b (F_X5_fail (1 : Int32) M2) (fun r4 M4 => (if r4 = 0 ∨ r4 = 1 then some (r4, M4) else none))) else (if (r2).toNatClampNeg < 12 then (if (hp_vnam.getD ((r2).toNatClampNeg) 0) = 0 then (hp_b (F_X7_takesNumber ((r2).toNatClampNeg) (hp_p (hp_p (hp_p M2 12 1 6 r2) 12 1 7 (-1 : Int32)) 12 1 8 (0 : Int32))) (fun r5 M5 => (if r5 = 0 then (hp_b (F_X5_next M5) (fun _ M6 => (if (M6 12 1 3) = (1 : Int32) then (some ((1 : Int32), M6)) else (hp_b (F_X5_fail (1 : Int32) M6) (fun r7 M7 => (if r7 = 0 then (some ((0 : Int32), M7)) else (some ((1 : Int32), M7)))))))) else (hp_b (F_X5_readNumber (hp_vlea.getD ((r2).toNatClampNeg) 0) (hp_vgre.getD ((r2).toNatClampNeg) 0) M5) (fun r8 M8 => (if r8 = 0 then (some ((0 : Int32), M8)) else (hp_b (F_X5_next (hp_p M8 12 1 8 (M8 12 1 5))) (fun _ M9 => (if (M9 12 1 3) = (1 : Int32) then (some ((1 : Int32), M9)) else (hp_b (F_X5_fail (1 : Int32) M9) (fun r10 M10 => (if r10 = 0 then (some ((0 : Int32), M10)) else (some ((1 : Int32), M10)))))))))))))) else (hp_b (F_X5_readNumber (0 : Int32) (a0 - (1 : Int32)) (hp_p (hp_p M2 12 1 6 r2) 12 1 7 (-1 : Int32))) (fun r11 M11 => (if r11 = 0 then (some ((0 : Int32), M11)) else (hp_b (F_X7_takesNumber ((r2).toNatClampNeg) (hp_p (hp_p M11 12 1 7 (M11 12 1 5)) 12 1 8 (0 : Int32))) (fun r12 M12 => (if r12 = 0 then (hp_b (F_X5_next M12) (fun _ M13 => (if (M13 12 1 3) = (1 : Int32) then (some ((1 : Int32), M13)) else (hp_b (F_X5_fail (1 : Int32) M13) (fun r14 M14 => (if r14 = 0 then (some ((0 : Int32), M14)) else (some ((1 : Int32), M14)))))))) else (hp_b (F_X5_readNumber (hp_vlea.getD ((r2).toNatClampNeg) 0) (hp_vgre.getD ((r2).toNatClampNeg) 0) M12) (fun r15 M15 => (if r15 = 0 then (some ((0 : Int32), M15)) else (hp_b (F_X5_next (hp_p M15 12 1 8 (M15 12 1 5))) (fun _ M16 => (if (M16 12 1 3) = (1 : Int32) then (some ((1 : Int32), M16)) else (hp_b (F_X5_fail (1 : Int32) M16) (fun r17 M17 => (if r17 = 0 then (some ((0 : Int32), M17)) else (some ((1 : Int32), M17)))))))))))))))))) else none)))))))
set_option maxRecDepth 20000 in
set_option maxHeartbeats 4000000 in
theorem c_X5_readStatement (l : Launch) (a0 : Int32)  (M : hp_M) : hp_Ct l yX5_readStatement cX5_readStatement 3 (some .boolean) 6 hp_IC (fun adr adV => [.ref (adr 12 1), .int a0]) hp_oi M (F_X5_readStatement a0 M) := by
  refine hp_start "HallPhone$Reader" (fun adr adV => [(0, .ref (adr 12 1)), (1, .int a0)]) (by decide) rfl (fun _ _ => by simp only [lg_sl]; exact Nat.le_of_ble_eq_true rfl) (fun _ _ => rfl) ?_
  intro p e s m args below meth c A D ids adr adV cA rep G0 hI hC hr
  unfold F_X5_readStatement
  refine hz_aload_n (a := 0) (n := 1) hC dX5_readStatement_0 rfl rfl rfl ?_
  refine hz_callV (k := 0) (As := []) (st := []) (S1 := fun _ => []) (n := 4) hC (c_X5_next l    M) kv_X5_next wd_2_74 hI dX5_readStatement_1 rfl (hI.2 1 (by decide)) he_X5 rfl rfl rfl (Nat.le_of_ble_eq_true rfl) ⟨Nat.le_of_ble_eq_true rfl, Nat.le_of_ble_eq_true rfl⟩ ⟨Nat.zero_le _, Nat.zero_le _⟩ (fun _ => rfl) rfl (fun r1 M1 _ => ?_)
  refine hz_aload_n (a := 0) (n := 5) hC dX5_readStatement_4 rfl rfl rfl ?_
  refine fg_X5_22 (n := 8) hC hI dX5_readStatement_5 rfl ?_
  refine hz_if_ne (tgt := 13) (n := 11) hC dX5_readStatement_8 (by decide) rfl (fun _ => ?_) (fun _ => ?_)
  · refine hz_iconst (v := (0 : Int32)) (n := 12) hC dX5_readStatement_11 (by decide +kernel) rfl ?_
    exact hz_zret hC hr nz_0 dX5_readStatement_12
  · refine hz_aload_n (a := 0) (n := 14) hC dX5_readStatement_13 rfl rfl rfl ?_
    refine hz_callV (k := 0) (As := []) (st := []) (S1 := fun r => hp_vr adV r :: []) (n := 17) hC (c_X5_verbRead l    M1) kv_X5_verbRead wd_2_118 hI dX5_readStatement_14 rfl (hI.2 1 (by decide)) he_X5 rfl rfl rfl (Nat.le_of_ble_eq_true rfl) ⟨Nat.le_of_ble_eq_true rfl, Nat.le_of_ble_eq_true rfl⟩ ⟨Nat.zero_le _, Nat.zero_le _⟩ (fun _ => rfl) rfl (fun r2 M2 _ => ?_)
    refine hz_vstore_n (L' := [(2, hp_vr adV r2), (0, .ref (adr 12 1)), (1, .int a0)]) (n := 18) hC dX5_readStatement_17 rfl (by decide) rfl rfl ?_
    refine hz_vload_n (a := 0) (n := 19) hC dX5_readStatement_18 rfl rfl rfl ?_
    refine hz_ifnonnullV (tgt := 28) (n := 22) hC dX5_readStatement_19 (by decide) rfl (fun _ => ?_) (fun hp3 => ?_)
    · refine hz_aload_n (a := 1) (n := 23) hC dX5_readStatement_22 rfl rfl rfl ?_
      refine hz_iconst (v := (1 : Int32)) (n := 24) hC dX5_readStatement_23 (by decide +kernel) rfl ?_
      refine hz_callV (k := 1) (As := [.int (1 : Int32)]) (st := []) (S1 := fun r => .int r :: []) (n := 27) hC (c_X5_fail l (1 : Int32)   M2) kv_X5_fail wd_2_100 hI dX5_readStatement_24 rfl (hI.2 1 (by decide)) he_X5 rfl rfl rfl (Nat.le_of_ble_eq_true rfl) ⟨Nat.le_of_ble_eq_true rfl, Nat.le_of_ble_eq_true rfl⟩ ⟨Nat.zero_le _, Nat.zero_le _⟩ (fun _ => rfl) rfl (fun r4 M4 _ => ?_)
      exact hz_bret hC hr dX5_readStatement_27
    · refine hz_case (fun he3 => ?_) (fun _ => hz_none hC)
      rw [hp_vr_pos (adV := adV) hp3]
      refine hz_aload_n (a := 1) (n := 29) hC dX5_readStatement_28 rfl rfl rfl ?_
      refine hz_aload_n (a := 0) (n := 30) hC dX5_readStatement_29 rfl rfl rfl ?_
      rw [← hp_vr_pos (adV := adV) hp3]
      refine fp_X5_31 (n := 33) hC hI r2 dX5_readStatement_30 rfl ?_
      rw [hp_vr_pos (adV := adV) hp3]
      refine hz_aload_n (a := 1) (n := 34) hC dX5_readStatement_33 rfl rfl rfl ?_
      refine hz_iconst (v := (-1 : Int32)) (n := 35) hC dX5_readStatement_34 (by decide +kernel) rfl ?_
      refine fp_X5_35 (n := 38) hC hI (-1 : Int32) dX5_readStatement_35 rfl ?_
      refine hz_aload_n (a := 0) (n := 39) hC dX5_readStatement_38 rfl rfl rfl ?_
      refine hz_vgetN (n := 42) hC dX5_readStatement_39 (hp_vnam_OF hC.2.2.2.2.1 he3) wd_4_148 rfl ?_
      refine hz_if_eq (tgt := 66) (n := 45) hC dX5_readStatement_42 (by decide) rfl (fun _ => ?_) (fun _ => ?_)
      · refine hz_aload_n (a := 1) (n := 67) hC dX5_readStatement_66 rfl rfl rfl ?_
        refine hz_iconst (v := (0 : Int32)) (n := 68) hC dX5_readStatement_67 (by decide +kernel) rfl ?_
        refine fp_X5_38 (n := 71) hC hI (0 : Int32) dX5_readStatement_68 rfl ?_
        refine hz_aload_n (a := 0) (n := 72) hC dX5_readStatement_71 rfl rfl rfl ?_
        refine hz_callON (k := 0) (As := []) (st := []) (S1 := fun r => .int r :: []) (n := 75) hC (c_X7_takesNumber l ((r2).toNatClampNeg) he3  (hp_p (hp_p (hp_p M2 12 1 6 r2) 12 1 7 (-1 : Int32)) 12 1 8 (0 : Int32))) kv_X7_takesNumber wd_2_128 trivial dX5_readStatement_72 rfl (hp_v_O hC.2.2.2.2.1 he3) rfl rfl (Nat.le_of_ble_eq_true rfl) ⟨Nat.le_of_ble_eq_true rfl, Nat.le_of_ble_eq_true rfl⟩ ⟨Nat.zero_le _, Nat.zero_le _⟩ (fun _ => rfl) rfl (fun r5 M5 _ => ?_)
        refine hz_if_eq (tgt := 103) (n := 78) hC dX5_readStatement_75 (by decide) rfl (fun _ => ?_) (fun _ => ?_)
        · refine hz_aload_n (a := 1) (n := 104) hC dX5_readStatement_103 rfl rfl rfl ?_
          refine hz_callV (k := 0) (As := []) (st := []) (S1 := fun _ => []) (n := 107) hC (c_X5_next l    M5) kv_X5_next wd_2_74 hI dX5_readStatement_104 rfl (hI.2 1 (by decide)) he_X5 rfl rfl rfl (Nat.le_of_ble_eq_true rfl) ⟨Nat.le_of_ble_eq_true rfl, Nat.le_of_ble_eq_true rfl⟩ ⟨Nat.zero_le _, Nat.zero_le _⟩ (fun _ => rfl) rfl (fun r6 M6 _ => ?_)
          refine hz_aload_n (a := 1) (n := 108) hC dX5_readStatement_107 rfl rfl rfl ?_
          refine fg_X5_22 (n := 111) hC hI dX5_readStatement_108 rfl ?_
          refine hz_iconst (v := (1 : Int32)) (n := 112) hC dX5_readStatement_111 (by decide +kernel) rfl ?_
          refine hz_icmp_eq (tgt := 123) (n := 115) hC dX5_readStatement_112 (by decide) rfl (fun _ => ?_) (fun _ => ?_)
          · refine hz_iconst (v := (1 : Int32)) (n := 124) hC dX5_readStatement_123 (by decide +kernel) rfl ?_
            refine hz_goto (n := 128) hC dX5_readStatement_124 (by decide) ?_
            exact hz_zret hC hr nz_1 dX5_readStatement_128
          · refine hz_aload_n (a := 1) (n := 116) hC dX5_readStatement_115 rfl rfl rfl ?_
            refine hz_iconst (v := (1 : Int32)) (n := 117) hC dX5_readStatement_116 (by decide +kernel) rfl ?_
            refine hz_callV (k := 1) (As := [.int (1 : Int32)]) (st := []) (S1 := fun r => .int r :: []) (n := 120) hC (c_X5_fail l (1 : Int32)   M6) kv_X5_fail wd_2_100 hI dX5_readStatement_117 rfl (hI.2 1 (by decide)) he_X5 rfl rfl rfl (Nat.le_of_ble_eq_true rfl) ⟨Nat.le_of_ble_eq_true rfl, Nat.le_of_ble_eq_true rfl⟩ ⟨Nat.zero_le _, Nat.zero_le _⟩ (fun _ => rfl) rfl (fun r7 M7 _ => ?_)
            refine hz_if_eq (tgt := 127) (n := 123) hC dX5_readStatement_120 (by decide) rfl (fun _ => ?_) (fun _ => ?_)
            · refine hz_iconst (v := (0 : Int32)) (n := 128) hC dX5_readStatement_127 (by decide +kernel) rfl ?_
              exact hz_zret hC hr nz_0 dX5_readStatement_128
            · refine hz_iconst (v := (1 : Int32)) (n := 124) hC dX5_readStatement_123 (by decide +kernel) rfl ?_
              refine hz_goto (n := 128) hC dX5_readStatement_124 (by decide) ?_
              exact hz_zret hC hr nz_1 dX5_readStatement_128
        · refine hz_aload_n (a := 1) (n := 79) hC dX5_readStatement_78 rfl rfl rfl ?_
          refine hz_aload_n (a := 0) (n := 80) hC dX5_readStatement_79 rfl rfl rfl ?_
          refine hz_vgetN (n := 83) hC dX5_readStatement_80 (hp_vlea_OF hC.2.2.2.2.1 he3) wd_4_150 rfl ?_
          refine hz_aload_n (a := 0) (n := 84) hC dX5_readStatement_83 rfl rfl rfl ?_
          refine hz_vgetN (n := 87) hC dX5_readStatement_84 (hp_vgre_OF hC.2.2.2.2.1 he3) wd_4_151 rfl ?_
          refine hz_callV (k := 2) (As := [.int (hp_vlea.getD ((r2).toNatClampNeg) 0), .int (hp_vgre.getD ((r2).toNatClampNeg) 0)]) (st := []) (S1 := fun r => .int r :: []) (n := 90) hC (c_X5_readNumber l (hp_vlea.getD ((r2).toNatClampNeg) 0) (hp_vgre.getD ((r2).toNatClampNeg) 0)   M5) kv_X5_readNumber wd_2_124 hI dX5_readStatement_87 rfl (hI.2 1 (by decide)) he_X5 rfl rfl rfl (Nat.le_of_ble_eq_true rfl) ⟨Nat.le_of_ble_eq_true rfl, Nat.le_of_ble_eq_true rfl⟩ ⟨Nat.zero_le _, Nat.zero_le _⟩ (fun _ => rfl) rfl (fun r8 M8 _ => ?_)
          refine hz_if_ne (tgt := 95) (n := 93) hC dX5_readStatement_90 (by decide) rfl (fun _ => ?_) (fun _ => ?_)
          · refine hz_iconst (v := (0 : Int32)) (n := 94) hC dX5_readStatement_93 (by decide +kernel) rfl ?_
            exact hz_zret hC hr nz_0 dX5_readStatement_94
          · refine hz_aload_n (a := 1) (n := 96) hC dX5_readStatement_95 rfl rfl rfl ?_
            refine hz_aload_n (a := 1) (n := 97) hC dX5_readStatement_96 rfl rfl rfl ?_
            refine fg_X5_28 (n := 100) hC hI dX5_readStatement_97 rfl ?_
            refine fp_X5_38 (n := 103) hC hI (M8 12 1 5) dX5_readStatement_100 rfl ?_
            refine hz_aload_n (a := 1) (n := 104) hC dX5_readStatement_103 rfl rfl rfl ?_
            refine hz_callV (k := 0) (As := []) (st := []) (S1 := fun _ => []) (n := 107) hC (c_X5_next l    (hp_p M8 12 1 8 (M8 12 1 5))) kv_X5_next wd_2_74 hI dX5_readStatement_104 rfl (hI.2 1 (by decide)) he_X5 rfl rfl rfl (Nat.le_of_ble_eq_true rfl) ⟨Nat.le_of_ble_eq_true rfl, Nat.le_of_ble_eq_true rfl⟩ ⟨Nat.zero_le _, Nat.zero_le _⟩ (fun _ => rfl) rfl (fun r9 M9 _ => ?_)
            refine hz_aload_n (a := 1) (n := 108) hC dX5_readStatement_107 rfl rfl rfl ?_
            refine fg_X5_22 (n := 111) hC hI dX5_readStatement_108 rfl ?_
            refine hz_iconst (v := (1 : Int32)) (n := 112) hC dX5_readStatement_111 (by decide +kernel) rfl ?_
            refine hz_icmp_eq (tgt := 123) (n := 115) hC dX5_readStatement_112 (by decide) rfl (fun _ => ?_) (fun _ => ?_)
            · refine hz_iconst (v := (1 : Int32)) (n := 124) hC dX5_readStatement_123 (by decide +kernel) rfl ?_
              refine hz_goto (n := 128) hC dX5_readStatement_124 (by decide) ?_
              exact hz_zret hC hr nz_1 dX5_readStatement_128
            · refine hz_aload_n (a := 1) (n := 116) hC dX5_readStatement_115 rfl rfl rfl ?_
              refine hz_iconst (v := (1 : Int32)) (n := 117) hC dX5_readStatement_116 (by decide +kernel) rfl ?_
              refine hz_callV (k := 1) (As := [.int (1 : Int32)]) (st := []) (S1 := fun r => .int r :: []) (n := 120) hC (c_X5_fail l (1 : Int32)   M9) kv_X5_fail wd_2_100 hI dX5_readStatement_117 rfl (hI.2 1 (by decide)) he_X5 rfl rfl rfl (Nat.le_of_ble_eq_true rfl) ⟨Nat.le_of_ble_eq_true rfl, Nat.le_of_ble_eq_true rfl⟩ ⟨Nat.zero_le _, Nat.zero_le _⟩ (fun _ => rfl) rfl (fun r10 M10 _ => ?_)
              refine hz_if_eq (tgt := 127) (n := 123) hC dX5_readStatement_120 (by decide) rfl (fun _ => ?_) (fun _ => ?_)
              · refine hz_iconst (v := (0 : Int32)) (n := 128) hC dX5_readStatement_127 (by decide +kernel) rfl ?_
                exact hz_zret hC hr nz_0 dX5_readStatement_128
              · refine hz_iconst (v := (1 : Int32)) (n := 124) hC dX5_readStatement_123 (by decide +kernel) rfl ?_
                refine hz_goto (n := 128) hC dX5_readStatement_124 (by decide) ?_
                exact hz_zret hC hr nz_1 dX5_readStatement_128
      · refine hz_aload_n (a := 1) (n := 46) hC dX5_readStatement_45 rfl rfl rfl ?_
        refine hz_iconst (v := (0 : Int32)) (n := 47) hC dX5_readStatement_46 (by decide +kernel) rfl ?_
        refine hz_iload_n (a := 2) (n := 48) hC dX5_readStatement_47 rfl rfl rfl ?_
        refine hz_iconst (v := (1 : Int32)) (n := 49) hC dX5_readStatement_48 (by decide +kernel) rfl ?_
        refine hz_isub (n := 50) hC dX5_readStatement_49 rfl ?_
        refine hz_callV (k := 2) (As := [.int (0 : Int32), .int (a0 - (1 : Int32))]) (st := []) (S1 := fun r => .int r :: []) (n := 53) hC (c_X5_readNumber l (0 : Int32) (a0 - (1 : Int32))   (hp_p (hp_p M2 12 1 6 r2) 12 1 7 (-1 : Int32))) kv_X5_readNumber wd_2_124 hI dX5_readStatement_50 rfl (hI.2 1 (by decide)) he_X5 rfl rfl rfl (Nat.le_of_ble_eq_true rfl) ⟨Nat.le_of_ble_eq_true rfl, Nat.le_of_ble_eq_true rfl⟩ ⟨Nat.zero_le _, Nat.zero_le _⟩ (fun _ => rfl) rfl (fun r11 M11 _ => ?_)
        refine hz_if_ne (tgt := 58) (n := 56) hC dX5_readStatement_53 (by decide) rfl (fun _ => ?_) (fun _ => ?_)
        · refine hz_iconst (v := (0 : Int32)) (n := 57) hC dX5_readStatement_56 (by decide +kernel) rfl ?_
          exact hz_zret hC hr nz_0 dX5_readStatement_57
        · refine hz_aload_n (a := 1) (n := 59) hC dX5_readStatement_58 rfl rfl rfl ?_
          refine hz_aload_n (a := 1) (n := 60) hC dX5_readStatement_59 rfl rfl rfl ?_
          refine fg_X5_28 (n := 63) hC hI dX5_readStatement_60 rfl ?_
          refine fp_X5_35 (n := 66) hC hI (M11 12 1 5) dX5_readStatement_63 rfl ?_
          refine hz_aload_n (a := 1) (n := 67) hC dX5_readStatement_66 rfl rfl rfl ?_
          refine hz_iconst (v := (0 : Int32)) (n := 68) hC dX5_readStatement_67 (by decide +kernel) rfl ?_
          refine fp_X5_38 (n := 71) hC hI (0 : Int32) dX5_readStatement_68 rfl ?_
          refine hz_aload_n (a := 0) (n := 72) hC dX5_readStatement_71 rfl rfl rfl ?_
          refine hz_callON (k := 0) (As := []) (st := []) (S1 := fun r => .int r :: []) (n := 75) hC (c_X7_takesNumber l ((r2).toNatClampNeg) he3  (hp_p (hp_p M11 12 1 7 (M11 12 1 5)) 12 1 8 (0 : Int32))) kv_X7_takesNumber wd_2_128 trivial dX5_readStatement_72 rfl (hp_v_O hC.2.2.2.2.1 he3) rfl rfl (Nat.le_of_ble_eq_true rfl) ⟨Nat.le_of_ble_eq_true rfl, Nat.le_of_ble_eq_true rfl⟩ ⟨Nat.zero_le _, Nat.zero_le _⟩ (fun _ => rfl) rfl (fun r12 M12 _ => ?_)
          refine hz_if_eq (tgt := 103) (n := 78) hC dX5_readStatement_75 (by decide) rfl (fun _ => ?_) (fun _ => ?_)
          · refine hz_aload_n (a := 1) (n := 104) hC dX5_readStatement_103 rfl rfl rfl ?_
            refine hz_callV (k := 0) (As := []) (st := []) (S1 := fun _ => []) (n := 107) hC (c_X5_next l    M12) kv_X5_next wd_2_74 hI dX5_readStatement_104 rfl (hI.2 1 (by decide)) he_X5 rfl rfl rfl (Nat.le_of_ble_eq_true rfl) ⟨Nat.le_of_ble_eq_true rfl, Nat.le_of_ble_eq_true rfl⟩ ⟨Nat.zero_le _, Nat.zero_le _⟩ (fun _ => rfl) rfl (fun r13 M13 _ => ?_)
            refine hz_aload_n (a := 1) (n := 108) hC dX5_readStatement_107 rfl rfl rfl ?_
            refine fg_X5_22 (n := 111) hC hI dX5_readStatement_108 rfl ?_
            refine hz_iconst (v := (1 : Int32)) (n := 112) hC dX5_readStatement_111 (by decide +kernel) rfl ?_
            refine hz_icmp_eq (tgt := 123) (n := 115) hC dX5_readStatement_112 (by decide) rfl (fun _ => ?_) (fun _ => ?_)
            · refine hz_iconst (v := (1 : Int32)) (n := 124) hC dX5_readStatement_123 (by decide +kernel) rfl ?_
              refine hz_goto (n := 128) hC dX5_readStatement_124 (by decide) ?_
              exact hz_zret hC hr nz_1 dX5_readStatement_128
            · refine hz_aload_n (a := 1) (n := 116) hC dX5_readStatement_115 rfl rfl rfl ?_
              refine hz_iconst (v := (1 : Int32)) (n := 117) hC dX5_readStatement_116 (by decide +kernel) rfl ?_
              refine hz_callV (k := 1) (As := [.int (1 : Int32)]) (st := []) (S1 := fun r => .int r :: []) (n := 120) hC (c_X5_fail l (1 : Int32)   M13) kv_X5_fail wd_2_100 hI dX5_readStatement_117 rfl (hI.2 1 (by decide)) he_X5 rfl rfl rfl (Nat.le_of_ble_eq_true rfl) ⟨Nat.le_of_ble_eq_true rfl, Nat.le_of_ble_eq_true rfl⟩ ⟨Nat.zero_le _, Nat.zero_le _⟩ (fun _ => rfl) rfl (fun r14 M14 _ => ?_)
              refine hz_if_eq (tgt := 127) (n := 123) hC dX5_readStatement_120 (by decide) rfl (fun _ => ?_) (fun _ => ?_)
              · refine hz_iconst (v := (0 : Int32)) (n := 128) hC dX5_readStatement_127 (by decide +kernel) rfl ?_
                exact hz_zret hC hr nz_0 dX5_readStatement_128
              · refine hz_iconst (v := (1 : Int32)) (n := 124) hC dX5_readStatement_123 (by decide +kernel) rfl ?_
                refine hz_goto (n := 128) hC dX5_readStatement_124 (by decide) ?_
                exact hz_zret hC hr nz_1 dX5_readStatement_128
          · refine hz_aload_n (a := 1) (n := 79) hC dX5_readStatement_78 rfl rfl rfl ?_
            refine hz_aload_n (a := 0) (n := 80) hC dX5_readStatement_79 rfl rfl rfl ?_
            refine hz_vgetN (n := 83) hC dX5_readStatement_80 (hp_vlea_OF hC.2.2.2.2.1 he3) wd_4_150 rfl ?_
            refine hz_aload_n (a := 0) (n := 84) hC dX5_readStatement_83 rfl rfl rfl ?_
            refine hz_vgetN (n := 87) hC dX5_readStatement_84 (hp_vgre_OF hC.2.2.2.2.1 he3) wd_4_151 rfl ?_
            refine hz_callV (k := 2) (As := [.int (hp_vlea.getD ((r2).toNatClampNeg) 0), .int (hp_vgre.getD ((r2).toNatClampNeg) 0)]) (st := []) (S1 := fun r => .int r :: []) (n := 90) hC (c_X5_readNumber l (hp_vlea.getD ((r2).toNatClampNeg) 0) (hp_vgre.getD ((r2).toNatClampNeg) 0)   M12) kv_X5_readNumber wd_2_124 hI dX5_readStatement_87 rfl (hI.2 1 (by decide)) he_X5 rfl rfl rfl (Nat.le_of_ble_eq_true rfl) ⟨Nat.le_of_ble_eq_true rfl, Nat.le_of_ble_eq_true rfl⟩ ⟨Nat.zero_le _, Nat.zero_le _⟩ (fun _ => rfl) rfl (fun r15 M15 _ => ?_)
            refine hz_if_ne (tgt := 95) (n := 93) hC dX5_readStatement_90 (by decide) rfl (fun _ => ?_) (fun _ => ?_)
            · refine hz_iconst (v := (0 : Int32)) (n := 94) hC dX5_readStatement_93 (by decide +kernel) rfl ?_
              exact hz_zret hC hr nz_0 dX5_readStatement_94
            · refine hz_aload_n (a := 1) (n := 96) hC dX5_readStatement_95 rfl rfl rfl ?_
              refine hz_aload_n (a := 1) (n := 97) hC dX5_readStatement_96 rfl rfl rfl ?_
              refine fg_X5_28 (n := 100) hC hI dX5_readStatement_97 rfl ?_
              refine fp_X5_38 (n := 103) hC hI (M15 12 1 5) dX5_readStatement_100 rfl ?_
              refine hz_aload_n (a := 1) (n := 104) hC dX5_readStatement_103 rfl rfl rfl ?_
              refine hz_callV (k := 0) (As := []) (st := []) (S1 := fun _ => []) (n := 107) hC (c_X5_next l    (hp_p M15 12 1 8 (M15 12 1 5))) kv_X5_next wd_2_74 hI dX5_readStatement_104 rfl (hI.2 1 (by decide)) he_X5 rfl rfl rfl (Nat.le_of_ble_eq_true rfl) ⟨Nat.le_of_ble_eq_true rfl, Nat.le_of_ble_eq_true rfl⟩ ⟨Nat.zero_le _, Nat.zero_le _⟩ (fun _ => rfl) rfl (fun r16 M16 _ => ?_)
              refine hz_aload_n (a := 1) (n := 108) hC dX5_readStatement_107 rfl rfl rfl ?_
              refine fg_X5_22 (n := 111) hC hI dX5_readStatement_108 rfl ?_
              refine hz_iconst (v := (1 : Int32)) (n := 112) hC dX5_readStatement_111 (by decide +kernel) rfl ?_
              refine hz_icmp_eq (tgt := 123) (n := 115) hC dX5_readStatement_112 (by decide) rfl (fun _ => ?_) (fun _ => ?_)
              · refine hz_iconst (v := (1 : Int32)) (n := 124) hC dX5_readStatement_123 (by decide +kernel) rfl ?_
                refine hz_goto (n := 128) hC dX5_readStatement_124 (by decide) ?_
                exact hz_zret hC hr nz_1 dX5_readStatement_128
              · refine hz_aload_n (a := 1) (n := 116) hC dX5_readStatement_115 rfl rfl rfl ?_
                refine hz_iconst (v := (1 : Int32)) (n := 117) hC dX5_readStatement_116 (by decide +kernel) rfl ?_
                refine hz_callV (k := 1) (As := [.int (1 : Int32)]) (st := []) (S1 := fun r => .int r :: []) (n := 120) hC (c_X5_fail l (1 : Int32)   M16) kv_X5_fail wd_2_100 hI dX5_readStatement_117 rfl (hI.2 1 (by decide)) he_X5 rfl rfl rfl (Nat.le_of_ble_eq_true rfl) ⟨Nat.le_of_ble_eq_true rfl, Nat.le_of_ble_eq_true rfl⟩ ⟨Nat.zero_le _, Nat.zero_le _⟩ (fun _ => rfl) rfl (fun r17 M17 _ => ?_)
                refine hz_if_eq (tgt := 127) (n := 123) hC dX5_readStatement_120 (by decide) rfl (fun _ => ?_) (fun _ => ?_)
                · refine hz_iconst (v := (0 : Int32)) (n := 128) hC dX5_readStatement_127 (by decide +kernel) rfl ?_
                  exact hz_zret hC hr nz_0 dX5_readStatement_128
                · refine hz_iconst (v := (1 : Int32)) (n := 124) hC dX5_readStatement_123 (by decide +kernel) rfl ?_
                  refine hz_goto (n := 128) hC dX5_readStatement_124 (by decide) ?_
                  exact hz_zret hC hr nz_1 dX5_readStatement_128
def A_X8_replaceByText_129    (M : hp_M) : Option (Int32 × hp_M) := (if (M 12 1 9) = 0 then (hp_b (F_X2_copyFrom 0 1 M) (fun _ M3 => (hp_b (F_X1_forget M3) (fun _ M4 => (some (((hp_p M4 12 0 5 (0 : Int32)) 0 0 0), (hp_p M4 12 0 5 (0 : Int32)))))))) else (some (((-2 : Int32) - (M 12 1 9)), M)))
def L_X8_replaceByText_21    : Nat → Int32 → Int32 → hp_M → Option (Int32 × hp_M)
  | 0, _, _, _ => none
  | n21 + 1, x1, x2, M => (if x1 = 0 then (A_X8_replaceByText_129 M) else (if (700 : Int32) ≤ x2 then (A_X8_replaceByText_129 M) else (hp_b (F_X5_readStatement (M 1 0 0) M) (fun r5 M5 => (if r5 = 0 then (L_X8_replaceByText_21  n21 r5 (x2 + (1 : Int32)) M5) else (if M5 12 1 6 < 0 then (L_X8_replaceByText_21  n21 r5 (x2 + (1 : Int32)) M5) else (if (M5 12 1 6).toNatClampNeg < 12 then (hp_b (F_X2_refusal 1 ((M5 12 1 6).toNatClampNeg) (M5 12 1 7) (M5 12 1 8) M5) (fun r7 M7 => (if r7 = 0 then (hp_b (F_X2_perform 1 ((M5 12 1 6).toNatClampNeg) (M7 12 1 7) (M7 12 1 8) M7) (fun r8 M8 => (L_X8_replaceByText_21  n21 r5 (x2 + (1 : Int32)) M8))) else (hp_b (F_X5_fail (4 : Int32) M7) (fun r9 M9 => (L_X8_replaceByText_21  n21 r9 (x2 + (1 : Int32)) M9)))))) else none)))))))
def F_X8_replaceByText  (M : hp_M) : Option (Int32 × hp_M) := (hp_b (F_X2_clear 1 M) (fun _ M1 => (hp_b (F_X5_readFlats 1 M1) (fun r2 M2 => (L_X8_replaceByText_21 hp_fu r2 (0 : Int32) M2)))))
set_option maxRecDepth 20000 in
set_option maxHeartbeats 4000000 in
theorem c_X8_replaceByText (l : Launch)   (M : hp_M) : hp_Ct l yX8_replaceByText cX8_replaceByText 4 (some .int) 7 hp_IC (fun adr adV => [.ref (adr 12 0)]) hp_oi M (F_X8_replaceByText  M) := by
  refine hp_start "HallPhone" (fun adr adV => [(0, .ref (adr 12 0))]) (by decide) rfl (fun _ _ => by simp only [lg_sl]; exact Nat.le_of_ble_eq_true rfl) (fun _ _ => rfl) ?_
  intro p e s m args below meth c A D ids adr adV cA rep G0 hI hC hr
  unfold F_X8_replaceByText
  have j129 : ∀  (M : hp_M), hp_Z p l e (hp_rm 7) s m args below meth c 4 A D ids adr adV cA 0 0 (MQ below (hp_Q A D ids adr adV cA rep hp_oi G0) args s 0 0 A) G0 rep 129 [(0, .ref (adr 12 0))] [] M (A_X8_replaceByText_129   M) := by
    intro  M
    unfold A_X8_replaceByText_129
    refine hz_aload_n (a := 0) (n := 130) hC dX8_replaceByText_129 rfl rfl rfl ?_
    refine fg_X8_39 (n := 133) hC hI dX8_replaceByText_130 rfl ?_
    refine fg_X8_318 (n := 136) hC hI dX8_replaceByText_133 rfl ?_
    refine hz_if_eq (tgt := 150) (n := 139) hC dX8_replaceByText_136 (by decide) rfl (fun _ => ?_) (fun _ => ?_)
    · refine hz_aload_n (a := 0) (n := 151) hC dX8_replaceByText_150 rfl rfl rfl ?_
      refine fg_X8_10 (n := 154) hC hI dX8_replaceByText_151 rfl ?_
      refine hz_aload_n (a := 0) (n := 155) hC dX8_replaceByText_154 rfl rfl rfl ?_
      refine fg_X8_16 (n := 158) hC hI dX8_replaceByText_155 rfl ?_
      refine hz_callVN (k := 1) (As := [.ref (adr 1 0)]) (st := []) (S1 := fun _ => []) (n := 161) hC (c_X2_copyFrom l 0 1 (by decide) (by decide)  M) kv_X2_copyFrom wd_3_22 hI dX8_replaceByText_158 rfl (hI.1 0 0 (by decide) (by decide)) (he_X2 (by decide)) rfl rfl rfl (Nat.le_of_ble_eq_true rfl) ⟨Nat.le_of_ble_eq_true rfl, Nat.le_of_ble_eq_true rfl⟩ ⟨Nat.zero_le _, Nat.zero_le _⟩ (fun _ => rfl) rfl (fun r3 M3 _ => ?_)
      refine hz_aload_n (a := 0) (n := 162) hC dX8_replaceByText_161 rfl rfl rfl ?_
      refine fg_X8_22 (n := 165) hC hI dX8_replaceByText_162 rfl ?_
      refine hz_callVN (k := 0) (As := []) (st := []) (S1 := fun _ => []) (n := 168) hC (c_X1_forget l    M3) kv_X1_forget wd_3_40 hI dX8_replaceByText_165 rfl (hI.2 4 (by decide)) he_X1 rfl rfl rfl (Nat.le_of_ble_eq_true rfl) ⟨Nat.le_of_ble_eq_true rfl, Nat.le_of_ble_eq_true rfl⟩ ⟨Nat.zero_le _, Nat.zero_le _⟩ (fun _ => rfl) rfl (fun r4 M4 _ => ?_)
      refine hz_aload_n (a := 0) (n := 169) hC dX8_replaceByText_168 rfl rfl rfl ?_
      refine hz_iconst (v := (0 : Int32)) (n := 170) hC dX8_replaceByText_169 (by decide +kernel) rfl ?_
      refine fp_X8_32 (n := 173) hC hI (0 : Int32) dX8_replaceByText_170 rfl ?_
      refine hz_aload_n (a := 0) (n := 174) hC dX8_replaceByText_173 rfl rfl rfl ?_
      refine fg_X8_10 (n := 177) hC hI dX8_replaceByText_174 rfl ?_
      refine fg_X8_141 (n := 180) hC (by decide) hI dX8_replaceByText_177 rfl ?_
      exact hz_iret hC hr dX8_replaceByText_180
    · refine hz_bipush (v := (-2 : Int32)) (n := 141) hC dX8_replaceByText_139 (by decide +kernel) rfl ?_
      refine hz_aload_n (a := 0) (n := 142) hC dX8_replaceByText_141 rfl rfl rfl ?_
      refine fg_X8_39 (n := 145) hC hI dX8_replaceByText_142 rfl ?_
      refine fg_X8_318 (n := 148) hC hI dX8_replaceByText_145 rfl ?_
      refine hz_isub (n := 149) hC dX8_replaceByText_148 rfl ?_
      exact hz_iret hC hr dX8_replaceByText_149
  have l21 : ∀  (n21 : Nat) (x1 : Int32) (x2 : Int32) (M : hp_M), hp_Z p l e (hp_rm 7) s m args below meth c 4 A D ids adr adV cA 0 0 (MQ below (hp_Q A D ids adr adV cA rep hp_oi G0) args s 0 0 A) G0 rep 21 [(0, .ref (adr 12 0)), (1, .int x1), (2, .int x2)] [] M (L_X8_replaceByText_21  n21 x1 x2 M) := by
    intro  n21
    induction n21 with
    | zero => intro x1 x2 M; exact hz_none hC
    | succ n21 ih21 =>
      intro x1 x2 M
      rw [L_X8_replaceByText_21.eq_2]
      refine hz_iload_n (a := 1) (n := 22) hC dX8_replaceByText_21 rfl rfl rfl ?_
      refine hz_if_eq (tgt := 129) (n := 25) hC dX8_replaceByText_22 (by decide) rfl (fun _ => ?_) (fun _ => ?_)
      · refine hz_L (L' := [(0, .ref (adr 12 0))]) [0] rfl ?_
        exact j129 _
      · refine hz_iload_n (a := 2) (n := 26) hC dX8_replaceByText_25 rfl rfl rfl ?_
        refine hz_sipush (v := (700 : Int32)) (n := 29) hC dX8_replaceByText_26 (by decide +kernel) rfl ?_
        refine hz_icmp_ge (tgt := 129) (n := 32) hC dX8_replaceByText_29 (by decide) rfl (fun _ => ?_) (fun _ => ?_)
        · refine hz_L (L' := [(0, .ref (adr 12 0))]) [0] rfl ?_
          exact j129 _
        · refine hz_aload_n (a := 0) (n := 33) hC dX8_replaceByText_32 rfl rfl rfl ?_
          refine fg_X8_39 (n := 36) hC hI dX8_replaceByText_33 rfl ?_
          refine hz_aload_n (a := 0) (n := 37) hC dX8_replaceByText_36 rfl rfl rfl ?_
          refine fg_X8_16 (n := 40) hC hI dX8_replaceByText_37 rfl ?_
          refine fg_X8_141 (n := 43) hC (by decide) hI dX8_replaceByText_40 rfl ?_
          refine hz_callVN (k := 1) (As := [.int (M 1 0 0)]) (st := []) (S1 := fun r => .int r :: []) (n := 46) hC (c_X5_readStatement l (M 1 0 0)   M) kv_X5_readStatement wd_2_114 hI dX8_replaceByText_43 rfl (hI.2 1 (by decide)) he_X5 rfl rfl rfl (Nat.le_of_ble_eq_true rfl) ⟨Nat.le_of_ble_eq_true rfl, Nat.le_of_ble_eq_true rfl⟩ ⟨Nat.zero_le _, Nat.zero_le _⟩ (fun _ => rfl) rfl (fun r5 M5 _ => ?_)
          refine hz_istore_n (L' := [(1, .int r5), (0, .ref (adr 12 0)), (2, .int x2)]) (n := 47) hC dX8_replaceByText_46 rfl (by decide) rfl rfl ?_
          refine hz_aload_n (a := 1) (n := 48) hC dX8_replaceByText_47 rfl rfl rfl ?_
          refine fg_X8_39 (n := 51) hC hI dX8_replaceByText_48 rfl ?_
          refine fg_X8_306 (n := 54) hC hI dX8_replaceByText_51 rfl ?_
          refine hz_vstore_n (L' := [(3, hp_vr adV (M5 12 1 6)), (1, .int r5), (0, .ref (adr 12 0)), (2, .int x2)]) (n := 55) hC dX8_replaceByText_54 rfl (by decide) rfl rfl ?_
          refine hz_iload_n (a := 1) (n := 56) hC dX8_replaceByText_55 rfl rfl rfl ?_
          refine hz_if_eq (tgt := 123) (n := 59) hC dX8_replaceByText_56 (by decide) rfl (fun _ => ?_) (fun _ => ?_)
          · refine hz_iinc (a := 3) (v := (x2 + (1 : Int32))) (L' := [(2, .int (x2 + (1 : Int32))), (3, hp_vr adV (M5 12 1 6)), (1, .int r5), (0, .ref (adr 12 0))]) (n := 126) hC dX8_replaceByText_123 rfl rfl (by decide) rfl rfl ?_
            refine hz_goto (n := 21) hC dX8_replaceByText_126 (by decide) ?_
            refine hz_L (L' := [(0, .ref (adr 12 0)), (1, .int r5), (2, .int (x2 + (1 : Int32)))]) [3, 2, 0] rfl ?_
            exact ih21 _ _ _
          · refine hz_vload_n (a := 0) (n := 60) hC dX8_replaceByText_59 rfl rfl rfl ?_
            refine hz_ifnullV (tgt := 123) (n := 63) hC dX8_replaceByText_60 (by decide) rfl (fun _ => ?_) (fun hp6 => ?_)
            · refine hz_iinc (a := 3) (v := (x2 + (1 : Int32))) (L' := [(2, .int (x2 + (1 : Int32))), (3, hp_vr adV (M5 12 1 6)), (1, .int r5), (0, .ref (adr 12 0))]) (n := 126) hC dX8_replaceByText_123 rfl rfl (by decide) rfl rfl ?_
              refine hz_goto (n := 21) hC dX8_replaceByText_126 (by decide) ?_
              refine hz_L (L' := [(0, .ref (adr 12 0)), (1, .int r5), (2, .int (x2 + (1 : Int32)))]) [3, 2, 0] rfl ?_
              exact ih21 _ _ _
            · refine hz_case (fun he6 => ?_) (fun _ => hz_none hC)
              rw [hp_vr_pos (adV := adV) hp6]
              refine hz_aload_n (a := 2) (n := 64) hC dX8_replaceByText_63 rfl rfl rfl ?_
              refine fg_X8_16 (n := 67) hC hI dX8_replaceByText_64 rfl ?_
              refine hz_aload_n (a := 0) (n := 68) hC dX8_replaceByText_67 rfl rfl rfl ?_
              refine hz_aload_n (a := 2) (n := 69) hC dX8_replaceByText_68 rfl rfl rfl ?_
              refine fg_X8_39 (n := 72) hC hI dX8_replaceByText_69 rfl ?_
              refine fg_X8_309 (n := 75) hC hI dX8_replaceByText_72 rfl ?_
              refine hz_aload_n (a := 2) (n := 76) hC dX8_replaceByText_75 rfl rfl rfl ?_
              refine fg_X8_39 (n := 79) hC hI dX8_replaceByText_76 rfl ?_
              refine fg_X8_312 (n := 82) hC hI dX8_replaceByText_79 rfl ?_
              refine hz_callVN (k := 3) (As := [.ref (adV ((M5 12 1 6).toNatClampNeg)), .int (M5 12 1 7), .int (M5 12 1 8)]) (st := []) (S1 := fun r => .int r :: []) (n := 85) hC (c_X2_refusal l 1 ((M5 12 1 6).toNatClampNeg) (M5 12 1 7) (M5 12 1 8) (by decide) he6  M5) kv_X2_refusal wd_2_133 hI dX8_replaceByText_82 rfl (hI.1 1 0 (by decide) (by decide)) (he_X2 (by decide)) rfl rfl rfl (Nat.le_of_ble_eq_true rfl) ⟨Nat.le_of_ble_eq_true rfl, Nat.le_of_ble_eq_true rfl⟩ ⟨Nat.zero_le _, Nat.zero_le _⟩ (fun _ => rfl) rfl (fun r7 M7 _ => ?_)
              refine hz_if_ne (tgt := 114) (n := 88) hC dX8_replaceByText_85 (by decide) rfl (fun _ => ?_) (fun _ => ?_)
              · refine hz_aload_n (a := 2) (n := 89) hC dX8_replaceByText_88 rfl rfl rfl ?_
                refine fg_X8_16 (n := 92) hC hI dX8_replaceByText_89 rfl ?_
                refine hz_aload_n (a := 0) (n := 93) hC dX8_replaceByText_92 rfl rfl rfl ?_
                refine hz_aload_n (a := 2) (n := 94) hC dX8_replaceByText_93 rfl rfl rfl ?_
                refine fg_X8_39 (n := 97) hC hI dX8_replaceByText_94 rfl ?_
                refine fg_X8_309 (n := 100) hC hI dX8_replaceByText_97 rfl ?_
                refine hz_aload_n (a := 2) (n := 101) hC dX8_replaceByText_100 rfl rfl rfl ?_
                refine fg_X8_39 (n := 104) hC hI dX8_replaceByText_101 rfl ?_
                refine fg_X8_312 (n := 107) hC hI dX8_replaceByText_104 rfl ?_
                refine hz_callVN (k := 3) (As := [.ref (adV ((M5 12 1 6).toNatClampNeg)), .int (M7 12 1 7), .int (M7 12 1 8)]) (st := []) (S1 := fun r => .int r :: []) (n := 110) hC (c_X2_perform l 1 ((M5 12 1 6).toNatClampNeg) (M7 12 1 7) (M7 12 1 8) (by decide) he6  M7) kv_X2_perform wd_2_153 hI dX8_replaceByText_107 rfl (hI.1 1 0 (by decide) (by decide)) (he_X2 (by decide)) rfl rfl rfl (Nat.le_of_ble_eq_true rfl) ⟨Nat.le_of_ble_eq_true rfl, Nat.le_of_ble_eq_true rfl⟩ ⟨Nat.zero_le _, Nat.zero_le _⟩ (fun _ => rfl) rfl (fun r8 M8 _ => ?_)
                refine hz_pop (n := 111) hC dX8_replaceByText_110 rfl rfl ?_
                refine hz_goto (n := 123) hC dX8_replaceByText_111 (by decide) ?_
                refine hz_iinc (a := 3) (v := (x2 + (1 : Int32))) (L' := [(2, .int (x2 + (1 : Int32))), (3, .ref (adV ((M5 12 1 6).toNatClampNeg))), (1, .int r5), (0, .ref (adr 12 0))]) (n := 126) hC dX8_replaceByText_123 rfl rfl (by decide) rfl rfl ?_
                refine hz_goto (n := 21) hC dX8_replaceByText_126 (by decide) ?_
                refine hz_L (L' := [(0, .ref (adr 12 0)), (1, .int r5), (2, .int (x2 + (1 : Int32)))]) [3, 2, 0] rfl ?_
                exact ih21 _ _ _
              · refine hz_aload_n (a := 2) (n := 115) hC dX8_replaceByText_114 rfl rfl rfl ?_
                refine fg_X8_39 (n := 118) hC hI dX8_replaceByText_115 rfl ?_
                refine hz_iconst (v := (4 : Int32)) (n := 119) hC dX8_replaceByText_118 (by decide +kernel) rfl ?_
                refine hz_callVN (k := 1) (As := [.int (4 : Int32)]) (st := []) (S1 := fun r => .int r :: []) (n := 122) hC (c_X5_fail l (4 : Int32)   M7) kv_X5_fail wd_3_21 hI dX8_replaceByText_119 rfl (hI.2 1 (by decide)) he_X5 rfl rfl rfl (Nat.le_of_ble_eq_true rfl) ⟨Nat.le_of_ble_eq_true rfl, Nat.le_of_ble_eq_true rfl⟩ ⟨Nat.zero_le _, Nat.zero_le _⟩ (fun _ => rfl) rfl (fun r9 M9 _ => ?_)
                refine hz_istore_n (L' := [(1, .int r9), (3, .ref (adV ((M5 12 1 6).toNatClampNeg))), (0, .ref (adr 12 0)), (2, .int x2)]) (n := 123) hC dX8_replaceByText_122 rfl (by decide) rfl rfl ?_
                refine hz_iinc (a := 3) (v := (x2 + (1 : Int32))) (L' := [(2, .int (x2 + (1 : Int32))), (1, .int r9), (3, .ref (adV ((M5 12 1 6).toNatClampNeg))), (0, .ref (adr 12 0))]) (n := 126) hC dX8_replaceByText_123 rfl rfl (by decide) rfl rfl ?_
                refine hz_goto (n := 21) hC dX8_replaceByText_126 (by decide) ?_
                refine hz_L (L' := [(0, .ref (adr 12 0)), (1, .int r9), (2, .int (x2 + (1 : Int32)))]) [3, 1, 0] rfl ?_
                exact ih21 _ _ _
  refine hz_aload_n (a := 0) (n := 1) hC dX8_replaceByText_0 rfl rfl rfl ?_
  refine fg_X8_16 (n := 4) hC hI dX8_replaceByText_1 rfl ?_
  refine hz_callVN (k := 0) (As := []) (st := []) (S1 := fun _ => []) (n := 7) hC (c_X2_clear l 1 (by decide)  M) kv_X2_clear wd_2_50 hI dX8_replaceByText_4 rfl (hI.1 1 0 (by decide) (by decide)) (he_X2 (by decide)) rfl rfl rfl (Nat.le_of_ble_eq_true rfl) ⟨Nat.le_of_ble_eq_true rfl, Nat.le_of_ble_eq_true rfl⟩ ⟨Nat.zero_le _, Nat.zero_le _⟩ (fun _ => rfl) rfl (fun r1 M1 _ => ?_)
  refine hz_aload_n (a := 0) (n := 8) hC dX8_replaceByText_7 rfl rfl rfl ?_
  refine fg_X8_39 (n := 11) hC hI dX8_replaceByText_8 rfl ?_
  refine hz_aload_n (a := 0) (n := 12) hC dX8_replaceByText_11 rfl rfl rfl ?_
  refine fg_X8_16 (n := 15) hC hI dX8_replaceByText_12 rfl ?_
  refine hz_callVN (k := 1) (As := [.ref (adr 1 0)]) (st := []) (S1 := fun r => .int r :: []) (n := 18) hC (c_X5_readFlats l 1 (by decide)  M1) kv_X5_readFlats wd_2_70 hI dX8_replaceByText_15 rfl (hI.2 1 (by decide)) he_X5 rfl rfl rfl (Nat.le_of_ble_eq_true rfl) ⟨Nat.le_of_ble_eq_true rfl, Nat.le_of_ble_eq_true rfl⟩ ⟨Nat.zero_le _, Nat.zero_le _⟩ (fun _ => rfl) rfl (fun r2 M2 _ => ?_)
  refine hz_istore_n (L' := [(1, .int r2), (0, .ref (adr 12 0))]) (n := 19) hC dX8_replaceByText_18 rfl (by decide) rfl rfl ?_
  refine hz_iconst (v := (0 : Int32)) (n := 20) hC dX8_replaceByText_19 (by decide +kernel) rfl ?_
  refine hz_istore_n (L' := [(2, .int (0 : Int32)), (1, .int r2), (0, .ref (adr 12 0))]) (n := 21) hC dX8_replaceByText_20 rfl (by decide) rfl rfl ?_
  refine hz_L (L' := [(0, .ref (adr 12 0)), (1, .int r2), (2, .int (0 : Int32))]) [2, 1, 0] rfl ?_
  exact l21 hp_fu _ _ _
def F_X5_begin (a0 : Int32) (M : hp_M) : Option (Unit × hp_M) := (some ((), (hp_p (hp_p (hp_p M 12 1 1 (if (700 : Int32) < a0 then (700 : Int32) else a0)) 12 1 2 (0 : Int32)) 12 1 9 (0 : Int32))))
set_option maxRecDepth 20000 in
set_option maxHeartbeats 4000000 in
theorem c_X5_begin (l : Launch) (a0 : Int32)  (M : hp_M) : hp_Ct l yX5_begin cX5_begin 2 none 1 hp_IC (fun adr adV => [.ref (adr 12 1), .int a0]) hp_oo M (F_X5_begin a0 M) := by
  refine hp_start "HallPhone$Reader" (fun adr adV => [(0, .ref (adr 12 1)), (1, .int a0)]) (by decide) rfl (fun _ _ => by simp only [lg_sl]; exact Nat.le_of_ble_eq_true rfl) (fun _ _ => rfl) ?_
  intro p e s m args below meth c A D ids adr adV cA rep G0 hI hC hr
  unfold F_X5_begin
  refine hz_aload_n (a := 0) (n := 1) hC dX5_begin_0 rfl rfl rfl ?_
  refine hz_iload_n (a := 1) (n := 2) hC dX5_begin_1 rfl rfl rfl ?_
  refine hz_aload_n (a := 0) (n := 3) hC dX5_begin_2 rfl rfl rfl ?_
  refine fg_X5_9 (n := 6) hC hI dX5_begin_3 rfl ?_
  refine hz_alen (v := (700 : Int32)) (t := 0) (n := 7) hC dX5_begin_6 (hI.2 2 (by decide)) ha_p2 rfl (by decide +kernel) rfl ?_
  refine hz_min (n := 10) hC dX5_begin_7 wd_2_43 hp_minw ⟨Nat.le_of_ble_eq_true rfl, Nat.le_of_ble_eq_true rfl, Nat.zero_le _, Nat.zero_le _⟩ rfl ?_
  refine fp_X5_15 (n := 13) hC hI (if (700 : Int32) < a0 then (700 : Int32) else a0) dX5_begin_10 rfl ?_
  refine hz_aload_n (a := 0) (n := 14) hC dX5_begin_13 rfl rfl rfl ?_
  refine hz_iconst (v := (0 : Int32)) (n := 15) hC dX5_begin_14 (by decide +kernel) rfl ?_
  refine fp_X5_19 (n := 18) hC hI (0 : Int32) dX5_begin_15 rfl ?_
  refine hz_aload_n (a := 0) (n := 19) hC dX5_begin_18 rfl rfl rfl ?_
  refine hz_iconst (v := (0 : Int32)) (n := 20) hC dX5_begin_19 (by decide +kernel) rfl ?_
  refine fp_X5_41 (n := 23) hC hI (0 : Int32) dX5_begin_20 rfl ?_
  exact hz_vret hC hr dX5_begin_23
def L_X5_takeText_2 (t0 : Nat)   : Nat → Int32 → hp_M → Option (Unit × hp_M)
  | 0, _, _ => none
  | n2 + 1, x2, M => (hp_b (F_J0_length_8abf5 t0 M) (fun r1 M1 => (if r1 ≤ x2 then (hp_b (F_J0_length_8abf5 t0 M1) (fun r2 M2 => (hp_b (F_X5_begin r2 M2) (fun _ M3 => (some ((), M3)))))) else (if (700 : Int32) ≤ x2 then (hp_b (F_J0_length_8abf5 t0 M1) (fun r4 M4 => (hp_b (F_X5_begin r4 M4) (fun _ M5 => (some ((), M5)))))) else (hp_b (F_J0_charAt_5068e t0 x2 M1) (fun r6 M6 => (if x2 < 0 ∨ 700 ≤ (x2).toNatClampNeg then none else (L_X5_takeText_2 t0 n2 (x2 + (1 : Int32)) (hp_p M6 12 2 (x2).toNatClampNeg r6)))))))))
def F_X5_takeText (t0 : Nat) (M : hp_M) : Option (Unit × hp_M) := (L_X5_takeText_2 t0 hp_fu (0 : Int32) M)
set_option maxRecDepth 20000 in
set_option maxHeartbeats 4000000 in
theorem c_X5_takeText (l : Launch) (t0 : Nat) (ht0 : hp_tb t0) (M : hp_M) : hp_Ct l yX5_takeText cX5_takeText 3 none 4 hp_IC (fun adr adV => [.ref (adr 12 1), .ref (adV t0)]) hp_oo M (F_X5_takeText t0 M) := by
  refine hp_start "HallPhone$Reader" (fun adr adV => [(0, .ref (adr 12 1)), (1, .ref (adV t0))]) (by decide) rfl (fun _ _ => by simp only [lg_sl]; exact Nat.le_of_ble_eq_true rfl) (fun _ _ => rfl) ?_
  intro p e s m args below meth c A D ids adr adV cA rep G0 hI hC hr
  unfold F_X5_takeText
  have l2 : ∀  (n2 : Nat) (x2 : Int32) (M : hp_M), hp_Z p l e (hp_rm 4) s m args below meth c 3 A D ids adr adV cA 0 0 (MQ below (hp_Q A D ids adr adV cA rep hp_oo G0) args s 0 0 A) G0 rep 2 [(0, .ref (adr 12 1)), (1, .ref (adV t0)), (2, .int x2)] [] M (L_X5_takeText_2 t0 n2 x2 M) := by
    intro  n2
    induction n2 with
    | zero => intro x2 M; exact hz_none hC
    | succ n2 ih2 =>
      intro x2 M
      rw [L_X5_takeText_2.eq_2]
      refine hz_iload_n (a := 2) (n := 3) hC dX5_takeText_2 rfl rfl rfl ?_
      refine hz_aload_n (a := 1) (n := 4) hC dX5_takeText_3 rfl rfl rfl ?_
      refine hz_callO (k := 0) (As := []) (st := [.int x2]) (S1 := fun r => .int r :: [.int x2]) (n := 7) hC (c_J0_length_8abf5 l t0 ht0  M) kv_J0_length_8abf5 wd_1_232 trivial dX5_takeText_4 rfl (hp_s_O hC.2.2.2.2.1 ht0) rfl rfl (Nat.le_of_ble_eq_true rfl) ⟨Nat.le_of_ble_eq_true rfl, Nat.le_of_ble_eq_true rfl⟩ ⟨Nat.zero_le _, Nat.zero_le _⟩ (fun _ => rfl) rfl (fun r1 M1 _ => ?_)
      refine hz_icmp_ge (tgt := 36) (n := 10) hC dX5_takeText_7 (by decide) rfl (fun _ => ?_) (fun _ => ?_)
      · refine hz_aload_n (a := 0) (n := 37) hC dX5_takeText_36 rfl rfl rfl ?_
        refine hz_aload_n (a := 1) (n := 38) hC dX5_takeText_37 rfl rfl rfl ?_
        refine hz_callO (k := 0) (As := []) (st := [.ref (adr 12 1)]) (S1 := fun r => .int r :: [.ref (adr 12 1)]) (n := 41) hC (c_J0_length_8abf5 l t0 ht0  M1) kv_J0_length_8abf5 wd_1_232 trivial dX5_takeText_38 rfl (hp_s_O hC.2.2.2.2.1 ht0) rfl rfl (Nat.le_of_ble_eq_true rfl) ⟨Nat.le_of_ble_eq_true rfl, Nat.le_of_ble_eq_true rfl⟩ ⟨Nat.zero_le _, Nat.zero_le _⟩ (fun _ => rfl) rfl (fun r2 M2 _ => ?_)
        refine hz_callV (k := 1) (As := [.int r2]) (st := []) (S1 := fun _ => []) (n := 44) hC (c_X5_begin l r2   M2) kv_X5_begin wd_2_39 hI dX5_takeText_41 rfl (hI.2 1 (by decide)) he_X5 rfl rfl rfl (Nat.le_of_ble_eq_true rfl) ⟨Nat.le_of_ble_eq_true rfl, Nat.le_of_ble_eq_true rfl⟩ ⟨Nat.zero_le _, Nat.zero_le _⟩ (fun _ => rfl) rfl (fun r3 M3 _ => ?_)
        exact hz_vret hC hr dX5_takeText_44
      · refine hz_iload_n (a := 2) (n := 11) hC dX5_takeText_10 rfl rfl rfl ?_
        refine hz_aload_n (a := 0) (n := 12) hC dX5_takeText_11 rfl rfl rfl ?_
        refine fg_X5_9 (n := 15) hC hI dX5_takeText_12 rfl ?_
        refine hz_alen (v := (700 : Int32)) (t := 0) (n := 16) hC dX5_takeText_15 (hI.2 2 (by decide)) ha_p2 rfl (by decide +kernel) rfl ?_
        refine hz_icmp_ge (tgt := 36) (n := 19) hC dX5_takeText_16 (by decide) rfl (fun _ => ?_) (fun _ => ?_)
        · refine hz_aload_n (a := 0) (n := 37) hC dX5_takeText_36 rfl rfl rfl ?_
          refine hz_aload_n (a := 1) (n := 38) hC dX5_takeText_37 rfl rfl rfl ?_
          refine hz_callO (k := 0) (As := []) (st := [.ref (adr 12 1)]) (S1 := fun r => .int r :: [.ref (adr 12 1)]) (n := 41) hC (c_J0_length_8abf5 l t0 ht0  M1) kv_J0_length_8abf5 wd_1_232 trivial dX5_takeText_38 rfl (hp_s_O hC.2.2.2.2.1 ht0) rfl rfl (Nat.le_of_ble_eq_true rfl) ⟨Nat.le_of_ble_eq_true rfl, Nat.le_of_ble_eq_true rfl⟩ ⟨Nat.zero_le _, Nat.zero_le _⟩ (fun _ => rfl) rfl (fun r4 M4 _ => ?_)
          refine hz_callV (k := 1) (As := [.int r4]) (st := []) (S1 := fun _ => []) (n := 44) hC (c_X5_begin l r4   M4) kv_X5_begin wd_2_39 hI dX5_takeText_41 rfl (hI.2 1 (by decide)) he_X5 rfl rfl rfl (Nat.le_of_ble_eq_true rfl) ⟨Nat.le_of_ble_eq_true rfl, Nat.le_of_ble_eq_true rfl⟩ ⟨Nat.zero_le _, Nat.zero_le _⟩ (fun _ => rfl) rfl (fun r5 M5 _ => ?_)
          exact hz_vret hC hr dX5_takeText_44
        · refine hz_aload_n (a := 0) (n := 20) hC dX5_takeText_19 rfl rfl rfl ?_
          refine fg_X5_9 (n := 23) hC hI dX5_takeText_20 rfl ?_
          refine hz_iload_n (a := 2) (n := 24) hC dX5_takeText_23 rfl rfl rfl ?_
          refine hz_aload_n (a := 1) (n := 25) hC dX5_takeText_24 rfl rfl rfl ?_
          refine hz_iload_n (a := 2) (n := 26) hC dX5_takeText_25 rfl rfl rfl ?_
          refine hz_callO (k := 1) (As := [.int x2]) (st := [.int x2, .ref (adr 12 2)]) (S1 := fun r => .int r :: [.int x2, .ref (adr 12 2)]) (n := 29) hC (c_J0_charAt_5068e l t0 x2 ht0  M1) kv_J0_charAt_5068e wd_2_1 trivial dX5_takeText_26 rfl (hp_s_O hC.2.2.2.2.1 ht0) rfl rfl (Nat.le_of_ble_eq_true rfl) ⟨Nat.le_of_ble_eq_true rfl, Nat.le_of_ble_eq_true rfl⟩ ⟨Nat.zero_le _, Nat.zero_le _⟩ (fun _ => rfl) rfl (fun r6 M6 _ => ?_)
          refine hz_iast (n := 30) hC dX5_takeText_29 (hI.2 2 (by decide)) ha_p2 rfl (fun _ => ?_)
          refine hz_iinc (a := 2) (v := (x2 + (1 : Int32))) (L' := [(2, .int (x2 + (1 : Int32))), (0, .ref (adr 12 1)), (1, .ref (adV t0))]) (n := 33) hC dX5_takeText_30 rfl rfl (by decide) rfl rfl ?_
          refine hz_goto (n := 2) hC dX5_takeText_33 (by decide) ?_
          refine hz_L (L' := [(0, .ref (adr 12 1)), (1, .ref (adV t0)), (2, .int (x2 + (1 : Int32)))]) [1, 2, 0] rfl ?_
          exact ih2 _ _
  refine hz_iconst (v := (0 : Int32)) (n := 1) hC dX5_takeText_0 (by decide +kernel) rfl ?_
  refine hz_istore_n (L' := [(2, .int (0 : Int32)), (0, .ref (adr 12 1)), (1, .ref (adV t0))]) (n := 2) hC dX5_takeText_1 rfl (by decide) rfl rfl ?_
  refine hz_L (L' := [(0, .ref (adr 12 1)), (1, .ref (adV t0)), (2, .int (0 : Int32))]) [1, 2, 0] rfl ?_
  exact l2 hp_fu _ _
def F_X1_keep (b0 : Nat) (M : hp_M) : Option (Unit × hp_M) := (if (M 12 4 1) < 0 then (some ((), M)) else (if (8 : Int32) ≤ (M 12 4 1) then (some ((), M)) else (if (M 12 4 1) < 0 ∨ 8 ≤ ((M 12 4 1)).toNatClampNeg then none else (if (M 12 4 1) < 0 ∨ 8 ≤ ((M 12 4 1)).toNatClampNeg then none else (hp_b (F_X2_copyFrom (2 + ((M 12 4 1)).toNatClampNeg) b0 M) (fun _ M3 => (if (8 : Int32) ≤ ((M3 12 4 1) + (1 : Int32)) then (some ((), (hp_p (hp_p M3 12 4 1 (0 : Int32)) 12 4 2 (if (8 : Int32) < (((hp_p M3 12 4 1 (0 : Int32)) 12 4 2) + (1 : Int32)) then (8 : Int32) else (((hp_p M3 12 4 1 (0 : Int32)) 12 4 2) + (1 : Int32)))))) else (some ((), (hp_p (hp_p M3 12 4 1 ((M3 12 4 1) + (1 : Int32))) 12 4 2 (if (8 : Int32) < (((hp_p M3 12 4 1 ((M3 12 4 1) + (1 : Int32))) 12 4 2) + (1 : Int32)) then (8 : Int32) else (((hp_p M3 12 4 1 ((M3 12 4 1) + (1 : Int32))) 12 4 2) + (1 : Int32)))))))))))))
set_option maxRecDepth 20000 in
set_option maxHeartbeats 4000000 in
theorem c_X1_keep (l : Launch) (b0 : Nat) (hb0 : b0 < 12) (M : hp_M) : hp_Ct l yX1_keep cX1_keep 2 none 4 hp_IC (fun adr adV => [.ref (adr 12 4), .ref (adr b0 0)]) hp_oo M (F_X1_keep b0 M) := by
  refine hp_start "HallPhone$History" (fun adr adV => [(0, .ref (adr 12 4)), (1, .ref (adr b0 0))]) (by decide) rfl (fun _ _ => by simp only [lg_sl]; exact Nat.le_of_ble_eq_true rfl) (fun _ _ => rfl) ?_
  intro p e s m args below meth c A D ids adr adV cA rep G0 hI hC hr
  unfold F_X1_keep
  refine hz_aload_n (a := 0) (n := 1) hC dX1_keep_0 rfl rfl rfl ?_
  refine fg_X1_17 (n := 4) hC hI dX1_keep_1 rfl ?_
  refine hz_if_lt (tgt := 84) (n := 7) hC dX1_keep_4 (by decide) rfl (fun _ => ?_) (fun _ => ?_)
  · exact hz_vret hC hr dX1_keep_84
  · refine hz_aload_n (a := 0) (n := 8) hC dX1_keep_7 rfl rfl rfl ?_
    refine fg_X1_17 (n := 11) hC hI dX1_keep_8 rfl ?_
    refine hz_aload_n (a := 0) (n := 12) hC dX1_keep_11 rfl rfl rfl ?_
    refine fg_X1_11 (n := 15) hC hI dX1_keep_12 rfl ?_
    refine hz_alen (v := (8 : Int32)) (t := 3) (n := 16) hC dX1_keep_15 (hI.2 5 (by decide)) ha_p5 rfl (by decide +kernel) rfl ?_
    refine hz_icmp_ge (tgt := 84) (n := 19) hC dX1_keep_16 (by decide) rfl (fun _ => ?_) (fun _ => ?_)
    · exact hz_vret hC hr dX1_keep_84
    · refine hz_aload_n (a := 0) (n := 20) hC dX1_keep_19 rfl rfl rfl ?_
      refine fg_X1_11 (n := 23) hC hI dX1_keep_20 rfl ?_
      refine hz_aload_n (a := 0) (n := 24) hC dX1_keep_23 rfl rfl rfl ?_
      refine fg_X1_17 (n := 27) hC hI dX1_keep_24 rfl ?_
      refine hz_aald (n := 28) hC dX1_keep_27 (hI.2 5 (by decide)) rfl (fun hx1 => ?_)
      have hgx1 : 2 + ((M 12 4 1)).toNatClampNeg < 12 := by omega
      refine hz_ifnull (n := 31) hC dX1_keep_28 rfl ?_
      refine hz_aload_n (a := 0) (n := 32) hC dX1_keep_31 rfl rfl rfl ?_
      refine fg_X1_11 (n := 35) hC hI dX1_keep_32 rfl ?_
      refine hz_aload_n (a := 0) (n := 36) hC dX1_keep_35 rfl rfl rfl ?_
      refine fg_X1_17 (n := 39) hC hI dX1_keep_36 rfl ?_
      refine hz_aald (n := 40) hC dX1_keep_39 (hI.2 5 (by decide)) rfl (fun hx2 => ?_)
      have hgx2 : 2 + ((M 12 4 1)).toNatClampNeg < 12 := by omega
      refine hz_aload_n (a := 1) (n := 41) hC dX1_keep_40 rfl rfl rfl ?_
      refine hz_callVN (k := 1) (As := [.ref (adr b0 0)]) (st := []) (S1 := fun _ => []) (n := 44) hC (c_X2_copyFrom l (2 + ((M 12 4 1)).toNatClampNeg) b0 hgx2 hb0  M) kv_X2_copyFrom wd_4_15 hI dX1_keep_41 rfl (hI.1 (2 + ((M 12 4 1)).toNatClampNeg) 0 hgx2 (by decide)) (he_X2 hgx2) rfl rfl rfl (Nat.le_of_ble_eq_true rfl) ⟨Nat.le_of_ble_eq_true rfl, Nat.le_of_ble_eq_true rfl⟩ ⟨Nat.zero_le _, Nat.zero_le _⟩ (fun _ => rfl) rfl (fun r3 M3 _ => ?_)
      refine hz_aload_n (a := 0) (n := 45) hC dX1_keep_44 rfl rfl rfl ?_
      refine hz_aload_n (a := 0) (n := 46) hC dX1_keep_45 rfl rfl rfl ?_
      refine fg_X1_17 (n := 49) hC hI dX1_keep_46 rfl ?_
      refine hz_iconst (v := (1 : Int32)) (n := 50) hC dX1_keep_49 (by decide +kernel) rfl ?_
      refine hz_iadd (n := 51) hC dX1_keep_50 rfl ?_
      refine hz_bipush (v := (8 : Int32)) (n := 53) hC dX1_keep_51 (by decide +kernel) rfl ?_
      refine hz_icmp_ge (tgt := 65) (n := 56) hC dX1_keep_53 (by decide) rfl (fun _ => ?_) (fun _ => ?_)
      · refine hz_iconst (v := (0 : Int32)) (n := 66) hC dX1_keep_65 (by decide +kernel) rfl ?_
        refine fp_X1_17 (n := 69) hC hI (0 : Int32) dX1_keep_66 rfl ?_
        refine hz_aload_n (a := 0) (n := 70) hC dX1_keep_69 rfl rfl rfl ?_
        refine hz_aload_n (a := 0) (n := 71) hC dX1_keep_70 rfl rfl rfl ?_
        refine fg_X1_21 (n := 74) hC hI dX1_keep_71 rfl ?_
        refine hz_iconst (v := (1 : Int32)) (n := 75) hC dX1_keep_74 (by decide +kernel) rfl ?_
        refine hz_iadd (n := 76) hC dX1_keep_75 rfl ?_
        refine hz_bipush (v := (8 : Int32)) (n := 78) hC dX1_keep_76 (by decide +kernel) rfl ?_
        refine hz_min (n := 81) hC dX1_keep_78 wd_4_16 hp_minw ⟨Nat.le_of_ble_eq_true rfl, Nat.le_of_ble_eq_true rfl, Nat.zero_le _, Nat.zero_le _⟩ rfl ?_
        refine fp_X1_21 (n := 84) hC hI (if (8 : Int32) < (((hp_p M3 12 4 1 (0 : Int32)) 12 4 2) + (1 : Int32)) then (8 : Int32) else (((hp_p M3 12 4 1 (0 : Int32)) 12 4 2) + (1 : Int32))) dX1_keep_81 rfl ?_
        exact hz_vret hC hr dX1_keep_84
      · refine hz_aload_n (a := 0) (n := 57) hC dX1_keep_56 rfl rfl rfl ?_
        refine fg_X1_17 (n := 60) hC hI dX1_keep_57 rfl ?_
        refine hz_iconst (v := (1 : Int32)) (n := 61) hC dX1_keep_60 (by decide +kernel) rfl ?_
        refine hz_iadd (n := 62) hC dX1_keep_61 rfl ?_
        refine hz_goto (n := 66) hC dX1_keep_62 (by decide) ?_
        refine fp_X1_17 (n := 69) hC hI ((M3 12 4 1) + (1 : Int32)) dX1_keep_66 rfl ?_
        refine hz_aload_n (a := 0) (n := 70) hC dX1_keep_69 rfl rfl rfl ?_
        refine hz_aload_n (a := 0) (n := 71) hC dX1_keep_70 rfl rfl rfl ?_
        refine fg_X1_21 (n := 74) hC hI dX1_keep_71 rfl ?_
        refine hz_iconst (v := (1 : Int32)) (n := 75) hC dX1_keep_74 (by decide +kernel) rfl ?_
        refine hz_iadd (n := 76) hC dX1_keep_75 rfl ?_
        refine hz_bipush (v := (8 : Int32)) (n := 78) hC dX1_keep_76 (by decide +kernel) rfl ?_
        refine hz_min (n := 81) hC dX1_keep_78 wd_4_16 hp_minw ⟨Nat.le_of_ble_eq_true rfl, Nat.le_of_ble_eq_true rfl, Nat.zero_le _, Nat.zero_le _⟩ rfl ?_
        refine fp_X1_21 (n := 84) hC hI (if (8 : Int32) < (((hp_p M3 12 4 1 ((M3 12 4 1) + (1 : Int32))) 12 4 2) + (1 : Int32)) then (8 : Int32) else (((hp_p M3 12 4 1 ((M3 12 4 1) + (1 : Int32))) 12 4 2) + (1 : Int32))) dX1_keep_81 rfl ?_
        exact hz_vret hC hr dX1_keep_84
def A_X1_takeBack_18 (b0 : Nat)  (z18_0 : Int32) (M : hp_M) : Option (Int32 × hp_M) := (if (M 12 4 2) = 0 then (some ((0 : Int32), M)) else (if (8 : Int32) ≤ z18_0 then (some ((0 : Int32), M)) else (if z18_0 < 0 ∨ 8 ≤ (z18_0).toNatClampNeg then none else (if z18_0 < 0 ∨ 8 ≤ (z18_0).toNatClampNeg then none else (hp_b (F_X2_copyFrom b0 (2 + (z18_0).toNatClampNeg) M) (fun _ M3 => (some ((1 : Int32), (hp_p (hp_p M3 12 4 1 z18_0) 12 4 2 (((hp_p M3 12 4 1 z18_0) 12 4 2) - (1 : Int32)))))))))))
def F_X1_takeBack (b0 : Nat) (M : hp_M) : Option (Int32 × hp_M) := (if (M 12 4 1) ≤ 0 then (A_X1_takeBack_18 b0 (7 : Int32) M) else (A_X1_takeBack_18 b0 ((M 12 4 1) - (1 : Int32)) M))
set_option maxRecDepth 20000 in
set_option maxHeartbeats 4000000 in
theorem c_X1_takeBack (l : Launch) (b0 : Nat) (hb0 : b0 < 12) (M : hp_M) : hp_Ct l yX1_takeBack cX1_takeBack 3 (some .boolean) 4 hp_IC (fun adr adV => [.ref (adr 12 4), .ref (adr b0 0)]) hp_oi M (F_X1_takeBack b0 M) := by
  refine hp_start "HallPhone$History" (fun adr adV => [(0, .ref (adr 12 4)), (1, .ref (adr b0 0))]) (by decide) rfl (fun _ _ => by simp only [lg_sl]; exact Nat.le_of_ble_eq_true rfl) (fun _ _ => rfl) ?_
  intro p e s m args below meth c A D ids adr adV cA rep G0 hI hC hr
  unfold F_X1_takeBack
  have j18 : ∀ (z18_0 : Int32) (M : hp_M), hp_Z p l e (hp_rm 4) s m args below meth c 3 A D ids adr adV cA 0 0 (MQ below (hp_Q A D ids adr adV cA rep hp_oi G0) args s 0 0 A) G0 rep 18 [(0, .ref (adr 12 4)), (1, .ref (adr b0 0))] [.int z18_0] M (A_X1_takeBack_18 b0 z18_0 M) := by
    intro z18_0 M
    unfold A_X1_takeBack_18
    refine hz_istore_n (L' := [(2, .int z18_0), (0, .ref (adr 12 4)), (1, .ref (adr b0 0))]) (n := 19) hC dX1_takeBack_18 rfl (by decide) rfl rfl ?_
    refine hz_aload_n (a := 1) (n := 20) hC dX1_takeBack_19 rfl rfl rfl ?_
    refine fg_X1_21 (n := 23) hC hI dX1_takeBack_20 rfl ?_
    refine hz_if_eq (tgt := 44) (n := 26) hC dX1_takeBack_23 (by decide) rfl (fun _ => ?_) (fun _ => ?_)
    · refine hz_iconst (v := (0 : Int32)) (n := 45) hC dX1_takeBack_44 (by decide +kernel) rfl ?_
      exact hz_zret hC hr nz_0 dX1_takeBack_45
    · refine hz_iload_n (a := 0) (n := 27) hC dX1_takeBack_26 rfl rfl rfl ?_
      refine hz_aload_n (a := 1) (n := 28) hC dX1_takeBack_27 rfl rfl rfl ?_
      refine fg_X1_11 (n := 31) hC hI dX1_takeBack_28 rfl ?_
      refine hz_alen (v := (8 : Int32)) (t := 3) (n := 32) hC dX1_takeBack_31 (hI.2 5 (by decide)) ha_p5 rfl (by decide +kernel) rfl ?_
      refine hz_icmp_ge (tgt := 44) (n := 35) hC dX1_takeBack_32 (by decide) rfl (fun _ => ?_) (fun _ => ?_)
      · refine hz_iconst (v := (0 : Int32)) (n := 45) hC dX1_takeBack_44 (by decide +kernel) rfl ?_
        exact hz_zret hC hr nz_0 dX1_takeBack_45
      · refine hz_aload_n (a := 1) (n := 36) hC dX1_takeBack_35 rfl rfl rfl ?_
        refine fg_X1_11 (n := 39) hC hI dX1_takeBack_36 rfl ?_
        refine hz_iload_n (a := 0) (n := 40) hC dX1_takeBack_39 rfl rfl rfl ?_
        refine hz_aald (n := 41) hC dX1_takeBack_40 (hI.2 5 (by decide)) rfl (fun hx1 => ?_)
        have hgx1 : 2 + (z18_0).toNatClampNeg < 12 := by omega
        refine hz_ifnonnull (n := 46) hC dX1_takeBack_41 (by decide) ?_
        refine hz_aload_n (a := 2) (n := 47) hC dX1_takeBack_46 rfl rfl rfl ?_
        refine hz_aload_n (a := 1) (n := 48) hC dX1_takeBack_47 rfl rfl rfl ?_
        refine fg_X1_11 (n := 51) hC hI dX1_takeBack_48 rfl ?_
        refine hz_iload_n (a := 0) (n := 52) hC dX1_takeBack_51 rfl rfl rfl ?_
        refine hz_aald (n := 53) hC dX1_takeBack_52 (hI.2 5 (by decide)) rfl (fun hx2 => ?_)
        have hgx2 : 2 + (z18_0).toNatClampNeg < 12 := by omega
        refine hz_callVN (k := 1) (As := [.ref (adr (2 + (z18_0).toNatClampNeg) 0)]) (st := []) (S1 := fun _ => []) (n := 56) hC (c_X2_copyFrom l b0 (2 + (z18_0).toNatClampNeg) hb0 hgx2  M) kv_X2_copyFrom wd_4_15 hI dX1_takeBack_53 rfl (hI.1 b0 0 hb0 (by decide)) (he_X2 hb0) rfl rfl rfl (Nat.le_of_ble_eq_true rfl) ⟨Nat.le_of_ble_eq_true rfl, Nat.le_of_ble_eq_true rfl⟩ ⟨Nat.zero_le _, Nat.zero_le _⟩ (fun _ => rfl) rfl (fun r3 M3 _ => ?_)
        refine hz_aload_n (a := 1) (n := 57) hC dX1_takeBack_56 rfl rfl rfl ?_
        refine hz_iload_n (a := 0) (n := 58) hC dX1_takeBack_57 rfl rfl rfl ?_
        refine fp_X1_17 (n := 61) hC hI z18_0 dX1_takeBack_58 rfl ?_
        refine hz_aload_n (a := 1) (n := 62) hC dX1_takeBack_61 rfl rfl rfl ?_
        refine hz_dup (n := 63) hC dX1_takeBack_62 rfl rfl ?_
        refine fg_X1_21 (n := 66) hC hI dX1_takeBack_63 rfl ?_
        refine hz_iconst (v := (1 : Int32)) (n := 67) hC dX1_takeBack_66 (by decide +kernel) rfl ?_
        refine hz_isub (n := 68) hC dX1_takeBack_67 rfl ?_
        refine fp_X1_21 (n := 71) hC hI (((hp_p M3 12 4 1 z18_0) 12 4 2) - (1 : Int32)) dX1_takeBack_68 rfl ?_
        refine hz_iconst (v := (1 : Int32)) (n := 72) hC dX1_takeBack_71 (by decide +kernel) rfl ?_
        exact hz_zret hC hr nz_1 dX1_takeBack_72
  refine hz_aload_n (a := 0) (n := 1) hC dX1_takeBack_0 rfl rfl rfl ?_
  refine fg_X1_17 (n := 4) hC hI dX1_takeBack_1 rfl ?_
  refine hz_if_le (tgt := 16) (n := 7) hC dX1_takeBack_4 (by decide) rfl (fun _ => ?_) (fun _ => ?_)
  · refine hz_bipush (v := (7 : Int32)) (n := 18) hC dX1_takeBack_16 (by decide +kernel) rfl ?_
    exact j18 _ _
  · refine hz_aload_n (a := 0) (n := 8) hC dX1_takeBack_7 rfl rfl rfl ?_
    refine fg_X1_17 (n := 11) hC hI dX1_takeBack_8 rfl ?_
    refine hz_iconst (v := (1 : Int32)) (n := 12) hC dX1_takeBack_11 (by decide +kernel) rfl ?_
    refine hz_isub (n := 13) hC dX1_takeBack_12 rfl ?_
    refine hz_goto (n := 18) hC dX1_takeBack_13 (by decide) ?_
    exact j18 _ _
def F_X8_checkRange (a0 : Int32) (a1 : Int32) (a2 : Int32) (M : hp_M) : Option (Unit × hp_M) := (if a0 < a1 then none else (if a0 ≤ a2 then (some ((), M)) else none))
set_option maxRecDepth 20000 in
set_option maxHeartbeats 4000000 in
theorem c_X8_checkRange (l : Launch) (a0 : Int32) (a1 : Int32) (a2 : Int32)  (M : hp_M) : hp_Ct l yX8_checkRange cX8_checkRange 3 none 0 hp_IC (fun adr adV => [.int a0, .int a1, .int a2]) hp_oo M (F_X8_checkRange a0 a1 a2 M) := by
  refine hp_start "HallPhone" (fun adr adV => [(0, .int a0), (1, .int a1), (2, .int a2)]) (by decide) rfl (fun _ _ => by simp only [lg_sl]; exact Nat.le_of_ble_eq_true rfl) (fun _ _ => rfl) ?_
  intro p e s m args below meth c A D ids adr adV cA rep G0 hI hC hr
  unfold F_X8_checkRange
  refine hz_iload_n (a := 0) (n := 1) hC dX8_checkRange_0 rfl rfl rfl ?_
  refine hz_iload_n (a := 1) (n := 2) hC dX8_checkRange_1 rfl rfl rfl ?_
  refine hz_icmp_lt (tgt := 10) (n := 5) hC dX8_checkRange_2 (by decide) rfl (fun _ => ?_) (fun _ => ?_)
  · exact hz_none hC
  · refine hz_iload_n (a := 0) (n := 6) hC dX8_checkRange_5 rfl rfl rfl ?_
    refine hz_iload_n (a := 2) (n := 7) hC dX8_checkRange_6 rfl rfl rfl ?_
    refine hz_icmp_le (tgt := 21) (n := 10) hC dX8_checkRange_7 (by decide) rfl (fun _ => ?_) (fun _ => ?_)
    · exact hz_vret hC hr dX8_checkRange_21
    · exact hz_none hC
def F_X8_load (a0 : Int32) (M : hp_M) : Option (Int32 × hp_M) := (hp_b (F_X8_checkRange a0 (0 : Int32) (2 : Int32) M) (fun _ M1 => (if a0 = 0 then (hp_b (F_X5_takeText 20 M1) (fun _ M2 => (hp_b (F_X8_replaceByText M2) (fun r3 M3 => (some (r3, M3)))))) else (if a0 = (1 : Int32) then (hp_b (F_X5_takeText 21 M1) (fun _ M4 => (hp_b (F_X8_replaceByText M4) (fun r5 M5 => (some (r5, M5)))))) else (hp_b (F_X5_takeText 22 M1) (fun _ M6 => (hp_b (F_X8_replaceByText M6) (fun r7 M7 => (some (r7, M7))))))))))
set_option maxRecDepth 20000 in
set_option maxHeartbeats 4000000 in
theorem c_X8_load (l : Launch) (a0 : Int32)  (M : hp_M) : hp_Ct l yX8_load cX8_load 2 (some .int) 8 hp_IC (fun adr adV => [.ref (adr 12 0), .int a0]) hp_oi M (F_X8_load a0 M) := by
  refine hp_start "HallPhone" (fun adr adV => [(0, .ref (adr 12 0)), (1, .int a0)]) (by decide) rfl (fun _ _ => by simp only [lg_sl]; exact Nat.le_of_ble_eq_true rfl) (fun _ _ => rfl) ?_
  intro p e s m args below meth c A D ids adr adV cA rep G0 hI hC hr
  unfold F_X8_load
  refine hz_iload_n (a := 1) (n := 1) hC dX8_load_0 rfl rfl rfl ?_
  refine hz_iconst (v := (0 : Int32)) (n := 2) hC dX8_load_1 (by decide +kernel) rfl ?_
  refine hz_iconst (v := (2 : Int32)) (n := 3) hC dX8_load_2 (by decide +kernel) rfl ?_
  refine hz_callS (k := 3) (As := [.int a0, .int (0 : Int32), .int (2 : Int32)]) (st := []) (S1 := fun _ => []) (n := 6) hC (c_X8_checkRange l a0 (0 : Int32) (2 : Int32)   M) ks_X8_checkRange wd_3_79 hI dX8_load_3 rfl rfl rfl (Nat.le_of_ble_eq_true rfl) ⟨Nat.le_of_ble_eq_true rfl, Nat.le_of_ble_eq_true rfl⟩ ⟨Nat.zero_le _, Nat.zero_le _⟩ (fun _ => rfl) rfl (fun r1 M1 _ => ?_)
  refine hz_aload_n (a := 0) (n := 7) hC dX8_load_6 rfl rfl rfl ?_
  refine fg_X8_39 (n := 10) hC hI dX8_load_7 rfl ?_
  refine hz_iload_n (a := 1) (n := 11) hC dX8_load_10 rfl rfl rfl ?_
  refine hz_if_ne (tgt := 19) (n := 14) hC dX8_load_11 (by decide) rfl (fun _ => ?_) (fun _ => ?_)
  · refine hz_ldcS (k := 20) (n := 16) hC dX8_load_14 wd_1_227 (hp_st_s 0 (by decide)) rfl ?_
    refine hz_goto (n := 31) hC dX8_load_16 (by decide) ?_
    refine hz_callVN (k := 1) (As := [.ref (adV 20)]) (st := []) (S1 := fun _ => []) (n := 34) hC (c_X5_takeText l 20 (by decide)  M1) kv_X5_takeText wd_1_228 hI dX8_load_31 rfl (hI.2 1 (by decide)) he_X5 rfl rfl rfl (Nat.le_of_ble_eq_true rfl) ⟨Nat.le_of_ble_eq_true rfl, Nat.le_of_ble_eq_true rfl⟩ ⟨Nat.zero_le _, Nat.zero_le _⟩ (fun _ => rfl) rfl (fun r2 M2 _ => ?_)
    refine hz_aload_n (a := 0) (n := 35) hC dX8_load_34 rfl rfl rfl ?_
    refine hz_callV (k := 0) (As := []) (st := []) (S1 := fun r => .int r :: []) (n := 38) hC (c_X8_replaceByText l    M2) kv_X8_replaceByText wd_2_46 hI dX8_load_35 rfl (hI.2 0 (by decide)) he_X8 rfl rfl rfl (Nat.le_of_ble_eq_true rfl) ⟨Nat.le_of_ble_eq_true rfl, Nat.le_of_ble_eq_true rfl⟩ ⟨Nat.zero_le _, Nat.zero_le _⟩ (fun _ => rfl) rfl (fun r3 M3 _ => ?_)
    exact hz_iret hC hr dX8_load_38
  · refine hz_iload_n (a := 1) (n := 20) hC dX8_load_19 rfl rfl rfl ?_
    refine hz_iconst (v := (1 : Int32)) (n := 21) hC dX8_load_20 (by decide +kernel) rfl ?_
    refine hz_icmp_ne (tgt := 29) (n := 24) hC dX8_load_21 (by decide) rfl (fun _ => ?_) (fun _ => ?_)
    · refine hz_ldcS (k := 21) (n := 26) hC dX8_load_24 wd_3_149 (hp_st_s 1 (by decide)) rfl ?_
      refine hz_goto (n := 31) hC dX8_load_26 (by decide) ?_
      refine hz_callVN (k := 1) (As := [.ref (adV 21)]) (st := []) (S1 := fun _ => []) (n := 34) hC (c_X5_takeText l 21 (by decide)  M1) kv_X5_takeText wd_1_228 hI dX8_load_31 rfl (hI.2 1 (by decide)) he_X5 rfl rfl rfl (Nat.le_of_ble_eq_true rfl) ⟨Nat.le_of_ble_eq_true rfl, Nat.le_of_ble_eq_true rfl⟩ ⟨Nat.zero_le _, Nat.zero_le _⟩ (fun _ => rfl) rfl (fun r4 M4 _ => ?_)
      refine hz_aload_n (a := 0) (n := 35) hC dX8_load_34 rfl rfl rfl ?_
      refine hz_callV (k := 0) (As := []) (st := []) (S1 := fun r => .int r :: []) (n := 38) hC (c_X8_replaceByText l    M4) kv_X8_replaceByText wd_2_46 hI dX8_load_35 rfl (hI.2 0 (by decide)) he_X8 rfl rfl rfl (Nat.le_of_ble_eq_true rfl) ⟨Nat.le_of_ble_eq_true rfl, Nat.le_of_ble_eq_true rfl⟩ ⟨Nat.zero_le _, Nat.zero_le _⟩ (fun _ => rfl) rfl (fun r5 M5 _ => ?_)
      exact hz_iret hC hr dX8_load_38
    · refine hz_ldcS (k := 22) (n := 31) hC dX8_load_29 wd_3_150 (hp_st_s 2 (by decide)) rfl ?_
      refine hz_callVN (k := 1) (As := [.ref (adV 22)]) (st := []) (S1 := fun _ => []) (n := 34) hC (c_X5_takeText l 22 (by decide)  M1) kv_X5_takeText wd_1_228 hI dX8_load_31 rfl (hI.2 1 (by decide)) he_X5 rfl rfl rfl (Nat.le_of_ble_eq_true rfl) ⟨Nat.le_of_ble_eq_true rfl, Nat.le_of_ble_eq_true rfl⟩ ⟨Nat.zero_le _, Nat.zero_le _⟩ (fun _ => rfl) rfl (fun r6 M6 _ => ?_)
      refine hz_aload_n (a := 0) (n := 35) hC dX8_load_34 rfl rfl rfl ?_
      refine hz_callV (k := 0) (As := []) (st := []) (S1 := fun r => .int r :: []) (n := 38) hC (c_X8_replaceByText l    M6) kv_X8_replaceByText wd_2_46 hI dX8_load_35 rfl (hI.2 0 (by decide)) he_X8 rfl rfl rfl (Nat.le_of_ble_eq_true rfl) ⟨Nat.le_of_ble_eq_true rfl, Nat.le_of_ble_eq_true rfl⟩ ⟨Nat.zero_le _, Nat.zero_le _⟩ (fun _ => rfl) rfl (fun r7 M7 _ => ?_)
      exact hz_iret hC hr dX8_load_38
def F_X8_size (a0 : Int32) (M : hp_M) : Option (Int32 × hp_M) := (hp_b (F_X8_checkRange a0 (0 : Int32) (13 : Int32) M) (fun _ M1 => (if a0 = (11 : Int32) then (some ((M1 12 4 2), M1)) else (if a0 = (12 : Int32) then (some ((M1 12 0 8), M1)) else (if a0 = (13 : Int32) then none else (hp_b (F_X2_houseNumber 0 a0 M1) (fun r2 M2 => (some (r2, M2)))))))))
set_option maxRecDepth 20000 in
set_option maxHeartbeats 4000000 in
theorem c_X8_size (l : Launch) (a0 : Int32)  (M : hp_M) : hp_Ct l yX8_size cX8_size 2 (some .int) 3 hp_IC (fun adr adV => [.ref (adr 12 0), .int a0]) hp_oi M (F_X8_size a0 M) := by
  refine hp_start "HallPhone" (fun adr adV => [(0, .ref (adr 12 0)), (1, .int a0)]) (by decide) rfl (fun _ _ => by simp only [lg_sl]; exact Nat.le_of_ble_eq_true rfl) (fun _ _ => rfl) ?_
  intro p e s m args below meth c A D ids adr adV cA rep G0 hI hC hr
  unfold F_X8_size
  refine hz_iload_n (a := 1) (n := 1) hC dX8_size_0 rfl rfl rfl ?_
  refine hz_iconst (v := (0 : Int32)) (n := 2) hC dX8_size_1 (by decide +kernel) rfl ?_
  refine hz_bipush (v := (13 : Int32)) (n := 4) hC dX8_size_2 (by decide +kernel) rfl ?_
  refine hz_callS (k := 3) (As := [.int a0, .int (0 : Int32), .int (13 : Int32)]) (st := []) (S1 := fun _ => []) (n := 7) hC (c_X8_checkRange l a0 (0 : Int32) (13 : Int32)   M) ks_X8_checkRange wd_3_79 hI dX8_size_4 rfl rfl rfl (Nat.le_of_ble_eq_true rfl) ⟨Nat.le_of_ble_eq_true rfl, Nat.le_of_ble_eq_true rfl⟩ ⟨Nat.zero_le _, Nat.zero_le _⟩ (fun _ => rfl) rfl (fun r1 M1 _ => ?_)
  refine hz_iload_n (a := 1) (n := 8) hC dX8_size_7 rfl rfl rfl ?_
  refine hz_case (fun hk11 => ?_) (fun hk11 => ?_)
  · refine hz_tabIn (n := 36) hC hk11 dX8_size_8 (by decide +kernel) (by decide +kernel) (by rfl) (by decide +kernel) ?_
    refine hz_aload_n (a := 0) (n := 37) hC dX8_size_36 rfl rfl rfl ?_
    refine fg_X8_22 (n := 40) hC hI dX8_size_37 rfl ?_
    refine fg_X8_83 (n := 43) hC hI dX8_size_40 rfl ?_
    exact hz_iret hC hr dX8_size_43
  refine hz_case (fun hk12 => ?_) (fun hk12 => ?_)
  · refine hz_tabIn (n := 44) hC hk12 dX8_size_8 (by decide +kernel) (by decide +kernel) (by rfl) (by decide +kernel) ?_
    refine hz_aload_n (a := 0) (n := 45) hC dX8_size_44 rfl rfl rfl ?_
    refine fg_X8_47 (n := 48) hC hI dX8_size_45 rfl ?_
    exact hz_iret hC hr dX8_size_48
  refine hz_case (fun hk13 => ?_) (fun hk13 => ?_)
  · refine hz_tabIn (n := 49) hC hk13 dX8_size_8 (by decide +kernel) (by decide +kernel) (by rfl) (by decide +kernel) ?_
    refine hz_aload_n (a := 0) (n := 50) hC dX8_size_49 rfl rfl rfl ?_
    refine fg_X8_53 (n := 53) hC hI dX8_size_50 rfl ?_
    exact hz_none hC
  refine hz_tabOut (n := 57) hC (hp_out 3 (by decide) (fun k hk => by
    rcases (show k = 0 ∨ k = 1 ∨ k = 2 by omega) with rfl | rfl | rfl
    · exact fun e => hk11 (Int32.toInt_inj.mp (e.trans (by decide +kernel)))
    · exact fun e => hk12 (Int32.toInt_inj.mp (e.trans (by decide +kernel)))
    · exact fun e => hk13 (Int32.toInt_inj.mp (e.trans (by decide +kernel)))
    )) dX8_size_8 (by decide +kernel) ?_
  refine hz_aload_n (a := 0) (n := 58) hC dX8_size_57 rfl rfl rfl ?_
  refine fg_X8_10 (n := 61) hC hI dX8_size_58 rfl ?_
  refine hz_iload_n (a := 1) (n := 62) hC dX8_size_61 rfl rfl rfl ?_
  refine hz_callVN (k := 1) (As := [.int a0]) (st := []) (S1 := fun r => .int r :: []) (n := 65) hC (c_X2_houseNumber l 0 a0 (by decide)  M1) kv_X2_houseNumber wd_3_162 hI dX8_size_62 rfl (hI.1 0 0 (by decide) (by decide)) (he_X2 (by decide)) rfl rfl rfl (Nat.le_of_ble_eq_true rfl) ⟨Nat.le_of_ble_eq_true rfl, Nat.le_of_ble_eq_true rfl⟩ ⟨Nat.zero_le _, Nat.zero_le _⟩ (fun _ => rfl) rfl (fun r2 M2 _ => ?_)
  exact hz_iret hC hr dX8_size_65
def F_X8_setting (a0 : Int32) (M : hp_M) : Option (Int32 × hp_M) := (hp_b (F_X8_checkRange a0 (0 : Int32) (5 : Int32) M) (fun _ M1 => (hp_b (F_X2_settingNumber 0 a0 M1) (fun r2 M2 => (some (r2, M2))))))
set_option maxRecDepth 20000 in
set_option maxHeartbeats 4000000 in
theorem c_X8_setting (l : Launch) (a0 : Int32)  (M : hp_M) : hp_Ct l yX8_setting cX8_setting 2 (some .int) 1 hp_IC (fun adr adV => [.ref (adr 12 0), .int a0]) hp_oi M (F_X8_setting a0 M) := by
  refine hp_start "HallPhone" (fun adr adV => [(0, .ref (adr 12 0)), (1, .int a0)]) (by decide) rfl (fun _ _ => by simp only [lg_sl]; exact Nat.le_of_ble_eq_true rfl) (fun _ _ => rfl) ?_
  intro p e s m args below meth c A D ids adr adV cA rep G0 hI hC hr
  unfold F_X8_setting
  refine hz_iload_n (a := 1) (n := 1) hC dX8_setting_0 rfl rfl rfl ?_
  refine hz_iconst (v := (0 : Int32)) (n := 2) hC dX8_setting_1 (by decide +kernel) rfl ?_
  refine hz_iconst (v := (5 : Int32)) (n := 3) hC dX8_setting_2 (by decide +kernel) rfl ?_
  refine hz_callS (k := 3) (As := [.int a0, .int (0 : Int32), .int (5 : Int32)]) (st := []) (S1 := fun _ => []) (n := 6) hC (c_X8_checkRange l a0 (0 : Int32) (5 : Int32)   M) ks_X8_checkRange wd_3_79 hI dX8_setting_3 rfl rfl rfl (Nat.le_of_ble_eq_true rfl) ⟨Nat.le_of_ble_eq_true rfl, Nat.le_of_ble_eq_true rfl⟩ ⟨Nat.zero_le _, Nat.zero_le _⟩ (fun _ => rfl) rfl (fun r1 M1 _ => ?_)
  refine hz_aload_n (a := 0) (n := 7) hC dX8_setting_6 rfl rfl rfl ?_
  refine fg_X8_10 (n := 10) hC hI dX8_setting_7 rfl ?_
  refine hz_iload_n (a := 1) (n := 11) hC dX8_setting_10 rfl rfl rfl ?_
  refine hz_callVN (k := 1) (As := [.int a0]) (st := []) (S1 := fun r => .int r :: []) (n := 14) hC (c_X2_settingNumber l 0 a0 (by decide)  M1) kv_X2_settingNumber wd_3_180 hI dX8_setting_11 rfl (hI.1 0 0 (by decide) (by decide)) (he_X2 (by decide)) rfl rfl rfl (Nat.le_of_ble_eq_true rfl) ⟨Nat.le_of_ble_eq_true rfl, Nat.le_of_ble_eq_true rfl⟩ ⟨Nat.zero_le _, Nat.zero_le _⟩ (fun _ => rfl) rfl (fun r2 M2 _ => ?_)
  exact hz_iret hC hr dX8_setting_14
def F_X8_checkFlat (a0 : Int32) (M : hp_M) : Option (Unit × hp_M) := (if a0 < 0 then none else (if a0 < (M 0 0 0) then (some ((), M)) else none))
set_option maxRecDepth 20000 in
set_option maxHeartbeats 4000000 in
theorem c_X8_checkFlat (l : Launch) (a0 : Int32)  (M : hp_M) : hp_Ct l yX8_checkFlat cX8_checkFlat 2 none 0 hp_IC (fun adr adV => [.ref (adr 12 0), .int a0]) hp_oo M (F_X8_checkFlat a0 M) := by
  refine hp_start "HallPhone" (fun adr adV => [(0, .ref (adr 12 0)), (1, .int a0)]) (by decide) rfl (fun _ _ => by simp only [lg_sl]; exact Nat.le_of_ble_eq_true rfl) (fun _ _ => rfl) ?_
  intro p e s m args below meth c A D ids adr adV cA rep G0 hI hC hr
  unfold F_X8_checkFlat
  refine hz_iload_n (a := 1) (n := 1) hC dX8_checkFlat_0 rfl rfl rfl ?_
  refine hz_if_lt (tgt := 15) (n := 4) hC dX8_checkFlat_1 (by decide) rfl (fun _ => ?_) (fun _ => ?_)
  · exact hz_none hC
  · refine hz_iload_n (a := 1) (n := 5) hC dX8_checkFlat_4 rfl rfl rfl ?_
    refine hz_aload_n (a := 0) (n := 6) hC dX8_checkFlat_5 rfl rfl rfl ?_
    refine fg_X8_10 (n := 9) hC hI dX8_checkFlat_6 rfl ?_
    refine fg_X8_141 (n := 12) hC (by decide) hI dX8_checkFlat_9 rfl ?_
    refine hz_icmp_lt (tgt := 26) (n := 15) hC dX8_checkFlat_12 (by decide) rfl (fun _ => ?_) (fun _ => ?_)
    · exact hz_vret hC hr dX8_checkFlat_26
    · exact hz_none hC
def F_X8_flat (a0 : Int32) (a1 : Int32) (M : hp_M) : Option (Int32 × hp_M) := (hp_b (F_X8_checkFlat a0 M) (fun _ M1 => (hp_b (F_X8_checkRange a1 (0 : Int32) (10 : Int32) M1) (fun _ M2 => (hp_b (F_X2_flatNumber 0 a0 a1 M2) (fun r3 M3 => (some (r3, M3))))))))
set_option maxRecDepth 20000 in
set_option maxHeartbeats 4000000 in
theorem c_X8_flat (l : Launch) (a0 : Int32) (a1 : Int32)  (M : hp_M) : hp_Ct l yX8_flat cX8_flat 3 (some .int) 3 hp_IC (fun adr adV => [.ref (adr 12 0), .int a0, .int a1]) hp_oi M (F_X8_flat a0 a1 M) := by
  refine hp_start "HallPhone" (fun adr adV => [(0, .ref (adr 12 0)), (1, .int a0), (2, .int a1)]) (by decide) rfl (fun _ _ => by simp only [lg_sl]; exact Nat.le_of_ble_eq_true rfl) (fun _ _ => rfl) ?_
  intro p e s m args below meth c A D ids adr adV cA rep G0 hI hC hr
  unfold F_X8_flat
  refine hz_aload_n (a := 0) (n := 1) hC dX8_flat_0 rfl rfl rfl ?_
  refine hz_iload_n (a := 1) (n := 2) hC dX8_flat_1 rfl rfl rfl ?_
  refine hz_callV (k := 1) (As := [.int a0]) (st := []) (S1 := fun _ => []) (n := 5) hC (c_X8_checkFlat l a0   M) kv_X8_checkFlat wd_3_185 hI dX8_flat_2 rfl (hI.2 0 (by decide)) he_X8 rfl rfl rfl (Nat.le_of_ble_eq_true rfl) ⟨Nat.le_of_ble_eq_true rfl, Nat.le_of_ble_eq_true rfl⟩ ⟨Nat.zero_le _, Nat.zero_le _⟩ (fun _ => rfl) rfl (fun r1 M1 _ => ?_)
  refine hz_iload_n (a := 2) (n := 6) hC dX8_flat_5 rfl rfl rfl ?_
  refine hz_iconst (v := (0 : Int32)) (n := 7) hC dX8_flat_6 (by decide +kernel) rfl ?_
  refine hz_bipush (v := (10 : Int32)) (n := 9) hC dX8_flat_7 (by decide +kernel) rfl ?_
  refine hz_callS (k := 3) (As := [.int a1, .int (0 : Int32), .int (10 : Int32)]) (st := []) (S1 := fun _ => []) (n := 12) hC (c_X8_checkRange l a1 (0 : Int32) (10 : Int32)   M1) ks_X8_checkRange wd_3_79 hI dX8_flat_9 rfl rfl rfl (Nat.le_of_ble_eq_true rfl) ⟨Nat.le_of_ble_eq_true rfl, Nat.le_of_ble_eq_true rfl⟩ ⟨Nat.zero_le _, Nat.zero_le _⟩ (fun _ => rfl) rfl (fun r2 M2 _ => ?_)
  refine hz_aload_n (a := 0) (n := 13) hC dX8_flat_12 rfl rfl rfl ?_
  refine fg_X8_10 (n := 16) hC hI dX8_flat_13 rfl ?_
  refine hz_iload_n (a := 1) (n := 17) hC dX8_flat_16 rfl rfl rfl ?_
  refine hz_iload_n (a := 2) (n := 18) hC dX8_flat_17 rfl rfl rfl ?_
  refine hz_callVN (k := 2) (As := [.int a0, .int a1]) (st := []) (S1 := fun r => .int r :: []) (n := 21) hC (c_X2_flatNumber l 0 a0 a1 (by decide)  M2) kv_X2_flatNumber wd_3_205 hI dX8_flat_18 rfl (hI.1 0 0 (by decide) (by decide)) (he_X2 (by decide)) rfl rfl rfl (Nat.le_of_ble_eq_true rfl) ⟨Nat.le_of_ble_eq_true rfl, Nat.le_of_ble_eq_true rfl⟩ ⟨Nat.zero_le _, Nat.zero_le _⟩ (fun _ => rfl) rfl (fun r3 M3 _ => ?_)
  exact hz_iret hC hr dX8_flat_21
def F_X8_queued (a0 : Int32) (M : hp_M) : Option (Int32 × hp_M) := (hp_b (F_X4_at 0 a0 M) (fun r1 M1 => (some (r1, M1))))
set_option maxRecDepth 20000 in
set_option maxHeartbeats 4000000 in
theorem c_X8_queued (l : Launch) (a0 : Int32)  (M : hp_M) : hp_Ct l yX8_queued cX8_queued 2 (some .int) 1 hp_IC (fun adr adV => [.ref (adr 12 0), .int a0]) hp_oi M (F_X8_queued a0 M) := by
  refine hp_start "HallPhone" (fun adr adV => [(0, .ref (adr 12 0)), (1, .int a0)]) (by decide) rfl (fun _ _ => by simp only [lg_sl]; exact Nat.le_of_ble_eq_true rfl) (fun _ _ => rfl) ?_
  intro p e s m args below meth c A D ids adr adV cA rep G0 hI hC hr
  unfold F_X8_queued
  refine hz_aload_n (a := 0) (n := 1) hC dX8_queued_0 rfl rfl rfl ?_
  refine fg_X8_10 (n := 4) hC hI dX8_queued_1 rfl ?_
  refine fg_X8_103 (n := 7) hC (by decide) hI dX8_queued_4 rfl ?_
  refine hz_iload_n (a := 1) (n := 8) hC dX8_queued_7 rfl rfl rfl ?_
  refine hz_callVN (k := 1) (As := [.int a0]) (st := []) (S1 := fun r => .int r :: []) (n := 11) hC (c_X4_at l 0 a0 (by decide)  M) kv_X4_at wd_4_99 hI dX8_queued_8 rfl (hI.1 0 6 (by decide) (by decide)) (he_X4 (by decide)) rfl rfl rfl (Nat.le_of_ble_eq_true rfl) ⟨Nat.le_of_ble_eq_true rfl, Nat.le_of_ble_eq_true rfl⟩ ⟨Nat.zero_le _, Nat.zero_le _⟩ (fun _ => rfl) rfl (fun r1 M1 _ => ?_)
  exact hz_iret hC hr dX8_queued_11
def F_X8_message (a0 : Int32) (a1 : Int32) (M : hp_M) : Option (Int32 × hp_M) := (if a0 < 0 then none else (if a0 < (M 0 8 2) then (hp_b (F_X8_checkRange a1 (0 : Int32) (1 : Int32) M) (fun _ M1 => (if a1 = 0 then (hp_b (F_X6_flatAt 0 a0 M1) (fun r2 M2 => (some (r2, M2)))) else (hp_b (F_X6_minuteAt 0 a0 M1) (fun r3 M3 => (some (r3, M3))))))) else none))
set_option maxRecDepth 20000 in
set_option maxHeartbeats 4000000 in
theorem c_X8_message (l : Launch) (a0 : Int32) (a1 : Int32)  (M : hp_M) : hp_Ct l yX8_message cX8_message 3 (some .int) 1 hp_IC (fun adr adV => [.ref (adr 12 0), .int a0, .int a1]) hp_oi M (F_X8_message a0 a1 M) := by
  refine hp_start "HallPhone" (fun adr adV => [(0, .ref (adr 12 0)), (1, .int a0), (2, .int a1)]) (by decide) rfl (fun _ _ => by simp only [lg_sl]; exact Nat.le_of_ble_eq_true rfl) (fun _ _ => rfl) ?_
  intro p e s m args below meth c A D ids adr adV cA rep G0 hI hC hr
  unfold F_X8_message
  refine hz_iload_n (a := 1) (n := 1) hC dX8_message_0 rfl rfl rfl ?_
  refine hz_if_lt (tgt := 18) (n := 4) hC dX8_message_1 (by decide) rfl (fun _ => ?_) (fun _ => ?_)
  · exact hz_none hC
  · refine hz_iload_n (a := 1) (n := 5) hC dX8_message_4 rfl rfl rfl ?_
    refine hz_aload_n (a := 0) (n := 6) hC dX8_message_5 rfl rfl rfl ?_
    refine fg_X8_10 (n := 9) hC hI dX8_message_6 rfl ?_
    refine fg_X8_112 (n := 12) hC (by decide) hI dX8_message_9 rfl ?_
    refine fg_X8_116 (n := 15) hC (by decide) hI dX8_message_12 rfl ?_
    refine hz_icmp_lt (tgt := 28) (n := 18) hC dX8_message_15 (by decide) rfl (fun _ => ?_) (fun _ => ?_)
    · refine hz_iload_n (a := 2) (n := 29) hC dX8_message_28 rfl rfl rfl ?_
      refine hz_iconst (v := (0 : Int32)) (n := 30) hC dX8_message_29 (by decide +kernel) rfl ?_
      refine hz_iconst (v := (1 : Int32)) (n := 31) hC dX8_message_30 (by decide +kernel) rfl ?_
      refine hz_callS (k := 3) (As := [.int a1, .int (0 : Int32), .int (1 : Int32)]) (st := []) (S1 := fun _ => []) (n := 34) hC (c_X8_checkRange l a1 (0 : Int32) (1 : Int32)   M) ks_X8_checkRange wd_3_79 hI dX8_message_31 rfl rfl rfl (Nat.le_of_ble_eq_true rfl) ⟨Nat.le_of_ble_eq_true rfl, Nat.le_of_ble_eq_true rfl⟩ ⟨Nat.zero_le _, Nat.zero_le _⟩ (fun _ => rfl) rfl (fun r1 M1 _ => ?_)
      refine hz_iload_n (a := 2) (n := 35) hC dX8_message_34 rfl rfl rfl ?_
      refine hz_if_ne (tgt := 52) (n := 38) hC dX8_message_35 (by decide) rfl (fun _ => ?_) (fun _ => ?_)
      · refine hz_aload_n (a := 0) (n := 39) hC dX8_message_38 rfl rfl rfl ?_
        refine fg_X8_10 (n := 42) hC hI dX8_message_39 rfl ?_
        refine fg_X8_112 (n := 45) hC (by decide) hI dX8_message_42 rfl ?_
        refine hz_iload_n (a := 1) (n := 46) hC dX8_message_45 rfl rfl rfl ?_
        refine hz_callVN (k := 1) (As := [.int a0]) (st := []) (S1 := fun r => .int r :: []) (n := 49) hC (c_X6_flatAt l 0 a0 (by decide)  M1) kv_X6_flatAt wd_4_81 hI dX8_message_46 rfl (hI.1 0 8 (by decide) (by decide)) (he_X6 (by decide)) rfl rfl rfl (Nat.le_of_ble_eq_true rfl) ⟨Nat.le_of_ble_eq_true rfl, Nat.le_of_ble_eq_true rfl⟩ ⟨Nat.zero_le _, Nat.zero_le _⟩ (fun _ => rfl) rfl (fun r2 M2 _ => ?_)
        refine hz_goto (n := 63) hC dX8_message_49 (by decide) ?_
        exact hz_iret hC hr dX8_message_63
      · refine hz_aload_n (a := 0) (n := 53) hC dX8_message_52 rfl rfl rfl ?_
        refine fg_X8_10 (n := 56) hC hI dX8_message_53 rfl ?_
        refine fg_X8_112 (n := 59) hC (by decide) hI dX8_message_56 rfl ?_
        refine hz_iload_n (a := 1) (n := 60) hC dX8_message_59 rfl rfl rfl ?_
        refine hz_callVN (k := 1) (As := [.int a0]) (st := []) (S1 := fun r => .int r :: []) (n := 63) hC (c_X6_minuteAt l 0 a0 (by decide)  M1) kv_X6_minuteAt wd_4_82 hI dX8_message_60 rfl (hI.1 0 8 (by decide) (by decide)) (he_X6 (by decide)) rfl rfl rfl (Nat.le_of_ble_eq_true rfl) ⟨Nat.le_of_ble_eq_true rfl, Nat.le_of_ble_eq_true rfl⟩ ⟨Nat.zero_le _, Nat.zero_le _⟩ (fun _ => rfl) rfl (fun r3 M3 _ => ?_)
        exact hz_iret hC hr dX8_message_63
    · exact hz_none hC
def F_X8_heard (a0 : Int32) (a1 : Int32) (M : hp_M) : Option (Int32 × hp_M) := (hp_b (F_X8_checkFlat a0 M) (fun _ M1 => (hp_b (F_X8_checkFlat a1 M1) (fun _ M2 => (hp_b (F_X2_minutesHeard 0 a0 a1 M2) (fun r3 M3 => (some (r3, M3))))))))
set_option maxRecDepth 20000 in
set_option maxHeartbeats 4000000 in
theorem c_X8_heard (l : Launch) (a0 : Int32) (a1 : Int32)  (M : hp_M) : hp_Ct l yX8_heard cX8_heard 3 (some .int) 1 hp_IC (fun adr adV => [.ref (adr 12 0), .int a0, .int a1]) hp_oi M (F_X8_heard a0 a1 M) := by
  refine hp_start "HallPhone" (fun adr adV => [(0, .ref (adr 12 0)), (1, .int a0), (2, .int a1)]) (by decide) rfl (fun _ _ => by simp only [lg_sl]; exact Nat.le_of_ble_eq_true rfl) (fun _ _ => rfl) ?_
  intro p e s m args below meth c A D ids adr adV cA rep G0 hI hC hr
  unfold F_X8_heard
  refine hz_aload_n (a := 0) (n := 1) hC dX8_heard_0 rfl rfl rfl ?_
  refine hz_iload_n (a := 1) (n := 2) hC dX8_heard_1 rfl rfl rfl ?_
  refine hz_callV (k := 1) (As := [.int a0]) (st := []) (S1 := fun _ => []) (n := 5) hC (c_X8_checkFlat l a0   M) kv_X8_checkFlat wd_3_185 hI dX8_heard_2 rfl (hI.2 0 (by decide)) he_X8 rfl rfl rfl (Nat.le_of_ble_eq_true rfl) ⟨Nat.le_of_ble_eq_true rfl, Nat.le_of_ble_eq_true rfl⟩ ⟨Nat.zero_le _, Nat.zero_le _⟩ (fun _ => rfl) rfl (fun r1 M1 _ => ?_)
  refine hz_aload_n (a := 0) (n := 6) hC dX8_heard_5 rfl rfl rfl ?_
  refine hz_iload_n (a := 2) (n := 7) hC dX8_heard_6 rfl rfl rfl ?_
  refine hz_callV (k := 1) (As := [.int a1]) (st := []) (S1 := fun _ => []) (n := 10) hC (c_X8_checkFlat l a1   M1) kv_X8_checkFlat wd_3_185 hI dX8_heard_7 rfl (hI.2 0 (by decide)) he_X8 rfl rfl rfl (Nat.le_of_ble_eq_true rfl) ⟨Nat.le_of_ble_eq_true rfl, Nat.le_of_ble_eq_true rfl⟩ ⟨Nat.zero_le _, Nat.zero_le _⟩ (fun _ => rfl) rfl (fun r2 M2 _ => ?_)
  refine hz_aload_n (a := 0) (n := 11) hC dX8_heard_10 rfl rfl rfl ?_
  refine fg_X8_10 (n := 14) hC hI dX8_heard_11 rfl ?_
  refine hz_iload_n (a := 1) (n := 15) hC dX8_heard_14 rfl rfl rfl ?_
  refine hz_iload_n (a := 2) (n := 16) hC dX8_heard_15 rfl rfl rfl ?_
  refine hz_callVN (k := 2) (As := [.int a0, .int a1]) (st := []) (S1 := fun r => .int r :: []) (n := 19) hC (c_X2_minutesHeard l 0 a0 a1 (by decide)  M2) kv_X2_minutesHeard wd_4_77 hI dX8_heard_16 rfl (hI.1 0 0 (by decide) (by decide)) (he_X2 (by decide)) rfl rfl rfl (Nat.le_of_ble_eq_true rfl) ⟨Nat.le_of_ble_eq_true rfl, Nat.le_of_ble_eq_true rfl⟩ ⟨Nat.zero_le _, Nat.zero_le _⟩ (fun _ => rfl) rfl (fun r3 M3 _ => ?_)
  exact hz_iret hC hr dX8_heard_19
def F_X8_cost (a0 : Int32) (M : hp_M) : Option (Int32 × hp_M) := (hp_b (F_X8_checkRange a0 (1 : Int32) (99 : Int32) M) (fun _ M1 => (hp_b (F_X2_costOf 0 a0 M1) (fun r2 M2 => (some (r2, M2))))))
set_option maxRecDepth 20000 in
set_option maxHeartbeats 4000000 in
theorem c_X8_cost (l : Launch) (a0 : Int32)  (M : hp_M) : hp_Ct l yX8_cost cX8_cost 2 (some .int) 1 hp_IC (fun adr adV => [.ref (adr 12 0), .int a0]) hp_oi M (F_X8_cost a0 M) := by
  refine hp_start "HallPhone" (fun adr adV => [(0, .ref (adr 12 0)), (1, .int a0)]) (by decide) rfl (fun _ _ => by simp only [lg_sl]; exact Nat.le_of_ble_eq_true rfl) (fun _ _ => rfl) ?_
  intro p e s m args below meth c A D ids adr adV cA rep G0 hI hC hr
  unfold F_X8_cost
  refine hz_iload_n (a := 1) (n := 1) hC dX8_cost_0 rfl rfl rfl ?_
  refine hz_iconst (v := (1 : Int32)) (n := 2) hC dX8_cost_1 (by decide +kernel) rfl ?_
  refine hz_bipush (v := (99 : Int32)) (n := 4) hC dX8_cost_2 (by decide +kernel) rfl ?_
  refine hz_callS (k := 3) (As := [.int a0, .int (1 : Int32), .int (99 : Int32)]) (st := []) (S1 := fun _ => []) (n := 7) hC (c_X8_checkRange l a0 (1 : Int32) (99 : Int32)   M) ks_X8_checkRange wd_3_79 hI dX8_cost_4 rfl rfl rfl (Nat.le_of_ble_eq_true rfl) ⟨Nat.le_of_ble_eq_true rfl, Nat.le_of_ble_eq_true rfl⟩ ⟨Nat.zero_le _, Nat.zero_le _⟩ (fun _ => rfl) rfl (fun r1 M1 _ => ?_)
  refine hz_aload_n (a := 0) (n := 8) hC dX8_cost_7 rfl rfl rfl ?_
  refine fg_X8_10 (n := 11) hC hI dX8_cost_8 rfl ?_
  refine hz_iload_n (a := 1) (n := 12) hC dX8_cost_11 rfl rfl rfl ?_
  refine hz_callVN (k := 1) (As := [.int a0]) (st := []) (S1 := fun r => .int r :: []) (n := 15) hC (c_X2_costOf l 0 a0 (by decide)  M1) kv_X2_costOf wd_3_225 hI dX8_cost_12 rfl (hI.1 0 0 (by decide) (by decide)) (he_X2 (by decide)) rfl rfl rfl (Nat.le_of_ble_eq_true rfl) ⟨Nat.le_of_ble_eq_true rfl, Nat.le_of_ble_eq_true rfl⟩ ⟨Nat.zero_le _, Nat.zero_le _⟩ (fun _ => rfl) rfl (fun r2 M2 _ => ?_)
  exact hz_iret hC hr dX8_cost_15
def F_X8_ifRung (a0 : Int32) (M : hp_M) : Option (Int32 × hp_M) := (hp_b (F_X8_checkFlat a0 M) (fun _ M1 => (hp_b (F_X2_refusal 0 9 a0 (1 : Int32) M1) (fun r2 M2 => (if r2 = 0 then (hp_b (F_X2_outcomeOfRing 0 a0 M2) (fun r3 M3 => (some (r3, M3)))) else (some (r2, M2)))))))
set_option maxRecDepth 20000 in
set_option maxHeartbeats 4000000 in
theorem c_X8_ifRung (l : Launch) (a0 : Int32)  (M : hp_M) : hp_Ct l yX8_ifRung cX8_ifRung 3 (some .int) 2 hp_IC (fun adr adV => [.ref (adr 12 0), .int a0]) hp_oi M (F_X8_ifRung a0 M) := by
  refine hp_start "HallPhone" (fun adr adV => [(0, .ref (adr 12 0)), (1, .int a0)]) (by decide) rfl (fun _ _ => by simp only [lg_sl]; exact Nat.le_of_ble_eq_true rfl) (fun _ _ => rfl) ?_
  intro p e s m args below meth c A D ids adr adV cA rep G0 hI hC hr
  unfold F_X8_ifRung
  refine hz_aload_n (a := 0) (n := 1) hC dX8_ifRung_0 rfl rfl rfl ?_
  refine hz_iload_n (a := 1) (n := 2) hC dX8_ifRung_1 rfl rfl rfl ?_
  refine hz_callV (k := 1) (As := [.int a0]) (st := []) (S1 := fun _ => []) (n := 5) hC (c_X8_checkFlat l a0   M) kv_X8_checkFlat wd_3_185 hI dX8_ifRung_2 rfl (hI.2 0 (by decide)) he_X8 rfl rfl rfl (Nat.le_of_ble_eq_true rfl) ⟨Nat.le_of_ble_eq_true rfl, Nat.le_of_ble_eq_true rfl⟩ ⟨Nat.zero_le _, Nat.zero_le _⟩ (fun _ => rfl) rfl (fun r1 M1 _ => ?_)
  refine hz_aload_n (a := 0) (n := 6) hC dX8_ifRung_5 rfl rfl rfl ?_
  refine fg_X8_10 (n := 9) hC hI dX8_ifRung_6 rfl ?_
  refine hz_gets (k := 9) (n := 12) hC dX8_ifRung_9 wd_3_231 wd_1_18.1 (hp_st_vn 9 (by decide)) wd_3_230 rfl ?_
  refine hz_iload_n (a := 1) (n := 13) hC dX8_ifRung_12 rfl rfl rfl ?_
  refine hz_iconst (v := (1 : Int32)) (n := 14) hC dX8_ifRung_13 (by decide +kernel) rfl ?_
  refine hz_callVN (k := 3) (As := [.ref (adV 9), .int a0, .int (1 : Int32)]) (st := []) (S1 := fun r => .int r :: []) (n := 17) hC (c_X2_refusal l 0 9 a0 (1 : Int32) (by decide) (by decide)  M1) kv_X2_refusal wd_2_133 hI dX8_ifRung_14 rfl (hI.1 0 0 (by decide) (by decide)) (he_X2 (by decide)) rfl rfl rfl (Nat.le_of_ble_eq_true rfl) ⟨Nat.le_of_ble_eq_true rfl, Nat.le_of_ble_eq_true rfl⟩ ⟨Nat.zero_le _, Nat.zero_le _⟩ (fun _ => rfl) rfl (fun r2 M2 _ => ?_)
  refine hz_istore_n (L' := [(2, .int r2), (0, .ref (adr 12 0)), (1, .int a0)]) (n := 18) hC dX8_ifRung_17 rfl (by decide) rfl rfl ?_
  refine hz_iload_n (a := 0) (n := 19) hC dX8_ifRung_18 rfl rfl rfl ?_
  refine hz_if_eq (tgt := 26) (n := 22) hC dX8_ifRung_19 (by decide) rfl (fun _ => ?_) (fun _ => ?_)
  · refine hz_aload_n (a := 1) (n := 27) hC dX8_ifRung_26 rfl rfl rfl ?_
    refine fg_X8_10 (n := 30) hC hI dX8_ifRung_27 rfl ?_
    refine hz_iload_n (a := 2) (n := 31) hC dX8_ifRung_30 rfl rfl rfl ?_
    refine hz_callVN (k := 1) (As := [.int a0]) (st := []) (S1 := fun r => .int r :: []) (n := 34) hC (c_X2_outcomeOfRing l 0 a0 (by decide)  M2) kv_X2_outcomeOfRing wd_3_232 hI dX8_ifRung_31 rfl (hI.1 0 0 (by decide) (by decide)) (he_X2 (by decide)) rfl rfl rfl (Nat.le_of_ble_eq_true rfl) ⟨Nat.le_of_ble_eq_true rfl, Nat.le_of_ble_eq_true rfl⟩ ⟨Nat.zero_le _, Nat.zero_le _⟩ (fun _ => rfl) rfl (fun r3 M3 _ => ?_)
    exact hz_iret hC hr dX8_ifRung_34
  · refine hz_iload_n (a := 0) (n := 23) hC dX8_ifRung_22 rfl rfl rfl ?_
    refine hz_goto (n := 34) hC dX8_ifRung_23 (by decide) ?_
    exact hz_iret hC hr dX8_ifRung_34
def F_X8_account (a0 : Int32) (M : hp_M) : Option (Int32 × hp_M) := (hp_b (F_X8_checkRange a0 (0 : Int32) (10 : Int32) M) (fun _ M1 => (hp_b (F_X2_accountNumber 0 a0 M1) (fun r2 M2 => (some (r2, M2))))))
set_option maxRecDepth 20000 in
set_option maxHeartbeats 4000000 in
theorem c_X8_account (l : Launch) (a0 : Int32)  (M : hp_M) : hp_Ct l yX8_account cX8_account 2 (some .int) 3 hp_IC (fun adr adV => [.ref (adr 12 0), .int a0]) hp_oi M (F_X8_account a0 M) := by
  refine hp_start "HallPhone" (fun adr adV => [(0, .ref (adr 12 0)), (1, .int a0)]) (by decide) rfl (fun _ _ => by simp only [lg_sl]; exact Nat.le_of_ble_eq_true rfl) (fun _ _ => rfl) ?_
  intro p e s m args below meth c A D ids adr adV cA rep G0 hI hC hr
  unfold F_X8_account
  refine hz_iload_n (a := 1) (n := 1) hC dX8_account_0 rfl rfl rfl ?_
  refine hz_iconst (v := (0 : Int32)) (n := 2) hC dX8_account_1 (by decide +kernel) rfl ?_
  refine hz_bipush (v := (10 : Int32)) (n := 4) hC dX8_account_2 (by decide +kernel) rfl ?_
  refine hz_callS (k := 3) (As := [.int a0, .int (0 : Int32), .int (10 : Int32)]) (st := []) (S1 := fun _ => []) (n := 7) hC (c_X8_checkRange l a0 (0 : Int32) (10 : Int32)   M) ks_X8_checkRange wd_3_79 hI dX8_account_4 rfl rfl rfl (Nat.le_of_ble_eq_true rfl) ⟨Nat.le_of_ble_eq_true rfl, Nat.le_of_ble_eq_true rfl⟩ ⟨Nat.zero_le _, Nat.zero_le _⟩ (fun _ => rfl) rfl (fun r1 M1 _ => ?_)
  refine hz_aload_n (a := 0) (n := 8) hC dX8_account_7 rfl rfl rfl ?_
  refine fg_X8_10 (n := 11) hC hI dX8_account_8 rfl ?_
  refine hz_iload_n (a := 1) (n := 12) hC dX8_account_11 rfl rfl rfl ?_
  refine hz_callVN (k := 1) (As := [.int a0]) (st := []) (S1 := fun r => .int r :: []) (n := 15) hC (c_X2_accountNumber l 0 a0 (by decide)  M1) kv_X2_accountNumber wd_3_237 hI dX8_account_12 rfl (hI.1 0 0 (by decide) (by decide)) (he_X2 (by decide)) rfl rfl rfl (Nat.le_of_ble_eq_true rfl) ⟨Nat.le_of_ble_eq_true rfl, Nat.le_of_ble_eq_true rfl⟩ ⟨Nat.zero_le _, Nat.zero_le _⟩ (fun _ => rfl) rfl (fun r2 M2 _ => ?_)
  exact hz_iret hC hr dX8_account_15
def F_X8_changeOfFlat (v0 : Nat) (a1 : Int32) (a2 : Int32) (M : hp_M) : Option (Int32 × hp_M) := (hp_b (F_X8_checkFlat a1 M) (fun _ M1 => (hp_b (F_X8_checkRange a2 (hp_vlea.getD v0 0) (hp_vgre.getD v0 0) M1) (fun _ M2 => (hp_b (F_X2_refusal 0 v0 a1 a2 M2) (fun r3 M3 => (if r3 = 0 then (hp_b (F_X1_keep 0 M3) (fun _ M4 => (hp_b (F_X2_perform 0 v0 a1 a2 M4) (fun r5 M5 => (some (r5, M5)))))) else (some ((-r3), M3)))))))))
set_option maxRecDepth 20000 in
set_option maxHeartbeats 4000000 in
theorem c_X8_changeOfFlat (l : Launch) (v0 : Nat) (a1 : Int32) (a2 : Int32) (hv0 : v0 < 12) (M : hp_M) : hp_Ct l yX8_changeOfFlat cX8_changeOfFlat 5 (some .int) 5 hp_IC (fun adr adV => [.ref (adr 12 0), .ref (adV v0), .int a1, .int a2]) hp_oi M (F_X8_changeOfFlat v0 a1 a2 M) := by
  refine hp_start "HallPhone" (fun adr adV => [(0, .ref (adr 12 0)), (1, .ref (adV v0)), (2, .int a1), (3, .int a2)]) (by decide) rfl (fun _ _ => by simp only [lg_sl]; exact Nat.le_of_ble_eq_true rfl) (fun _ _ => rfl) ?_
  intro p e s m args below meth c A D ids adr adV cA rep G0 hI hC hr
  unfold F_X8_changeOfFlat
  refine hz_aload_n (a := 0) (n := 1) hC dX8_changeOfFlat_0 rfl rfl rfl ?_
  refine hz_iload_n (a := 2) (n := 2) hC dX8_changeOfFlat_1 rfl rfl rfl ?_
  refine hz_callV (k := 1) (As := [.int a1]) (st := []) (S1 := fun _ => []) (n := 5) hC (c_X8_checkFlat l a1   M) kv_X8_checkFlat wd_3_185 hI dX8_changeOfFlat_2 rfl (hI.2 0 (by decide)) he_X8 rfl rfl rfl (Nat.le_of_ble_eq_true rfl) ⟨Nat.le_of_ble_eq_true rfl, Nat.le_of_ble_eq_true rfl⟩ ⟨Nat.zero_le _, Nat.zero_le _⟩ (fun _ => rfl) rfl (fun r1 M1 _ => ?_)
  refine hz_iload_n (a := 3) (n := 6) hC dX8_changeOfFlat_5 rfl rfl rfl ?_
  refine hz_aload_n (a := 1) (n := 7) hC dX8_changeOfFlat_6 rfl rfl rfl ?_
  refine hz_vgetN (n := 10) hC dX8_changeOfFlat_7 (hp_vlea_OF hC.2.2.2.2.1 hv0) wd_4_154 rfl ?_
  refine hz_aload_n (a := 1) (n := 11) hC dX8_changeOfFlat_10 rfl rfl rfl ?_
  refine hz_vgetN (n := 14) hC dX8_changeOfFlat_11 (hp_vgre_OF hC.2.2.2.2.1 hv0) wd_4_155 rfl ?_
  refine hz_callS (k := 3) (As := [.int a2, .int (hp_vlea.getD v0 0), .int (hp_vgre.getD v0 0)]) (st := []) (S1 := fun _ => []) (n := 17) hC (c_X8_checkRange l a2 (hp_vlea.getD v0 0) (hp_vgre.getD v0 0)   M1) ks_X8_checkRange wd_3_79 hI dX8_changeOfFlat_14 rfl rfl rfl (Nat.le_of_ble_eq_true rfl) ⟨Nat.le_of_ble_eq_true rfl, Nat.le_of_ble_eq_true rfl⟩ ⟨Nat.zero_le _, Nat.zero_le _⟩ (fun _ => rfl) rfl (fun r2 M2 _ => ?_)
  refine hz_aload_n (a := 0) (n := 18) hC dX8_changeOfFlat_17 rfl rfl rfl ?_
  refine fg_X8_10 (n := 21) hC hI dX8_changeOfFlat_18 rfl ?_
  refine hz_aload_n (a := 1) (n := 22) hC dX8_changeOfFlat_21 rfl rfl rfl ?_
  refine hz_iload_n (a := 2) (n := 23) hC dX8_changeOfFlat_22 rfl rfl rfl ?_
  refine hz_iload_n (a := 3) (n := 24) hC dX8_changeOfFlat_23 rfl rfl rfl ?_
  refine hz_callVN (k := 3) (As := [.ref (adV v0), .int a1, .int a2]) (st := []) (S1 := fun r => .int r :: []) (n := 27) hC (c_X2_refusal l 0 v0 a1 a2 (by decide) hv0  M2) kv_X2_refusal wd_2_133 hI dX8_changeOfFlat_24 rfl (hI.1 0 0 (by decide) (by decide)) (he_X2 (by decide)) rfl rfl rfl (Nat.le_of_ble_eq_true rfl) ⟨Nat.le_of_ble_eq_true rfl, Nat.le_of_ble_eq_true rfl⟩ ⟨Nat.zero_le _, Nat.zero_le _⟩ (fun _ => rfl) rfl (fun r3 M3 _ => ?_)
  refine hz_istore (L' := [(4, .int r3), (0, .ref (adr 12 0)), (1, .ref (adV v0)), (2, .int a1), (3, .int a2)]) (n := 29) hC dX8_changeOfFlat_27 (by decide) rfl rfl ?_
  refine hz_iload (a := 0) (n := 31) hC dX8_changeOfFlat_29 rfl rfl ?_
  refine hz_if_eq (tgt := 38) (n := 34) hC dX8_changeOfFlat_31 (by decide) rfl (fun _ => ?_) (fun _ => ?_)
  · refine hz_aload_n (a := 1) (n := 39) hC dX8_changeOfFlat_38 rfl rfl rfl ?_
    refine fg_X8_22 (n := 42) hC hI dX8_changeOfFlat_39 rfl ?_
    refine hz_aload_n (a := 1) (n := 43) hC dX8_changeOfFlat_42 rfl rfl rfl ?_
    refine fg_X8_10 (n := 46) hC hI dX8_changeOfFlat_43 rfl ?_
    refine hz_callVN (k := 1) (As := [.ref (adr 0 0)]) (st := []) (S1 := fun _ => []) (n := 49) hC (c_X1_keep l 0 (by decide)  M3) kv_X1_keep wd_4_11 hI dX8_changeOfFlat_46 rfl (hI.2 4 (by decide)) he_X1 rfl rfl rfl (Nat.le_of_ble_eq_true rfl) ⟨Nat.le_of_ble_eq_true rfl, Nat.le_of_ble_eq_true rfl⟩ ⟨Nat.zero_le _, Nat.zero_le _⟩ (fun _ => rfl) rfl (fun r4 M4 _ => ?_)
    refine hz_aload_n (a := 1) (n := 50) hC dX8_changeOfFlat_49 rfl rfl rfl ?_
    refine fg_X8_10 (n := 53) hC hI dX8_changeOfFlat_50 rfl ?_
    refine hz_aload_n (a := 2) (n := 54) hC dX8_changeOfFlat_53 rfl rfl rfl ?_
    refine hz_iload_n (a := 3) (n := 55) hC dX8_changeOfFlat_54 rfl rfl rfl ?_
    refine hz_iload_n (a := 4) (n := 56) hC dX8_changeOfFlat_55 rfl rfl rfl ?_
    refine hz_callVN (k := 3) (As := [.ref (adV v0), .int a1, .int a2]) (st := []) (S1 := fun r => .int r :: []) (n := 59) hC (c_X2_perform l 0 v0 a1 a2 (by decide) hv0  M4) kv_X2_perform wd_2_153 hI dX8_changeOfFlat_56 rfl (hI.1 0 0 (by decide) (by decide)) (he_X2 (by decide)) rfl rfl rfl (Nat.le_of_ble_eq_true rfl) ⟨Nat.le_of_ble_eq_true rfl, Nat.le_of_ble_eq_true rfl⟩ ⟨Nat.zero_le _, Nat.zero_le _⟩ (fun _ => rfl) rfl (fun r5 M5 _ => ?_)
    exact hz_iret hC hr dX8_changeOfFlat_59
  · refine hz_iload (a := 0) (n := 36) hC dX8_changeOfFlat_34 rfl rfl ?_
    refine hz_ineg (n := 37) hC dX8_changeOfFlat_36 rfl ?_
    exact hz_iret hC hr dX8_changeOfFlat_37
def F_X8_want (a0 : Int32) (a1 : Int32) (M : hp_M) : Option (Int32 × hp_M) := (hp_b (F_X8_changeOfFlat 6 a0 a1 M) (fun r1 M1 => (some (r1, M1))))
set_option maxRecDepth 20000 in
set_option maxHeartbeats 4000000 in
theorem c_X8_want (l : Launch) (a0 : Int32) (a1 : Int32)  (M : hp_M) : hp_Ct l yX8_want cX8_want 3 (some .int) 6 hp_IC (fun adr adV => [.ref (adr 12 0), .int a0, .int a1]) hp_oi M (F_X8_want a0 a1 M) := by
  refine hp_start "HallPhone" (fun adr adV => [(0, .ref (adr 12 0)), (1, .int a0), (2, .int a1)]) (by decide) rfl (fun _ _ => by simp only [lg_sl]; exact Nat.le_of_ble_eq_true rfl) (fun _ _ => rfl) ?_
  intro p e s m args below meth c A D ids adr adV cA rep G0 hI hC hr
  unfold F_X8_want
  refine hz_aload_n (a := 0) (n := 1) hC dX8_want_0 rfl rfl rfl ?_
  refine hz_gets (k := 6) (n := 4) hC dX8_want_1 wd_4_6 wd_1_18.1 (hp_st_vn 6 (by decide)) wd_4_5 rfl ?_
  refine hz_iload_n (a := 1) (n := 5) hC dX8_want_4 rfl rfl rfl ?_
  refine hz_iload_n (a := 2) (n := 6) hC dX8_want_5 rfl rfl rfl ?_
  refine hz_callV (k := 3) (As := [.ref (adV 6), .int a0, .int a1]) (st := []) (S1 := fun r => .int r :: []) (n := 9) hC (c_X8_changeOfFlat l 6 a0 a1 (by decide)  M) kv_X8_changeOfFlat wd_4_7 hI dX8_want_6 rfl (hI.2 0 (by decide)) he_X8 rfl rfl rfl (Nat.le_of_ble_eq_true rfl) ⟨Nat.le_of_ble_eq_true rfl, Nat.le_of_ble_eq_true rfl⟩ ⟨Nat.zero_le _, Nat.zero_le _⟩ (fun _ => rfl) rfl (fun r1 M1 _ => ?_)
  exact hz_iret hC hr dX8_want_9
def F_X8_drop (a0 : Int32) (M : hp_M) : Option (Int32 × hp_M) := (hp_b (F_X8_changeOfFlat 7 a0 (0 : Int32) M) (fun r1 M1 => (some (r1, M1))))
set_option maxRecDepth 20000 in
set_option maxHeartbeats 4000000 in
theorem c_X8_drop (l : Launch) (a0 : Int32)  (M : hp_M) : hp_Ct l yX8_drop cX8_drop 2 (some .int) 6 hp_IC (fun adr adV => [.ref (adr 12 0), .int a0]) hp_oi M (F_X8_drop a0 M) := by
  refine hp_start "HallPhone" (fun adr adV => [(0, .ref (adr 12 0)), (1, .int a0)]) (by decide) rfl (fun _ _ => by simp only [lg_sl]; exact Nat.le_of_ble_eq_true rfl) (fun _ _ => rfl) ?_
  intro p e s m args below meth c A D ids adr adV cA rep G0 hI hC hr
  unfold F_X8_drop
  refine hz_aload_n (a := 0) (n := 1) hC dX8_drop_0 rfl rfl rfl ?_
  refine hz_gets (k := 7) (n := 4) hC dX8_drop_1 wd_4_22 wd_1_18.1 (hp_st_vn 7 (by decide)) wd_4_21 rfl ?_
  refine hz_iload_n (a := 1) (n := 5) hC dX8_drop_4 rfl rfl rfl ?_
  refine hz_iconst (v := (0 : Int32)) (n := 6) hC dX8_drop_5 (by decide +kernel) rfl ?_
  refine hz_callV (k := 3) (As := [.ref (adV 7), .int a0, .int (0 : Int32)]) (st := []) (S1 := fun r => .int r :: []) (n := 9) hC (c_X8_changeOfFlat l 7 a0 (0 : Int32) (by decide)  M) kv_X8_changeOfFlat wd_4_7 hI dX8_drop_6 rfl (hI.2 0 (by decide)) he_X8 rfl rfl rfl (Nat.le_of_ble_eq_true rfl) ⟨Nat.le_of_ble_eq_true rfl, Nat.le_of_ble_eq_true rfl⟩ ⟨Nat.zero_le _, Nat.zero_le _⟩ (fun _ => rfl) rfl (fun r1 M1 _ => ?_)
  exact hz_iret hC hr dX8_drop_9
def F_X8_hang (a0 : Int32) (M : hp_M) : Option (Int32 × hp_M) := (hp_b (F_X8_changeOfFlat 8 a0 (0 : Int32) M) (fun r1 M1 => (some (r1, M1))))
set_option maxRecDepth 20000 in
set_option maxHeartbeats 4000000 in
theorem c_X8_hang (l : Launch) (a0 : Int32)  (M : hp_M) : hp_Ct l yX8_hang cX8_hang 2 (some .int) 6 hp_IC (fun adr adV => [.ref (adr 12 0), .int a0]) hp_oi M (F_X8_hang a0 M) := by
  refine hp_start "HallPhone" (fun adr adV => [(0, .ref (adr 12 0)), (1, .int a0)]) (by decide) rfl (fun _ _ => by simp only [lg_sl]; exact Nat.le_of_ble_eq_true rfl) (fun _ _ => rfl) ?_
  intro p e s m args below meth c A D ids adr adV cA rep G0 hI hC hr
  unfold F_X8_hang
  refine hz_aload_n (a := 0) (n := 1) hC dX8_hang_0 rfl rfl rfl ?_
  refine hz_gets (k := 8) (n := 4) hC dX8_hang_1 wd_4_28 wd_1_18.1 (hp_st_vn 8 (by decide)) wd_4_27 rfl ?_
  refine hz_iload_n (a := 1) (n := 5) hC dX8_hang_4 rfl rfl rfl ?_
  refine hz_iconst (v := (0 : Int32)) (n := 6) hC dX8_hang_5 (by decide +kernel) rfl ?_
  refine hz_callV (k := 3) (As := [.ref (adV 8), .int a0, .int (0 : Int32)]) (st := []) (S1 := fun r => .int r :: []) (n := 9) hC (c_X8_changeOfFlat l 8 a0 (0 : Int32) (by decide)  M) kv_X8_changeOfFlat wd_4_7 hI dX8_hang_6 rfl (hI.2 0 (by decide)) he_X8 rfl rfl rfl (Nat.le_of_ble_eq_true rfl) ⟨Nat.le_of_ble_eq_true rfl, Nat.le_of_ble_eq_true rfl⟩ ⟨Nat.zero_le _, Nat.zero_le _⟩ (fun _ => rfl) rfl (fun r1 M1 _ => ?_)
  exact hz_iret hC hr dX8_hang_9
def F_X8_ring (a0 : Int32) (a1 : Int32) (M : hp_M) : Option (Int32 × hp_M) := (hp_b (F_X8_changeOfFlat 9 a0 a1 M) (fun r1 M1 => (some (r1, M1))))
set_option maxRecDepth 20000 in
set_option maxHeartbeats 4000000 in
theorem c_X8_ring (l : Launch) (a0 : Int32) (a1 : Int32)  (M : hp_M) : hp_Ct l yX8_ring cX8_ring 3 (some .int) 6 hp_IC (fun adr adV => [.ref (adr 12 0), .int a0, .int a1]) hp_oi M (F_X8_ring a0 a1 M) := by
  refine hp_start "HallPhone" (fun adr adV => [(0, .ref (adr 12 0)), (1, .int a0), (2, .int a1)]) (by decide) rfl (fun _ _ => by simp only [lg_sl]; exact Nat.le_of_ble_eq_true rfl) (fun _ _ => rfl) ?_
  intro p e s m args below meth c A D ids adr adV cA rep G0 hI hC hr
  unfold F_X8_ring
  refine hz_aload_n (a := 0) (n := 1) hC dX8_ring_0 rfl rfl rfl ?_
  refine hz_gets (k := 9) (n := 4) hC dX8_ring_1 wd_3_231 wd_1_18.1 (hp_st_vn 9 (by decide)) wd_3_230 rfl ?_
  refine hz_iload_n (a := 1) (n := 5) hC dX8_ring_4 rfl rfl rfl ?_
  refine hz_iload_n (a := 2) (n := 6) hC dX8_ring_5 rfl rfl rfl ?_
  refine hz_callV (k := 3) (As := [.ref (adV 9), .int a0, .int a1]) (st := []) (S1 := fun r => .int r :: []) (n := 9) hC (c_X8_changeOfFlat l 9 a0 a1 (by decide)  M) kv_X8_changeOfFlat wd_4_7 hI dX8_ring_6 rfl (hI.2 0 (by decide)) he_X8 rfl rfl rfl (Nat.le_of_ble_eq_true rfl) ⟨Nat.le_of_ble_eq_true rfl, Nat.le_of_ble_eq_true rfl⟩ ⟨Nat.zero_le _, Nat.zero_le _⟩ (fun _ => rfl) rfl (fun r1 M1 _ => ?_)
  exact hz_iret hC hr dX8_ring_9
def F_X8_pay (a0 : Int32) (a1 : Int32) (M : hp_M) : Option (Int32 × hp_M) := (hp_b (F_X8_changeOfFlat 10 a0 a1 M) (fun r1 M1 => (some (r1, M1))))
set_option maxRecDepth 20000 in
set_option maxHeartbeats 4000000 in
theorem c_X8_pay (l : Launch) (a0 : Int32) (a1 : Int32)  (M : hp_M) : hp_Ct l yX8_pay cX8_pay 3 (some .int) 6 hp_IC (fun adr adV => [.ref (adr 12 0), .int a0, .int a1]) hp_oi M (F_X8_pay a0 a1 M) := by
  refine hp_start "HallPhone" (fun adr adV => [(0, .ref (adr 12 0)), (1, .int a0), (2, .int a1)]) (by decide) rfl (fun _ _ => by simp only [lg_sl]; exact Nat.le_of_ble_eq_true rfl) (fun _ _ => rfl) ?_
  intro p e s m args below meth c A D ids adr adV cA rep G0 hI hC hr
  unfold F_X8_pay
  refine hz_aload_n (a := 0) (n := 1) hC dX8_pay_0 rfl rfl rfl ?_
  refine hz_gets (k := 10) (n := 4) hC dX8_pay_1 wd_4_38 wd_1_18.1 (hp_st_vn 10 (by decide)) wd_4_37 rfl ?_
  refine hz_iload_n (a := 1) (n := 5) hC dX8_pay_4 rfl rfl rfl ?_
  refine hz_iload_n (a := 2) (n := 6) hC dX8_pay_5 rfl rfl rfl ?_
  refine hz_callV (k := 3) (As := [.ref (adV 10), .int a0, .int a1]) (st := []) (S1 := fun r => .int r :: []) (n := 9) hC (c_X8_changeOfFlat l 10 a0 a1 (by decide)  M) kv_X8_changeOfFlat wd_4_7 hI dX8_pay_6 rfl (hI.2 0 (by decide)) he_X8 rfl rfl rfl (Nat.le_of_ble_eq_true rfl) ⟨Nat.le_of_ble_eq_true rfl, Nat.le_of_ble_eq_true rfl⟩ ⟨Nat.zero_le _, Nat.zero_le _⟩ (fun _ => rfl) rfl (fun r1 M1 _ => ?_)
  exact hz_iret hC hr dX8_pay_9
def A_X8_setCurious_23 (a0 : Int32) (a1 : Int32)  (z23_0 : Int32) (M : hp_M) : Option (Int32 × hp_M) := (hp_b (F_X1_keep 0 M) (fun _ M3 => (if a1 = 0 then (hp_b (F_X2_put 0 a0 (1 : Int32) (0 : Int32) M3) (fun _ M4 => (if z23_0 = 0 ∨ z23_0 = 1 then some (z23_0, M4) else none))) else (hp_b (F_X2_put 0 a0 (1 : Int32) (1 : Int32) M3) (fun _ M5 => (if z23_0 = 0 ∨ z23_0 = 1 then some (z23_0, M5) else none))))))
def F_X8_setCurious (a0 : Int32) (a1 : Int32) (M : hp_M) : Option (Int32 × hp_M) := (hp_b (F_X8_checkFlat a0 M) (fun _ M1 => (hp_b (F_X2_get 0 a0 (1 : Int32) M1) (fun r2 M2 => (if r2 = (1 : Int32) then (A_X8_setCurious_23 a0 a1 (1 : Int32) M2) else (A_X8_setCurious_23 a0 a1 (0 : Int32) M2))))))
set_option maxRecDepth 20000 in
set_option maxHeartbeats 4000000 in
theorem c_X8_setCurious (l : Launch) (a0 : Int32) (a1 : Int32)  (M : hp_M) : hp_Ct l yX8_setCurious cX8_setCurious 4 (some .boolean) 5 hp_IC (fun adr adV => [.ref (adr 12 0), .int a0, .int a1]) hp_oi M (F_X8_setCurious a0 a1 M) := by
  refine hp_start "HallPhone" (fun adr adV => [(0, .ref (adr 12 0)), (1, .int a0), (2, .int a1)]) (by decide) rfl (fun _ _ => by simp only [lg_sl]; exact Nat.le_of_ble_eq_true rfl) (fun _ _ => rfl) ?_
  intro p e s m args below meth c A D ids adr adV cA rep G0 hI hC hr
  unfold F_X8_setCurious
  have j23 : ∀ (z23_0 : Int32) (M : hp_M), hp_Z p l e (hp_rm 5) s m args below meth c 4 A D ids adr adV cA 0 0 (MQ below (hp_Q A D ids adr adV cA rep hp_oi G0) args s 0 0 A) G0 rep 23 [(0, .ref (adr 12 0)), (1, .int a0), (2, .int a1)] [.int z23_0] M (A_X8_setCurious_23 a0 a1 z23_0 M) := by
    intro z23_0 M
    unfold A_X8_setCurious_23
    refine hz_istore_n (L' := [(3, .int z23_0), (0, .ref (adr 12 0)), (1, .int a0), (2, .int a1)]) (n := 24) hC dX8_setCurious_23 rfl (by decide) rfl rfl ?_
    refine hz_aload_n (a := 1) (n := 25) hC dX8_setCurious_24 rfl rfl rfl ?_
    refine fg_X8_22 (n := 28) hC hI dX8_setCurious_25 rfl ?_
    refine hz_aload_n (a := 1) (n := 29) hC dX8_setCurious_28 rfl rfl rfl ?_
    refine fg_X8_10 (n := 32) hC hI dX8_setCurious_29 rfl ?_
    refine hz_callVN (k := 1) (As := [.ref (adr 0 0)]) (st := []) (S1 := fun _ => []) (n := 35) hC (c_X1_keep l 0 (by decide)  M) kv_X1_keep wd_4_11 hI dX8_setCurious_32 rfl (hI.2 4 (by decide)) he_X1 rfl rfl rfl (Nat.le_of_ble_eq_true rfl) ⟨Nat.le_of_ble_eq_true rfl, Nat.le_of_ble_eq_true rfl⟩ ⟨Nat.zero_le _, Nat.zero_le _⟩ (fun _ => rfl) rfl (fun r3 M3 _ => ?_)
    refine hz_aload_n (a := 1) (n := 36) hC dX8_setCurious_35 rfl rfl rfl ?_
    refine fg_X8_10 (n := 39) hC hI dX8_setCurious_36 rfl ?_
    refine hz_iload_n (a := 2) (n := 40) hC dX8_setCurious_39 rfl rfl rfl ?_
    refine hz_iconst (v := (1 : Int32)) (n := 41) hC dX8_setCurious_40 (by decide +kernel) rfl ?_
    refine hz_iload_n (a := 3) (n := 42) hC dX8_setCurious_41 rfl rfl rfl ?_
    refine hz_if_eq (tgt := 49) (n := 45) hC dX8_setCurious_42 (by decide) rfl (fun _ => ?_) (fun _ => ?_)
    · refine hz_iconst (v := (0 : Int32)) (n := 50) hC dX8_setCurious_49 (by decide +kernel) rfl ?_
      refine hz_callVN (k := 3) (As := [.int a0, .int (1 : Int32), .int (0 : Int32)]) (st := []) (S1 := fun _ => []) (n := 53) hC (c_X2_put l 0 a0 (1 : Int32) (0 : Int32) (by decide)  M3) kv_X2_put wd_4_44 hI dX8_setCurious_50 rfl (hI.1 0 0 (by decide) (by decide)) (he_X2 (by decide)) rfl rfl rfl (Nat.le_of_ble_eq_true rfl) ⟨Nat.le_of_ble_eq_true rfl, Nat.le_of_ble_eq_true rfl⟩ ⟨Nat.zero_le _, Nat.zero_le _⟩ (fun _ => rfl) rfl (fun r4 M4 _ => ?_)
      refine hz_iload_n (a := 0) (n := 54) hC dX8_setCurious_53 rfl rfl rfl ?_
      exact hz_bret hC hr dX8_setCurious_54
    · refine hz_iconst (v := (1 : Int32)) (n := 46) hC dX8_setCurious_45 (by decide +kernel) rfl ?_
      refine hz_goto (n := 50) hC dX8_setCurious_46 (by decide) ?_
      refine hz_callVN (k := 3) (As := [.int a0, .int (1 : Int32), .int (1 : Int32)]) (st := []) (S1 := fun _ => []) (n := 53) hC (c_X2_put l 0 a0 (1 : Int32) (1 : Int32) (by decide)  M3) kv_X2_put wd_4_44 hI dX8_setCurious_50 rfl (hI.1 0 0 (by decide) (by decide)) (he_X2 (by decide)) rfl rfl rfl (Nat.le_of_ble_eq_true rfl) ⟨Nat.le_of_ble_eq_true rfl, Nat.le_of_ble_eq_true rfl⟩ ⟨Nat.zero_le _, Nat.zero_le _⟩ (fun _ => rfl) rfl (fun r5 M5 _ => ?_)
      refine hz_iload_n (a := 0) (n := 54) hC dX8_setCurious_53 rfl rfl rfl ?_
      exact hz_bret hC hr dX8_setCurious_54
  refine hz_aload_n (a := 0) (n := 1) hC dX8_setCurious_0 rfl rfl rfl ?_
  refine hz_iload_n (a := 1) (n := 2) hC dX8_setCurious_1 rfl rfl rfl ?_
  refine hz_callV (k := 1) (As := [.int a0]) (st := []) (S1 := fun _ => []) (n := 5) hC (c_X8_checkFlat l a0   M) kv_X8_checkFlat wd_3_185 hI dX8_setCurious_2 rfl (hI.2 0 (by decide)) he_X8 rfl rfl rfl (Nat.le_of_ble_eq_true rfl) ⟨Nat.le_of_ble_eq_true rfl, Nat.le_of_ble_eq_true rfl⟩ ⟨Nat.zero_le _, Nat.zero_le _⟩ (fun _ => rfl) rfl (fun r1 M1 _ => ?_)
  refine hz_aload_n (a := 0) (n := 6) hC dX8_setCurious_5 rfl rfl rfl ?_
  refine fg_X8_10 (n := 9) hC hI dX8_setCurious_6 rfl ?_
  refine hz_iload_n (a := 1) (n := 10) hC dX8_setCurious_9 rfl rfl rfl ?_
  refine hz_iconst (v := (1 : Int32)) (n := 11) hC dX8_setCurious_10 (by decide +kernel) rfl ?_
  refine hz_callVN (k := 2) (As := [.int a0, .int (1 : Int32)]) (st := []) (S1 := fun r => .int r :: []) (n := 14) hC (c_X2_get l 0 a0 (1 : Int32) (by decide)  M1) kv_X2_get wd_4_43 hI dX8_setCurious_11 rfl (hI.1 0 0 (by decide) (by decide)) (he_X2 (by decide)) rfl rfl rfl (Nat.le_of_ble_eq_true rfl) ⟨Nat.le_of_ble_eq_true rfl, Nat.le_of_ble_eq_true rfl⟩ ⟨Nat.zero_le _, Nat.zero_le _⟩ (fun _ => rfl) rfl (fun r2 M2 _ => ?_)
  refine hz_iconst (v := (1 : Int32)) (n := 15) hC dX8_setCurious_14 (by decide +kernel) rfl ?_
  refine hz_icmp_ne (tgt := 22) (n := 18) hC dX8_setCurious_15 (by decide) rfl (fun _ => ?_) (fun _ => ?_)
  · refine hz_iconst (v := (1 : Int32)) (n := 19) hC dX8_setCurious_18 (by decide +kernel) rfl ?_
    refine hz_goto (n := 23) hC dX8_setCurious_19 (by decide) ?_
    exact j23 _ _
  · refine hz_iconst (v := (0 : Int32)) (n := 23) hC dX8_setCurious_22 (by decide +kernel) rfl ?_
    exact j23 _ _
def F_X8_set (a0 : Int32) (a1 : Int32) (M : hp_M) : Option (Int32 × hp_M) := (hp_b (F_X7_ofSetting a0 M) (fun r1 M1 => (if r1 < 0 then none else (if (r1).toNatClampNeg < 12 then (hp_b (F_X8_checkRange a1 (hp_vlea.getD ((r1).toNatClampNeg) 0) (hp_vgre.getD ((r1).toNatClampNeg) 0) M1) (fun _ M3 => (hp_b (F_X1_keep 0 M3) (fun _ M4 => (hp_b (F_X2_perform 0 ((r1).toNatClampNeg) (-1 : Int32) a1 M4) (fun r5 M5 => (some (r5, M5)))))))) else none))))
set_option maxRecDepth 20000 in
set_option maxHeartbeats 4000000 in
theorem c_X8_set (l : Launch) (a0 : Int32) (a1 : Int32)  (M : hp_M) : hp_Ct l yX8_set cX8_set 4 (some .int) 5 hp_IC (fun adr adV => [.ref (adr 12 0), .int a0, .int a1]) hp_oi M (F_X8_set a0 a1 M) := by
  refine hp_start "HallPhone" (fun adr adV => [(0, .ref (adr 12 0)), (1, .int a0), (2, .int a1)]) (by decide) rfl (fun _ _ => by simp only [lg_sl]; exact Nat.le_of_ble_eq_true rfl) (fun _ _ => rfl) ?_
  intro p e s m args below meth c A D ids adr adV cA rep G0 hI hC hr
  unfold F_X8_set
  refine hz_iload_n (a := 1) (n := 1) hC dX8_set_0 rfl rfl rfl ?_
  refine hz_callSN (k := 1) (As := [.int a0]) (st := []) (S1 := fun r => hp_vr adV r :: []) (n := 4) hC (c_X7_ofSetting l a0   M) ks_X7_ofSetting wd_4_49 trivial dX8_set_1 rfl rfl rfl (Nat.le_of_ble_eq_true rfl) ⟨Nat.le_of_ble_eq_true rfl, Nat.le_of_ble_eq_true rfl⟩ ⟨Nat.zero_le _, Nat.zero_le _⟩ (fun _ => rfl) rfl (fun r1 M1 _ => ?_)
  refine hz_vstore_n (L' := [(3, hp_vr adV r1), (0, .ref (adr 12 0)), (1, .int a0), (2, .int a1)]) (n := 5) hC dX8_set_4 rfl (by decide) rfl rfl ?_
  refine hz_vload_n (a := 0) (n := 6) hC dX8_set_5 rfl rfl rfl ?_
  refine hz_ifnonnullV (tgt := 19) (n := 9) hC dX8_set_6 (by decide) rfl (fun _ => ?_) (fun hp2 => ?_)
  · exact hz_none hC
  · refine hz_case (fun he2 => ?_) (fun _ => hz_none hC)
    rw [hp_vr_pos (adV := adV) hp2]
    refine hz_iload_n (a := 3) (n := 20) hC dX8_set_19 rfl rfl rfl ?_
    refine hz_aload_n (a := 0) (n := 21) hC dX8_set_20 rfl rfl rfl ?_
    refine hz_vgetN (n := 24) hC dX8_set_21 (hp_vlea_OF hC.2.2.2.2.1 he2) wd_4_154 rfl ?_
    refine hz_aload_n (a := 0) (n := 25) hC dX8_set_24 rfl rfl rfl ?_
    refine hz_vgetN (n := 28) hC dX8_set_25 (hp_vgre_OF hC.2.2.2.2.1 he2) wd_4_155 rfl ?_
    refine hz_callS (k := 3) (As := [.int a1, .int (hp_vlea.getD ((r1).toNatClampNeg) 0), .int (hp_vgre.getD ((r1).toNatClampNeg) 0)]) (st := []) (S1 := fun _ => []) (n := 31) hC (c_X8_checkRange l a1 (hp_vlea.getD ((r1).toNatClampNeg) 0) (hp_vgre.getD ((r1).toNatClampNeg) 0)   M1) ks_X8_checkRange wd_3_79 hI dX8_set_28 rfl rfl rfl (Nat.le_of_ble_eq_true rfl) ⟨Nat.le_of_ble_eq_true rfl, Nat.le_of_ble_eq_true rfl⟩ ⟨Nat.zero_le _, Nat.zero_le _⟩ (fun _ => rfl) rfl (fun r3 M3 _ => ?_)
    refine hz_aload_n (a := 1) (n := 32) hC dX8_set_31 rfl rfl rfl ?_
    refine fg_X8_22 (n := 35) hC hI dX8_set_32 rfl ?_
    refine hz_aload_n (a := 1) (n := 36) hC dX8_set_35 rfl rfl rfl ?_
    refine fg_X8_10 (n := 39) hC hI dX8_set_36 rfl ?_
    refine hz_callVN (k := 1) (As := [.ref (adr 0 0)]) (st := []) (S1 := fun _ => []) (n := 42) hC (c_X1_keep l 0 (by decide)  M3) kv_X1_keep wd_4_11 hI dX8_set_39 rfl (hI.2 4 (by decide)) he_X1 rfl rfl rfl (Nat.le_of_ble_eq_true rfl) ⟨Nat.le_of_ble_eq_true rfl, Nat.le_of_ble_eq_true rfl⟩ ⟨Nat.zero_le _, Nat.zero_le _⟩ (fun _ => rfl) rfl (fun r4 M4 _ => ?_)
    refine hz_aload_n (a := 1) (n := 43) hC dX8_set_42 rfl rfl rfl ?_
    refine fg_X8_10 (n := 46) hC hI dX8_set_43 rfl ?_
    refine hz_aload_n (a := 0) (n := 47) hC dX8_set_46 rfl rfl rfl ?_
    refine hz_iconst (v := (-1 : Int32)) (n := 48) hC dX8_set_47 (by decide +kernel) rfl ?_
    refine hz_iload_n (a := 3) (n := 49) hC dX8_set_48 rfl rfl rfl ?_
    refine hz_callVN (k := 3) (As := [.ref (adV ((r1).toNatClampNeg)), .int (-1 : Int32), .int a1]) (st := []) (S1 := fun r => .int r :: []) (n := 52) hC (c_X2_perform l 0 ((r1).toNatClampNeg) (-1 : Int32) a1 (by decide) he2  M4) kv_X2_perform wd_2_153 hI dX8_set_49 rfl (hI.1 0 0 (by decide) (by decide)) (he_X2 (by decide)) rfl rfl rfl (Nat.le_of_ble_eq_true rfl) ⟨Nat.le_of_ble_eq_true rfl, Nat.le_of_ble_eq_true rfl⟩ ⟨Nat.zero_le _, Nat.zero_le _⟩ (fun _ => rfl) rfl (fun r5 M5 _ => ?_)
    exact hz_iret hC hr dX8_set_52
def F_X8_pass (a0 : Int32) (M : hp_M) : Option (Int32 × hp_M) := (hp_b (F_X8_checkRange a0 (hp_vlea.getD 11 0) (hp_vgre.getD 11 0) M) (fun _ M1 => (hp_b (F_X1_keep 0 M1) (fun _ M2 => (hp_b (F_X2_perform 0 11 (-1 : Int32) a0 M2) (fun r3 M3 => (some (r3, M3))))))))
set_option maxRecDepth 20000 in
set_option maxHeartbeats 4000000 in
theorem c_X8_pass (l : Launch) (a0 : Int32)  (M : hp_M) : hp_Ct l yX8_pass cX8_pass 2 (some .int) 5 hp_IC (fun adr adV => [.ref (adr 12 0), .int a0]) hp_oi M (F_X8_pass a0 M) := by
  refine hp_start "HallPhone" (fun adr adV => [(0, .ref (adr 12 0)), (1, .int a0)]) (by decide) rfl (fun _ _ => by simp only [lg_sl]; exact Nat.le_of_ble_eq_true rfl) (fun _ _ => rfl) ?_
  intro p e s m args below meth c A D ids adr adV cA rep G0 hI hC hr
  unfold F_X8_pass
  refine hz_iload_n (a := 1) (n := 1) hC dX8_pass_0 rfl rfl rfl ?_
  refine hz_gets (k := 11) (n := 4) hC dX8_pass_1 wd_4_59 wd_1_18.1 (hp_st_vn 11 (by decide)) wd_4_58 rfl ?_
  refine hz_vgetN (n := 7) hC dX8_pass_4 (hp_vlea_OF hC.2.2.2.2.1 (by decide)) wd_4_154 rfl ?_
  refine hz_gets (k := 11) (n := 10) hC dX8_pass_7 wd_4_59 wd_1_18.1 (hp_st_vn 11 (by decide)) wd_4_58 rfl ?_
  refine hz_vgetN (n := 13) hC dX8_pass_10 (hp_vgre_OF hC.2.2.2.2.1 (by decide)) wd_4_155 rfl ?_
  refine hz_callS (k := 3) (As := [.int a0, .int (hp_vlea.getD 11 0), .int (hp_vgre.getD 11 0)]) (st := []) (S1 := fun _ => []) (n := 16) hC (c_X8_checkRange l a0 (hp_vlea.getD 11 0) (hp_vgre.getD 11 0)   M) ks_X8_checkRange wd_3_79 hI dX8_pass_13 rfl rfl rfl (Nat.le_of_ble_eq_true rfl) ⟨Nat.le_of_ble_eq_true rfl, Nat.le_of_ble_eq_true rfl⟩ ⟨Nat.zero_le _, Nat.zero_le _⟩ (fun _ => rfl) rfl (fun r1 M1 _ => ?_)
  refine hz_aload_n (a := 0) (n := 17) hC dX8_pass_16 rfl rfl rfl ?_
  refine fg_X8_22 (n := 20) hC hI dX8_pass_17 rfl ?_
  refine hz_aload_n (a := 0) (n := 21) hC dX8_pass_20 rfl rfl rfl ?_
  refine fg_X8_10 (n := 24) hC hI dX8_pass_21 rfl ?_
  refine hz_callVN (k := 1) (As := [.ref (adr 0 0)]) (st := []) (S1 := fun _ => []) (n := 27) hC (c_X1_keep l 0 (by decide)  M1) kv_X1_keep wd_4_11 hI dX8_pass_24 rfl (hI.2 4 (by decide)) he_X1 rfl rfl rfl (Nat.le_of_ble_eq_true rfl) ⟨Nat.le_of_ble_eq_true rfl, Nat.le_of_ble_eq_true rfl⟩ ⟨Nat.zero_le _, Nat.zero_le _⟩ (fun _ => rfl) rfl (fun r2 M2 _ => ?_)
  refine hz_aload_n (a := 0) (n := 28) hC dX8_pass_27 rfl rfl rfl ?_
  refine fg_X8_10 (n := 31) hC hI dX8_pass_28 rfl ?_
  refine hz_gets (k := 11) (n := 34) hC dX8_pass_31 wd_4_59 wd_1_18.1 (hp_st_vn 11 (by decide)) wd_4_58 rfl ?_
  refine hz_iconst (v := (-1 : Int32)) (n := 35) hC dX8_pass_34 (by decide +kernel) rfl ?_
  refine hz_iload_n (a := 1) (n := 36) hC dX8_pass_35 rfl rfl rfl ?_
  refine hz_callVN (k := 3) (As := [.ref (adV 11), .int (-1 : Int32), .int a0]) (st := []) (S1 := fun r => .int r :: []) (n := 39) hC (c_X2_perform l 0 11 (-1 : Int32) a0 (by decide) (by decide)  M2) kv_X2_perform wd_2_153 hI dX8_pass_36 rfl (hI.1 0 0 (by decide) (by decide)) (he_X2 (by decide)) rfl rfl rfl (Nat.le_of_ble_eq_true rfl) ⟨Nat.le_of_ble_eq_true rfl, Nat.le_of_ble_eq_true rfl⟩ ⟨Nat.zero_le _, Nat.zero_le _⟩ (fun _ => rfl) rfl (fun r3 M3 _ => ?_)
  exact hz_iret hC hr dX8_pass_39
def F_X8_undo  (M : hp_M) : Option (Int32 × hp_M) := (hp_b (F_X1_takeBack 0 M) (fun r1 M1 => (if r1 = 0 then (some ((-1 : Int32), M1)) else (some ((M1 12 4 2), M1)))))
set_option maxRecDepth 20000 in
set_option maxHeartbeats 4000000 in
theorem c_X8_undo (l : Launch)   (M : hp_M) : hp_Ct l yX8_undo cX8_undo 1 (some .int) 5 hp_IC (fun adr adV => [.ref (adr 12 0)]) hp_oi M (F_X8_undo  M) := by
  refine hp_start "HallPhone" (fun adr adV => [(0, .ref (adr 12 0))]) (by decide) rfl (fun _ _ => by simp only [lg_sl]; exact Nat.le_of_ble_eq_true rfl) (fun _ _ => rfl) ?_
  intro p e s m args below meth c A D ids adr adV cA rep G0 hI hC hr
  unfold F_X8_undo
  refine hz_aload_n (a := 0) (n := 1) hC dX8_undo_0 rfl rfl rfl ?_
  refine fg_X8_22 (n := 4) hC hI dX8_undo_1 rfl ?_
  refine hz_aload_n (a := 0) (n := 5) hC dX8_undo_4 rfl rfl rfl ?_
  refine fg_X8_10 (n := 8) hC hI dX8_undo_5 rfl ?_
  refine hz_callVN (k := 1) (As := [.ref (adr 0 0)]) (st := []) (S1 := fun r => .int r :: []) (n := 11) hC (c_X1_takeBack l 0 (by decide)  M) kv_X1_takeBack wd_4_64 hI dX8_undo_8 rfl (hI.2 4 (by decide)) he_X1 rfl rfl rfl (Nat.le_of_ble_eq_true rfl) ⟨Nat.le_of_ble_eq_true rfl, Nat.le_of_ble_eq_true rfl⟩ ⟨Nat.zero_le _, Nat.zero_le _⟩ (fun _ => rfl) rfl (fun r1 M1 _ => ?_)
  refine hz_if_eq (tgt := 24) (n := 14) hC dX8_undo_11 (by decide) rfl (fun _ => ?_) (fun _ => ?_)
  · refine hz_iconst (v := (-1 : Int32)) (n := 25) hC dX8_undo_24 (by decide +kernel) rfl ?_
    exact hz_iret hC hr dX8_undo_25
  · refine hz_aload_n (a := 0) (n := 15) hC dX8_undo_14 rfl rfl rfl ?_
    refine fg_X8_22 (n := 18) hC hI dX8_undo_15 rfl ?_
    refine fg_X8_83 (n := 21) hC hI dX8_undo_18 rfl ?_
    refine hz_goto (n := 25) hC dX8_undo_21 (by decide) ?_
    exact hz_iret hC hr dX8_undo_25
def L_X8_checksumWithFlat_42 (a0 : Int64) (a1 : Int32)   : Nat → Int64 → Int32 → hp_M → Option (Int64 × hp_M)
  | 0, _, _, _ => none
  | n42 + 1, x4, x6, M => (if (M 0 0 0) ≤ x6 then (some (x4, M)) else (hp_b (F_X2_minutesHeard 0 a1 x6 M) (fun r1 M1 => (L_X8_checksumWithFlat_42 a0 a1 n42 (((31 : Int64) * x4) + (r1).toInt64) (x6 + (1 : Int32)) M1))))
def L_X8_checksumWithFlat_6 (a0 : Int64) (a1 : Int32)   : Nat → Int64 → Int32 → hp_M → Option (Int64 × hp_M)
  | 0, _, _, _ => none
  | n6 + 1, x4, x6, M => (if (11 : Int32) ≤ x6 then (L_X8_checksumWithFlat_42 a0 a1 hp_fu x4 (0 : Int32) M) else (hp_b (F_X2_flatNumber 0 a1 x6 M) (fun r2 M2 => (L_X8_checksumWithFlat_6 a0 a1 n6 (((31 : Int64) * x4) + (r2).toInt64) (x6 + (1 : Int32)) M2))))
def F_X8_checksumWithFlat (a0 : Int64) (a1 : Int32) (M : hp_M) : Option (Int64 × hp_M) := (L_X8_checksumWithFlat_6 a0 a1 hp_fu a0 (0 : Int32) M)
set_option maxRecDepth 20000 in
set_option maxHeartbeats 4000000 in
theorem c_X8_checksumWithFlat (l : Launch) (a0 : Int64) (a1 : Int32)  (M : hp_M) : hp_Ct l yX8_checksumWithFlat cX8_checksumWithFlat 7 (some .long) 3 hp_IC (fun adr adV => [.ref (adr 12 0), .long a0, .int a1]) hp_ol M (F_X8_checksumWithFlat a0 a1 M) := by
  refine hp_start "HallPhone" (fun adr adV => [(0, .ref (adr 12 0)), (1, .long a0), (3, .int a1)]) (by decide) rfl (fun _ _ => by simp only [lg_sl]; exact Nat.le_of_ble_eq_true rfl) (fun _ _ => rfl) ?_
  intro p e s m args below meth c A D ids adr adV cA rep G0 hI hC hr
  unfold F_X8_checksumWithFlat
  have l42 : ∀  (n42 : Nat) (x4 : Int64) (x6 : Int32) (M : hp_M), hp_Z p l e (hp_rm 3) s m args below meth c 7 A D ids adr adV cA 0 0 (MQ below (hp_Q A D ids adr adV cA rep hp_ol G0) args s 0 0 A) G0 rep 42 [(0, .ref (adr 12 0)), (3, .int a1), (4, .long x4), (6, .int x6)] [] M (L_X8_checksumWithFlat_42 a0 a1 n42 x4 x6 M) := by
    intro  n42
    induction n42 with
    | zero => intro x4 x6 M; exact hz_none hC
    | succ n42 ih42 =>
      intro x4 x6 M
      rw [L_X8_checksumWithFlat_42.eq_2]
      refine hz_iload (a := 3) (n := 44) hC dX8_checksumWithFlat_42 rfl rfl ?_
      refine hz_aload_n (a := 0) (n := 45) hC dX8_checksumWithFlat_44 rfl rfl rfl ?_
      refine fg_X8_10 (n := 48) hC hI dX8_checksumWithFlat_45 rfl ?_
      refine fg_X8_141 (n := 51) hC (by decide) hI dX8_checksumWithFlat_48 rfl ?_
      refine hz_icmp_ge (tgt := 80) (n := 54) hC dX8_checksumWithFlat_51 (by decide) rfl (fun _ => ?_) (fun _ => ?_)
      · refine hz_lload (a := 2) (n := 82) hC dX8_checksumWithFlat_80 rfl rfl ?_
        exact hz_lret hC hr dX8_checksumWithFlat_82
      · refine hz_ldc2 (n := 57) hC dX8_checksumWithFlat_54 wd_4_72 rfl ?_
        refine hz_lload (a := 2) (n := 59) hC dX8_checksumWithFlat_57 rfl rfl ?_
        refine hz_lmul (n := 60) hC dX8_checksumWithFlat_59 rfl ?_
        refine hz_aload_n (a := 0) (n := 61) hC dX8_checksumWithFlat_60 rfl rfl rfl ?_
        refine fg_X8_10 (n := 64) hC hI dX8_checksumWithFlat_61 rfl ?_
        refine hz_iload_n (a := 1) (n := 65) hC dX8_checksumWithFlat_64 rfl rfl rfl ?_
        refine hz_iload (a := 3) (n := 67) hC dX8_checksumWithFlat_65 rfl rfl ?_
        refine hz_callVN (k := 2) (As := [.int a1, .int x6]) (st := [.long ((31 : Int64) * x4)]) (S1 := fun r => .int r :: [.long ((31 : Int64) * x4)]) (n := 70) hC (c_X2_minutesHeard l 0 a1 x6 (by decide)  M) kv_X2_minutesHeard wd_4_77 hI dX8_checksumWithFlat_67 rfl (hI.1 0 0 (by decide) (by decide)) (he_X2 (by decide)) rfl rfl rfl (Nat.le_of_ble_eq_true rfl) ⟨Nat.le_of_ble_eq_true rfl, Nat.le_of_ble_eq_true rfl⟩ ⟨Nat.zero_le _, Nat.zero_le _⟩ (fun _ => rfl) rfl (fun r1 M1 _ => ?_)
        refine hz_i2l (n := 71) hC dX8_checksumWithFlat_70 rfl ?_
        refine hz_ladd (n := 72) hC dX8_checksumWithFlat_71 rfl ?_
        refine hz_lstore (L' := [(4, .long (((31 : Int64) * x4) + (r1).toInt64)), (0, .ref (adr 12 0)), (3, .int a1), (6, .int x6)]) (n := 74) hC dX8_checksumWithFlat_72 (by decide) rfl rfl ?_
        refine hz_iinc (a := 3) (v := (x6 + (1 : Int32))) (L' := [(6, .int (x6 + (1 : Int32))), (4, .long (((31 : Int64) * x4) + (r1).toInt64)), (0, .ref (adr 12 0)), (3, .int a1)]) (n := 77) hC dX8_checksumWithFlat_74 rfl rfl (by decide) rfl rfl ?_
        refine hz_goto (n := 42) hC dX8_checksumWithFlat_77 (by decide) ?_
        refine hz_L (L' := [(0, .ref (adr 12 0)), (3, .int a1), (4, .long (((31 : Int64) * x4) + (r1).toInt64)), (6, .int (x6 + (1 : Int32)))]) [2, 3, 1, 0] rfl ?_
        exact ih42 _ _ _
  have l6 : ∀  (n6 : Nat) (x4 : Int64) (x6 : Int32) (M : hp_M), hp_Z p l e (hp_rm 3) s m args below meth c 7 A D ids adr adV cA 0 0 (MQ below (hp_Q A D ids adr adV cA rep hp_ol G0) args s 0 0 A) G0 rep 6 [(0, .ref (adr 12 0)), (3, .int a1), (4, .long x4), (6, .int x6)] [] M (L_X8_checksumWithFlat_6 a0 a1 n6 x4 x6 M) := by
    intro  n6
    induction n6 with
    | zero => intro x4 x6 M; exact hz_none hC
    | succ n6 ih6 =>
      intro x4 x6 M
      rw [L_X8_checksumWithFlat_6.eq_2]
      refine hz_iload (a := 3) (n := 8) hC dX8_checksumWithFlat_6 rfl rfl ?_
      refine hz_bipush (v := (11 : Int32)) (n := 10) hC dX8_checksumWithFlat_8 (by decide +kernel) rfl ?_
      refine hz_icmp_ge (tgt := 39) (n := 13) hC dX8_checksumWithFlat_10 (by decide) rfl (fun _ => ?_) (fun _ => ?_)
      · refine hz_iconst (v := (0 : Int32)) (n := 40) hC dX8_checksumWithFlat_39 (by decide +kernel) rfl ?_
        refine hz_istore (L' := [(6, .int (0 : Int32)), (0, .ref (adr 12 0)), (3, .int a1), (4, .long x4)]) (n := 42) hC dX8_checksumWithFlat_40 (by decide) rfl rfl ?_
        refine hz_L (L' := [(0, .ref (adr 12 0)), (3, .int a1), (4, .long x4), (6, .int (0 : Int32))]) [1, 2, 3, 0] rfl ?_
        exact l42 hp_fu _ _ _
      · refine hz_ldc2 (n := 16) hC dX8_checksumWithFlat_13 wd_4_72 rfl ?_
        refine hz_lload (a := 2) (n := 18) hC dX8_checksumWithFlat_16 rfl rfl ?_
        refine hz_lmul (n := 19) hC dX8_checksumWithFlat_18 rfl ?_
        refine hz_aload_n (a := 0) (n := 20) hC dX8_checksumWithFlat_19 rfl rfl rfl ?_
        refine fg_X8_10 (n := 23) hC hI dX8_checksumWithFlat_20 rfl ?_
        refine hz_iload_n (a := 1) (n := 24) hC dX8_checksumWithFlat_23 rfl rfl rfl ?_
        refine hz_iload (a := 3) (n := 26) hC dX8_checksumWithFlat_24 rfl rfl ?_
        refine hz_callVN (k := 2) (As := [.int a1, .int x6]) (st := [.long ((31 : Int64) * x4)]) (S1 := fun r => .int r :: [.long ((31 : Int64) * x4)]) (n := 29) hC (c_X2_flatNumber l 0 a1 x6 (by decide)  M) kv_X2_flatNumber wd_3_205 hI dX8_checksumWithFlat_26 rfl (hI.1 0 0 (by decide) (by decide)) (he_X2 (by decide)) rfl rfl rfl (Nat.le_of_ble_eq_true rfl) ⟨Nat.le_of_ble_eq_true rfl, Nat.le_of_ble_eq_true rfl⟩ ⟨Nat.zero_le _, Nat.zero_le _⟩ (fun _ => rfl) rfl (fun r2 M2 _ => ?_)
        refine hz_i2l (n := 30) hC dX8_checksumWithFlat_29 rfl ?_
        refine hz_ladd (n := 31) hC dX8_checksumWithFlat_30 rfl ?_
        refine hz_lstore (L' := [(4, .long (((31 : Int64) * x4) + (r2).toInt64)), (0, .ref (adr 12 0)), (3, .int a1), (6, .int x6)]) (n := 33) hC dX8_checksumWithFlat_31 (by decide) rfl rfl ?_
        refine hz_iinc (a := 3) (v := (x6 + (1 : Int32))) (L' := [(6, .int (x6 + (1 : Int32))), (4, .long (((31 : Int64) * x4) + (r2).toInt64)), (0, .ref (adr 12 0)), (3, .int a1)]) (n := 36) hC dX8_checksumWithFlat_33 rfl rfl (by decide) rfl rfl ?_
        refine hz_goto (n := 6) hC dX8_checksumWithFlat_36 (by decide) ?_
        refine hz_L (L' := [(0, .ref (adr 12 0)), (3, .int a1), (4, .long (((31 : Int64) * x4) + (r2).toInt64)), (6, .int (x6 + (1 : Int32)))]) [2, 3, 1, 0] rfl ?_
        exact ih6 _ _ _
  refine hz_lload_n (a := 1) (n := 1) hC dX8_checksumWithFlat_0 rfl rfl rfl ?_
  refine hz_lstore (L' := [(4, .long a0), (0, .ref (adr 12 0)), (1, .long a0), (3, .int a1)]) (n := 3) hC dX8_checksumWithFlat_1 (by decide) rfl rfl ?_
  refine hz_iconst (v := (0 : Int32)) (n := 4) hC dX8_checksumWithFlat_3 (by decide +kernel) rfl ?_
  refine hz_istore (L' := [(6, .int (0 : Int32)), (4, .long a0), (0, .ref (adr 12 0)), (1, .long a0), (3, .int a1)]) (n := 6) hC dX8_checksumWithFlat_4 (by decide) rfl rfl ?_
  refine hz_L (L' := [(0, .ref (adr 12 0)), (3, .int a1), (4, .long a0), (6, .int (0 : Int32))]) [2, 4, 1, 0] rfl ?_
  exact l6 hp_fu _ _ _
def L_X8_checksum_150    : Nat → Int64 → Int32 → hp_M → Option (Int64 × hp_M)
  | 0, _, _, _ => none
  | n150 + 1, x1, x3, M => (if (10 : Int32) ≤ x3 then (some (x1, M)) else (hp_b (F_X2_accountNumber 0 x3 M) (fun r1 M1 => (L_X8_checksum_150  n150 (((31 : Int64) * x1) + (r1).toInt64) (x3 + (1 : Int32)) M1))))
def L_X8_checksum_90    : Nat → Int64 → Int32 → hp_M → Option (Int64 × hp_M)
  | 0, _, _, _ => none
  | n90 + 1, x1, x3, M => (if (M 0 8 2) ≤ x3 then (L_X8_checksum_150 hp_fu x1 (0 : Int32) M) else (hp_b (F_X6_flatAt 0 x3 M) (fun r2 M2 => (hp_b (F_X6_minuteAt 0 x3 M2) (fun r3 M3 => (L_X8_checksum_90  n90 (((31 : Int64) * (((31 : Int64) * x1) + (r2).toInt64)) + (r3).toInt64) (x3 + (1 : Int32)) M3))))))
def L_X8_checksum_64    : Nat → Int64 → Int32 → hp_M → Option (Int64 × hp_M)
  | 0, _, _, _ => none
  | n64 + 1, x1, x3, M => (if (M 0 0 0) ≤ x3 then (L_X8_checksum_90 hp_fu x1 (0 : Int32) M) else (hp_b (F_X8_checksumWithFlat x1 x3 M) (fun r4 M4 => (L_X8_checksum_64  n64 r4 (x3 + (1 : Int32)) M4))))
def L_X8_checksum_34    : Nat → Int64 → Int32 → hp_M → Option (Int64 × hp_M)
  | 0, _, _, _ => none
  | n34 + 1, x1, x3, M => (if (6 : Int32) ≤ x3 then (L_X8_checksum_64 hp_fu x1 (0 : Int32) M) else (hp_b (F_X2_settingNumber 0 x3 M) (fun r5 M5 => (L_X8_checksum_34  n34 (((31 : Int64) * x1) + (r5).toInt64) (x3 + (1 : Int32)) M5))))
def L_X8_checksum_4    : Nat → Int64 → Int32 → hp_M → Option (Int64 × hp_M)
  | 0, _, _, _ => none
  | n4 + 1, x1, x3, M => (if (10 : Int32) < x3 then (L_X8_checksum_34 hp_fu x1 (0 : Int32) M) else (hp_b (F_X2_houseNumber 0 x3 M) (fun r6 M6 => (L_X8_checksum_4  n4 (((31 : Int64) * x1) + (r6).toInt64) (x3 + (1 : Int32)) M6))))
def F_X8_checksum  (M : hp_M) : Option (Int64 × hp_M) := (L_X8_checksum_4 hp_fu (0 : Int64) (0 : Int32) M)
set_option maxRecDepth 20000 in
set_option maxHeartbeats 4000000 in
theorem c_X8_checksum (l : Launch)   (M : hp_M) : hp_Ct l yX8_checksum cX8_checksum 4 (some .long) 4 hp_IC (fun adr adV => [.ref (adr 12 0)]) hp_ol M (F_X8_checksum  M) := by
  refine hp_start "HallPhone" (fun adr adV => [(0, .ref (adr 12 0))]) (by decide) rfl (fun _ _ => by simp only [lg_sl]; exact Nat.le_of_ble_eq_true rfl) (fun _ _ => rfl) ?_
  intro p e s m args below meth c A D ids adr adV cA rep G0 hI hC hr
  unfold F_X8_checksum
  have l150 : ∀  (n150 : Nat) (x1 : Int64) (x3 : Int32) (M : hp_M), hp_Z p l e (hp_rm 4) s m args below meth c 4 A D ids adr adV cA 0 0 (MQ below (hp_Q A D ids adr adV cA rep hp_ol G0) args s 0 0 A) G0 rep 150 [(0, .ref (adr 12 0)), (1, .long x1), (3, .int x3)] [] M (L_X8_checksum_150  n150 x1 x3 M) := by
    intro  n150
    induction n150 with
    | zero => intro x1 x3 M; exact hz_none hC
    | succ n150 ih150 =>
      intro x1 x3 M
      rw [L_X8_checksum_150.eq_2]
      refine hz_iload_n (a := 2) (n := 151) hC dX8_checksum_150 rfl rfl rfl ?_
      refine hz_bipush (v := (10 : Int32)) (n := 153) hC dX8_checksum_151 (by decide +kernel) rfl ?_
      refine hz_icmp_ge (tgt := 178) (n := 156) hC dX8_checksum_153 (by decide) rfl (fun _ => ?_) (fun _ => ?_)
      · refine hz_lload_n (a := 1) (n := 179) hC dX8_checksum_178 rfl rfl rfl ?_
        exact hz_lret hC hr dX8_checksum_179
      · refine hz_ldc2 (n := 159) hC dX8_checksum_156 wd_4_72 rfl ?_
        refine hz_lload_n (a := 1) (n := 160) hC dX8_checksum_159 rfl rfl rfl ?_
        refine hz_lmul (n := 161) hC dX8_checksum_160 rfl ?_
        refine hz_aload_n (a := 0) (n := 162) hC dX8_checksum_161 rfl rfl rfl ?_
        refine fg_X8_10 (n := 165) hC hI dX8_checksum_162 rfl ?_
        refine hz_iload_n (a := 2) (n := 166) hC dX8_checksum_165 rfl rfl rfl ?_
        refine hz_callVN (k := 1) (As := [.int x3]) (st := [.long ((31 : Int64) * x1)]) (S1 := fun r => .int r :: [.long ((31 : Int64) * x1)]) (n := 169) hC (c_X2_accountNumber l 0 x3 (by decide)  M) kv_X2_accountNumber wd_3_237 hI dX8_checksum_166 rfl (hI.1 0 0 (by decide) (by decide)) (he_X2 (by decide)) rfl rfl rfl (Nat.le_of_ble_eq_true rfl) ⟨Nat.le_of_ble_eq_true rfl, Nat.le_of_ble_eq_true rfl⟩ ⟨Nat.zero_le _, Nat.zero_le _⟩ (fun _ => rfl) rfl (fun r1 M1 _ => ?_)
        refine hz_i2l (n := 170) hC dX8_checksum_169 rfl ?_
        refine hz_ladd (n := 171) hC dX8_checksum_170 rfl ?_
        refine hz_lstore_n (L' := [(1, .long (((31 : Int64) * x1) + (r1).toInt64)), (0, .ref (adr 12 0)), (3, .int x3)]) (n := 172) hC dX8_checksum_171 rfl (by decide) rfl rfl ?_
        refine hz_iinc (a := 2) (v := (x3 + (1 : Int32))) (L' := [(3, .int (x3 + (1 : Int32))), (1, .long (((31 : Int64) * x1) + (r1).toInt64)), (0, .ref (adr 12 0))]) (n := 175) hC dX8_checksum_172 rfl rfl (by decide) rfl rfl ?_
        refine hz_goto (n := 150) hC dX8_checksum_175 (by decide) ?_
        refine hz_L (L' := [(0, .ref (adr 12 0)), (1, .long (((31 : Int64) * x1) + (r1).toInt64)), (3, .int (x3 + (1 : Int32)))]) [2, 1, 0] rfl ?_
        exact ih150 _ _ _
  have l90 : ∀  (n90 : Nat) (x1 : Int64) (x3 : Int32) (M : hp_M), hp_Z p l e (hp_rm 4) s m args below meth c 4 A D ids adr adV cA 0 0 (MQ below (hp_Q A D ids adr adV cA rep hp_ol G0) args s 0 0 A) G0 rep 90 [(0, .ref (adr 12 0)), (1, .long x1), (3, .int x3)] [] M (L_X8_checksum_90  n90 x1 x3 M) := by
    intro  n90
    induction n90 with
    | zero => intro x1 x3 M; exact hz_none hC
    | succ n90 ih90 =>
      intro x1 x3 M
      rw [L_X8_checksum_90.eq_2]
      refine hz_iload_n (a := 2) (n := 91) hC dX8_checksum_90 rfl rfl rfl ?_
      refine hz_aload_n (a := 0) (n := 92) hC dX8_checksum_91 rfl rfl rfl ?_
      refine fg_X8_10 (n := 95) hC hI dX8_checksum_92 rfl ?_
      refine fg_X8_112 (n := 98) hC (by decide) hI dX8_checksum_95 rfl ?_
      refine fg_X8_116 (n := 101) hC (by decide) hI dX8_checksum_98 rfl ?_
      refine hz_icmp_ge (tgt := 148) (n := 104) hC dX8_checksum_101 (by decide) rfl (fun _ => ?_) (fun _ => ?_)
      · refine hz_iconst (v := (0 : Int32)) (n := 149) hC dX8_checksum_148 (by decide +kernel) rfl ?_
        refine hz_istore_n (L' := [(3, .int (0 : Int32)), (0, .ref (adr 12 0)), (1, .long x1)]) (n := 150) hC dX8_checksum_149 rfl (by decide) rfl rfl ?_
        refine hz_L (L' := [(0, .ref (adr 12 0)), (1, .long x1), (3, .int (0 : Int32))]) [1, 2, 0] rfl ?_
        exact l150 hp_fu _ _ _
      · refine hz_ldc2 (n := 107) hC dX8_checksum_104 wd_4_72 rfl ?_
        refine hz_lload_n (a := 1) (n := 108) hC dX8_checksum_107 rfl rfl rfl ?_
        refine hz_lmul (n := 109) hC dX8_checksum_108 rfl ?_
        refine hz_aload_n (a := 0) (n := 110) hC dX8_checksum_109 rfl rfl rfl ?_
        refine fg_X8_10 (n := 113) hC hI dX8_checksum_110 rfl ?_
        refine fg_X8_112 (n := 116) hC (by decide) hI dX8_checksum_113 rfl ?_
        refine hz_iload_n (a := 2) (n := 117) hC dX8_checksum_116 rfl rfl rfl ?_
        refine hz_callVN (k := 1) (As := [.int x3]) (st := [.long ((31 : Int64) * x1)]) (S1 := fun r => .int r :: [.long ((31 : Int64) * x1)]) (n := 120) hC (c_X6_flatAt l 0 x3 (by decide)  M) kv_X6_flatAt wd_4_81 hI dX8_checksum_117 rfl (hI.1 0 8 (by decide) (by decide)) (he_X6 (by decide)) rfl rfl rfl (Nat.le_of_ble_eq_true rfl) ⟨Nat.le_of_ble_eq_true rfl, Nat.le_of_ble_eq_true rfl⟩ ⟨Nat.zero_le _, Nat.zero_le _⟩ (fun _ => rfl) rfl (fun r2 M2 _ => ?_)
        refine hz_i2l (n := 121) hC dX8_checksum_120 rfl ?_
        refine hz_ladd (n := 122) hC dX8_checksum_121 rfl ?_
        refine hz_lstore_n (L' := [(1, .long (((31 : Int64) * x1) + (r2).toInt64)), (0, .ref (adr 12 0)), (3, .int x3)]) (n := 123) hC dX8_checksum_122 rfl (by decide) rfl rfl ?_
        refine hz_ldc2 (n := 126) hC dX8_checksum_123 wd_4_72 rfl ?_
        refine hz_lload_n (a := 0) (n := 127) hC dX8_checksum_126 rfl rfl rfl ?_
        refine hz_lmul (n := 128) hC dX8_checksum_127 rfl ?_
        refine hz_aload_n (a := 1) (n := 129) hC dX8_checksum_128 rfl rfl rfl ?_
        refine fg_X8_10 (n := 132) hC hI dX8_checksum_129 rfl ?_
        refine fg_X8_112 (n := 135) hC (by decide) hI dX8_checksum_132 rfl ?_
        refine hz_iload_n (a := 2) (n := 136) hC dX8_checksum_135 rfl rfl rfl ?_
        refine hz_callVN (k := 1) (As := [.int x3]) (st := [.long ((31 : Int64) * (((31 : Int64) * x1) + (r2).toInt64))]) (S1 := fun r => .int r :: [.long ((31 : Int64) * (((31 : Int64) * x1) + (r2).toInt64))]) (n := 139) hC (c_X6_minuteAt l 0 x3 (by decide)  M2) kv_X6_minuteAt wd_4_82 hI dX8_checksum_136 rfl (hI.1 0 8 (by decide) (by decide)) (he_X6 (by decide)) rfl rfl rfl (Nat.le_of_ble_eq_true rfl) ⟨Nat.le_of_ble_eq_true rfl, Nat.le_of_ble_eq_true rfl⟩ ⟨Nat.zero_le _, Nat.zero_le _⟩ (fun _ => rfl) rfl (fun r3 M3 _ => ?_)
        refine hz_i2l (n := 140) hC dX8_checksum_139 rfl ?_
        refine hz_ladd (n := 141) hC dX8_checksum_140 rfl ?_
        refine hz_lstore_n (L' := [(1, .long (((31 : Int64) * (((31 : Int64) * x1) + (r2).toInt64)) + (r3).toInt64)), (0, .ref (adr 12 0)), (3, .int x3)]) (n := 142) hC dX8_checksum_141 rfl (by decide) rfl rfl ?_
        refine hz_iinc (a := 2) (v := (x3 + (1 : Int32))) (L' := [(3, .int (x3 + (1 : Int32))), (1, .long (((31 : Int64) * (((31 : Int64) * x1) + (r2).toInt64)) + (r3).toInt64)), (0, .ref (adr 12 0))]) (n := 145) hC dX8_checksum_142 rfl rfl (by decide) rfl rfl ?_
        refine hz_goto (n := 90) hC dX8_checksum_145 (by decide) ?_
        refine hz_L (L' := [(0, .ref (adr 12 0)), (1, .long (((31 : Int64) * (((31 : Int64) * x1) + (r2).toInt64)) + (r3).toInt64)), (3, .int (x3 + (1 : Int32)))]) [2, 1, 0] rfl ?_
        exact ih90 _ _ _
  have l64 : ∀  (n64 : Nat) (x1 : Int64) (x3 : Int32) (M : hp_M), hp_Z p l e (hp_rm 4) s m args below meth c 4 A D ids adr adV cA 0 0 (MQ below (hp_Q A D ids adr adV cA rep hp_ol G0) args s 0 0 A) G0 rep 64 [(0, .ref (adr 12 0)), (1, .long x1), (3, .int x3)] [] M (L_X8_checksum_64  n64 x1 x3 M) := by
    intro  n64
    induction n64 with
    | zero => intro x1 x3 M; exact hz_none hC
    | succ n64 ih64 =>
      intro x1 x3 M
      rw [L_X8_checksum_64.eq_2]
      refine hz_iload_n (a := 2) (n := 65) hC dX8_checksum_64 rfl rfl rfl ?_
      refine hz_aload_n (a := 0) (n := 66) hC dX8_checksum_65 rfl rfl rfl ?_
      refine fg_X8_10 (n := 69) hC hI dX8_checksum_66 rfl ?_
      refine fg_X8_141 (n := 72) hC (by decide) hI dX8_checksum_69 rfl ?_
      refine hz_icmp_ge (tgt := 88) (n := 75) hC dX8_checksum_72 (by decide) rfl (fun _ => ?_) (fun _ => ?_)
      · refine hz_iconst (v := (0 : Int32)) (n := 89) hC dX8_checksum_88 (by decide +kernel) rfl ?_
        refine hz_istore_n (L' := [(3, .int (0 : Int32)), (0, .ref (adr 12 0)), (1, .long x1)]) (n := 90) hC dX8_checksum_89 rfl (by decide) rfl rfl ?_
        refine hz_L (L' := [(0, .ref (adr 12 0)), (1, .long x1), (3, .int (0 : Int32))]) [1, 2, 0] rfl ?_
        exact l90 hp_fu _ _ _
      · refine hz_aload_n (a := 0) (n := 76) hC dX8_checksum_75 rfl rfl rfl ?_
        refine hz_lload_n (a := 1) (n := 77) hC dX8_checksum_76 rfl rfl rfl ?_
        refine hz_iload_n (a := 2) (n := 78) hC dX8_checksum_77 rfl rfl rfl ?_
        refine hz_callV (k := 2) (As := [.long x1, .int x3]) (st := []) (S1 := fun r => .long r :: []) (n := 81) hC (c_X8_checksumWithFlat l x1 x3   M) kv_X8_checksumWithFlat wd_4_73 hI dX8_checksum_78 rfl (hI.2 0 (by decide)) he_X8 rfl rfl rfl (Nat.le_of_ble_eq_true rfl) ⟨Nat.le_of_ble_eq_true rfl, Nat.le_of_ble_eq_true rfl⟩ ⟨Nat.zero_le _, Nat.zero_le _⟩ (fun _ => rfl) rfl (fun r4 M4 _ => ?_)
        refine hz_lstore_n (L' := [(1, .long r4), (0, .ref (adr 12 0)), (3, .int x3)]) (n := 82) hC dX8_checksum_81 rfl (by decide) rfl rfl ?_
        refine hz_iinc (a := 2) (v := (x3 + (1 : Int32))) (L' := [(3, .int (x3 + (1 : Int32))), (1, .long r4), (0, .ref (adr 12 0))]) (n := 85) hC dX8_checksum_82 rfl rfl (by decide) rfl rfl ?_
        refine hz_goto (n := 64) hC dX8_checksum_85 (by decide) ?_
        refine hz_L (L' := [(0, .ref (adr 12 0)), (1, .long r4), (3, .int (x3 + (1 : Int32)))]) [2, 1, 0] rfl ?_
        exact ih64 _ _ _
  have l34 : ∀  (n34 : Nat) (x1 : Int64) (x3 : Int32) (M : hp_M), hp_Z p l e (hp_rm 4) s m args below meth c 4 A D ids adr adV cA 0 0 (MQ below (hp_Q A D ids adr adV cA rep hp_ol G0) args s 0 0 A) G0 rep 34 [(0, .ref (adr 12 0)), (1, .long x1), (3, .int x3)] [] M (L_X8_checksum_34  n34 x1 x3 M) := by
    intro  n34
    induction n34 with
    | zero => intro x1 x3 M; exact hz_none hC
    | succ n34 ih34 =>
      intro x1 x3 M
      rw [L_X8_checksum_34.eq_2]
      refine hz_iload_n (a := 2) (n := 35) hC dX8_checksum_34 rfl rfl rfl ?_
      refine hz_bipush (v := (6 : Int32)) (n := 37) hC dX8_checksum_35 (by decide +kernel) rfl ?_
      refine hz_icmp_ge (tgt := 62) (n := 40) hC dX8_checksum_37 (by decide) rfl (fun _ => ?_) (fun _ => ?_)
      · refine hz_iconst (v := (0 : Int32)) (n := 63) hC dX8_checksum_62 (by decide +kernel) rfl ?_
        refine hz_istore_n (L' := [(3, .int (0 : Int32)), (0, .ref (adr 12 0)), (1, .long x1)]) (n := 64) hC dX8_checksum_63 rfl (by decide) rfl rfl ?_
        refine hz_L (L' := [(0, .ref (adr 12 0)), (1, .long x1), (3, .int (0 : Int32))]) [1, 2, 0] rfl ?_
        exact l64 hp_fu _ _ _
      · refine hz_ldc2 (n := 43) hC dX8_checksum_40 wd_4_72 rfl ?_
        refine hz_lload_n (a := 1) (n := 44) hC dX8_checksum_43 rfl rfl rfl ?_
        refine hz_lmul (n := 45) hC dX8_checksum_44 rfl ?_
        refine hz_aload_n (a := 0) (n := 46) hC dX8_checksum_45 rfl rfl rfl ?_
        refine fg_X8_10 (n := 49) hC hI dX8_checksum_46 rfl ?_
        refine hz_iload_n (a := 2) (n := 50) hC dX8_checksum_49 rfl rfl rfl ?_
        refine hz_callVN (k := 1) (As := [.int x3]) (st := [.long ((31 : Int64) * x1)]) (S1 := fun r => .int r :: [.long ((31 : Int64) * x1)]) (n := 53) hC (c_X2_settingNumber l 0 x3 (by decide)  M) kv_X2_settingNumber wd_3_180 hI dX8_checksum_50 rfl (hI.1 0 0 (by decide) (by decide)) (he_X2 (by decide)) rfl rfl rfl (Nat.le_of_ble_eq_true rfl) ⟨Nat.le_of_ble_eq_true rfl, Nat.le_of_ble_eq_true rfl⟩ ⟨Nat.zero_le _, Nat.zero_le _⟩ (fun _ => rfl) rfl (fun r5 M5 _ => ?_)
        refine hz_i2l (n := 54) hC dX8_checksum_53 rfl ?_
        refine hz_ladd (n := 55) hC dX8_checksum_54 rfl ?_
        refine hz_lstore_n (L' := [(1, .long (((31 : Int64) * x1) + (r5).toInt64)), (0, .ref (adr 12 0)), (3, .int x3)]) (n := 56) hC dX8_checksum_55 rfl (by decide) rfl rfl ?_
        refine hz_iinc (a := 2) (v := (x3 + (1 : Int32))) (L' := [(3, .int (x3 + (1 : Int32))), (1, .long (((31 : Int64) * x1) + (r5).toInt64)), (0, .ref (adr 12 0))]) (n := 59) hC dX8_checksum_56 rfl rfl (by decide) rfl rfl ?_
        refine hz_goto (n := 34) hC dX8_checksum_59 (by decide) ?_
        refine hz_L (L' := [(0, .ref (adr 12 0)), (1, .long (((31 : Int64) * x1) + (r5).toInt64)), (3, .int (x3 + (1 : Int32)))]) [2, 1, 0] rfl ?_
        exact ih34 _ _ _
  have l4 : ∀  (n4 : Nat) (x1 : Int64) (x3 : Int32) (M : hp_M), hp_Z p l e (hp_rm 4) s m args below meth c 4 A D ids adr adV cA 0 0 (MQ below (hp_Q A D ids adr adV cA rep hp_ol G0) args s 0 0 A) G0 rep 4 [(0, .ref (adr 12 0)), (1, .long x1), (3, .int x3)] [] M (L_X8_checksum_4  n4 x1 x3 M) := by
    intro  n4
    induction n4 with
    | zero => intro x1 x3 M; exact hz_none hC
    | succ n4 ih4 =>
      intro x1 x3 M
      rw [L_X8_checksum_4.eq_2]
      refine hz_iload_n (a := 2) (n := 5) hC dX8_checksum_4 rfl rfl rfl ?_
      refine hz_bipush (v := (10 : Int32)) (n := 7) hC dX8_checksum_5 (by decide +kernel) rfl ?_
      refine hz_icmp_gt (tgt := 32) (n := 10) hC dX8_checksum_7 (by decide) rfl (fun _ => ?_) (fun _ => ?_)
      · refine hz_iconst (v := (0 : Int32)) (n := 33) hC dX8_checksum_32 (by decide +kernel) rfl ?_
        refine hz_istore_n (L' := [(3, .int (0 : Int32)), (0, .ref (adr 12 0)), (1, .long x1)]) (n := 34) hC dX8_checksum_33 rfl (by decide) rfl rfl ?_
        refine hz_L (L' := [(0, .ref (adr 12 0)), (1, .long x1), (3, .int (0 : Int32))]) [1, 2, 0] rfl ?_
        exact l34 hp_fu _ _ _
      · refine hz_ldc2 (n := 13) hC dX8_checksum_10 wd_4_72 rfl ?_
        refine hz_lload_n (a := 1) (n := 14) hC dX8_checksum_13 rfl rfl rfl ?_
        refine hz_lmul (n := 15) hC dX8_checksum_14 rfl ?_
        refine hz_aload_n (a := 0) (n := 16) hC dX8_checksum_15 rfl rfl rfl ?_
        refine fg_X8_10 (n := 19) hC hI dX8_checksum_16 rfl ?_
        refine hz_iload_n (a := 2) (n := 20) hC dX8_checksum_19 rfl rfl rfl ?_
        refine hz_callVN (k := 1) (As := [.int x3]) (st := [.long ((31 : Int64) * x1)]) (S1 := fun r => .int r :: [.long ((31 : Int64) * x1)]) (n := 23) hC (c_X2_houseNumber l 0 x3 (by decide)  M) kv_X2_houseNumber wd_3_162 hI dX8_checksum_20 rfl (hI.1 0 0 (by decide) (by decide)) (he_X2 (by decide)) rfl rfl rfl (Nat.le_of_ble_eq_true rfl) ⟨Nat.le_of_ble_eq_true rfl, Nat.le_of_ble_eq_true rfl⟩ ⟨Nat.zero_le _, Nat.zero_le _⟩ (fun _ => rfl) rfl (fun r6 M6 _ => ?_)
        refine hz_i2l (n := 24) hC dX8_checksum_23 rfl ?_
        refine hz_ladd (n := 25) hC dX8_checksum_24 rfl ?_
        refine hz_lstore_n (L' := [(1, .long (((31 : Int64) * x1) + (r6).toInt64)), (0, .ref (adr 12 0)), (3, .int x3)]) (n := 26) hC dX8_checksum_25 rfl (by decide) rfl rfl ?_
        refine hz_iinc (a := 2) (v := (x3 + (1 : Int32))) (L' := [(3, .int (x3 + (1 : Int32))), (1, .long (((31 : Int64) * x1) + (r6).toInt64)), (0, .ref (adr 12 0))]) (n := 29) hC dX8_checksum_26 rfl rfl (by decide) rfl rfl ?_
        refine hz_goto (n := 4) hC dX8_checksum_29 (by decide) ?_
        refine hz_L (L' := [(0, .ref (adr 12 0)), (1, .long (((31 : Int64) * x1) + (r6).toInt64)), (3, .int (x3 + (1 : Int32)))]) [2, 1, 0] rfl ?_
        exact ih4 _ _ _
  refine hz_lconst (v := (0 : Int64)) (n := 1) hC dX8_checksum_0 (by decide +kernel) rfl ?_
  refine hz_lstore_n (L' := [(1, .long (0 : Int64)), (0, .ref (adr 12 0))]) (n := 2) hC dX8_checksum_1 rfl (by decide) rfl rfl ?_
  refine hz_iconst (v := (0 : Int32)) (n := 3) hC dX8_checksum_2 (by decide +kernel) rfl ?_
  refine hz_istore_n (L' := [(3, .int (0 : Int32)), (1, .long (0 : Int64)), (0, .ref (adr 12 0))]) (n := 4) hC dX8_checksum_3 rfl (by decide) rfl rfl ?_
  refine hz_L (L' := [(0, .ref (adr 12 0)), (1, .long (0 : Int64)), (3, .int (0 : Int32))]) [2, 1, 0] rfl ?_
  exact l4 hp_fu _ _ _
