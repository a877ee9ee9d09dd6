def F_X9_thrown  (M : hp_M) : Option (Int32 × hp_M) := (some ((M 13 0 13), M))
set_option maxRecDepth 20000 in
set_option maxHeartbeats 4000000 in
theorem c_X9_thrown (l : Launch)   (M : hp_M) : hp_Ct l yX9_thrown cX9_thrown 1 (some .int) 0 hp_IR (fun adr adV => [.ref (adr 13 0)]) hp_oi M (F_X9_thrown  M) := by
  refine hp_start "HallPhoneModel" (fun adr adV => [(0, .ref (adr 13 0))]) (by decide) rfl (fun _ _ => by simp only [lg_sl]; exact Nat.le_of_ble_eq_true rfl) (fun _ _ => rfl) ?_
  intro p e s m args below meth c A D ids adr adV cA rep G0 hI hC hr
  unfold F_X9_thrown
  refine hz_aload_n (a := 0) (n := 1) hC dX9_thrown_0 rfl rfl rfl ?_
  refine fg_X9_42 (n := 4) hC hI dX9_thrown_1 rfl ?_
  exact hz_iret hC hr dX9_thrown_4
def F_X9_in (a0 : Int32) (a1 : Int32) (a2 : Int32) (M : hp_M) : Option (Int32 × hp_M) := (if a0 < a1 then (some ((0 : Int32), M)) else (if a2 < a0 then (some ((0 : Int32), M)) else (some ((1 : Int32), M))))
set_option maxRecDepth 20000 in
set_option maxHeartbeats 4000000 in
theorem c_X9_in (l : Launch) (a0 : Int32) (a1 : Int32) (a2 : Int32)  (M : hp_M) : hp_Ct l yX9_in cX9_in 3 (some .boolean) 0 hp_IR (fun adr adV => [.int a0, .int a1, .int a2]) hp_oi M (F_X9_in a0 a1 a2 M) := by
  refine hp_start "HallPhoneModel" (fun adr adV => [(0, .int a0), (1, .int a1), (2, .int a2)]) (by decide) rfl (fun _ _ => by simp only [lg_sl]; exact Nat.le_of_ble_eq_true rfl) (fun _ _ => rfl) ?_
  intro p e s m args below meth c A D ids adr adV cA rep G0 hI hC hr
  unfold F_X9_in
  refine hz_iload_n (a := 0) (n := 1) hC dX9_in_0 rfl rfl rfl ?_
  refine hz_iload_n (a := 1) (n := 2) hC dX9_in_1 rfl rfl rfl ?_
  refine hz_icmp_lt (tgt := 14) (n := 5) hC dX9_in_2 (by decide) rfl (fun _ => ?_) (fun _ => ?_)
  · refine hz_iconst (v := (0 : Int32)) (n := 15) hC dX9_in_14 (by decide +kernel) rfl ?_
    exact hz_zret hC hr nz_0 dX9_in_15
  · refine hz_iload_n (a := 0) (n := 6) hC dX9_in_5 rfl rfl rfl ?_
    refine hz_iload_n (a := 2) (n := 7) hC dX9_in_6 rfl rfl rfl ?_
    refine hz_icmp_gt (tgt := 14) (n := 10) hC dX9_in_7 (by decide) rfl (fun _ => ?_) (fun _ => ?_)
    · refine hz_iconst (v := (0 : Int32)) (n := 15) hC dX9_in_14 (by decide +kernel) rfl ?_
      exact hz_zret hC hr nz_0 dX9_in_15
    · refine hz_iconst (v := (1 : Int32)) (n := 11) hC dX9_in_10 (by decide +kernel) rfl ?_
      refine hz_goto (n := 15) hC dX9_in_11 (by decide) ?_
      exact hz_zret hC hr nz_1 dX9_in_15
def F_X9_throwsOne (a0 : Int32) (M : hp_M) : Option (Int32 × hp_M) := (if a0 = 0 then (if a0 = 0 ∨ a0 = 1 then some (a0, (hp_p M 13 0 13 (0 : Int32))) else none) else (if a0 = 0 ∨ a0 = 1 then some (a0, (hp_p M 13 0 13 (1 : Int32))) else none))
set_option maxRecDepth 20000 in
set_option maxHeartbeats 4000000 in
theorem c_X9_throwsOne (l : Launch) (a0 : Int32)  (M : hp_M) : hp_Ct l yX9_throwsOne cX9_throwsOne 2 (some .boolean) 0 hp_IR (fun adr adV => [.ref (adr 13 0), .int a0]) hp_oi M (F_X9_throwsOne a0 M) := by
  refine hp_start "HallPhoneModel" (fun adr adV => [(0, .ref (adr 13 0)), (1, .int a0)]) (by decide) rfl (fun _ _ => by simp only [lg_sl]; exact Nat.le_of_ble_eq_true rfl) (fun _ _ => rfl) ?_
  intro p e s m args below meth c A D ids adr adV cA rep G0 hI hC hr
  unfold F_X9_throwsOne
  refine hz_aload_n (a := 0) (n := 1) hC dX9_throwsOne_0 rfl rfl rfl ?_
  refine hz_iload_n (a := 1) (n := 2) hC dX9_throwsOne_1 rfl rfl rfl ?_
  refine hz_if_eq (tgt := 9) (n := 5) hC dX9_throwsOne_2 (by decide) rfl (fun _ => ?_) (fun _ => ?_)
  · refine hz_iconst (v := (0 : Int32)) (n := 10) hC dX9_throwsOne_9 (by decide +kernel) rfl ?_
    refine fp_X9_42 (n := 13) hC hI (0 : Int32) dX9_throwsOne_10 rfl ?_
    refine hz_iload_n (a := 1) (n := 14) hC dX9_throwsOne_13 rfl rfl rfl ?_
    exact hz_bret hC hr dX9_throwsOne_14
  · refine hz_iconst (v := (1 : Int32)) (n := 6) hC dX9_throwsOne_5 (by decide +kernel) rfl ?_
    refine hz_goto (n := 10) hC dX9_throwsOne_6 (by decide) ?_
    refine fp_X9_42 (n := 13) hC hI (1 : Int32) dX9_throwsOne_10 rfl ?_
    refine hz_iload_n (a := 1) (n := 14) hC dX9_throwsOne_13 rfl rfl rfl ?_
    exact hz_bret hC hr dX9_throwsOne_14
def F_X9_throwsOne_ (a0 : Int32) (a1 : Int32) (M : hp_M) : Option (Int32 × hp_M) := (if a0 = 0 then (if a1 = 0 then (if a0 = 0 then (if a1 = 0 then (some ((0 : Int32), (hp_p M 13 0 13 (0 : Int32)))) else (some ((1 : Int32), (hp_p M 13 0 13 (0 : Int32))))) else (some ((1 : Int32), (hp_p M 13 0 13 (0 : Int32))))) else (if a0 = 0 then (if a1 = 0 then (some ((0 : Int32), (hp_p M 13 0 13 (2 : Int32)))) else (some ((1 : Int32), (hp_p M 13 0 13 (2 : Int32))))) else (some ((1 : Int32), (hp_p M 13 0 13 (2 : Int32)))))) else (if a0 = 0 then (if a1 = 0 then (some ((0 : Int32), (hp_p M 13 0 13 (1 : Int32)))) else (some ((1 : Int32), (hp_p M 13 0 13 (1 : Int32))))) else (some ((1 : Int32), (hp_p M 13 0 13 (1 : Int32))))))
set_option maxRecDepth 20000 in
set_option maxHeartbeats 4000000 in
theorem c_X9_throwsOne_ (l : Launch) (a0 : Int32) (a1 : Int32)  (M : hp_M) : hp_Ct l yX9_throwsOne_ cX9_throwsOne_ 3 (some .boolean) 0 hp_IR (fun adr adV => [.ref (adr 13 0), .int a0, .int a1]) hp_oi M (F_X9_throwsOne_ a0 a1 M) := by
  refine hp_start "HallPhoneModel" (fun adr adV => [(0, .ref (adr 13 0)), (1, .int a0), (2, .int a1)]) (by decide) rfl (fun _ _ => by simp only [lg_sl]; exact Nat.le_of_ble_eq_true rfl) (fun _ _ => rfl) ?_
  intro p e s m args below meth c A D ids adr adV cA rep G0 hI hC hr
  unfold F_X9_throwsOne_
  refine hz_aload_n (a := 0) (n := 1) hC dX9_throwsOne__0 rfl rfl rfl ?_
  refine hz_iload_n (a := 1) (n := 2) hC dX9_throwsOne__1 rfl rfl rfl ?_
  refine hz_if_eq (tgt := 9) (n := 5) hC dX9_throwsOne__2 (by decide) rfl (fun _ => ?_) (fun _ => ?_)
  · refine hz_iload_n (a := 2) (n := 10) hC dX9_throwsOne__9 rfl rfl rfl ?_
    refine hz_if_eq (tgt := 17) (n := 13) hC dX9_throwsOne__10 (by decide) rfl (fun _ => ?_) (fun _ => ?_)
    · refine hz_iconst (v := (0 : Int32)) (n := 18) hC dX9_throwsOne__17 (by decide +kernel) rfl ?_
      refine fp_X9_42 (n := 21) hC hI (0 : Int32) dX9_throwsOne__18 rfl ?_
      refine hz_iload_n (a := 1) (n := 22) hC dX9_throwsOne__21 rfl rfl rfl ?_
      refine hz_if_ne (tgt := 29) (n := 25) hC dX9_throwsOne__22 (by decide) rfl (fun _ => ?_) (fun _ => ?_)
      · refine hz_iload_n (a := 2) (n := 26) hC dX9_throwsOne__25 rfl rfl rfl ?_
        refine hz_if_eq (tgt := 33) (n := 29) hC dX9_throwsOne__26 (by decide) rfl (fun _ => ?_) (fun _ => ?_)
        · refine hz_iconst (v := (0 : Int32)) (n := 34) hC dX9_throwsOne__33 (by decide +kernel) rfl ?_
          exact hz_zret hC hr nz_0 dX9_throwsOne__34
        · refine hz_iconst (v := (1 : Int32)) (n := 30) hC dX9_throwsOne__29 (by decide +kernel) rfl ?_
          refine hz_goto (n := 34) hC dX9_throwsOne__30 (by decide) ?_
          exact hz_zret hC hr nz_1 dX9_throwsOne__34
      · refine hz_iconst (v := (1 : Int32)) (n := 30) hC dX9_throwsOne__29 (by decide +kernel) rfl ?_
        refine hz_goto (n := 34) hC dX9_throwsOne__30 (by decide) ?_
        exact hz_zret hC hr nz_1 dX9_throwsOne__34
    · refine hz_iconst (v := (2 : Int32)) (n := 14) hC dX9_throwsOne__13 (by decide +kernel) rfl ?_
      refine hz_goto (n := 18) hC dX9_throwsOne__14 (by decide) ?_
      refine fp_X9_42 (n := 21) hC hI (2 : Int32) dX9_throwsOne__18 rfl ?_
      refine hz_iload_n (a := 1) (n := 22) hC dX9_throwsOne__21 rfl rfl rfl ?_
      refine hz_if_ne (tgt := 29) (n := 25) hC dX9_throwsOne__22 (by decide) rfl (fun _ => ?_) (fun _ => ?_)
      · refine hz_iload_n (a := 2) (n := 26) hC dX9_throwsOne__25 rfl rfl rfl ?_
        refine hz_if_eq (tgt := 33) (n := 29) hC dX9_throwsOne__26 (by decide) rfl (fun _ => ?_) (fun _ => ?_)
        · refine hz_iconst (v := (0 : Int32)) (n := 34) hC dX9_throwsOne__33 (by decide +kernel) rfl ?_
          exact hz_zret hC hr nz_0 dX9_throwsOne__34
        · refine hz_iconst (v := (1 : Int32)) (n := 30) hC dX9_throwsOne__29 (by decide +kernel) rfl ?_
          refine hz_goto (n := 34) hC dX9_throwsOne__30 (by decide) ?_
          exact hz_zret hC hr nz_1 dX9_throwsOne__34
      · refine hz_iconst (v := (1 : Int32)) (n := 30) hC dX9_throwsOne__29 (by decide +kernel) rfl ?_
        refine hz_goto (n := 34) hC dX9_throwsOne__30 (by decide) ?_
        exact hz_zret hC hr nz_1 dX9_throwsOne__34
  · refine hz_iconst (v := (1 : Int32)) (n := 6) hC dX9_throwsOne__5 (by decide +kernel) rfl ?_
    refine hz_goto (n := 18) hC dX9_throwsOne__6 (by decide) ?_
    refine fp_X9_42 (n := 21) hC hI (1 : Int32) dX9_throwsOne__18 rfl ?_
    refine hz_iload_n (a := 1) (n := 22) hC dX9_throwsOne__21 rfl rfl rfl ?_
    refine hz_if_ne (tgt := 29) (n := 25) hC dX9_throwsOne__22 (by decide) rfl (fun _ => ?_) (fun _ => ?_)
    · refine hz_iload_n (a := 2) (n := 26) hC dX9_throwsOne__25 rfl rfl rfl ?_
      refine hz_if_eq (tgt := 33) (n := 29) hC dX9_throwsOne__26 (by decide) rfl (fun _ => ?_) (fun _ => ?_)
      · refine hz_iconst (v := (0 : Int32)) (n := 34) hC dX9_throwsOne__33 (by decide +kernel) rfl ?_
        exact hz_zret hC hr nz_0 dX9_throwsOne__34
      · refine hz_iconst (v := (1 : Int32)) (n := 30) hC dX9_throwsOne__29 (by decide +kernel) rfl ?_
        refine hz_goto (n := 34) hC dX9_throwsOne__30 (by decide) ?_
        exact hz_zret hC hr nz_1 dX9_throwsOne__34
    · refine hz_iconst (v := (1 : Int32)) (n := 30) hC dX9_throwsOne__29 (by decide +kernel) rfl ?_
      refine hz_goto (n := 34) hC dX9_throwsOne__30 (by decide) ?_
      exact hz_zret hC hr nz_1 dX9_throwsOne__34
def F_X9_isFlat (a0 : Int32) (M : hp_M) : Option (Int32 × hp_M) := (hp_b (F_X9_in a0 (0 : Int32) ((M 13 1 0) - (1 : Int32)) M) (fun r1 M1 => (if r1 = 0 ∨ r1 = 1 then some (r1, M1) else none)))
set_option maxRecDepth 20000 in
set_option maxHeartbeats 4000000 in
theorem c_X9_isFlat (l : Launch) (a0 : Int32)  (M : hp_M) : hp_Ct l yX9_isFlat cX9_isFlat 2 (some .boolean) 1 hp_IR (fun adr adV => [.ref (adr 13 0), .int a0]) hp_oi M (F_X9_isFlat a0 M) := by
  refine hp_start "HallPhoneModel" (fun adr adV => [(0, .ref (adr 13 0)), (1, .int a0)]) (by decide) rfl (fun _ _ => by simp only [lg_sl]; exact Nat.le_of_ble_eq_true rfl) (fun _ _ => rfl) ?_
  intro p e s m args below meth c A D ids adr adV cA rep G0 hI hC hr
  unfold F_X9_isFlat
  refine hz_iload_n (a := 1) (n := 1) hC dX9_isFlat_0 rfl rfl rfl ?_
  refine hz_iconst (v := (0 : Int32)) (n := 2) hC dX9_isFlat_1 (by decide +kernel) rfl ?_
  refine hz_aload_n (a := 0) (n := 3) hC dX9_isFlat_2 rfl rfl rfl ?_
  refine fg_X9_7 (n := 6) hC hI dX9_isFlat_3 rfl ?_
  refine hz_iconst (v := (0 : Int32)) (n := 7) hC dX9_isFlat_6 (by decide +kernel) rfl ?_
  refine hz_ialdc (k := 0) (n := 8) hC (by decide +kernel) (by decide) dX9_isFlat_7 (hI 1 (by decide)) ha_m1 rfl ?_
  refine hz_iconst (v := (1 : Int32)) (n := 9) hC dX9_isFlat_8 (by decide +kernel) rfl ?_
  refine hz_isub (n := 10) hC dX9_isFlat_9 rfl ?_
  refine hz_callS (k := 3) (As := [.int a0, .int (0 : Int32), .int ((M 13 1 0) - (1 : Int32))]) (st := []) (S1 := fun r => .int r :: []) (n := 13) hC (c_X9_in l a0 (0 : Int32) ((M 13 1 0) - (1 : Int32))   M) ks_X9_in wd_6_198 hI dX9_isFlat_10 rfl rfl rfl (Nat.le_of_ble_eq_true rfl) ⟨Nat.le_of_ble_eq_true rfl, Nat.le_of_ble_eq_true rfl⟩ ⟨Nat.zero_le _, Nat.zero_le _⟩ (fun _ => rfl) rfl (fun r1 M1 _ => ?_)
  exact hz_bret hC hr dX9_isFlat_13
def F_X9_of (a0 : Int32) (a1 : Int32) (M : hp_M) : Option (Int32 × hp_M) := (if (((52 : Int32) + ((9 : Int32) * a0)) + a1) < 0 ∨ 242 ≤ ((((52 : Int32) + ((9 : Int32) * a0)) + a1)).toNatClampNeg then none else (some ((M 13 1 ((((52 : Int32) + ((9 : Int32) * a0)) + a1)).toNatClampNeg), M)))
set_option maxRecDepth 20000 in
set_option maxHeartbeats 4000000 in
theorem c_X9_of (l : Launch) (a0 : Int32) (a1 : Int32)  (M : hp_M) : hp_Ct l yX9_of cX9_of 3 (some .int) 0 hp_IR (fun adr adV => [.ref (adr 13 0), .int a0, .int a1]) hp_oi M (F_X9_of a0 a1 M) := by
  refine hp_start "HallPhoneModel" (fun adr adV => [(0, .ref (adr 13 0)), (1, .int a0), (2, .int a1)]) (by decide) rfl (fun _ _ => by simp only [lg_sl]; exact Nat.le_of_ble_eq_true rfl) (fun _ _ => rfl) ?_
  intro p e s m args below meth c A D ids adr adV cA rep G0 hI hC hr
  unfold F_X9_of
  refine hz_aload_n (a := 0) (n := 1) hC dX9_of_0 rfl rfl rfl ?_
  refine fg_X9_7 (n := 4) hC hI dX9_of_1 rfl ?_
  refine hz_bipush (v := (52 : Int32)) (n := 6) hC dX9_of_4 (by decide +kernel) rfl ?_
  refine hz_bipush (v := (9 : Int32)) (n := 8) hC dX9_of_6 (by decide +kernel) rfl ?_
  refine hz_iload_n (a := 1) (n := 9) hC dX9_of_8 rfl rfl rfl ?_
  refine hz_imul (n := 10) hC dX9_of_9 rfl ?_
  refine hz_iadd (n := 11) hC dX9_of_10 rfl ?_
  refine hz_iload_n (a := 2) (n := 12) hC dX9_of_11 rfl rfl rfl ?_
  refine hz_iadd (n := 13) hC dX9_of_12 rfl ?_
  refine hz_iald (n := 14) hC dX9_of_13 (hI 1 (by decide)) ha_m1 rfl (fun _ => ?_)
  exact hz_iret hC hr dX9_of_14
def F_X9_to (a0 : Int32) (a1 : Int32) (a2 : Int32) (M : hp_M) : Option (Unit × hp_M) := (if (((52 : Int32) + ((9 : Int32) * a0)) + a1) < 0 ∨ 242 ≤ ((((52 : Int32) + ((9 : Int32) * a0)) + a1)).toNatClampNeg then none else (some ((), (hp_p M 13 1 ((((52 : Int32) + ((9 : Int32) * a0)) + a1)).toNatClampNeg a2))))
set_option maxRecDepth 20000 in
set_option maxHeartbeats 4000000 in
theorem c_X9_to (l : Launch) (a0 : Int32) (a1 : Int32) (a2 : Int32)  (M : hp_M) : hp_Ct l yX9_to cX9_to 4 none 0 hp_IR (fun adr adV => [.ref (adr 13 0), .int a0, .int a1, .int a2]) hp_oo M (F_X9_to a0 a1 a2 M) := by
  refine hp_start "HallPhoneModel" (fun adr adV => [(0, .ref (adr 13 0)), (1, .int a0), (2, .int a1), (3, .int a2)]) (by decide) rfl (fun _ _ => by simp only [lg_sl]; exact Nat.le_of_ble_eq_true rfl) (fun _ _ => rfl) ?_
  intro p e s m args below meth c A D ids adr adV cA rep G0 hI hC hr
  unfold F_X9_to
  refine hz_aload_n (a := 0) (n := 1) hC dX9_to_0 rfl rfl rfl ?_
  refine fg_X9_7 (n := 4) hC hI dX9_to_1 rfl ?_
  refine hz_bipush (v := (52 : Int32)) (n := 6) hC dX9_to_4 (by decide +kernel) rfl ?_
  refine hz_bipush (v := (9 : Int32)) (n := 8) hC dX9_to_6 (by decide +kernel) rfl ?_
  refine hz_iload_n (a := 1) (n := 9) hC dX9_to_8 rfl rfl rfl ?_
  refine hz_imul (n := 10) hC dX9_to_9 rfl ?_
  refine hz_iadd (n := 11) hC dX9_to_10 rfl ?_
  refine hz_iload_n (a := 2) (n := 12) hC dX9_to_11 rfl rfl rfl ?_
  refine hz_iadd (n := 13) hC dX9_to_12 rfl ?_
  refine hz_iload_n (a := 3) (n := 14) hC dX9_to_13 rfl rfl rfl ?_
  refine hz_iast (n := 15) hC dX9_to_14 (hI 1 (by decide)) ha_m1 rfl (fun _ => ?_)
  exact hz_vret hC hr dX9_to_15
def F_X9_adds (a0 : Int32) (a1 : Int32) (a2 : Int32) (M : hp_M) : Option (Unit × hp_M) := (if (((52 : Int32) + ((9 : Int32) * a0)) + a1) < 0 ∨ 242 ≤ ((((52 : Int32) + ((9 : Int32) * a0)) + a1)).toNatClampNeg then none else (if (((52 : Int32) + ((9 : Int32) * a0)) + a1) < 0 ∨ 242 ≤ ((((52 : Int32) + ((9 : Int32) * a0)) + a1)).toNatClampNeg then none else (some ((), (hp_p M 13 1 ((((52 : Int32) + ((9 : Int32) * a0)) + a1)).toNatClampNeg ((M 13 1 ((((52 : Int32) + ((9 : Int32) * a0)) + a1)).toNatClampNeg) + a2))))))
set_option maxRecDepth 20000 in
set_option maxHeartbeats 4000000 in
theorem c_X9_adds (l : Launch) (a0 : Int32) (a1 : Int32) (a2 : Int32)  (M : hp_M) : hp_Ct l yX9_adds cX9_adds 4 none 0 hp_IR (fun adr adV => [.ref (adr 13 0), .int a0, .int a1, .int a2]) hp_oo M (F_X9_adds a0 a1 a2 M) := by
  refine hp_start "HallPhoneModel" (fun adr adV => [(0, .ref (adr 13 0)), (1, .int a0), (2, .int a1), (3, .int a2)]) (by decide) rfl (fun _ _ => by simp only [lg_sl]; exact Nat.le_of_ble_eq_true rfl) (fun _ _ => rfl) ?_
  intro p e s m args below meth c A D ids adr adV cA rep G0 hI hC hr
  unfold F_X9_adds
  refine hz_aload_n (a := 0) (n := 1) hC dX9_adds_0 rfl rfl rfl ?_
  refine fg_X9_7 (n := 4) hC hI dX9_adds_1 rfl ?_
  refine hz_bipush (v := (52 : Int32)) (n := 6) hC dX9_adds_4 (by decide +kernel) rfl ?_
  refine hz_bipush (v := (9 : Int32)) (n := 8) hC dX9_adds_6 (by decide +kernel) rfl ?_
  refine hz_iload_n (a := 1) (n := 9) hC dX9_adds_8 rfl rfl rfl ?_
  refine hz_imul (n := 10) hC dX9_adds_9 rfl ?_
  refine hz_iadd (n := 11) hC dX9_adds_10 rfl ?_
  refine hz_iload_n (a := 2) (n := 12) hC dX9_adds_11 rfl rfl rfl ?_
  refine hz_iadd (n := 13) hC dX9_adds_12 rfl ?_
  refine hz_dup2 (n := 14) hC dX9_adds_13 rfl rfl rfl ?_
  refine hz_iald (n := 15) hC dX9_adds_14 (hI 1 (by decide)) ha_m1 rfl (fun _ => ?_)
  refine hz_iload_n (a := 3) (n := 16) hC dX9_adds_15 rfl rfl rfl ?_
  refine hz_iadd (n := 17) hC dX9_adds_16 rfl ?_
  refine hz_iast (n := 18) hC dX9_adds_17 (hI 1 (by decide)) ha_m1 rfl (fun _ => ?_)
  exact hz_vret hC hr dX9_adds_18
def F_X9_counts (a0 : Int32) (a1 : Int32) (M : hp_M) : Option (Unit × hp_M) := (if ((42 : Int32) + a0) < 0 ∨ 242 ≤ (((42 : Int32) + a0)).toNatClampNeg then none else (if ((42 : Int32) + a0) < 0 ∨ 242 ≤ (((42 : Int32) + a0)).toNatClampNeg then none else (some ((), (hp_p M 13 1 (((42 : Int32) + a0)).toNatClampNeg ((M 13 1 (((42 : Int32) + a0)).toNatClampNeg) + a1))))))
set_option maxRecDepth 20000 in
set_option maxHeartbeats 4000000 in
theorem c_X9_counts (l : Launch) (a0 : Int32) (a1 : Int32)  (M : hp_M) : hp_Ct l yX9_counts cX9_counts 3 none 0 hp_IR (fun adr adV => [.ref (adr 13 0), .int a0, .int a1]) hp_oo M (F_X9_counts a0 a1 M) := by
  refine hp_start "HallPhoneModel" (fun adr adV => [(0, .ref (adr 13 0)), (1, .int a0), (2, .int a1)]) (by decide) rfl (fun _ _ => by simp only [lg_sl]; exact Nat.le_of_ble_eq_true rfl) (fun _ _ => rfl) ?_
  intro p e s m args below meth c A D ids adr adV cA rep G0 hI hC hr
  unfold F_X9_counts
  refine hz_aload_n (a := 0) (n := 1) hC dX9_counts_0 rfl rfl rfl ?_
  refine fg_X9_7 (n := 4) hC hI dX9_counts_1 rfl ?_
  refine hz_bipush (v := (42 : Int32)) (n := 6) hC dX9_counts_4 (by decide +kernel) rfl ?_
  refine hz_iload_n (a := 1) (n := 7) hC dX9_counts_6 rfl rfl rfl ?_
  refine hz_iadd (n := 8) hC dX9_counts_7 rfl ?_
  refine hz_dup2 (n := 9) hC dX9_counts_8 rfl rfl rfl ?_
  refine hz_iald (n := 10) hC dX9_counts_9 (hI 1 (by decide)) ha_m1 rfl (fun _ => ?_)
  refine hz_iload_n (a := 2) (n := 11) hC dX9_counts_10 rfl rfl rfl ?_
  refine hz_iadd (n := 12) hC dX9_counts_11 rfl ?_
  refine hz_iast (n := 13) hC dX9_counts_12 (hI 1 (by decide)) ha_m1 rfl (fun _ => ?_)
  exact hz_vret hC hr dX9_counts_13
def F_X9_heardOf (a0 : Int32) (a1 : Int32) (M : hp_M) : Option (Int32 × hp_M) := (if (((142 : Int32) + ((10 : Int32) * a0)) + a1) < 0 ∨ 242 ≤ ((((142 : Int32) + ((10 : Int32) * a0)) + a1)).toNatClampNeg then none else (some ((M 13 1 ((((142 : Int32) + ((10 : Int32) * a0)) + a1)).toNatClampNeg), M)))
set_option maxRecDepth 20000 in
set_option maxHeartbeats 4000000 in
theorem c_X9_heardOf (l : Launch) (a0 : Int32) (a1 : Int32)  (M : hp_M) : hp_Ct l yX9_heardOf cX9_heardOf 3 (some .int) 0 hp_IR (fun adr adV => [.ref (adr 13 0), .int a0, .int a1]) hp_oi M (F_X9_heardOf a0 a1 M) := by
  refine hp_start "HallPhoneModel" (fun adr adV => [(0, .ref (adr 13 0)), (1, .int a0), (2, .int a1)]) (by decide) rfl (fun _ _ => by simp only [lg_sl]; exact Nat.le_of_ble_eq_true rfl) (fun _ _ => rfl) ?_
  intro p e s m args below meth c A D ids adr adV cA rep G0 hI hC hr
  unfold F_X9_heardOf
  refine hz_aload_n (a := 0) (n := 1) hC dX9_heardOf_0 rfl rfl rfl ?_
  refine fg_X9_7 (n := 4) hC hI dX9_heardOf_1 rfl ?_
  refine hz_sipush (v := (142 : Int32)) (n := 7) hC dX9_heardOf_4 (by decide +kernel) rfl ?_
  refine hz_bipush (v := (10 : Int32)) (n := 9) hC dX9_heardOf_7 (by decide +kernel) rfl ?_
  refine hz_iload_n (a := 1) (n := 10) hC dX9_heardOf_9 rfl rfl rfl ?_
  refine hz_imul (n := 11) hC dX9_heardOf_10 rfl ?_
  refine hz_iadd (n := 12) hC dX9_heardOf_11 rfl ?_
  refine hz_iload_n (a := 2) (n := 13) hC dX9_heardOf_12 rfl rfl rfl ?_
  refine hz_iadd (n := 14) hC dX9_heardOf_13 rfl ?_
  refine hz_iald (n := 15) hC dX9_heardOf_14 (hI 1 (by decide)) ha_m1 rfl (fun _ => ?_)
  exact hz_iret hC hr dX9_heardOf_15
def L_X9_manyWho_4 (a0 : Int32)   : Nat → Int32 → Int32 → hp_M → Option (Int32 × hp_M)
  | 0, _, _, _ => none
  | n4 + 1, x2, x3, M => (if (M 13 1 0) ≤ x3 then (some (x2, M)) else (hp_b (F_X9_of x3 (2 : Int32) M) (fun r1 M1 => (if r1 = a0 then (L_X9_manyWho_4 a0 n4 (x2 + (1 : Int32)) (x3 + (1 : Int32)) M1) else (L_X9_manyWho_4 a0 n4 (x2 + (0 : Int32)) (x3 + (1 : Int32)) M1)))))
def F_X9_manyWho (a0 : Int32) (M : hp_M) : Option (Int32 × hp_M) := (L_X9_manyWho_4 a0 hp_fu (0 : Int32) (0 : Int32) M)
set_option maxRecDepth 20000 in
set_option maxHeartbeats 4000000 in
theorem c_X9_manyWho (l : Launch) (a0 : Int32)  (M : hp_M) : hp_Ct l yX9_manyWho cX9_manyWho 4 (some .int) 1 hp_IR (fun adr adV => [.ref (adr 13 0), .int a0]) hp_oi M (F_X9_manyWho a0 M) := by
  refine hp_start "HallPhoneModel" (fun adr adV => [(0, .ref (adr 13 0)), (1, .int a0)]) (by decide) rfl (fun _ _ => by simp only [lg_sl]; exact Nat.le_of_ble_eq_true rfl) (fun _ _ => rfl) ?_
  intro p e s m args below meth c A D ids adr adV cA rep G0 hI hC hr
  unfold F_X9_manyWho
  have l4 : ∀  (n4 : Nat) (x2 : Int32) (x3 : Int32) (M : hp_M), hp_Z p l e (hp_rm 1) s m args below meth c 4 A D ids adr adV cA 0 0 (MQ below (hp_Q A D ids adr adV cA rep hp_oi G0) args s 0 0 A) G0 rep 4 [(0, .ref (adr 13 0)), (1, .int a0), (2, .int x2), (3, .int x3)] [] M (L_X9_manyWho_4 a0 n4 x2 x3 M) := by
    intro  n4
    induction n4 with
    | zero => intro x2 x3 M; exact hz_none hC
    | succ n4 ih4 =>
      intro x2 x3 M
      rw [L_X9_manyWho_4.eq_2]
      refine hz_iload_n (a := 3) (n := 5) hC dX9_manyWho_4 rfl rfl rfl ?_
      refine hz_aload_n (a := 0) (n := 6) hC dX9_manyWho_5 rfl rfl rfl ?_
      refine fg_X9_7 (n := 9) hC hI dX9_manyWho_6 rfl ?_
      refine hz_iconst (v := (0 : Int32)) (n := 10) hC dX9_manyWho_9 (by decide +kernel) rfl ?_
      refine hz_ialdc (k := 0) (n := 11) hC (by decide +kernel) (by decide) dX9_manyWho_10 (hI 1 (by decide)) ha_m1 rfl ?_
      refine hz_icmp_ge (tgt := 38) (n := 14) hC dX9_manyWho_11 (by decide) rfl (fun _ => ?_) (fun _ => ?_)
      · refine hz_iload_n (a := 2) (n := 39) hC dX9_manyWho_38 rfl rfl rfl ?_
        exact hz_iret hC hr dX9_manyWho_39
      · refine hz_iload_n (a := 2) (n := 15) hC dX9_manyWho_14 rfl rfl rfl ?_
        refine hz_aload_n (a := 0) (n := 16) hC dX9_manyWho_15 rfl rfl rfl ?_
        refine hz_iload_n (a := 3) (n := 17) hC dX9_manyWho_16 rfl rfl rfl ?_
        refine hz_iconst (v := (2 : Int32)) (n := 18) hC dX9_manyWho_17 (by decide +kernel) rfl ?_
        refine hz_callV (k := 2) (As := [.int x3, .int (2 : Int32)]) (st := [.int x2]) (S1 := fun r => .int r :: [.int x2]) (n := 21) hC (c_X9_of l x3 (2 : Int32)   M) kv_X9_of wd_7_7 hI dX9_manyWho_18 rfl (hI 0 (by decide)) he_X9 rfl rfl rfl (Nat.le_of_ble_eq_true rfl) ⟨Nat.le_of_ble_eq_true rfl, Nat.le_of_ble_eq_true rfl⟩ ⟨Nat.zero_le _, Nat.zero_le _⟩ (fun _ => rfl) rfl (fun r1 M1 _ => ?_)
        refine hz_iload_n (a := 1) (n := 22) hC dX9_manyWho_21 rfl rfl rfl ?_
        refine hz_icmp_ne (tgt := 29) (n := 25) hC dX9_manyWho_22 (by decide) rfl (fun _ => ?_) (fun _ => ?_)
        · refine hz_iconst (v := (1 : Int32)) (n := 26) hC dX9_manyWho_25 (by decide +kernel) rfl ?_
          refine hz_goto (n := 30) hC dX9_manyWho_26 (by decide) ?_
          refine hz_iadd (n := 31) hC dX9_manyWho_30 rfl ?_
          refine hz_istore_n (L' := [(2, .int (x2 + (1 : Int32))), (0, .ref (adr 13 0)), (1, .int a0), (3, .int x3)]) (n := 32) hC dX9_manyWho_31 rfl (by decide) rfl rfl ?_
          refine hz_iinc (a := 3) (v := (x3 + (1 : Int32))) (L' := [(3, .int (x3 + (1 : Int32))), (2, .int (x2 + (1 : Int32))), (0, .ref (adr 13 0)), (1, .int a0)]) (n := 35) hC dX9_manyWho_32 rfl rfl (by decide) rfl rfl ?_
          refine hz_goto (n := 4) hC dX9_manyWho_35 (by decide) ?_
          refine hz_L (L' := [(0, .ref (adr 13 0)), (1, .int a0), (2, .int (x2 + (1 : Int32))), (3, .int (x3 + (1 : Int32)))]) [2, 3, 1, 0] rfl ?_
          exact ih4 _ _ _
        · refine hz_iconst (v := (0 : Int32)) (n := 30) hC dX9_manyWho_29 (by decide +kernel) rfl ?_
          refine hz_iadd (n := 31) hC dX9_manyWho_30 rfl ?_
          refine hz_istore_n (L' := [(2, .int (x2 + (0 : Int32))), (0, .ref (adr 13 0)), (1, .int a0), (3, .int x3)]) (n := 32) hC dX9_manyWho_31 rfl (by decide) rfl rfl ?_
          refine hz_iinc (a := 3) (v := (x3 + (1 : Int32))) (L' := [(3, .int (x3 + (1 : Int32))), (2, .int (x2 + (0 : Int32))), (0, .ref (adr 13 0)), (1, .int a0)]) (n := 35) hC dX9_manyWho_32 rfl rfl (by decide) rfl rfl ?_
          refine hz_goto (n := 4) hC dX9_manyWho_35 (by decide) ?_
          refine hz_L (L' := [(0, .ref (adr 13 0)), (1, .int a0), (2, .int (x2 + (0 : Int32))), (3, .int (x3 + (1 : Int32)))]) [2, 3, 1, 0] rfl ?_
          exact ih4 _ _ _
  refine hz_iconst (v := (0 : Int32)) (n := 1) hC dX9_manyWho_0 (by decide +kernel) rfl ?_
  refine hz_istore_n (L' := [(2, .int (0 : Int32)), (0, .ref (adr 13 0)), (1, .int a0)]) (n := 2) hC dX9_manyWho_1 rfl (by decide) rfl rfl ?_
  refine hz_iconst (v := (0 : Int32)) (n := 3) hC dX9_manyWho_2 (by decide +kernel) rfl ?_
  refine hz_istore_n (L' := [(3, .int (0 : Int32)), (2, .int (0 : Int32)), (0, .ref (adr 13 0)), (1, .int a0)]) (n := 4) hC dX9_manyWho_3 rfl (by decide) rfl rfl ?_
  refine hz_L (L' := [(0, .ref (adr 13 0)), (1, .int a0), (2, .int (0 : Int32)), (3, .int (0 : Int32))]) [2, 3, 1, 0] rfl ?_
  exact l4 hp_fu _ _ _
def F_X9_isCalled (a0 : Int32) (M : hp_M) : Option (Int32 × hp_M) := (if (M 13 1 2) = (1 : Int32) then (if (M 13 1 3) = a0 then (some ((1 : Int32), M)) else (some ((0 : Int32), M))) else (some ((0 : Int32), M)))
set_option maxRecDepth 20000 in
set_option maxHeartbeats 4000000 in
theorem c_X9_isCalled (l : Launch) (a0 : Int32)  (M : hp_M) : hp_Ct l yX9_isCalled cX9_isCalled 2 (some .boolean) 0 hp_IR (fun adr adV => [.ref (adr 13 0), .int a0]) hp_oi M (F_X9_isCalled a0 M) := by
  refine hp_start "HallPhoneModel" (fun adr adV => [(0, .ref (adr 13 0)), (1, .int a0)]) (by decide) rfl (fun _ _ => by simp only [lg_sl]; exact Nat.le_of_ble_eq_true rfl) (fun _ _ => rfl) ?_
  intro p e s m args below meth c A D ids adr adV cA rep G0 hI hC hr
  unfold F_X9_isCalled
  refine hz_aload_n (a := 0) (n := 1) hC dX9_isCalled_0 rfl rfl rfl ?_
  refine fg_X9_7 (n := 4) hC hI dX9_isCalled_1 rfl ?_
  refine hz_iconst (v := (2 : Int32)) (n := 5) hC dX9_isCalled_4 (by decide +kernel) rfl ?_
  refine hz_ialdc (k := 2) (n := 6) hC (by decide +kernel) (by decide) dX9_isCalled_5 (hI 1 (by decide)) ha_m1 rfl ?_
  refine hz_iconst (v := (1 : Int32)) (n := 7) hC dX9_isCalled_6 (by decide +kernel) rfl ?_
  refine hz_icmp_ne (tgt := 24) (n := 10) hC dX9_isCalled_7 (by decide) rfl (fun _ => ?_) (fun _ => ?_)
  · refine hz_aload_n (a := 0) (n := 11) hC dX9_isCalled_10 rfl rfl rfl ?_
    refine fg_X9_7 (n := 14) hC hI dX9_isCalled_11 rfl ?_
    refine hz_iconst (v := (3 : Int32)) (n := 15) hC dX9_isCalled_14 (by decide +kernel) rfl ?_
    refine hz_ialdc (k := 3) (n := 16) hC (by decide +kernel) (by decide) dX9_isCalled_15 (hI 1 (by decide)) ha_m1 rfl ?_
    refine hz_iload_n (a := 1) (n := 17) hC dX9_isCalled_16 rfl rfl rfl ?_
    refine hz_icmp_ne (tgt := 24) (n := 20) hC dX9_isCalled_17 (by decide) rfl (fun _ => ?_) (fun _ => ?_)
    · refine hz_iconst (v := (1 : Int32)) (n := 21) hC dX9_isCalled_20 (by decide +kernel) rfl ?_
      refine hz_goto (n := 25) hC dX9_isCalled_21 (by decide) ?_
      exact hz_zret hC hr nz_1 dX9_isCalled_25
    · refine hz_iconst (v := (0 : Int32)) (n := 25) hC dX9_isCalled_24 (by decide +kernel) rfl ?_
      exact hz_zret hC hr nz_0 dX9_isCalled_25
  · refine hz_iconst (v := (0 : Int32)) (n := 25) hC dX9_isCalled_24 (by decide +kernel) rfl ?_
    exact hz_zret hC hr nz_0 dX9_isCalled_25
def L_X9_placeOf_2 (a0 : Int32)   : Nat → Int32 → hp_M → Option (Int32 × hp_M)
  | 0, _, _ => none
  | n2 + 1, x2, M => (if (M 13 1 30) ≤ x2 then (some ((-1 : Int32), M)) else (if ((31 : Int32) + x2) < 0 ∨ 242 ≤ (((31 : Int32) + x2)).toNatClampNeg then none else (if (M 13 1 (((31 : Int32) + x2)).toNatClampNeg) = a0 then (some (x2, M)) else (L_X9_placeOf_2 a0 n2 (x2 + (1 : Int32)) M))))
def F_X9_placeOf (a0 : Int32) (M : hp_M) : Option (Int32 × hp_M) := (L_X9_placeOf_2 a0 hp_fu (0 : Int32) M)
set_option maxRecDepth 20000 in
set_option maxHeartbeats 4000000 in
theorem c_X9_placeOf (l : Launch) (a0 : Int32)  (M : hp_M) : hp_Ct l yX9_placeOf cX9_placeOf 3 (some .int) 0 hp_IR (fun adr adV => [.ref (adr 13 0), .int a0]) hp_oi M (F_X9_placeOf a0 M) := by
  refine hp_start "HallPhoneModel" (fun adr adV => [(0, .ref (adr 13 0)), (1, .int a0)]) (by decide) rfl (fun _ _ => by simp only [lg_sl]; exact Nat.le_of_ble_eq_true rfl) (fun _ _ => rfl) ?_
  intro p e s m args below meth c A D ids adr adV cA rep G0 hI hC hr
  unfold F_X9_placeOf
  have l2 : ∀  (n2 : Nat) (x2 : Int32) (M : hp_M), hp_Z p l e (hp_rm 0) s m args below meth c 3 A D ids adr adV cA 0 0 (MQ below (hp_Q A D ids adr adV cA rep hp_oi G0) args s 0 0 A) G0 rep 2 [(0, .ref (adr 13 0)), (1, .int a0), (2, .int x2)] [] M (L_X9_placeOf_2 a0 n2 x2 M) := by
    intro  n2
    induction n2 with
    | zero => intro x2 M; exact hz_none hC
    | succ n2 ih2 =>
      intro x2 M
      rw [L_X9_placeOf_2.eq_2]
      refine hz_iload_n (a := 2) (n := 3) hC dX9_placeOf_2 rfl rfl rfl ?_
      refine hz_aload_n (a := 0) (n := 4) hC dX9_placeOf_3 rfl rfl rfl ?_
      refine fg_X9_7 (n := 7) hC hI dX9_placeOf_4 rfl ?_
      refine hz_bipush (v := (30 : Int32)) (n := 9) hC dX9_placeOf_7 (by decide +kernel) rfl ?_
      refine hz_ialdc (k := 30) (n := 10) hC (by decide +kernel) (by decide) dX9_placeOf_9 (hI 1 (by decide)) ha_m1 rfl ?_
      refine hz_icmp_ge (tgt := 34) (n := 13) hC dX9_placeOf_10 (by decide) rfl (fun _ => ?_) (fun _ => ?_)
      · refine hz_iconst (v := (-1 : Int32)) (n := 35) hC dX9_placeOf_34 (by decide +kernel) rfl ?_
        exact hz_iret hC hr dX9_placeOf_35
      · refine hz_aload_n (a := 0) (n := 14) hC dX9_placeOf_13 rfl rfl rfl ?_
        refine fg_X9_7 (n := 17) hC hI dX9_placeOf_14 rfl ?_
        refine hz_bipush (v := (31 : Int32)) (n := 19) hC dX9_placeOf_17 (by decide +kernel) rfl ?_
        refine hz_iload_n (a := 2) (n := 20) hC dX9_placeOf_19 rfl rfl rfl ?_
        refine hz_iadd (n := 21) hC dX9_placeOf_20 rfl ?_
        refine hz_iald (n := 22) hC dX9_placeOf_21 (hI 1 (by decide)) ha_m1 rfl (fun _ => ?_)
        refine hz_iload_n (a := 1) (n := 23) hC dX9_placeOf_22 rfl rfl rfl ?_
        refine hz_icmp_ne (tgt := 28) (n := 26) hC dX9_placeOf_23 (by decide) rfl (fun _ => ?_) (fun _ => ?_)
        · refine hz_iload_n (a := 2) (n := 27) hC dX9_placeOf_26 rfl rfl rfl ?_
          exact hz_iret hC hr dX9_placeOf_27
        · refine hz_iinc (a := 2) (v := (x2 + (1 : Int32))) (L' := [(2, .int (x2 + (1 : Int32))), (0, .ref (adr 13 0)), (1, .int a0)]) (n := 31) hC dX9_placeOf_28 rfl rfl (by decide) rfl rfl ?_
          refine hz_goto (n := 2) hC dX9_placeOf_31 (by decide) ?_
          refine hz_L (L' := [(0, .ref (adr 13 0)), (1, .int a0), (2, .int (x2 + (1 : Int32)))]) [1, 2, 0] rfl ?_
          exact ih2 _ _
  refine hz_iconst (v := (0 : Int32)) (n := 1) hC dX9_placeOf_0 (by decide +kernel) rfl ?_
  refine hz_istore_n (L' := [(2, .int (0 : Int32)), (0, .ref (adr 13 0)), (1, .int a0)]) (n := 2) hC dX9_placeOf_1 rfl (by decide) rfl rfl ?_
  refine hz_L (L' := [(0, .ref (adr 13 0)), (1, .int a0), (2, .int (0 : Int32))]) [1, 2, 0] rfl ?_
  exact l2 hp_fu _ _
def L_X9_leavesQueue_19 (a0 : Int32)   : Nat → Int32 → hp_M → Option (Unit × hp_M)
  | 0, _, _ => none
  | n19 + 1, x3, M => (if (M 13 1 30) ≤ x3 then (if ((31 : Int32) + (M 13 1 30)) < 0 ∨ 242 ≤ (((31 : Int32) + (M 13 1 30))).toNatClampNeg then none else (some ((), (hp_p M 13 1 (((31 : Int32) + (M 13 1 30))).toNatClampNeg (0 : Int32))))) else (if (((31 : Int32) + x3) + (1 : Int32)) < 0 ∨ 242 ≤ ((((31 : Int32) + x3) + (1 : Int32))).toNatClampNeg then none else (if ((31 : Int32) + x3) < 0 ∨ 242 ≤ (((31 : Int32) + x3)).toNatClampNeg then none else (L_X9_leavesQueue_19 a0 n19 (x3 + (1 : Int32)) (hp_p M 13 1 (((31 : Int32) + x3)).toNatClampNeg (M 13 1 ((((31 : Int32) + x3) + (1 : Int32))).toNatClampNeg))))))
def F_X9_leavesQueue (a0 : Int32) (M : hp_M) : Option (Unit × hp_M) := (hp_b (F_X9_placeOf a0 M) (fun r1 M1 => (L_X9_leavesQueue_19 a0 hp_fu r1 (hp_p M1 13 1 30 ((M1 13 1 30) - (1 : Int32))))))
set_option maxRecDepth 20000 in
set_option maxHeartbeats 4000000 in
theorem c_X9_leavesQueue (l : Launch) (a0 : Int32)  (M : hp_M) : hp_Ct l yX9_leavesQueue cX9_leavesQueue 4 none 1 hp_IR (fun adr adV => [.ref (adr 13 0), .int a0]) hp_oo M (F_X9_leavesQueue a0 M) := by
  refine hp_start "HallPhoneModel" (fun adr adV => [(0, .ref (adr 13 0)), (1, .int a0)]) (by decide) rfl (fun _ _ => by simp only [lg_sl]; exact Nat.le_of_ble_eq_true rfl) (fun _ _ => rfl) ?_
  intro p e s m args below meth c A D ids adr adV cA rep G0 hI hC hr
  unfold F_X9_leavesQueue
  have l19 : ∀  (n19 : Nat) (x3 : Int32) (M : hp_M), hp_Z p l e (hp_rm 1) s m args below meth c 4 A D ids adr adV cA 0 0 (MQ below (hp_Q A D ids adr adV cA rep hp_oo G0) args s 0 0 A) G0 rep 19 [(0, .ref (adr 13 0)), (3, .int x3)] [] M (L_X9_leavesQueue_19 a0 n19 x3 M) := by
    intro  n19
    induction n19 with
    | zero => intro x3 M; exact hz_none hC
    | succ n19 ih19 =>
      intro x3 M
      rw [L_X9_leavesQueue_19.eq_2]
      refine hz_iload_n (a := 1) (n := 20) hC dX9_leavesQueue_19 rfl rfl rfl ?_
      refine hz_aload_n (a := 0) (n := 21) hC dX9_leavesQueue_20 rfl rfl rfl ?_
      refine fg_X9_7 (n := 24) hC hI dX9_leavesQueue_21 rfl ?_
      refine hz_bipush (v := (30 : Int32)) (n := 26) hC dX9_leavesQueue_24 (by decide +kernel) rfl ?_
      refine hz_ialdc (k := 30) (n := 27) hC (by decide +kernel) (by decide) dX9_leavesQueue_26 (hI 1 (by decide)) ha_m1 rfl ?_
      refine hz_icmp_ge (tgt := 56) (n := 30) hC dX9_leavesQueue_27 (by decide) rfl (fun _ => ?_) (fun _ => ?_)
      · refine hz_aload_n (a := 0) (n := 57) hC dX9_leavesQueue_56 rfl rfl rfl ?_
        refine fg_X9_7 (n := 60) hC hI dX9_leavesQueue_57 rfl ?_
        refine hz_bipush (v := (31 : Int32)) (n := 62) hC dX9_leavesQueue_60 (by decide +kernel) rfl ?_
        refine hz_aload_n (a := 0) (n := 63) hC dX9_leavesQueue_62 rfl rfl rfl ?_
        refine fg_X9_7 (n := 66) hC hI dX9_leavesQueue_63 rfl ?_
        refine hz_bipush (v := (30 : Int32)) (n := 68) hC dX9_leavesQueue_66 (by decide +kernel) rfl ?_
        refine hz_ialdc (k := 30) (n := 69) hC (by decide +kernel) (by decide) dX9_leavesQueue_68 (hI 1 (by decide)) ha_m1 rfl ?_
        refine hz_iadd (n := 70) hC dX9_leavesQueue_69 rfl ?_
        refine hz_iconst (v := (0 : Int32)) (n := 71) hC dX9_leavesQueue_70 (by decide +kernel) rfl ?_
        refine hz_iast (n := 72) hC dX9_leavesQueue_71 (hI 1 (by decide)) ha_m1 rfl (fun _ => ?_)
        exact hz_vret hC hr dX9_leavesQueue_72
      · refine hz_aload_n (a := 0) (n := 31) hC dX9_leavesQueue_30 rfl rfl rfl ?_
        refine fg_X9_7 (n := 34) hC hI dX9_leavesQueue_31 rfl ?_
        refine hz_bipush (v := (31 : Int32)) (n := 36) hC dX9_leavesQueue_34 (by decide +kernel) rfl ?_
        refine hz_iload_n (a := 1) (n := 37) hC dX9_leavesQueue_36 rfl rfl rfl ?_
        refine hz_iadd (n := 38) hC dX9_leavesQueue_37 rfl ?_
        refine hz_aload_n (a := 0) (n := 39) hC dX9_leavesQueue_38 rfl rfl rfl ?_
        refine fg_X9_7 (n := 42) hC hI dX9_leavesQueue_39 rfl ?_
        refine hz_bipush (v := (31 : Int32)) (n := 44) hC dX9_leavesQueue_42 (by decide +kernel) rfl ?_
        refine hz_iload_n (a := 1) (n := 45) hC dX9_leavesQueue_44 rfl rfl rfl ?_
        refine hz_iadd (n := 46) hC dX9_leavesQueue_45 rfl ?_
        refine hz_iconst (v := (1 : Int32)) (n := 47) hC dX9_leavesQueue_46 (by decide +kernel) rfl ?_
        refine hz_iadd (n := 48) hC dX9_leavesQueue_47 rfl ?_
        refine hz_iald (n := 49) hC dX9_leavesQueue_48 (hI 1 (by decide)) ha_m1 rfl (fun _ => ?_)
        refine hz_iast (n := 50) hC dX9_leavesQueue_49 (hI 1 (by decide)) ha_m1 rfl (fun _ => ?_)
        refine hz_iinc (a := 1) (v := (x3 + (1 : Int32))) (L' := [(3, .int (x3 + (1 : Int32))), (0, .ref (adr 13 0))]) (n := 53) hC dX9_leavesQueue_50 rfl rfl (by decide) rfl rfl ?_
        refine hz_goto (n := 19) hC dX9_leavesQueue_53 (by decide) ?_
        refine hz_L (L' := [(0, .ref (adr 13 0)), (3, .int (x3 + (1 : Int32)))]) [1, 0] rfl ?_
        exact ih19 _ _
  refine hz_aload_n (a := 0) (n := 1) hC dX9_leavesQueue_0 rfl rfl rfl ?_
  refine hz_iload_n (a := 1) (n := 2) hC dX9_leavesQueue_1 rfl rfl rfl ?_
  refine hz_callV (k := 1) (As := [.int a0]) (st := []) (S1 := fun r => .int r :: []) (n := 5) hC (c_X9_placeOf l a0   M) kv_X9_placeOf wd_7_28 hI dX9_leavesQueue_2 rfl (hI 0 (by decide)) he_X9 rfl rfl rfl (Nat.le_of_ble_eq_true rfl) ⟨Nat.le_of_ble_eq_true rfl, Nat.le_of_ble_eq_true rfl⟩ ⟨Nat.zero_le _, Nat.zero_le _⟩ (fun _ => rfl) rfl (fun r1 M1 _ => ?_)
  refine hz_istore_n (L' := [(2, .int r1), (0, .ref (adr 13 0)), (1, .int a0)]) (n := 6) hC dX9_leavesQueue_5 rfl (by decide) rfl rfl ?_
  refine hz_aload_n (a := 1) (n := 7) hC dX9_leavesQueue_6 rfl rfl rfl ?_
  refine fg_X9_7 (n := 10) hC hI dX9_leavesQueue_7 rfl ?_
  refine hz_bipush (v := (30 : Int32)) (n := 12) hC dX9_leavesQueue_10 (by decide +kernel) rfl ?_
  refine hz_dup2 (n := 13) hC dX9_leavesQueue_12 rfl rfl rfl ?_
  refine hz_ialdc (k := 30) (n := 14) hC (by decide +kernel) (by decide) dX9_leavesQueue_13 (hI 1 (by decide)) ha_m1 rfl ?_
  refine hz_iconst (v := (1 : Int32)) (n := 15) hC dX9_leavesQueue_14 (by decide +kernel) rfl ?_
  refine hz_isub (n := 16) hC dX9_leavesQueue_15 rfl ?_
  refine hz_iastc (k := 30) (n := 17) hC (by decide +kernel) (by decide) dX9_leavesQueue_16 (hI 1 (by decide)) ha_m1 rfl ?_
  refine hz_iload_n (a := 0) (n := 18) hC dX9_leavesQueue_17 rfl rfl rfl ?_
  refine hz_istore_n (L' := [(3, .int r1), (2, .int r1), (0, .ref (adr 13 0)), (1, .int a0)]) (n := 19) hC dX9_leavesQueue_18 rfl (by decide) rfl rfl ?_
  refine hz_L (L' := [(0, .ref (adr 13 0)), (3, .int r1)]) [2, 0] rfl ?_
  exact l19 hp_fu _ _
def L_X9_messagesFor_4 (a0 : Int32)   : Nat → Int32 → Int32 → hp_M → Option (Int32 × hp_M)
  | 0, _, _, _ => none
  | n4 + 1, x2, x3, M => (if (M 13 1 13) ≤ x3 then (some (x2, M)) else (if ((14 : Int32) + ((2 : Int32) * x3)) < 0 ∨ 242 ≤ (((14 : Int32) + ((2 : Int32) * x3))).toNatClampNeg then none else (if (M 13 1 (((14 : Int32) + ((2 : Int32) * x3))).toNatClampNeg) = a0 then (L_X9_messagesFor_4 a0 n4 (x2 + (1 : Int32)) (x3 + (1 : Int32)) M) else (L_X9_messagesFor_4 a0 n4 (x2 + (0 : Int32)) (x3 + (1 : Int32)) M))))
def F_X9_messagesFor (a0 : Int32) (M : hp_M) : Option (Int32 × hp_M) := (L_X9_messagesFor_4 a0 hp_fu (0 : Int32) (0 : Int32) M)
set_option maxRecDepth 20000 in
set_option maxHeartbeats 4000000 in
theorem c_X9_messagesFor (l : Launch) (a0 : Int32)  (M : hp_M) : hp_Ct l yX9_messagesFor cX9_messagesFor 4 (some .int) 0 hp_IR (fun adr adV => [.ref (adr 13 0), .int a0]) hp_oi M (F_X9_messagesFor a0 M) := by
  refine hp_start "HallPhoneModel" (fun adr adV => [(0, .ref (adr 13 0)), (1, .int a0)]) (by decide) rfl (fun _ _ => by simp only [lg_sl]; exact Nat.le_of_ble_eq_true rfl) (fun _ _ => rfl) ?_
  intro p e s m args below meth c A D ids adr adV cA rep G0 hI hC hr
  unfold F_X9_messagesFor
  have l4 : ∀  (n4 : Nat) (x2 : Int32) (x3 : Int32) (M : hp_M), hp_Z p l e (hp_rm 0) s m args below meth c 4 A D ids adr adV cA 0 0 (MQ below (hp_Q A D ids adr adV cA rep hp_oi G0) args s 0 0 A) G0 rep 4 [(0, .ref (adr 13 0)), (1, .int a0), (2, .int x2), (3, .int x3)] [] M (L_X9_messagesFor_4 a0 n4 x2 x3 M) := by
    intro  n4
    induction n4 with
    | zero => intro x2 x3 M; exact hz_none hC
    | succ n4 ih4 =>
      intro x2 x3 M
      rw [L_X9_messagesFor_4.eq_2]
      refine hz_iload_n (a := 3) (n := 5) hC dX9_messagesFor_4 rfl rfl rfl ?_
      refine hz_aload_n (a := 0) (n := 6) hC dX9_messagesFor_5 rfl rfl rfl ?_
      refine fg_X9_7 (n := 9) hC hI dX9_messagesFor_6 rfl ?_
      refine hz_bipush (v := (13 : Int32)) (n := 11) hC dX9_messagesFor_9 (by decide +kernel) rfl ?_
      refine hz_ialdc (k := 13) (n := 12) hC (by decide +kernel) (by decide) dX9_messagesFor_11 (hI 1 (by decide)) ha_m1 rfl ?_
      refine hz_icmp_ge (tgt := 44) (n := 15) hC dX9_messagesFor_12 (by decide) rfl (fun _ => ?_) (fun _ => ?_)
      · refine hz_iload_n (a := 2) (n := 45) hC dX9_messagesFor_44 rfl rfl rfl ?_
        exact hz_iret hC hr dX9_messagesFor_45
      · refine hz_iload_n (a := 2) (n := 16) hC dX9_messagesFor_15 rfl rfl rfl ?_
        refine hz_aload_n (a := 0) (n := 17) hC dX9_messagesFor_16 rfl rfl rfl ?_
        refine fg_X9_7 (n := 20) hC hI dX9_messagesFor_17 rfl ?_
        refine hz_bipush (v := (14 : Int32)) (n := 22) hC dX9_messagesFor_20 (by decide +kernel) rfl ?_
        refine hz_iconst (v := (2 : Int32)) (n := 23) hC dX9_messagesFor_22 (by decide +kernel) rfl ?_
        refine hz_iload_n (a := 3) (n := 24) hC dX9_messagesFor_23 rfl rfl rfl ?_
        refine hz_imul (n := 25) hC dX9_messagesFor_24 rfl ?_
        refine hz_iadd (n := 26) hC dX9_messagesFor_25 rfl ?_
        refine hz_iald (n := 27) hC dX9_messagesFor_26 (hI 1 (by decide)) ha_m1 rfl (fun _ => ?_)
        refine hz_iload_n (a := 1) (n := 28) hC dX9_messagesFor_27 rfl rfl rfl ?_
        refine hz_icmp_ne (tgt := 35) (n := 31) hC dX9_messagesFor_28 (by decide) rfl (fun _ => ?_) (fun _ => ?_)
        · refine hz_iconst (v := (1 : Int32)) (n := 32) hC dX9_messagesFor_31 (by decide +kernel) rfl ?_
          refine hz_goto (n := 36) hC dX9_messagesFor_32 (by decide) ?_
          refine hz_iadd (n := 37) hC dX9_messagesFor_36 rfl ?_
          refine hz_istore_n (L' := [(2, .int (x2 + (1 : Int32))), (0, .ref (adr 13 0)), (1, .int a0), (3, .int x3)]) (n := 38) hC dX9_messagesFor_37 rfl (by decide) rfl rfl ?_
          refine hz_iinc (a := 3) (v := (x3 + (1 : Int32))) (L' := [(3, .int (x3 + (1 : Int32))), (2, .int (x2 + (1 : Int32))), (0, .ref (adr 13 0)), (1, .int a0)]) (n := 41) hC dX9_messagesFor_38 rfl rfl (by decide) rfl rfl ?_
          refine hz_goto (n := 4) hC dX9_messagesFor_41 (by decide) ?_
          refine hz_L (L' := [(0, .ref (adr 13 0)), (1, .int a0), (2, .int (x2 + (1 : Int32))), (3, .int (x3 + (1 : Int32)))]) [2, 3, 1, 0] rfl ?_
          exact ih4 _ _ _
        · refine hz_iconst (v := (0 : Int32)) (n := 36) hC dX9_messagesFor_35 (by decide +kernel) rfl ?_
          refine hz_iadd (n := 37) hC dX9_messagesFor_36 rfl ?_
          refine hz_istore_n (L' := [(2, .int (x2 + (0 : Int32))), (0, .ref (adr 13 0)), (1, .int a0), (3, .int x3)]) (n := 38) hC dX9_messagesFor_37 rfl (by decide) rfl rfl ?_
          refine hz_iinc (a := 3) (v := (x3 + (1 : Int32))) (L' := [(3, .int (x3 + (1 : Int32))), (2, .int (x2 + (0 : Int32))), (0, .ref (adr 13 0)), (1, .int a0)]) (n := 41) hC dX9_messagesFor_38 rfl rfl (by decide) rfl rfl ?_
          refine hz_goto (n := 4) hC dX9_messagesFor_41 (by decide) ?_
          refine hz_L (L' := [(0, .ref (adr 13 0)), (1, .int a0), (2, .int (x2 + (0 : Int32))), (3, .int (x3 + (1 : Int32)))]) [2, 3, 1, 0] rfl ?_
          exact ih4 _ _ _
  refine hz_iconst (v := (0 : Int32)) (n := 1) hC dX9_messagesFor_0 (by decide +kernel) rfl ?_
  refine hz_istore_n (L' := [(2, .int (0 : Int32)), (0, .ref (adr 13 0)), (1, .int a0)]) (n := 2) hC dX9_messagesFor_1 rfl (by decide) rfl rfl ?_
  refine hz_iconst (v := (0 : Int32)) (n := 3) hC dX9_messagesFor_2 (by decide +kernel) rfl ?_
  refine hz_istore_n (L' := [(3, .int (0 : Int32)), (2, .int (0 : Int32)), (0, .ref (adr 13 0)), (1, .int a0)]) (n := 4) hC dX9_messagesFor_3 rfl (by decide) rfl rfl ?_
  refine hz_L (L' := [(0, .ref (adr 13 0)), (1, .int a0), (2, .int (0 : Int32)), (3, .int (0 : Int32))]) [2, 3, 1, 0] rfl ?_
  exact l4 hp_fu _ _ _
def L_X9_reads_4 (a0 : Int32)   : Nat → Int32 → Int32 → hp_M → Option (Unit × hp_M)
  | 0, _, _, _ => none
  | n4 + 1, x2, x3, M => (if (M 13 1 13) ≤ x3 then (hp_b (F_X9_counts (7 : Int32) ((M 13 1 13) - x2) M) (fun _ M1 => (some ((), (hp_p M1 13 1 13 x2))))) else (if ((14 : Int32) + ((2 : Int32) * x3)) < 0 ∨ 242 ≤ (((14 : Int32) + ((2 : Int32) * x3))).toNatClampNeg then none else (if (((14 : Int32) + ((2 : Int32) * x3)) + (1 : Int32)) < 0 ∨ 242 ≤ ((((14 : Int32) + ((2 : Int32) * x3)) + (1 : Int32))).toNatClampNeg then none else (if ((14 : Int32) + ((2 : Int32) * x3)) < 0 ∨ 242 ≤ (((14 : Int32) + ((2 : Int32) * x3))).toNatClampNeg then none else (if (((14 : Int32) + ((2 : Int32) * x3)) + (1 : Int32)) < 0 ∨ 242 ≤ ((((14 : Int32) + ((2 : Int32) * x3)) + (1 : Int32))).toNatClampNeg then none else (if (M 13 1 (((14 : Int32) + ((2 : Int32) * x3))).toNatClampNeg) = a0 then (L_X9_reads_4 a0 n4 x2 (x3 + (1 : Int32)) (hp_p (hp_p M 13 1 (((14 : Int32) + ((2 : Int32) * x3))).toNatClampNeg (0 : Int32)) 13 1 ((((14 : Int32) + ((2 : Int32) * x3)) + (1 : Int32))).toNatClampNeg (0 : Int32))) else (if ((14 : Int32) + ((2 : Int32) * x2)) < 0 ∨ 242 ≤ (((14 : Int32) + ((2 : Int32) * x2))).toNatClampNeg then none else (if (((14 : Int32) + ((2 : Int32) * x2)) + (1 : Int32)) < 0 ∨ 242 ≤ ((((14 : Int32) + ((2 : Int32) * x2)) + (1 : Int32))).toNatClampNeg then none else (L_X9_reads_4 a0 n4 (x2 + (1 : Int32)) (x3 + (1 : Int32)) (hp_p (hp_p (hp_p (hp_p M 13 1 (((14 : Int32) + ((2 : Int32) * x3))).toNatClampNeg (0 : Int32)) 13 1 ((((14 : Int32) + ((2 : Int32) * x3)) + (1 : Int32))).toNatClampNeg (0 : Int32)) 13 1 (((14 : Int32) + ((2 : Int32) * x2))).toNatClampNeg (M 13 1 (((14 : Int32) + ((2 : Int32) * x3))).toNatClampNeg)) 13 1 ((((14 : Int32) + ((2 : Int32) * x2)) + (1 : Int32))).toNatClampNeg (M 13 1 ((((14 : Int32) + ((2 : Int32) * x3)) + (1 : Int32))).toNatClampNeg)))))))))))
def F_X9_reads (a0 : Int32) (M : hp_M) : Option (Unit × hp_M) := (L_X9_reads_4 a0 hp_fu (0 : Int32) (0 : Int32) M)
set_option maxRecDepth 20000 in
set_option maxHeartbeats 4000000 in
theorem c_X9_reads (l : Launch) (a0 : Int32)  (M : hp_M) : hp_Ct l yX9_reads cX9_reads 6 none 1 hp_IR (fun adr adV => [.ref (adr 13 0), .int a0]) hp_oo M (F_X9_reads a0 M) := by
  refine hp_start "HallPhoneModel" (fun adr adV => [(0, .ref (adr 13 0)), (1, .int a0)]) (by decide) rfl (fun _ _ => by simp only [lg_sl]; exact Nat.le_of_ble_eq_true rfl) (fun _ _ => rfl) ?_
  intro p e s m args below meth c A D ids adr adV cA rep G0 hI hC hr
  unfold F_X9_reads
  have l4 : ∀  (n4 : Nat) (x2 : Int32) (x3 : Int32) (M : hp_M), hp_Z p l e (hp_rm 1) s m args below meth c 6 A D ids adr adV cA 0 0 (MQ below (hp_Q A D ids adr adV cA rep hp_oo G0) args s 0 0 A) G0 rep 4 [(0, .ref (adr 13 0)), (1, .int a0), (2, .int x2), (3, .int x3)] [] M (L_X9_reads_4 a0 n4 x2 x3 M) := by
    intro  n4
    induction n4 with
    | zero => intro x2 x3 M; exact hz_none hC
    | succ n4 ih4 =>
      intro x2 x3 M
      rw [L_X9_reads_4.eq_2]
      refine hz_iload_n (a := 3) (n := 5) hC dX9_reads_4 rfl rfl rfl ?_
      refine hz_aload_n (a := 0) (n := 6) hC dX9_reads_5 rfl rfl rfl ?_
      refine fg_X9_7 (n := 9) hC hI dX9_reads_6 rfl ?_
      refine hz_bipush (v := (13 : Int32)) (n := 11) hC dX9_reads_9 (by decide +kernel) rfl ?_
      refine hz_ialdc (k := 13) (n := 12) hC (by decide +kernel) (by decide) dX9_reads_11 (hI 1 (by decide)) ha_m1 rfl ?_
      refine hz_icmp_ge (tgt := 112) (n := 15) hC dX9_reads_12 (by decide) rfl (fun _ => ?_) (fun _ => ?_)
      · refine hz_aload_n (a := 0) (n := 113) hC dX9_reads_112 rfl rfl rfl ?_
        refine hz_bipush (v := (7 : Int32)) (n := 115) hC dX9_reads_113 (by decide +kernel) rfl ?_
        refine hz_aload_n (a := 0) (n := 116) hC dX9_reads_115 rfl rfl rfl ?_
        refine fg_X9_7 (n := 119) hC hI dX9_reads_116 rfl ?_
        refine hz_bipush (v := (13 : Int32)) (n := 121) hC dX9_reads_119 (by decide +kernel) rfl ?_
        refine hz_ialdc (k := 13) (n := 122) hC (by decide +kernel) (by decide) dX9_reads_121 (hI 1 (by decide)) ha_m1 rfl ?_
        refine hz_iload_n (a := 2) (n := 123) hC dX9_reads_122 rfl rfl rfl ?_
        refine hz_isub (n := 124) hC dX9_reads_123 rfl ?_
        refine hz_callV (k := 2) (As := [.int (7 : Int32), .int ((M 13 1 13) - x2)]) (st := []) (S1 := fun _ => []) (n := 127) hC (c_X9_counts l (7 : Int32) ((M 13 1 13) - x2)   M) kv_X9_counts wd_7_49 hI dX9_reads_124 rfl (hI 0 (by decide)) he_X9 rfl rfl rfl (Nat.le_of_ble_eq_true rfl) ⟨Nat.le_of_ble_eq_true rfl, Nat.le_of_ble_eq_true rfl⟩ ⟨Nat.zero_le _, Nat.zero_le _⟩ (fun _ => rfl) rfl (fun r1 M1 _ => ?_)
        refine hz_aload_n (a := 0) (n := 128) hC dX9_reads_127 rfl rfl rfl ?_
        refine fg_X9_7 (n := 131) hC hI dX9_reads_128 rfl ?_
        refine hz_bipush (v := (13 : Int32)) (n := 133) hC dX9_reads_131 (by decide +kernel) rfl ?_
        refine hz_iload_n (a := 2) (n := 134) hC dX9_reads_133 rfl rfl rfl ?_
        refine hz_iastc (k := 13) (n := 135) hC (by decide +kernel) (by decide) dX9_reads_134 (hI 1 (by decide)) ha_m1 rfl ?_
        exact hz_vret hC hr dX9_reads_135
      · refine hz_aload_n (a := 0) (n := 16) hC dX9_reads_15 rfl rfl rfl ?_
        refine fg_X9_7 (n := 19) hC hI dX9_reads_16 rfl ?_
        refine hz_bipush (v := (14 : Int32)) (n := 21) hC dX9_reads_19 (by decide +kernel) rfl ?_
        refine hz_iconst (v := (2 : Int32)) (n := 22) hC dX9_reads_21 (by decide +kernel) rfl ?_
        refine hz_iload_n (a := 3) (n := 23) hC dX9_reads_22 rfl rfl rfl ?_
        refine hz_imul (n := 24) hC dX9_reads_23 rfl ?_
        refine hz_iadd (n := 25) hC dX9_reads_24 rfl ?_
        refine hz_iald (n := 26) hC dX9_reads_25 (hI 1 (by decide)) ha_m1 rfl (fun _ => ?_)
        refine hz_istore (L' := [(4, .int (M 13 1 (((14 : Int32) + ((2 : Int32) * x3))).toNatClampNeg)), (0, .ref (adr 13 0)), (1, .int a0), (2, .int x2), (3, .int x3)]) (n := 28) hC dX9_reads_26 (by decide) rfl rfl ?_
        refine hz_aload_n (a := 1) (n := 29) hC dX9_reads_28 rfl rfl rfl ?_
        refine fg_X9_7 (n := 32) hC hI dX9_reads_29 rfl ?_
        refine hz_bipush (v := (14 : Int32)) (n := 34) hC dX9_reads_32 (by decide +kernel) rfl ?_
        refine hz_iconst (v := (2 : Int32)) (n := 35) hC dX9_reads_34 (by decide +kernel) rfl ?_
        refine hz_iload_n (a := 4) (n := 36) hC dX9_reads_35 rfl rfl rfl ?_
        refine hz_imul (n := 37) hC dX9_reads_36 rfl ?_
        refine hz_iadd (n := 38) hC dX9_reads_37 rfl ?_
        refine hz_iconst (v := (1 : Int32)) (n := 39) hC dX9_reads_38 (by decide +kernel) rfl ?_
        refine hz_iadd (n := 40) hC dX9_reads_39 rfl ?_
        refine hz_iald (n := 41) hC dX9_reads_40 (hI 1 (by decide)) ha_m1 rfl (fun _ => ?_)
        refine hz_istore (L' := [(5, .int (M 13 1 ((((14 : Int32) + ((2 : Int32) * x3)) + (1 : Int32))).toNatClampNeg)), (4, .int (M 13 1 (((14 : Int32) + ((2 : Int32) * x3))).toNatClampNeg)), (0, .ref (adr 13 0)), (1, .int a0), (2, .int x2), (3, .int x3)]) (n := 43) hC dX9_reads_41 (by decide) rfl rfl ?_
        refine hz_aload_n (a := 2) (n := 44) hC dX9_reads_43 rfl rfl rfl ?_
        refine fg_X9_7 (n := 47) hC hI dX9_reads_44 rfl ?_
        refine hz_bipush (v := (14 : Int32)) (n := 49) hC dX9_reads_47 (by decide +kernel) rfl ?_
        refine hz_iconst (v := (2 : Int32)) (n := 50) hC dX9_reads_49 (by decide +kernel) rfl ?_
        refine hz_iload_n (a := 5) (n := 51) hC dX9_reads_50 rfl rfl rfl ?_
        refine hz_imul (n := 52) hC dX9_reads_51 rfl ?_
        refine hz_iadd (n := 53) hC dX9_reads_52 rfl ?_
        refine hz_iconst (v := (0 : Int32)) (n := 54) hC dX9_reads_53 (by decide +kernel) rfl ?_
        refine hz_iast (n := 55) hC dX9_reads_54 (hI 1 (by decide)) ha_m1 rfl (fun _ => ?_)
        refine hz_aload_n (a := 2) (n := 56) hC dX9_reads_55 rfl rfl rfl ?_
        refine fg_X9_7 (n := 59) hC hI dX9_reads_56 rfl ?_
        refine hz_bipush (v := (14 : Int32)) (n := 61) hC dX9_reads_59 (by decide +kernel) rfl ?_
        refine hz_iconst (v := (2 : Int32)) (n := 62) hC dX9_reads_61 (by decide +kernel) rfl ?_
        refine hz_iload_n (a := 5) (n := 63) hC dX9_reads_62 rfl rfl rfl ?_
        refine hz_imul (n := 64) hC dX9_reads_63 rfl ?_
        refine hz_iadd (n := 65) hC dX9_reads_64 rfl ?_
        refine hz_iconst (v := (1 : Int32)) (n := 66) hC dX9_reads_65 (by decide +kernel) rfl ?_
        refine hz_iadd (n := 67) hC dX9_reads_66 rfl ?_
        refine hz_iconst (v := (0 : Int32)) (n := 68) hC dX9_reads_67 (by decide +kernel) rfl ?_
        refine hz_iast (n := 69) hC dX9_reads_68 (hI 1 (by decide)) ha_m1 rfl (fun _ => ?_)
        refine hz_iload (a := 1) (n := 71) hC dX9_reads_69 rfl rfl ?_
        refine hz_iload_n (a := 3) (n := 72) hC dX9_reads_71 rfl rfl rfl ?_
        refine hz_icmp_eq (tgt := 106) (n := 75) hC dX9_reads_72 (by decide) rfl (fun _ => ?_) (fun _ => ?_)
        · refine hz_iinc (a := 5) (v := (x3 + (1 : Int32))) (L' := [(3, .int (x3 + (1 : Int32))), (5, .int (M 13 1 ((((14 : Int32) + ((2 : Int32) * x3)) + (1 : Int32))).toNatClampNeg)), (4, .int (M 13 1 (((14 : Int32) + ((2 : Int32) * x3))).toNatClampNeg)), (0, .ref (adr 13 0)), (1, .int a0), (2, .int x2)]) (n := 109) hC dX9_reads_106 rfl rfl (by decide) rfl rfl ?_
          refine hz_goto (n := 4) hC dX9_reads_109 (by decide) ?_
          refine hz_L (L' := [(0, .ref (adr 13 0)), (1, .int a0), (2, .int x2), (3, .int (x3 + (1 : Int32)))]) [3, 4, 5, 0] rfl ?_
          exact ih4 _ _ _
        · refine hz_aload_n (a := 2) (n := 76) hC dX9_reads_75 rfl rfl rfl ?_
          refine fg_X9_7 (n := 79) hC hI dX9_reads_76 rfl ?_
          refine hz_bipush (v := (14 : Int32)) (n := 81) hC dX9_reads_79 (by decide +kernel) rfl ?_
          refine hz_iconst (v := (2 : Int32)) (n := 82) hC dX9_reads_81 (by decide +kernel) rfl ?_
          refine hz_iload_n (a := 4) (n := 83) hC dX9_reads_82 rfl rfl rfl ?_
          refine hz_imul (n := 84) hC dX9_reads_83 rfl ?_
          refine hz_iadd (n := 85) hC dX9_reads_84 rfl ?_
          refine hz_iload (a := 1) (n := 87) hC dX9_reads_85 rfl rfl ?_
          refine hz_iast (n := 88) hC dX9_reads_87 (hI 1 (by decide)) ha_m1 rfl (fun _ => ?_)
          refine hz_aload_n (a := 2) (n := 89) hC dX9_reads_88 rfl rfl rfl ?_
          refine fg_X9_7 (n := 92) hC hI dX9_reads_89 rfl ?_
          refine hz_bipush (v := (14 : Int32)) (n := 94) hC dX9_reads_92 (by decide +kernel) rfl ?_
          refine hz_iconst (v := (2 : Int32)) (n := 95) hC dX9_reads_94 (by decide +kernel) rfl ?_
          refine hz_iload_n (a := 4) (n := 96) hC dX9_reads_95 rfl rfl rfl ?_
          refine hz_imul (n := 97) hC dX9_reads_96 rfl ?_
          refine hz_iadd (n := 98) hC dX9_reads_97 rfl ?_
          refine hz_iconst (v := (1 : Int32)) (n := 99) hC dX9_reads_98 (by decide +kernel) rfl ?_
          refine hz_iadd (n := 100) hC dX9_reads_99 rfl ?_
          refine hz_iload (a := 0) (n := 102) hC dX9_reads_100 rfl rfl ?_
          refine hz_iast (n := 103) hC dX9_reads_102 (hI 1 (by decide)) ha_m1 rfl (fun _ => ?_)
          refine hz_iinc (a := 4) (v := (x2 + (1 : Int32))) (L' := [(2, .int (x2 + (1 : Int32))), (5, .int (M 13 1 ((((14 : Int32) + ((2 : Int32) * x3)) + (1 : Int32))).toNatClampNeg)), (4, .int (M 13 1 (((14 : Int32) + ((2 : Int32) * x3))).toNatClampNeg)), (0, .ref (adr 13 0)), (1, .int a0), (3, .int x3)]) (n := 106) hC dX9_reads_103 rfl rfl (by decide) rfl rfl ?_
          refine hz_iinc (a := 5) (v := (x3 + (1 : Int32))) (L' := [(3, .int (x3 + (1 : Int32))), (2, .int (x2 + (1 : Int32))), (5, .int (M 13 1 ((((14 : Int32) + ((2 : Int32) * x3)) + (1 : Int32))).toNatClampNeg)), (4, .int (M 13 1 (((14 : Int32) + ((2 : Int32) * x3))).toNatClampNeg)), (0, .ref (adr 13 0)), (1, .int a0)]) (n := 109) hC dX9_reads_106 rfl rfl (by decide) rfl rfl ?_
          refine hz_goto (n := 4) hC dX9_reads_109 (by decide) ?_
          refine hz_L (L' := [(0, .ref (adr 13 0)), (1, .int a0), (2, .int (x2 + (1 : Int32))), (3, .int (x3 + (1 : Int32)))]) [4, 5, 1, 0] rfl ?_
          exact ih4 _ _ _
  refine hz_iconst (v := (0 : Int32)) (n := 1) hC dX9_reads_0 (by decide +kernel) rfl ?_
  refine hz_istore_n (L' := [(2, .int (0 : Int32)), (0, .ref (adr 13 0)), (1, .int a0)]) (n := 2) hC dX9_reads_1 rfl (by decide) rfl rfl ?_
  refine hz_iconst (v := (0 : Int32)) (n := 3) hC dX9_reads_2 (by decide +kernel) rfl ?_
  refine hz_istore_n (L' := [(3, .int (0 : Int32)), (2, .int (0 : Int32)), (0, .ref (adr 13 0)), (1, .int a0)]) (n := 4) hC dX9_reads_3 rfl (by decide) rfl rfl ?_
  refine hz_L (L' := [(0, .ref (adr 13 0)), (1, .int a0), (2, .int (0 : Int32)), (3, .int (0 : Int32))]) [2, 3, 1, 0] rfl ?_
  exact l4 hp_fu _ _ _
def F_X9_costOf (a0 : Int32) (M : hp_M) : Option (Int32 × hp_M) := (if (M 13 1 8) = 0 then none else (some (((M 13 1 9) * (((a0 + (M 13 1 8)) - (1 : Int32)) / (M 13 1 8))), M)))
set_option maxRecDepth 20000 in
set_option maxHeartbeats 4000000 in
theorem c_X9_costOf (l : Launch) (a0 : Int32)  (M : hp_M) : hp_Ct l yX9_costOf cX9_costOf 2 (some .int) 0 hp_IR (fun adr adV => [.ref (adr 13 0), .int a0]) hp_oi M (F_X9_costOf a0 M) := by
  refine hp_start "HallPhoneModel" (fun adr adV => [(0, .ref (adr 13 0)), (1, .int a0)]) (by decide) rfl (fun _ _ => by simp only [lg_sl]; exact Nat.le_of_ble_eq_true rfl) (fun _ _ => rfl) ?_
  intro p e s m args below meth c A D ids adr adV cA rep G0 hI hC hr
  unfold F_X9_costOf
  refine hz_aload_n (a := 0) (n := 1) hC dX9_costOf_0 rfl rfl rfl ?_
  refine fg_X9_7 (n := 4) hC hI dX9_costOf_1 rfl ?_
  refine hz_bipush (v := (9 : Int32)) (n := 6) hC dX9_costOf_4 (by decide +kernel) rfl ?_
  refine hz_ialdc (k := 9) (n := 7) hC (by decide +kernel) (by decide) dX9_costOf_6 (hI 1 (by decide)) ha_m1 rfl ?_
  refine hz_iload_n (a := 1) (n := 8) hC dX9_costOf_7 rfl rfl rfl ?_
  refine hz_aload_n (a := 0) (n := 9) hC dX9_costOf_8 rfl rfl rfl ?_
  refine fg_X9_7 (n := 12) hC hI dX9_costOf_9 rfl ?_
  refine hz_bipush (v := (8 : Int32)) (n := 14) hC dX9_costOf_12 (by decide +kernel) rfl ?_
  refine hz_ialdc (k := 8) (n := 15) hC (by decide +kernel) (by decide) dX9_costOf_14 (hI 1 (by decide)) ha_m1 rfl ?_
  refine hz_iadd (n := 16) hC dX9_costOf_15 rfl ?_
  refine hz_iconst (v := (1 : Int32)) (n := 17) hC dX9_costOf_16 (by decide +kernel) rfl ?_
  refine hz_isub (n := 18) hC dX9_costOf_17 rfl ?_
  refine hz_aload_n (a := 0) (n := 19) hC dX9_costOf_18 rfl rfl rfl ?_
  refine fg_X9_7 (n := 22) hC hI dX9_costOf_19 rfl ?_
  refine hz_bipush (v := (8 : Int32)) (n := 24) hC dX9_costOf_22 (by decide +kernel) rfl ?_
  refine hz_ialdc (k := 8) (n := 25) hC (by decide +kernel) (by decide) dX9_costOf_24 (hI 1 (by decide)) ha_m1 rfl ?_
  refine hz_idiv (n := 26) hC dX9_costOf_25 rfl (fun _ => ?_)
  refine hz_imul (n := 27) hC dX9_costOf_26 rfl ?_
  exact hz_iret hC hr dX9_costOf_27
def F_X9_hears (a0 : Int32) (a1 : Int32) (M : hp_M) : Option (Int32 × hp_M) := (if a0 = a1 then (some ((0 : Int32), M)) else (hp_b (F_X9_of a0 (2 : Int32) M) (fun r1 M1 => (if r1 = 0 then (hp_b (F_X9_of a0 (1 : Int32) M1) (fun r2 M2 => (if r2 = (1 : Int32) then (hp_b (F_X9_of a0 (0 : Int32) M2) (fun r3 M3 => (if (M3 13 1 10) < r3 then (some ((0 : Int32), M3)) else (some ((1 : Int32), M3))))) else (some ((0 : Int32), M2))))) else (some ((0 : Int32), M1))))))
set_option maxRecDepth 20000 in
set_option maxHeartbeats 4000000 in
theorem c_X9_hears (l : Launch) (a0 : Int32) (a1 : Int32)  (M : hp_M) : hp_Ct l yX9_hears cX9_hears 3 (some .boolean) 1 hp_IR (fun adr adV => [.ref (adr 13 0), .int a0, .int a1]) hp_oi M (F_X9_hears a0 a1 M) := by
  refine hp_start "HallPhoneModel" (fun adr adV => [(0, .ref (adr 13 0)), (1, .int a0), (2, .int a1)]) (by decide) rfl (fun _ _ => by simp only [lg_sl]; exact Nat.le_of_ble_eq_true rfl) (fun _ _ => rfl) ?_
  intro p e s m args below meth c A D ids adr adV cA rep G0 hI hC hr
  unfold F_X9_hears
  refine hz_iload_n (a := 1) (n := 1) hC dX9_hears_0 rfl rfl rfl ?_
  refine hz_iload_n (a := 2) (n := 2) hC dX9_hears_1 rfl rfl rfl ?_
  refine hz_icmp_eq (tgt := 44) (n := 5) hC dX9_hears_2 (by decide) rfl (fun _ => ?_) (fun _ => ?_)
  · refine hz_iconst (v := (0 : Int32)) (n := 45) hC dX9_hears_44 (by decide +kernel) rfl ?_
    exact hz_zret hC hr nz_0 dX9_hears_45
  · refine hz_aload_n (a := 0) (n := 6) hC dX9_hears_5 rfl rfl rfl ?_
    refine hz_iload_n (a := 1) (n := 7) hC dX9_hears_6 rfl rfl rfl ?_
    refine hz_iconst (v := (2 : Int32)) (n := 8) hC dX9_hears_7 (by decide +kernel) rfl ?_
    refine hz_callV (k := 2) (As := [.int a0, .int (2 : Int32)]) (st := []) (S1 := fun r => .int r :: []) (n := 11) hC (c_X9_of l a0 (2 : Int32)   M) kv_X9_of wd_7_7 hI dX9_hears_8 rfl (hI 0 (by decide)) he_X9 rfl rfl rfl (Nat.le_of_ble_eq_true rfl) ⟨Nat.le_of_ble_eq_true rfl, Nat.le_of_ble_eq_true rfl⟩ ⟨Nat.zero_le _, Nat.zero_le _⟩ (fun _ => rfl) rfl (fun r1 M1 _ => ?_)
    refine hz_if_ne (tgt := 44) (n := 14) hC dX9_hears_11 (by decide) rfl (fun _ => ?_) (fun _ => ?_)
    · refine hz_aload_n (a := 0) (n := 15) hC dX9_hears_14 rfl rfl rfl ?_
      refine hz_iload_n (a := 1) (n := 16) hC dX9_hears_15 rfl rfl rfl ?_
      refine hz_iconst (v := (1 : Int32)) (n := 17) hC dX9_hears_16 (by decide +kernel) rfl ?_
      refine hz_callV (k := 2) (As := [.int a0, .int (1 : Int32)]) (st := []) (S1 := fun r => .int r :: []) (n := 20) hC (c_X9_of l a0 (1 : Int32)   M1) kv_X9_of wd_7_7 hI dX9_hears_17 rfl (hI 0 (by decide)) he_X9 rfl rfl rfl (Nat.le_of_ble_eq_true rfl) ⟨Nat.le_of_ble_eq_true rfl, Nat.le_of_ble_eq_true rfl⟩ ⟨Nat.zero_le _, Nat.zero_le _⟩ (fun _ => rfl) rfl (fun r2 M2 _ => ?_)
      refine hz_iconst (v := (1 : Int32)) (n := 21) hC dX9_hears_20 (by decide +kernel) rfl ?_
      refine hz_icmp_ne (tgt := 44) (n := 24) hC dX9_hears_21 (by decide) rfl (fun _ => ?_) (fun _ => ?_)
      · refine hz_aload_n (a := 0) (n := 25) hC dX9_hears_24 rfl rfl rfl ?_
        refine hz_iload_n (a := 1) (n := 26) hC dX9_hears_25 rfl rfl rfl ?_
        refine hz_iconst (v := (0 : Int32)) (n := 27) hC dX9_hears_26 (by decide +kernel) rfl ?_
        refine hz_callV (k := 2) (As := [.int a0, .int (0 : Int32)]) (st := []) (S1 := fun r => .int r :: []) (n := 30) hC (c_X9_of l a0 (0 : Int32)   M2) kv_X9_of wd_7_7 hI dX9_hears_27 rfl (hI 0 (by decide)) he_X9 rfl rfl rfl (Nat.le_of_ble_eq_true rfl) ⟨Nat.le_of_ble_eq_true rfl, Nat.le_of_ble_eq_true rfl⟩ ⟨Nat.zero_le _, Nat.zero_le _⟩ (fun _ => rfl) rfl (fun r3 M3 _ => ?_)
        refine hz_aload_n (a := 0) (n := 31) hC dX9_hears_30 rfl rfl rfl ?_
        refine fg_X9_7 (n := 34) hC hI dX9_hears_31 rfl ?_
        refine hz_bipush (v := (10 : Int32)) (n := 36) hC dX9_hears_34 (by decide +kernel) rfl ?_
        refine hz_ialdc (k := 10) (n := 37) hC (by decide +kernel) (by decide) dX9_hears_36 (hI 1 (by decide)) ha_m1 rfl ?_
        refine hz_icmp_gt (tgt := 44) (n := 40) hC dX9_hears_37 (by decide) rfl (fun _ => ?_) (fun _ => ?_)
        · refine hz_iconst (v := (0 : Int32)) (n := 45) hC dX9_hears_44 (by decide +kernel) rfl ?_
          exact hz_zret hC hr nz_0 dX9_hears_45
        · refine hz_iconst (v := (1 : Int32)) (n := 41) hC dX9_hears_40 (by decide +kernel) rfl ?_
          refine hz_goto (n := 45) hC dX9_hears_41 (by decide) ?_
          exact hz_zret hC hr nz_1 dX9_hears_45
      · refine hz_iconst (v := (0 : Int32)) (n := 45) hC dX9_hears_44 (by decide +kernel) rfl ?_
        exact hz_zret hC hr nz_0 dX9_hears_45
    · refine hz_iconst (v := (0 : Int32)) (n := 45) hC dX9_hears_44 (by decide +kernel) rfl ?_
      exact hz_zret hC hr nz_0 dX9_hears_45
def L_X9_debts_4    : Nat → Int32 → Int32 → hp_M → Option (Int32 × hp_M)
  | 0, _, _, _ => none
  | n4 + 1, x1, x2, M => (if (M 13 1 0) ≤ x2 then (some (x1, M)) else (hp_b (F_X9_of x2 (5 : Int32) M) (fun r1 M1 => (L_X9_debts_4  n4 (x1 + r1) (x2 + (1 : Int32)) M1))))
def F_X9_debts  (M : hp_M) : Option (Int32 × hp_M) := (L_X9_debts_4 hp_fu (0 : Int32) (0 : Int32) M)
set_option maxRecDepth 20000 in
set_option maxHeartbeats 4000000 in
theorem c_X9_debts (l : Launch)   (M : hp_M) : hp_Ct l yX9_debts cX9_debts 3 (some .int) 1 hp_IR (fun adr adV => [.ref (adr 13 0)]) hp_oi M (F_X9_debts  M) := by
  refine hp_start "HallPhoneModel" (fun adr adV => [(0, .ref (adr 13 0))]) (by decide) rfl (fun _ _ => by simp only [lg_sl]; exact Nat.le_of_ble_eq_true rfl) (fun _ _ => rfl) ?_
  intro p e s m args below meth c A D ids adr adV cA rep G0 hI hC hr
  unfold F_X9_debts
  have l4 : ∀  (n4 : Nat) (x1 : Int32) (x2 : Int32) (M : hp_M), hp_Z p l e (hp_rm 1) s m args below meth c 3 A D ids adr adV cA 0 0 (MQ below (hp_Q A D ids adr adV cA rep hp_oi G0) args s 0 0 A) G0 rep 4 [(0, .ref (adr 13 0)), (1, .int x1), (2, .int x2)] [] M (L_X9_debts_4  n4 x1 x2 M) := by
    intro  n4
    induction n4 with
    | zero => intro x1 x2 M; exact hz_none hC
    | succ n4 ih4 =>
      intro x1 x2 M
      rw [L_X9_debts_4.eq_2]
      refine hz_iload_n (a := 2) (n := 5) hC dX9_debts_4 rfl rfl rfl ?_
      refine hz_aload_n (a := 0) (n := 6) hC dX9_debts_5 rfl rfl rfl ?_
      refine fg_X9_7 (n := 9) hC hI dX9_debts_6 rfl ?_
      refine hz_iconst (v := (0 : Int32)) (n := 10) hC dX9_debts_9 (by decide +kernel) rfl ?_
      refine hz_ialdc (k := 0) (n := 11) hC (by decide +kernel) (by decide) dX9_debts_10 (hI 1 (by decide)) ha_m1 rfl ?_
      refine hz_icmp_ge (tgt := 29) (n := 14) hC dX9_debts_11 (by decide) rfl (fun _ => ?_) (fun _ => ?_)
      · refine hz_iload_n (a := 1) (n := 30) hC dX9_debts_29 rfl rfl rfl ?_
        exact hz_iret hC hr dX9_debts_30
      · refine hz_iload_n (a := 1) (n := 15) hC dX9_debts_14 rfl rfl rfl ?_
        refine hz_aload_n (a := 0) (n := 16) hC dX9_debts_15 rfl rfl rfl ?_
        refine hz_iload_n (a := 2) (n := 17) hC dX9_debts_16 rfl rfl rfl ?_
        refine hz_iconst (v := (5 : Int32)) (n := 18) hC dX9_debts_17 (by decide +kernel) rfl ?_
        refine hz_callV (k := 2) (As := [.int x2, .int (5 : Int32)]) (st := [.int x1]) (S1 := fun r => .int r :: [.int x1]) (n := 21) hC (c_X9_of l x2 (5 : Int32)   M) kv_X9_of wd_7_7 hI dX9_debts_18 rfl (hI 0 (by decide)) he_X9 rfl rfl rfl (Nat.le_of_ble_eq_true rfl) ⟨Nat.le_of_ble_eq_true rfl, Nat.le_of_ble_eq_true rfl⟩ ⟨Nat.zero_le _, Nat.zero_le _⟩ (fun _ => rfl) rfl (fun r1 M1 _ => ?_)
        refine hz_iadd (n := 22) hC dX9_debts_21 rfl ?_
        refine hz_istore_n (L' := [(1, .int (x1 + r1)), (0, .ref (adr 13 0)), (2, .int x2)]) (n := 23) hC dX9_debts_22 rfl (by decide) rfl rfl ?_
        refine hz_iinc (a := 2) (v := (x2 + (1 : Int32))) (L' := [(2, .int (x2 + (1 : Int32))), (1, .int (x1 + r1)), (0, .ref (adr 13 0))]) (n := 26) hC dX9_debts_23 rfl rfl (by decide) rfl rfl ?_
        refine hz_goto (n := 4) hC dX9_debts_26 (by decide) ?_
        refine hz_L (L' := [(0, .ref (adr 13 0)), (1, .int (x1 + r1)), (2, .int (x2 + (1 : Int32)))]) [2, 1, 0] rfl ?_
        exact ih4 _ _ _
  refine hz_iconst (v := (0 : Int32)) (n := 1) hC dX9_debts_0 (by decide +kernel) rfl ?_
  refine hz_istore_n (L' := [(1, .int (0 : Int32)), (0, .ref (adr 13 0))]) (n := 2) hC dX9_debts_1 rfl (by decide) rfl rfl ?_
  refine hz_iconst (v := (0 : Int32)) (n := 3) hC dX9_debts_2 (by decide +kernel) rfl ?_
  refine hz_istore_n (L' := [(2, .int (0 : Int32)), (1, .int (0 : Int32)), (0, .ref (adr 13 0))]) (n := 4) hC dX9_debts_3 rfl (by decide) rfl rfl ?_
  refine hz_L (L' := [(0, .ref (adr 13 0)), (1, .int (0 : Int32)), (2, .int (0 : Int32))]) [2, 1, 0] rfl ?_
  exact l4 hp_fu _ _ _
def F_X9_speaks (a0 : Int32) (a1 : Int32) (a2 : Int32) (M : hp_M) : Option (Unit × hp_M) := (hp_b (F_X9_to a0 (2 : Int32) (3 : Int32) M) (fun _ M1 => (hp_b (F_X9_to a0 (4 : Int32) (0 : Int32) M1) (fun _ M2 => (if a2 = 0 then (some ((), (hp_p (hp_p (hp_p (hp_p (hp_p M2 13 1 2 (2 : Int32)) 13 1 3 a0) 13 1 4 (0 : Int32)) 13 1 5 a1) 13 1 6 (0 : Int32)))) else (some ((), (hp_p (hp_p (hp_p (hp_p (hp_p M2 13 1 2 (2 : Int32)) 13 1 3 a0) 13 1 4 (0 : Int32)) 13 1 5 a1) 13 1 6 (1 : Int32)))))))))
set_option maxRecDepth 20000 in
set_option maxHeartbeats 4000000 in
theorem c_X9_speaks (l : Launch) (a0 : Int32) (a1 : Int32) (a2 : Int32)  (M : hp_M) : hp_Ct l yX9_speaks cX9_speaks 4 none 1 hp_IR (fun adr adV => [.ref (adr 13 0), .int a0, .int a1, .int a2]) hp_oo M (F_X9_speaks a0 a1 a2 M) := by
  refine hp_start "HallPhoneModel" (fun adr adV => [(0, .ref (adr 13 0)), (1, .int a0), (2, .int a1), (3, .int a2)]) (by decide) rfl (fun _ _ => by simp only [lg_sl]; exact Nat.le_of_ble_eq_true rfl) (fun _ _ => rfl) ?_
  intro p e s m args below meth c A D ids adr adV cA rep G0 hI hC hr
  unfold F_X9_speaks
  refine hz_aload_n (a := 0) (n := 1) hC dX9_speaks_0 rfl rfl rfl ?_
  refine hz_iload_n (a := 1) (n := 2) hC dX9_speaks_1 rfl rfl rfl ?_
  refine hz_iconst (v := (2 : Int32)) (n := 3) hC dX9_speaks_2 (by decide +kernel) rfl ?_
  refine hz_iconst (v := (3 : Int32)) (n := 4) hC dX9_speaks_3 (by decide +kernel) rfl ?_
  refine hz_callV (k := 3) (As := [.int a0, .int (2 : Int32), .int (3 : Int32)]) (st := []) (S1 := fun _ => []) (n := 7) hC (c_X9_to l a0 (2 : Int32) (3 : Int32)   M) kv_X9_to wd_6_201 hI dX9_speaks_4 rfl (hI 0 (by decide)) he_X9 rfl rfl rfl (Nat.le_of_ble_eq_true rfl) ⟨Nat.le_of_ble_eq_true rfl, Nat.le_of_ble_eq_true rfl⟩ ⟨Nat.zero_le _, Nat.zero_le _⟩ (fun _ => rfl) rfl (fun r1 M1 _ => ?_)
  refine hz_aload_n (a := 0) (n := 8) hC dX9_speaks_7 rfl rfl rfl ?_
  refine hz_iload_n (a := 1) (n := 9) hC dX9_speaks_8 rfl rfl rfl ?_
  refine hz_iconst (v := (4 : Int32)) (n := 10) hC dX9_speaks_9 (by decide +kernel) rfl ?_
  refine hz_iconst (v := (0 : Int32)) (n := 11) hC dX9_speaks_10 (by decide +kernel) rfl ?_
  refine hz_callV (k := 3) (As := [.int a0, .int (4 : Int32), .int (0 : Int32)]) (st := []) (S1 := fun _ => []) (n := 14) hC (c_X9_to l a0 (4 : Int32) (0 : Int32)   M1) kv_X9_to wd_6_201 hI dX9_speaks_11 rfl (hI 0 (by decide)) he_X9 rfl rfl rfl (Nat.le_of_ble_eq_true rfl) ⟨Nat.le_of_ble_eq_true rfl, Nat.le_of_ble_eq_true rfl⟩ ⟨Nat.zero_le _, Nat.zero_le _⟩ (fun _ => rfl) rfl (fun r2 M2 _ => ?_)
  refine hz_aload_n (a := 0) (n := 15) hC dX9_speaks_14 rfl rfl rfl ?_
  refine fg_X9_7 (n := 18) hC hI dX9_speaks_15 rfl ?_
  refine hz_iconst (v := (2 : Int32)) (n := 19) hC dX9_speaks_18 (by decide +kernel) rfl ?_
  refine hz_iconst (v := (2 : Int32)) (n := 20) hC dX9_speaks_19 (by decide +kernel) rfl ?_
  refine hz_iastc (k := 2) (n := 21) hC (by decide +kernel) (by decide) dX9_speaks_20 (hI 1 (by decide)) ha_m1 rfl ?_
  refine hz_aload_n (a := 0) (n := 22) hC dX9_speaks_21 rfl rfl rfl ?_
  refine fg_X9_7 (n := 25) hC hI dX9_speaks_22 rfl ?_
  refine hz_iconst (v := (3 : Int32)) (n := 26) hC dX9_speaks_25 (by decide +kernel) rfl ?_
  refine hz_iload_n (a := 1) (n := 27) hC dX9_speaks_26 rfl rfl rfl ?_
  refine hz_iastc (k := 3) (n := 28) hC (by decide +kernel) (by decide) dX9_speaks_27 (hI 1 (by decide)) ha_m1 rfl ?_
  refine hz_aload_n (a := 0) (n := 29) hC dX9_speaks_28 rfl rfl rfl ?_
  refine fg_X9_7 (n := 32) hC hI dX9_speaks_29 rfl ?_
  refine hz_iconst (v := (4 : Int32)) (n := 33) hC dX9_speaks_32 (by decide +kernel) rfl ?_
  refine hz_iconst (v := (0 : Int32)) (n := 34) hC dX9_speaks_33 (by decide +kernel) rfl ?_
  refine hz_iastc (k := 4) (n := 35) hC (by decide +kernel) (by decide) dX9_speaks_34 (hI 1 (by decide)) ha_m1 rfl ?_
  refine hz_aload_n (a := 0) (n := 36) hC dX9_speaks_35 rfl rfl rfl ?_
  refine fg_X9_7 (n := 39) hC hI dX9_speaks_36 rfl ?_
  refine hz_iconst (v := (5 : Int32)) (n := 40) hC dX9_speaks_39 (by decide +kernel) rfl ?_
  refine hz_iload_n (a := 2) (n := 41) hC dX9_speaks_40 rfl rfl rfl ?_
  refine hz_iastc (k := 5) (n := 42) hC (by decide +kernel) (by decide) dX9_speaks_41 (hI 1 (by decide)) ha_m1 rfl ?_
  refine hz_aload_n (a := 0) (n := 43) hC dX9_speaks_42 rfl rfl rfl ?_
  refine fg_X9_7 (n := 46) hC hI dX9_speaks_43 rfl ?_
  refine hz_bipush (v := (6 : Int32)) (n := 48) hC dX9_speaks_46 (by decide +kernel) rfl ?_
  refine hz_iload_n (a := 3) (n := 49) hC dX9_speaks_48 rfl rfl rfl ?_
  refine hz_if_eq (tgt := 56) (n := 52) hC dX9_speaks_49 (by decide) rfl (fun _ => ?_) (fun _ => ?_)
  · refine hz_iconst (v := (0 : Int32)) (n := 57) hC dX9_speaks_56 (by decide +kernel) rfl ?_
    refine hz_iastc (k := 6) (n := 58) hC (by decide +kernel) (by decide) dX9_speaks_57 (hI 1 (by decide)) ha_m1 rfl ?_
    exact hz_vret hC hr dX9_speaks_58
  · refine hz_iconst (v := (1 : Int32)) (n := 53) hC dX9_speaks_52 (by decide +kernel) rfl ?_
    refine hz_goto (n := 57) hC dX9_speaks_53 (by decide) ?_
    refine hz_iastc (k := 6) (n := 58) hC (by decide +kernel) (by decide) dX9_speaks_57 (hI 1 (by decide)) ha_m1 rfl ?_
    exact hz_vret hC hr dX9_speaks_58
def F_X9_lies  (M : hp_M) : Option (Unit × hp_M) := (some ((), (hp_p (hp_p (hp_p (hp_p (hp_p M 13 1 2 (0 : Int32)) 13 1 3 (0 : Int32)) 13 1 4 (0 : Int32)) 13 1 5 (0 : Int32)) 13 1 6 (0 : Int32))))
set_option maxRecDepth 20000 in
set_option maxHeartbeats 4000000 in
theorem c_X9_lies (l : Launch)   (M : hp_M) : hp_Ct l yX9_lies cX9_lies 1 none 0 hp_IR (fun adr adV => [.ref (adr 13 0)]) hp_oo M (F_X9_lies  M) := by
  refine hp_start "HallPhoneModel" (fun adr adV => [(0, .ref (adr 13 0))]) (by decide) rfl (fun _ _ => by simp only [lg_sl]; exact Nat.le_of_ble_eq_true rfl) (fun _ _ => rfl) ?_
  intro p e s m args below meth c A D ids adr adV cA rep G0 hI hC hr
  unfold F_X9_lies
  refine hz_aload_n (a := 0) (n := 1) hC dX9_lies_0 rfl rfl rfl ?_
  refine fg_X9_7 (n := 4) hC hI dX9_lies_1 rfl ?_
  refine hz_iconst (v := (2 : Int32)) (n := 5) hC dX9_lies_4 (by decide +kernel) rfl ?_
  refine hz_iconst (v := (0 : Int32)) (n := 6) hC dX9_lies_5 (by decide +kernel) rfl ?_
  refine hz_iastc (k := 2) (n := 7) hC (by decide +kernel) (by decide) dX9_lies_6 (hI 1 (by decide)) ha_m1 rfl ?_
  refine hz_aload_n (a := 0) (n := 8) hC dX9_lies_7 rfl rfl rfl ?_
  refine fg_X9_7 (n := 11) hC hI dX9_lies_8 rfl ?_
  refine hz_iconst (v := (3 : Int32)) (n := 12) hC dX9_lies_11 (by decide +kernel) rfl ?_
  refine hz_iconst (v := (0 : Int32)) (n := 13) hC dX9_lies_12 (by decide +kernel) rfl ?_
  refine hz_iastc (k := 3) (n := 14) hC (by decide +kernel) (by decide) dX9_lies_13 (hI 1 (by decide)) ha_m1 rfl ?_
  refine hz_aload_n (a := 0) (n := 15) hC dX9_lies_14 rfl rfl rfl ?_
  refine fg_X9_7 (n := 18) hC hI dX9_lies_15 rfl ?_
  refine hz_iconst (v := (4 : Int32)) (n := 19) hC dX9_lies_18 (by decide +kernel) rfl ?_
  refine hz_iconst (v := (0 : Int32)) (n := 20) hC dX9_lies_19 (by decide +kernel) rfl ?_
  refine hz_iastc (k := 4) (n := 21) hC (by decide +kernel) (by decide) dX9_lies_20 (hI 1 (by decide)) ha_m1 rfl ?_
  refine hz_aload_n (a := 0) (n := 22) hC dX9_lies_21 rfl rfl rfl ?_
  refine fg_X9_7 (n := 25) hC hI dX9_lies_22 rfl ?_
  refine hz_iconst (v := (5 : Int32)) (n := 26) hC dX9_lies_25 (by decide +kernel) rfl ?_
  refine hz_iconst (v := (0 : Int32)) (n := 27) hC dX9_lies_26 (by decide +kernel) rfl ?_
  refine hz_iastc (k := 5) (n := 28) hC (by decide +kernel) (by decide) dX9_lies_27 (hI 1 (by decide)) ha_m1 rfl ?_
  refine hz_aload_n (a := 0) (n := 29) hC dX9_lies_28 rfl rfl rfl ?_
  refine fg_X9_7 (n := 32) hC hI dX9_lies_29 rfl ?_
  refine hz_bipush (v := (6 : Int32)) (n := 34) hC dX9_lies_32 (by decide +kernel) rfl ?_
  refine hz_iconst (v := (0 : Int32)) (n := 35) hC dX9_lies_34 (by decide +kernel) rfl ?_
  refine hz_iastc (k := 6) (n := 36) hC (by decide +kernel) (by decide) dX9_lies_35 (hI 1 (by decide)) ha_m1 rfl ?_
  exact hz_vret hC hr dX9_lies_36
def A_X9_ends_32   (y32_1 : Int32) (z32_0 : Int32) (M : hp_M) : Option (Unit × hp_M) := (hp_b (F_X9_to y32_1 (2 : Int32) (0 : Int32) M) (fun _ M1 => (hp_b (F_X9_adds y32_1 (5 : Int32) z32_0 M1) (fun _ M2 => (hp_b (F_X9_adds y32_1 (7 : Int32) (1 : Int32) M2) (fun _ M3 => (hp_b (F_X9_counts (4 : Int32) z32_0 M3) (fun _ M4 => (hp_b (F_X9_counts (1 : Int32) (1 : Int32) M4) (fun _ M5 => (hp_b (F_X9_lies (hp_p M5 13 1 41 ((M5 13 1 41) + (M5 13 1 4)))) (fun _ M6 => (some ((), M6))))))))))))))
def F_X9_ends  (M : hp_M) : Option (Unit × hp_M) := (if (M 13 1 6) = (1 : Int32) then (A_X9_ends_32 (M 13 1 3) (0 : Int32) M) else (hp_b (F_X9_costOf (M 13 1 4) M) (fun r7 M7 => (A_X9_ends_32 (M 13 1 3) r7 M7))))
set_option maxRecDepth 20000 in
set_option maxHeartbeats 4000000 in
theorem c_X9_ends (l : Launch)   (M : hp_M) : hp_Ct l yX9_ends cX9_ends 3 none 1 hp_IR (fun adr adV => [.ref (adr 13 0)]) hp_oo M (F_X9_ends  M) := by
  refine hp_start "HallPhoneModel" (fun adr adV => [(0, .ref (adr 13 0))]) (by decide) rfl (fun _ _ => by simp only [lg_sl]; exact Nat.le_of_ble_eq_true rfl) (fun _ _ => rfl) ?_
  intro p e s m args below meth c A D ids adr adV cA rep G0 hI hC hr
  unfold F_X9_ends
  have j32 : ∀ (y32_1 : Int32) (z32_0 : Int32) (M : hp_M), hp_Z p l e (hp_rm 1) s m args below meth c 3 A D ids adr adV cA 0 0 (MQ below (hp_Q A D ids adr adV cA rep hp_oo G0) args s 0 0 A) G0 rep 32 [(0, .ref (adr 13 0)), (1, .int y32_1)] [.int z32_0] M (A_X9_ends_32  y32_1 z32_0 M) := by
    intro y32_1 z32_0 M
    unfold A_X9_ends_32
    refine hz_istore_n (L' := [(2, .int z32_0), (0, .ref (adr 13 0)), (1, .int y32_1)]) (n := 33) hC dX9_ends_32 rfl (by decide) rfl rfl ?_
    refine hz_aload_n (a := 1) (n := 34) hC dX9_ends_33 rfl rfl rfl ?_
    refine hz_iload_n (a := 2) (n := 35) hC dX9_ends_34 rfl rfl rfl ?_
    refine hz_iconst (v := (2 : Int32)) (n := 36) hC dX9_ends_35 (by decide +kernel) rfl ?_
    refine hz_iconst (v := (0 : Int32)) (n := 37) hC dX9_ends_36 (by decide +kernel) rfl ?_
    refine hz_callV (k := 3) (As := [.int y32_1, .int (2 : Int32), .int (0 : Int32)]) (st := []) (S1 := fun _ => []) (n := 40) hC (c_X9_to l y32_1 (2 : Int32) (0 : Int32)   M) kv_X9_to wd_6_201 hI dX9_ends_37 rfl (hI 0 (by decide)) he_X9 rfl rfl rfl (Nat.le_of_ble_eq_true rfl) ⟨Nat.le_of_ble_eq_true rfl, Nat.le_of_ble_eq_true rfl⟩ ⟨Nat.zero_le _, Nat.zero_le _⟩ (fun _ => rfl) rfl (fun r1 M1 _ => ?_)
    refine hz_aload_n (a := 1) (n := 41) hC dX9_ends_40 rfl rfl rfl ?_
    refine hz_iload_n (a := 2) (n := 42) hC dX9_ends_41 rfl rfl rfl ?_
    refine hz_iconst (v := (5 : Int32)) (n := 43) hC dX9_ends_42 (by decide +kernel) rfl ?_
    refine hz_iload_n (a := 0) (n := 44) hC dX9_ends_43 rfl rfl rfl ?_
    refine hz_callV (k := 3) (As := [.int y32_1, .int (5 : Int32), .int z32_0]) (st := []) (S1 := fun _ => []) (n := 47) hC (c_X9_adds l y32_1 (5 : Int32) z32_0   M1) kv_X9_adds wd_7_45 hI dX9_ends_44 rfl (hI 0 (by decide)) he_X9 rfl rfl rfl (Nat.le_of_ble_eq_true rfl) ⟨Nat.le_of_ble_eq_true rfl, Nat.le_of_ble_eq_true rfl⟩ ⟨Nat.zero_le _, Nat.zero_le _⟩ (fun _ => rfl) rfl (fun r2 M2 _ => ?_)
    refine hz_aload_n (a := 1) (n := 48) hC dX9_ends_47 rfl rfl rfl ?_
    refine hz_iload_n (a := 2) (n := 49) hC dX9_ends_48 rfl rfl rfl ?_
    refine hz_bipush (v := (7 : Int32)) (n := 51) hC dX9_ends_49 (by decide +kernel) rfl ?_
    refine hz_iconst (v := (1 : Int32)) (n := 52) hC dX9_ends_51 (by decide +kernel) rfl ?_
    refine hz_callV (k := 3) (As := [.int y32_1, .int (7 : Int32), .int (1 : Int32)]) (st := []) (S1 := fun _ => []) (n := 55) hC (c_X9_adds l y32_1 (7 : Int32) (1 : Int32)   M2) kv_X9_adds wd_7_45 hI dX9_ends_52 rfl (hI 0 (by decide)) he_X9 rfl rfl rfl (Nat.le_of_ble_eq_true rfl) ⟨Nat.le_of_ble_eq_true rfl, Nat.le_of_ble_eq_true rfl⟩ ⟨Nat.zero_le _, Nat.zero_le _⟩ (fun _ => rfl) rfl (fun r3 M3 _ => ?_)
    refine hz_aload_n (a := 1) (n := 56) hC dX9_ends_55 rfl rfl rfl ?_
    refine hz_iconst (v := (4 : Int32)) (n := 57) hC dX9_ends_56 (by decide +kernel) rfl ?_
    refine hz_iload_n (a := 0) (n := 58) hC dX9_ends_57 rfl rfl rfl ?_
    refine hz_callV (k := 2) (As := [.int (4 : Int32), .int z32_0]) (st := []) (S1 := fun _ => []) (n := 61) hC (c_X9_counts l (4 : Int32) z32_0   M3) kv_X9_counts wd_7_49 hI dX9_ends_58 rfl (hI 0 (by decide)) he_X9 rfl rfl rfl (Nat.le_of_ble_eq_true rfl) ⟨Nat.le_of_ble_eq_true rfl, Nat.le_of_ble_eq_true rfl⟩ ⟨Nat.zero_le _, Nat.zero_le _⟩ (fun _ => rfl) rfl (fun r4 M4 _ => ?_)
    refine hz_aload_n (a := 1) (n := 62) hC dX9_ends_61 rfl rfl rfl ?_
    refine hz_iconst (v := (1 : Int32)) (n := 63) hC dX9_ends_62 (by decide +kernel) rfl ?_
    refine hz_iconst (v := (1 : Int32)) (n := 64) hC dX9_ends_63 (by decide +kernel) rfl ?_
    refine hz_callV (k := 2) (As := [.int (1 : Int32), .int (1 : Int32)]) (st := []) (S1 := fun _ => []) (n := 67) hC (c_X9_counts l (1 : Int32) (1 : Int32)   M4) kv_X9_counts wd_7_49 hI dX9_ends_64 rfl (hI 0 (by decide)) he_X9 rfl rfl rfl (Nat.le_of_ble_eq_true rfl) ⟨Nat.le_of_ble_eq_true rfl, Nat.le_of_ble_eq_true rfl⟩ ⟨Nat.zero_le _, Nat.zero_le _⟩ (fun _ => rfl) rfl (fun r5 M5 _ => ?_)
    refine hz_aload_n (a := 1) (n := 68) hC dX9_ends_67 rfl rfl rfl ?_
    refine fg_X9_7 (n := 71) hC hI dX9_ends_68 rfl ?_
    refine hz_bipush (v := (41 : Int32)) (n := 73) hC dX9_ends_71 (by decide +kernel) rfl ?_
    refine hz_dup2 (n := 74) hC dX9_ends_73 rfl rfl rfl ?_
    refine hz_ialdc (k := 41) (n := 75) hC (by decide +kernel) (by decide) dX9_ends_74 (hI 1 (by decide)) ha_m1 rfl ?_
    refine hz_aload_n (a := 1) (n := 76) hC dX9_ends_75 rfl rfl rfl ?_
    refine fg_X9_7 (n := 79) hC hI dX9_ends_76 rfl ?_
    refine hz_iconst (v := (4 : Int32)) (n := 80) hC dX9_ends_79 (by decide +kernel) rfl ?_
    refine hz_ialdc (k := 4) (n := 81) hC (by decide +kernel) (by decide) dX9_ends_80 (hI 1 (by decide)) ha_m1 rfl ?_
    refine hz_iadd (n := 82) hC dX9_ends_81 rfl ?_
    refine hz_iastc (k := 41) (n := 83) hC (by decide +kernel) (by decide) dX9_ends_82 (hI 1 (by decide)) ha_m1 rfl ?_
    refine hz_aload_n (a := 1) (n := 84) hC dX9_ends_83 rfl rfl rfl ?_
    refine hz_callV (k := 0) (As := []) (st := []) (S1 := fun _ => []) (n := 87) hC (c_X9_lies l    (hp_p M5 13 1 41 ((M5 13 1 41) + (M5 13 1 4)))) kv_X9_lies wd_7_53 hI dX9_ends_84 rfl (hI 0 (by decide)) he_X9 rfl rfl rfl (Nat.le_of_ble_eq_true rfl) ⟨Nat.le_of_ble_eq_true rfl, Nat.le_of_ble_eq_true rfl⟩ ⟨Nat.zero_le _, Nat.zero_le _⟩ (fun _ => rfl) rfl (fun r6 M6 _ => ?_)
    exact hz_vret hC hr dX9_ends_87
  refine hz_aload_n (a := 0) (n := 1) hC dX9_ends_0 rfl rfl rfl ?_
  refine fg_X9_7 (n := 4) hC hI dX9_ends_1 rfl ?_
  refine hz_iconst (v := (3 : Int32)) (n := 5) hC dX9_ends_4 (by decide +kernel) rfl ?_
  refine hz_ialdc (k := 3) (n := 6) hC (by decide +kernel) (by decide) dX9_ends_5 (hI 1 (by decide)) ha_m1 rfl ?_
  refine hz_istore_n (L' := [(1, .int (M 13 1 3)), (0, .ref (adr 13 0))]) (n := 7) hC dX9_ends_6 rfl (by decide) rfl rfl ?_
  refine hz_aload_n (a := 1) (n := 8) hC dX9_ends_7 rfl rfl rfl ?_
  refine fg_X9_7 (n := 11) hC hI dX9_ends_8 rfl ?_
  refine hz_bipush (v := (6 : Int32)) (n := 13) hC dX9_ends_11 (by decide +kernel) rfl ?_
  refine hz_ialdc (k := 6) (n := 14) hC (by decide +kernel) (by decide) dX9_ends_13 (hI 1 (by decide)) ha_m1 rfl ?_
  refine hz_iconst (v := (1 : Int32)) (n := 15) hC dX9_ends_14 (by decide +kernel) rfl ?_
  refine hz_icmp_ne (tgt := 22) (n := 18) hC dX9_ends_15 (by decide) rfl (fun _ => ?_) (fun _ => ?_)
  · refine hz_iconst (v := (0 : Int32)) (n := 19) hC dX9_ends_18 (by decide +kernel) rfl ?_
    refine hz_goto (n := 32) hC dX9_ends_19 (by decide) ?_
    refine hz_L (L' := [(0, .ref (adr 13 0)), (1, .int (M 13 1 3))]) [1, 0] rfl ?_
    exact j32 _ _ _
  · refine hz_aload_n (a := 1) (n := 23) hC dX9_ends_22 rfl rfl rfl ?_
    refine hz_aload_n (a := 1) (n := 24) hC dX9_ends_23 rfl rfl rfl ?_
    refine fg_X9_7 (n := 27) hC hI dX9_ends_24 rfl ?_
    refine hz_iconst (v := (4 : Int32)) (n := 28) hC dX9_ends_27 (by decide +kernel) rfl ?_
    refine hz_ialdc (k := 4) (n := 29) hC (by decide +kernel) (by decide) dX9_ends_28 (hI 1 (by decide)) ha_m1 rfl ?_
    refine hz_callV (k := 1) (As := [.int (M 13 1 4)]) (st := []) (S1 := fun r => .int r :: []) (n := 32) hC (c_X9_costOf l (M 13 1 4)   M) kv_X9_costOf wd_7_41 hI dX9_ends_29 rfl (hI 0 (by decide)) he_X9 rfl rfl rfl (Nat.le_of_ble_eq_true rfl) ⟨Nat.le_of_ble_eq_true rfl, Nat.le_of_ble_eq_true rfl⟩ ⟨Nat.zero_le _, Nat.zero_le _⟩ (fun _ => rfl) rfl (fun r7 M7 _ => ?_)
    refine hz_L (L' := [(0, .ref (adr 13 0)), (1, .int (M 13 1 3))]) [1, 0] rfl ?_
    exact j32 _ _ _
def L_X9_talks_43   (k43_1 : Int32) : Nat → Int32 → hp_M → Option (Unit × hp_M)
  | 0, _, _ => none
  | n43 + 1, x2, M => (if (M 13 1 0) ≤ x2 then (some ((), M)) else (hp_b (F_X9_hears x2 k43_1 M) (fun r3 M3 => (if r3 = 0 then (L_X9_talks_43 k43_1 n43 (x2 + (1 : Int32)) M3) else (if (((142 : Int32) + ((10 : Int32) * x2)) + k43_1) < 0 ∨ 242 ≤ ((((142 : Int32) + ((10 : Int32) * x2)) + k43_1)).toNatClampNeg then none else (if (((142 : Int32) + ((10 : Int32) * x2)) + k43_1) < 0 ∨ 242 ≤ ((((142 : Int32) + ((10 : Int32) * x2)) + k43_1)).toNatClampNeg then none else (hp_b (F_X9_counts (9 : Int32) (1 : Int32) (hp_p M3 13 1 ((((142 : Int32) + ((10 : Int32) * x2)) + k43_1)).toNatClampNeg ((M3 13 1 ((((142 : Int32) + ((10 : Int32) * x2)) + k43_1)).toNatClampNeg) + (1 : Int32)))) (fun _ M4 => (L_X9_talks_43 k43_1 n43 (x2 + (1 : Int32)) M4)))))))))
def F_X9_talks  (M : hp_M) : Option (Unit × hp_M) := (hp_b (F_X9_adds (M 13 1 3) (6 : Int32) (1 : Int32) (hp_p (hp_p M 13 1 4 ((M 13 1 4) + (1 : Int32))) 13 1 5 (((hp_p M 13 1 4 ((M 13 1 4) + (1 : Int32))) 13 1 5) - (1 : Int32)))) (fun _ M1 => (hp_b (F_X9_counts (3 : Int32) (1 : Int32) M1) (fun _ M2 => (L_X9_talks_43 (M 13 1 3) hp_fu (0 : Int32) M2)))))
set_option maxRecDepth 20000 in
set_option maxHeartbeats 4000000 in
theorem c_X9_talks (l : Launch)   (M : hp_M) : hp_Ct l yX9_talks cX9_talks 3 none 2 hp_IR (fun adr adV => [.ref (adr 13 0)]) hp_oo M (F_X9_talks  M) := by
  refine hp_start "HallPhoneModel" (fun adr adV => [(0, .ref (adr 13 0))]) (by decide) rfl (fun _ _ => by simp only [lg_sl]; exact Nat.le_of_ble_eq_true rfl) (fun _ _ => rfl) ?_
  intro p e s m args below meth c A D ids adr adV cA rep G0 hI hC hr
  unfold F_X9_talks
  have l43 : ∀ (k43_1 : Int32) (n43 : Nat) (x2 : Int32) (M : hp_M), hp_Z p l e (hp_rm 2) s m args below meth c 3 A D ids adr adV cA 0 0 (MQ below (hp_Q A D ids adr adV cA rep hp_oo G0) args s 0 0 A) G0 rep 43 [(0, .ref (adr 13 0)), (1, .int k43_1), (2, .int x2)] [] M (L_X9_talks_43 k43_1 n43 x2 M) := by
    intro k43_1 n43
    induction n43 with
    | zero => intro x2 M; exact hz_none hC
    | succ n43 ih43 =>
      intro x2 M
      rw [L_X9_talks_43.eq_2]
      refine hz_iload_n (a := 2) (n := 44) hC dX9_talks_43 rfl rfl rfl ?_
      refine hz_aload_n (a := 0) (n := 45) hC dX9_talks_44 rfl rfl rfl ?_
      refine fg_X9_7 (n := 48) hC hI dX9_talks_45 rfl ?_
      refine hz_iconst (v := (0 : Int32)) (n := 49) hC dX9_talks_48 (by decide +kernel) rfl ?_
      refine hz_ialdc (k := 0) (n := 50) hC (by decide +kernel) (by decide) dX9_talks_49 (hI 1 (by decide)) ha_m1 rfl ?_
      refine hz_icmp_ge (tgt := 94) (n := 53) hC dX9_talks_50 (by decide) rfl (fun _ => ?_) (fun _ => ?_)
      · exact hz_vret hC hr dX9_talks_94
      · refine hz_aload_n (a := 0) (n := 54) hC dX9_talks_53 rfl rfl rfl ?_
        refine hz_iload_n (a := 2) (n := 55) hC dX9_talks_54 rfl rfl rfl ?_
        refine hz_iload_n (a := 1) (n := 56) hC dX9_talks_55 rfl rfl rfl ?_
        refine hz_callV (k := 2) (As := [.int x2, .int k43_1]) (st := []) (S1 := fun r => .int r :: []) (n := 59) hC (c_X9_hears l x2 k43_1   M) kv_X9_hears wd_7_88 hI dX9_talks_56 rfl (hI 0 (by decide)) he_X9 rfl rfl rfl (Nat.le_of_ble_eq_true rfl) ⟨Nat.le_of_ble_eq_true rfl, Nat.le_of_ble_eq_true rfl⟩ ⟨Nat.zero_le _, Nat.zero_le _⟩ (fun _ => rfl) rfl (fun r3 M3 _ => ?_)
        refine hz_if_eq (tgt := 88) (n := 62) hC dX9_talks_59 (by decide) rfl (fun _ => ?_) (fun _ => ?_)
        · refine hz_iinc (a := 2) (v := (x2 + (1 : Int32))) (L' := [(2, .int (x2 + (1 : Int32))), (0, .ref (adr 13 0)), (1, .int k43_1)]) (n := 91) hC dX9_talks_88 rfl rfl (by decide) rfl rfl ?_
          refine hz_goto (n := 43) hC dX9_talks_91 (by decide) ?_
          refine hz_L (L' := [(0, .ref (adr 13 0)), (1, .int k43_1), (2, .int (x2 + (1 : Int32)))]) [1, 2, 0] rfl ?_
          exact ih43 _ _
        · refine hz_aload_n (a := 0) (n := 63) hC dX9_talks_62 rfl rfl rfl ?_
          refine fg_X9_7 (n := 66) hC hI dX9_talks_63 rfl ?_
          refine hz_sipush (v := (142 : Int32)) (n := 69) hC dX9_talks_66 (by decide +kernel) rfl ?_
          refine hz_bipush (v := (10 : Int32)) (n := 71) hC dX9_talks_69 (by decide +kernel) rfl ?_
          refine hz_iload_n (a := 2) (n := 72) hC dX9_talks_71 rfl rfl rfl ?_
          refine hz_imul (n := 73) hC dX9_talks_72 rfl ?_
          refine hz_iadd (n := 74) hC dX9_talks_73 rfl ?_
          refine hz_iload_n (a := 1) (n := 75) hC dX9_talks_74 rfl rfl rfl ?_
          refine hz_iadd (n := 76) hC dX9_talks_75 rfl ?_
          refine hz_dup2 (n := 77) hC dX9_talks_76 rfl rfl rfl ?_
          refine hz_iald (n := 78) hC dX9_talks_77 (hI 1 (by decide)) ha_m1 rfl (fun _ => ?_)
          refine hz_iconst (v := (1 : Int32)) (n := 79) hC dX9_talks_78 (by decide +kernel) rfl ?_
          refine hz_iadd (n := 80) hC dX9_talks_79 rfl ?_
          refine hz_iast (n := 81) hC dX9_talks_80 (hI 1 (by decide)) ha_m1 rfl (fun _ => ?_)
          refine hz_aload_n (a := 0) (n := 82) hC dX9_talks_81 rfl rfl rfl ?_
          refine hz_bipush (v := (9 : Int32)) (n := 84) hC dX9_talks_82 (by decide +kernel) rfl ?_
          refine hz_iconst (v := (1 : Int32)) (n := 85) hC dX9_talks_84 (by decide +kernel) rfl ?_
          refine hz_callV (k := 2) (As := [.int (9 : Int32), .int (1 : Int32)]) (st := []) (S1 := fun _ => []) (n := 88) hC (c_X9_counts l (9 : Int32) (1 : Int32)   (hp_p M3 13 1 ((((142 : Int32) + ((10 : Int32) * x2)) + k43_1)).toNatClampNeg ((M3 13 1 ((((142 : Int32) + ((10 : Int32) * x2)) + k43_1)).toNatClampNeg) + (1 : Int32)))) kv_X9_counts wd_7_49 hI dX9_talks_85 rfl (hI 0 (by decide)) he_X9 rfl rfl rfl (Nat.le_of_ble_eq_true rfl) ⟨Nat.le_of_ble_eq_true rfl, Nat.le_of_ble_eq_true rfl⟩ ⟨Nat.zero_le _, Nat.zero_le _⟩ (fun _ => rfl) rfl (fun r4 M4 _ => ?_)
          refine hz_iinc (a := 2) (v := (x2 + (1 : Int32))) (L' := [(2, .int (x2 + (1 : Int32))), (0, .ref (adr 13 0)), (1, .int k43_1)]) (n := 91) hC dX9_talks_88 rfl rfl (by decide) rfl rfl ?_
          refine hz_goto (n := 43) hC dX9_talks_91 (by decide) ?_
          refine hz_L (L' := [(0, .ref (adr 13 0)), (1, .int k43_1), (2, .int (x2 + (1 : Int32)))]) [1, 2, 0] rfl ?_
          exact ih43 _ _
  refine hz_aload_n (a := 0) (n := 1) hC dX9_talks_0 rfl rfl rfl ?_
  refine fg_X9_7 (n := 4) hC hI dX9_talks_1 rfl ?_
  refine hz_iconst (v := (3 : Int32)) (n := 5) hC dX9_talks_4 (by decide +kernel) rfl ?_
  refine hz_ialdc (k := 3) (n := 6) hC (by decide +kernel) (by decide) dX9_talks_5 (hI 1 (by decide)) ha_m1 rfl ?_
  refine hz_istore_n (L' := [(1, .int (M 13 1 3)), (0, .ref (adr 13 0))]) (n := 7) hC dX9_talks_6 rfl (by decide) rfl rfl ?_
  refine hz_aload_n (a := 1) (n := 8) hC dX9_talks_7 rfl rfl rfl ?_
  refine fg_X9_7 (n := 11) hC hI dX9_talks_8 rfl ?_
  refine hz_iconst (v := (4 : Int32)) (n := 12) hC dX9_talks_11 (by decide +kernel) rfl ?_
  refine hz_dup2 (n := 13) hC dX9_talks_12 rfl rfl rfl ?_
  refine hz_ialdc (k := 4) (n := 14) hC (by decide +kernel) (by decide) dX9_talks_13 (hI 1 (by decide)) ha_m1 rfl ?_
  refine hz_iconst (v := (1 : Int32)) (n := 15) hC dX9_talks_14 (by decide +kernel) rfl ?_
  refine hz_iadd (n := 16) hC dX9_talks_15 rfl ?_
  refine hz_iastc (k := 4) (n := 17) hC (by decide +kernel) (by decide) dX9_talks_16 (hI 1 (by decide)) ha_m1 rfl ?_
  refine hz_aload_n (a := 1) (n := 18) hC dX9_talks_17 rfl rfl rfl ?_
  refine fg_X9_7 (n := 21) hC hI dX9_talks_18 rfl ?_
  refine hz_iconst (v := (5 : Int32)) (n := 22) hC dX9_talks_21 (by decide +kernel) rfl ?_
  refine hz_dup2 (n := 23) hC dX9_talks_22 rfl rfl rfl ?_
  refine hz_ialdc (k := 5) (n := 24) hC (by decide +kernel) (by decide) dX9_talks_23 (hI 1 (by decide)) ha_m1 rfl ?_
  refine hz_iconst (v := (1 : Int32)) (n := 25) hC dX9_talks_24 (by decide +kernel) rfl ?_
  refine hz_isub (n := 26) hC dX9_talks_25 rfl ?_
  refine hz_iastc (k := 5) (n := 27) hC (by decide +kernel) (by decide) dX9_talks_26 (hI 1 (by decide)) ha_m1 rfl ?_
  refine hz_aload_n (a := 1) (n := 28) hC dX9_talks_27 rfl rfl rfl ?_
  refine hz_iload_n (a := 0) (n := 29) hC dX9_talks_28 rfl rfl rfl ?_
  refine hz_bipush (v := (6 : Int32)) (n := 31) hC dX9_talks_29 (by decide +kernel) rfl ?_
  refine hz_iconst (v := (1 : Int32)) (n := 32) hC dX9_talks_31 (by decide +kernel) rfl ?_
  refine hz_callV (k := 3) (As := [.int (M 13 1 3), .int (6 : Int32), .int (1 : Int32)]) (st := []) (S1 := fun _ => []) (n := 35) hC (c_X9_adds l (M 13 1 3) (6 : Int32) (1 : Int32)   (hp_p (hp_p M 13 1 4 ((M 13 1 4) + (1 : Int32))) 13 1 5 (((hp_p M 13 1 4 ((M 13 1 4) + (1 : Int32))) 13 1 5) - (1 : Int32)))) kv_X9_adds wd_7_45 hI dX9_talks_32 rfl (hI 0 (by decide)) he_X9 rfl rfl rfl (Nat.le_of_ble_eq_true rfl) ⟨Nat.le_of_ble_eq_true rfl, Nat.le_of_ble_eq_true rfl⟩ ⟨Nat.zero_le _, Nat.zero_le _⟩ (fun _ => rfl) rfl (fun r1 M1 _ => ?_)
  refine hz_aload_n (a := 1) (n := 36) hC dX9_talks_35 rfl rfl rfl ?_
  refine hz_iconst (v := (3 : Int32)) (n := 37) hC dX9_talks_36 (by decide +kernel) rfl ?_
  refine hz_iconst (v := (1 : Int32)) (n := 38) hC dX9_talks_37 (by decide +kernel) rfl ?_
  refine hz_callV (k := 2) (As := [.int (3 : Int32), .int (1 : Int32)]) (st := []) (S1 := fun _ => []) (n := 41) hC (c_X9_counts l (3 : Int32) (1 : Int32)   M1) kv_X9_counts wd_7_49 hI dX9_talks_38 rfl (hI 0 (by decide)) he_X9 rfl rfl rfl (Nat.le_of_ble_eq_true rfl) ⟨Nat.le_of_ble_eq_true rfl, Nat.le_of_ble_eq_true rfl⟩ ⟨Nat.zero_le _, Nat.zero_le _⟩ (fun _ => rfl) rfl (fun r2 M2 _ => ?_)
  refine hz_iconst (v := (0 : Int32)) (n := 42) hC dX9_talks_41 (by decide +kernel) rfl ?_
  refine hz_istore_n (L' := [(2, .int (0 : Int32)), (1, .int (M 13 1 3)), (0, .ref (adr 13 0))]) (n := 43) hC dX9_talks_42 rfl (by decide) rfl rfl ?_
  refine hz_L (L' := [(0, .ref (adr 13 0)), (1, .int (M 13 1 3)), (2, .int (0 : Int32))]) [2, 1, 0] rfl ?_
  exact l43 _ hp_fu _ _
def F_X9_arrives (a0 : Int32) (M : hp_M) : Option (Unit × hp_M) := (hp_b (F_X9_to a0 (3 : Int32) (0 : Int32) M) (fun _ M1 => (hp_b (F_X9_reads a0 M1) (fun _ M2 => (hp_b (F_X9_isCalled a0 M2) (fun r3 M3 => (if r3 = 0 then (hp_b (F_X9_to a0 (2 : Int32) (2 : Int32) M3) (fun _ M4 => (if ((31 : Int32) + (M4 13 1 30)) < 0 ∨ 242 ≤ (((31 : Int32) + (M4 13 1 30))).toNatClampNeg then none else (some ((), (hp_p (hp_p M4 13 1 (((31 : Int32) + (M4 13 1 30))).toNatClampNeg a0) 13 1 30 (((hp_p M4 13 1 (((31 : Int32) + (M4 13 1 30))).toNatClampNeg a0) 13 1 30) + (1 : Int32)))))))) else (hp_b (F_X9_speaks a0 (M3 13 1 5) (1 : Int32) M3) (fun _ M5 => (some ((), M5)))))))))))
set_option maxRecDepth 20000 in
set_option maxHeartbeats 4000000 in
theorem c_X9_arrives (l : Launch) (a0 : Int32)  (M : hp_M) : hp_Ct l yX9_arrives cX9_arrives 2 none 2 hp_IR (fun adr adV => [.ref (adr 13 0), .int a0]) hp_oo M (F_X9_arrives a0 M) := by
  refine hp_start "HallPhoneModel" (fun adr adV => [(0, .ref (adr 13 0)), (1, .int a0)]) (by decide) rfl (fun _ _ => by simp only [lg_sl]; exact Nat.le_of_ble_eq_true rfl) (fun _ _ => rfl) ?_
  intro p e s m args below meth c A D ids adr adV cA rep G0 hI hC hr
  unfold F_X9_arrives
  refine hz_aload_n (a := 0) (n := 1) hC dX9_arrives_0 rfl rfl rfl ?_
  refine hz_iload_n (a := 1) (n := 2) hC dX9_arrives_1 rfl rfl rfl ?_
  refine hz_iconst (v := (3 : Int32)) (n := 3) hC dX9_arrives_2 (by decide +kernel) rfl ?_
  refine hz_iconst (v := (0 : Int32)) (n := 4) hC dX9_arrives_3 (by decide +kernel) rfl ?_
  refine hz_callV (k := 3) (As := [.int a0, .int (3 : Int32), .int (0 : Int32)]) (st := []) (S1 := fun _ => []) (n := 7) hC (c_X9_to l a0 (3 : Int32) (0 : Int32)   M) kv_X9_to wd_6_201 hI dX9_arrives_4 rfl (hI 0 (by decide)) he_X9 rfl rfl rfl (Nat.le_of_ble_eq_true rfl) ⟨Nat.le_of_ble_eq_true rfl, Nat.le_of_ble_eq_true rfl⟩ ⟨Nat.zero_le _, Nat.zero_le _⟩ (fun _ => rfl) rfl (fun r1 M1 _ => ?_)
  refine hz_aload_n (a := 0) (n := 8) hC dX9_arrives_7 rfl rfl rfl ?_
  refine hz_iload_n (a := 1) (n := 9) hC dX9_arrives_8 rfl rfl rfl ?_
  refine hz_callV (k := 1) (As := [.int a0]) (st := []) (S1 := fun _ => []) (n := 12) hC (c_X9_reads l a0   M1) kv_X9_reads wd_7_96 hI dX9_arrives_9 rfl (hI 0 (by decide)) he_X9 rfl rfl rfl (Nat.le_of_ble_eq_true rfl) ⟨Nat.le_of_ble_eq_true rfl, Nat.le_of_ble_eq_true rfl⟩ ⟨Nat.zero_le _, Nat.zero_le _⟩ (fun _ => rfl) rfl (fun r2 M2 _ => ?_)
  refine hz_aload_n (a := 0) (n := 13) hC dX9_arrives_12 rfl rfl rfl ?_
  refine hz_iload_n (a := 1) (n := 14) hC dX9_arrives_13 rfl rfl rfl ?_
  refine hz_callV (k := 1) (As := [.int a0]) (st := []) (S1 := fun r => .int r :: []) (n := 17) hC (c_X9_isCalled l a0   M2) kv_X9_isCalled wd_7_20 hI dX9_arrives_14 rfl (hI 0 (by decide)) he_X9 rfl rfl rfl (Nat.le_of_ble_eq_true rfl) ⟨Nat.le_of_ble_eq_true rfl, Nat.le_of_ble_eq_true rfl⟩ ⟨Nat.zero_le _, Nat.zero_le _⟩ (fun _ => rfl) rfl (fun r3 M3 _ => ?_)
  refine hz_if_eq (tgt := 33) (n := 20) hC dX9_arrives_17 (by decide) rfl (fun _ => ?_) (fun _ => ?_)
  · refine hz_aload_n (a := 0) (n := 34) hC dX9_arrives_33 rfl rfl rfl ?_
    refine hz_iload_n (a := 1) (n := 35) hC dX9_arrives_34 rfl rfl rfl ?_
    refine hz_iconst (v := (2 : Int32)) (n := 36) hC dX9_arrives_35 (by decide +kernel) rfl ?_
    refine hz_iconst (v := (2 : Int32)) (n := 37) hC dX9_arrives_36 (by decide +kernel) rfl ?_
    refine hz_callV (k := 3) (As := [.int a0, .int (2 : Int32), .int (2 : Int32)]) (st := []) (S1 := fun _ => []) (n := 40) hC (c_X9_to l a0 (2 : Int32) (2 : Int32)   M3) kv_X9_to wd_6_201 hI dX9_arrives_37 rfl (hI 0 (by decide)) he_X9 rfl rfl rfl (Nat.le_of_ble_eq_true rfl) ⟨Nat.le_of_ble_eq_true rfl, Nat.le_of_ble_eq_true rfl⟩ ⟨Nat.zero_le _, Nat.zero_le _⟩ (fun _ => rfl) rfl (fun r4 M4 _ => ?_)
    refine hz_aload_n (a := 0) (n := 41) hC dX9_arrives_40 rfl rfl rfl ?_
    refine fg_X9_7 (n := 44) hC hI dX9_arrives_41 rfl ?_
    refine hz_bipush (v := (31 : Int32)) (n := 46) hC dX9_arrives_44 (by decide +kernel) rfl ?_
    refine hz_aload_n (a := 0) (n := 47) hC dX9_arrives_46 rfl rfl rfl ?_
    refine fg_X9_7 (n := 50) hC hI dX9_arrives_47 rfl ?_
    refine hz_bipush (v := (30 : Int32)) (n := 52) hC dX9_arrives_50 (by decide +kernel) rfl ?_
    refine hz_ialdc (k := 30) (n := 53) hC (by decide +kernel) (by decide) dX9_arrives_52 (hI 1 (by decide)) ha_m1 rfl ?_
    refine hz_iadd (n := 54) hC dX9_arrives_53 rfl ?_
    refine hz_iload_n (a := 1) (n := 55) hC dX9_arrives_54 rfl rfl rfl ?_
    refine hz_iast (n := 56) hC dX9_arrives_55 (hI 1 (by decide)) ha_m1 rfl (fun _ => ?_)
    refine hz_aload_n (a := 0) (n := 57) hC dX9_arrives_56 rfl rfl rfl ?_
    refine fg_X9_7 (n := 60) hC hI dX9_arrives_57 rfl ?_
    refine hz_bipush (v := (30 : Int32)) (n := 62) hC dX9_arrives_60 (by decide +kernel) rfl ?_
    refine hz_dup2 (n := 63) hC dX9_arrives_62 rfl rfl rfl ?_
    refine hz_ialdc (k := 30) (n := 64) hC (by decide +kernel) (by decide) dX9_arrives_63 (hI 1 (by decide)) ha_m1 rfl ?_
    refine hz_iconst (v := (1 : Int32)) (n := 65) hC dX9_arrives_64 (by decide +kernel) rfl ?_
    refine hz_iadd (n := 66) hC dX9_arrives_65 rfl ?_
    refine hz_iastc (k := 30) (n := 67) hC (by decide +kernel) (by decide) dX9_arrives_66 (hI 1 (by decide)) ha_m1 rfl ?_
    exact hz_vret hC hr dX9_arrives_67
  · refine hz_aload_n (a := 0) (n := 21) hC dX9_arrives_20 rfl rfl rfl ?_
    refine hz_iload_n (a := 1) (n := 22) hC dX9_arrives_21 rfl rfl rfl ?_
    refine hz_aload_n (a := 0) (n := 23) hC dX9_arrives_22 rfl rfl rfl ?_
    refine fg_X9_7 (n := 26) hC hI dX9_arrives_23 rfl ?_
    refine hz_iconst (v := (5 : Int32)) (n := 27) hC dX9_arrives_26 (by decide +kernel) rfl ?_
    refine hz_ialdc (k := 5) (n := 28) hC (by decide +kernel) (by decide) dX9_arrives_27 (hI 1 (by decide)) ha_m1 rfl ?_
    refine hz_iconst (v := (1 : Int32)) (n := 29) hC dX9_arrives_28 (by decide +kernel) rfl ?_
    refine hz_callV (k := 3) (As := [.int a0, .int (M3 13 1 5), .int (1 : Int32)]) (st := []) (S1 := fun _ => []) (n := 32) hC (c_X9_speaks l a0 (M3 13 1 5) (1 : Int32)   M3) kv_X9_speaks wd_7_66 hI dX9_arrives_29 rfl (hI 0 (by decide)) he_X9 rfl rfl rfl (Nat.le_of_ble_eq_true rfl) ⟨Nat.le_of_ble_eq_true rfl, Nat.le_of_ble_eq_true rfl⟩ ⟨Nat.zero_le _, Nat.zero_le _⟩ (fun _ => rfl) rfl (fun r5 M5 _ => ?_)
    exact hz_vret hC hr dX9_arrives_32
def L_X9_minute_215    : Nat → Int32 → hp_M → Option (Unit × hp_M)
  | 0, _, _ => none
  | n215 + 1, x2, M => (if (M 13 1 0) ≤ x2 then (some ((), M)) else (hp_b (F_X9_of x2 (2 : Int32) M) (fun r5 M5 => (if r5 = (2 : Int32) then (hp_b (F_X9_adds x2 (8 : Int32) (1 : Int32) M5) (fun _ M6 => (L_X9_minute_215  n215 (x2 + (1 : Int32)) M6))) else (hp_b (F_X9_adds x2 (8 : Int32) (0 : Int32) M5) (fun _ M7 => (L_X9_minute_215  n215 (x2 + (1 : Int32)) M7)))))))
def A_X9_minute_213    (M : hp_M) : Option (Unit × hp_M) := (L_X9_minute_215 hp_fu (0 : Int32) M)
def A_X9_minute_167    (M : hp_M) : Option (Unit × hp_M) := (if (M 13 1 2) = 0 then (if (M 13 1 30) ≤ 0 then (A_X9_minute_213 M) else (hp_b (F_X9_of (M 13 1 31) (4 : Int32) M) (fun r8 M8 => (hp_b (F_X9_leavesQueue (M 13 1 31) M8) (fun _ M9 => (hp_b (F_X9_speaks (M 13 1 31) r8 (0 : Int32) M9) (fun _ M10 => (A_X9_minute_213 M10)))))))) else (A_X9_minute_213 M))
def A_X9_minute_160   (z160_0 : Int32) (z160_1 : Int32) (M : hp_M) : Option (Unit × hp_M) := (hp_b (F_X9_counts z160_1 z160_0 M) (fun _ M3 => (hp_b (F_X9_ends M3) (fun _ M4 => (A_X9_minute_167 M4)))))
def A_X9_minute_144    (M : hp_M) : Option (Unit × hp_M) := (if (M 13 1 5) ≤ 0 then (A_X9_minute_160 (0 : Int32) (2 : Int32) M) else (A_X9_minute_160 (1 : Int32) (2 : Int32) M))
def A_X9_minute_120   (z120_0 : Int32) (M : hp_M) : Option (Unit × hp_M) := (if (M 13 1 2) = (2 : Int32) then (if (M 13 1 5) = 0 then (A_X9_minute_144 M) else (if z120_0 = 0 then (A_X9_minute_167 M) else (A_X9_minute_144 M))) else (A_X9_minute_167 M))
def A_X9_minute_119    (M : hp_M) : Option (Unit × hp_M) := (A_X9_minute_120 (0 : Int32) M)
def L_X9_minute_32    : Nat → Int32 → hp_M → Option (Unit × hp_M)
  | 0, _, _ => none
  | n32 + 1, x1, M => (if (M 13 1 0) ≤ x1 then (if (M 13 1 7) ≤ 0 then (A_X9_minute_119 M) else (if (M 13 1 4) < (M 13 1 7) then (A_X9_minute_119 M) else (if (M 13 1 30) ≤ 0 then (A_X9_minute_119 M) else (A_X9_minute_120 (1 : Int32) M)))) else (hp_b (F_X9_of x1 (2 : Int32) M) (fun r11 M11 => (if r11 = (1 : Int32) then (hp_b (F_X9_adds x1 (3 : Int32) (-1 : Int32) M11) (fun _ M12 => (hp_b (F_X9_of x1 (3 : Int32) M12) (fun r13 M13 => (if r13 = 0 then (hp_b (F_X9_arrives x1 M13) (fun _ M14 => (L_X9_minute_32  n32 (x1 + (1 : Int32)) M14))) else (L_X9_minute_32  n32 (x1 + (1 : Int32)) M13)))))) else (L_X9_minute_32  n32 (x1 + (1 : Int32)) M11)))))
def A_X9_minute_30    (M : hp_M) : Option (Unit × hp_M) := (L_X9_minute_32 hp_fu (0 : Int32) M)
def F_X9_minute  (M : hp_M) : Option (Unit × hp_M) := (hp_b (F_X9_counts (0 : Int32) (1 : Int32) (hp_p M 13 1 1 ((M 13 1 1) + (1 : Int32)))) (fun _ M1 => (if (M1 13 1 2) = (2 : Int32) then (hp_b (F_X9_talks M1) (fun _ M2 => (A_X9_minute_30 M2))) else (A_X9_minute_30 M1))))
set_option maxRecDepth 20000 in
set_option maxHeartbeats 4000000 in
theorem c_X9_minute (l : Launch)   (M : hp_M) : hp_Ct l yX9_minute cX9_minute 4 none 3 hp_IR (fun adr adV => [.ref (adr 13 0)]) hp_oo M (F_X9_minute  M) := by
  refine hp_start "HallPhoneModel" (fun adr adV => [(0, .ref (adr 13 0))]) (by decide) rfl (fun _ _ => by simp only [lg_sl]; exact Nat.le_of_ble_eq_true rfl) (fun _ _ => rfl) ?_
  intro p e s m args below meth c A D ids adr adV cA rep G0 hI hC hr
  unfold F_X9_minute
  have l215 : ∀  (n215 : Nat) (x2 : Int32) (M : hp_M), hp_Z p l e (hp_rm 3) s m args below meth c 4 A D ids adr adV cA 0 0 (MQ below (hp_Q A D ids adr adV cA rep hp_oo G0) args s 0 0 A) G0 rep 215 [(0, .ref (adr 13 0)), (2, .int x2)] [] M (L_X9_minute_215  n215 x2 M) := by
    intro  n215
    induction n215 with
    | zero => intro x2 M; exact hz_none hC
    | succ n215 ih215 =>
      intro x2 M
      rw [L_X9_minute_215.eq_2]
      refine hz_iload_n (a := 1) (n := 216) hC dX9_minute_215 rfl rfl rfl ?_
      refine hz_aload_n (a := 0) (n := 217) hC dX9_minute_216 rfl rfl rfl ?_
      refine fg_X9_7 (n := 220) hC hI dX9_minute_217 rfl ?_
      refine hz_iconst (v := (0 : Int32)) (n := 221) hC dX9_minute_220 (by decide +kernel) rfl ?_
      refine hz_ialdc (k := 0) (n := 222) hC (by decide +kernel) (by decide) dX9_minute_221 (hI 1 (by decide)) ha_m1 rfl ?_
      refine hz_icmp_ge (tgt := 253) (n := 225) hC dX9_minute_222 (by decide) rfl (fun _ => ?_) (fun _ => ?_)
      · exact hz_vret hC hr dX9_minute_253
      · refine hz_aload_n (a := 0) (n := 226) hC dX9_minute_225 rfl rfl rfl ?_
        refine hz_iload_n (a := 1) (n := 227) hC dX9_minute_226 rfl rfl rfl ?_
        refine hz_bipush (v := (8 : Int32)) (n := 229) hC dX9_minute_227 (by decide +kernel) rfl ?_
        refine hz_aload_n (a := 0) (n := 230) hC dX9_minute_229 rfl rfl rfl ?_
        refine hz_iload_n (a := 1) (n := 231) hC dX9_minute_230 rfl rfl rfl ?_
        refine hz_iconst (v := (2 : Int32)) (n := 232) hC dX9_minute_231 (by decide +kernel) rfl ?_
        refine hz_callV (k := 2) (As := [.int x2, .int (2 : Int32)]) (st := [.int (8 : Int32), .int x2, .ref (adr 13 0)]) (S1 := fun r => .int r :: [.int (8 : Int32), .int x2, .ref (adr 13 0)]) (n := 235) hC (c_X9_of l x2 (2 : Int32)   M) kv_X9_of wd_7_7 hI dX9_minute_232 rfl (hI 0 (by decide)) he_X9 rfl rfl rfl (Nat.le_of_ble_eq_true rfl) ⟨Nat.le_of_ble_eq_true rfl, Nat.le_of_ble_eq_true rfl⟩ ⟨Nat.zero_le _, Nat.zero_le _⟩ (fun _ => rfl) rfl (fun r5 M5 _ => ?_)
        refine hz_iconst (v := (2 : Int32)) (n := 236) hC dX9_minute_235 (by decide +kernel) rfl ?_
        refine hz_icmp_ne (tgt := 243) (n := 239) hC dX9_minute_236 (by decide) rfl (fun _ => ?_) (fun _ => ?_)
        · refine hz_iconst (v := (1 : Int32)) (n := 240) hC dX9_minute_239 (by decide +kernel) rfl ?_
          refine hz_goto (n := 244) hC dX9_minute_240 (by decide) ?_
          refine hz_callV (k := 3) (As := [.int x2, .int (8 : Int32), .int (1 : Int32)]) (st := []) (S1 := fun _ => []) (n := 247) hC (c_X9_adds l x2 (8 : Int32) (1 : Int32)   M5) kv_X9_adds wd_7_45 hI dX9_minute_244 rfl (hI 0 (by decide)) he_X9 rfl rfl rfl (Nat.le_of_ble_eq_true rfl) ⟨Nat.le_of_ble_eq_true rfl, Nat.le_of_ble_eq_true rfl⟩ ⟨Nat.zero_le _, Nat.zero_le _⟩ (fun _ => rfl) rfl (fun r6 M6 _ => ?_)
          refine hz_iinc (a := 1) (v := (x2 + (1 : Int32))) (L' := [(2, .int (x2 + (1 : Int32))), (0, .ref (adr 13 0))]) (n := 250) hC dX9_minute_247 rfl rfl (by decide) rfl rfl ?_
          refine hz_goto (n := 215) hC dX9_minute_250 (by decide) ?_
          refine hz_L (L' := [(0, .ref (adr 13 0)), (2, .int (x2 + (1 : Int32)))]) [1, 0] rfl ?_
          exact ih215 _ _
        · refine hz_iconst (v := (0 : Int32)) (n := 244) hC dX9_minute_243 (by decide +kernel) rfl ?_
          refine hz_callV (k := 3) (As := [.int x2, .int (8 : Int32), .int (0 : Int32)]) (st := []) (S1 := fun _ => []) (n := 247) hC (c_X9_adds l x2 (8 : Int32) (0 : Int32)   M5) kv_X9_adds wd_7_45 hI dX9_minute_244 rfl (hI 0 (by decide)) he_X9 rfl rfl rfl (Nat.le_of_ble_eq_true rfl) ⟨Nat.le_of_ble_eq_true rfl, Nat.le_of_ble_eq_true rfl⟩ ⟨Nat.zero_le _, Nat.zero_le _⟩ (fun _ => rfl) rfl (fun r7 M7 _ => ?_)
          refine hz_iinc (a := 1) (v := (x2 + (1 : Int32))) (L' := [(2, .int (x2 + (1 : Int32))), (0, .ref (adr 13 0))]) (n := 250) hC dX9_minute_247 rfl rfl (by decide) rfl rfl ?_
          refine hz_goto (n := 215) hC dX9_minute_250 (by decide) ?_
          refine hz_L (L' := [(0, .ref (adr 13 0)), (2, .int (x2 + (1 : Int32)))]) [1, 0] rfl ?_
          exact ih215 _ _
  have j213 : ∀  (M : hp_M), hp_Z p l e (hp_rm 3) s m args below meth c 4 A D ids adr adV cA 0 0 (MQ below (hp_Q A D ids adr adV cA rep hp_oo G0) args s 0 0 A) G0 rep 213 [(0, .ref (adr 13 0))] [] M (A_X9_minute_213   M) := by
    intro  M
    unfold A_X9_minute_213
    refine hz_iconst (v := (0 : Int32)) (n := 214) hC dX9_minute_213 (by decide +kernel) rfl ?_
    refine hz_istore_n (L' := [(2, .int (0 : Int32)), (0, .ref (adr 13 0))]) (n := 215) hC dX9_minute_214 rfl (by decide) rfl rfl ?_
    refine hz_L (L' := [(0, .ref (adr 13 0)), (2, .int (0 : Int32))]) [1, 0] rfl ?_
    exact l215 hp_fu _ _
  have j167 : ∀  (M : hp_M), hp_Z p l e (hp_rm 3) s m args below meth c 4 A D ids adr adV cA 0 0 (MQ below (hp_Q A D ids adr adV cA rep hp_oo G0) args s 0 0 A) G0 rep 167 [(0, .ref (adr 13 0))] [] M (A_X9_minute_167   M) := by
    intro  M
    unfold A_X9_minute_167
    refine hz_aload_n (a := 0) (n := 168) hC dX9_minute_167 rfl rfl rfl ?_
    refine fg_X9_7 (n := 171) hC hI dX9_minute_168 rfl ?_
    refine hz_iconst (v := (2 : Int32)) (n := 172) hC dX9_minute_171 (by decide +kernel) rfl ?_
    refine hz_ialdc (k := 2) (n := 173) hC (by decide +kernel) (by decide) dX9_minute_172 (hI 1 (by decide)) ha_m1 rfl ?_
    refine hz_if_ne (tgt := 213) (n := 176) hC dX9_minute_173 (by decide) rfl (fun _ => ?_) (fun _ => ?_)
    · refine hz_aload_n (a := 0) (n := 177) hC dX9_minute_176 rfl rfl rfl ?_
      refine fg_X9_7 (n := 180) hC hI dX9_minute_177 rfl ?_
      refine hz_bipush (v := (30 : Int32)) (n := 182) hC dX9_minute_180 (by decide +kernel) rfl ?_
      refine hz_ialdc (k := 30) (n := 183) hC (by decide +kernel) (by decide) dX9_minute_182 (hI 1 (by decide)) ha_m1 rfl ?_
      refine hz_if_le (tgt := 213) (n := 186) hC dX9_minute_183 (by decide) rfl (fun _ => ?_) (fun _ => ?_)
      · exact j213 _
      · refine hz_aload_n (a := 0) (n := 187) hC dX9_minute_186 rfl rfl rfl ?_
        refine fg_X9_7 (n := 190) hC hI dX9_minute_187 rfl ?_
        refine hz_bipush (v := (31 : Int32)) (n := 192) hC dX9_minute_190 (by decide +kernel) rfl ?_
        refine hz_ialdc (k := 31) (n := 193) hC (by decide +kernel) (by decide) dX9_minute_192 (hI 1 (by decide)) ha_m1 rfl ?_
        refine hz_istore_n (L' := [(2, .int (M 13 1 31)), (0, .ref (adr 13 0))]) (n := 194) hC dX9_minute_193 rfl (by decide) rfl rfl ?_
        refine hz_aload_n (a := 1) (n := 195) hC dX9_minute_194 rfl rfl rfl ?_
        refine hz_iload_n (a := 0) (n := 196) hC dX9_minute_195 rfl rfl rfl ?_
        refine hz_iconst (v := (4 : Int32)) (n := 197) hC dX9_minute_196 (by decide +kernel) rfl ?_
        refine hz_callV (k := 2) (As := [.int (M 13 1 31), .int (4 : Int32)]) (st := []) (S1 := fun r => .int r :: []) (n := 200) hC (c_X9_of l (M 13 1 31) (4 : Int32)   M) kv_X9_of wd_7_7 hI dX9_minute_197 rfl (hI 0 (by decide)) he_X9 rfl rfl rfl (Nat.le_of_ble_eq_true rfl) ⟨Nat.le_of_ble_eq_true rfl, Nat.le_of_ble_eq_true rfl⟩ ⟨Nat.zero_le _, Nat.zero_le _⟩ (fun _ => rfl) rfl (fun r8 M8 _ => ?_)
        refine hz_istore_n (L' := [(3, .int r8), (2, .int (M 13 1 31)), (0, .ref (adr 13 0))]) (n := 201) hC dX9_minute_200 rfl (by decide) rfl rfl ?_
        refine hz_aload_n (a := 2) (n := 202) hC dX9_minute_201 rfl rfl rfl ?_
        refine hz_iload_n (a := 1) (n := 203) hC dX9_minute_202 rfl rfl rfl ?_
        refine hz_callV (k := 1) (As := [.int (M 13 1 31)]) (st := []) (S1 := fun _ => []) (n := 206) hC (c_X9_leavesQueue l (M 13 1 31)   M8) kv_X9_leavesQueue wd_7_24 hI dX9_minute_203 rfl (hI 0 (by decide)) he_X9 rfl rfl rfl (Nat.le_of_ble_eq_true rfl) ⟨Nat.le_of_ble_eq_true rfl, Nat.le_of_ble_eq_true rfl⟩ ⟨Nat.zero_le _, Nat.zero_le _⟩ (fun _ => rfl) rfl (fun r9 M9 _ => ?_)
        refine hz_aload_n (a := 2) (n := 207) hC dX9_minute_206 rfl rfl rfl ?_
        refine hz_iload_n (a := 1) (n := 208) hC dX9_minute_207 rfl rfl rfl ?_
        refine hz_iload_n (a := 0) (n := 209) hC dX9_minute_208 rfl rfl rfl ?_
        refine hz_iconst (v := (0 : Int32)) (n := 210) hC dX9_minute_209 (by decide +kernel) rfl ?_
        refine hz_callV (k := 3) (As := [.int (M 13 1 31), .int r8, .int (0 : Int32)]) (st := []) (S1 := fun _ => []) (n := 213) hC (c_X9_speaks l (M 13 1 31) r8 (0 : Int32)   M9) kv_X9_speaks wd_7_66 hI dX9_minute_210 rfl (hI 0 (by decide)) he_X9 rfl rfl rfl (Nat.le_of_ble_eq_true rfl) ⟨Nat.le_of_ble_eq_true rfl, Nat.le_of_ble_eq_true rfl⟩ ⟨Nat.zero_le _, Nat.zero_le _⟩ (fun _ => rfl) rfl (fun r10 M10 _ => ?_)
        refine hz_L (L' := [(0, .ref (adr 13 0))]) [2] rfl ?_
        exact j213 _
    · exact j213 _
  have j160 : ∀ (z160_0 : Int32) (z160_1 : Int32) (M : hp_M), hp_Z p l e (hp_rm 3) s m args below meth c 4 A D ids adr adV cA 0 0 (MQ below (hp_Q A D ids adr adV cA rep hp_oo G0) args s 0 0 A) G0 rep 160 [(0, .ref (adr 13 0))] [.int z160_0, .int z160_1, .ref (adr 13 0)] M (A_X9_minute_160  z160_0 z160_1 M) := by
    intro z160_0 z160_1 M
    unfold A_X9_minute_160
    refine hz_callV (k := 2) (As := [.int z160_1, .int z160_0]) (st := []) (S1 := fun _ => []) (n := 163) hC (c_X9_counts l z160_1 z160_0   M) kv_X9_counts wd_7_49 hI dX9_minute_160 rfl (hI 0 (by decide)) he_X9 rfl rfl rfl (Nat.le_of_ble_eq_true rfl) ⟨Nat.le_of_ble_eq_true rfl, Nat.le_of_ble_eq_true rfl⟩ ⟨Nat.zero_le _, Nat.zero_le _⟩ (fun _ => rfl) rfl (fun r3 M3 _ => ?_)
    refine hz_aload_n (a := 0) (n := 164) hC dX9_minute_163 rfl rfl rfl ?_
    refine hz_callV (k := 0) (As := []) (st := []) (S1 := fun _ => []) (n := 167) hC (c_X9_ends l    M3) kv_X9_ends wd_7_37 hI dX9_minute_164 rfl (hI 0 (by decide)) he_X9 rfl rfl rfl (Nat.le_of_ble_eq_true rfl) ⟨Nat.le_of_ble_eq_true rfl, Nat.le_of_ble_eq_true rfl⟩ ⟨Nat.zero_le _, Nat.zero_le _⟩ (fun _ => rfl) rfl (fun r4 M4 _ => ?_)
    exact j167 _
  have j144 : ∀  (M : hp_M), hp_Z p l e (hp_rm 3) s m args below meth c 4 A D ids adr adV cA 0 0 (MQ below (hp_Q A D ids adr adV cA rep hp_oo G0) args s 0 0 A) G0 rep 144 [(0, .ref (adr 13 0))] [] M (A_X9_minute_144   M) := by
    intro  M
    unfold A_X9_minute_144
    refine hz_aload_n (a := 0) (n := 145) hC dX9_minute_144 rfl rfl rfl ?_
    refine hz_iconst (v := (2 : Int32)) (n := 146) hC dX9_minute_145 (by decide +kernel) rfl ?_
    refine hz_aload_n (a := 0) (n := 147) hC dX9_minute_146 rfl rfl rfl ?_
    refine fg_X9_7 (n := 150) hC hI dX9_minute_147 rfl ?_
    refine hz_iconst (v := (5 : Int32)) (n := 151) hC dX9_minute_150 (by decide +kernel) rfl ?_
    refine hz_ialdc (k := 5) (n := 152) hC (by decide +kernel) (by decide) dX9_minute_151 (hI 1 (by decide)) ha_m1 rfl ?_
    refine hz_if_le (tgt := 159) (n := 155) hC dX9_minute_152 (by decide) rfl (fun _ => ?_) (fun _ => ?_)
    · refine hz_iconst (v := (0 : Int32)) (n := 160) hC dX9_minute_159 (by decide +kernel) rfl ?_
      exact j160 _ _ _
    · refine hz_iconst (v := (1 : Int32)) (n := 156) hC dX9_minute_155 (by decide +kernel) rfl ?_
      refine hz_goto (n := 160) hC dX9_minute_156 (by decide) ?_
      exact j160 _ _ _
  have j120 : ∀ (z120_0 : Int32) (M : hp_M), hp_Z p l e (hp_rm 3) s m args below meth c 4 A D ids adr adV cA 0 0 (MQ below (hp_Q A D ids adr adV cA rep hp_oo G0) args s 0 0 A) G0 rep 120 [(0, .ref (adr 13 0))] [.int z120_0] M (A_X9_minute_120  z120_0 M) := by
    intro z120_0 M
    unfold A_X9_minute_120
    refine hz_istore_n (L' := [(1, .int z120_0), (0, .ref (adr 13 0))]) (n := 121) hC dX9_minute_120 rfl (by decide) rfl rfl ?_
    refine hz_aload_n (a := 1) (n := 122) hC dX9_minute_121 rfl rfl rfl ?_
    refine fg_X9_7 (n := 125) hC hI dX9_minute_122 rfl ?_
    refine hz_iconst (v := (2 : Int32)) (n := 126) hC dX9_minute_125 (by decide +kernel) rfl ?_
    refine hz_ialdc (k := 2) (n := 127) hC (by decide +kernel) (by decide) dX9_minute_126 (hI 1 (by decide)) ha_m1 rfl ?_
    refine hz_iconst (v := (2 : Int32)) (n := 128) hC dX9_minute_127 (by decide +kernel) rfl ?_
    refine hz_icmp_ne (tgt := 167) (n := 131) hC dX9_minute_128 (by decide) rfl (fun _ => ?_) (fun _ => ?_)
    · refine hz_aload_n (a := 1) (n := 132) hC dX9_minute_131 rfl rfl rfl ?_
      refine fg_X9_7 (n := 135) hC hI dX9_minute_132 rfl ?_
      refine hz_iconst (v := (5 : Int32)) (n := 136) hC dX9_minute_135 (by decide +kernel) rfl ?_
      refine hz_ialdc (k := 5) (n := 137) hC (by decide +kernel) (by decide) dX9_minute_136 (hI 1 (by decide)) ha_m1 rfl ?_
      refine hz_if_eq (tgt := 144) (n := 140) hC dX9_minute_137 (by decide) rfl (fun _ => ?_) (fun _ => ?_)
      · refine hz_L (L' := [(0, .ref (adr 13 0))]) [1] rfl ?_
        exact j144 _
      · refine hz_iload_n (a := 0) (n := 141) hC dX9_minute_140 rfl rfl rfl ?_
        refine hz_if_eq (tgt := 167) (n := 144) hC dX9_minute_141 (by decide) rfl (fun _ => ?_) (fun _ => ?_)
        · refine hz_L (L' := [(0, .ref (adr 13 0))]) [1] rfl ?_
          exact j167 _
        · refine hz_L (L' := [(0, .ref (adr 13 0))]) [1] rfl ?_
          exact j144 _
    · refine hz_L (L' := [(0, .ref (adr 13 0))]) [1] rfl ?_
      exact j167 _
  have j119 : ∀  (M : hp_M), hp_Z p l e (hp_rm 3) s m args below meth c 4 A D ids adr adV cA 0 0 (MQ below (hp_Q A D ids adr adV cA rep hp_oo G0) args s 0 0 A) G0 rep 119 [(0, .ref (adr 13 0))] [] M (A_X9_minute_119   M) := by
    intro  M
    unfold A_X9_minute_119
    refine hz_iconst (v := (0 : Int32)) (n := 120) hC dX9_minute_119 (by decide +kernel) rfl ?_
    exact j120 _ _
  have l32 : ∀  (n32 : Nat) (x1 : Int32) (M : hp_M), hp_Z p l e (hp_rm 3) s m args below meth c 4 A D ids adr adV cA 0 0 (MQ below (hp_Q A D ids adr adV cA rep hp_oo G0) args s 0 0 A) G0 rep 32 [(0, .ref (adr 13 0)), (1, .int x1)] [] M (L_X9_minute_32  n32 x1 M) := by
    intro  n32
    induction n32 with
    | zero => intro x1 M; exact hz_none hC
    | succ n32 ih32 =>
      intro x1 M
      rw [L_X9_minute_32.eq_2]
      refine hz_iload_n (a := 1) (n := 33) hC dX9_minute_32 rfl rfl rfl ?_
      refine hz_aload_n (a := 0) (n := 34) hC dX9_minute_33 rfl rfl rfl ?_
      refine fg_X9_7 (n := 37) hC hI dX9_minute_34 rfl ?_
      refine hz_iconst (v := (0 : Int32)) (n := 38) hC dX9_minute_37 (by decide +kernel) rfl ?_
      refine hz_ialdc (k := 0) (n := 39) hC (by decide +kernel) (by decide) dX9_minute_38 (hI 1 (by decide)) ha_m1 rfl ?_
      refine hz_icmp_ge (tgt := 79) (n := 42) hC dX9_minute_39 (by decide) rfl (fun _ => ?_) (fun _ => ?_)
      · refine hz_aload_n (a := 0) (n := 80) hC dX9_minute_79 rfl rfl rfl ?_
        refine fg_X9_7 (n := 83) hC hI dX9_minute_80 rfl ?_
        refine hz_bipush (v := (7 : Int32)) (n := 85) hC dX9_minute_83 (by decide +kernel) rfl ?_
        refine hz_ialdc (k := 7) (n := 86) hC (by decide +kernel) (by decide) dX9_minute_85 (hI 1 (by decide)) ha_m1 rfl ?_
        refine hz_if_le (tgt := 119) (n := 89) hC dX9_minute_86 (by decide) rfl (fun _ => ?_) (fun _ => ?_)
        · refine hz_L (L' := [(0, .ref (adr 13 0))]) [0] rfl ?_
          exact j119 _
        · refine hz_aload_n (a := 0) (n := 90) hC dX9_minute_89 rfl rfl rfl ?_
          refine fg_X9_7 (n := 93) hC hI dX9_minute_90 rfl ?_
          refine hz_iconst (v := (4 : Int32)) (n := 94) hC dX9_minute_93 (by decide +kernel) rfl ?_
          refine hz_ialdc (k := 4) (n := 95) hC (by decide +kernel) (by decide) dX9_minute_94 (hI 1 (by decide)) ha_m1 rfl ?_
          refine hz_aload_n (a := 0) (n := 96) hC dX9_minute_95 rfl rfl rfl ?_
          refine fg_X9_7 (n := 99) hC hI dX9_minute_96 rfl ?_
          refine hz_bipush (v := (7 : Int32)) (n := 101) hC dX9_minute_99 (by decide +kernel) rfl ?_
          refine hz_ialdc (k := 7) (n := 102) hC (by decide +kernel) (by decide) dX9_minute_101 (hI 1 (by decide)) ha_m1 rfl ?_
          refine hz_icmp_lt (tgt := 119) (n := 105) hC dX9_minute_102 (by decide) rfl (fun _ => ?_) (fun _ => ?_)
          · refine hz_L (L' := [(0, .ref (adr 13 0))]) [0] rfl ?_
            exact j119 _
          · refine hz_aload_n (a := 0) (n := 106) hC dX9_minute_105 rfl rfl rfl ?_
            refine fg_X9_7 (n := 109) hC hI dX9_minute_106 rfl ?_
            refine hz_bipush (v := (30 : Int32)) (n := 111) hC dX9_minute_109 (by decide +kernel) rfl ?_
            refine hz_ialdc (k := 30) (n := 112) hC (by decide +kernel) (by decide) dX9_minute_111 (hI 1 (by decide)) ha_m1 rfl ?_
            refine hz_if_le (tgt := 119) (n := 115) hC dX9_minute_112 (by decide) rfl (fun _ => ?_) (fun _ => ?_)
            · refine hz_L (L' := [(0, .ref (adr 13 0))]) [0] rfl ?_
              exact j119 _
            · refine hz_iconst (v := (1 : Int32)) (n := 116) hC dX9_minute_115 (by decide +kernel) rfl ?_
              refine hz_goto (n := 120) hC dX9_minute_116 (by decide) ?_
              refine hz_L (L' := [(0, .ref (adr 13 0))]) [0] rfl ?_
              exact j120 _ _
      · refine hz_aload_n (a := 0) (n := 43) hC dX9_minute_42 rfl rfl rfl ?_
        refine hz_iload_n (a := 1) (n := 44) hC dX9_minute_43 rfl rfl rfl ?_
        refine hz_iconst (v := (2 : Int32)) (n := 45) hC dX9_minute_44 (by decide +kernel) rfl ?_
        refine hz_callV (k := 2) (As := [.int x1, .int (2 : Int32)]) (st := []) (S1 := fun r => .int r :: []) (n := 48) hC (c_X9_of l x1 (2 : Int32)   M) kv_X9_of wd_7_7 hI dX9_minute_45 rfl (hI 0 (by decide)) he_X9 rfl rfl rfl (Nat.le_of_ble_eq_true rfl) ⟨Nat.le_of_ble_eq_true rfl, Nat.le_of_ble_eq_true rfl⟩ ⟨Nat.zero_le _, Nat.zero_le _⟩ (fun _ => rfl) rfl (fun r11 M11 _ => ?_)
        refine hz_iconst (v := (1 : Int32)) (n := 49) hC dX9_minute_48 (by decide +kernel) rfl ?_
        refine hz_icmp_ne (tgt := 73) (n := 52) hC dX9_minute_49 (by decide) rfl (fun _ => ?_) (fun _ => ?_)
        · refine hz_aload_n (a := 0) (n := 53) hC dX9_minute_52 rfl rfl rfl ?_
          refine hz_iload_n (a := 1) (n := 54) hC dX9_minute_53 rfl rfl rfl ?_
          refine hz_iconst (v := (3 : Int32)) (n := 55) hC dX9_minute_54 (by decide +kernel) rfl ?_
          refine hz_iconst (v := (-1 : Int32)) (n := 56) hC dX9_minute_55 (by decide +kernel) rfl ?_
          refine hz_callV (k := 3) (As := [.int x1, .int (3 : Int32), .int (-1 : Int32)]) (st := []) (S1 := fun _ => []) (n := 59) hC (c_X9_adds l x1 (3 : Int32) (-1 : Int32)   M11) kv_X9_adds wd_7_45 hI dX9_minute_56 rfl (hI 0 (by decide)) he_X9 rfl rfl rfl (Nat.le_of_ble_eq_true rfl) ⟨Nat.le_of_ble_eq_true rfl, Nat.le_of_ble_eq_true rfl⟩ ⟨Nat.zero_le _, Nat.zero_le _⟩ (fun _ => rfl) rfl (fun r12 M12 _ => ?_)
          refine hz_aload_n (a := 0) (n := 60) hC dX9_minute_59 rfl rfl rfl ?_
          refine hz_iload_n (a := 1) (n := 61) hC dX9_minute_60 rfl rfl rfl ?_
          refine hz_iconst (v := (3 : Int32)) (n := 62) hC dX9_minute_61 (by decide +kernel) rfl ?_
          refine hz_callV (k := 2) (As := [.int x1, .int (3 : Int32)]) (st := []) (S1 := fun r => .int r :: []) (n := 65) hC (c_X9_of l x1 (3 : Int32)   M12) kv_X9_of wd_7_7 hI dX9_minute_62 rfl (hI 0 (by decide)) he_X9 rfl rfl rfl (Nat.le_of_ble_eq_true rfl) ⟨Nat.le_of_ble_eq_true rfl, Nat.le_of_ble_eq_true rfl⟩ ⟨Nat.zero_le _, Nat.zero_le _⟩ (fun _ => rfl) rfl (fun r13 M13 _ => ?_)
          refine hz_if_ne (tgt := 73) (n := 68) hC dX9_minute_65 (by decide) rfl (fun _ => ?_) (fun _ => ?_)
          · refine hz_aload_n (a := 0) (n := 69) hC dX9_minute_68 rfl rfl rfl ?_
            refine hz_iload_n (a := 1) (n := 70) hC dX9_minute_69 rfl rfl rfl ?_
            refine hz_callV (k := 1) (As := [.int x1]) (st := []) (S1 := fun _ => []) (n := 73) hC (c_X9_arrives l x1   M13) kv_X9_arrives wd_7_92 hI dX9_minute_70 rfl (hI 0 (by decide)) he_X9 rfl rfl rfl (Nat.le_of_ble_eq_true rfl) ⟨Nat.le_of_ble_eq_true rfl, Nat.le_of_ble_eq_true rfl⟩ ⟨Nat.zero_le _, Nat.zero_le _⟩ (fun _ => rfl) rfl (fun r14 M14 _ => ?_)
            refine hz_iinc (a := 1) (v := (x1 + (1 : Int32))) (L' := [(1, .int (x1 + (1 : Int32))), (0, .ref (adr 13 0))]) (n := 76) hC dX9_minute_73 rfl rfl (by decide) rfl rfl ?_
            refine hz_goto (n := 32) hC dX9_minute_76 (by decide) ?_
            refine hz_L (L' := [(0, .ref (adr 13 0)), (1, .int (x1 + (1 : Int32)))]) [1, 0] rfl ?_
            exact ih32 _ _
          · refine hz_iinc (a := 1) (v := (x1 + (1 : Int32))) (L' := [(1, .int (x1 + (1 : Int32))), (0, .ref (adr 13 0))]) (n := 76) hC dX9_minute_73 rfl rfl (by decide) rfl rfl ?_
            refine hz_goto (n := 32) hC dX9_minute_76 (by decide) ?_
            refine hz_L (L' := [(0, .ref (adr 13 0)), (1, .int (x1 + (1 : Int32)))]) [1, 0] rfl ?_
            exact ih32 _ _
        · refine hz_iinc (a := 1) (v := (x1 + (1 : Int32))) (L' := [(1, .int (x1 + (1 : Int32))), (0, .ref (adr 13 0))]) (n := 76) hC dX9_minute_73 rfl rfl (by decide) rfl rfl ?_
          refine hz_goto (n := 32) hC dX9_minute_76 (by decide) ?_
          refine hz_L (L' := [(0, .ref (adr 13 0)), (1, .int (x1 + (1 : Int32)))]) [1, 0] rfl ?_
          exact ih32 _ _
  have j30 : ∀  (M : hp_M), hp_Z p l e (hp_rm 3) s m args below meth c 4 A D ids adr adV cA 0 0 (MQ below (hp_Q A D ids adr adV cA rep hp_oo G0) args s 0 0 A) G0 rep 30 [(0, .ref (adr 13 0))] [] M (A_X9_minute_30   M) := by
    intro  M
    unfold A_X9_minute_30
    refine hz_iconst (v := (0 : Int32)) (n := 31) hC dX9_minute_30 (by decide +kernel) rfl ?_
    refine hz_istore_n (L' := [(1, .int (0 : Int32)), (0, .ref (adr 13 0))]) (n := 32) hC dX9_minute_31 rfl (by decide) rfl rfl ?_
    refine hz_L (L' := [(0, .ref (adr 13 0)), (1, .int (0 : Int32))]) [1, 0] rfl ?_
    exact l32 hp_fu _ _
  refine hz_aload_n (a := 0) (n := 1) hC dX9_minute_0 rfl rfl rfl ?_
  refine fg_X9_7 (n := 4) hC hI dX9_minute_1 rfl ?_
  refine hz_iconst (v := (1 : Int32)) (n := 5) hC dX9_minute_4 (by decide +kernel) rfl ?_
  refine hz_dup2 (n := 6) hC dX9_minute_5 rfl rfl rfl ?_
  refine hz_ialdc (k := 1) (n := 7) hC (by decide +kernel) (by decide) dX9_minute_6 (hI 1 (by decide)) ha_m1 rfl ?_
  refine hz_iconst (v := (1 : Int32)) (n := 8) hC dX9_minute_7 (by decide +kernel) rfl ?_
  refine hz_iadd (n := 9) hC dX9_minute_8 rfl ?_
  refine hz_iastc (k := 1) (n := 10) hC (by decide +kernel) (by decide) dX9_minute_9 (hI 1 (by decide)) ha_m1 rfl ?_
  refine hz_aload_n (a := 0) (n := 11) hC dX9_minute_10 rfl rfl rfl ?_
  refine hz_iconst (v := (0 : Int32)) (n := 12) hC dX9_minute_11 (by decide +kernel) rfl ?_
  refine hz_iconst (v := (1 : Int32)) (n := 13) hC dX9_minute_12 (by decide +kernel) rfl ?_
  refine hz_callV (k := 2) (As := [.int (0 : Int32), .int (1 : Int32)]) (st := []) (S1 := fun _ => []) (n := 16) hC (c_X9_counts l (0 : Int32) (1 : Int32)   (hp_p M 13 1 1 ((M 13 1 1) + (1 : Int32)))) kv_X9_counts wd_7_49 hI dX9_minute_13 rfl (hI 0 (by decide)) he_X9 rfl rfl rfl (Nat.le_of_ble_eq_true rfl) ⟨Nat.le_of_ble_eq_true rfl, Nat.le_of_ble_eq_true rfl⟩ ⟨Nat.zero_le _, Nat.zero_le _⟩ (fun _ => rfl) rfl (fun r1 M1 _ => ?_)
  refine hz_aload_n (a := 0) (n := 17) hC dX9_minute_16 rfl rfl rfl ?_
  refine fg_X9_7 (n := 20) hC hI dX9_minute_17 rfl ?_
  refine hz_iconst (v := (2 : Int32)) (n := 21) hC dX9_minute_20 (by decide +kernel) rfl ?_
  refine hz_ialdc (k := 2) (n := 22) hC (by decide +kernel) (by decide) dX9_minute_21 (hI 1 (by decide)) ha_m1 rfl ?_
  refine hz_iconst (v := (2 : Int32)) (n := 23) hC dX9_minute_22 (by decide +kernel) rfl ?_
  refine hz_icmp_ne (tgt := 30) (n := 26) hC dX9_minute_23 (by decide) rfl (fun _ => ?_) (fun _ => ?_)
  · refine hz_aload_n (a := 0) (n := 27) hC dX9_minute_26 rfl rfl rfl ?_
    refine hz_callV (k := 0) (As := []) (st := []) (S1 := fun _ => []) (n := 30) hC (c_X9_talks l    M1) kv_X9_talks wd_7_84 hI dX9_minute_27 rfl (hI 0 (by decide)) he_X9 rfl rfl rfl (Nat.le_of_ble_eq_true rfl) ⟨Nat.le_of_ble_eq_true rfl, Nat.le_of_ble_eq_true rfl⟩ ⟨Nat.zero_le _, Nat.zero_le _⟩ (fun _ => rfl) rfl (fun r2 M2 _ => ?_)
    exact j30 _
  · exact j30 _
def L_X9_minutes_10 (a0 : Int32)  (k10_2 : Int32) : Nat → Int32 → hp_M → Option (Int32 × hp_M)
  | 0, _, _ => none
  | n10 + 1, x3, M => (if a0 ≤ x3 then (some (((M 13 1 43) - k10_2), M)) else (hp_b (F_X9_minute M) (fun _ M1 => (L_X9_minutes_10 a0 k10_2 n10 (x3 + (1 : Int32)) M1))))
def F_X9_minutes (a0 : Int32) (M : hp_M) : Option (Int32 × hp_M) := (L_X9_minutes_10 a0 (M 13 1 43) hp_fu (0 : Int32) M)
set_option maxRecDepth 20000 in
set_option maxHeartbeats 4000000 in
theorem c_X9_minutes (l : Launch) (a0 : Int32)  (M : hp_M) : hp_Ct l yX9_minutes cX9_minutes 4 (some .int) 4 hp_IR (fun adr adV => [.ref (adr 13 0), .int a0]) hp_oi M (F_X9_minutes a0 M) := by
  refine hp_start "HallPhoneModel" (fun adr adV => [(0, .ref (adr 13 0)), (1, .int a0)]) (by decide) rfl (fun _ _ => by simp only [lg_sl]; exact Nat.le_of_ble_eq_true rfl) (fun _ _ => rfl) ?_
  intro p e s m args below meth c A D ids adr adV cA rep G0 hI hC hr
  unfold F_X9_minutes
  have l10 : ∀ (k10_2 : Int32) (n10 : Nat) (x3 : Int32) (M : hp_M), hp_Z p l e (hp_rm 4) s m args below meth c 4 A D ids adr adV cA 0 0 (MQ below (hp_Q A D ids adr adV cA rep hp_oi G0) args s 0 0 A) G0 rep 10 [(0, .ref (adr 13 0)), (1, .int a0), (2, .int k10_2), (3, .int x3)] [] M (L_X9_minutes_10 a0 k10_2 n10 x3 M) := by
    intro k10_2 n10
    induction n10 with
    | zero => intro x3 M; exact hz_none hC
    | succ n10 ih10 =>
      intro x3 M
      rw [L_X9_minutes_10.eq_2]
      refine hz_iload_n (a := 3) (n := 11) hC dX9_minutes_10 rfl rfl rfl ?_
      refine hz_iload_n (a := 1) (n := 12) hC dX9_minutes_11 rfl rfl rfl ?_
      refine hz_icmp_ge (tgt := 25) (n := 15) hC dX9_minutes_12 (by decide) rfl (fun _ => ?_) (fun _ => ?_)
      · refine hz_aload_n (a := 0) (n := 26) hC dX9_minutes_25 rfl rfl rfl ?_
        refine fg_X9_7 (n := 29) hC hI dX9_minutes_26 rfl ?_
        refine hz_bipush (v := (43 : Int32)) (n := 31) hC dX9_minutes_29 (by decide +kernel) rfl ?_
        refine hz_ialdc (k := 43) (n := 32) hC (by decide +kernel) (by decide) dX9_minutes_31 (hI 1 (by decide)) ha_m1 rfl ?_
        refine hz_iload_n (a := 2) (n := 33) hC dX9_minutes_32 rfl rfl rfl ?_
        refine hz_isub (n := 34) hC dX9_minutes_33 rfl ?_
        exact hz_iret hC hr dX9_minutes_34
      · refine hz_aload_n (a := 0) (n := 16) hC dX9_minutes_15 rfl rfl rfl ?_
        refine hz_callV (k := 0) (As := []) (st := []) (S1 := fun _ => []) (n := 19) hC (c_X9_minute l    M) kv_X9_minute wd_7_80 hI dX9_minutes_16 rfl (hI 0 (by decide)) he_X9 rfl rfl rfl (Nat.le_of_ble_eq_true rfl) ⟨Nat.le_of_ble_eq_true rfl, Nat.le_of_ble_eq_true rfl⟩ ⟨Nat.zero_le _, Nat.zero_le _⟩ (fun _ => rfl) rfl (fun r1 M1 _ => ?_)
        refine hz_iinc (a := 3) (v := (x3 + (1 : Int32))) (L' := [(3, .int (x3 + (1 : Int32))), (0, .ref (adr 13 0)), (1, .int a0), (2, .int k10_2)]) (n := 22) hC dX9_minutes_19 rfl rfl (by decide) rfl rfl ?_
        refine hz_goto (n := 10) hC dX9_minutes_22 (by decide) ?_
        refine hz_L (L' := [(0, .ref (adr 13 0)), (1, .int a0), (2, .int k10_2), (3, .int (x3 + (1 : Int32)))]) [1, 2, 3, 0] rfl ?_
        exact ih10 _ _
  refine hz_aload_n (a := 0) (n := 1) hC dX9_minutes_0 rfl rfl rfl ?_
  refine fg_X9_7 (n := 4) hC hI dX9_minutes_1 rfl ?_
  refine hz_bipush (v := (43 : Int32)) (n := 6) hC dX9_minutes_4 (by decide +kernel) rfl ?_
  refine hz_ialdc (k := 43) (n := 7) hC (by decide +kernel) (by decide) dX9_minutes_6 (hI 1 (by decide)) ha_m1 rfl ?_
  refine hz_istore_n (L' := [(2, .int (M 13 1 43)), (0, .ref (adr 13 0)), (1, .int a0)]) (n := 8) hC dX9_minutes_7 rfl (by decide) rfl rfl ?_
  refine hz_iconst (v := (0 : Int32)) (n := 9) hC dX9_minutes_8 (by decide +kernel) rfl ?_
  refine hz_istore_n (L' := [(3, .int (0 : Int32)), (2, .int (M 13 1 43)), (0, .ref (adr 13 0)), (1, .int a0)]) (n := 10) hC dX9_minutes_9 rfl (by decide) rfl rfl ?_
  refine hz_L (L' := [(0, .ref (adr 13 0)), (1, .int a0), (2, .int (M 13 1 43)), (3, .int (0 : Int32))]) [2, 3, 1, 0] rfl ?_
  exact l10 _ hp_fu _ _
def F_X9_wants (a0 : Int32) (a1 : Int32) (M : hp_M) : Option (Int32 × hp_M) := (hp_b (F_X9_of a0 (2 : Int32) M) (fun r1 M1 => (if r1 = 0 then (hp_b (F_X9_to a0 (2 : Int32) (1 : Int32) M1) (fun _ M2 => (hp_b (F_X9_of a0 (0 : Int32) M2) (fun r3 M3 => (hp_b (F_X9_to a0 (3 : Int32) ((1 : Int32) + r3) M3) (fun _ M4 => (hp_b (F_X9_to a0 (4 : Int32) a1 M4) (fun _ M5 => (hp_b (F_X9_of a0 (3 : Int32) M5) (fun r6 M6 => (some (r6, M6)))))))))))) else (some ((-2 : Int32), M1)))))
set_option maxRecDepth 20000 in
set_option maxHeartbeats 4000000 in
theorem c_X9_wants (l : Launch) (a0 : Int32) (a1 : Int32)  (M : hp_M) : hp_Ct l yX9_wants cX9_wants 3 (some .int) 1 hp_IR (fun adr adV => [.ref (adr 13 0), .int a0, .int a1]) hp_oi M (F_X9_wants a0 a1 M) := by
  refine hp_start "HallPhoneModel" (fun adr adV => [(0, .ref (adr 13 0)), (1, .int a0), (2, .int a1)]) (by decide) rfl (fun _ _ => by simp only [lg_sl]; exact Nat.le_of_ble_eq_true rfl) (fun _ _ => rfl) ?_
  intro p e s m args below meth c A D ids adr adV cA rep G0 hI hC hr
  unfold F_X9_wants
  refine hz_aload_n (a := 0) (n := 1) hC dX9_wants_0 rfl rfl rfl ?_
  refine hz_iload_n (a := 1) (n := 2) hC dX9_wants_1 rfl rfl rfl ?_
  refine hz_iconst (v := (2 : Int32)) (n := 3) hC dX9_wants_2 (by decide +kernel) rfl ?_
  refine hz_callV (k := 2) (As := [.int a0, .int (2 : Int32)]) (st := []) (S1 := fun r => .int r :: []) (n := 6) hC (c_X9_of l a0 (2 : Int32)   M) kv_X9_of wd_7_7 hI dX9_wants_3 rfl (hI 0 (by decide)) he_X9 rfl rfl rfl (Nat.le_of_ble_eq_true rfl) ⟨Nat.le_of_ble_eq_true rfl, Nat.le_of_ble_eq_true rfl⟩ ⟨Nat.zero_le _, Nat.zero_le _⟩ (fun _ => rfl) rfl (fun r1 M1 _ => ?_)
  refine hz_if_eq (tgt := 12) (n := 9) hC dX9_wants_6 (by decide) rfl (fun _ => ?_) (fun _ => ?_)
  · refine hz_aload_n (a := 0) (n := 13) hC dX9_wants_12 rfl rfl rfl ?_
    refine hz_iload_n (a := 1) (n := 14) hC dX9_wants_13 rfl rfl rfl ?_
    refine hz_iconst (v := (2 : Int32)) (n := 15) hC dX9_wants_14 (by decide +kernel) rfl ?_
    refine hz_iconst (v := (1 : Int32)) (n := 16) hC dX9_wants_15 (by decide +kernel) rfl ?_
    refine hz_callV (k := 3) (As := [.int a0, .int (2 : Int32), .int (1 : Int32)]) (st := []) (S1 := fun _ => []) (n := 19) hC (c_X9_to l a0 (2 : Int32) (1 : Int32)   M1) kv_X9_to wd_6_201 hI dX9_wants_16 rfl (hI 0 (by decide)) he_X9 rfl rfl rfl (Nat.le_of_ble_eq_true rfl) ⟨Nat.le_of_ble_eq_true rfl, Nat.le_of_ble_eq_true rfl⟩ ⟨Nat.zero_le _, Nat.zero_le _⟩ (fun _ => rfl) rfl (fun r2 M2 _ => ?_)
    refine hz_aload_n (a := 0) (n := 20) hC dX9_wants_19 rfl rfl rfl ?_
    refine hz_iload_n (a := 1) (n := 21) hC dX9_wants_20 rfl rfl rfl ?_
    refine hz_iconst (v := (3 : Int32)) (n := 22) hC dX9_wants_21 (by decide +kernel) rfl ?_
    refine hz_iconst (v := (1 : Int32)) (n := 23) hC dX9_wants_22 (by decide +kernel) rfl ?_
    refine hz_aload_n (a := 0) (n := 24) hC dX9_wants_23 rfl rfl rfl ?_
    refine hz_iload_n (a := 1) (n := 25) hC dX9_wants_24 rfl rfl rfl ?_
    refine hz_iconst (v := (0 : Int32)) (n := 26) hC dX9_wants_25 (by decide +kernel) rfl ?_
    refine hz_callV (k := 2) (As := [.int a0, .int (0 : Int32)]) (st := [.int (1 : Int32), .int (3 : Int32), .int a0, .ref (adr 13 0)]) (S1 := fun r => .int r :: [.int (1 : Int32), .int (3 : Int32), .int a0, .ref (adr 13 0)]) (n := 29) hC (c_X9_of l a0 (0 : Int32)   M2) kv_X9_of wd_7_7 hI dX9_wants_26 rfl (hI 0 (by decide)) he_X9 rfl rfl rfl (Nat.le_of_ble_eq_true rfl) ⟨Nat.le_of_ble_eq_true rfl, Nat.le_of_ble_eq_true rfl⟩ ⟨Nat.zero_le _, Nat.zero_le _⟩ (fun _ => rfl) rfl (fun r3 M3 _ => ?_)
    refine hz_iadd (n := 30) hC dX9_wants_29 rfl ?_
    refine hz_callV (k := 3) (As := [.int a0, .int (3 : Int32), .int ((1 : Int32) + r3)]) (st := []) (S1 := fun _ => []) (n := 33) hC (c_X9_to l a0 (3 : Int32) ((1 : Int32) + r3)   M3) kv_X9_to wd_6_201 hI dX9_wants_30 rfl (hI 0 (by decide)) he_X9 rfl rfl rfl (Nat.le_of_ble_eq_true rfl) ⟨Nat.le_of_ble_eq_true rfl, Nat.le_of_ble_eq_true rfl⟩ ⟨Nat.zero_le _, Nat.zero_le _⟩ (fun _ => rfl) rfl (fun r4 M4 _ => ?_)
    refine hz_aload_n (a := 0) (n := 34) hC dX9_wants_33 rfl rfl rfl ?_
    refine hz_iload_n (a := 1) (n := 35) hC dX9_wants_34 rfl rfl rfl ?_
    refine hz_iconst (v := (4 : Int32)) (n := 36) hC dX9_wants_35 (by decide +kernel) rfl ?_
    refine hz_iload_n (a := 2) (n := 37) hC dX9_wants_36 rfl rfl rfl ?_
    refine hz_callV (k := 3) (As := [.int a0, .int (4 : Int32), .int a1]) (st := []) (S1 := fun _ => []) (n := 40) hC (c_X9_to l a0 (4 : Int32) a1   M4) kv_X9_to wd_6_201 hI dX9_wants_37 rfl (hI 0 (by decide)) he_X9 rfl rfl rfl (Nat.le_of_ble_eq_true rfl) ⟨Nat.le_of_ble_eq_true rfl, Nat.le_of_ble_eq_true rfl⟩ ⟨Nat.zero_le _, Nat.zero_le _⟩ (fun _ => rfl) rfl (fun r5 M5 _ => ?_)
    refine hz_aload_n (a := 0) (n := 41) hC dX9_wants_40 rfl rfl rfl ?_
    refine hz_iload_n (a := 1) (n := 42) hC dX9_wants_41 rfl rfl rfl ?_
    refine hz_iconst (v := (3 : Int32)) (n := 43) hC dX9_wants_42 (by decide +kernel) rfl ?_
    refine hz_callV (k := 2) (As := [.int a0, .int (3 : Int32)]) (st := []) (S1 := fun r => .int r :: []) (n := 46) hC (c_X9_of l a0 (3 : Int32)   M5) kv_X9_of wd_7_7 hI dX9_wants_43 rfl (hI 0 (by decide)) he_X9 rfl rfl rfl (Nat.le_of_ble_eq_true rfl) ⟨Nat.le_of_ble_eq_true rfl, Nat.le_of_ble_eq_true rfl⟩ ⟨Nat.zero_le _, Nat.zero_le _⟩ (fun _ => rfl) rfl (fun r6 M6 _ => ?_)
    exact hz_iret hC hr dX9_wants_46
  · refine hz_bipush (v := (-2 : Int32)) (n := 11) hC dX9_wants_9 (by decide +kernel) rfl ?_
    exact hz_iret hC hr dX9_wants_11
def A_X9_gives_50 (a0 : Int32)   (M : hp_M) : Option (Int32 × hp_M) := (hp_b (F_X9_of a0 (4 : Int32) M) (fun r5 M5 => (hp_b (F_X9_to a0 (2 : Int32) (0 : Int32) M5) (fun _ M6 => (hp_b (F_X9_to a0 (3 : Int32) (0 : Int32) M6) (fun _ M7 => (hp_b (F_X9_to a0 (4 : Int32) (0 : Int32) M7) (fun _ M8 => (some (r5, M8))))))))))
def A_X9_gives_41 (a0 : Int32)  (y41_2 : Int32) (M : hp_M) : Option (Int32 × hp_M) := (if y41_2 = 0 then (hp_b (F_X9_leavesQueue a0 M) (fun _ M4 => (A_X9_gives_50 a0 M4))) else (A_X9_gives_50 a0 M))
def A_X9_gives_23 (a0 : Int32)  (z23_0 : Int32) (M : hp_M) : Option (Int32 × hp_M) := (if z23_0 = 0 then (hp_b (F_X9_of a0 (2 : Int32) M) (fun r3 M3 => (if r3 = (2 : Int32) then (A_X9_gives_41 a0 z23_0 M3) else (some ((-3 : Int32), M3))))) else (A_X9_gives_41 a0 z23_0 M))
def A_X9_gives_22 (a0 : Int32)   (M : hp_M) : Option (Int32 × hp_M) := (A_X9_gives_23 a0 (0 : Int32) M)
def F_X9_gives (a0 : Int32) (M : hp_M) : Option (Int32 × hp_M) := (hp_b (F_X9_of a0 (2 : Int32) M) (fun r1 M1 => (if r1 = (1 : Int32) then (hp_b (F_X9_isCalled a0 M1) (fun r2 M2 => (if r2 = 0 then (A_X9_gives_23 a0 (1 : Int32) M2) else (A_X9_gives_22 a0 M2)))) else (A_X9_gives_22 a0 M1))))
set_option maxRecDepth 20000 in
set_option maxHeartbeats 4000000 in
theorem c_X9_gives (l : Launch) (a0 : Int32)  (M : hp_M) : hp_Ct l yX9_gives cX9_gives 4 (some .int) 2 hp_IR (fun adr adV => [.ref (adr 13 0), .int a0]) hp_oi M (F_X9_gives a0 M) := by
  refine hp_start "HallPhoneModel" (fun adr adV => [(0, .ref (adr 13 0)), (1, .int a0)]) (by decide) rfl (fun _ _ => by simp only [lg_sl]; exact Nat.le_of_ble_eq_true rfl) (fun _ _ => rfl) ?_
  intro p e s m args below meth c A D ids adr adV cA rep G0 hI hC hr
  unfold F_X9_gives
  have j50 : ∀  (M : hp_M), hp_Z p l e (hp_rm 2) s m args below meth c 4 A D ids adr adV cA 0 0 (MQ below (hp_Q A D ids adr adV cA rep hp_oi G0) args s 0 0 A) G0 rep 50 [(0, .ref (adr 13 0)), (1, .int a0)] [] M (A_X9_gives_50 a0  M) := by
    intro  M
    unfold A_X9_gives_50
    refine hz_aload_n (a := 0) (n := 51) hC dX9_gives_50 rfl rfl rfl ?_
    refine hz_iload_n (a := 1) (n := 52) hC dX9_gives_51 rfl rfl rfl ?_
    refine hz_iconst (v := (4 : Int32)) (n := 53) hC dX9_gives_52 (by decide +kernel) rfl ?_
    refine hz_callV (k := 2) (As := [.int a0, .int (4 : Int32)]) (st := []) (S1 := fun r => .int r :: []) (n := 56) hC (c_X9_of l a0 (4 : Int32)   M) kv_X9_of wd_7_7 hI dX9_gives_53 rfl (hI 0 (by decide)) he_X9 rfl rfl rfl (Nat.le_of_ble_eq_true rfl) ⟨Nat.le_of_ble_eq_true rfl, Nat.le_of_ble_eq_true rfl⟩ ⟨Nat.zero_le _, Nat.zero_le _⟩ (fun _ => rfl) rfl (fun r5 M5 _ => ?_)
    refine hz_istore_n (L' := [(3, .int r5), (0, .ref (adr 13 0)), (1, .int a0)]) (n := 57) hC dX9_gives_56 rfl (by decide) rfl rfl ?_
    refine hz_aload_n (a := 1) (n := 58) hC dX9_gives_57 rfl rfl rfl ?_
    refine hz_iload_n (a := 2) (n := 59) hC dX9_gives_58 rfl rfl rfl ?_
    refine hz_iconst (v := (2 : Int32)) (n := 60) hC dX9_gives_59 (by decide +kernel) rfl ?_
    refine hz_iconst (v := (0 : Int32)) (n := 61) hC dX9_gives_60 (by decide +kernel) rfl ?_
    refine hz_callV (k := 3) (As := [.int a0, .int (2 : Int32), .int (0 : Int32)]) (st := []) (S1 := fun _ => []) (n := 64) hC (c_X9_to l a0 (2 : Int32) (0 : Int32)   M5) kv_X9_to wd_6_201 hI dX9_gives_61 rfl (hI 0 (by decide)) he_X9 rfl rfl rfl (Nat.le_of_ble_eq_true rfl) ⟨Nat.le_of_ble_eq_true rfl, Nat.le_of_ble_eq_true rfl⟩ ⟨Nat.zero_le _, Nat.zero_le _⟩ (fun _ => rfl) rfl (fun r6 M6 _ => ?_)
    refine hz_aload_n (a := 1) (n := 65) hC dX9_gives_64 rfl rfl rfl ?_
    refine hz_iload_n (a := 2) (n := 66) hC dX9_gives_65 rfl rfl rfl ?_
    refine hz_iconst (v := (3 : Int32)) (n := 67) hC dX9_gives_66 (by decide +kernel) rfl ?_
    refine hz_iconst (v := (0 : Int32)) (n := 68) hC dX9_gives_67 (by decide +kernel) rfl ?_
    refine hz_callV (k := 3) (As := [.int a0, .int (3 : Int32), .int (0 : Int32)]) (st := []) (S1 := fun _ => []) (n := 71) hC (c_X9_to l a0 (3 : Int32) (0 : Int32)   M6) kv_X9_to wd_6_201 hI dX9_gives_68 rfl (hI 0 (by decide)) he_X9 rfl rfl rfl (Nat.le_of_ble_eq_true rfl) ⟨Nat.le_of_ble_eq_true rfl, Nat.le_of_ble_eq_true rfl⟩ ⟨Nat.zero_le _, Nat.zero_le _⟩ (fun _ => rfl) rfl (fun r7 M7 _ => ?_)
    refine hz_aload_n (a := 1) (n := 72) hC dX9_gives_71 rfl rfl rfl ?_
    refine hz_iload_n (a := 2) (n := 73) hC dX9_gives_72 rfl rfl rfl ?_
    refine hz_iconst (v := (4 : Int32)) (n := 74) hC dX9_gives_73 (by decide +kernel) rfl ?_
    refine hz_iconst (v := (0 : Int32)) (n := 75) hC dX9_gives_74 (by decide +kernel) rfl ?_
    refine hz_callV (k := 3) (As := [.int a0, .int (4 : Int32), .int (0 : Int32)]) (st := []) (S1 := fun _ => []) (n := 78) hC (c_X9_to l a0 (4 : Int32) (0 : Int32)   M7) kv_X9_to wd_6_201 hI dX9_gives_75 rfl (hI 0 (by decide)) he_X9 rfl rfl rfl (Nat.le_of_ble_eq_true rfl) ⟨Nat.le_of_ble_eq_true rfl, Nat.le_of_ble_eq_true rfl⟩ ⟨Nat.zero_le _, Nat.zero_le _⟩ (fun _ => rfl) rfl (fun r8 M8 _ => ?_)
    refine hz_iload_n (a := 0) (n := 79) hC dX9_gives_78 rfl rfl rfl ?_
    exact hz_iret hC hr dX9_gives_79
  have j41 : ∀ (y41_2 : Int32) (M : hp_M), hp_Z p l e (hp_rm 2) s m args below meth c 4 A D ids adr adV cA 0 0 (MQ below (hp_Q A D ids adr adV cA rep hp_oi G0) args s 0 0 A) G0 rep 41 [(0, .ref (adr 13 0)), (1, .int a0), (2, .int y41_2)] [] M (A_X9_gives_41 a0 y41_2 M) := by
    intro y41_2 M
    unfold A_X9_gives_41
    refine hz_iload_n (a := 2) (n := 42) hC dX9_gives_41 rfl rfl rfl ?_
    refine hz_if_ne (tgt := 50) (n := 45) hC dX9_gives_42 (by decide) rfl (fun _ => ?_) (fun _ => ?_)
    · refine hz_aload_n (a := 0) (n := 46) hC dX9_gives_45 rfl rfl rfl ?_
      refine hz_iload_n (a := 1) (n := 47) hC dX9_gives_46 rfl rfl rfl ?_
      refine hz_callV (k := 1) (As := [.int a0]) (st := []) (S1 := fun _ => []) (n := 50) hC (c_X9_leavesQueue l a0   M) kv_X9_leavesQueue wd_7_24 hI dX9_gives_47 rfl (hI 0 (by decide)) he_X9 rfl rfl rfl (Nat.le_of_ble_eq_true rfl) ⟨Nat.le_of_ble_eq_true rfl, Nat.le_of_ble_eq_true rfl⟩ ⟨Nat.zero_le _, Nat.zero_le _⟩ (fun _ => rfl) rfl (fun r4 M4 _ => ?_)
      refine hz_L (L' := [(0, .ref (adr 13 0)), (1, .int a0)]) [0, 1] rfl ?_
      exact j50 _
    · refine hz_L (L' := [(0, .ref (adr 13 0)), (1, .int a0)]) [0, 1] rfl ?_
      exact j50 _
  have j23 : ∀ (z23_0 : Int32) (M : hp_M), hp_Z p l e (hp_rm 2) s m args below meth c 4 A D ids adr adV cA 0 0 (MQ below (hp_Q A D ids adr adV cA rep hp_oi G0) args s 0 0 A) G0 rep 23 [(0, .ref (adr 13 0)), (1, .int a0)] [.int z23_0] M (A_X9_gives_23 a0 z23_0 M) := by
    intro z23_0 M
    unfold A_X9_gives_23
    refine hz_istore_n (L' := [(2, .int z23_0), (0, .ref (adr 13 0)), (1, .int a0)]) (n := 24) hC dX9_gives_23 rfl (by decide) rfl rfl ?_
    refine hz_iload_n (a := 0) (n := 25) hC dX9_gives_24 rfl rfl rfl ?_
    refine hz_if_ne (tgt := 41) (n := 28) hC dX9_gives_25 (by decide) rfl (fun _ => ?_) (fun _ => ?_)
    · refine hz_aload_n (a := 1) (n := 29) hC dX9_gives_28 rfl rfl rfl ?_
      refine hz_iload_n (a := 2) (n := 30) hC dX9_gives_29 rfl rfl rfl ?_
      refine hz_iconst (v := (2 : Int32)) (n := 31) hC dX9_gives_30 (by decide +kernel) rfl ?_
      refine hz_callV (k := 2) (As := [.int a0, .int (2 : Int32)]) (st := []) (S1 := fun r => .int r :: []) (n := 34) hC (c_X9_of l a0 (2 : Int32)   M) kv_X9_of wd_7_7 hI dX9_gives_31 rfl (hI 0 (by decide)) he_X9 rfl rfl rfl (Nat.le_of_ble_eq_true rfl) ⟨Nat.le_of_ble_eq_true rfl, Nat.le_of_ble_eq_true rfl⟩ ⟨Nat.zero_le _, Nat.zero_le _⟩ (fun _ => rfl) rfl (fun r3 M3 _ => ?_)
      refine hz_iconst (v := (2 : Int32)) (n := 35) hC dX9_gives_34 (by decide +kernel) rfl ?_
      refine hz_icmp_eq (tgt := 41) (n := 38) hC dX9_gives_35 (by decide) rfl (fun _ => ?_) (fun _ => ?_)
      · refine hz_L (L' := [(0, .ref (adr 13 0)), (1, .int a0), (2, .int z23_0)]) [1, 2, 0] rfl ?_
        exact j41 _ _
      · refine hz_bipush (v := (-3 : Int32)) (n := 40) hC dX9_gives_38 (by decide +kernel) rfl ?_
        exact hz_iret hC hr dX9_gives_40
    · refine hz_L (L' := [(0, .ref (adr 13 0)), (1, .int a0), (2, .int z23_0)]) [1, 2, 0] rfl ?_
      exact j41 _ _
  have j22 : ∀  (M : hp_M), hp_Z p l e (hp_rm 2) s m args below meth c 4 A D ids adr adV cA 0 0 (MQ below (hp_Q A D ids adr adV cA rep hp_oi G0) args s 0 0 A) G0 rep 22 [(0, .ref (adr 13 0)), (1, .int a0)] [] M (A_X9_gives_22 a0  M) := by
    intro  M
    unfold A_X9_gives_22
    refine hz_iconst (v := (0 : Int32)) (n := 23) hC dX9_gives_22 (by decide +kernel) rfl ?_
    exact j23 _ _
  refine hz_aload_n (a := 0) (n := 1) hC dX9_gives_0 rfl rfl rfl ?_
  refine hz_iload_n (a := 1) (n := 2) hC dX9_gives_1 rfl rfl rfl ?_
  refine hz_iconst (v := (2 : Int32)) (n := 3) hC dX9_gives_2 (by decide +kernel) rfl ?_
  refine hz_callV (k := 2) (As := [.int a0, .int (2 : Int32)]) (st := []) (S1 := fun r => .int r :: []) (n := 6) hC (c_X9_of l a0 (2 : Int32)   M) kv_X9_of wd_7_7 hI dX9_gives_3 rfl (hI 0 (by decide)) he_X9 rfl rfl rfl (Nat.le_of_ble_eq_true rfl) ⟨Nat.le_of_ble_eq_true rfl, Nat.le_of_ble_eq_true rfl⟩ ⟨Nat.zero_le _, Nat.zero_le _⟩ (fun _ => rfl) rfl (fun r1 M1 _ => ?_)
  refine hz_iconst (v := (1 : Int32)) (n := 7) hC dX9_gives_6 (by decide +kernel) rfl ?_
  refine hz_icmp_ne (tgt := 22) (n := 10) hC dX9_gives_7 (by decide) rfl (fun _ => ?_) (fun _ => ?_)
  · refine hz_aload_n (a := 0) (n := 11) hC dX9_gives_10 rfl rfl rfl ?_
    refine hz_iload_n (a := 1) (n := 12) hC dX9_gives_11 rfl rfl rfl ?_
    refine hz_callV (k := 1) (As := [.int a0]) (st := []) (S1 := fun r => .int r :: []) (n := 15) hC (c_X9_isCalled l a0   M1) kv_X9_isCalled wd_7_20 hI dX9_gives_12 rfl (hI 0 (by decide)) he_X9 rfl rfl rfl (Nat.le_of_ble_eq_true rfl) ⟨Nat.le_of_ble_eq_true rfl, Nat.le_of_ble_eq_true rfl⟩ ⟨Nat.zero_le _, Nat.zero_le _⟩ (fun _ => rfl) rfl (fun r2 M2 _ => ?_)
    refine hz_if_ne (tgt := 22) (n := 18) hC dX9_gives_15 (by decide) rfl (fun _ => ?_) (fun _ => ?_)
    · refine hz_iconst (v := (1 : Int32)) (n := 19) hC dX9_gives_18 (by decide +kernel) rfl ?_
      refine hz_goto (n := 23) hC dX9_gives_19 (by decide) ?_
      exact j23 _ _
    · exact j22 _
  · exact j22 _
def F_X9_hangs (a0 : Int32) (M : hp_M) : Option (Int32 × hp_M) := (hp_b (F_X9_of a0 (2 : Int32) M) (fun r1 M1 => (if r1 = (3 : Int32) then (hp_b (F_X9_ends M1) (fun _ M2 => (some ((M1 13 1 4), M2)))) else (some ((-4 : Int32), M1)))))
set_option maxRecDepth 20000 in
set_option maxHeartbeats 4000000 in
theorem c_X9_hangs (l : Launch) (a0 : Int32)  (M : hp_M) : hp_Ct l yX9_hangs cX9_hangs 3 (some .int) 2 hp_IR (fun adr adV => [.ref (adr 13 0), .int a0]) hp_oi M (F_X9_hangs a0 M) := by
  refine hp_start "HallPhoneModel" (fun adr adV => [(0, .ref (adr 13 0)), (1, .int a0)]) (by decide) rfl (fun _ _ => by simp only [lg_sl]; exact Nat.le_of_ble_eq_true rfl) (fun _ _ => rfl) ?_
  intro p e s m args below meth c A D ids adr adV cA rep G0 hI hC hr
  unfold F_X9_hangs
  refine hz_aload_n (a := 0) (n := 1) hC dX9_hangs_0 rfl rfl rfl ?_
  refine hz_iload_n (a := 1) (n := 2) hC dX9_hangs_1 rfl rfl rfl ?_
  refine hz_iconst (v := (2 : Int32)) (n := 3) hC dX9_hangs_2 (by decide +kernel) rfl ?_
  refine hz_callV (k := 2) (As := [.int a0, .int (2 : Int32)]) (st := []) (S1 := fun r => .int r :: []) (n := 6) hC (c_X9_of l a0 (2 : Int32)   M) kv_X9_of wd_7_7 hI dX9_hangs_3 rfl (hI 0 (by decide)) he_X9 rfl rfl rfl (Nat.le_of_ble_eq_true rfl) ⟨Nat.le_of_ble_eq_true rfl, Nat.le_of_ble_eq_true rfl⟩ ⟨Nat.zero_le _, Nat.zero_le _⟩ (fun _ => rfl) rfl (fun r1 M1 _ => ?_)
  refine hz_iconst (v := (3 : Int32)) (n := 7) hC dX9_hangs_6 (by decide +kernel) rfl ?_
  refine hz_icmp_eq (tgt := 13) (n := 10) hC dX9_hangs_7 (by decide) rfl (fun _ => ?_) (fun _ => ?_)
  · refine hz_aload_n (a := 0) (n := 14) hC dX9_hangs_13 rfl rfl rfl ?_
    refine fg_X9_7 (n := 17) hC hI dX9_hangs_14 rfl ?_
    refine hz_iconst (v := (4 : Int32)) (n := 18) hC dX9_hangs_17 (by decide +kernel) rfl ?_
    refine hz_ialdc (k := 4) (n := 19) hC (by decide +kernel) (by decide) dX9_hangs_18 (hI 1 (by decide)) ha_m1 rfl ?_
    refine hz_istore_n (L' := [(2, .int (M1 13 1 4)), (0, .ref (adr 13 0)), (1, .int a0)]) (n := 20) hC dX9_hangs_19 rfl (by decide) rfl rfl ?_
    refine hz_aload_n (a := 1) (n := 21) hC dX9_hangs_20 rfl rfl rfl ?_
    refine hz_callV (k := 0) (As := []) (st := []) (S1 := fun _ => []) (n := 24) hC (c_X9_ends l    M1) kv_X9_ends wd_7_37 hI dX9_hangs_21 rfl (hI 0 (by decide)) he_X9 rfl rfl rfl (Nat.le_of_ble_eq_true rfl) ⟨Nat.le_of_ble_eq_true rfl, Nat.le_of_ble_eq_true rfl⟩ ⟨Nat.zero_le _, Nat.zero_le _⟩ (fun _ => rfl) rfl (fun r2 M2 _ => ?_)
    refine hz_iload_n (a := 0) (n := 25) hC dX9_hangs_24 rfl rfl rfl ?_
    exact hz_iret hC hr dX9_hangs_25
  · refine hz_bipush (v := (-4 : Int32)) (n := 12) hC dX9_hangs_10 (by decide +kernel) rfl ?_
    exact hz_iret hC hr dX9_hangs_12
def A_X9_outcome_38 (a0 : Int32)   (M : hp_M) : Option (Int32 × hp_M) := (hp_b (F_X9_of a0 (2 : Int32) M) (fun r3 M3 => (if r3 = (2 : Int32) then (some ((1 : Int32), M3)) else (if (8 : Int32) ≤ (M3 13 1 13) then (some ((3 : Int32), M3)) else (some ((2 : Int32), M3))))))
def F_X9_outcome (a0 : Int32) (M : hp_M) : Option (Int32 × hp_M) := (if (M 13 1 2) = 0 then (hp_b (F_X9_of a0 (2 : Int32) M) (fun r1 M1 => (if r1 = 0 then (hp_b (F_X9_of a0 (0 : Int32) M1) (fun r2 M2 => (if (M2 13 1 12) < r2 then (A_X9_outcome_38 a0 M2) else (some ((0 : Int32), M2))))) else (A_X9_outcome_38 a0 M1)))) else (some ((5 : Int32), M)))
set_option maxRecDepth 20000 in
set_option maxHeartbeats 4000000 in
theorem c_X9_outcome (l : Launch) (a0 : Int32)  (M : hp_M) : hp_Ct l yX9_outcome cX9_outcome 2 (some .int) 1 hp_IR (fun adr adV => [.ref (adr 13 0), .int a0]) hp_oi M (F_X9_outcome a0 M) := by
  refine hp_start "HallPhoneModel" (fun adr adV => [(0, .ref (adr 13 0)), (1, .int a0)]) (by decide) rfl (fun _ _ => by simp only [lg_sl]; exact Nat.le_of_ble_eq_true rfl) (fun _ _ => rfl) ?_
  intro p e s m args below meth c A D ids adr adV cA rep G0 hI hC hr
  unfold F_X9_outcome
  have j38 : ∀  (M : hp_M), hp_Z p l e (hp_rm 1) s m args below meth c 2 A D ids adr adV cA 0 0 (MQ below (hp_Q A D ids adr adV cA rep hp_oi G0) args s 0 0 A) G0 rep 38 [(0, .ref (adr 13 0)), (1, .int a0)] [] M (A_X9_outcome_38 a0  M) := by
    intro  M
    unfold A_X9_outcome_38
    refine hz_aload_n (a := 0) (n := 39) hC dX9_outcome_38 rfl rfl rfl ?_
    refine hz_iload_n (a := 1) (n := 40) hC dX9_outcome_39 rfl rfl rfl ?_
    refine hz_iconst (v := (2 : Int32)) (n := 41) hC dX9_outcome_40 (by decide +kernel) rfl ?_
    refine hz_callV (k := 2) (As := [.int a0, .int (2 : Int32)]) (st := []) (S1 := fun r => .int r :: []) (n := 44) hC (c_X9_of l a0 (2 : Int32)   M) kv_X9_of wd_7_7 hI dX9_outcome_41 rfl (hI 0 (by decide)) he_X9 rfl rfl rfl (Nat.le_of_ble_eq_true rfl) ⟨Nat.le_of_ble_eq_true rfl, Nat.le_of_ble_eq_true rfl⟩ ⟨Nat.zero_le _, Nat.zero_le _⟩ (fun _ => rfl) rfl (fun r3 M3 _ => ?_)
    refine hz_iconst (v := (2 : Int32)) (n := 45) hC dX9_outcome_44 (by decide +kernel) rfl ?_
    refine hz_icmp_ne (tgt := 52) (n := 48) hC dX9_outcome_45 (by decide) rfl (fun _ => ?_) (fun _ => ?_)
    · refine hz_iconst (v := (1 : Int32)) (n := 49) hC dX9_outcome_48 (by decide +kernel) rfl ?_
      refine hz_goto (n := 69) hC dX9_outcome_49 (by decide) ?_
      exact hz_iret hC hr dX9_outcome_69
    · refine hz_aload_n (a := 0) (n := 53) hC dX9_outcome_52 rfl rfl rfl ?_
      refine fg_X9_7 (n := 56) hC hI dX9_outcome_53 rfl ?_
      refine hz_bipush (v := (13 : Int32)) (n := 58) hC dX9_outcome_56 (by decide +kernel) rfl ?_
      refine hz_ialdc (k := 13) (n := 59) hC (by decide +kernel) (by decide) dX9_outcome_58 (hI 1 (by decide)) ha_m1 rfl ?_
      refine hz_bipush (v := (8 : Int32)) (n := 61) hC dX9_outcome_59 (by decide +kernel) rfl ?_
      refine hz_icmp_ge (tgt := 68) (n := 64) hC dX9_outcome_61 (by decide) rfl (fun _ => ?_) (fun _ => ?_)
      · refine hz_iconst (v := (3 : Int32)) (n := 69) hC dX9_outcome_68 (by decide +kernel) rfl ?_
        exact hz_iret hC hr dX9_outcome_69
      · refine hz_iconst (v := (2 : Int32)) (n := 65) hC dX9_outcome_64 (by decide +kernel) rfl ?_
        refine hz_goto (n := 69) hC dX9_outcome_65 (by decide) ?_
        exact hz_iret hC hr dX9_outcome_69
  refine hz_aload_n (a := 0) (n := 1) hC dX9_outcome_0 rfl rfl rfl ?_
  refine fg_X9_7 (n := 4) hC hI dX9_outcome_1 rfl ?_
  refine hz_iconst (v := (2 : Int32)) (n := 5) hC dX9_outcome_4 (by decide +kernel) rfl ?_
  refine hz_ialdc (k := 2) (n := 6) hC (by decide +kernel) (by decide) dX9_outcome_5 (hI 1 (by decide)) ha_m1 rfl ?_
  refine hz_if_eq (tgt := 11) (n := 9) hC dX9_outcome_6 (by decide) rfl (fun _ => ?_) (fun _ => ?_)
  · refine hz_aload_n (a := 0) (n := 12) hC dX9_outcome_11 rfl rfl rfl ?_
    refine hz_iload_n (a := 1) (n := 13) hC dX9_outcome_12 rfl rfl rfl ?_
    refine hz_iconst (v := (2 : Int32)) (n := 14) hC dX9_outcome_13 (by decide +kernel) rfl ?_
    refine hz_callV (k := 2) (As := [.int a0, .int (2 : Int32)]) (st := []) (S1 := fun r => .int r :: []) (n := 17) hC (c_X9_of l a0 (2 : Int32)   M) kv_X9_of wd_7_7 hI dX9_outcome_14 rfl (hI 0 (by decide)) he_X9 rfl rfl rfl (Nat.le_of_ble_eq_true rfl) ⟨Nat.le_of_ble_eq_true rfl, Nat.le_of_ble_eq_true rfl⟩ ⟨Nat.zero_le _, Nat.zero_le _⟩ (fun _ => rfl) rfl (fun r1 M1 _ => ?_)
    refine hz_if_ne (tgt := 38) (n := 20) hC dX9_outcome_17 (by decide) rfl (fun _ => ?_) (fun _ => ?_)
    · refine hz_aload_n (a := 0) (n := 21) hC dX9_outcome_20 rfl rfl rfl ?_
      refine hz_iload_n (a := 1) (n := 22) hC dX9_outcome_21 rfl rfl rfl ?_
      refine hz_iconst (v := (0 : Int32)) (n := 23) hC dX9_outcome_22 (by decide +kernel) rfl ?_
      refine hz_callV (k := 2) (As := [.int a0, .int (0 : Int32)]) (st := []) (S1 := fun r => .int r :: []) (n := 26) hC (c_X9_of l a0 (0 : Int32)   M1) kv_X9_of wd_7_7 hI dX9_outcome_23 rfl (hI 0 (by decide)) he_X9 rfl rfl rfl (Nat.le_of_ble_eq_true rfl) ⟨Nat.le_of_ble_eq_true rfl, Nat.le_of_ble_eq_true rfl⟩ ⟨Nat.zero_le _, Nat.zero_le _⟩ (fun _ => rfl) rfl (fun r2 M2 _ => ?_)
      refine hz_aload_n (a := 0) (n := 27) hC dX9_outcome_26 rfl rfl rfl ?_
      refine fg_X9_7 (n := 30) hC hI dX9_outcome_27 rfl ?_
      refine hz_bipush (v := (12 : Int32)) (n := 32) hC dX9_outcome_30 (by decide +kernel) rfl ?_
      refine hz_ialdc (k := 12) (n := 33) hC (by decide +kernel) (by decide) dX9_outcome_32 (hI 1 (by decide)) ha_m1 rfl ?_
      refine hz_icmp_gt (tgt := 38) (n := 36) hC dX9_outcome_33 (by decide) rfl (fun _ => ?_) (fun _ => ?_)
      · exact j38 _
      · refine hz_iconst (v := (0 : Int32)) (n := 37) hC dX9_outcome_36 (by decide +kernel) rfl ?_
        exact hz_iret hC hr dX9_outcome_37
    · exact j38 _
  · refine hz_iconst (v := (5 : Int32)) (n := 10) hC dX9_outcome_9 (by decide +kernel) rfl ?_
    exact hz_iret hC hr dX9_outcome_10
def F_X9_rings (a0 : Int32) (a1 : Int32) (M : hp_M) : Option (Int32 × hp_M) := (hp_b (F_X9_outcome a0 M) (fun r1 M1 => (if r1 = (0 : Int32) then (hp_b (F_X9_to a0 (2 : Int32) (1 : Int32) (hp_p (hp_p (hp_p (hp_p M1 13 1 2 (1 : Int32)) 13 1 3 a0) 13 1 5 a1) 13 1 6 (1 : Int32))) (fun _ M2 => (hp_b (F_X9_of a0 (0 : Int32) M2) (fun r3 M3 => (hp_b (F_X9_to a0 (3 : Int32) ((1 : Int32) + r3) M3) (fun _ M4 => (some ((0 : Int32), M4)))))))) else (if r1 = (1 : Int32) then (hp_b (F_X9_leavesQueue a0 M1) (fun _ M5 => (hp_b (F_X9_speaks a0 a1 (1 : Int32) M5) (fun _ M6 => (some ((1 : Int32), M6)))))) else (if r1 = (2 : Int32) then (if ((14 : Int32) + ((2 : Int32) * (M1 13 1 13))) < 0 ∨ 242 ≤ (((14 : Int32) + ((2 : Int32) * (M1 13 1 13)))).toNatClampNeg then none else (if (((14 : Int32) + ((2 : Int32) * ((hp_p M1 13 1 (((14 : Int32) + ((2 : Int32) * (M1 13 1 13)))).toNatClampNeg a0) 13 1 13))) + (1 : Int32)) < 0 ∨ 242 ≤ ((((14 : Int32) + ((2 : Int32) * ((hp_p M1 13 1 (((14 : Int32) + ((2 : Int32) * (M1 13 1 13)))).toNatClampNeg a0) 13 1 13))) + (1 : Int32))).toNatClampNeg then none else (hp_b (F_X9_counts (6 : Int32) (1 : Int32) (hp_p (hp_p (hp_p M1 13 1 (((14 : Int32) + ((2 : Int32) * (M1 13 1 13)))).toNatClampNeg a0) 13 1 ((((14 : Int32) + ((2 : Int32) * ((hp_p M1 13 1 (((14 : Int32) + ((2 : Int32) * (M1 13 1 13)))).toNatClampNeg a0) 13 1 13))) + (1 : Int32))).toNatClampNeg ((hp_p M1 13 1 (((14 : Int32) + ((2 : Int32) * (M1 13 1 13)))).toNatClampNeg a0) 13 1 1)) 13 1 13 (((hp_p (hp_p M1 13 1 (((14 : Int32) + ((2 : Int32) * (M1 13 1 13)))).toNatClampNeg a0) 13 1 ((((14 : Int32) + ((2 : Int32) * ((hp_p M1 13 1 (((14 : Int32) + ((2 : Int32) * (M1 13 1 13)))).toNatClampNeg a0) 13 1 13))) + (1 : Int32))).toNatClampNeg ((hp_p M1 13 1 (((14 : Int32) + ((2 : Int32) * (M1 13 1 13)))).toNatClampNeg a0) 13 1 1)) 13 1 13) + (1 : Int32)))) (fun _ M7 => (some ((2 : Int32), M7)))))) else (if r1 = (3 : Int32) then (hp_b (F_X9_counts (8 : Int32) (1 : Int32) M1) (fun _ M8 => (some ((3 : Int32), M8)))) else (some ((-5 : Int32), M1))))))))
set_option maxRecDepth 20000 in
set_option maxHeartbeats 4000000 in
theorem c_X9_rings (l : Launch) (a0 : Int32) (a1 : Int32)  (M : hp_M) : hp_Ct l yX9_rings cX9_rings 4 (some .int) 2 hp_IR (fun adr adV => [.ref (adr 13 0), .int a0, .int a1]) hp_oi M (F_X9_rings a0 a1 M) := by
  refine hp_start "HallPhoneModel" (fun adr adV => [(0, .ref (adr 13 0)), (1, .int a0), (2, .int a1)]) (by decide) rfl (fun _ _ => by simp only [lg_sl]; exact Nat.le_of_ble_eq_true rfl) (fun _ _ => rfl) ?_
  intro p e s m args below meth c A D ids adr adV cA rep G0 hI hC hr
  unfold F_X9_rings
  refine hz_aload_n (a := 0) (n := 1) hC dX9_rings_0 rfl rfl rfl ?_
  refine hz_iload_n (a := 1) (n := 2) hC dX9_rings_1 rfl rfl rfl ?_
  refine hz_callV (k := 1) (As := [.int a0]) (st := []) (S1 := fun r => .int r :: []) (n := 5) hC (c_X9_outcome l a0   M) kv_X9_outcome wd_7_62 hI dX9_rings_2 rfl (hI 0 (by decide)) he_X9 rfl rfl rfl (Nat.le_of_ble_eq_true rfl) ⟨Nat.le_of_ble_eq_true rfl, Nat.le_of_ble_eq_true rfl⟩ ⟨Nat.zero_le _, Nat.zero_le _⟩ (fun _ => rfl) rfl (fun r1 M1 _ => ?_)
  refine hz_istore_n (L' := [(3, .int r1), (0, .ref (adr 13 0)), (1, .int a0), (2, .int a1)]) (n := 6) hC dX9_rings_5 rfl (by decide) rfl rfl ?_
  refine hz_iload_n (a := 0) (n := 7) hC dX9_rings_6 rfl rfl rfl ?_
  refine hz_case (fun hk0 => ?_) (fun hk0 => ?_)
  · refine hz_tabIn (n := 36) hC hk0 dX9_rings_7 (by decide +kernel) (by decide +kernel) (by rfl) (by decide +kernel) ?_
    refine hz_aload_n (a := 1) (n := 37) hC dX9_rings_36 rfl rfl rfl ?_
    refine fg_X9_7 (n := 40) hC hI dX9_rings_37 rfl ?_
    refine hz_iconst (v := (2 : Int32)) (n := 41) hC dX9_rings_40 (by decide +kernel) rfl ?_
    refine hz_iconst (v := (1 : Int32)) (n := 42) hC dX9_rings_41 (by decide +kernel) rfl ?_
    refine hz_iastc (k := 2) (n := 43) hC (by decide +kernel) (by decide) dX9_rings_42 (hI 1 (by decide)) ha_m1 rfl ?_
    refine hz_aload_n (a := 1) (n := 44) hC dX9_rings_43 rfl rfl rfl ?_
    refine fg_X9_7 (n := 47) hC hI dX9_rings_44 rfl ?_
    refine hz_iconst (v := (3 : Int32)) (n := 48) hC dX9_rings_47 (by decide +kernel) rfl ?_
    refine hz_iload_n (a := 2) (n := 49) hC dX9_rings_48 rfl rfl rfl ?_
    refine hz_iastc (k := 3) (n := 50) hC (by decide +kernel) (by decide) dX9_rings_49 (hI 1 (by decide)) ha_m1 rfl ?_
    refine hz_aload_n (a := 1) (n := 51) hC dX9_rings_50 rfl rfl rfl ?_
    refine fg_X9_7 (n := 54) hC hI dX9_rings_51 rfl ?_
    refine hz_iconst (v := (5 : Int32)) (n := 55) hC dX9_rings_54 (by decide +kernel) rfl ?_
    refine hz_iload_n (a := 3) (n := 56) hC dX9_rings_55 rfl rfl rfl ?_
    refine hz_iastc (k := 5) (n := 57) hC (by decide +kernel) (by decide) dX9_rings_56 (hI 1 (by decide)) ha_m1 rfl ?_
    refine hz_aload_n (a := 1) (n := 58) hC dX9_rings_57 rfl rfl rfl ?_
    refine fg_X9_7 (n := 61) hC hI dX9_rings_58 rfl ?_
    refine hz_bipush (v := (6 : Int32)) (n := 63) hC dX9_rings_61 (by decide +kernel) rfl ?_
    refine hz_iconst (v := (1 : Int32)) (n := 64) hC dX9_rings_63 (by decide +kernel) rfl ?_
    refine hz_iastc (k := 6) (n := 65) hC (by decide +kernel) (by decide) dX9_rings_64 (hI 1 (by decide)) ha_m1 rfl ?_
    refine hz_aload_n (a := 1) (n := 66) hC dX9_rings_65 rfl rfl rfl ?_
    refine hz_iload_n (a := 2) (n := 67) hC dX9_rings_66 rfl rfl rfl ?_
    refine hz_iconst (v := (2 : Int32)) (n := 68) hC dX9_rings_67 (by decide +kernel) rfl ?_
    refine hz_iconst (v := (1 : Int32)) (n := 69) hC dX9_rings_68 (by decide +kernel) rfl ?_
    refine hz_callV (k := 3) (As := [.int a0, .int (2 : Int32), .int (1 : Int32)]) (st := []) (S1 := fun _ => []) (n := 72) hC (c_X9_to l a0 (2 : Int32) (1 : Int32)   (hp_p (hp_p (hp_p (hp_p M1 13 1 2 (1 : Int32)) 13 1 3 a0) 13 1 5 a1) 13 1 6 (1 : Int32))) kv_X9_to wd_6_201 hI dX9_rings_69 rfl (hI 0 (by decide)) he_X9 rfl rfl rfl (Nat.le_of_ble_eq_true rfl) ⟨Nat.le_of_ble_eq_true rfl, Nat.le_of_ble_eq_true rfl⟩ ⟨Nat.zero_le _, Nat.zero_le _⟩ (fun _ => rfl) rfl (fun r2 M2 _ => ?_)
    refine hz_aload_n (a := 1) (n := 73) hC dX9_rings_72 rfl rfl rfl ?_
    refine hz_iload_n (a := 2) (n := 74) hC dX9_rings_73 rfl rfl rfl ?_
    refine hz_iconst (v := (3 : Int32)) (n := 75) hC dX9_rings_74 (by decide +kernel) rfl ?_
    refine hz_iconst (v := (1 : Int32)) (n := 76) hC dX9_rings_75 (by decide +kernel) rfl ?_
    refine hz_aload_n (a := 1) (n := 77) hC dX9_rings_76 rfl rfl rfl ?_
    refine hz_iload_n (a := 2) (n := 78) hC dX9_rings_77 rfl rfl rfl ?_
    refine hz_iconst (v := (0 : Int32)) (n := 79) hC dX9_rings_78 (by decide +kernel) rfl ?_
    refine hz_callV (k := 2) (As := [.int a0, .int (0 : Int32)]) (st := [.int (1 : Int32), .int (3 : Int32), .int a0, .ref (adr 13 0)]) (S1 := fun r => .int r :: [.int (1 : Int32), .int (3 : Int32), .int a0, .ref (adr 13 0)]) (n := 82) hC (c_X9_of l a0 (0 : Int32)   M2) kv_X9_of wd_7_7 hI dX9_rings_79 rfl (hI 0 (by decide)) he_X9 rfl rfl rfl (Nat.le_of_ble_eq_true rfl) ⟨Nat.le_of_ble_eq_true rfl, Nat.le_of_ble_eq_true rfl⟩ ⟨Nat.zero_le _, Nat.zero_le _⟩ (fun _ => rfl) rfl (fun r3 M3 _ => ?_)
    refine hz_iadd (n := 83) hC dX9_rings_82 rfl ?_
    refine hz_callV (k := 3) (As := [.int a0, .int (3 : Int32), .int ((1 : Int32) + r3)]) (st := []) (S1 := fun _ => []) (n := 86) hC (c_X9_to l a0 (3 : Int32) ((1 : Int32) + r3)   M3) kv_X9_to wd_6_201 hI dX9_rings_83 rfl (hI 0 (by decide)) he_X9 rfl rfl rfl (Nat.le_of_ble_eq_true rfl) ⟨Nat.le_of_ble_eq_true rfl, Nat.le_of_ble_eq_true rfl⟩ ⟨Nat.zero_le _, Nat.zero_le _⟩ (fun _ => rfl) rfl (fun r4 M4 _ => ?_)
    refine hz_iconst (v := (0 : Int32)) (n := 87) hC dX9_rings_86 (by decide +kernel) rfl ?_
    exact hz_iret hC hr dX9_rings_87
  refine hz_case (fun hk1 => ?_) (fun hk1 => ?_)
  · refine hz_tabIn (n := 88) hC hk1 dX9_rings_7 (by decide +kernel) (by decide +kernel) (by rfl) (by decide +kernel) ?_
    refine hz_aload_n (a := 1) (n := 89) hC dX9_rings_88 rfl rfl rfl ?_
    refine hz_iload_n (a := 2) (n := 90) hC dX9_rings_89 rfl rfl rfl ?_
    refine hz_callV (k := 1) (As := [.int a0]) (st := []) (S1 := fun _ => []) (n := 93) hC (c_X9_leavesQueue l a0   M1) kv_X9_leavesQueue wd_7_24 hI dX9_rings_90 rfl (hI 0 (by decide)) he_X9 rfl rfl rfl (Nat.le_of_ble_eq_true rfl) ⟨Nat.le_of_ble_eq_true rfl, Nat.le_of_ble_eq_true rfl⟩ ⟨Nat.zero_le _, Nat.zero_le _⟩ (fun _ => rfl) rfl (fun r5 M5 _ => ?_)
    refine hz_aload_n (a := 1) (n := 94) hC dX9_rings_93 rfl rfl rfl ?_
    refine hz_iload_n (a := 2) (n := 95) hC dX9_rings_94 rfl rfl rfl ?_
    refine hz_iload_n (a := 3) (n := 96) hC dX9_rings_95 rfl rfl rfl ?_
    refine hz_iconst (v := (1 : Int32)) (n := 97) hC dX9_rings_96 (by decide +kernel) rfl ?_
    refine hz_callV (k := 3) (As := [.int a0, .int a1, .int (1 : Int32)]) (st := []) (S1 := fun _ => []) (n := 100) hC (c_X9_speaks l a0 a1 (1 : Int32)   M5) kv_X9_speaks wd_7_66 hI dX9_rings_97 rfl (hI 0 (by decide)) he_X9 rfl rfl rfl (Nat.le_of_ble_eq_true rfl) ⟨Nat.le_of_ble_eq_true rfl, Nat.le_of_ble_eq_true rfl⟩ ⟨Nat.zero_le _, Nat.zero_le _⟩ (fun _ => rfl) rfl (fun r6 M6 _ => ?_)
    refine hz_iconst (v := (1 : Int32)) (n := 101) hC dX9_rings_100 (by decide +kernel) rfl ?_
    exact hz_iret hC hr dX9_rings_101
  refine hz_case (fun hk2 => ?_) (fun hk2 => ?_)
  · refine hz_tabIn (n := 102) hC hk2 dX9_rings_7 (by decide +kernel) (by decide +kernel) (by rfl) (by decide +kernel) ?_
    refine hz_aload_n (a := 1) (n := 103) hC dX9_rings_102 rfl rfl rfl ?_
    refine fg_X9_7 (n := 106) hC hI dX9_rings_103 rfl ?_
    refine hz_bipush (v := (14 : Int32)) (n := 108) hC dX9_rings_106 (by decide +kernel) rfl ?_
    refine hz_iconst (v := (2 : Int32)) (n := 109) hC dX9_rings_108 (by decide +kernel) rfl ?_
    refine hz_aload_n (a := 1) (n := 110) hC dX9_rings_109 rfl rfl rfl ?_
    refine fg_X9_7 (n := 113) hC hI dX9_rings_110 rfl ?_
    refine hz_bipush (v := (13 : Int32)) (n := 115) hC dX9_rings_113 (by decide +kernel) rfl ?_
    refine hz_ialdc (k := 13) (n := 116) hC (by decide +kernel) (by decide) dX9_rings_115 (hI 1 (by decide)) ha_m1 rfl ?_
    refine hz_imul (n := 117) hC dX9_rings_116 rfl ?_
    refine hz_iadd (n := 118) hC dX9_rings_117 rfl ?_
    refine hz_iload_n (a := 2) (n := 119) hC dX9_rings_118 rfl rfl rfl ?_
    refine hz_iast (n := 120) hC dX9_rings_119 (hI 1 (by decide)) ha_m1 rfl (fun _ => ?_)
    refine hz_aload_n (a := 1) (n := 121) hC dX9_rings_120 rfl rfl rfl ?_
    refine fg_X9_7 (n := 124) hC hI dX9_rings_121 rfl ?_
    refine hz_bipush (v := (14 : Int32)) (n := 126) hC dX9_rings_124 (by decide +kernel) rfl ?_
    refine hz_iconst (v := (2 : Int32)) (n := 127) hC dX9_rings_126 (by decide +kernel) rfl ?_
    refine hz_aload_n (a := 1) (n := 128) hC dX9_rings_127 rfl rfl rfl ?_
    refine fg_X9_7 (n := 131) hC hI dX9_rings_128 rfl ?_
    refine hz_bipush (v := (13 : Int32)) (n := 133) hC dX9_rings_131 (by decide +kernel) rfl ?_
    refine hz_ialdc (k := 13) (n := 134) hC (by decide +kernel) (by decide) dX9_rings_133 (hI 1 (by decide)) ha_m1 rfl ?_
    refine hz_imul (n := 135) hC dX9_rings_134 rfl ?_
    refine hz_iadd (n := 136) hC dX9_rings_135 rfl ?_
    refine hz_iconst (v := (1 : Int32)) (n := 137) hC dX9_rings_136 (by decide +kernel) rfl ?_
    refine hz_iadd (n := 138) hC dX9_rings_137 rfl ?_
    refine hz_aload_n (a := 1) (n := 139) hC dX9_rings_138 rfl rfl rfl ?_
    refine fg_X9_7 (n := 142) hC hI dX9_rings_139 rfl ?_
    refine hz_iconst (v := (1 : Int32)) (n := 143) hC dX9_rings_142 (by decide +kernel) rfl ?_
    refine hz_ialdc (k := 1) (n := 144) hC (by decide +kernel) (by decide) dX9_rings_143 (hI 1 (by decide)) ha_m1 rfl ?_
    refine hz_iast (n := 145) hC dX9_rings_144 (hI 1 (by decide)) ha_m1 rfl (fun _ => ?_)
    refine hz_aload_n (a := 1) (n := 146) hC dX9_rings_145 rfl rfl rfl ?_
    refine fg_X9_7 (n := 149) hC hI dX9_rings_146 rfl ?_
    refine hz_bipush (v := (13 : Int32)) (n := 151) hC dX9_rings_149 (by decide +kernel) rfl ?_
    refine hz_dup2 (n := 152) hC dX9_rings_151 rfl rfl rfl ?_
    refine hz_ialdc (k := 13) (n := 153) hC (by decide +kernel) (by decide) dX9_rings_152 (hI 1 (by decide)) ha_m1 rfl ?_
    refine hz_iconst (v := (1 : Int32)) (n := 154) hC dX9_rings_153 (by decide +kernel) rfl ?_
    refine hz_iadd (n := 155) hC dX9_rings_154 rfl ?_
    refine hz_iastc (k := 13) (n := 156) hC (by decide +kernel) (by decide) dX9_rings_155 (hI 1 (by decide)) ha_m1 rfl ?_
    refine hz_aload_n (a := 1) (n := 157) hC dX9_rings_156 rfl rfl rfl ?_
    refine hz_bipush (v := (6 : Int32)) (n := 159) hC dX9_rings_157 (by decide +kernel) rfl ?_
    refine hz_iconst (v := (1 : Int32)) (n := 160) hC dX9_rings_159 (by decide +kernel) rfl ?_
    refine hz_callV (k := 2) (As := [.int (6 : Int32), .int (1 : Int32)]) (st := []) (S1 := fun _ => []) (n := 163) hC (c_X9_counts l (6 : Int32) (1 : Int32)   (hp_p (hp_p (hp_p M1 13 1 (((14 : Int32) + ((2 : Int32) * (M1 13 1 13)))).toNatClampNeg a0) 13 1 ((((14 : Int32) + ((2 : Int32) * ((hp_p M1 13 1 (((14 : Int32) + ((2 : Int32) * (M1 13 1 13)))).toNatClampNeg a0) 13 1 13))) + (1 : Int32))).toNatClampNeg ((hp_p M1 13 1 (((14 : Int32) + ((2 : Int32) * (M1 13 1 13)))).toNatClampNeg a0) 13 1 1)) 13 1 13 (((hp_p (hp_p M1 13 1 (((14 : Int32) + ((2 : Int32) * (M1 13 1 13)))).toNatClampNeg a0) 13 1 ((((14 : Int32) + ((2 : Int32) * ((hp_p M1 13 1 (((14 : Int32) + ((2 : Int32) * (M1 13 1 13)))).toNatClampNeg a0) 13 1 13))) + (1 : Int32))).toNatClampNeg ((hp_p M1 13 1 (((14 : Int32) + ((2 : Int32) * (M1 13 1 13)))).toNatClampNeg a0) 13 1 1)) 13 1 13) + (1 : Int32)))) kv_X9_counts wd_7_49 hI dX9_rings_160 rfl (hI 0 (by decide)) he_X9 rfl rfl rfl (Nat.le_of_ble_eq_true rfl) ⟨Nat.le_of_ble_eq_true rfl, Nat.le_of_ble_eq_true rfl⟩ ⟨Nat.zero_le _, Nat.zero_le _⟩ (fun _ => rfl) rfl (fun r7 M7 _ => ?_)
    refine hz_iconst (v := (2 : Int32)) (n := 164) hC dX9_rings_163 (by decide +kernel) rfl ?_
    exact hz_iret hC hr dX9_rings_164
  refine hz_case (fun hk3 => ?_) (fun hk3 => ?_)
  · refine hz_tabIn (n := 165) hC hk3 dX9_rings_7 (by decide +kernel) (by decide +kernel) (by rfl) (by decide +kernel) ?_
    refine hz_aload_n (a := 1) (n := 166) hC dX9_rings_165 rfl rfl rfl ?_
    refine hz_bipush (v := (8 : Int32)) (n := 168) hC dX9_rings_166 (by decide +kernel) rfl ?_
    refine hz_iconst (v := (1 : Int32)) (n := 169) hC dX9_rings_168 (by decide +kernel) rfl ?_
    refine hz_callV (k := 2) (As := [.int (8 : Int32), .int (1 : Int32)]) (st := []) (S1 := fun _ => []) (n := 172) hC (c_X9_counts l (8 : Int32) (1 : Int32)   M1) kv_X9_counts wd_7_49 hI dX9_rings_169 rfl (hI 0 (by decide)) he_X9 rfl rfl rfl (Nat.le_of_ble_eq_true rfl) ⟨Nat.le_of_ble_eq_true rfl, Nat.le_of_ble_eq_true rfl⟩ ⟨Nat.zero_le _, Nat.zero_le _⟩ (fun _ => rfl) rfl (fun r8 M8 _ => ?_)
    refine hz_iconst (v := (3 : Int32)) (n := 173) hC dX9_rings_172 (by decide +kernel) rfl ?_
    exact hz_iret hC hr dX9_rings_173
  refine hz_tabOut (n := 174) hC (hp_out 4 (by decide) (fun k hk => by
    rcases (show k = 0 ∨ k = 1 ∨ k = 2 ∨ k = 3 by omega) with rfl | rfl | rfl | rfl
    · exact fun e => hk0 (Int32.toInt_inj.mp (e.trans (by decide +kernel)))
    · exact fun e => hk1 (Int32.toInt_inj.mp (e.trans (by decide +kernel)))
    · exact fun e => hk2 (Int32.toInt_inj.mp (e.trans (by decide +kernel)))
    · exact fun e => hk3 (Int32.toInt_inj.mp (e.trans (by decide +kernel)))
    )) dX9_rings_7 (by decide +kernel) ?_
  refine hz_bipush (v := (-5 : Int32)) (n := 176) hC dX9_rings_174 (by decide +kernel) rfl ?_
  exact hz_iret hC hr dX9_rings_176
def F_X9_pays (a0 : Int32) (a1 : Int32) (M : hp_M) : Option (Int32 × hp_M) := (hp_b (F_X9_of a0 (5 : Int32) M) (fun r1 M1 => (if a1 ≤ r1 then (hp_b (F_X9_adds a0 (5 : Int32) (-a1) M1) (fun _ M2 => (hp_b (F_X9_counts (5 : Int32) a1 M2) (fun _ M3 => (hp_b (F_X9_of a0 (5 : Int32) M3) (fun r4 M4 => (some (r4, M4)))))))) else (some ((-6 : Int32), M1)))))
set_option maxRecDepth 20000 in
set_option maxHeartbeats 4000000 in
theorem c_X9_pays (l : Launch) (a0 : Int32) (a1 : Int32)  (M : hp_M) : hp_Ct l yX9_pays cX9_pays 3 (some .int) 1 hp_IR (fun adr adV => [.ref (adr 13 0), .int a0, .int a1]) hp_oi M (F_X9_pays a0 a1 M) := by
  refine hp_start "HallPhoneModel" (fun adr adV => [(0, .ref (adr 13 0)), (1, .int a0), (2, .int a1)]) (by decide) rfl (fun _ _ => by simp only [lg_sl]; exact Nat.le_of_ble_eq_true rfl) (fun _ _ => rfl) ?_
  intro p e s m args below meth c A D ids adr adV cA rep G0 hI hC hr
  unfold F_X9_pays
  refine hz_iload_n (a := 2) (n := 1) hC dX9_pays_0 rfl rfl rfl ?_
  refine hz_aload_n (a := 0) (n := 2) hC dX9_pays_1 rfl rfl rfl ?_
  refine hz_iload_n (a := 1) (n := 3) hC dX9_pays_2 rfl rfl rfl ?_
  refine hz_iconst (v := (5 : Int32)) (n := 4) hC dX9_pays_3 (by decide +kernel) rfl ?_
  refine hz_callV (k := 2) (As := [.int a0, .int (5 : Int32)]) (st := [.int a1]) (S1 := fun r => .int r :: [.int a1]) (n := 7) hC (c_X9_of l a0 (5 : Int32)   M) kv_X9_of wd_7_7 hI dX9_pays_4 rfl (hI 0 (by decide)) he_X9 rfl rfl rfl (Nat.le_of_ble_eq_true rfl) ⟨Nat.le_of_ble_eq_true rfl, Nat.le_of_ble_eq_true rfl⟩ ⟨Nat.zero_le _, Nat.zero_le _⟩ (fun _ => rfl) rfl (fun r1 M1 _ => ?_)
  refine hz_icmp_le (tgt := 13) (n := 10) hC dX9_pays_7 (by decide) rfl (fun _ => ?_) (fun _ => ?_)
  · refine hz_aload_n (a := 0) (n := 14) hC dX9_pays_13 rfl rfl rfl ?_
    refine hz_iload_n (a := 1) (n := 15) hC dX9_pays_14 rfl rfl rfl ?_
    refine hz_iconst (v := (5 : Int32)) (n := 16) hC dX9_pays_15 (by decide +kernel) rfl ?_
    refine hz_iload_n (a := 2) (n := 17) hC dX9_pays_16 rfl rfl rfl ?_
    refine hz_ineg (n := 18) hC dX9_pays_17 rfl ?_
    refine hz_callV (k := 3) (As := [.int a0, .int (5 : Int32), .int (-a1)]) (st := []) (S1 := fun _ => []) (n := 21) hC (c_X9_adds l a0 (5 : Int32) (-a1)   M1) kv_X9_adds wd_7_45 hI dX9_pays_18 rfl (hI 0 (by decide)) he_X9 rfl rfl rfl (Nat.le_of_ble_eq_true rfl) ⟨Nat.le_of_ble_eq_true rfl, Nat.le_of_ble_eq_true rfl⟩ ⟨Nat.zero_le _, Nat.zero_le _⟩ (fun _ => rfl) rfl (fun r2 M2 _ => ?_)
    refine hz_aload_n (a := 0) (n := 22) hC dX9_pays_21 rfl rfl rfl ?_
    refine hz_iconst (v := (5 : Int32)) (n := 23) hC dX9_pays_22 (by decide +kernel) rfl ?_
    refine hz_iload_n (a := 2) (n := 24) hC dX9_pays_23 rfl rfl rfl ?_
    refine hz_callV (k := 2) (As := [.int (5 : Int32), .int a1]) (st := []) (S1 := fun _ => []) (n := 27) hC (c_X9_counts l (5 : Int32) a1   M2) kv_X9_counts wd_7_49 hI dX9_pays_24 rfl (hI 0 (by decide)) he_X9 rfl rfl rfl (Nat.le_of_ble_eq_true rfl) ⟨Nat.le_of_ble_eq_true rfl, Nat.le_of_ble_eq_true rfl⟩ ⟨Nat.zero_le _, Nat.zero_le _⟩ (fun _ => rfl) rfl (fun r3 M3 _ => ?_)
    refine hz_aload_n (a := 0) (n := 28) hC dX9_pays_27 rfl rfl rfl ?_
    refine hz_iload_n (a := 1) (n := 29) hC dX9_pays_28 rfl rfl rfl ?_
    refine hz_iconst (v := (5 : Int32)) (n := 30) hC dX9_pays_29 (by decide +kernel) rfl ?_
    refine hz_callV (k := 2) (As := [.int a0, .int (5 : Int32)]) (st := []) (S1 := fun r => .int r :: []) (n := 33) hC (c_X9_of l a0 (5 : Int32)   M3) kv_X9_of wd_7_7 hI dX9_pays_30 rfl (hI 0 (by decide)) he_X9 rfl rfl rfl (Nat.le_of_ble_eq_true rfl) ⟨Nat.le_of_ble_eq_true rfl, Nat.le_of_ble_eq_true rfl⟩ ⟨Nat.zero_le _, Nat.zero_le _⟩ (fun _ => rfl) rfl (fun r4 M4 _ => ?_)
    exact hz_iret hC hr dX9_pays_33
  · refine hz_bipush (v := (-6 : Int32)) (n := 12) hC dX9_pays_10 (by decide +kernel) rfl ?_
    exact hz_iret hC hr dX9_pays_12
def L_X9_setAside_2    : Nat → Int32 → hp_M → Option (Unit × hp_M)
  | 0, _, _ => none
  | n2 + 1, x1, M => (if (242 : Int32) ≤ x1 then (some ((), M)) else (if x1 < 0 ∨ 242 ≤ (x1).toNatClampNeg then none else (if x1 < 0 ∨ 242 ≤ (x1).toNatClampNeg then none else (L_X9_setAside_2  n2 (x1 + (1 : Int32)) (hp_p M 13 3 (x1).toNatClampNeg (M 13 1 (x1).toNatClampNeg))))))
def F_X9_setAside  (M : hp_M) : Option (Unit × hp_M) := (L_X9_setAside_2 hp_fu (0 : Int32) M)
set_option maxRecDepth 20000 in
set_option maxHeartbeats 4000000 in
theorem c_X9_setAside (l : Launch)   (M : hp_M) : hp_Ct l yX9_setAside cX9_setAside 2 none 0 hp_IR (fun adr adV => [.ref (adr 13 0)]) hp_oo M (F_X9_setAside  M) := by
  refine hp_start "HallPhoneModel" (fun adr adV => [(0, .ref (adr 13 0))]) (by decide) rfl (fun _ _ => by simp only [lg_sl]; exact Nat.le_of_ble_eq_true rfl) (fun _ _ => rfl) ?_
  intro p e s m args below meth c A D ids adr adV cA rep G0 hI hC hr
  unfold F_X9_setAside
  have l2 : ∀  (n2 : Nat) (x1 : Int32) (M : hp_M), hp_Z p l e (hp_rm 0) s m args below meth c 2 A D ids adr adV cA 0 0 (MQ below (hp_Q A D ids adr adV cA rep hp_oo G0) args s 0 0 A) G0 rep 2 [(0, .ref (adr 13 0)), (1, .int x1)] [] M (L_X9_setAside_2  n2 x1 M) := by
    intro  n2
    induction n2 with
    | zero => intro x1 M; exact hz_none hC
    | succ n2 ih2 =>
      intro x1 M
      rw [L_X9_setAside_2.eq_2]
      refine hz_iload_n (a := 1) (n := 3) hC dX9_setAside_2 rfl rfl rfl ?_
      refine hz_sipush (v := (242 : Int32)) (n := 6) hC dX9_setAside_3 (by decide +kernel) rfl ?_
      refine hz_icmp_ge (tgt := 27) (n := 9) hC dX9_setAside_6 (by decide) rfl (fun _ => ?_) (fun _ => ?_)
      · exact hz_vret hC hr dX9_setAside_27
      · refine hz_aload_n (a := 0) (n := 10) hC dX9_setAside_9 rfl rfl rfl ?_
        refine fg_X9_16 (n := 13) hC hI dX9_setAside_10 rfl ?_
        refine hz_iload_n (a := 1) (n := 14) hC dX9_setAside_13 rfl rfl rfl ?_
        refine hz_aload_n (a := 0) (n := 15) hC dX9_setAside_14 rfl rfl rfl ?_
        refine fg_X9_7 (n := 18) hC hI dX9_setAside_15 rfl ?_
        refine hz_iload_n (a := 1) (n := 19) hC dX9_setAside_18 rfl rfl rfl ?_
        refine hz_iald (n := 20) hC dX9_setAside_19 (hI 1 (by decide)) ha_m1 rfl (fun _ => ?_)
        refine hz_iast (n := 21) hC dX9_setAside_20 (hI 3 (by decide)) ha_m3 rfl (fun _ => ?_)
        refine hz_iinc (a := 1) (v := (x1 + (1 : Int32))) (L' := [(1, .int (x1 + (1 : Int32))), (0, .ref (adr 13 0))]) (n := 24) hC dX9_setAside_21 rfl rfl (by decide) rfl rfl ?_
        refine hz_goto (n := 2) hC dX9_setAside_24 (by decide) ?_
        refine hz_L (L' := [(0, .ref (adr 13 0)), (1, .int (x1 + (1 : Int32)))]) [1, 0] rfl ?_
        exact ih2 _ _
  refine hz_iconst (v := (0 : Int32)) (n := 1) hC dX9_setAside_0 (by decide +kernel) rfl ?_
  refine hz_istore_n (L' := [(1, .int (0 : Int32)), (0, .ref (adr 13 0))]) (n := 2) hC dX9_setAside_1 rfl (by decide) rfl rfl ?_
  refine hz_L (L' := [(0, .ref (adr 13 0)), (1, .int (0 : Int32))]) [1, 0] rfl ?_
  exact l2 hp_fu _ _
def L_X9_bringBack_2    : Nat → Int32 → hp_M → Option (Unit × hp_M)
  | 0, _, _ => none
  | n2 + 1, x1, M => (if (242 : Int32) ≤ x1 then (some ((), M)) else (if x1 < 0 ∨ 242 ≤ (x1).toNatClampNeg then none else (if x1 < 0 ∨ 242 ≤ (x1).toNatClampNeg then none else (L_X9_bringBack_2  n2 (x1 + (1 : Int32)) (hp_p M 13 1 (x1).toNatClampNeg (M 13 3 (x1).toNatClampNeg))))))
def F_X9_bringBack  (M : hp_M) : Option (Unit × hp_M) := (L_X9_bringBack_2 hp_fu (0 : Int32) M)
set_option maxRecDepth 20000 in
set_option maxHeartbeats 4000000 in
theorem c_X9_bringBack (l : Launch)   (M : hp_M) : hp_Ct l yX9_bringBack cX9_bringBack 2 none 0 hp_IR (fun adr adV => [.ref (adr 13 0)]) hp_oo M (F_X9_bringBack  M) := by
  refine hp_start "HallPhoneModel" (fun adr adV => [(0, .ref (adr 13 0))]) (by decide) rfl (fun _ _ => by simp only [lg_sl]; exact Nat.le_of_ble_eq_true rfl) (fun _ _ => rfl) ?_
  intro p e s m args below meth c A D ids adr adV cA rep G0 hI hC hr
  unfold F_X9_bringBack
  have l2 : ∀  (n2 : Nat) (x1 : Int32) (M : hp_M), hp_Z p l e (hp_rm 0) s m args below meth c 2 A D ids adr adV cA 0 0 (MQ below (hp_Q A D ids adr adV cA rep hp_oo G0) args s 0 0 A) G0 rep 2 [(0, .ref (adr 13 0)), (1, .int x1)] [] M (L_X9_bringBack_2  n2 x1 M) := by
    intro  n2
    induction n2 with
    | zero => intro x1 M; exact hz_none hC
    | succ n2 ih2 =>
      intro x1 M
      rw [L_X9_bringBack_2.eq_2]
      refine hz_iload_n (a := 1) (n := 3) hC dX9_bringBack_2 rfl rfl rfl ?_
      refine hz_sipush (v := (242 : Int32)) (n := 6) hC dX9_bringBack_3 (by decide +kernel) rfl ?_
      refine hz_icmp_ge (tgt := 27) (n := 9) hC dX9_bringBack_6 (by decide) rfl (fun _ => ?_) (fun _ => ?_)
      · exact hz_vret hC hr dX9_bringBack_27
      · refine hz_aload_n (a := 0) (n := 10) hC dX9_bringBack_9 rfl rfl rfl ?_
        refine fg_X9_7 (n := 13) hC hI dX9_bringBack_10 rfl ?_
        refine hz_iload_n (a := 1) (n := 14) hC dX9_bringBack_13 rfl rfl rfl ?_
        refine hz_aload_n (a := 0) (n := 15) hC dX9_bringBack_14 rfl rfl rfl ?_
        refine fg_X9_16 (n := 18) hC hI dX9_bringBack_15 rfl ?_
        refine hz_iload_n (a := 1) (n := 19) hC dX9_bringBack_18 rfl rfl rfl ?_
        refine hz_iald (n := 20) hC dX9_bringBack_19 (hI 3 (by decide)) ha_m3 rfl (fun _ => ?_)
        refine hz_iast (n := 21) hC dX9_bringBack_20 (hI 1 (by decide)) ha_m1 rfl (fun _ => ?_)
        refine hz_iinc (a := 1) (v := (x1 + (1 : Int32))) (L' := [(1, .int (x1 + (1 : Int32))), (0, .ref (adr 13 0))]) (n := 24) hC dX9_bringBack_21 rfl rfl (by decide) rfl rfl ?_
        refine hz_goto (n := 2) hC dX9_bringBack_24 (by decide) ?_
        refine hz_L (L' := [(0, .ref (adr 13 0)), (1, .int (x1 + (1 : Int32)))]) [1, 0] rfl ?_
        exact ih2 _ _
  refine hz_iconst (v := (0 : Int32)) (n := 1) hC dX9_bringBack_0 (by decide +kernel) rfl ?_
  refine hz_istore_n (L' := [(1, .int (0 : Int32)), (0, .ref (adr 13 0))]) (n := 2) hC dX9_bringBack_1 rfl (by decide) rfl rfl ?_
  refine hz_L (L' := [(0, .ref (adr 13 0)), (1, .int (0 : Int32))]) [1, 0] rfl ?_
  exact l2 hp_fu _ _
def F_X9_sortOf (a0 : Int32) (M : hp_M) : Option (Int32 × hp_M) := (if a0 = (59 : Int32) then (some ((1 : Int32), M)) else (if a0 < (97 : Int32) then (if a0 < (48 : Int32) then (some ((4 : Int32), M)) else (if (57 : Int32) < a0 then (some ((4 : Int32), M)) else (some ((3 : Int32), M)))) else (if (122 : Int32) < a0 then (if a0 < (48 : Int32) then (some ((4 : Int32), M)) else (if (57 : Int32) < a0 then (some ((4 : Int32), M)) else (some ((3 : Int32), M)))) else (some ((2 : Int32), M)))))
set_option maxRecDepth 20000 in
set_option maxHeartbeats 4000000 in
theorem c_X9_sortOf (l : Launch) (a0 : Int32)  (M : hp_M) : hp_Ct l yX9_sortOf cX9_sortOf 1 (some .int) 0 hp_IR (fun adr adV => [.int a0]) hp_oi M (F_X9_sortOf a0 M) := by
  refine hp_start "HallPhoneModel" (fun adr adV => [(0, .int a0)]) (by decide) rfl (fun _ _ => by simp only [lg_sl]; exact Nat.le_of_ble_eq_true rfl) (fun _ _ => rfl) ?_
  intro p e s m args below meth c A D ids adr adV cA rep G0 hI hC hr
  unfold F_X9_sortOf
  refine hz_iload_n (a := 0) (n := 1) hC dX9_sortOf_0 rfl rfl rfl ?_
  refine hz_bipush (v := (59 : Int32)) (n := 3) hC dX9_sortOf_1 (by decide +kernel) rfl ?_
  refine hz_icmp_ne (tgt := 10) (n := 6) hC dX9_sortOf_3 (by decide) rfl (fun _ => ?_) (fun _ => ?_)
  · refine hz_iconst (v := (1 : Int32)) (n := 7) hC dX9_sortOf_6 (by decide +kernel) rfl ?_
    refine hz_goto (n := 43) hC dX9_sortOf_7 (by decide) ?_
    exact hz_iret hC hr dX9_sortOf_43
  · refine hz_iload_n (a := 0) (n := 11) hC dX9_sortOf_10 rfl rfl rfl ?_
    refine hz_bipush (v := (97 : Int32)) (n := 13) hC dX9_sortOf_11 (by decide +kernel) rfl ?_
    refine hz_icmp_lt (tgt := 26) (n := 16) hC dX9_sortOf_13 (by decide) rfl (fun _ => ?_) (fun _ => ?_)
    · refine hz_iload_n (a := 0) (n := 27) hC dX9_sortOf_26 rfl rfl rfl ?_
      refine hz_bipush (v := (48 : Int32)) (n := 29) hC dX9_sortOf_27 (by decide +kernel) rfl ?_
      refine hz_icmp_lt (tgt := 42) (n := 32) hC dX9_sortOf_29 (by decide) rfl (fun _ => ?_) (fun _ => ?_)
      · refine hz_iconst (v := (4 : Int32)) (n := 43) hC dX9_sortOf_42 (by decide +kernel) rfl ?_
        exact hz_iret hC hr dX9_sortOf_43
      · refine hz_iload_n (a := 0) (n := 33) hC dX9_sortOf_32 rfl rfl rfl ?_
        refine hz_bipush (v := (57 : Int32)) (n := 35) hC dX9_sortOf_33 (by decide +kernel) rfl ?_
        refine hz_icmp_gt (tgt := 42) (n := 38) hC dX9_sortOf_35 (by decide) rfl (fun _ => ?_) (fun _ => ?_)
        · refine hz_iconst (v := (4 : Int32)) (n := 43) hC dX9_sortOf_42 (by decide +kernel) rfl ?_
          exact hz_iret hC hr dX9_sortOf_43
        · refine hz_iconst (v := (3 : Int32)) (n := 39) hC dX9_sortOf_38 (by decide +kernel) rfl ?_
          refine hz_goto (n := 43) hC dX9_sortOf_39 (by decide) ?_
          exact hz_iret hC hr dX9_sortOf_43
    · refine hz_iload_n (a := 0) (n := 17) hC dX9_sortOf_16 rfl rfl rfl ?_
      refine hz_bipush (v := (122 : Int32)) (n := 19) hC dX9_sortOf_17 (by decide +kernel) rfl ?_
      refine hz_icmp_gt (tgt := 26) (n := 22) hC dX9_sortOf_19 (by decide) rfl (fun _ => ?_) (fun _ => ?_)
      · refine hz_iload_n (a := 0) (n := 27) hC dX9_sortOf_26 rfl rfl rfl ?_
        refine hz_bipush (v := (48 : Int32)) (n := 29) hC dX9_sortOf_27 (by decide +kernel) rfl ?_
        refine hz_icmp_lt (tgt := 42) (n := 32) hC dX9_sortOf_29 (by decide) rfl (fun _ => ?_) (fun _ => ?_)
        · refine hz_iconst (v := (4 : Int32)) (n := 43) hC dX9_sortOf_42 (by decide +kernel) rfl ?_
          exact hz_iret hC hr dX9_sortOf_43
        · refine hz_iload_n (a := 0) (n := 33) hC dX9_sortOf_32 rfl rfl rfl ?_
          refine hz_bipush (v := (57 : Int32)) (n := 35) hC dX9_sortOf_33 (by decide +kernel) rfl ?_
          refine hz_icmp_gt (tgt := 42) (n := 38) hC dX9_sortOf_35 (by decide) rfl (fun _ => ?_) (fun _ => ?_)
          · refine hz_iconst (v := (4 : Int32)) (n := 43) hC dX9_sortOf_42 (by decide +kernel) rfl ?_
            exact hz_iret hC hr dX9_sortOf_43
          · refine hz_iconst (v := (3 : Int32)) (n := 39) hC dX9_sortOf_38 (by decide +kernel) rfl ?_
            refine hz_goto (n := 43) hC dX9_sortOf_39 (by decide) ?_
            exact hz_iret hC hr dX9_sortOf_43
      · refine hz_iconst (v := (2 : Int32)) (n := 23) hC dX9_sortOf_22 (by decide +kernel) rfl ?_
        refine hz_goto (n := 43) hC dX9_sortOf_23 (by decide) ?_
        exact hz_iret hC hr dX9_sortOf_43
def L_X9_next_206    : Nat → Int32 → hp_M → Option (Unit × hp_M)
  | 0, _, _ => none
  | n206 + 1, x1, M => (if (M 13 0 16) ≤ x1 then (some ((), M)) else (if (M 13 0 14) = (3 : Int32) then (if x1 < 0 ∨ 700 ≤ (x1).toNatClampNeg then none else (L_X9_next_206  n206 (x1 + (1 : Int32)) (hp_p M 13 0 17 ((((10 : Int32) * (M 13 0 17)) + (M 13 7 (x1).toNatClampNeg)) - (48 : Int32))))) else (some ((), M))))
def A_X9_next_196    (M : hp_M) : Option (Unit × hp_M) := (L_X9_next_206 hp_fu ((hp_p M 13 0 17 (0 : Int32)) 13 0 15) (hp_p M 13 0 17 (0 : Int32)))
def A_X9_next_170    (M : hp_M) : Option (Unit × hp_M) := (if (M 13 0 14) = (3 : Int32) then (if ((M 13 0 16) - (M 13 0 15)) ≤ (4 : Int32) then (A_X9_next_196 M) else (A_X9_next_196 (hp_p M 13 0 14 (4 : Int32)))) else (A_X9_next_196 M))
def A_X9_next_127  (rec111 : hp_M → Option (Unit × hp_M))  (M : hp_M) : Option (Unit × hp_M) := (if (M 13 0 10) ≤ (M 13 0 16) then (A_X9_next_170 M) else (if (M 13 0 16) < 0 ∨ 700 ≤ ((M 13 0 16)).toNatClampNeg then none else (hp_b (F_X9_sortOf (M 13 7 ((M 13 0 16)).toNatClampNeg) M) (fun r2 M2 => (if r2 = (M2 13 0 14) then (rec111  (hp_p M2 13 0 16 ((M2 13 0 16) + (1 : Int32)))) else (A_X9_next_170 M2))))))
def L_X9_next_111    : Nat → hp_M → Option (Unit × hp_M)
  | 0, _ => none
  | n111 + 1, M => (if (M 13 0 14) = (2 : Int32) then (A_X9_next_127 (L_X9_next_111  n111) M) else (if (M 13 0 14) = (3 : Int32) then (A_X9_next_127 (L_X9_next_111  n111) M) else (A_X9_next_170 M)))
def A_X9_next_60    (M : hp_M) : Option (Unit × hp_M) := (if ((hp_p M 13 0 16 (M 13 0 15)) 13 0 15) = ((hp_p M 13 0 16 (M 13 0 15)) 13 0 10) then (some ((), (hp_p (hp_p M 13 0 16 (M 13 0 15)) 13 0 14 (0 : Int32)))) else (if ((hp_p M 13 0 16 (M 13 0 15)) 13 0 15) < 0 ∨ 700 ≤ (((hp_p M 13 0 16 (M 13 0 15)) 13 0 15)).toNatClampNeg then none else (hp_b (F_X9_sortOf ((hp_p M 13 0 16 (M 13 0 15)) 13 7 (((hp_p M 13 0 16 (M 13 0 15)) 13 0 15)).toNatClampNeg) (hp_p M 13 0 16 (M 13 0 15))) (fun r1 M1 => (L_X9_next_111 hp_fu (hp_p (hp_p M1 13 0 14 r1) 13 0 16 (((hp_p M1 13 0 14 r1) 13 0 16) + (1 : Int32))))))))
def L_X9_next_8    : Nat → hp_M → Option (Unit × hp_M)
  | 0, _ => none
  | n8 + 1, M => (if (M 13 0 10) ≤ (M 13 0 15) then (A_X9_next_60 M) else (if (M 13 0 15) < 0 ∨ 700 ≤ ((M 13 0 15)).toNatClampNeg then none else (if (M 13 7 ((M 13 0 15)).toNatClampNeg) = (32 : Int32) then (L_X9_next_8  n8  (hp_p M 13 0 15 ((M 13 0 15) + (1 : Int32)))) else (if (M 13 0 15) < 0 ∨ 700 ≤ ((M 13 0 15)).toNatClampNeg then none else (if (M 13 7 ((M 13 0 15)).toNatClampNeg) = (10 : Int32) then (L_X9_next_8  n8  (hp_p M 13 0 15 ((M 13 0 15) + (1 : Int32)))) else (A_X9_next_60 M))))))
def F_X9_next  (M : hp_M) : Option (Unit × hp_M) := (L_X9_next_8 hp_fu (hp_p M 13 0 15 (M 13 0 16)))
set_option maxRecDepth 20000 in
set_option maxHeartbeats 4000000 in
theorem c_X9_next (l : Launch)   (M : hp_M) : hp_Ct l yX9_next cX9_next 2 none 1 hp_IR (fun adr adV => [.ref (adr 13 0)]) hp_oo M (F_X9_next  M) := by
  refine hp_start "HallPhoneModel" (fun adr adV => [(0, .ref (adr 13 0))]) (by decide) rfl (fun _ _ => by simp only [lg_sl]; exact Nat.le_of_ble_eq_true rfl) (fun _ _ => rfl) ?_
  intro p e s m args below meth c A D ids adr adV cA rep G0 hI hC hr
  unfold F_X9_next
  have l206 : ∀  (n206 : Nat) (x1 : Int32) (M : hp_M), hp_Z p l e (hp_rm 1) s m args below meth c 2 A D ids adr adV cA 0 0 (MQ below (hp_Q A D ids adr adV cA rep hp_oo G0) args s 0 0 A) G0 rep 206 [(0, .ref (adr 13 0)), (1, .int x1)] [] M (L_X9_next_206  n206 x1 M) := by
    intro  n206
    induction n206 with
    | zero => intro x1 M; exact hz_none hC
    | succ n206 ih206 =>
      intro x1 M
      rw [L_X9_next_206.eq_2]
      refine hz_iload_n (a := 1) (n := 207) hC dX9_next_206 rfl rfl rfl ?_
      refine hz_aload_n (a := 0) (n := 208) hC dX9_next_207 rfl rfl rfl ?_
      refine fg_X9_137 (n := 211) hC hI dX9_next_208 rfl ?_
      refine hz_icmp_ge (tgt := 249) (n := 214) hC dX9_next_211 (by decide) rfl (fun _ => ?_) (fun _ => ?_)
      · exact hz_vret hC hr dX9_next_249
      · refine hz_aload_n (a := 0) (n := 215) hC dX9_next_214 rfl rfl rfl ?_
        refine fg_X9_143 (n := 218) hC hI dX9_next_215 rfl ?_
        refine hz_iconst (v := (3 : Int32)) (n := 219) hC dX9_next_218 (by decide +kernel) rfl ?_
        refine hz_icmp_ne (tgt := 249) (n := 222) hC dX9_next_219 (by decide) rfl (fun _ => ?_) (fun _ => ?_)
        · refine hz_aload_n (a := 0) (n := 223) hC dX9_next_222 rfl rfl rfl ?_
          refine hz_bipush (v := (10 : Int32)) (n := 225) hC dX9_next_223 (by decide +kernel) rfl ?_
          refine hz_aload_n (a := 0) (n := 226) hC dX9_next_225 rfl rfl rfl ?_
          refine fg_X9_149 (n := 229) hC hI dX9_next_226 rfl ?_
          refine hz_imul (n := 230) hC dX9_next_229 rfl ?_
          refine hz_aload_n (a := 0) (n := 231) hC dX9_next_230 rfl rfl rfl ?_
          refine fg_X9_28 (n := 234) hC hI dX9_next_231 rfl ?_
          refine hz_iload_n (a := 1) (n := 235) hC dX9_next_234 rfl rfl rfl ?_
          refine hz_iald (n := 236) hC dX9_next_235 (hI 7 (by decide)) ha_m7 rfl (fun _ => ?_)
          refine hz_iadd (n := 237) hC dX9_next_236 rfl ?_
          refine hz_bipush (v := (48 : Int32)) (n := 239) hC dX9_next_237 (by decide +kernel) rfl ?_
          refine hz_isub (n := 240) hC dX9_next_239 rfl ?_
          refine fp_X9_149 (n := 243) hC hI ((((10 : Int32) * (M 13 0 17)) + (M 13 7 (x1).toNatClampNeg)) - (48 : Int32)) dX9_next_240 rfl ?_
          refine hz_iinc (a := 1) (v := (x1 + (1 : Int32))) (L' := [(1, .int (x1 + (1 : Int32))), (0, .ref (adr 13 0))]) (n := 246) hC dX9_next_243 rfl rfl (by decide) rfl rfl ?_
          refine hz_goto (n := 206) hC dX9_next_246 (by decide) ?_
          refine hz_L (L' := [(0, .ref (adr 13 0)), (1, .int (x1 + (1 : Int32)))]) [1, 0] rfl ?_
          exact ih206 _ _
        · exact hz_vret hC hr dX9_next_249
  have j196 : ∀  (M : hp_M), hp_Z p l e (hp_rm 1) s m args below meth c 2 A D ids adr adV cA 0 0 (MQ below (hp_Q A D ids adr adV cA rep hp_oo G0) args s 0 0 A) G0 rep 196 [(0, .ref (adr 13 0))] [] M (A_X9_next_196   M) := by
    intro  M
    unfold A_X9_next_196
    refine hz_aload_n (a := 0) (n := 197) hC dX9_next_196 rfl rfl rfl ?_
    refine hz_iconst (v := (0 : Int32)) (n := 198) hC dX9_next_197 (by decide +kernel) rfl ?_
    refine fp_X9_149 (n := 201) hC hI (0 : Int32) dX9_next_198 rfl ?_
    refine hz_aload_n (a := 0) (n := 202) hC dX9_next_201 rfl rfl rfl ?_
    refine fg_X9_140 (n := 205) hC hI dX9_next_202 rfl ?_
    refine hz_istore_n (L' := [(1, .int ((hp_p M 13 0 17 (0 : Int32)) 13 0 15)), (0, .ref (adr 13 0))]) (n := 206) hC dX9_next_205 rfl (by decide) rfl rfl ?_
    refine hz_L (L' := [(0, .ref (adr 13 0)), (1, .int ((hp_p M 13 0 17 (0 : Int32)) 13 0 15))]) [1, 0] rfl ?_
    exact l206 hp_fu _ _
  have j170 : ∀  (M : hp_M), hp_Z p l e (hp_rm 1) s m args below meth c 2 A D ids adr adV cA 0 0 (MQ below (hp_Q A D ids adr adV cA rep hp_oo G0) args s 0 0 A) G0 rep 170 [(0, .ref (adr 13 0))] [] M (A_X9_next_170   M) := by
    intro  M
    unfold A_X9_next_170
    refine hz_aload_n (a := 0) (n := 171) hC dX9_next_170 rfl rfl rfl ?_
    refine fg_X9_143 (n := 174) hC hI dX9_next_171 rfl ?_
    refine hz_iconst (v := (3 : Int32)) (n := 175) hC dX9_next_174 (by decide +kernel) rfl ?_
    refine hz_icmp_ne (tgt := 196) (n := 178) hC dX9_next_175 (by decide) rfl (fun _ => ?_) (fun _ => ?_)
    · refine hz_aload_n (a := 0) (n := 179) hC dX9_next_178 rfl rfl rfl ?_
      refine fg_X9_137 (n := 182) hC hI dX9_next_179 rfl ?_
      refine hz_aload_n (a := 0) (n := 183) hC dX9_next_182 rfl rfl rfl ?_
      refine fg_X9_140 (n := 186) hC hI dX9_next_183 rfl ?_
      refine hz_isub (n := 187) hC dX9_next_186 rfl ?_
      refine hz_iconst (v := (4 : Int32)) (n := 188) hC dX9_next_187 (by decide +kernel) rfl ?_
      refine hz_icmp_le (tgt := 196) (n := 191) hC dX9_next_188 (by decide) rfl (fun _ => ?_) (fun _ => ?_)
      · exact j196 _
      · refine hz_aload_n (a := 0) (n := 192) hC dX9_next_191 rfl rfl rfl ?_
        refine hz_iconst (v := (4 : Int32)) (n := 193) hC dX9_next_192 (by decide +kernel) rfl ?_
        refine fp_X9_143 (n := 196) hC hI (4 : Int32) dX9_next_193 rfl ?_
        exact j196 _
    · exact j196 _
  have l111 : ∀  (n111 : Nat)  (M : hp_M), hp_Z p l e (hp_rm 1) s m args below meth c 2 A D ids adr adV cA 0 0 (MQ below (hp_Q A D ids adr adV cA rep hp_oo G0) args s 0 0 A) G0 rep 111 [(0, .ref (adr 13 0))] [] M (L_X9_next_111  n111  M) := by
    intro  n111
    induction n111 with
    | zero => intro  M; exact hz_none hC
    | succ n111 ih111 =>
      intro  M
      rw [L_X9_next_111.eq_2]
      have j127 : ∀  (M : hp_M), hp_Z p l e (hp_rm 1) s m args below meth c 2 A D ids adr adV cA 0 0 (MQ below (hp_Q A D ids adr adV cA rep hp_oo G0) args s 0 0 A) G0 rep 127 [(0, .ref (adr 13 0))] [] M (A_X9_next_127  (L_X9_next_111  n111)  M) := by
        intro  M
        unfold A_X9_next_127
        refine hz_aload_n (a := 0) (n := 128) hC dX9_next_127 rfl rfl rfl ?_
        refine fg_X9_137 (n := 131) hC hI dX9_next_128 rfl ?_
        refine hz_aload_n (a := 0) (n := 132) hC dX9_next_131 rfl rfl rfl ?_
        refine fg_X9_114 (n := 135) hC hI dX9_next_132 rfl ?_
        refine hz_icmp_ge (tgt := 170) (n := 138) hC dX9_next_135 (by decide) rfl (fun _ => ?_) (fun _ => ?_)
        · exact j170 _
        · refine hz_aload_n (a := 0) (n := 139) hC dX9_next_138 rfl rfl rfl ?_
          refine fg_X9_28 (n := 142) hC hI dX9_next_139 rfl ?_
          refine hz_aload_n (a := 0) (n := 143) hC dX9_next_142 rfl rfl rfl ?_
          refine fg_X9_137 (n := 146) hC hI dX9_next_143 rfl ?_
          refine hz_iald (n := 147) hC dX9_next_146 (hI 7 (by decide)) ha_m7 rfl (fun _ => ?_)
          refine hz_callS (k := 1) (As := [.int (M 13 7 ((M 13 0 16)).toNatClampNeg)]) (st := []) (S1 := fun r => .int r :: []) (n := 150) hC (c_X9_sortOf l (M 13 7 ((M 13 0 16)).toNatClampNeg)   M) ks_X9_sortOf wd_6_174 hI dX9_next_147 rfl rfl rfl (Nat.le_of_ble_eq_true rfl) ⟨Nat.le_of_ble_eq_true rfl, Nat.le_of_ble_eq_true rfl⟩ ⟨Nat.zero_le _, Nat.zero_le _⟩ (fun _ => rfl) rfl (fun r2 M2 _ => ?_)
          refine hz_aload_n (a := 0) (n := 151) hC dX9_next_150 rfl rfl rfl ?_
          refine fg_X9_143 (n := 154) hC hI dX9_next_151 rfl ?_
          refine hz_icmp_ne (tgt := 170) (n := 157) hC dX9_next_154 (by decide) rfl (fun _ => ?_) (fun _ => ?_)
          · refine hz_aload_n (a := 0) (n := 158) hC dX9_next_157 rfl rfl rfl ?_
            refine hz_dup (n := 159) hC dX9_next_158 rfl rfl ?_
            refine fg_X9_137 (n := 162) hC hI dX9_next_159 rfl ?_
            refine hz_iconst (v := (1 : Int32)) (n := 163) hC dX9_next_162 (by decide +kernel) rfl ?_
            refine hz_iadd (n := 164) hC dX9_next_163 rfl ?_
            refine fp_X9_137 (n := 167) hC hI ((M2 13 0 16) + (1 : Int32)) dX9_next_164 rfl ?_
            refine hz_goto (n := 111) hC dX9_next_167 (by decide) ?_
            exact ih111 _
          · exact j170 _
      refine hz_aload_n (a := 0) (n := 112) hC dX9_next_111 rfl rfl rfl ?_
      refine fg_X9_143 (n := 115) hC hI dX9_next_112 rfl ?_
      refine hz_iconst (v := (2 : Int32)) (n := 116) hC dX9_next_115 (by decide +kernel) rfl ?_
      refine hz_icmp_eq (tgt := 127) (n := 119) hC dX9_next_116 (by decide) rfl (fun _ => ?_) (fun _ => ?_)
      · exact j127 _
      · refine hz_aload_n (a := 0) (n := 120) hC dX9_next_119 rfl rfl rfl ?_
        refine fg_X9_143 (n := 123) hC hI dX9_next_120 rfl ?_
        refine hz_iconst (v := (3 : Int32)) (n := 124) hC dX9_next_123 (by decide +kernel) rfl ?_
        refine hz_icmp_ne (tgt := 170) (n := 127) hC dX9_next_124 (by decide) rfl (fun _ => ?_) (fun _ => ?_)
        · exact j127 _
        · exact j170 _
  have j60 : ∀  (M : hp_M), hp_Z p l e (hp_rm 1) s m args below meth c 2 A D ids adr adV cA 0 0 (MQ below (hp_Q A D ids adr adV cA rep hp_oo G0) args s 0 0 A) G0 rep 60 [(0, .ref (adr 13 0))] [] M (A_X9_next_60   M) := by
    intro  M
    unfold A_X9_next_60
    refine hz_aload_n (a := 0) (n := 61) hC dX9_next_60 rfl rfl rfl ?_
    refine hz_aload_n (a := 0) (n := 62) hC dX9_next_61 rfl rfl rfl ?_
    refine fg_X9_140 (n := 65) hC hI dX9_next_62 rfl ?_
    refine fp_X9_137 (n := 68) hC hI (M 13 0 15) dX9_next_65 rfl ?_
    refine hz_aload_n (a := 0) (n := 69) hC dX9_next_68 rfl rfl rfl ?_
    refine fg_X9_140 (n := 72) hC hI dX9_next_69 rfl ?_
    refine hz_aload_n (a := 0) (n := 73) hC dX9_next_72 rfl rfl rfl ?_
    refine fg_X9_114 (n := 76) hC hI dX9_next_73 rfl ?_
    refine hz_icmp_ne (tgt := 85) (n := 79) hC dX9_next_76 (by decide) rfl (fun _ => ?_) (fun _ => ?_)
    · refine hz_aload_n (a := 0) (n := 80) hC dX9_next_79 rfl rfl rfl ?_
      refine hz_iconst (v := (0 : Int32)) (n := 81) hC dX9_next_80 (by decide +kernel) rfl ?_
      refine fp_X9_143 (n := 84) hC hI (0 : Int32) dX9_next_81 rfl ?_
      exact hz_vret hC hr dX9_next_84
    · refine hz_aload_n (a := 0) (n := 86) hC dX9_next_85 rfl rfl rfl ?_
      refine hz_aload_n (a := 0) (n := 87) hC dX9_next_86 rfl rfl rfl ?_
      refine fg_X9_28 (n := 90) hC hI dX9_next_87 rfl ?_
      refine hz_aload_n (a := 0) (n := 91) hC dX9_next_90 rfl rfl rfl ?_
      refine fg_X9_140 (n := 94) hC hI dX9_next_91 rfl ?_
      refine hz_iald (n := 95) hC dX9_next_94 (hI 7 (by decide)) ha_m7 rfl (fun _ => ?_)
      refine hz_callS (k := 1) (As := [.int ((hp_p M 13 0 16 (M 13 0 15)) 13 7 (((hp_p M 13 0 16 (M 13 0 15)) 13 0 15)).toNatClampNeg)]) (st := [.ref (adr 13 0)]) (S1 := fun r => .int r :: [.ref (adr 13 0)]) (n := 98) hC (c_X9_sortOf l ((hp_p M 13 0 16 (M 13 0 15)) 13 7 (((hp_p M 13 0 16 (M 13 0 15)) 13 0 15)).toNatClampNeg)   (hp_p M 13 0 16 (M 13 0 15))) ks_X9_sortOf wd_6_174 hI dX9_next_95 rfl rfl rfl (Nat.le_of_ble_eq_true rfl) ⟨Nat.le_of_ble_eq_true rfl, Nat.le_of_ble_eq_true rfl⟩ ⟨Nat.zero_le _, Nat.zero_le _⟩ (fun _ => rfl) rfl (fun r1 M1 _ => ?_)
      refine fp_X9_143 (n := 101) hC hI r1 dX9_next_98 rfl ?_
      refine hz_aload_n (a := 0) (n := 102) hC dX9_next_101 rfl rfl rfl ?_
      refine hz_dup (n := 103) hC dX9_next_102 rfl rfl ?_
      refine fg_X9_137 (n := 106) hC hI dX9_next_103 rfl ?_
      refine hz_iconst (v := (1 : Int32)) (n := 107) hC dX9_next_106 (by decide +kernel) rfl ?_
      refine hz_iadd (n := 108) hC dX9_next_107 rfl ?_
      refine fp_X9_137 (n := 111) hC hI (((hp_p M1 13 0 14 r1) 13 0 16) + (1 : Int32)) dX9_next_108 rfl ?_
      exact l111 hp_fu _
  have l8 : ∀  (n8 : Nat)  (M : hp_M), hp_Z p l e (hp_rm 1) s m args below meth c 2 A D ids adr adV cA 0 0 (MQ below (hp_Q A D ids adr adV cA rep hp_oo G0) args s 0 0 A) G0 rep 8 [(0, .ref (adr 13 0))] [] M (L_X9_next_8  n8  M) := by
    intro  n8
    induction n8 with
    | zero => intro  M; exact hz_none hC
    | succ n8 ih8 =>
      intro  M
      rw [L_X9_next_8.eq_2]
      refine hz_aload_n (a := 0) (n := 9) hC dX9_next_8 rfl rfl rfl ?_
      refine fg_X9_140 (n := 12) hC hI dX9_next_9 rfl ?_
      refine hz_aload_n (a := 0) (n := 13) hC dX9_next_12 rfl rfl rfl ?_
      refine fg_X9_114 (n := 16) hC hI dX9_next_13 rfl ?_
      refine hz_icmp_ge (tgt := 60) (n := 19) hC dX9_next_16 (by decide) rfl (fun _ => ?_) (fun _ => ?_)
      · exact j60 _
      · refine hz_aload_n (a := 0) (n := 20) hC dX9_next_19 rfl rfl rfl ?_
        refine fg_X9_28 (n := 23) hC hI dX9_next_20 rfl ?_
        refine hz_aload_n (a := 0) (n := 24) hC dX9_next_23 rfl rfl rfl ?_
        refine fg_X9_140 (n := 27) hC hI dX9_next_24 rfl ?_
        refine hz_iald (n := 28) hC dX9_next_27 (hI 7 (by decide)) ha_m7 rfl (fun _ => ?_)
        refine hz_bipush (v := (32 : Int32)) (n := 30) hC dX9_next_28 (by decide +kernel) rfl ?_
        refine hz_icmp_eq (tgt := 47) (n := 33) hC dX9_next_30 (by decide) rfl (fun _ => ?_) (fun _ => ?_)
        · refine hz_aload_n (a := 0) (n := 48) hC dX9_next_47 rfl rfl rfl ?_
          refine hz_dup (n := 49) hC dX9_next_48 rfl rfl ?_
          refine fg_X9_140 (n := 52) hC hI dX9_next_49 rfl ?_
          refine hz_iconst (v := (1 : Int32)) (n := 53) hC dX9_next_52 (by decide +kernel) rfl ?_
          refine hz_iadd (n := 54) hC dX9_next_53 rfl ?_
          refine fp_X9_140 (n := 57) hC hI ((M 13 0 15) + (1 : Int32)) dX9_next_54 rfl ?_
          refine hz_goto (n := 8) hC dX9_next_57 (by decide) ?_
          exact ih8 _
        · refine hz_aload_n (a := 0) (n := 34) hC dX9_next_33 rfl rfl rfl ?_
          refine fg_X9_28 (n := 37) hC hI dX9_next_34 rfl ?_
          refine hz_aload_n (a := 0) (n := 38) hC dX9_next_37 rfl rfl rfl ?_
          refine fg_X9_140 (n := 41) hC hI dX9_next_38 rfl ?_
          refine hz_iald (n := 42) hC dX9_next_41 (hI 7 (by decide)) ha_m7 rfl (fun _ => ?_)
          refine hz_bipush (v := (10 : Int32)) (n := 44) hC dX9_next_42 (by decide +kernel) rfl ?_
          refine hz_icmp_ne (tgt := 60) (n := 47) hC dX9_next_44 (by decide) rfl (fun _ => ?_) (fun _ => ?_)
          · refine hz_aload_n (a := 0) (n := 48) hC dX9_next_47 rfl rfl rfl ?_
            refine hz_dup (n := 49) hC dX9_next_48 rfl rfl ?_
            refine fg_X9_140 (n := 52) hC hI dX9_next_49 rfl ?_
            refine hz_iconst (v := (1 : Int32)) (n := 53) hC dX9_next_52 (by decide +kernel) rfl ?_
            refine hz_iadd (n := 54) hC dX9_next_53 rfl ?_
            refine fp_X9_140 (n := 57) hC hI ((M 13 0 15) + (1 : Int32)) dX9_next_54 rfl ?_
            refine hz_goto (n := 8) hC dX9_next_57 (by decide) ?_
            exact ih8 _
          · exact j60 _
  refine hz_aload_n (a := 0) (n := 1) hC dX9_next_0 rfl rfl rfl ?_
  refine hz_aload_n (a := 0) (n := 2) hC dX9_next_1 rfl rfl rfl ?_
  refine fg_X9_137 (n := 5) hC hI dX9_next_2 rfl ?_
  refine fp_X9_140 (n := 8) hC hI (M 13 0 16) dX9_next_5 rfl ?_
  exact l8 hp_fu _
def F_X9_fail (a0 : Int32) (M : hp_M) : Option (Int32 × hp_M) := (if (M 13 0 18) = 0 then (some ((0 : Int32), (hp_p M 13 0 18 (((8 : Int32) * (M 13 0 15)) + a0)))) else (some ((0 : Int32), M)))
set_option maxRecDepth 20000 in
set_option maxHeartbeats 4000000 in
theorem c_X9_fail (l : Launch) (a0 : Int32)  (M : hp_M) : hp_Ct l yX9_fail cX9_fail 2 (some .boolean) 0 hp_IR (fun adr adV => [.ref (adr 13 0), .int a0]) hp_oi M (F_X9_fail a0 M) := by
  refine hp_start "HallPhoneModel" (fun adr adV => [(0, .ref (adr 13 0)), (1, .int a0)]) (by decide) rfl (fun _ _ => by simp only [lg_sl]; exact Nat.le_of_ble_eq_true rfl) (fun _ _ => rfl) ?_
  intro p e s m args below meth c A D ids adr adV cA rep G0 hI hC hr
  unfold F_X9_fail
  refine hz_aload_n (a := 0) (n := 1) hC dX9_fail_0 rfl rfl rfl ?_
  refine fg_X9_152 (n := 4) hC hI dX9_fail_1 rfl ?_
  refine hz_if_ne (tgt := 20) (n := 7) hC dX9_fail_4 (by decide) rfl (fun _ => ?_) (fun _ => ?_)
  · refine hz_aload_n (a := 0) (n := 8) hC dX9_fail_7 rfl rfl rfl ?_
    refine hz_bipush (v := (8 : Int32)) (n := 10) hC dX9_fail_8 (by decide +kernel) rfl ?_
    refine hz_aload_n (a := 0) (n := 11) hC dX9_fail_10 rfl rfl rfl ?_
    refine fg_X9_140 (n := 14) hC hI dX9_fail_11 rfl ?_
    refine hz_imul (n := 15) hC dX9_fail_14 rfl ?_
    refine hz_iload_n (a := 1) (n := 16) hC dX9_fail_15 rfl rfl rfl ?_
    refine hz_iadd (n := 17) hC dX9_fail_16 rfl ?_
    refine fp_X9_152 (n := 20) hC hI (((8 : Int32) * (M 13 0 15)) + a0) dX9_fail_17 rfl ?_
    refine hz_iconst (v := (0 : Int32)) (n := 21) hC dX9_fail_20 (by decide +kernel) rfl ?_
    exact hz_zret hC hr nz_0 dX9_fail_21
  · refine hz_iconst (v := (0 : Int32)) (n := 21) hC dX9_fail_20 (by decide +kernel) rfl ?_
    exact hz_zret hC hr nz_0 dX9_fail_21
def F_X9_isNumber (a0 : Int32) (a1 : Int32) (M : hp_M) : Option (Int32 × hp_M) := (if (M 13 0 14) = (3 : Int32) then (hp_b (F_X9_in (M 13 0 17) a0 a1 M) (fun r1 M1 => (if r1 = 0 then (hp_b (F_X9_fail (2 : Int32) M1) (fun r2 M2 => (if r2 = 0 ∨ r2 = 1 then some (r2, M2) else none))) else (some ((1 : Int32), (hp_p M1 13 0 19 (M1 13 0 17))))))) else (hp_b (F_X9_fail (1 : Int32) M) (fun r3 M3 => (if r3 = 0 ∨ r3 = 1 then some (r3, M3) else none))))
set_option maxRecDepth 20000 in
set_option maxHeartbeats 4000000 in
theorem c_X9_isNumber (l : Launch) (a0 : Int32) (a1 : Int32)  (M : hp_M) : hp_Ct l yX9_isNumber cX9_isNumber 3 (some .boolean) 1 hp_IR (fun adr adV => [.ref (adr 13 0), .int a0, .int a1]) hp_oi M (F_X9_isNumber a0 a1 M) := by
  refine hp_start "HallPhoneModel" (fun adr adV => [(0, .ref (adr 13 0)), (1, .int a0), (2, .int a1)]) (by decide) rfl (fun _ _ => by simp only [lg_sl]; exact Nat.le_of_ble_eq_true rfl) (fun _ _ => rfl) ?_
  intro p e s m args below meth c A D ids adr adV cA rep G0 hI hC hr
  unfold F_X9_isNumber
  refine hz_aload_n (a := 0) (n := 1) hC dX9_isNumber_0 rfl rfl rfl ?_
  refine fg_X9_143 (n := 4) hC hI dX9_isNumber_1 rfl ?_
  refine hz_iconst (v := (3 : Int32)) (n := 5) hC dX9_isNumber_4 (by decide +kernel) rfl ?_
  refine hz_icmp_eq (tgt := 14) (n := 8) hC dX9_isNumber_5 (by decide) rfl (fun _ => ?_) (fun _ => ?_)
  · refine hz_aload_n (a := 0) (n := 15) hC dX9_isNumber_14 rfl rfl rfl ?_
    refine fg_X9_149 (n := 18) hC hI dX9_isNumber_15 rfl ?_
    refine hz_iload_n (a := 1) (n := 19) hC dX9_isNumber_18 rfl rfl rfl ?_
    refine hz_iload_n (a := 2) (n := 20) hC dX9_isNumber_19 rfl rfl rfl ?_
    refine hz_callS (k := 3) (As := [.int (M 13 0 17), .int a0, .int a1]) (st := []) (S1 := fun r => .int r :: []) (n := 23) hC (c_X9_in l (M 13 0 17) a0 a1   M) ks_X9_in wd_6_198 hI dX9_isNumber_20 rfl rfl rfl (Nat.le_of_ble_eq_true rfl) ⟨Nat.le_of_ble_eq_true rfl, Nat.le_of_ble_eq_true rfl⟩ ⟨Nat.zero_le _, Nat.zero_le _⟩ (fun _ => rfl) rfl (fun r1 M1 _ => ?_)
    refine hz_if_ne (tgt := 32) (n := 26) hC dX9_isNumber_23 (by decide) rfl (fun _ => ?_) (fun _ => ?_)
    · refine hz_aload_n (a := 0) (n := 27) hC dX9_isNumber_26 rfl rfl rfl ?_
      refine hz_iconst (v := (2 : Int32)) (n := 28) hC dX9_isNumber_27 (by decide +kernel) rfl ?_
      refine hz_callV (k := 1) (As := [.int (2 : Int32)]) (st := []) (S1 := fun r => .int r :: []) (n := 31) hC (c_X9_fail l (2 : Int32)   M1) kv_X9_fail wd_6_190 hI dX9_isNumber_28 rfl (hI 0 (by decide)) he_X9 rfl rfl rfl (Nat.le_of_ble_eq_true rfl) ⟨Nat.le_of_ble_eq_true rfl, Nat.le_of_ble_eq_true rfl⟩ ⟨Nat.zero_le _, Nat.zero_le _⟩ (fun _ => rfl) rfl (fun r2 M2 _ => ?_)
      exact hz_bret hC hr dX9_isNumber_31
    · refine hz_aload_n (a := 0) (n := 33) hC dX9_isNumber_32 rfl rfl rfl ?_
      refine hz_aload_n (a := 0) (n := 34) hC dX9_isNumber_33 rfl rfl rfl ?_
      refine fg_X9_149 (n := 37) hC hI dX9_isNumber_34 rfl ?_
      refine fp_X9_158 (n := 40) hC hI (M1 13 0 17) dX9_isNumber_37 rfl ?_
      refine hz_iconst (v := (1 : Int32)) (n := 41) hC dX9_isNumber_40 (by decide +kernel) rfl ?_
      exact hz_zret hC hr nz_1 dX9_isNumber_41
  · refine hz_aload_n (a := 0) (n := 9) hC dX9_isNumber_8 rfl rfl rfl ?_
    refine hz_iconst (v := (1 : Int32)) (n := 10) hC dX9_isNumber_9 (by decide +kernel) rfl ?_
    refine hz_callV (k := 1) (As := [.int (1 : Int32)]) (st := []) (S1 := fun r => .int r :: []) (n := 13) hC (c_X9_fail l (1 : Int32)   M) kv_X9_fail wd_6_190 hI dX9_isNumber_10 rfl (hI 0 (by decide)) he_X9 rfl rfl rfl (Nat.le_of_ble_eq_true rfl) ⟨Nat.le_of_ble_eq_true rfl, Nat.le_of_ble_eq_true rfl⟩ ⟨Nat.zero_le _, Nat.zero_le _⟩ (fun _ => rfl) rfl (fun r3 M3 _ => ?_)
    exact hz_bret hC hr dX9_isNumber_13
def F_X9_number (a0 : Int32) (a1 : Int32) (a2 : Int32) (M : hp_M) : Option (Int32 × hp_M) := (hp_b (F_X9_isNumber a1 a2 M) (fun r1 M1 => (if r1 = 0 then (some ((0 : Int32), M1)) else (if a0 < 0 ∨ 2 ≤ (a0).toNatClampNeg then none else (hp_b (F_X9_next (hp_p M1 13 9 (a0).toNatClampNeg (M1 13 0 19))) (fun _ M2 => (some ((1 : Int32), M2))))))))
set_option maxRecDepth 20000 in
set_option maxHeartbeats 4000000 in
theorem c_X9_number (l : Launch) (a0 : Int32) (a1 : Int32) (a2 : Int32)  (M : hp_M) : hp_Ct l yX9_number cX9_number 4 (some .boolean) 2 hp_IR (fun adr adV => [.ref (adr 13 0), .int a0, .int a1, .int a2]) hp_oi M (F_X9_number a0 a1 a2 M) := by
  refine hp_start "HallPhoneModel" (fun adr adV => [(0, .ref (adr 13 0)), (1, .int a0), (2, .int a1), (3, .int a2)]) (by decide) rfl (fun _ _ => by simp only [lg_sl]; exact Nat.le_of_ble_eq_true rfl) (fun _ _ => rfl) ?_
  intro p e s m args below meth c A D ids adr adV cA rep G0 hI hC hr
  unfold F_X9_number
  refine hz_aload_n (a := 0) (n := 1) hC dX9_number_0 rfl rfl rfl ?_
  refine hz_iload_n (a := 2) (n := 2) hC dX9_number_1 rfl rfl rfl ?_
  refine hz_iload_n (a := 3) (n := 3) hC dX9_number_2 rfl rfl rfl ?_
  refine hz_callV (k := 2) (As := [.int a1, .int a2]) (st := []) (S1 := fun r => .int r :: []) (n := 6) hC (c_X9_isNumber l a1 a2   M) kv_X9_isNumber wd_6_194 hI dX9_number_3 rfl (hI 0 (by decide)) he_X9 rfl rfl rfl (Nat.le_of_ble_eq_true rfl) ⟨Nat.le_of_ble_eq_true rfl, Nat.le_of_ble_eq_true rfl⟩ ⟨Nat.zero_le _, Nat.zero_le _⟩ (fun _ => rfl) rfl (fun r1 M1 _ => ?_)
  refine hz_if_ne (tgt := 11) (n := 9) hC dX9_number_6 (by decide) rfl (fun _ => ?_) (fun _ => ?_)
  · refine hz_iconst (v := (0 : Int32)) (n := 10) hC dX9_number_9 (by decide +kernel) rfl ?_
    exact hz_zret hC hr nz_0 dX9_number_10
  · refine hz_aload_n (a := 0) (n := 12) hC dX9_number_11 rfl rfl rfl ?_
    refine fg_X9_35 (n := 15) hC hI dX9_number_12 rfl ?_
    refine hz_iload_n (a := 1) (n := 16) hC dX9_number_15 rfl rfl rfl ?_
    refine hz_aload_n (a := 0) (n := 17) hC dX9_number_16 rfl rfl rfl ?_
    refine fg_X9_158 (n := 20) hC hI dX9_number_17 rfl ?_
    refine hz_iast (n := 21) hC dX9_number_20 (hI 9 (by decide)) ha_m9 rfl (fun _ => ?_)
    refine hz_aload_n (a := 0) (n := 22) hC dX9_number_21 rfl rfl rfl ?_
    refine hz_callV (k := 0) (As := []) (st := []) (S1 := fun _ => []) (n := 25) hC (c_X9_next l    (hp_p M1 13 9 (a0).toNatClampNeg (M1 13 0 19))) kv_X9_next wd_6_170 hI dX9_number_22 rfl (hI 0 (by decide)) he_X9 rfl rfl rfl (Nat.le_of_ble_eq_true rfl) ⟨Nat.le_of_ble_eq_true rfl, Nat.le_of_ble_eq_true rfl⟩ ⟨Nat.zero_le _, Nat.zero_le _⟩ (fun _ => rfl) rfl (fun r2 M2 _ => ?_)
    refine hz_iconst (v := (1 : Int32)) (n := 26) hC dX9_number_25 (by decide +kernel) rfl ?_
    exact hz_zret hC hr nz_1 dX9_number_26
def F_X9_flatAt  (M : hp_M) : Option (Int32 × hp_M) := (hp_b (F_X9_number (0 : Int32) (0 : Int32) ((M 13 1 0) - (1 : Int32)) M) (fun r1 M1 => (if r1 = 0 ∨ r1 = 1 then some (r1, M1) else none)))
set_option maxRecDepth 20000 in
set_option maxHeartbeats 4000000 in
theorem c_X9_flatAt (l : Launch)   (M : hp_M) : hp_Ct l yX9_flatAt cX9_flatAt 1 (some .boolean) 3 hp_IR (fun adr adV => [.ref (adr 13 0)]) hp_oi M (F_X9_flatAt  M) := by
  refine hp_start "HallPhoneModel" (fun adr adV => [(0, .ref (adr 13 0))]) (by decide) rfl (fun _ _ => by simp only [lg_sl]; exact Nat.le_of_ble_eq_true rfl) (fun _ _ => rfl) ?_
  intro p e s m args below meth c A D ids adr adV cA rep G0 hI hC hr
  unfold F_X9_flatAt
  refine hz_aload_n (a := 0) (n := 1) hC dX9_flatAt_0 rfl rfl rfl ?_
  refine hz_iconst (v := (0 : Int32)) (n := 2) hC dX9_flatAt_1 (by decide +kernel) rfl ?_
  refine hz_iconst (v := (0 : Int32)) (n := 3) hC dX9_flatAt_2 (by decide +kernel) rfl ?_
  refine hz_aload_n (a := 0) (n := 4) hC dX9_flatAt_3 rfl rfl rfl ?_
  refine fg_X9_7 (n := 7) hC hI dX9_flatAt_4 rfl ?_
  refine hz_iconst (v := (0 : Int32)) (n := 8) hC dX9_flatAt_7 (by decide +kernel) rfl ?_
  refine hz_ialdc (k := 0) (n := 9) hC (by decide +kernel) (by decide) dX9_flatAt_8 (hI 1 (by decide)) ha_m1 rfl ?_
  refine hz_iconst (v := (1 : Int32)) (n := 10) hC dX9_flatAt_9 (by decide +kernel) rfl ?_
  refine hz_isub (n := 11) hC dX9_flatAt_10 rfl ?_
  refine hz_callV (k := 3) (As := [.int (0 : Int32), .int (0 : Int32), .int ((M 13 1 0) - (1 : Int32))]) (st := []) (S1 := fun r => .int r :: []) (n := 14) hC (c_X9_number l (0 : Int32) (0 : Int32) ((M 13 1 0) - (1 : Int32))   M) kv_X9_number wd_6_230 hI dX9_flatAt_11 rfl (hI 0 (by decide)) he_X9 rfl rfl rfl (Nat.le_of_ble_eq_true rfl) ⟨Nat.le_of_ble_eq_true rfl, Nat.le_of_ble_eq_true rfl⟩ ⟨Nat.zero_le _, Nat.zero_le _⟩ (fun _ => rfl) rfl (fun r1 M1 _ => ?_)
  exact hz_bret hC hr dX9_flatAt_14
def F_X9_isSemicolon  (M : hp_M) : Option (Int32 × hp_M) := (if (M 13 0 14) = (1 : Int32) then (some ((1 : Int32), M)) else (hp_b (F_X9_fail (1 : Int32) M) (fun r1 M1 => (if r1 = 0 then (some ((0 : Int32), M1)) else (some ((1 : Int32), M1))))))
set_option maxRecDepth 20000 in
set_option maxHeartbeats 4000000 in
theorem c_X9_isSemicolon (l : Launch)   (M : hp_M) : hp_Ct l yX9_isSemicolon cX9_isSemicolon 1 (some .boolean) 1 hp_IR (fun adr adV => [.ref (adr 13 0)]) hp_oi M (F_X9_isSemicolon  M) := by
  refine hp_start "HallPhoneModel" (fun adr adV => [(0, .ref (adr 13 0))]) (by decide) rfl (fun _ _ => by simp only [lg_sl]; exact Nat.le_of_ble_eq_true rfl) (fun _ _ => rfl) ?_
  intro p e s m args below meth c A D ids adr adV cA rep G0 hI hC hr
  unfold F_X9_isSemicolon
  refine hz_aload_n (a := 0) (n := 1) hC dX9_isSemicolon_0 rfl rfl rfl ?_
  refine fg_X9_143 (n := 4) hC hI dX9_isSemicolon_1 rfl ?_
  refine hz_iconst (v := (1 : Int32)) (n := 5) hC dX9_isSemicolon_4 (by decide +kernel) rfl ?_
  refine hz_icmp_eq (tgt := 16) (n := 8) hC dX9_isSemicolon_5 (by decide) rfl (fun _ => ?_) (fun _ => ?_)
  · refine hz_iconst (v := (1 : Int32)) (n := 17) hC dX9_isSemicolon_16 (by decide +kernel) rfl ?_
    refine hz_goto (n := 21) hC dX9_isSemicolon_17 (by decide) ?_
    exact hz_zret hC hr nz_1 dX9_isSemicolon_21
  · refine hz_aload_n (a := 0) (n := 9) hC dX9_isSemicolon_8 rfl rfl rfl ?_
    refine hz_iconst (v := (1 : Int32)) (n := 10) hC dX9_isSemicolon_9 (by decide +kernel) rfl ?_
    refine hz_callV (k := 1) (As := [.int (1 : Int32)]) (st := []) (S1 := fun r => .int r :: []) (n := 13) hC (c_X9_fail l (1 : Int32)   M) kv_X9_fail wd_6_190 hI dX9_isSemicolon_10 rfl (hI 0 (by decide)) he_X9 rfl rfl rfl (Nat.le_of_ble_eq_true rfl) ⟨Nat.le_of_ble_eq_true rfl, Nat.le_of_ble_eq_true rfl⟩ ⟨Nat.zero_le _, Nat.zero_le _⟩ (fun _ => rfl) rfl (fun r1 M1 _ => ?_)
    refine hz_if_eq (tgt := 20) (n := 16) hC dX9_isSemicolon_13 (by decide) rfl (fun _ => ?_) (fun _ => ?_)
    · refine hz_iconst (v := (0 : Int32)) (n := 21) hC dX9_isSemicolon_20 (by decide +kernel) rfl ?_
      exact hz_zret hC hr nz_0 dX9_isSemicolon_21
    · refine hz_iconst (v := (1 : Int32)) (n := 17) hC dX9_isSemicolon_16 (by decide +kernel) rfl ?_
      refine hz_goto (n := 21) hC dX9_isSemicolon_17 (by decide) ?_
      exact hz_zret hC hr nz_1 dX9_isSemicolon_21
def F_X9_isDone (a0 : Int32) (M : hp_M) : Option (Int32 × hp_M) := (if 0 ≤ a0 then (some ((1 : Int32), M)) else (hp_b (F_X9_fail (4 : Int32) M) (fun r1 M1 => (if r1 = 0 then (some ((0 : Int32), M1)) else (some ((1 : Int32), M1))))))
set_option maxRecDepth 20000 in
set_option maxHeartbeats 4000000 in
theorem c_X9_isDone (l : Launch) (a0 : Int32)  (M : hp_M) : hp_Ct l yX9_isDone cX9_isDone 2 (some .boolean) 1 hp_IR (fun adr adV => [.ref (adr 13 0), .int a0]) hp_oi M (F_X9_isDone a0 M) := by
  refine hp_start "HallPhoneModel" (fun adr adV => [(0, .ref (adr 13 0)), (1, .int a0)]) (by decide) rfl (fun _ _ => by simp only [lg_sl]; exact Nat.le_of_ble_eq_true rfl) (fun _ _ => rfl) ?_
  intro p e s m args below meth c A D ids adr adV cA rep G0 hI hC hr
  unfold F_X9_isDone
  refine hz_iload_n (a := 1) (n := 1) hC dX9_isDone_0 rfl rfl rfl ?_
  refine hz_if_ge (tgt := 12) (n := 4) hC dX9_isDone_1 (by decide) rfl (fun _ => ?_) (fun _ => ?_)
  · refine hz_iconst (v := (1 : Int32)) (n := 13) hC dX9_isDone_12 (by decide +kernel) rfl ?_
    refine hz_goto (n := 17) hC dX9_isDone_13 (by decide) ?_
    exact hz_zret hC hr nz_1 dX9_isDone_17
  · refine hz_aload_n (a := 0) (n := 5) hC dX9_isDone_4 rfl rfl rfl ?_
    refine hz_iconst (v := (4 : Int32)) (n := 6) hC dX9_isDone_5 (by decide +kernel) rfl ?_
    refine hz_callV (k := 1) (As := [.int (4 : Int32)]) (st := []) (S1 := fun r => .int r :: []) (n := 9) hC (c_X9_fail l (4 : Int32)   M) kv_X9_fail wd_6_190 hI dX9_isDone_6 rfl (hI 0 (by decide)) he_X9 rfl rfl rfl (Nat.le_of_ble_eq_true rfl) ⟨Nat.le_of_ble_eq_true rfl, Nat.le_of_ble_eq_true rfl⟩ ⟨Nat.zero_le _, Nat.zero_le _⟩ (fun _ => rfl) rfl (fun r1 M1 _ => ?_)
    refine hz_if_eq (tgt := 16) (n := 12) hC dX9_isDone_9 (by decide) rfl (fun _ => ?_) (fun _ => ?_)
    · refine hz_iconst (v := (0 : Int32)) (n := 17) hC dX9_isDone_16 (by decide +kernel) rfl ?_
      exact hz_zret hC hr nz_0 dX9_isDone_17
    · refine hz_iconst (v := (1 : Int32)) (n := 13) hC dX9_isDone_12 (by decide +kernel) rfl ?_
      refine hz_goto (n := 17) hC dX9_isDone_13 (by decide) ?_
      exact hz_zret hC hr nz_1 dX9_isDone_17
def F_X9_leastOf (a0 : Int32) (M : hp_M) : Option (Int32 × hp_M) := (if a0 = (1 : Int32) then (some ((1 : Int32), M)) else (if a0 = (4 : Int32) then (some ((1 : Int32), M)) else (some ((0 : Int32), M))))
set_option maxRecDepth 20000 in
set_option maxHeartbeats 4000000 in
theorem c_X9_leastOf (l : Launch) (a0 : Int32)  (M : hp_M) : hp_Ct l yX9_leastOf cX9_leastOf 1 (some .int) 0 hp_IR (fun adr adV => [.int a0]) hp_oi M (F_X9_leastOf a0 M) := by
  refine hp_start "HallPhoneModel" (fun adr adV => [(0, .int a0)]) (by decide) rfl (fun _ _ => by simp only [lg_sl]; exact Nat.le_of_ble_eq_true rfl) (fun _ _ => rfl) ?_
  intro p e s m args below meth c A D ids adr adV cA rep G0 hI hC hr
  unfold F_X9_leastOf
  refine hz_iload_n (a := 0) (n := 1) hC dX9_leastOf_0 rfl rfl rfl ?_
  refine hz_iconst (v := (1 : Int32)) (n := 2) hC dX9_leastOf_1 (by decide +kernel) rfl ?_
  refine hz_icmp_eq (tgt := 10) (n := 5) hC dX9_leastOf_2 (by decide) rfl (fun _ => ?_) (fun _ => ?_)
  · refine hz_iconst (v := (1 : Int32)) (n := 11) hC dX9_leastOf_10 (by decide +kernel) rfl ?_
    refine hz_goto (n := 15) hC dX9_leastOf_11 (by decide) ?_
    exact hz_iret hC hr dX9_leastOf_15
  · refine hz_iload_n (a := 0) (n := 6) hC dX9_leastOf_5 rfl rfl rfl ?_
    refine hz_iconst (v := (4 : Int32)) (n := 7) hC dX9_leastOf_6 (by decide +kernel) rfl ?_
    refine hz_icmp_ne (tgt := 14) (n := 10) hC dX9_leastOf_7 (by decide) rfl (fun _ => ?_) (fun _ => ?_)
    · refine hz_iconst (v := (1 : Int32)) (n := 11) hC dX9_leastOf_10 (by decide +kernel) rfl ?_
      refine hz_goto (n := 15) hC dX9_leastOf_11 (by decide) ?_
      exact hz_iret hC hr dX9_leastOf_15
    · refine hz_iconst (v := (0 : Int32)) (n := 15) hC dX9_leastOf_14 (by decide +kernel) rfl ?_
      exact hz_iret hC hr dX9_leastOf_15
def F_X9_mostOf (a0 : Int32) (M : hp_M) : Option (Int32 × hp_M) := (if a0 = (0 : Int32) then (some ((60 : Int32), M)) else (if a0 = (1 : Int32) then (some ((30 : Int32), M)) else (if a0 = (2 : Int32) then (some ((99 : Int32), M)) else (if a0 = (3 : Int32) then (some ((9 : Int32), M)) else (if a0 = (4 : Int32) then (some ((99 : Int32), M)) else (some ((20 : Int32), M)))))))
set_option maxRecDepth 20000 in
set_option maxHeartbeats 4000000 in
theorem c_X9_mostOf (l : Launch) (a0 : Int32)  (M : hp_M) : hp_Ct l yX9_mostOf cX9_mostOf 1 (some .int) 0 hp_IR (fun adr adV => [.int a0]) hp_oi M (F_X9_mostOf a0 M) := by
  refine hp_start "HallPhoneModel" (fun adr adV => [(0, .int a0)]) (by decide) rfl (fun _ _ => by simp only [lg_sl]; exact Nat.le_of_ble_eq_true rfl) (fun _ _ => rfl) ?_
  intro p e s m args below meth c A D ids adr adV cA rep G0 hI hC hr
  unfold F_X9_mostOf
  refine hz_iload_n (a := 0) (n := 1) hC dX9_mostOf_0 rfl rfl rfl ?_
  refine hz_case (fun hk0 => ?_) (fun hk0 => ?_)
  · refine hz_tabIn (n := 36) hC hk0 dX9_mostOf_1 (by decide +kernel) (by decide +kernel) (by rfl) (by decide +kernel) ?_
    refine hz_bipush (v := (60 : Int32)) (n := 38) hC dX9_mostOf_36 (by decide +kernel) rfl ?_
    exact hz_iret hC hr dX9_mostOf_38
  refine hz_case (fun hk1 => ?_) (fun hk1 => ?_)
  · refine hz_tabIn (n := 39) hC hk1 dX9_mostOf_1 (by decide +kernel) (by decide +kernel) (by rfl) (by decide +kernel) ?_
    refine hz_bipush (v := (30 : Int32)) (n := 41) hC dX9_mostOf_39 (by decide +kernel) rfl ?_
    exact hz_iret hC hr dX9_mostOf_41
  refine hz_case (fun hk2 => ?_) (fun hk2 => ?_)
  · refine hz_tabIn (n := 42) hC hk2 dX9_mostOf_1 (by decide +kernel) (by decide +kernel) (by rfl) (by decide +kernel) ?_
    refine hz_bipush (v := (99 : Int32)) (n := 44) hC dX9_mostOf_42 (by decide +kernel) rfl ?_
    exact hz_iret hC hr dX9_mostOf_44
  refine hz_case (fun hk3 => ?_) (fun hk3 => ?_)
  · refine hz_tabIn (n := 45) hC hk3 dX9_mostOf_1 (by decide +kernel) (by decide +kernel) (by rfl) (by decide +kernel) ?_
    refine hz_bipush (v := (9 : Int32)) (n := 47) hC dX9_mostOf_45 (by decide +kernel) rfl ?_
    exact hz_iret hC hr dX9_mostOf_47
  refine hz_case (fun hk4 => ?_) (fun hk4 => ?_)
  · refine hz_tabIn (n := 48) hC hk4 dX9_mostOf_1 (by decide +kernel) (by decide +kernel) (by rfl) (by decide +kernel) ?_
    refine hz_bipush (v := (99 : Int32)) (n := 50) hC dX9_mostOf_48 (by decide +kernel) rfl ?_
    exact hz_iret hC hr dX9_mostOf_50
  refine hz_tabOut (n := 51) hC (hp_out 5 (by decide) (fun k hk => by
    rcases (show k = 0 ∨ k = 1 ∨ k = 2 ∨ k = 3 ∨ k = 4 by omega) with rfl | rfl | rfl | rfl | rfl
    · exact fun e => hk0 (Int32.toInt_inj.mp (e.trans (by decide +kernel)))
    · exact fun e => hk1 (Int32.toInt_inj.mp (e.trans (by decide +kernel)))
    · exact fun e => hk2 (Int32.toInt_inj.mp (e.trans (by decide +kernel)))
    · exact fun e => hk3 (Int32.toInt_inj.mp (e.trans (by decide +kernel)))
    · exact fun e => hk4 (Int32.toInt_inj.mp (e.trans (by decide +kernel)))
    )) dX9_mostOf_1 (by decide +kernel) ?_
  refine hz_bipush (v := (20 : Int32)) (n := 53) hC dX9_mostOf_51 (by decide +kernel) rfl ?_
  exact hz_iret hC hr dX9_mostOf_53
def F_X9_readsSetting (a0 : Int32) (M : hp_M) : Option (Int32 × hp_M) := (hp_b (F_X9_next M) (fun _ M1 => (hp_b (F_X9_leastOf a0 M1) (fun r2 M2 => (hp_b (F_X9_mostOf a0 M2) (fun r3 M3 => (hp_b (F_X9_number (0 : Int32) r2 r3 M3) (fun r4 M4 => (if r4 = 0 then (some ((0 : Int32), M4)) else (if ((7 : Int32) + a0) < 0 ∨ 242 ≤ (((7 : Int32) + a0)).toNatClampNeg then none else (some ((1 : Int32), (hp_p M4 13 1 (((7 : Int32) + a0)).toNatClampNeg (M4 13 9 0))))))))))))))
set_option maxRecDepth 20000 in
set_option maxHeartbeats 4000000 in
theorem c_X9_readsSetting (l : Launch) (a0 : Int32)  (M : hp_M) : hp_Ct l yX9_readsSetting cX9_readsSetting 2 (some .boolean) 3 hp_IR (fun adr adV => [.ref (adr 13 0), .int a0]) hp_oi M (F_X9_readsSetting a0 M) := by
  refine hp_start "HallPhoneModel" (fun adr adV => [(0, .ref (adr 13 0)), (1, .int a0)]) (by decide) rfl (fun _ _ => by simp only [lg_sl]; exact Nat.le_of_ble_eq_true rfl) (fun _ _ => rfl) ?_
  intro p e s m args below meth c A D ids adr adV cA rep G0 hI hC hr
  unfold F_X9_readsSetting
  refine hz_aload_n (a := 0) (n := 1) hC dX9_readsSetting_0 rfl rfl rfl ?_
  refine hz_callV (k := 0) (As := []) (st := []) (S1 := fun _ => []) (n := 4) hC (c_X9_next l    M) kv_X9_next wd_6_170 hI dX9_readsSetting_1 rfl (hI 0 (by decide)) he_X9 rfl rfl rfl (Nat.le_of_ble_eq_true rfl) ⟨Nat.le_of_ble_eq_true rfl, Nat.le_of_ble_eq_true rfl⟩ ⟨Nat.zero_le _, Nat.zero_le _⟩ (fun _ => rfl) rfl (fun r1 M1 _ => ?_)
  refine hz_aload_n (a := 0) (n := 5) hC dX9_readsSetting_4 rfl rfl rfl ?_
  refine hz_iconst (v := (0 : Int32)) (n := 6) hC dX9_readsSetting_5 (by decide +kernel) rfl ?_
  refine hz_iload_n (a := 1) (n := 7) hC dX9_readsSetting_6 rfl rfl rfl ?_
  refine hz_callS (k := 1) (As := [.int a0]) (st := [.int (0 : Int32), .ref (adr 13 0)]) (S1 := fun r => .int r :: [.int (0 : Int32), .ref (adr 13 0)]) (n := 10) hC (c_X9_leastOf l a0   M1) ks_X9_leastOf wd_6_224 hI dX9_readsSetting_7 rfl rfl rfl (Nat.le_of_ble_eq_true rfl) ⟨Nat.le_of_ble_eq_true rfl, Nat.le_of_ble_eq_true rfl⟩ ⟨Nat.zero_le _, Nat.zero_le _⟩ (fun _ => rfl) rfl (fun r2 M2 _ => ?_)
  refine hz_iload_n (a := 1) (n := 11) hC dX9_readsSetting_10 rfl rfl rfl ?_
  refine hz_callS (k := 1) (As := [.int a0]) (st := [.int r2, .int (0 : Int32), .ref (adr 13 0)]) (S1 := fun r => .int r :: [.int r2, .int (0 : Int32), .ref (adr 13 0)]) (n := 14) hC (c_X9_mostOf l a0   M2) ks_X9_mostOf wd_6_227 hI dX9_readsSetting_11 rfl rfl rfl (Nat.le_of_ble_eq_true rfl) ⟨Nat.le_of_ble_eq_true rfl, Nat.le_of_ble_eq_true rfl⟩ ⟨Nat.zero_le _, Nat.zero_le _⟩ (fun _ => rfl) rfl (fun r3 M3 _ => ?_)
  refine hz_callV (k := 3) (As := [.int (0 : Int32), .int r2, .int r3]) (st := []) (S1 := fun r => .int r :: []) (n := 17) hC (c_X9_number l (0 : Int32) r2 r3   M3) kv_X9_number wd_6_230 hI dX9_readsSetting_14 rfl (hI 0 (by decide)) he_X9 rfl rfl rfl (Nat.le_of_ble_eq_true rfl) ⟨Nat.le_of_ble_eq_true rfl, Nat.le_of_ble_eq_true rfl⟩ ⟨Nat.zero_le _, Nat.zero_le _⟩ (fun _ => rfl) rfl (fun r4 M4 _ => ?_)
  refine hz_if_ne (tgt := 22) (n := 20) hC dX9_readsSetting_17 (by decide) rfl (fun _ => ?_) (fun _ => ?_)
  · refine hz_iconst (v := (0 : Int32)) (n := 21) hC dX9_readsSetting_20 (by decide +kernel) rfl ?_
    exact hz_zret hC hr nz_0 dX9_readsSetting_21
  · refine hz_aload_n (a := 0) (n := 23) hC dX9_readsSetting_22 rfl rfl rfl ?_
    refine fg_X9_7 (n := 26) hC hI dX9_readsSetting_23 rfl ?_
    refine hz_bipush (v := (7 : Int32)) (n := 28) hC dX9_readsSetting_26 (by decide +kernel) rfl ?_
    refine hz_iload_n (a := 1) (n := 29) hC dX9_readsSetting_28 rfl rfl rfl ?_
    refine hz_iadd (n := 30) hC dX9_readsSetting_29 rfl ?_
    refine hz_aload_n (a := 0) (n := 31) hC dX9_readsSetting_30 rfl rfl rfl ?_
    refine fg_X9_35 (n := 34) hC hI dX9_readsSetting_31 rfl ?_
    refine hz_iconst (v := (0 : Int32)) (n := 35) hC dX9_readsSetting_34 (by decide +kernel) rfl ?_
    refine hz_ialdc (k := 0) (n := 36) hC (by decide +kernel) (by decide) dX9_readsSetting_35 (hI 9 (by decide)) ha_m9 rfl ?_
    refine hz_iast (n := 37) hC dX9_readsSetting_36 (hI 1 (by decide)) ha_m1 rfl (fun _ => ?_)
    refine hz_iconst (v := (1 : Int32)) (n := 38) hC dX9_readsSetting_37 (by decide +kernel) rfl ?_
    exact hz_zret hC hr nz_1 dX9_readsSetting_38
def L_X9_type_3 (a0 : Int32)   : Nat → Int32 → hp_M → Option (Unit × hp_M)
  | 0, _, _ => none
  | n3 + 1, x2, M => (if x2 < 0 then (some ((), M)) else (if (M 13 0 9) < 0 ∨ 700 ≤ ((M 13 0 9)).toNatClampNeg then none else (L_X9_type_3 a0 n3 (x2 + (-8 : Int32)) (hp_p (hp_p M 13 6 ((M 13 0 9)).toNatClampNeg ((a0 >>> (x2 &&& 31)) &&& (255 : Int32))) 13 0 9 (((hp_p M 13 6 ((M 13 0 9)).toNatClampNeg ((a0 >>> (x2 &&& 31)) &&& (255 : Int32))) 13 0 9) + (1 : Int32))))))
def F_X9_type (a0 : Int32) (M : hp_M) : Option (Unit × hp_M) := (L_X9_type_3 a0 hp_fu (24 : Int32) M)
set_option maxRecDepth 20000 in
set_option maxHeartbeats 4000000 in
theorem c_X9_type (l : Launch) (a0 : Int32)  (M : hp_M) : hp_Ct l yX9_type cX9_type 3 none 0 hp_IR (fun adr adV => [.ref (adr 13 0), .int a0]) hp_oo M (F_X9_type a0 M) := by
  refine hp_start "HallPhoneModel" (fun adr adV => [(0, .ref (adr 13 0)), (1, .int a0)]) (by decide) rfl (fun _ _ => by simp only [lg_sl]; exact Nat.le_of_ble_eq_true rfl) (fun _ _ => rfl) ?_
  intro p e s m args below meth c A D ids adr adV cA rep G0 hI hC hr
  unfold F_X9_type
  have l3 : ∀  (n3 : Nat) (x2 : Int32) (M : hp_M), hp_Z p l e (hp_rm 0) s m args below meth c 3 A D ids adr adV cA 0 0 (MQ below (hp_Q A D ids adr adV cA rep hp_oo G0) args s 0 0 A) G0 rep 3 [(0, .ref (adr 13 0)), (1, .int a0), (2, .int x2)] [] M (L_X9_type_3 a0 n3 x2 M) := by
    intro  n3
    induction n3 with
    | zero => intro x2 M; exact hz_none hC
    | succ n3 ih3 =>
      intro x2 M
      rw [L_X9_type_3.eq_2]
      refine hz_iload_n (a := 2) (n := 4) hC dX9_type_3 rfl rfl rfl ?_
      refine hz_if_lt (tgt := 39) (n := 7) hC dX9_type_4 (by decide) rfl (fun _ => ?_) (fun _ => ?_)
      · exact hz_vret hC hr dX9_type_39
      · refine hz_aload_n (a := 0) (n := 8) hC dX9_type_7 rfl rfl rfl ?_
        refine fg_X9_25 (n := 11) hC hI dX9_type_8 rfl ?_
        refine hz_aload_n (a := 0) (n := 12) hC dX9_type_11 rfl rfl rfl ?_
        refine fg_X9_256 (n := 15) hC hI dX9_type_12 rfl ?_
        refine hz_iload_n (a := 1) (n := 16) hC dX9_type_15 rfl rfl rfl ?_
        refine hz_iload_n (a := 2) (n := 17) hC dX9_type_16 rfl rfl rfl ?_
        refine hz_ishr (n := 18) hC dX9_type_17 rfl ?_
        refine hz_sipush (v := (255 : Int32)) (n := 21) hC dX9_type_18 (by decide +kernel) rfl ?_
        refine hz_iand (n := 22) hC dX9_type_21 rfl ?_
        refine hz_iast (n := 23) hC dX9_type_22 (hI 6 (by decide)) ha_m6 rfl (fun _ => ?_)
        refine hz_aload_n (a := 0) (n := 24) hC dX9_type_23 rfl rfl rfl ?_
        refine hz_dup (n := 25) hC dX9_type_24 rfl rfl ?_
        refine fg_X9_256 (n := 28) hC hI dX9_type_25 rfl ?_
        refine hz_iconst (v := (1 : Int32)) (n := 29) hC dX9_type_28 (by decide +kernel) rfl ?_
        refine hz_iadd (n := 30) hC dX9_type_29 rfl ?_
        refine fp_X9_256 (n := 33) hC hI (((hp_p M 13 6 ((M 13 0 9)).toNatClampNeg ((a0 >>> (x2 &&& 31)) &&& (255 : Int32))) 13 0 9) + (1 : Int32)) dX9_type_30 rfl ?_
        refine hz_iinc (a := 2) (v := (x2 + (-8 : Int32))) (L' := [(2, .int (x2 + (-8 : Int32))), (0, .ref (adr 13 0)), (1, .int a0)]) (n := 36) hC dX9_type_33 rfl rfl (by decide) rfl rfl ?_
        refine hz_goto (n := 3) hC dX9_type_36 (by decide) ?_
        refine hz_L (L' := [(0, .ref (adr 13 0)), (1, .int a0), (2, .int (x2 + (-8 : Int32)))]) [1, 2, 0] rfl ?_
        exact ih3 _ _
  refine hz_bipush (v := (24 : Int32)) (n := 2) hC dX9_type_0 (by decide +kernel) rfl ?_
  refine hz_istore_n (L' := [(2, .int (24 : Int32)), (0, .ref (adr 13 0)), (1, .int a0)]) (n := 3) hC dX9_type_2 rfl (by decide) rfl rfl ?_
  refine hz_L (L' := [(0, .ref (adr 13 0)), (1, .int a0), (2, .int (24 : Int32))]) [1, 2, 0] rfl ?_
  exact l3 hp_fu _ _
def F_X9_append (a0 : Int32) (a1 : Int32) (a2 : Int32) (a3 : Int32) (a4 : Int32) (M : hp_M) : Option (Int32 × hp_M) := (if (((hp_p M 13 0 13 (0 : Int32)) 13 0 9) + (20 : Int32)) ≤ (700 : Int32) then (hp_b (F_X9_type a0 (hp_p M 13 0 13 (0 : Int32))) (fun _ M1 => (hp_b (F_X9_type a1 M1) (fun _ M2 => (hp_b (F_X9_type a2 M2) (fun _ M3 => (hp_b (F_X9_type a3 M3) (fun _ M4 => (hp_b (F_X9_type a4 M4) (fun _ M5 => (some ((M5 13 0 9), M5)))))))))))) else (some ((-1 : Int32), (hp_p M 13 0 13 (0 : Int32)))))
set_option maxRecDepth 20000 in
set_option maxHeartbeats 4000000 in
theorem c_X9_append (l : Launch) (a0 : Int32) (a1 : Int32) (a2 : Int32) (a3 : Int32) (a4 : Int32)  (M : hp_M) : hp_Ct l yX9_append cX9_append 6 (some .int) 1 hp_IR (fun adr adV => [.ref (adr 13 0), .int a0, .int a1, .int a2, .int a3, .int a4]) hp_oi M (F_X9_append a0 a1 a2 a3 a4 M) := by
  refine hp_start "HallPhoneModel" (fun adr adV => [(0, .ref (adr 13 0)), (1, .int a0), (2, .int a1), (3, .int a2), (4, .int a3), (5, .int a4)]) (by decide) rfl (fun _ _ => by simp only [lg_sl]; exact Nat.le_of_ble_eq_true rfl) (fun _ _ => rfl) ?_
  intro p e s m args below meth c A D ids adr adV cA rep G0 hI hC hr
  unfold F_X9_append
  refine hz_aload_n (a := 0) (n := 1) hC dX9_append_0 rfl rfl rfl ?_
  refine hz_iconst (v := (0 : Int32)) (n := 2) hC dX9_append_1 (by decide +kernel) rfl ?_
  refine fp_X9_42 (n := 5) hC hI (0 : Int32) dX9_append_2 rfl ?_
  refine hz_aload_n (a := 0) (n := 6) hC dX9_append_5 rfl rfl rfl ?_
  refine fg_X9_256 (n := 9) hC hI dX9_append_6 rfl ?_
  refine hz_bipush (v := (20 : Int32)) (n := 11) hC dX9_append_9 (by decide +kernel) rfl ?_
  refine hz_iadd (n := 12) hC dX9_append_11 rfl ?_
  refine hz_sipush (v := (700 : Int32)) (n := 15) hC dX9_append_12 (by decide +kernel) rfl ?_
  refine hz_icmp_le (tgt := 20) (n := 18) hC dX9_append_15 (by decide) rfl (fun _ => ?_) (fun _ => ?_)
  · refine hz_aload_n (a := 0) (n := 21) hC dX9_append_20 rfl rfl rfl ?_
    refine hz_iload_n (a := 1) (n := 22) hC dX9_append_21 rfl rfl rfl ?_
    refine hz_callV (k := 1) (As := [.int a0]) (st := []) (S1 := fun _ => []) (n := 25) hC (c_X9_type l a0   (hp_p M 13 0 13 (0 : Int32))) kv_X9_type wd_7_173 hI dX9_append_22 rfl (hI 0 (by decide)) he_X9 rfl rfl rfl (Nat.le_of_ble_eq_true rfl) ⟨Nat.le_of_ble_eq_true rfl, Nat.le_of_ble_eq_true rfl⟩ ⟨Nat.zero_le _, Nat.zero_le _⟩ (fun _ => rfl) rfl (fun r1 M1 _ => ?_)
    refine hz_aload_n (a := 0) (n := 26) hC dX9_append_25 rfl rfl rfl ?_
    refine hz_iload_n (a := 2) (n := 27) hC dX9_append_26 rfl rfl rfl ?_
    refine hz_callV (k := 1) (As := [.int a1]) (st := []) (S1 := fun _ => []) (n := 30) hC (c_X9_type l a1   M1) kv_X9_type wd_7_173 hI dX9_append_27 rfl (hI 0 (by decide)) he_X9 rfl rfl rfl (Nat.le_of_ble_eq_true rfl) ⟨Nat.le_of_ble_eq_true rfl, Nat.le_of_ble_eq_true rfl⟩ ⟨Nat.zero_le _, Nat.zero_le _⟩ (fun _ => rfl) rfl (fun r2 M2 _ => ?_)
    refine hz_aload_n (a := 0) (n := 31) hC dX9_append_30 rfl rfl rfl ?_
    refine hz_iload_n (a := 3) (n := 32) hC dX9_append_31 rfl rfl rfl ?_
    refine hz_callV (k := 1) (As := [.int a2]) (st := []) (S1 := fun _ => []) (n := 35) hC (c_X9_type l a2   M2) kv_X9_type wd_7_173 hI dX9_append_32 rfl (hI 0 (by decide)) he_X9 rfl rfl rfl (Nat.le_of_ble_eq_true rfl) ⟨Nat.le_of_ble_eq_true rfl, Nat.le_of_ble_eq_true rfl⟩ ⟨Nat.zero_le _, Nat.zero_le _⟩ (fun _ => rfl) rfl (fun r3 M3 _ => ?_)
    refine hz_aload_n (a := 0) (n := 36) hC dX9_append_35 rfl rfl rfl ?_
    refine hz_iload (a := 4) (n := 38) hC dX9_append_36 rfl rfl ?_
    refine hz_callV (k := 1) (As := [.int a3]) (st := []) (S1 := fun _ => []) (n := 41) hC (c_X9_type l a3   M3) kv_X9_type wd_7_173 hI dX9_append_38 rfl (hI 0 (by decide)) he_X9 rfl rfl rfl (Nat.le_of_ble_eq_true rfl) ⟨Nat.le_of_ble_eq_true rfl, Nat.le_of_ble_eq_true rfl⟩ ⟨Nat.zero_le _, Nat.zero_le _⟩ (fun _ => rfl) rfl (fun r4 M4 _ => ?_)
    refine hz_aload_n (a := 0) (n := 42) hC dX9_append_41 rfl rfl rfl ?_
    refine hz_iload (a := 5) (n := 44) hC dX9_append_42 rfl rfl ?_
    refine hz_callV (k := 1) (As := [.int a4]) (st := []) (S1 := fun _ => []) (n := 47) hC (c_X9_type l a4   M4) kv_X9_type wd_7_173 hI dX9_append_44 rfl (hI 0 (by decide)) he_X9 rfl rfl rfl (Nat.le_of_ble_eq_true rfl) ⟨Nat.le_of_ble_eq_true rfl, Nat.le_of_ble_eq_true rfl⟩ ⟨Nat.zero_le _, Nat.zero_le _⟩ (fun _ => rfl) rfl (fun r5 M5 _ => ?_)
    refine hz_aload_n (a := 0) (n := 48) hC dX9_append_47 rfl rfl rfl ?_
    refine fg_X9_256 (n := 51) hC hI dX9_append_48 rfl ?_
    exact hz_iret hC hr dX9_append_51
  · refine hz_iconst (v := (-1 : Int32)) (n := 19) hC dX9_append_18 (by decide +kernel) rfl ?_
    exact hz_iret hC hr dX9_append_19
def F_X9_sizeOf (a0 : Int32) (M : hp_M) : Option (Int32 × hp_M) := (if a0 = (0 : Int32) then (some ((M 13 1 0), M)) else (if a0 = (1 : Int32) then (some ((M 13 1 1), M)) else (if a0 = (2 : Int32) then (some ((M 13 1 2), M)) else (if a0 = (3 : Int32) then (if (M 13 1 2) = 0 then (some ((-1 : Int32), M)) else (some ((M 13 1 3), M))) else (if a0 = (4 : Int32) then (some ((M 13 1 4), M)) else (if a0 = (5 : Int32) then (if (M 13 1 2) = (2 : Int32) then (some ((M 13 1 5), M)) else (some ((0 : Int32), M))) else (if a0 = (6 : Int32) then (some ((M 13 1 6), M)) else (if a0 = (7 : Int32) then (some ((M 13 1 30), M)) else (if a0 = (8 : Int32) then (hp_b (F_X9_manyWho (1 : Int32) M) (fun r1 M1 => (some (r1, M1)))) else (if a0 = (9 : Int32) then (some ((M 13 1 13), M)) else (if a0 = (10 : Int32) then (hp_b (F_X9_debts M) (fun r2 M2 => (some (r2, M2)))) else (if a0 = (11 : Int32) then (some ((M 13 0 5), M)) else (if a0 = (12 : Int32) then (some ((M 13 0 9), M)) else (some ((M 13 0 12), M)))))))))))))))
set_option maxRecDepth 20000 in
set_option maxHeartbeats 4000000 in
theorem c_X9_sizeOf (l : Launch) (a0 : Int32)  (M : hp_M) : hp_Ct l yX9_sizeOf cX9_sizeOf 2 (some .int) 2 hp_IR (fun adr adV => [.ref (adr 13 0), .int a0]) hp_oi M (F_X9_sizeOf a0 M) := by
  refine hp_start "HallPhoneModel" (fun adr adV => [(0, .ref (adr 13 0)), (1, .int a0)]) (by decide) rfl (fun _ _ => by simp only [lg_sl]; exact Nat.le_of_ble_eq_true rfl) (fun _ _ => rfl) ?_
  intro p e s m args below meth c A D ids adr adV cA rep G0 hI hC hr
  unfold F_X9_sizeOf
  refine hz_iload_n (a := 1) (n := 1) hC dX9_sizeOf_0 rfl rfl rfl ?_
  refine hz_case (fun hk0 => ?_) (fun hk0 => ?_)
  · refine hz_tabIn (n := 68) hC hk0 dX9_sizeOf_1 (by decide +kernel) (by decide +kernel) (by rfl) (by decide +kernel) ?_
    refine hz_aload_n (a := 0) (n := 69) hC dX9_sizeOf_68 rfl rfl rfl ?_
    refine fg_X9_7 (n := 72) hC hI dX9_sizeOf_69 rfl ?_
    refine hz_iconst (v := (0 : Int32)) (n := 73) hC dX9_sizeOf_72 (by decide +kernel) rfl ?_
    refine hz_ialdc (k := 0) (n := 74) hC (by decide +kernel) (by decide) dX9_sizeOf_73 (hI 1 (by decide)) ha_m1 rfl ?_
    exact hz_iret hC hr dX9_sizeOf_74
  refine hz_case (fun hk1 => ?_) (fun hk1 => ?_)
  · refine hz_tabIn (n := 75) hC hk1 dX9_sizeOf_1 (by decide +kernel) (by decide +kernel) (by rfl) (by decide +kernel) ?_
    refine hz_aload_n (a := 0) (n := 76) hC dX9_sizeOf_75 rfl rfl rfl ?_
    refine fg_X9_7 (n := 79) hC hI dX9_sizeOf_76 rfl ?_
    refine hz_iconst (v := (1 : Int32)) (n := 80) hC dX9_sizeOf_79 (by decide +kernel) rfl ?_
    refine hz_ialdc (k := 1) (n := 81) hC (by decide +kernel) (by decide) dX9_sizeOf_80 (hI 1 (by decide)) ha_m1 rfl ?_
    exact hz_iret hC hr dX9_sizeOf_81
  refine hz_case (fun hk2 => ?_) (fun hk2 => ?_)
  · refine hz_tabIn (n := 82) hC hk2 dX9_sizeOf_1 (by decide +kernel) (by decide +kernel) (by rfl) (by decide +kernel) ?_
    refine hz_aload_n (a := 0) (n := 83) hC dX9_sizeOf_82 rfl rfl rfl ?_
    refine fg_X9_7 (n := 86) hC hI dX9_sizeOf_83 rfl ?_
    refine hz_iconst (v := (2 : Int32)) (n := 87) hC dX9_sizeOf_86 (by decide +kernel) rfl ?_
    refine hz_ialdc (k := 2) (n := 88) hC (by decide +kernel) (by decide) dX9_sizeOf_87 (hI 1 (by decide)) ha_m1 rfl ?_
    exact hz_iret hC hr dX9_sizeOf_88
  refine hz_case (fun hk3 => ?_) (fun hk3 => ?_)
  · refine hz_tabIn (n := 89) hC hk3 dX9_sizeOf_1 (by decide +kernel) (by decide +kernel) (by rfl) (by decide +kernel) ?_
    refine hz_aload_n (a := 0) (n := 90) hC dX9_sizeOf_89 rfl rfl rfl ?_
    refine fg_X9_7 (n := 93) hC hI dX9_sizeOf_90 rfl ?_
    refine hz_iconst (v := (2 : Int32)) (n := 94) hC dX9_sizeOf_93 (by decide +kernel) rfl ?_
    refine hz_ialdc (k := 2) (n := 95) hC (by decide +kernel) (by decide) dX9_sizeOf_94 (hI 1 (by decide)) ha_m1 rfl ?_
    refine hz_if_ne (tgt := 102) (n := 98) hC dX9_sizeOf_95 (by decide) rfl (fun _ => ?_) (fun _ => ?_)
    · refine hz_iconst (v := (-1 : Int32)) (n := 99) hC dX9_sizeOf_98 (by decide +kernel) rfl ?_
      refine hz_goto (n := 108) hC dX9_sizeOf_99 (by decide) ?_
      exact hz_iret hC hr dX9_sizeOf_108
    · refine hz_aload_n (a := 0) (n := 103) hC dX9_sizeOf_102 rfl rfl rfl ?_
      refine fg_X9_7 (n := 106) hC hI dX9_sizeOf_103 rfl ?_
      refine hz_iconst (v := (3 : Int32)) (n := 107) hC dX9_sizeOf_106 (by decide +kernel) rfl ?_
      refine hz_ialdc (k := 3) (n := 108) hC (by decide +kernel) (by decide) dX9_sizeOf_107 (hI 1 (by decide)) ha_m1 rfl ?_
      exact hz_iret hC hr dX9_sizeOf_108
  refine hz_case (fun hk4 => ?_) (fun hk4 => ?_)
  · refine hz_tabIn (n := 109) hC hk4 dX9_sizeOf_1 (by decide +kernel) (by decide +kernel) (by rfl) (by decide +kernel) ?_
    refine hz_aload_n (a := 0) (n := 110) hC dX9_sizeOf_109 rfl rfl rfl ?_
    refine fg_X9_7 (n := 113) hC hI dX9_sizeOf_110 rfl ?_
    refine hz_iconst (v := (4 : Int32)) (n := 114) hC dX9_sizeOf_113 (by decide +kernel) rfl ?_
    refine hz_ialdc (k := 4) (n := 115) hC (by decide +kernel) (by decide) dX9_sizeOf_114 (hI 1 (by decide)) ha_m1 rfl ?_
    exact hz_iret hC hr dX9_sizeOf_115
  refine hz_case (fun hk5 => ?_) (fun hk5 => ?_)
  · refine hz_tabIn (n := 116) hC hk5 dX9_sizeOf_1 (by decide +kernel) (by decide +kernel) (by rfl) (by decide +kernel) ?_
    refine hz_aload_n (a := 0) (n := 117) hC dX9_sizeOf_116 rfl rfl rfl ?_
    refine fg_X9_7 (n := 120) hC hI dX9_sizeOf_117 rfl ?_
    refine hz_iconst (v := (2 : Int32)) (n := 121) hC dX9_sizeOf_120 (by decide +kernel) rfl ?_
    refine hz_ialdc (k := 2) (n := 122) hC (by decide +kernel) (by decide) dX9_sizeOf_121 (hI 1 (by decide)) ha_m1 rfl ?_
    refine hz_iconst (v := (2 : Int32)) (n := 123) hC dX9_sizeOf_122 (by decide +kernel) rfl ?_
    refine hz_icmp_ne (tgt := 135) (n := 126) hC dX9_sizeOf_123 (by decide) rfl (fun _ => ?_) (fun _ => ?_)
    · refine hz_aload_n (a := 0) (n := 127) hC dX9_sizeOf_126 rfl rfl rfl ?_
      refine fg_X9_7 (n := 130) hC hI dX9_sizeOf_127 rfl ?_
      refine hz_iconst (v := (5 : Int32)) (n := 131) hC dX9_sizeOf_130 (by decide +kernel) rfl ?_
      refine hz_ialdc (k := 5) (n := 132) hC (by decide +kernel) (by decide) dX9_sizeOf_131 (hI 1 (by decide)) ha_m1 rfl ?_
      refine hz_goto (n := 136) hC dX9_sizeOf_132 (by decide) ?_
      exact hz_iret hC hr dX9_sizeOf_136
    · refine hz_iconst (v := (0 : Int32)) (n := 136) hC dX9_sizeOf_135 (by decide +kernel) rfl ?_
      exact hz_iret hC hr dX9_sizeOf_136
  refine hz_case (fun hk6 => ?_) (fun hk6 => ?_)
  · refine hz_tabIn (n := 137) hC hk6 dX9_sizeOf_1 (by decide +kernel) (by decide +kernel) (by rfl) (by decide +kernel) ?_
    refine hz_aload_n (a := 0) (n := 138) hC dX9_sizeOf_137 rfl rfl rfl ?_
    refine fg_X9_7 (n := 141) hC hI dX9_sizeOf_138 rfl ?_
    refine hz_bipush (v := (6 : Int32)) (n := 143) hC dX9_sizeOf_141 (by decide +kernel) rfl ?_
    refine hz_ialdc (k := 6) (n := 144) hC (by decide +kernel) (by decide) dX9_sizeOf_143 (hI 1 (by decide)) ha_m1 rfl ?_
    exact hz_iret hC hr dX9_sizeOf_144
  refine hz_case (fun hk7 => ?_) (fun hk7 => ?_)
  · refine hz_tabIn (n := 145) hC hk7 dX9_sizeOf_1 (by decide +kernel) (by decide +kernel) (by rfl) (by decide +kernel) ?_
    refine hz_aload_n (a := 0) (n := 146) hC dX9_sizeOf_145 rfl rfl rfl ?_
    refine fg_X9_7 (n := 149) hC hI dX9_sizeOf_146 rfl ?_
    refine hz_bipush (v := (30 : Int32)) (n := 151) hC dX9_sizeOf_149 (by decide +kernel) rfl ?_
    refine hz_ialdc (k := 30) (n := 152) hC (by decide +kernel) (by decide) dX9_sizeOf_151 (hI 1 (by decide)) ha_m1 rfl ?_
    exact hz_iret hC hr dX9_sizeOf_152
  refine hz_case (fun hk8 => ?_) (fun hk8 => ?_)
  · refine hz_tabIn (n := 153) hC hk8 dX9_sizeOf_1 (by decide +kernel) (by decide +kernel) (by rfl) (by decide +kernel) ?_
    refine hz_aload_n (a := 0) (n := 154) hC dX9_sizeOf_153 rfl rfl rfl ?_
    refine hz_iconst (v := (1 : Int32)) (n := 155) hC dX9_sizeOf_154 (by decide +kernel) rfl ?_
    refine hz_callV (k := 1) (As := [.int (1 : Int32)]) (st := []) (S1 := fun r => .int r :: []) (n := 158) hC (c_X9_manyWho l (1 : Int32)   M) kv_X9_manyWho wd_7_197 hI dX9_sizeOf_155 rfl (hI 0 (by decide)) he_X9 rfl rfl rfl (Nat.le_of_ble_eq_true rfl) ⟨Nat.le_of_ble_eq_true rfl, Nat.le_of_ble_eq_true rfl⟩ ⟨Nat.zero_le _, Nat.zero_le _⟩ (fun _ => rfl) rfl (fun r1 M1 _ => ?_)
    exact hz_iret hC hr dX9_sizeOf_158
  refine hz_case (fun hk9 => ?_) (fun hk9 => ?_)
  · refine hz_tabIn (n := 159) hC hk9 dX9_sizeOf_1 (by decide +kernel) (by decide +kernel) (by rfl) (by decide +kernel) ?_
    refine hz_aload_n (a := 0) (n := 160) hC dX9_sizeOf_159 rfl rfl rfl ?_
    refine fg_X9_7 (n := 163) hC hI dX9_sizeOf_160 rfl ?_
    refine hz_bipush (v := (13 : Int32)) (n := 165) hC dX9_sizeOf_163 (by decide +kernel) rfl ?_
    refine hz_ialdc (k := 13) (n := 166) hC (by decide +kernel) (by decide) dX9_sizeOf_165 (hI 1 (by decide)) ha_m1 rfl ?_
    exact hz_iret hC hr dX9_sizeOf_166
  refine hz_case (fun hk10 => ?_) (fun hk10 => ?_)
  · refine hz_tabIn (n := 167) hC hk10 dX9_sizeOf_1 (by decide +kernel) (by decide +kernel) (by rfl) (by decide +kernel) ?_
    refine hz_aload_n (a := 0) (n := 168) hC dX9_sizeOf_167 rfl rfl rfl ?_
    refine hz_callV (k := 0) (As := []) (st := []) (S1 := fun r => .int r :: []) (n := 171) hC (c_X9_debts l    M) kv_X9_debts wd_7_201 hI dX9_sizeOf_168 rfl (hI 0 (by decide)) he_X9 rfl rfl rfl (Nat.le_of_ble_eq_true rfl) ⟨Nat.le_of_ble_eq_true rfl, Nat.le_of_ble_eq_true rfl⟩ ⟨Nat.zero_le _, Nat.zero_le _⟩ (fun _ => rfl) rfl (fun r2 M2 _ => ?_)
    exact hz_iret hC hr dX9_sizeOf_171
  refine hz_case (fun hk11 => ?_) (fun hk11 => ?_)
  · refine hz_tabIn (n := 172) hC hk11 dX9_sizeOf_1 (by decide +kernel) (by decide +kernel) (by rfl) (by decide +kernel) ?_
    refine hz_aload_n (a := 0) (n := 173) hC dX9_sizeOf_172 rfl rfl rfl ?_
    refine fg_X9_250 (n := 176) hC hI dX9_sizeOf_173 rfl ?_
    exact hz_iret hC hr dX9_sizeOf_176
  refine hz_case (fun hk12 => ?_) (fun hk12 => ?_)
  · refine hz_tabIn (n := 177) hC hk12 dX9_sizeOf_1 (by decide +kernel) (by decide +kernel) (by rfl) (by decide +kernel) ?_
    refine hz_aload_n (a := 0) (n := 178) hC dX9_sizeOf_177 rfl rfl rfl ?_
    refine fg_X9_256 (n := 181) hC hI dX9_sizeOf_178 rfl ?_
    exact hz_iret hC hr dX9_sizeOf_181
  refine hz_tabOut (n := 182) hC (hp_out 13 (by decide) (fun k hk => by
    rcases (show k = 0 ∨ k = 1 ∨ k = 2 ∨ k = 3 ∨ k = 4 ∨ k = 5 ∨ k = 6 ∨ k = 7 ∨ k = 8 ∨ k = 9 ∨ k = 10 ∨ k = 11 ∨ k = 12 by omega) with rfl | rfl | rfl | rfl | rfl | rfl | rfl | rfl | rfl | rfl | rfl | rfl | rfl
    · exact fun e => hk0 (Int32.toInt_inj.mp (e.trans (by decide +kernel)))
    · exact fun e => hk1 (Int32.toInt_inj.mp (e.trans (by decide +kernel)))
    · exact fun e => hk2 (Int32.toInt_inj.mp (e.trans (by decide +kernel)))
    · exact fun e => hk3 (Int32.toInt_inj.mp (e.trans (by decide +kernel)))
    · exact fun e => hk4 (Int32.toInt_inj.mp (e.trans (by decide +kernel)))
    · exact fun e => hk5 (Int32.toInt_inj.mp (e.trans (by decide +kernel)))
    · exact fun e => hk6 (Int32.toInt_inj.mp (e.trans (by decide +kernel)))
    · exact fun e => hk7 (Int32.toInt_inj.mp (e.trans (by decide +kernel)))
    · exact fun e => hk8 (Int32.toInt_inj.mp (e.trans (by decide +kernel)))
    · exact fun e => hk9 (Int32.toInt_inj.mp (e.trans (by decide +kernel)))
    · exact fun e => hk10 (Int32.toInt_inj.mp (e.trans (by decide +kernel)))
    · exact fun e => hk11 (Int32.toInt_inj.mp (e.trans (by decide +kernel)))
    · exact fun e => hk12 (Int32.toInt_inj.mp (e.trans (by decide +kernel)))
    )) dX9_sizeOf_1 (by decide +kernel) ?_
  refine hz_aload_n (a := 0) (n := 183) hC dX9_sizeOf_182 rfl rfl rfl ?_
  refine fg_X9_272 (n := 186) hC hI dX9_sizeOf_183 rfl ?_
  exact hz_iret hC hr dX9_sizeOf_186
def F_X9_size (a0 : Int32) (M : hp_M) : Option (Int32 × hp_M) := (hp_b (F_X9_in a0 (0 : Int32) (13 : Int32) M) (fun r1 M1 => (if r1 = 0 then (hp_b (F_X9_throwsOne (1 : Int32) M1) (fun r2 M2 => (if r2 = 0 then (hp_b (F_X9_sizeOf a0 M2) (fun r3 M3 => (some (r3, M3)))) else (some ((0 : Int32), M2))))) else (hp_b (F_X9_throwsOne (0 : Int32) M1) (fun r4 M4 => (if r4 = 0 then (hp_b (F_X9_sizeOf a0 M4) (fun r5 M5 => (some (r5, M5)))) else (some ((0 : Int32), M4))))))))
set_option maxRecDepth 20000 in
set_option maxHeartbeats 4000000 in
theorem c_X9_size (l : Launch) (a0 : Int32)  (M : hp_M) : hp_Ct l yX9_size cX9_size 2 (some .int) 3 hp_IR (fun adr adV => [.ref (adr 13 0), .int a0]) hp_oi M (F_X9_size a0 M) := by
  refine hp_start "HallPhoneModel" (fun adr adV => [(0, .ref (adr 13 0)), (1, .int a0)]) (by decide) rfl (fun _ _ => by simp only [lg_sl]; exact Nat.le_of_ble_eq_true rfl) (fun _ _ => rfl) ?_
  intro p e s m args below meth c A D ids adr adV cA rep G0 hI hC hr
  unfold F_X9_size
  refine hz_aload_n (a := 0) (n := 1) hC dX9_size_0 rfl rfl rfl ?_
  refine hz_iload_n (a := 1) (n := 2) hC dX9_size_1 rfl rfl rfl ?_
  refine hz_iconst (v := (0 : Int32)) (n := 3) hC dX9_size_2 (by decide +kernel) rfl ?_
  refine hz_bipush (v := (13 : Int32)) (n := 5) hC dX9_size_3 (by decide +kernel) rfl ?_
  refine hz_callS (k := 3) (As := [.int a0, .int (0 : Int32), .int (13 : Int32)]) (st := [.ref (adr 13 0)]) (S1 := fun r => .int r :: [.ref (adr 13 0)]) (n := 8) hC (c_X9_in l a0 (0 : Int32) (13 : Int32)   M) ks_X9_in wd_6_198 hI dX9_size_5 rfl rfl rfl (Nat.le_of_ble_eq_true rfl) ⟨Nat.le_of_ble_eq_true rfl, Nat.le_of_ble_eq_true rfl⟩ ⟨Nat.zero_le _, Nat.zero_le _⟩ (fun _ => rfl) rfl (fun r1 M1 _ => ?_)
  refine hz_if_ne (tgt := 15) (n := 11) hC dX9_size_8 (by decide) rfl (fun _ => ?_) (fun _ => ?_)
  · refine hz_iconst (v := (1 : Int32)) (n := 12) hC dX9_size_11 (by decide +kernel) rfl ?_
    refine hz_goto (n := 16) hC dX9_size_12 (by decide) ?_
    refine hz_callV (k := 1) (As := [.int (1 : Int32)]) (st := []) (S1 := fun r => .int r :: []) (n := 19) hC (c_X9_throwsOne l (1 : Int32)   M1) kv_X9_throwsOne wd_7_181 hI dX9_size_16 rfl (hI 0 (by decide)) he_X9 rfl rfl rfl (Nat.le_of_ble_eq_true rfl) ⟨Nat.le_of_ble_eq_true rfl, Nat.le_of_ble_eq_true rfl⟩ ⟨Nat.zero_le _, Nat.zero_le _⟩ (fun _ => rfl) rfl (fun r2 M2 _ => ?_)
    refine hz_if_eq (tgt := 26) (n := 22) hC dX9_size_19 (by decide) rfl (fun _ => ?_) (fun _ => ?_)
    · refine hz_aload_n (a := 0) (n := 27) hC dX9_size_26 rfl rfl rfl ?_
      refine hz_iload_n (a := 1) (n := 28) hC dX9_size_27 rfl rfl rfl ?_
      refine hz_callV (k := 1) (As := [.int a0]) (st := []) (S1 := fun r => .int r :: []) (n := 31) hC (c_X9_sizeOf l a0   M2) kv_X9_sizeOf wd_7_193 hI dX9_size_28 rfl (hI 0 (by decide)) he_X9 rfl rfl rfl (Nat.le_of_ble_eq_true rfl) ⟨Nat.le_of_ble_eq_true rfl, Nat.le_of_ble_eq_true rfl⟩ ⟨Nat.zero_le _, Nat.zero_le _⟩ (fun _ => rfl) rfl (fun r3 M3 _ => ?_)
      exact hz_iret hC hr dX9_size_31
    · refine hz_iconst (v := (0 : Int32)) (n := 23) hC dX9_size_22 (by decide +kernel) rfl ?_
      refine hz_goto (n := 31) hC dX9_size_23 (by decide) ?_
      exact hz_iret hC hr dX9_size_31
  · refine hz_iconst (v := (0 : Int32)) (n := 16) hC dX9_size_15 (by decide +kernel) rfl ?_
    refine hz_callV (k := 1) (As := [.int (0 : Int32)]) (st := []) (S1 := fun r => .int r :: []) (n := 19) hC (c_X9_throwsOne l (0 : Int32)   M1) kv_X9_throwsOne wd_7_181 hI dX9_size_16 rfl (hI 0 (by decide)) he_X9 rfl rfl rfl (Nat.le_of_ble_eq_true rfl) ⟨Nat.le_of_ble_eq_true rfl, Nat.le_of_ble_eq_true rfl⟩ ⟨Nat.zero_le _, Nat.zero_le _⟩ (fun _ => rfl) rfl (fun r4 M4 _ => ?_)
    refine hz_if_eq (tgt := 26) (n := 22) hC dX9_size_19 (by decide) rfl (fun _ => ?_) (fun _ => ?_)
    · refine hz_aload_n (a := 0) (n := 27) hC dX9_size_26 rfl rfl rfl ?_
      refine hz_iload_n (a := 1) (n := 28) hC dX9_size_27 rfl rfl rfl ?_
      refine hz_callV (k := 1) (As := [.int a0]) (st := []) (S1 := fun r => .int r :: []) (n := 31) hC (c_X9_sizeOf l a0   M4) kv_X9_sizeOf wd_7_193 hI dX9_size_28 rfl (hI 0 (by decide)) he_X9 rfl rfl rfl (Nat.le_of_ble_eq_true rfl) ⟨Nat.le_of_ble_eq_true rfl, Nat.le_of_ble_eq_true rfl⟩ ⟨Nat.zero_le _, Nat.zero_le _⟩ (fun _ => rfl) rfl (fun r5 M5 _ => ?_)
      exact hz_iret hC hr dX9_size_31
    · refine hz_iconst (v := (0 : Int32)) (n := 23) hC dX9_size_22 (by decide +kernel) rfl ?_
      refine hz_goto (n := 31) hC dX9_size_23 (by decide) ?_
      exact hz_iret hC hr dX9_size_31
def F_X9_setting (a0 : Int32) (M : hp_M) : Option (Int32 × hp_M) := (hp_b (F_X9_in a0 (0 : Int32) (5 : Int32) M) (fun r1 M1 => (if r1 = 0 then (hp_b (F_X9_throwsOne (1 : Int32) M1) (fun r2 M2 => (if r2 = 0 then (if ((7 : Int32) + a0) < 0 ∨ 242 ≤ (((7 : Int32) + a0)).toNatClampNeg then none else (some ((M2 13 1 (((7 : Int32) + a0)).toNatClampNeg), M2))) else (some ((0 : Int32), M2))))) else (hp_b (F_X9_throwsOne (0 : Int32) M1) (fun r3 M3 => (if r3 = 0 then (if ((7 : Int32) + a0) < 0 ∨ 242 ≤ (((7 : Int32) + a0)).toNatClampNeg then none else (some ((M3 13 1 (((7 : Int32) + a0)).toNatClampNeg), M3))) else (some ((0 : Int32), M3))))))))
set_option maxRecDepth 20000 in
set_option maxHeartbeats 4000000 in
theorem c_X9_setting (l : Launch) (a0 : Int32)  (M : hp_M) : hp_Ct l yX9_setting cX9_setting 2 (some .int) 1 hp_IR (fun adr adV => [.ref (adr 13 0), .int a0]) hp_oi M (F_X9_setting a0 M) := by
  refine hp_start "HallPhoneModel" (fun adr adV => [(0, .ref (adr 13 0)), (1, .int a0)]) (by decide) rfl (fun _ _ => by simp only [lg_sl]; exact Nat.le_of_ble_eq_true rfl) (fun _ _ => rfl) ?_
  intro p e s m args below meth c A D ids adr adV cA rep G0 hI hC hr
  unfold F_X9_setting
  refine hz_aload_n (a := 0) (n := 1) hC dX9_setting_0 rfl rfl rfl ?_
  refine hz_iload_n (a := 1) (n := 2) hC dX9_setting_1 rfl rfl rfl ?_
  refine hz_iconst (v := (0 : Int32)) (n := 3) hC dX9_setting_2 (by decide +kernel) rfl ?_
  refine hz_iconst (v := (5 : Int32)) (n := 4) hC dX9_setting_3 (by decide +kernel) rfl ?_
  refine hz_callS (k := 3) (As := [.int a0, .int (0 : Int32), .int (5 : Int32)]) (st := [.ref (adr 13 0)]) (S1 := fun r => .int r :: [.ref (adr 13 0)]) (n := 7) hC (c_X9_in l a0 (0 : Int32) (5 : Int32)   M) ks_X9_in wd_6_198 hI dX9_setting_4 rfl rfl rfl (Nat.le_of_ble_eq_true rfl) ⟨Nat.le_of_ble_eq_true rfl, Nat.le_of_ble_eq_true rfl⟩ ⟨Nat.zero_le _, Nat.zero_le _⟩ (fun _ => rfl) rfl (fun r1 M1 _ => ?_)
  refine hz_if_ne (tgt := 14) (n := 10) hC dX9_setting_7 (by decide) rfl (fun _ => ?_) (fun _ => ?_)
  · refine hz_iconst (v := (1 : Int32)) (n := 11) hC dX9_setting_10 (by decide +kernel) rfl ?_
    refine hz_goto (n := 15) hC dX9_setting_11 (by decide) ?_
    refine hz_callV (k := 1) (As := [.int (1 : Int32)]) (st := []) (S1 := fun r => .int r :: []) (n := 18) hC (c_X9_throwsOne l (1 : Int32)   M1) kv_X9_throwsOne wd_7_181 hI dX9_setting_15 rfl (hI 0 (by decide)) he_X9 rfl rfl rfl (Nat.le_of_ble_eq_true rfl) ⟨Nat.le_of_ble_eq_true rfl, Nat.le_of_ble_eq_true rfl⟩ ⟨Nat.zero_le _, Nat.zero_le _⟩ (fun _ => rfl) rfl (fun r2 M2 _ => ?_)
    refine hz_if_eq (tgt := 25) (n := 21) hC dX9_setting_18 (by decide) rfl (fun _ => ?_) (fun _ => ?_)
    · refine hz_aload_n (a := 0) (n := 26) hC dX9_setting_25 rfl rfl rfl ?_
      refine fg_X9_7 (n := 29) hC hI dX9_setting_26 rfl ?_
      refine hz_bipush (v := (7 : Int32)) (n := 31) hC dX9_setting_29 (by decide +kernel) rfl ?_
      refine hz_iload_n (a := 1) (n := 32) hC dX9_setting_31 rfl rfl rfl ?_
      refine hz_iadd (n := 33) hC dX9_setting_32 rfl ?_
      refine hz_iald (n := 34) hC dX9_setting_33 (hI 1 (by decide)) ha_m1 rfl (fun _ => ?_)
      exact hz_iret hC hr dX9_setting_34
    · refine hz_iconst (v := (0 : Int32)) (n := 22) hC dX9_setting_21 (by decide +kernel) rfl ?_
      refine hz_goto (n := 34) hC dX9_setting_22 (by decide) ?_
      exact hz_iret hC hr dX9_setting_34
  · refine hz_iconst (v := (0 : Int32)) (n := 15) hC dX9_setting_14 (by decide +kernel) rfl ?_
    refine hz_callV (k := 1) (As := [.int (0 : Int32)]) (st := []) (S1 := fun r => .int r :: []) (n := 18) hC (c_X9_throwsOne l (0 : Int32)   M1) kv_X9_throwsOne wd_7_181 hI dX9_setting_15 rfl (hI 0 (by decide)) he_X9 rfl rfl rfl (Nat.le_of_ble_eq_true rfl) ⟨Nat.le_of_ble_eq_true rfl, Nat.le_of_ble_eq_true rfl⟩ ⟨Nat.zero_le _, Nat.zero_le _⟩ (fun _ => rfl) rfl (fun r3 M3 _ => ?_)
    refine hz_if_eq (tgt := 25) (n := 21) hC dX9_setting_18 (by decide) rfl (fun _ => ?_) (fun _ => ?_)
    · refine hz_aload_n (a := 0) (n := 26) hC dX9_setting_25 rfl rfl rfl ?_
      refine fg_X9_7 (n := 29) hC hI dX9_setting_26 rfl ?_
      refine hz_bipush (v := (7 : Int32)) (n := 31) hC dX9_setting_29 (by decide +kernel) rfl ?_
      refine hz_iload_n (a := 1) (n := 32) hC dX9_setting_31 rfl rfl rfl ?_
      refine hz_iadd (n := 33) hC dX9_setting_32 rfl ?_
      refine hz_iald (n := 34) hC dX9_setting_33 (hI 1 (by decide)) ha_m1 rfl (fun _ => ?_)
      exact hz_iret hC hr dX9_setting_34
    · refine hz_iconst (v := (0 : Int32)) (n := 22) hC dX9_setting_21 (by decide +kernel) rfl ?_
      refine hz_goto (n := 34) hC dX9_setting_22 (by decide) ?_
      exact hz_iret hC hr dX9_setting_34
def F_X9_flatTold (a0 : Int32) (a1 : Int32) (M : hp_M) : Option (Int32 × hp_M) := (if a1 = (5 : Int32) then (hp_b (F_X9_placeOf a0 M) (fun r1 M1 => (some (r1, M1)))) else (if a1 = (6 : Int32) then (hp_b (F_X9_of a0 (5 : Int32) M) (fun r2 M2 => (some (r2, M2)))) else (if a1 = (7 : Int32) then (hp_b (F_X9_of a0 (6 : Int32) M) (fun r3 M3 => (some (r3, M3)))) else (if a1 = (8 : Int32) then (hp_b (F_X9_of a0 (7 : Int32) M) (fun r4 M4 => (some (r4, M4)))) else (if a1 = (9 : Int32) then (hp_b (F_X9_messagesFor a0 M) (fun r5 M5 => (some (r5, M5)))) else (if a1 = (10 : Int32) then (hp_b (F_X9_of a0 (8 : Int32) M) (fun r6 M6 => (some (r6, M6)))) else (hp_b (F_X9_of a0 a1 M) (fun r7 M7 => (some (r7, M7))))))))))
set_option maxRecDepth 20000 in
set_option maxHeartbeats 4000000 in
theorem c_X9_flatTold (l : Launch) (a0 : Int32) (a1 : Int32)  (M : hp_M) : hp_Ct l yX9_flatTold cX9_flatTold 3 (some .int) 1 hp_IR (fun adr adV => [.ref (adr 13 0), .int a0, .int a1]) hp_oi M (F_X9_flatTold a0 a1 M) := by
  refine hp_start "HallPhoneModel" (fun adr adV => [(0, .ref (adr 13 0)), (1, .int a0), (2, .int a1)]) (by decide) rfl (fun _ _ => by simp only [lg_sl]; exact Nat.le_of_ble_eq_true rfl) (fun _ _ => rfl) ?_
  intro p e s m args below meth c A D ids adr adV cA rep G0 hI hC hr
  unfold F_X9_flatTold
  refine hz_iload_n (a := 2) (n := 1) hC dX9_flatTold_0 rfl rfl rfl ?_
  refine hz_case (fun hk5 => ?_) (fun hk5 => ?_)
  · refine hz_tabIn (n := 40) hC hk5 dX9_flatTold_1 (by decide +kernel) (by decide +kernel) (by rfl) (by decide +kernel) ?_
    refine hz_aload_n (a := 0) (n := 41) hC dX9_flatTold_40 rfl rfl rfl ?_
    refine hz_iload_n (a := 1) (n := 42) hC dX9_flatTold_41 rfl rfl rfl ?_
    refine hz_callV (k := 1) (As := [.int a0]) (st := []) (S1 := fun r => .int r :: []) (n := 45) hC (c_X9_placeOf l a0   M) kv_X9_placeOf wd_7_28 hI dX9_flatTold_42 rfl (hI 0 (by decide)) he_X9 rfl rfl rfl (Nat.le_of_ble_eq_true rfl) ⟨Nat.le_of_ble_eq_true rfl, Nat.le_of_ble_eq_true rfl⟩ ⟨Nat.zero_le _, Nat.zero_le _⟩ (fun _ => rfl) rfl (fun r1 M1 _ => ?_)
    exact hz_iret hC hr dX9_flatTold_45
  refine hz_case (fun hk6 => ?_) (fun hk6 => ?_)
  · refine hz_tabIn (n := 46) hC hk6 dX9_flatTold_1 (by decide +kernel) (by decide +kernel) (by rfl) (by decide +kernel) ?_
    refine hz_aload_n (a := 0) (n := 47) hC dX9_flatTold_46 rfl rfl rfl ?_
    refine hz_iload_n (a := 1) (n := 48) hC dX9_flatTold_47 rfl rfl rfl ?_
    refine hz_iconst (v := (5 : Int32)) (n := 49) hC dX9_flatTold_48 (by decide +kernel) rfl ?_
    refine hz_callV (k := 2) (As := [.int a0, .int (5 : Int32)]) (st := []) (S1 := fun r => .int r :: []) (n := 52) hC (c_X9_of l a0 (5 : Int32)   M) kv_X9_of wd_7_7 hI dX9_flatTold_49 rfl (hI 0 (by decide)) he_X9 rfl rfl rfl (Nat.le_of_ble_eq_true rfl) ⟨Nat.le_of_ble_eq_true rfl, Nat.le_of_ble_eq_true rfl⟩ ⟨Nat.zero_le _, Nat.zero_le _⟩ (fun _ => rfl) rfl (fun r2 M2 _ => ?_)
    exact hz_iret hC hr dX9_flatTold_52
  refine hz_case (fun hk7 => ?_) (fun hk7 => ?_)
  · refine hz_tabIn (n := 53) hC hk7 dX9_flatTold_1 (by decide +kernel) (by decide +kernel) (by rfl) (by decide +kernel) ?_
    refine hz_aload_n (a := 0) (n := 54) hC dX9_flatTold_53 rfl rfl rfl ?_
    refine hz_iload_n (a := 1) (n := 55) hC dX9_flatTold_54 rfl rfl rfl ?_
    refine hz_bipush (v := (6 : Int32)) (n := 57) hC dX9_flatTold_55 (by decide +kernel) rfl ?_
    refine hz_callV (k := 2) (As := [.int a0, .int (6 : Int32)]) (st := []) (S1 := fun r => .int r :: []) (n := 60) hC (c_X9_of l a0 (6 : Int32)   M) kv_X9_of wd_7_7 hI dX9_flatTold_57 rfl (hI 0 (by decide)) he_X9 rfl rfl rfl (Nat.le_of_ble_eq_true rfl) ⟨Nat.le_of_ble_eq_true rfl, Nat.le_of_ble_eq_true rfl⟩ ⟨Nat.zero_le _, Nat.zero_le _⟩ (fun _ => rfl) rfl (fun r3 M3 _ => ?_)
    exact hz_iret hC hr dX9_flatTold_60
  refine hz_case (fun hk8 => ?_) (fun hk8 => ?_)
  · refine hz_tabIn (n := 61) hC hk8 dX9_flatTold_1 (by decide +kernel) (by decide +kernel) (by rfl) (by decide +kernel) ?_
    refine hz_aload_n (a := 0) (n := 62) hC dX9_flatTold_61 rfl rfl rfl ?_
    refine hz_iload_n (a := 1) (n := 63) hC dX9_flatTold_62 rfl rfl rfl ?_
    refine hz_bipush (v := (7 : Int32)) (n := 65) hC dX9_flatTold_63 (by decide +kernel) rfl ?_
    refine hz_callV (k := 2) (As := [.int a0, .int (7 : Int32)]) (st := []) (S1 := fun r => .int r :: []) (n := 68) hC (c_X9_of l a0 (7 : Int32)   M) kv_X9_of wd_7_7 hI dX9_flatTold_65 rfl (hI 0 (by decide)) he_X9 rfl rfl rfl (Nat.le_of_ble_eq_true rfl) ⟨Nat.le_of_ble_eq_true rfl, Nat.le_of_ble_eq_true rfl⟩ ⟨Nat.zero_le _, Nat.zero_le _⟩ (fun _ => rfl) rfl (fun r4 M4 _ => ?_)
    exact hz_iret hC hr dX9_flatTold_68
  refine hz_case (fun hk9 => ?_) (fun hk9 => ?_)
  · refine hz_tabIn (n := 69) hC hk9 dX9_flatTold_1 (by decide +kernel) (by decide +kernel) (by rfl) (by decide +kernel) ?_
    refine hz_aload_n (a := 0) (n := 70) hC dX9_flatTold_69 rfl rfl rfl ?_
    refine hz_iload_n (a := 1) (n := 71) hC dX9_flatTold_70 rfl rfl rfl ?_
    refine hz_callV (k := 1) (As := [.int a0]) (st := []) (S1 := fun r => .int r :: []) (n := 74) hC (c_X9_messagesFor l a0   M) kv_X9_messagesFor wd_7_225 hI dX9_flatTold_71 rfl (hI 0 (by decide)) he_X9 rfl rfl rfl (Nat.le_of_ble_eq_true rfl) ⟨Nat.le_of_ble_eq_true rfl, Nat.le_of_ble_eq_true rfl⟩ ⟨Nat.zero_le _, Nat.zero_le _⟩ (fun _ => rfl) rfl (fun r5 M5 _ => ?_)
    exact hz_iret hC hr dX9_flatTold_74
  refine hz_case (fun hk10 => ?_) (fun hk10 => ?_)
  · refine hz_tabIn (n := 75) hC hk10 dX9_flatTold_1 (by decide +kernel) (by decide +kernel) (by rfl) (by decide +kernel) ?_
    refine hz_aload_n (a := 0) (n := 76) hC dX9_flatTold_75 rfl rfl rfl ?_
    refine hz_iload_n (a := 1) (n := 77) hC dX9_flatTold_76 rfl rfl rfl ?_
    refine hz_bipush (v := (8 : Int32)) (n := 79) hC dX9_flatTold_77 (by decide +kernel) rfl ?_
    refine hz_callV (k := 2) (As := [.int a0, .int (8 : Int32)]) (st := []) (S1 := fun r => .int r :: []) (n := 82) hC (c_X9_of l a0 (8 : Int32)   M) kv_X9_of wd_7_7 hI dX9_flatTold_79 rfl (hI 0 (by decide)) he_X9 rfl rfl rfl (Nat.le_of_ble_eq_true rfl) ⟨Nat.le_of_ble_eq_true rfl, Nat.le_of_ble_eq_true rfl⟩ ⟨Nat.zero_le _, Nat.zero_le _⟩ (fun _ => rfl) rfl (fun r6 M6 _ => ?_)
    exact hz_iret hC hr dX9_flatTold_82
  refine hz_tabOut (n := 83) hC (hp_out 6 (by decide) (fun k hk => by
    rcases (show k = 0 ∨ k = 1 ∨ k = 2 ∨ k = 3 ∨ k = 4 ∨ k = 5 by omega) with rfl | rfl | rfl | rfl | rfl | rfl
    · exact fun e => hk5 (Int32.toInt_inj.mp (e.trans (by decide +kernel)))
    · exact fun e => hk6 (Int32.toInt_inj.mp (e.trans (by decide +kernel)))
    · exact fun e => hk7 (Int32.toInt_inj.mp (e.trans (by decide +kernel)))
    · exact fun e => hk8 (Int32.toInt_inj.mp (e.trans (by decide +kernel)))
    · exact fun e => hk9 (Int32.toInt_inj.mp (e.trans (by decide +kernel)))
    · exact fun e => hk10 (Int32.toInt_inj.mp (e.trans (by decide +kernel)))
    )) dX9_flatTold_1 (by decide +kernel) ?_
  refine hz_aload_n (a := 0) (n := 84) hC dX9_flatTold_83 rfl rfl rfl ?_
  refine hz_iload_n (a := 1) (n := 85) hC dX9_flatTold_84 rfl rfl rfl ?_
  refine hz_iload_n (a := 2) (n := 86) hC dX9_flatTold_85 rfl rfl rfl ?_
  refine hz_callV (k := 2) (As := [.int a0, .int a1]) (st := []) (S1 := fun r => .int r :: []) (n := 89) hC (c_X9_of l a0 a1   M) kv_X9_of wd_7_7 hI dX9_flatTold_86 rfl (hI 0 (by decide)) he_X9 rfl rfl rfl (Nat.le_of_ble_eq_true rfl) ⟨Nat.le_of_ble_eq_true rfl, Nat.le_of_ble_eq_true rfl⟩ ⟨Nat.zero_le _, Nat.zero_le _⟩ (fun _ => rfl) rfl (fun r7 M7 _ => ?_)
  exact hz_iret hC hr dX9_flatTold_89
def A_X9_flat_14 (a0 : Int32) (a1 : Int32)  (z14_0 : Int32) (M : hp_M) : Option (Int32 × hp_M) := (hp_b (F_X9_in a1 (0 : Int32) (10 : Int32) M) (fun r2 M2 => (if r2 = 0 then (hp_b (F_X9_throwsOne_ z14_0 (1 : Int32) M2) (fun r3 M3 => (if r3 = 0 then (hp_b (F_X9_flatTold a0 a1 M3) (fun r4 M4 => (some (r4, M4)))) else (some ((0 : Int32), M3))))) else (hp_b (F_X9_throwsOne_ z14_0 (0 : Int32) M2) (fun r5 M5 => (if r5 = 0 then (hp_b (F_X9_flatTold a0 a1 M5) (fun r6 M6 => (some (r6, M6)))) else (some ((0 : Int32), M5))))))))
def F_X9_flat (a0 : Int32) (a1 : Int32) (M : hp_M) : Option (Int32 × hp_M) := (hp_b (F_X9_isFlat a0 M) (fun r1 M1 => (if r1 = 0 then (A_X9_flat_14 a0 a1 (1 : Int32) M1) else (A_X9_flat_14 a0 a1 (0 : Int32) M1))))
set_option maxRecDepth 20000 in
set_option maxHeartbeats 4000000 in
theorem c_X9_flat (l : Launch) (a0 : Int32) (a1 : Int32)  (M : hp_M) : hp_Ct l yX9_flat cX9_flat 3 (some .int) 2 hp_IR (fun adr adV => [.ref (adr 13 0), .int a0, .int a1]) hp_oi M (F_X9_flat a0 a1 M) := by
  refine hp_start "HallPhoneModel" (fun adr adV => [(0, .ref (adr 13 0)), (1, .int a0), (2, .int a1)]) (by decide) rfl (fun _ _ => by simp only [lg_sl]; exact Nat.le_of_ble_eq_true rfl) (fun _ _ => rfl) ?_
  intro p e s m args below meth c A D ids adr adV cA rep G0 hI hC hr
  unfold F_X9_flat
  have j14 : ∀ (z14_0 : Int32) (M : hp_M), hp_Z p l e (hp_rm 2) s m args below meth c 3 A D ids adr adV cA 0 0 (MQ below (hp_Q A D ids adr adV cA rep hp_oi G0) args s 0 0 A) G0 rep 14 [(0, .ref (adr 13 0)), (1, .int a0), (2, .int a1)] [.int z14_0, .ref (adr 13 0)] M (A_X9_flat_14 a0 a1 z14_0 M) := by
    intro z14_0 M
    unfold A_X9_flat_14
    refine hz_iload_n (a := 2) (n := 15) hC dX9_flat_14 rfl rfl rfl ?_
    refine hz_iconst (v := (0 : Int32)) (n := 16) hC dX9_flat_15 (by decide +kernel) rfl ?_
    refine hz_bipush (v := (10 : Int32)) (n := 18) hC dX9_flat_16 (by decide +kernel) rfl ?_
    refine hz_callS (k := 3) (As := [.int a1, .int (0 : Int32), .int (10 : Int32)]) (st := [.int z14_0, .ref (adr 13 0)]) (S1 := fun r => .int r :: [.int z14_0, .ref (adr 13 0)]) (n := 21) hC (c_X9_in l a1 (0 : Int32) (10 : Int32)   M) ks_X9_in wd_6_198 hI dX9_flat_18 rfl rfl rfl (Nat.le_of_ble_eq_true rfl) ⟨Nat.le_of_ble_eq_true rfl, Nat.le_of_ble_eq_true rfl⟩ ⟨Nat.zero_le _, Nat.zero_le _⟩ (fun _ => rfl) rfl (fun r2 M2 _ => ?_)
    refine hz_if_ne (tgt := 28) (n := 24) hC dX9_flat_21 (by decide) rfl (fun _ => ?_) (fun _ => ?_)
    · refine hz_iconst (v := (1 : Int32)) (n := 25) hC dX9_flat_24 (by decide +kernel) rfl ?_
      refine hz_goto (n := 29) hC dX9_flat_25 (by decide) ?_
      refine hz_callV (k := 2) (As := [.int z14_0, .int (1 : Int32)]) (st := []) (S1 := fun r => .int r :: []) (n := 32) hC (c_X9_throwsOne_ l z14_0 (1 : Int32)   M2) kv_X9_throwsOne_ wd_7_217 hI dX9_flat_29 rfl (hI 0 (by decide)) he_X9 rfl rfl rfl (Nat.le_of_ble_eq_true rfl) ⟨Nat.le_of_ble_eq_true rfl, Nat.le_of_ble_eq_true rfl⟩ ⟨Nat.zero_le _, Nat.zero_le _⟩ (fun _ => rfl) rfl (fun r3 M3 _ => ?_)
      refine hz_if_eq (tgt := 39) (n := 35) hC dX9_flat_32 (by decide) rfl (fun _ => ?_) (fun _ => ?_)
      · refine hz_aload_n (a := 0) (n := 40) hC dX9_flat_39 rfl rfl rfl ?_
        refine hz_iload_n (a := 1) (n := 41) hC dX9_flat_40 rfl rfl rfl ?_
        refine hz_iload_n (a := 2) (n := 42) hC dX9_flat_41 rfl rfl rfl ?_
        refine hz_callV (k := 2) (As := [.int a0, .int a1]) (st := []) (S1 := fun r => .int r :: []) (n := 45) hC (c_X9_flatTold l a0 a1   M3) kv_X9_flatTold wd_7_221 hI dX9_flat_42 rfl (hI 0 (by decide)) he_X9 rfl rfl rfl (Nat.le_of_ble_eq_true rfl) ⟨Nat.le_of_ble_eq_true rfl, Nat.le_of_ble_eq_true rfl⟩ ⟨Nat.zero_le _, Nat.zero_le _⟩ (fun _ => rfl) rfl (fun r4 M4 _ => ?_)
        exact hz_iret hC hr dX9_flat_45
      · refine hz_iconst (v := (0 : Int32)) (n := 36) hC dX9_flat_35 (by decide +kernel) rfl ?_
        refine hz_goto (n := 45) hC dX9_flat_36 (by decide) ?_
        exact hz_iret hC hr dX9_flat_45
    · refine hz_iconst (v := (0 : Int32)) (n := 29) hC dX9_flat_28 (by decide +kernel) rfl ?_
      refine hz_callV (k := 2) (As := [.int z14_0, .int (0 : Int32)]) (st := []) (S1 := fun r => .int r :: []) (n := 32) hC (c_X9_throwsOne_ l z14_0 (0 : Int32)   M2) kv_X9_throwsOne_ wd_7_217 hI dX9_flat_29 rfl (hI 0 (by decide)) he_X9 rfl rfl rfl (Nat.le_of_ble_eq_true rfl) ⟨Nat.le_of_ble_eq_true rfl, Nat.le_of_ble_eq_true rfl⟩ ⟨Nat.zero_le _, Nat.zero_le _⟩ (fun _ => rfl) rfl (fun r5 M5 _ => ?_)
      refine hz_if_eq (tgt := 39) (n := 35) hC dX9_flat_32 (by decide) rfl (fun _ => ?_) (fun _ => ?_)
      · refine hz_aload_n (a := 0) (n := 40) hC dX9_flat_39 rfl rfl rfl ?_
        refine hz_iload_n (a := 1) (n := 41) hC dX9_flat_40 rfl rfl rfl ?_
        refine hz_iload_n (a := 2) (n := 42) hC dX9_flat_41 rfl rfl rfl ?_
        refine hz_callV (k := 2) (As := [.int a0, .int a1]) (st := []) (S1 := fun r => .int r :: []) (n := 45) hC (c_X9_flatTold l a0 a1   M5) kv_X9_flatTold wd_7_221 hI dX9_flat_42 rfl (hI 0 (by decide)) he_X9 rfl rfl rfl (Nat.le_of_ble_eq_true rfl) ⟨Nat.le_of_ble_eq_true rfl, Nat.le_of_ble_eq_true rfl⟩ ⟨Nat.zero_le _, Nat.zero_le _⟩ (fun _ => rfl) rfl (fun r6 M6 _ => ?_)
        exact hz_iret hC hr dX9_flat_45
      · refine hz_iconst (v := (0 : Int32)) (n := 36) hC dX9_flat_35 (by decide +kernel) rfl ?_
        refine hz_goto (n := 45) hC dX9_flat_36 (by decide) ?_
        exact hz_iret hC hr dX9_flat_45
  refine hz_aload_n (a := 0) (n := 1) hC dX9_flat_0 rfl rfl rfl ?_
  refine hz_aload_n (a := 0) (n := 2) hC dX9_flat_1 rfl rfl rfl ?_
  refine hz_iload_n (a := 1) (n := 3) hC dX9_flat_2 rfl rfl rfl ?_
  refine hz_callV (k := 1) (As := [.int a0]) (st := [.ref (adr 13 0)]) (S1 := fun r => .int r :: [.ref (adr 13 0)]) (n := 6) hC (c_X9_isFlat l a0   M) kv_X9_isFlat wd_7_213 hI dX9_flat_3 rfl (hI 0 (by decide)) he_X9 rfl rfl rfl (Nat.le_of_ble_eq_true rfl) ⟨Nat.le_of_ble_eq_true rfl, Nat.le_of_ble_eq_true rfl⟩ ⟨Nat.zero_le _, Nat.zero_le _⟩ (fun _ => rfl) rfl (fun r1 M1 _ => ?_)
  refine hz_if_ne (tgt := 13) (n := 9) hC dX9_flat_6 (by decide) rfl (fun _ => ?_) (fun _ => ?_)
  · refine hz_iconst (v := (1 : Int32)) (n := 10) hC dX9_flat_9 (by decide +kernel) rfl ?_
    refine hz_goto (n := 14) hC dX9_flat_10 (by decide) ?_
    exact j14 _ _
  · refine hz_iconst (v := (0 : Int32)) (n := 14) hC dX9_flat_13 (by decide +kernel) rfl ?_
    exact j14 _ _
def F_X9_queued (a0 : Int32) (M : hp_M) : Option (Int32 × hp_M) := (hp_b (F_X9_in a0 (0 : Int32) (((hp_p M 13 0 13 (0 : Int32)) 13 1 30) - (1 : Int32)) (hp_p M 13 0 13 (0 : Int32))) (fun r1 M1 => (if r1 = 0 then (some ((-1 : Int32), M1)) else (if ((31 : Int32) + a0) < 0 ∨ 242 ≤ (((31 : Int32) + a0)).toNatClampNeg then none else (some ((M1 13 1 (((31 : Int32) + a0)).toNatClampNeg), M1))))))
set_option maxRecDepth 20000 in
set_option maxHeartbeats 4000000 in
theorem c_X9_queued (l : Launch) (a0 : Int32)  (M : hp_M) : hp_Ct l yX9_queued cX9_queued 2 (some .int) 1 hp_IR (fun adr adV => [.ref (adr 13 0), .int a0]) hp_oi M (F_X9_queued a0 M) := by
  refine hp_start "HallPhoneModel" (fun adr adV => [(0, .ref (adr 13 0)), (1, .int a0)]) (by decide) rfl (fun _ _ => by simp only [lg_sl]; exact Nat.le_of_ble_eq_true rfl) (fun _ _ => rfl) ?_
  intro p e s m args below meth c A D ids adr adV cA rep G0 hI hC hr
  unfold F_X9_queued
  refine hz_aload_n (a := 0) (n := 1) hC dX9_queued_0 rfl rfl rfl ?_
  refine hz_iconst (v := (0 : Int32)) (n := 2) hC dX9_queued_1 (by decide +kernel) rfl ?_
  refine fp_X9_42 (n := 5) hC hI (0 : Int32) dX9_queued_2 rfl ?_
  refine hz_iload_n (a := 1) (n := 6) hC dX9_queued_5 rfl rfl rfl ?_
  refine hz_iconst (v := (0 : Int32)) (n := 7) hC dX9_queued_6 (by decide +kernel) rfl ?_
  refine hz_aload_n (a := 0) (n := 8) hC dX9_queued_7 rfl rfl rfl ?_
  refine fg_X9_7 (n := 11) hC hI dX9_queued_8 rfl ?_
  refine hz_bipush (v := (30 : Int32)) (n := 13) hC dX9_queued_11 (by decide +kernel) rfl ?_
  refine hz_ialdc (k := 30) (n := 14) hC (by decide +kernel) (by decide) dX9_queued_13 (hI 1 (by decide)) ha_m1 rfl ?_
  refine hz_iconst (v := (1 : Int32)) (n := 15) hC dX9_queued_14 (by decide +kernel) rfl ?_
  refine hz_isub (n := 16) hC dX9_queued_15 rfl ?_
  refine hz_callS (k := 3) (As := [.int a0, .int (0 : Int32), .int (((hp_p M 13 0 13 (0 : Int32)) 13 1 30) - (1 : Int32))]) (st := []) (S1 := fun r => .int r :: []) (n := 19) hC (c_X9_in l a0 (0 : Int32) (((hp_p M 13 0 13 (0 : Int32)) 13 1 30) - (1 : Int32))   (hp_p M 13 0 13 (0 : Int32))) ks_X9_in wd_6_198 hI dX9_queued_16 rfl rfl rfl (Nat.le_of_ble_eq_true rfl) ⟨Nat.le_of_ble_eq_true rfl, Nat.le_of_ble_eq_true rfl⟩ ⟨Nat.zero_le _, Nat.zero_le _⟩ (fun _ => rfl) rfl (fun r1 M1 _ => ?_)
  refine hz_if_eq (tgt := 34) (n := 22) hC dX9_queued_19 (by decide) rfl (fun _ => ?_) (fun _ => ?_)
  · refine hz_iconst (v := (-1 : Int32)) (n := 35) hC dX9_queued_34 (by decide +kernel) rfl ?_
    exact hz_iret hC hr dX9_queued_35
  · refine hz_aload_n (a := 0) (n := 23) hC dX9_queued_22 rfl rfl rfl ?_
    refine fg_X9_7 (n := 26) hC hI dX9_queued_23 rfl ?_
    refine hz_bipush (v := (31 : Int32)) (n := 28) hC dX9_queued_26 (by decide +kernel) rfl ?_
    refine hz_iload_n (a := 1) (n := 29) hC dX9_queued_28 rfl rfl rfl ?_
    refine hz_iadd (n := 30) hC dX9_queued_29 rfl ?_
    refine hz_iald (n := 31) hC dX9_queued_30 (hI 1 (by decide)) ha_m1 rfl (fun _ => ?_)
    refine hz_goto (n := 35) hC dX9_queued_31 (by decide) ?_
    exact hz_iret hC hr dX9_queued_35
def A_X9_message_37 (a0 : Int32) (a1 : Int32)  (z37_0 : Int32) (z37_1 : Int32) (M : hp_M) : Option (Int32 × hp_M) := (hp_b (F_X9_throwsOne_ z37_1 z37_0 M) (fun r3 M3 => (if r3 = 0 then (if (((14 : Int32) + ((2 : Int32) * a0)) + a1) < 0 ∨ 242 ≤ ((((14 : Int32) + ((2 : Int32) * a0)) + a1)).toNatClampNeg then none else (some ((M3 13 1 ((((14 : Int32) + ((2 : Int32) * a0)) + a1)).toNatClampNeg), M3))) else (some ((0 : Int32), M3)))))
def A_X9_message_23 (a0 : Int32) (a1 : Int32)  (z23_0 : Int32) (M : hp_M) : Option (Int32 × hp_M) := (hp_b (F_X9_in a1 (0 : Int32) (1 : Int32) M) (fun r2 M2 => (if r2 = 0 then (A_X9_message_37 a0 a1 (1 : Int32) z23_0 M2) else (A_X9_message_37 a0 a1 (0 : Int32) z23_0 M2))))
def F_X9_message (a0 : Int32) (a1 : Int32) (M : hp_M) : Option (Int32 × hp_M) := (hp_b (F_X9_in a0 (0 : Int32) ((M 13 1 13) - (1 : Int32)) M) (fun r1 M1 => (if r1 = 0 then (A_X9_message_23 a0 a1 (1 : Int32) M1) else (A_X9_message_23 a0 a1 (0 : Int32) M1))))
set_option maxRecDepth 20000 in
set_option maxHeartbeats 4000000 in
theorem c_X9_message (l : Launch) (a0 : Int32) (a1 : Int32)  (M : hp_M) : hp_Ct l yX9_message cX9_message 3 (some .int) 1 hp_IR (fun adr adV => [.ref (adr 13 0), .int a0, .int a1]) hp_oi M (F_X9_message a0 a1 M) := by
  refine hp_start "HallPhoneModel" (fun adr adV => [(0, .ref (adr 13 0)), (1, .int a0), (2, .int a1)]) (by decide) rfl (fun _ _ => by simp only [lg_sl]; exact Nat.le_of_ble_eq_true rfl) (fun _ _ => rfl) ?_
  intro p e s m args below meth c A D ids adr adV cA rep G0 hI hC hr
  unfold F_X9_message
  have j37 : ∀ (z37_0 : Int32) (z37_1 : Int32) (M : hp_M), hp_Z p l e (hp_rm 1) s m args below meth c 3 A D ids adr adV cA 0 0 (MQ below (hp_Q A D ids adr adV cA rep hp_oi G0) args s 0 0 A) G0 rep 37 [(0, .ref (adr 13 0)), (1, .int a0), (2, .int a1)] [.int z37_0, .int z37_1, .ref (adr 13 0)] M (A_X9_message_37 a0 a1 z37_0 z37_1 M) := by
    intro z37_0 z37_1 M
    unfold A_X9_message_37
    refine hz_callV (k := 2) (As := [.int z37_1, .int z37_0]) (st := []) (S1 := fun r => .int r :: []) (n := 40) hC (c_X9_throwsOne_ l z37_1 z37_0   M) kv_X9_throwsOne_ wd_7_217 hI dX9_message_37 rfl (hI 0 (by decide)) he_X9 rfl rfl rfl (Nat.le_of_ble_eq_true rfl) ⟨Nat.le_of_ble_eq_true rfl, Nat.le_of_ble_eq_true rfl⟩ ⟨Nat.zero_le _, Nat.zero_le _⟩ (fun _ => rfl) rfl (fun r3 M3 _ => ?_)
    refine hz_if_eq (tgt := 47) (n := 43) hC dX9_message_40 (by decide) rfl (fun _ => ?_) (fun _ => ?_)
    · refine hz_aload_n (a := 0) (n := 48) hC dX9_message_47 rfl rfl rfl ?_
      refine fg_X9_7 (n := 51) hC hI dX9_message_48 rfl ?_
      refine hz_bipush (v := (14 : Int32)) (n := 53) hC dX9_message_51 (by decide +kernel) rfl ?_
      refine hz_iconst (v := (2 : Int32)) (n := 54) hC dX9_message_53 (by decide +kernel) rfl ?_
      refine hz_iload_n (a := 1) (n := 55) hC dX9_message_54 rfl rfl rfl ?_
      refine hz_imul (n := 56) hC dX9_message_55 rfl ?_
      refine hz_iadd (n := 57) hC dX9_message_56 rfl ?_
      refine hz_iload_n (a := 2) (n := 58) hC dX9_message_57 rfl rfl rfl ?_
      refine hz_iadd (n := 59) hC dX9_message_58 rfl ?_
      refine hz_iald (n := 60) hC dX9_message_59 (hI 1 (by decide)) ha_m1 rfl (fun _ => ?_)
      exact hz_iret hC hr dX9_message_60
    · refine hz_iconst (v := (0 : Int32)) (n := 44) hC dX9_message_43 (by decide +kernel) rfl ?_
      refine hz_goto (n := 60) hC dX9_message_44 (by decide) ?_
      exact hz_iret hC hr dX9_message_60
  have j23 : ∀ (z23_0 : Int32) (M : hp_M), hp_Z p l e (hp_rm 1) s m args below meth c 3 A D ids adr adV cA 0 0 (MQ below (hp_Q A D ids adr adV cA rep hp_oi G0) args s 0 0 A) G0 rep 23 [(0, .ref (adr 13 0)), (1, .int a0), (2, .int a1)] [.int z23_0, .ref (adr 13 0)] M (A_X9_message_23 a0 a1 z23_0 M) := by
    intro z23_0 M
    unfold A_X9_message_23
    refine hz_iload_n (a := 2) (n := 24) hC dX9_message_23 rfl rfl rfl ?_
    refine hz_iconst (v := (0 : Int32)) (n := 25) hC dX9_message_24 (by decide +kernel) rfl ?_
    refine hz_iconst (v := (1 : Int32)) (n := 26) hC dX9_message_25 (by decide +kernel) rfl ?_
    refine hz_callS (k := 3) (As := [.int a1, .int (0 : Int32), .int (1 : Int32)]) (st := [.int z23_0, .ref (adr 13 0)]) (S1 := fun r => .int r :: [.int z23_0, .ref (adr 13 0)]) (n := 29) hC (c_X9_in l a1 (0 : Int32) (1 : Int32)   M) ks_X9_in wd_6_198 hI dX9_message_26 rfl rfl rfl (Nat.le_of_ble_eq_true rfl) ⟨Nat.le_of_ble_eq_true rfl, Nat.le_of_ble_eq_true rfl⟩ ⟨Nat.zero_le _, Nat.zero_le _⟩ (fun _ => rfl) rfl (fun r2 M2 _ => ?_)
    refine hz_if_ne (tgt := 36) (n := 32) hC dX9_message_29 (by decide) rfl (fun _ => ?_) (fun _ => ?_)
    · refine hz_iconst (v := (1 : Int32)) (n := 33) hC dX9_message_32 (by decide +kernel) rfl ?_
      refine hz_goto (n := 37) hC dX9_message_33 (by decide) ?_
      exact j37 _ _ _
    · refine hz_iconst (v := (0 : Int32)) (n := 37) hC dX9_message_36 (by decide +kernel) rfl ?_
      exact j37 _ _ _
  refine hz_aload_n (a := 0) (n := 1) hC dX9_message_0 rfl rfl rfl ?_
  refine hz_iload_n (a := 1) (n := 2) hC dX9_message_1 rfl rfl rfl ?_
  refine hz_iconst (v := (0 : Int32)) (n := 3) hC dX9_message_2 (by decide +kernel) rfl ?_
  refine hz_aload_n (a := 0) (n := 4) hC dX9_message_3 rfl rfl rfl ?_
  refine fg_X9_7 (n := 7) hC hI dX9_message_4 rfl ?_
  refine hz_bipush (v := (13 : Int32)) (n := 9) hC dX9_message_7 (by decide +kernel) rfl ?_
  refine hz_ialdc (k := 13) (n := 10) hC (by decide +kernel) (by decide) dX9_message_9 (hI 1 (by decide)) ha_m1 rfl ?_
  refine hz_iconst (v := (1 : Int32)) (n := 11) hC dX9_message_10 (by decide +kernel) rfl ?_
  refine hz_isub (n := 12) hC dX9_message_11 rfl ?_
  refine hz_callS (k := 3) (As := [.int a0, .int (0 : Int32), .int ((M 13 1 13) - (1 : Int32))]) (st := [.ref (adr 13 0)]) (S1 := fun r => .int r :: [.ref (adr 13 0)]) (n := 15) hC (c_X9_in l a0 (0 : Int32) ((M 13 1 13) - (1 : Int32))   M) ks_X9_in wd_6_198 hI dX9_message_12 rfl rfl rfl (Nat.le_of_ble_eq_true rfl) ⟨Nat.le_of_ble_eq_true rfl, Nat.le_of_ble_eq_true rfl⟩ ⟨Nat.zero_le _, Nat.zero_le _⟩ (fun _ => rfl) rfl (fun r1 M1 _ => ?_)
  refine hz_if_ne (tgt := 22) (n := 18) hC dX9_message_15 (by decide) rfl (fun _ => ?_) (fun _ => ?_)
  · refine hz_iconst (v := (1 : Int32)) (n := 19) hC dX9_message_18 (by decide +kernel) rfl ?_
    refine hz_goto (n := 23) hC dX9_message_19 (by decide) ?_
    exact j23 _ _
  · refine hz_iconst (v := (0 : Int32)) (n := 23) hC dX9_message_22 (by decide +kernel) rfl ?_
    exact j23 _ _
def F_X9_heard (a0 : Int32) (a1 : Int32) (M : hp_M) : Option (Int32 × hp_M) := (hp_b (F_X9_isFlat a0 M) (fun r1 M1 => (if r1 = 0 then (hp_b (F_X9_throwsOne (1 : Int32) M1) (fun r2 M2 => (if r2 = 0 then (hp_b (F_X9_heardOf a0 a1 M2) (fun r3 M3 => (some (r3, M3)))) else (some ((0 : Int32), M2))))) else (hp_b (F_X9_isFlat a1 M1) (fun r4 M4 => (if r4 = 0 then (hp_b (F_X9_throwsOne (1 : Int32) M4) (fun r5 M5 => (if r5 = 0 then (hp_b (F_X9_heardOf a0 a1 M5) (fun r6 M6 => (some (r6, M6)))) else (some ((0 : Int32), M5))))) else (hp_b (F_X9_throwsOne (0 : Int32) M4) (fun r7 M7 => (if r7 = 0 then (hp_b (F_X9_heardOf a0 a1 M7) (fun r8 M8 => (some (r8, M8)))) else (some ((0 : Int32), M7)))))))))))
set_option maxRecDepth 20000 in
set_option maxHeartbeats 4000000 in
theorem c_X9_heard (l : Launch) (a0 : Int32) (a1 : Int32)  (M : hp_M) : hp_Ct l yX9_heard cX9_heard 3 (some .int) 2 hp_IR (fun adr adV => [.ref (adr 13 0), .int a0, .int a1]) hp_oi M (F_X9_heard a0 a1 M) := by
  refine hp_start "HallPhoneModel" (fun adr adV => [(0, .ref (adr 13 0)), (1, .int a0), (2, .int a1)]) (by decide) rfl (fun _ _ => by simp only [lg_sl]; exact Nat.le_of_ble_eq_true rfl) (fun _ _ => rfl) ?_
  intro p e s m args below meth c A D ids adr adV cA rep G0 hI hC hr
  unfold F_X9_heard
  refine hz_aload_n (a := 0) (n := 1) hC dX9_heard_0 rfl rfl rfl ?_
  refine hz_aload_n (a := 0) (n := 2) hC dX9_heard_1 rfl rfl rfl ?_
  refine hz_iload_n (a := 1) (n := 3) hC dX9_heard_2 rfl rfl rfl ?_
  refine hz_callV (k := 1) (As := [.int a0]) (st := [.ref (adr 13 0)]) (S1 := fun r => .int r :: [.ref (adr 13 0)]) (n := 6) hC (c_X9_isFlat l a0   M) kv_X9_isFlat wd_7_213 hI dX9_heard_3 rfl (hI 0 (by decide)) he_X9 rfl rfl rfl (Nat.le_of_ble_eq_true rfl) ⟨Nat.le_of_ble_eq_true rfl, Nat.le_of_ble_eq_true rfl⟩ ⟨Nat.zero_le _, Nat.zero_le _⟩ (fun _ => rfl) rfl (fun r1 M1 _ => ?_)
  refine hz_if_eq (tgt := 17) (n := 9) hC dX9_heard_6 (by decide) rfl (fun _ => ?_) (fun _ => ?_)
  · refine hz_iconst (v := (1 : Int32)) (n := 18) hC dX9_heard_17 (by decide +kernel) rfl ?_
    refine hz_goto (n := 22) hC dX9_heard_18 (by decide) ?_
    refine hz_callV (k := 1) (As := [.int (1 : Int32)]) (st := []) (S1 := fun r => .int r :: []) (n := 25) hC (c_X9_throwsOne l (1 : Int32)   M1) kv_X9_throwsOne wd_7_181 hI dX9_heard_22 rfl (hI 0 (by decide)) he_X9 rfl rfl rfl (Nat.le_of_ble_eq_true rfl) ⟨Nat.le_of_ble_eq_true rfl, Nat.le_of_ble_eq_true rfl⟩ ⟨Nat.zero_le _, Nat.zero_le _⟩ (fun _ => rfl) rfl (fun r2 M2 _ => ?_)
    refine hz_if_eq (tgt := 32) (n := 28) hC dX9_heard_25 (by decide) rfl (fun _ => ?_) (fun _ => ?_)
    · refine hz_aload_n (a := 0) (n := 33) hC dX9_heard_32 rfl rfl rfl ?_
      refine hz_iload_n (a := 1) (n := 34) hC dX9_heard_33 rfl rfl rfl ?_
      refine hz_iload_n (a := 2) (n := 35) hC dX9_heard_34 rfl rfl rfl ?_
      refine hz_callV (k := 2) (As := [.int a0, .int a1]) (st := []) (S1 := fun r => .int r :: []) (n := 38) hC (c_X9_heardOf l a0 a1   M2) kv_X9_heardOf wd_8_1 hI dX9_heard_35 rfl (hI 0 (by decide)) he_X9 rfl rfl rfl (Nat.le_of_ble_eq_true rfl) ⟨Nat.le_of_ble_eq_true rfl, Nat.le_of_ble_eq_true rfl⟩ ⟨Nat.zero_le _, Nat.zero_le _⟩ (fun _ => rfl) rfl (fun r3 M3 _ => ?_)
      exact hz_iret hC hr dX9_heard_38
    · refine hz_iconst (v := (0 : Int32)) (n := 29) hC dX9_heard_28 (by decide +kernel) rfl ?_
      refine hz_goto (n := 38) hC dX9_heard_29 (by decide) ?_
      exact hz_iret hC hr dX9_heard_38
  · refine hz_aload_n (a := 0) (n := 10) hC dX9_heard_9 rfl rfl rfl ?_
    refine hz_iload_n (a := 2) (n := 11) hC dX9_heard_10 rfl rfl rfl ?_
    refine hz_callV (k := 1) (As := [.int a1]) (st := [.ref (adr 13 0)]) (S1 := fun r => .int r :: [.ref (adr 13 0)]) (n := 14) hC (c_X9_isFlat l a1   M1) kv_X9_isFlat wd_7_213 hI dX9_heard_11 rfl (hI 0 (by decide)) he_X9 rfl rfl rfl (Nat.le_of_ble_eq_true rfl) ⟨Nat.le_of_ble_eq_true rfl, Nat.le_of_ble_eq_true rfl⟩ ⟨Nat.zero_le _, Nat.zero_le _⟩ (fun _ => rfl) rfl (fun r4 M4 _ => ?_)
    refine hz_if_ne (tgt := 21) (n := 17) hC dX9_heard_14 (by decide) rfl (fun _ => ?_) (fun _ => ?_)
    · refine hz_iconst (v := (1 : Int32)) (n := 18) hC dX9_heard_17 (by decide +kernel) rfl ?_
      refine hz_goto (n := 22) hC dX9_heard_18 (by decide) ?_
      refine hz_callV (k := 1) (As := [.int (1 : Int32)]) (st := []) (S1 := fun r => .int r :: []) (n := 25) hC (c_X9_throwsOne l (1 : Int32)   M4) kv_X9_throwsOne wd_7_181 hI dX9_heard_22 rfl (hI 0 (by decide)) he_X9 rfl rfl rfl (Nat.le_of_ble_eq_true rfl) ⟨Nat.le_of_ble_eq_true rfl, Nat.le_of_ble_eq_true rfl⟩ ⟨Nat.zero_le _, Nat.zero_le _⟩ (fun _ => rfl) rfl (fun r5 M5 _ => ?_)
      refine hz_if_eq (tgt := 32) (n := 28) hC dX9_heard_25 (by decide) rfl (fun _ => ?_) (fun _ => ?_)
      · refine hz_aload_n (a := 0) (n := 33) hC dX9_heard_32 rfl rfl rfl ?_
        refine hz_iload_n (a := 1) (n := 34) hC dX9_heard_33 rfl rfl rfl ?_
        refine hz_iload_n (a := 2) (n := 35) hC dX9_heard_34 rfl rfl rfl ?_
        refine hz_callV (k := 2) (As := [.int a0, .int a1]) (st := []) (S1 := fun r => .int r :: []) (n := 38) hC (c_X9_heardOf l a0 a1   M5) kv_X9_heardOf wd_8_1 hI dX9_heard_35 rfl (hI 0 (by decide)) he_X9 rfl rfl rfl (Nat.le_of_ble_eq_true rfl) ⟨Nat.le_of_ble_eq_true rfl, Nat.le_of_ble_eq_true rfl⟩ ⟨Nat.zero_le _, Nat.zero_le _⟩ (fun _ => rfl) rfl (fun r6 M6 _ => ?_)
        exact hz_iret hC hr dX9_heard_38
      · refine hz_iconst (v := (0 : Int32)) (n := 29) hC dX9_heard_28 (by decide +kernel) rfl ?_
        refine hz_goto (n := 38) hC dX9_heard_29 (by decide) ?_
        exact hz_iret hC hr dX9_heard_38
    · refine hz_iconst (v := (0 : Int32)) (n := 22) hC dX9_heard_21 (by decide +kernel) rfl ?_
      refine hz_callV (k := 1) (As := [.int (0 : Int32)]) (st := []) (S1 := fun r => .int r :: []) (n := 25) hC (c_X9_throwsOne l (0 : Int32)   M4) kv_X9_throwsOne wd_7_181 hI dX9_heard_22 rfl (hI 0 (by decide)) he_X9 rfl rfl rfl (Nat.le_of_ble_eq_true rfl) ⟨Nat.le_of_ble_eq_true rfl, Nat.le_of_ble_eq_true rfl⟩ ⟨Nat.zero_le _, Nat.zero_le _⟩ (fun _ => rfl) rfl (fun r7 M7 _ => ?_)
      refine hz_if_eq (tgt := 32) (n := 28) hC dX9_heard_25 (by decide) rfl (fun _ => ?_) (fun _ => ?_)
      · refine hz_aload_n (a := 0) (n := 33) hC dX9_heard_32 rfl rfl rfl ?_
        refine hz_iload_n (a := 1) (n := 34) hC dX9_heard_33 rfl rfl rfl ?_
        refine hz_iload_n (a := 2) (n := 35) hC dX9_heard_34 rfl rfl rfl ?_
        refine hz_callV (k := 2) (As := [.int a0, .int a1]) (st := []) (S1 := fun r => .int r :: []) (n := 38) hC (c_X9_heardOf l a0 a1   M7) kv_X9_heardOf wd_8_1 hI dX9_heard_35 rfl (hI 0 (by decide)) he_X9 rfl rfl rfl (Nat.le_of_ble_eq_true rfl) ⟨Nat.le_of_ble_eq_true rfl, Nat.le_of_ble_eq_true rfl⟩ ⟨Nat.zero_le _, Nat.zero_le _⟩ (fun _ => rfl) rfl (fun r8 M8 _ => ?_)
        exact hz_iret hC hr dX9_heard_38
      · refine hz_iconst (v := (0 : Int32)) (n := 29) hC dX9_heard_28 (by decide +kernel) rfl ?_
        refine hz_goto (n := 38) hC dX9_heard_29 (by decide) ?_
        exact hz_iret hC hr dX9_heard_38
def L_X9_knowers_4 (a0 : Int32)   : Nat → Int32 → Int32 → hp_M → Option (Int32 × hp_M)
  | 0, _, _, _ => none
  | n4 + 1, x2, x3, M => (if (M 13 1 0) ≤ x3 then (some (x2, M)) else (hp_b (F_X9_heardOf x3 a0 M) (fun r1 M1 => (if r1 < (M1 13 1 11) then (L_X9_knowers_4 a0 n4 (x2 ||| (0 : Int32)) (x3 + (1 : Int32)) M1) else (L_X9_knowers_4 a0 n4 (x2 ||| ((1 : Int32) <<< (x3 &&& 31))) (x3 + (1 : Int32)) M1)))))
def F_X9_knowers (a0 : Int32) (M : hp_M) : Option (Int32 × hp_M) := (L_X9_knowers_4 a0 hp_fu (0 : Int32) (0 : Int32) M)
set_option maxRecDepth 20000 in
set_option maxHeartbeats 4000000 in
theorem c_X9_knowers (l : Launch) (a0 : Int32)  (M : hp_M) : hp_Ct l yX9_knowers cX9_knowers 4 (some .int) 1 hp_IR (fun adr adV => [.ref (adr 13 0), .int a0]) hp_oi M (F_X9_knowers a0 M) := by
  refine hp_start "HallPhoneModel" (fun adr adV => [(0, .ref (adr 13 0)), (1, .int a0)]) (by decide) rfl (fun _ _ => by simp only [lg_sl]; exact Nat.le_of_ble_eq_true rfl) (fun _ _ => rfl) ?_
  intro p e s m args below meth c A D ids adr adV cA rep G0 hI hC hr
  unfold F_X9_knowers
  have l4 : ∀  (n4 : Nat) (x2 : Int32) (x3 : Int32) (M : hp_M), hp_Z p l e (hp_rm 1) s m args below meth c 4 A D ids adr adV cA 0 0 (MQ below (hp_Q A D ids adr adV cA rep hp_oi G0) args s 0 0 A) G0 rep 4 [(0, .ref (adr 13 0)), (1, .int a0), (2, .int x2), (3, .int x3)] [] M (L_X9_knowers_4 a0 n4 x2 x3 M) := by
    intro  n4
    induction n4 with
    | zero => intro x2 x3 M; exact hz_none hC
    | succ n4 ih4 =>
      intro x2 x3 M
      rw [L_X9_knowers_4.eq_2]
      refine hz_iload_n (a := 3) (n := 5) hC dX9_knowers_4 rfl rfl rfl ?_
      refine hz_aload_n (a := 0) (n := 6) hC dX9_knowers_5 rfl rfl rfl ?_
      refine fg_X9_7 (n := 9) hC hI dX9_knowers_6 rfl ?_
      refine hz_iconst (v := (0 : Int32)) (n := 10) hC dX9_knowers_9 (by decide +kernel) rfl ?_
      refine hz_ialdc (k := 0) (n := 11) hC (by decide +kernel) (by decide) dX9_knowers_10 (hI 1 (by decide)) ha_m1 rfl ?_
      refine hz_icmp_ge (tgt := 46) (n := 14) hC dX9_knowers_11 (by decide) rfl (fun _ => ?_) (fun _ => ?_)
      · refine hz_iload_n (a := 2) (n := 47) hC dX9_knowers_46 rfl rfl rfl ?_
        exact hz_iret hC hr dX9_knowers_47
      · refine hz_iload_n (a := 2) (n := 15) hC dX9_knowers_14 rfl rfl rfl ?_
        refine hz_aload_n (a := 0) (n := 16) hC dX9_knowers_15 rfl rfl rfl ?_
        refine hz_iload_n (a := 3) (n := 17) hC dX9_knowers_16 rfl rfl rfl ?_
        refine hz_iload_n (a := 1) (n := 18) hC dX9_knowers_17 rfl rfl rfl ?_
        refine hz_callV (k := 2) (As := [.int x3, .int a0]) (st := [.int x2]) (S1 := fun r => .int r :: [.int x2]) (n := 21) hC (c_X9_heardOf l x3 a0   M) kv_X9_heardOf wd_8_1 hI dX9_knowers_18 rfl (hI 0 (by decide)) he_X9 rfl rfl rfl (Nat.le_of_ble_eq_true rfl) ⟨Nat.le_of_ble_eq_true rfl, Nat.le_of_ble_eq_true rfl⟩ ⟨Nat.zero_le _, Nat.zero_le _⟩ (fun _ => rfl) rfl (fun r1 M1 _ => ?_)
        refine hz_aload_n (a := 0) (n := 22) hC dX9_knowers_21 rfl rfl rfl ?_
        refine fg_X9_7 (n := 25) hC hI dX9_knowers_22 rfl ?_
        refine hz_bipush (v := (11 : Int32)) (n := 27) hC dX9_knowers_25 (by decide +kernel) rfl ?_
        refine hz_ialdc (k := 11) (n := 28) hC (by decide +kernel) (by decide) dX9_knowers_27 (hI 1 (by decide)) ha_m1 rfl ?_
        refine hz_icmp_lt (tgt := 37) (n := 31) hC dX9_knowers_28 (by decide) rfl (fun _ => ?_) (fun _ => ?_)
        · refine hz_iconst (v := (0 : Int32)) (n := 38) hC dX9_knowers_37 (by decide +kernel) rfl ?_
          refine hz_ior (n := 39) hC dX9_knowers_38 rfl ?_
          refine hz_istore_n (L' := [(2, .int (x2 ||| (0 : Int32))), (0, .ref (adr 13 0)), (1, .int a0), (3, .int x3)]) (n := 40) hC dX9_knowers_39 rfl (by decide) rfl rfl ?_
          refine hz_iinc (a := 3) (v := (x3 + (1 : Int32))) (L' := [(3, .int (x3 + (1 : Int32))), (2, .int (x2 ||| (0 : Int32))), (0, .ref (adr 13 0)), (1, .int a0)]) (n := 43) hC dX9_knowers_40 rfl rfl (by decide) rfl rfl ?_
          refine hz_goto (n := 4) hC dX9_knowers_43 (by decide) ?_
          refine hz_L (L' := [(0, .ref (adr 13 0)), (1, .int a0), (2, .int (x2 ||| (0 : Int32))), (3, .int (x3 + (1 : Int32)))]) [2, 3, 1, 0] rfl ?_
          exact ih4 _ _ _
        · refine hz_iconst (v := (1 : Int32)) (n := 32) hC dX9_knowers_31 (by decide +kernel) rfl ?_
          refine hz_iload_n (a := 3) (n := 33) hC dX9_knowers_32 rfl rfl rfl ?_
          refine hz_ishl (n := 34) hC dX9_knowers_33 rfl ?_
          refine hz_goto (n := 38) hC dX9_knowers_34 (by decide) ?_
          refine hz_ior (n := 39) hC dX9_knowers_38 rfl ?_
          refine hz_istore_n (L' := [(2, .int (x2 ||| ((1 : Int32) <<< (x3 &&& 31)))), (0, .ref (adr 13 0)), (1, .int a0), (3, .int x3)]) (n := 40) hC dX9_knowers_39 rfl (by decide) rfl rfl ?_
          refine hz_iinc (a := 3) (v := (x3 + (1 : Int32))) (L' := [(3, .int (x3 + (1 : Int32))), (2, .int (x2 ||| ((1 : Int32) <<< (x3 &&& 31)))), (0, .ref (adr 13 0)), (1, .int a0)]) (n := 43) hC dX9_knowers_40 rfl rfl (by decide) rfl rfl ?_
          refine hz_goto (n := 4) hC dX9_knowers_43 (by decide) ?_
          refine hz_L (L' := [(0, .ref (adr 13 0)), (1, .int a0), (2, .int (x2 ||| ((1 : Int32) <<< (x3 &&& 31)))), (3, .int (x3 + (1 : Int32)))]) [2, 3, 1, 0] rfl ?_
          exact ih4 _ _ _
  refine hz_iconst (v := (0 : Int32)) (n := 1) hC dX9_knowers_0 (by decide +kernel) rfl ?_
  refine hz_istore_n (L' := [(2, .int (0 : Int32)), (0, .ref (adr 13 0)), (1, .int a0)]) (n := 2) hC dX9_knowers_1 rfl (by decide) rfl rfl ?_
  refine hz_iconst (v := (0 : Int32)) (n := 3) hC dX9_knowers_2 (by decide +kernel) rfl ?_
  refine hz_istore_n (L' := [(3, .int (0 : Int32)), (2, .int (0 : Int32)), (0, .ref (adr 13 0)), (1, .int a0)]) (n := 4) hC dX9_knowers_3 rfl (by decide) rfl rfl ?_
  refine hz_L (L' := [(0, .ref (adr 13 0)), (1, .int a0), (2, .int (0 : Int32)), (3, .int (0 : Int32))]) [2, 3, 1, 0] rfl ?_
  exact l4 hp_fu _ _ _
def F_X9_knowing (a0 : Int32) (M : hp_M) : Option (Int32 × hp_M) := (hp_b (F_X9_isFlat a0 M) (fun r1 M1 => (if r1 = 0 then (hp_b (F_X9_throwsOne (1 : Int32) M1) (fun r2 M2 => (if r2 = 0 then (hp_b (F_X9_knowers a0 M2) (fun r3 M3 => (some (r3, M3)))) else (some ((0 : Int32), M2))))) else (hp_b (F_X9_throwsOne (0 : Int32) M1) (fun r4 M4 => (if r4 = 0 then (hp_b (F_X9_knowers a0 M4) (fun r5 M5 => (some (r5, M5)))) else (some ((0 : Int32), M4))))))))
set_option maxRecDepth 20000 in
set_option maxHeartbeats 4000000 in
theorem c_X9_knowing (l : Launch) (a0 : Int32)  (M : hp_M) : hp_Ct l yX9_knowing cX9_knowing 2 (some .int) 2 hp_IR (fun adr adV => [.ref (adr 13 0), .int a0]) hp_oi M (F_X9_knowing a0 M) := by
  refine hp_start "HallPhoneModel" (fun adr adV => [(0, .ref (adr 13 0)), (1, .int a0)]) (by decide) rfl (fun _ _ => by simp only [lg_sl]; exact Nat.le_of_ble_eq_true rfl) (fun _ _ => rfl) ?_
  intro p e s m args below meth c A D ids adr adV cA rep G0 hI hC hr
  unfold F_X9_knowing
  refine hz_aload_n (a := 0) (n := 1) hC dX9_knowing_0 rfl rfl rfl ?_
  refine hz_aload_n (a := 0) (n := 2) hC dX9_knowing_1 rfl rfl rfl ?_
  refine hz_iload_n (a := 1) (n := 3) hC dX9_knowing_2 rfl rfl rfl ?_
  refine hz_callV (k := 1) (As := [.int a0]) (st := [.ref (adr 13 0)]) (S1 := fun r => .int r :: [.ref (adr 13 0)]) (n := 6) hC (c_X9_isFlat l a0   M) kv_X9_isFlat wd_7_213 hI dX9_knowing_3 rfl (hI 0 (by decide)) he_X9 rfl rfl rfl (Nat.le_of_ble_eq_true rfl) ⟨Nat.le_of_ble_eq_true rfl, Nat.le_of_ble_eq_true rfl⟩ ⟨Nat.zero_le _, Nat.zero_le _⟩ (fun _ => rfl) rfl (fun r1 M1 _ => ?_)
  refine hz_if_ne (tgt := 13) (n := 9) hC dX9_knowing_6 (by decide) rfl (fun _ => ?_) (fun _ => ?_)
  · refine hz_iconst (v := (1 : Int32)) (n := 10) hC dX9_knowing_9 (by decide +kernel) rfl ?_
    refine hz_goto (n := 14) hC dX9_knowing_10 (by decide) ?_
    refine hz_callV (k := 1) (As := [.int (1 : Int32)]) (st := []) (S1 := fun r => .int r :: []) (n := 17) hC (c_X9_throwsOne l (1 : Int32)   M1) kv_X9_throwsOne wd_7_181 hI dX9_knowing_14 rfl (hI 0 (by decide)) he_X9 rfl rfl rfl (Nat.le_of_ble_eq_true rfl) ⟨Nat.le_of_ble_eq_true rfl, Nat.le_of_ble_eq_true rfl⟩ ⟨Nat.zero_le _, Nat.zero_le _⟩ (fun _ => rfl) rfl (fun r2 M2 _ => ?_)
    refine hz_if_eq (tgt := 24) (n := 20) hC dX9_knowing_17 (by decide) rfl (fun _ => ?_) (fun _ => ?_)
    · refine hz_aload_n (a := 0) (n := 25) hC dX9_knowing_24 rfl rfl rfl ?_
      refine hz_iload_n (a := 1) (n := 26) hC dX9_knowing_25 rfl rfl rfl ?_
      refine hz_callV (k := 1) (As := [.int a0]) (st := []) (S1 := fun r => .int r :: []) (n := 29) hC (c_X9_knowers l a0   M2) kv_X9_knowers wd_8_9 hI dX9_knowing_26 rfl (hI 0 (by decide)) he_X9 rfl rfl rfl (Nat.le_of_ble_eq_true rfl) ⟨Nat.le_of_ble_eq_true rfl, Nat.le_of_ble_eq_true rfl⟩ ⟨Nat.zero_le _, Nat.zero_le _⟩ (fun _ => rfl) rfl (fun r3 M3 _ => ?_)
      exact hz_iret hC hr dX9_knowing_29
    · refine hz_iconst (v := (0 : Int32)) (n := 21) hC dX9_knowing_20 (by decide +kernel) rfl ?_
      refine hz_goto (n := 29) hC dX9_knowing_21 (by decide) ?_
      exact hz_iret hC hr dX9_knowing_29
  · refine hz_iconst (v := (0 : Int32)) (n := 14) hC dX9_knowing_13 (by decide +kernel) rfl ?_
    refine hz_callV (k := 1) (As := [.int (0 : Int32)]) (st := []) (S1 := fun r => .int r :: []) (n := 17) hC (c_X9_throwsOne l (0 : Int32)   M1) kv_X9_throwsOne wd_7_181 hI dX9_knowing_14 rfl (hI 0 (by decide)) he_X9 rfl rfl rfl (Nat.le_of_ble_eq_true rfl) ⟨Nat.le_of_ble_eq_true rfl, Nat.le_of_ble_eq_true rfl⟩ ⟨Nat.zero_le _, Nat.zero_le _⟩ (fun _ => rfl) rfl (fun r4 M4 _ => ?_)
    refine hz_if_eq (tgt := 24) (n := 20) hC dX9_knowing_17 (by decide) rfl (fun _ => ?_) (fun _ => ?_)
    · refine hz_aload_n (a := 0) (n := 25) hC dX9_knowing_24 rfl rfl rfl ?_
      refine hz_iload_n (a := 1) (n := 26) hC dX9_knowing_25 rfl rfl rfl ?_
      refine hz_callV (k := 1) (As := [.int a0]) (st := []) (S1 := fun r => .int r :: []) (n := 29) hC (c_X9_knowers l a0   M4) kv_X9_knowers wd_8_9 hI dX9_knowing_26 rfl (hI 0 (by decide)) he_X9 rfl rfl rfl (Nat.le_of_ble_eq_true rfl) ⟨Nat.le_of_ble_eq_true rfl, Nat.le_of_ble_eq_true rfl⟩ ⟨Nat.zero_le _, Nat.zero_le _⟩ (fun _ => rfl) rfl (fun r5 M5 _ => ?_)
      exact hz_iret hC hr dX9_knowing_29
    · refine hz_iconst (v := (0 : Int32)) (n := 21) hC dX9_knowing_20 (by decide +kernel) rfl ?_
      refine hz_goto (n := 29) hC dX9_knowing_21 (by decide) ?_
      exact hz_iret hC hr dX9_knowing_29
def L_X9_listening_26 (a0 : Int32)   : Nat → Int32 → Int32 → hp_M → Option (Int32 × hp_M)
  | 0, _, _, _ => none
  | n26 + 1, x2, x3, M => (if (M 13 1 0) ≤ x3 then (some (x2, M)) else (hp_b (F_X9_hears x3 a0 M) (fun r3 M3 => (if r3 = 0 then (L_X9_listening_26 a0 n26 (x2 ||| (0 : Int32)) (x3 + (1 : Int32)) M3) else (L_X9_listening_26 a0 n26 (x2 ||| ((1 : Int32) <<< (x3 &&& 31))) (x3 + (1 : Int32)) M3)))))
def A_X9_listening_14 (a0 : Int32)  (z14_0 : Int32) (M : hp_M) : Option (Int32 × hp_M) := (hp_b (F_X9_throwsOne z14_0 M) (fun r2 M2 => (if r2 = 0 then (L_X9_listening_26 a0 hp_fu (0 : Int32) (0 : Int32) M2) else (some ((0 : Int32), M2)))))
def F_X9_listening (a0 : Int32) (M : hp_M) : Option (Int32 × hp_M) := (hp_b (F_X9_isFlat a0 M) (fun r1 M1 => (if r1 = 0 then (A_X9_listening_14 a0 (1 : Int32) M1) else (A_X9_listening_14 a0 (0 : Int32) M1))))
set_option maxRecDepth 20000 in
set_option maxHeartbeats 4000000 in
theorem c_X9_listening (l : Launch) (a0 : Int32)  (M : hp_M) : hp_Ct l yX9_listening cX9_listening 4 (some .int) 2 hp_IR (fun adr adV => [.ref (adr 13 0), .int a0]) hp_oi M (F_X9_listening a0 M) := by
  refine hp_start "HallPhoneModel" (fun adr adV => [(0, .ref (adr 13 0)), (1, .int a0)]) (by decide) rfl (fun _ _ => by simp only [lg_sl]; exact Nat.le_of_ble_eq_true rfl) (fun _ _ => rfl) ?_
  intro p e s m args below meth c A D ids adr adV cA rep G0 hI hC hr
  unfold F_X9_listening
  have l26 : ∀  (n26 : Nat) (x2 : Int32) (x3 : Int32) (M : hp_M), hp_Z p l e (hp_rm 2) s m args below meth c 4 A D ids adr adV cA 0 0 (MQ below (hp_Q A D ids adr adV cA rep hp_oi G0) args s 0 0 A) G0 rep 26 [(0, .ref (adr 13 0)), (1, .int a0), (2, .int x2), (3, .int x3)] [] M (L_X9_listening_26 a0 n26 x2 x3 M) := by
    intro  n26
    induction n26 with
    | zero => intro x2 x3 M; exact hz_none hC
    | succ n26 ih26 =>
      intro x2 x3 M
      rw [L_X9_listening_26.eq_2]
      refine hz_iload_n (a := 3) (n := 27) hC dX9_listening_26 rfl rfl rfl ?_
      refine hz_aload_n (a := 0) (n := 28) hC dX9_listening_27 rfl rfl rfl ?_
      refine fg_X9_7 (n := 31) hC hI dX9_listening_28 rfl ?_
      refine hz_iconst (v := (0 : Int32)) (n := 32) hC dX9_listening_31 (by decide +kernel) rfl ?_
      refine hz_ialdc (k := 0) (n := 33) hC (by decide +kernel) (by decide) dX9_listening_32 (hI 1 (by decide)) ha_m1 rfl ?_
      refine hz_icmp_ge (tgt := 61) (n := 36) hC dX9_listening_33 (by decide) rfl (fun _ => ?_) (fun _ => ?_)
      · refine hz_iload_n (a := 2) (n := 62) hC dX9_listening_61 rfl rfl rfl ?_
        exact hz_iret hC hr dX9_listening_62
      · refine hz_iload_n (a := 2) (n := 37) hC dX9_listening_36 rfl rfl rfl ?_
        refine hz_aload_n (a := 0) (n := 38) hC dX9_listening_37 rfl rfl rfl ?_
        refine hz_iload_n (a := 3) (n := 39) hC dX9_listening_38 rfl rfl rfl ?_
        refine hz_iload_n (a := 1) (n := 40) hC dX9_listening_39 rfl rfl rfl ?_
        refine hz_callV (k := 2) (As := [.int x3, .int a0]) (st := [.int x2]) (S1 := fun r => .int r :: [.int x2]) (n := 43) hC (c_X9_hears l x3 a0   M) kv_X9_hears wd_7_88 hI dX9_listening_40 rfl (hI 0 (by decide)) he_X9 rfl rfl rfl (Nat.le_of_ble_eq_true rfl) ⟨Nat.le_of_ble_eq_true rfl, Nat.le_of_ble_eq_true rfl⟩ ⟨Nat.zero_le _, Nat.zero_le _⟩ (fun _ => rfl) rfl (fun r3 M3 _ => ?_)
        refine hz_if_eq (tgt := 52) (n := 46) hC dX9_listening_43 (by decide) rfl (fun _ => ?_) (fun _ => ?_)
        · refine hz_iconst (v := (0 : Int32)) (n := 53) hC dX9_listening_52 (by decide +kernel) rfl ?_
          refine hz_ior (n := 54) hC dX9_listening_53 rfl ?_
          refine hz_istore_n (L' := [(2, .int (x2 ||| (0 : Int32))), (0, .ref (adr 13 0)), (1, .int a0), (3, .int x3)]) (n := 55) hC dX9_listening_54 rfl (by decide) rfl rfl ?_
          refine hz_iinc (a := 3) (v := (x3 + (1 : Int32))) (L' := [(3, .int (x3 + (1 : Int32))), (2, .int (x2 ||| (0 : Int32))), (0, .ref (adr 13 0)), (1, .int a0)]) (n := 58) hC dX9_listening_55 rfl rfl (by decide) rfl rfl ?_
          refine hz_goto (n := 26) hC dX9_listening_58 (by decide) ?_
          refine hz_L (L' := [(0, .ref (adr 13 0)), (1, .int a0), (2, .int (x2 ||| (0 : Int32))), (3, .int (x3 + (1 : Int32)))]) [2, 3, 1, 0] rfl ?_
          exact ih26 _ _ _
        · refine hz_iconst (v := (1 : Int32)) (n := 47) hC dX9_listening_46 (by decide +kernel) rfl ?_
          refine hz_iload_n (a := 3) (n := 48) hC dX9_listening_47 rfl rfl rfl ?_
          refine hz_ishl (n := 49) hC dX9_listening_48 rfl ?_
          refine hz_goto (n := 53) hC dX9_listening_49 (by decide) ?_
          refine hz_ior (n := 54) hC dX9_listening_53 rfl ?_
          refine hz_istore_n (L' := [(2, .int (x2 ||| ((1 : Int32) <<< (x3 &&& 31)))), (0, .ref (adr 13 0)), (1, .int a0), (3, .int x3)]) (n := 55) hC dX9_listening_54 rfl (by decide) rfl rfl ?_
          refine hz_iinc (a := 3) (v := (x3 + (1 : Int32))) (L' := [(3, .int (x3 + (1 : Int32))), (2, .int (x2 ||| ((1 : Int32) <<< (x3 &&& 31)))), (0, .ref (adr 13 0)), (1, .int a0)]) (n := 58) hC dX9_listening_55 rfl rfl (by decide) rfl rfl ?_
          refine hz_goto (n := 26) hC dX9_listening_58 (by decide) ?_
          refine hz_L (L' := [(0, .ref (adr 13 0)), (1, .int a0), (2, .int (x2 ||| ((1 : Int32) <<< (x3 &&& 31)))), (3, .int (x3 + (1 : Int32)))]) [2, 3, 1, 0] rfl ?_
          exact ih26 _ _ _
  have j14 : ∀ (z14_0 : Int32) (M : hp_M), hp_Z p l e (hp_rm 2) s m args below meth c 4 A D ids adr adV cA 0 0 (MQ below (hp_Q A D ids adr adV cA rep hp_oi G0) args s 0 0 A) G0 rep 14 [(0, .ref (adr 13 0)), (1, .int a0)] [.int z14_0, .ref (adr 13 0)] M (A_X9_listening_14 a0 z14_0 M) := by
    intro z14_0 M
    unfold A_X9_listening_14
    refine hz_callV (k := 1) (As := [.int z14_0]) (st := []) (S1 := fun r => .int r :: []) (n := 17) hC (c_X9_throwsOne l z14_0   M) kv_X9_throwsOne wd_7_181 hI dX9_listening_14 rfl (hI 0 (by decide)) he_X9 rfl rfl rfl (Nat.le_of_ble_eq_true rfl) ⟨Nat.le_of_ble_eq_true rfl, Nat.le_of_ble_eq_true rfl⟩ ⟨Nat.zero_le _, Nat.zero_le _⟩ (fun _ => rfl) rfl (fun r2 M2 _ => ?_)
    refine hz_if_eq (tgt := 22) (n := 20) hC dX9_listening_17 (by decide) rfl (fun _ => ?_) (fun _ => ?_)
    · refine hz_iconst (v := (0 : Int32)) (n := 23) hC dX9_listening_22 (by decide +kernel) rfl ?_
      refine hz_istore_n (L' := [(2, .int (0 : Int32)), (0, .ref (adr 13 0)), (1, .int a0)]) (n := 24) hC dX9_listening_23 rfl (by decide) rfl rfl ?_
      refine hz_iconst (v := (0 : Int32)) (n := 25) hC dX9_listening_24 (by decide +kernel) rfl ?_
      refine hz_istore_n (L' := [(3, .int (0 : Int32)), (2, .int (0 : Int32)), (0, .ref (adr 13 0)), (1, .int a0)]) (n := 26) hC dX9_listening_25 rfl (by decide) rfl rfl ?_
      refine hz_L (L' := [(0, .ref (adr 13 0)), (1, .int a0), (2, .int (0 : Int32)), (3, .int (0 : Int32))]) [2, 3, 1, 0] rfl ?_
      exact l26 hp_fu _ _ _
    · refine hz_iconst (v := (0 : Int32)) (n := 21) hC dX9_listening_20 (by decide +kernel) rfl ?_
      exact hz_iret hC hr dX9_listening_21
  refine hz_aload_n (a := 0) (n := 1) hC dX9_listening_0 rfl rfl rfl ?_
  refine hz_aload_n (a := 0) (n := 2) hC dX9_listening_1 rfl rfl rfl ?_
  refine hz_iload_n (a := 1) (n := 3) hC dX9_listening_2 rfl rfl rfl ?_
  refine hz_callV (k := 1) (As := [.int a0]) (st := [.ref (adr 13 0)]) (S1 := fun r => .int r :: [.ref (adr 13 0)]) (n := 6) hC (c_X9_isFlat l a0   M) kv_X9_isFlat wd_7_213 hI dX9_listening_3 rfl (hI 0 (by decide)) he_X9 rfl rfl rfl (Nat.le_of_ble_eq_true rfl) ⟨Nat.le_of_ble_eq_true rfl, Nat.le_of_ble_eq_true rfl⟩ ⟨Nat.zero_le _, Nat.zero_le _⟩ (fun _ => rfl) rfl (fun r1 M1 _ => ?_)
  refine hz_if_ne (tgt := 13) (n := 9) hC dX9_listening_6 (by decide) rfl (fun _ => ?_) (fun _ => ?_)
  · refine hz_iconst (v := (1 : Int32)) (n := 10) hC dX9_listening_9 (by decide +kernel) rfl ?_
    refine hz_goto (n := 14) hC dX9_listening_10 (by decide) ?_
    exact j14 _ _
  · refine hz_iconst (v := (0 : Int32)) (n := 14) hC dX9_listening_13 (by decide +kernel) rfl ?_
    exact j14 _ _
def L_X9_bits_4 (a0 : Int32)   : Nat → Int32 → Int32 → hp_M → Option (Int32 × hp_M)
  | 0, _, _, _ => none
  | n4 + 1, x1, x2, M => (if x2 ≤ 0 then (some (x1, M)) else (if (2 : Int32) = 0 then none else (if (2 : Int32) = 0 then none else (L_X9_bits_4 a0 n4 (x1 + (x2 - x2 / (2 : Int32) * (2 : Int32))) (x2 / (2 : Int32)) M))))
def F_X9_bits (a0 : Int32) (M : hp_M) : Option (Int32 × hp_M) := (L_X9_bits_4 a0 hp_fu (0 : Int32) a0 M)
set_option maxRecDepth 20000 in
set_option maxHeartbeats 4000000 in
theorem c_X9_bits (l : Launch) (a0 : Int32)  (M : hp_M) : hp_Ct l yX9_bits cX9_bits 3 (some .int) 0 hp_IR (fun adr adV => [.int a0]) hp_oi M (F_X9_bits a0 M) := by
  refine hp_start "HallPhoneModel" (fun adr adV => [(0, .int a0)]) (by decide) rfl (fun _ _ => by simp only [lg_sl]; exact Nat.le_of_ble_eq_true rfl) (fun _ _ => rfl) ?_
  intro p e s m args below meth c A D ids adr adV cA rep G0 hI hC hr
  unfold F_X9_bits
  have l4 : ∀  (n4 : Nat) (x1 : Int32) (x2 : Int32) (M : hp_M), hp_Z p l e (hp_rm 0) s m args below meth c 3 A D ids adr adV cA 0 0 (MQ below (hp_Q A D ids adr adV cA rep hp_oi G0) args s 0 0 A) G0 rep 4 [(1, .int x1), (2, .int x2)] [] M (L_X9_bits_4 a0 n4 x1 x2 M) := by
    intro  n4
    induction n4 with
    | zero => intro x1 x2 M; exact hz_none hC
    | succ n4 ih4 =>
      intro x1 x2 M
      rw [L_X9_bits_4.eq_2]
      refine hz_iload_n (a := 1) (n := 5) hC dX9_bits_4 rfl rfl rfl ?_
      refine hz_if_le (tgt := 21) (n := 8) hC dX9_bits_5 (by decide) rfl (fun _ => ?_) (fun _ => ?_)
      · refine hz_iload_n (a := 0) (n := 22) hC dX9_bits_21 rfl rfl rfl ?_
        exact hz_iret hC hr dX9_bits_22
      · refine hz_iload_n (a := 0) (n := 9) hC dX9_bits_8 rfl rfl rfl ?_
        refine hz_iload_n (a := 1) (n := 10) hC dX9_bits_9 rfl rfl rfl ?_
        refine hz_iconst (v := (2 : Int32)) (n := 11) hC dX9_bits_10 (by decide +kernel) rfl ?_
        refine hz_irem (n := 12) hC dX9_bits_11 rfl (fun _ => ?_)
        refine hz_iadd (n := 13) hC dX9_bits_12 rfl ?_
        refine hz_istore_n (L' := [(1, .int (x1 + (x2 - x2 / (2 : Int32) * (2 : Int32)))), (2, .int x2)]) (n := 14) hC dX9_bits_13 rfl (by decide) rfl rfl ?_
        refine hz_iload_n (a := 1) (n := 15) hC dX9_bits_14 rfl rfl rfl ?_
        refine hz_iconst (v := (2 : Int32)) (n := 16) hC dX9_bits_15 (by decide +kernel) rfl ?_
        refine hz_idiv (n := 17) hC dX9_bits_16 rfl (fun _ => ?_)
        refine hz_istore_n (L' := [(2, .int (x2 / (2 : Int32))), (1, .int (x1 + (x2 - x2 / (2 : Int32) * (2 : Int32))))]) (n := 18) hC dX9_bits_17 rfl (by decide) rfl rfl ?_
        refine hz_goto (n := 4) hC dX9_bits_18 (by decide) ?_
        refine hz_L (L' := [(1, .int (x1 + (x2 - x2 / (2 : Int32) * (2 : Int32)))), (2, .int (x2 / (2 : Int32)))]) [1, 0] rfl ?_
        exact ih4 _ _ _
  refine hz_iconst (v := (0 : Int32)) (n := 1) hC dX9_bits_0 (by decide +kernel) rfl ?_
  refine hz_istore_n (L' := [(1, .int (0 : Int32)), (0, .int a0)]) (n := 2) hC dX9_bits_1 rfl (by decide) rfl rfl ?_
  refine hz_iload_n (a := 1) (n := 3) hC dX9_bits_2 rfl rfl rfl ?_
  refine hz_istore_n (L' := [(2, .int a0), (1, .int (0 : Int32)), (0, .int a0)]) (n := 4) hC dX9_bits_3 rfl (by decide) rfl rfl ?_
  refine hz_L (L' := [(1, .int (0 : Int32)), (2, .int a0)]) [1, 0] rfl ?_
  exact l4 hp_fu _ _ _
def L_X9_mostKnown_11    : Nat → Int32 → Int32 → Int32 → hp_M → Option (Int32 × hp_M)
  | 0, _, _, _, _ => none
  | n11 + 1, x1, x2, x3, M => (if (M 13 1 0) ≤ x3 then (some (x1, M)) else (hp_b (F_X9_knowers x3 M) (fun r1 M1 => (hp_b (F_X9_bits r1 M1) (fun r2 M2 => (if r2 ≤ x2 then (L_X9_mostKnown_11  n11 x1 x2 (x3 + (1 : Int32)) M2) else (L_X9_mostKnown_11  n11 x3 r2 (x3 + (1 : Int32)) M2)))))))
def F_X9_mostKnown  (M : hp_M) : Option (Int32 × hp_M) := (L_X9_mostKnown_11 hp_fu (-1 : Int32) (0 : Int32) (0 : Int32) (hp_p M 13 0 13 (0 : Int32)))
set_option maxRecDepth 20000 in
set_option maxHeartbeats 4000000 in
theorem c_X9_mostKnown (l : Launch)   (M : hp_M) : hp_Ct l yX9_mostKnown cX9_mostKnown 5 (some .int) 2 hp_IR (fun adr adV => [.ref (adr 13 0)]) hp_oi M (F_X9_mostKnown  M) := by
  refine hp_start "HallPhoneModel" (fun adr adV => [(0, .ref (adr 13 0))]) (by decide) rfl (fun _ _ => by simp only [lg_sl]; exact Nat.le_of_ble_eq_true rfl) (fun _ _ => rfl) ?_
  intro p e s m args below meth c A D ids adr adV cA rep G0 hI hC hr
  unfold F_X9_mostKnown
  have l11 : ∀  (n11 : Nat) (x1 : Int32) (x2 : Int32) (x3 : Int32) (M : hp_M), hp_Z p l e (hp_rm 2) s m args below meth c 5 A D ids adr adV cA 0 0 (MQ below (hp_Q A D ids adr adV cA rep hp_oi G0) args s 0 0 A) G0 rep 11 [(0, .ref (adr 13 0)), (1, .int x1), (2, .int x2), (3, .int x3)] [] M (L_X9_mostKnown_11  n11 x1 x2 x3 M) := by
    intro  n11
    induction n11 with
    | zero => intro x1 x2 x3 M; exact hz_none hC
    | succ n11 ih11 =>
      intro x1 x2 x3 M
      rw [L_X9_mostKnown_11.eq_2]
      refine hz_iload_n (a := 3) (n := 12) hC dX9_mostKnown_11 rfl rfl rfl ?_
      refine hz_aload_n (a := 0) (n := 13) hC dX9_mostKnown_12 rfl rfl rfl ?_
      refine fg_X9_7 (n := 16) hC hI dX9_mostKnown_13 rfl ?_
      refine hz_iconst (v := (0 : Int32)) (n := 17) hC dX9_mostKnown_16 (by decide +kernel) rfl ?_
      refine hz_ialdc (k := 0) (n := 18) hC (by decide +kernel) (by decide) dX9_mostKnown_17 (hI 1 (by decide)) ha_m1 rfl ?_
      refine hz_icmp_ge (tgt := 48) (n := 21) hC dX9_mostKnown_18 (by decide) rfl (fun _ => ?_) (fun _ => ?_)
      · refine hz_iload_n (a := 1) (n := 49) hC dX9_mostKnown_48 rfl rfl rfl ?_
        exact hz_iret hC hr dX9_mostKnown_49
      · refine hz_aload_n (a := 0) (n := 22) hC dX9_mostKnown_21 rfl rfl rfl ?_
        refine hz_iload_n (a := 3) (n := 23) hC dX9_mostKnown_22 rfl rfl rfl ?_
        refine hz_callV (k := 1) (As := [.int x3]) (st := []) (S1 := fun r => .int r :: []) (n := 26) hC (c_X9_knowers l x3   M) kv_X9_knowers wd_8_9 hI dX9_mostKnown_23 rfl (hI 0 (by decide)) he_X9 rfl rfl rfl (Nat.le_of_ble_eq_true rfl) ⟨Nat.le_of_ble_eq_true rfl, Nat.le_of_ble_eq_true rfl⟩ ⟨Nat.zero_le _, Nat.zero_le _⟩ (fun _ => rfl) rfl (fun r1 M1 _ => ?_)
        refine hz_callS (k := 1) (As := [.int r1]) (st := []) (S1 := fun r => .int r :: []) (n := 29) hC (c_X9_bits l r1   M1) ks_X9_bits wd_8_21 hI dX9_mostKnown_26 rfl rfl rfl (Nat.le_of_ble_eq_true rfl) ⟨Nat.le_of_ble_eq_true rfl, Nat.le_of_ble_eq_true rfl⟩ ⟨Nat.zero_le _, Nat.zero_le _⟩ (fun _ => rfl) rfl (fun r2 M2 _ => ?_)
        refine hz_istore (L' := [(4, .int r2), (0, .ref (adr 13 0)), (1, .int x1), (2, .int x2), (3, .int x3)]) (n := 31) hC dX9_mostKnown_29 (by decide) rfl rfl ?_
        refine hz_iload (a := 0) (n := 33) hC dX9_mostKnown_31 rfl rfl ?_
        refine hz_iload_n (a := 3) (n := 34) hC dX9_mostKnown_33 rfl rfl rfl ?_
        refine hz_icmp_le (tgt := 42) (n := 37) hC dX9_mostKnown_34 (by decide) rfl (fun _ => ?_) (fun _ => ?_)
        · refine hz_iinc (a := 4) (v := (x3 + (1 : Int32))) (L' := [(3, .int (x3 + (1 : Int32))), (4, .int r2), (0, .ref (adr 13 0)), (1, .int x1), (2, .int x2)]) (n := 45) hC dX9_mostKnown_42 rfl rfl (by decide) rfl rfl ?_
          refine hz_goto (n := 11) hC dX9_mostKnown_45 (by decide) ?_
          refine hz_L (L' := [(0, .ref (adr 13 0)), (1, .int x1), (2, .int x2), (3, .int (x3 + (1 : Int32)))]) [2, 3, 4, 0] rfl ?_
          exact ih11 _ _ _ _
        · refine hz_iload (a := 0) (n := 39) hC dX9_mostKnown_37 rfl rfl ?_
          refine hz_istore_n (L' := [(2, .int r2), (4, .int r2), (0, .ref (adr 13 0)), (1, .int x1), (3, .int x3)]) (n := 40) hC dX9_mostKnown_39 rfl (by decide) rfl rfl ?_
          refine hz_iload_n (a := 4) (n := 41) hC dX9_mostKnown_40 rfl rfl rfl ?_
          refine hz_istore_n (L' := [(1, .int x3), (2, .int r2), (4, .int r2), (0, .ref (adr 13 0)), (3, .int x3)]) (n := 42) hC dX9_mostKnown_41 rfl (by decide) rfl rfl ?_
          refine hz_iinc (a := 4) (v := (x3 + (1 : Int32))) (L' := [(3, .int (x3 + (1 : Int32))), (1, .int x3), (2, .int r2), (4, .int r2), (0, .ref (adr 13 0))]) (n := 45) hC dX9_mostKnown_42 rfl rfl (by decide) rfl rfl ?_
          refine hz_goto (n := 11) hC dX9_mostKnown_45 (by decide) ?_
          refine hz_L (L' := [(0, .ref (adr 13 0)), (1, .int x3), (2, .int r2), (3, .int (x3 + (1 : Int32)))]) [4, 1, 2, 0] rfl ?_
          exact ih11 _ _ _ _
  refine hz_aload_n (a := 0) (n := 1) hC dX9_mostKnown_0 rfl rfl rfl ?_
  refine hz_iconst (v := (0 : Int32)) (n := 2) hC dX9_mostKnown_1 (by decide +kernel) rfl ?_
  refine fp_X9_42 (n := 5) hC hI (0 : Int32) dX9_mostKnown_2 rfl ?_
  refine hz_iconst (v := (-1 : Int32)) (n := 6) hC dX9_mostKnown_5 (by decide +kernel) rfl ?_
  refine hz_istore_n (L' := [(1, .int (-1 : Int32)), (0, .ref (adr 13 0))]) (n := 7) hC dX9_mostKnown_6 rfl (by decide) rfl rfl ?_
  refine hz_iconst (v := (0 : Int32)) (n := 8) hC dX9_mostKnown_7 (by decide +kernel) rfl ?_
  refine hz_istore_n (L' := [(2, .int (0 : Int32)), (1, .int (-1 : Int32)), (0, .ref (adr 13 0))]) (n := 9) hC dX9_mostKnown_8 rfl (by decide) rfl rfl ?_
  refine hz_iconst (v := (0 : Int32)) (n := 10) hC dX9_mostKnown_9 (by decide +kernel) rfl ?_
  refine hz_istore_n (L' := [(3, .int (0 : Int32)), (2, .int (0 : Int32)), (1, .int (-1 : Int32)), (0, .ref (adr 13 0))]) (n := 11) hC dX9_mostKnown_10 rfl (by decide) rfl rfl ?_
  refine hz_L (L' := [(0, .ref (adr 13 0)), (1, .int (-1 : Int32)), (2, .int (0 : Int32)), (3, .int (0 : Int32))]) [3, 2, 1, 0] rfl ?_
  exact l11 hp_fu _ _ _ _
def F_X9_cost (a0 : Int32) (M : hp_M) : Option (Int32 × hp_M) := (hp_b (F_X9_in a0 (1 : Int32) (99 : Int32) M) (fun r1 M1 => (if r1 = 0 then (hp_b (F_X9_throwsOne (1 : Int32) M1) (fun r2 M2 => (if r2 = 0 then (hp_b (F_X9_costOf a0 M2) (fun r3 M3 => (some (r3, M3)))) else (some ((0 : Int32), M2))))) else (hp_b (F_X9_throwsOne (0 : Int32) M1) (fun r4 M4 => (if r4 = 0 then (hp_b (F_X9_costOf a0 M4) (fun r5 M5 => (some (r5, M5)))) else (some ((0 : Int32), M4))))))))
set_option maxRecDepth 20000 in
set_option maxHeartbeats 4000000 in
theorem c_X9_cost (l : Launch) (a0 : Int32)  (M : hp_M) : hp_Ct l yX9_cost cX9_cost 2 (some .int) 1 hp_IR (fun adr adV => [.ref (adr 13 0), .int a0]) hp_oi M (F_X9_cost a0 M) := by
  refine hp_start "HallPhoneModel" (fun adr adV => [(0, .ref (adr 13 0)), (1, .int a0)]) (by decide) rfl (fun _ _ => by simp only [lg_sl]; exact Nat.le_of_ble_eq_true rfl) (fun _ _ => rfl) ?_
  intro p e s m args below meth c A D ids adr adV cA rep G0 hI hC hr
  unfold F_X9_cost
  refine hz_aload_n (a := 0) (n := 1) hC dX9_cost_0 rfl rfl rfl ?_
  refine hz_iload_n (a := 1) (n := 2) hC dX9_cost_1 rfl rfl rfl ?_
  refine hz_iconst (v := (1 : Int32)) (n := 3) hC dX9_cost_2 (by decide +kernel) rfl ?_
  refine hz_bipush (v := (99 : Int32)) (n := 5) hC dX9_cost_3 (by decide +kernel) rfl ?_
  refine hz_callS (k := 3) (As := [.int a0, .int (1 : Int32), .int (99 : Int32)]) (st := [.ref (adr 13 0)]) (S1 := fun r => .int r :: [.ref (adr 13 0)]) (n := 8) hC (c_X9_in l a0 (1 : Int32) (99 : Int32)   M) ks_X9_in wd_6_198 hI dX9_cost_5 rfl rfl rfl (Nat.le_of_ble_eq_true rfl) ⟨Nat.le_of_ble_eq_true rfl, Nat.le_of_ble_eq_true rfl⟩ ⟨Nat.zero_le _, Nat.zero_le _⟩ (fun _ => rfl) rfl (fun r1 M1 _ => ?_)
  refine hz_if_ne (tgt := 15) (n := 11) hC dX9_cost_8 (by decide) rfl (fun _ => ?_) (fun _ => ?_)
  · refine hz_iconst (v := (1 : Int32)) (n := 12) hC dX9_cost_11 (by decide +kernel) rfl ?_
    refine hz_goto (n := 16) hC dX9_cost_12 (by decide) ?_
    refine hz_callV (k := 1) (As := [.int (1 : Int32)]) (st := []) (S1 := fun r => .int r :: []) (n := 19) hC (c_X9_throwsOne l (1 : Int32)   M1) kv_X9_throwsOne wd_7_181 hI dX9_cost_16 rfl (hI 0 (by decide)) he_X9 rfl rfl rfl (Nat.le_of_ble_eq_true rfl) ⟨Nat.le_of_ble_eq_true rfl, Nat.le_of_ble_eq_true rfl⟩ ⟨Nat.zero_le _, Nat.zero_le _⟩ (fun _ => rfl) rfl (fun r2 M2 _ => ?_)
    refine hz_if_eq (tgt := 26) (n := 22) hC dX9_cost_19 (by decide) rfl (fun _ => ?_) (fun _ => ?_)
    · refine hz_aload_n (a := 0) (n := 27) hC dX9_cost_26 rfl rfl rfl ?_
      refine hz_iload_n (a := 1) (n := 28) hC dX9_cost_27 rfl rfl rfl ?_
      refine hz_callV (k := 1) (As := [.int a0]) (st := []) (S1 := fun r => .int r :: []) (n := 31) hC (c_X9_costOf l a0   M2) kv_X9_costOf wd_7_41 hI dX9_cost_28 rfl (hI 0 (by decide)) he_X9 rfl rfl rfl (Nat.le_of_ble_eq_true rfl) ⟨Nat.le_of_ble_eq_true rfl, Nat.le_of_ble_eq_true rfl⟩ ⟨Nat.zero_le _, Nat.zero_le _⟩ (fun _ => rfl) rfl (fun r3 M3 _ => ?_)
      exact hz_iret hC hr dX9_cost_31
    · refine hz_iconst (v := (0 : Int32)) (n := 23) hC dX9_cost_22 (by decide +kernel) rfl ?_
      refine hz_goto (n := 31) hC dX9_cost_23 (by decide) ?_
      exact hz_iret hC hr dX9_cost_31
  · refine hz_iconst (v := (0 : Int32)) (n := 16) hC dX9_cost_15 (by decide +kernel) rfl ?_
    refine hz_callV (k := 1) (As := [.int (0 : Int32)]) (st := []) (S1 := fun r => .int r :: []) (n := 19) hC (c_X9_throwsOne l (0 : Int32)   M1) kv_X9_throwsOne wd_7_181 hI dX9_cost_16 rfl (hI 0 (by decide)) he_X9 rfl rfl rfl (Nat.le_of_ble_eq_true rfl) ⟨Nat.le_of_ble_eq_true rfl, Nat.le_of_ble_eq_true rfl⟩ ⟨Nat.zero_le _, Nat.zero_le _⟩ (fun _ => rfl) rfl (fun r4 M4 _ => ?_)
    refine hz_if_eq (tgt := 26) (n := 22) hC dX9_cost_19 (by decide) rfl (fun _ => ?_) (fun _ => ?_)
    · refine hz_aload_n (a := 0) (n := 27) hC dX9_cost_26 rfl rfl rfl ?_
      refine hz_iload_n (a := 1) (n := 28) hC dX9_cost_27 rfl rfl rfl ?_
      refine hz_callV (k := 1) (As := [.int a0]) (st := []) (S1 := fun r => .int r :: []) (n := 31) hC (c_X9_costOf l a0   M4) kv_X9_costOf wd_7_41 hI dX9_cost_28 rfl (hI 0 (by decide)) he_X9 rfl rfl rfl (Nat.le_of_ble_eq_true rfl) ⟨Nat.le_of_ble_eq_true rfl, Nat.le_of_ble_eq_true rfl⟩ ⟨Nat.zero_le _, Nat.zero_le _⟩ (fun _ => rfl) rfl (fun r5 M5 _ => ?_)
      exact hz_iret hC hr dX9_cost_31
    · refine hz_iconst (v := (0 : Int32)) (n := 23) hC dX9_cost_22 (by decide +kernel) rfl ?_
      refine hz_goto (n := 31) hC dX9_cost_23 (by decide) ?_
      exact hz_iret hC hr dX9_cost_31
def F_X9_reason (a0 : Int32) (M : hp_M) : Option (Int32 × hp_M) := (hp_b (F_X9_of a0 (2 : Int32) M) (fun r1 M1 => (if r1 = (0 : Int32) then (some ((1 : Int32), M1)) else (if r1 = (1 : Int32) then (some ((2 : Int32), M1)) else (if r1 = (2 : Int32) then (if (M1 13 1 2) = (2 : Int32) then (some ((3 : Int32), M1)) else (if (M1 13 1 2) = (1 : Int32) then (some ((4 : Int32), M1)) else (some ((5 : Int32), M1)))) else (if r1 = (3 : Int32) then (some ((0 : Int32), M1)) else (if (M1 13 1 2) = (2 : Int32) then (some ((3 : Int32), M1)) else (if (M1 13 1 2) = (1 : Int32) then (some ((4 : Int32), M1)) else (some ((5 : Int32), M1))))))))))
set_option maxRecDepth 20000 in
set_option maxHeartbeats 4000000 in
theorem c_X9_reason (l : Launch) (a0 : Int32)  (M : hp_M) : hp_Ct l yX9_reason cX9_reason 2 (some .int) 1 hp_IR (fun adr adV => [.ref (adr 13 0), .int a0]) hp_oi M (F_X9_reason a0 M) := by
  refine hp_start "HallPhoneModel" (fun adr adV => [(0, .ref (adr 13 0)), (1, .int a0)]) (by decide) rfl (fun _ _ => by simp only [lg_sl]; exact Nat.le_of_ble_eq_true rfl) (fun _ _ => rfl) ?_
  intro p e s m args below meth c A D ids adr adV cA rep G0 hI hC hr
  unfold F_X9_reason
  refine hz_aload_n (a := 0) (n := 1) hC dX9_reason_0 rfl rfl rfl ?_
  refine hz_iload_n (a := 1) (n := 2) hC dX9_reason_1 rfl rfl rfl ?_
  refine hz_iconst (v := (2 : Int32)) (n := 3) hC dX9_reason_2 (by decide +kernel) rfl ?_
  refine hz_callV (k := 2) (As := [.int a0, .int (2 : Int32)]) (st := []) (S1 := fun r => .int r :: []) (n := 6) hC (c_X9_of l a0 (2 : Int32)   M) kv_X9_of wd_7_7 hI dX9_reason_3 rfl (hI 0 (by decide)) he_X9 rfl rfl rfl (Nat.le_of_ble_eq_true rfl) ⟨Nat.le_of_ble_eq_true rfl, Nat.le_of_ble_eq_true rfl⟩ ⟨Nat.zero_le _, Nat.zero_le _⟩ (fun _ => rfl) rfl (fun r1 M1 _ => ?_)
  refine hz_case (fun hk0 => ?_) (fun hk0 => ?_)
  · refine hz_tabIn (n := 38) hC hk0 dX9_reason_6 (by decide +kernel) (by decide +kernel) (by rfl) (by decide +kernel) ?_
    refine hz_iconst (v := (1 : Int32)) (n := 39) hC dX9_reason_38 (by decide +kernel) rfl ?_
    exact hz_iret hC hr dX9_reason_39
  refine hz_case (fun hk1 => ?_) (fun hk1 => ?_)
  · refine hz_tabIn (n := 40) hC hk1 dX9_reason_6 (by decide +kernel) (by decide +kernel) (by rfl) (by decide +kernel) ?_
    refine hz_iconst (v := (2 : Int32)) (n := 41) hC dX9_reason_40 (by decide +kernel) rfl ?_
    exact hz_iret hC hr dX9_reason_41
  refine hz_case (fun hk2 => ?_) (fun hk2 => ?_)
  · refine hz_tabIn (n := 42) hC hk2 dX9_reason_6 (by decide +kernel) (by decide +kernel) (by rfl) (by decide +kernel) ?_
    refine hz_aload_n (a := 0) (n := 43) hC dX9_reason_42 rfl rfl rfl ?_
    refine fg_X9_7 (n := 46) hC hI dX9_reason_43 rfl ?_
    refine hz_iconst (v := (2 : Int32)) (n := 47) hC dX9_reason_46 (by decide +kernel) rfl ?_
    refine hz_ialdc (k := 2) (n := 48) hC (by decide +kernel) (by decide) dX9_reason_47 (hI 1 (by decide)) ha_m1 rfl ?_
    refine hz_iconst (v := (2 : Int32)) (n := 49) hC dX9_reason_48 (by decide +kernel) rfl ?_
    refine hz_icmp_ne (tgt := 56) (n := 52) hC dX9_reason_49 (by decide) rfl (fun _ => ?_) (fun _ => ?_)
    · refine hz_iconst (v := (3 : Int32)) (n := 53) hC dX9_reason_52 (by decide +kernel) rfl ?_
      refine hz_goto (n := 71) hC dX9_reason_53 (by decide) ?_
      exact hz_iret hC hr dX9_reason_71
    · refine hz_aload_n (a := 0) (n := 57) hC dX9_reason_56 rfl rfl rfl ?_
      refine fg_X9_7 (n := 60) hC hI dX9_reason_57 rfl ?_
      refine hz_iconst (v := (2 : Int32)) (n := 61) hC dX9_reason_60 (by decide +kernel) rfl ?_
      refine hz_ialdc (k := 2) (n := 62) hC (by decide +kernel) (by decide) dX9_reason_61 (hI 1 (by decide)) ha_m1 rfl ?_
      refine hz_iconst (v := (1 : Int32)) (n := 63) hC dX9_reason_62 (by decide +kernel) rfl ?_
      refine hz_icmp_ne (tgt := 70) (n := 66) hC dX9_reason_63 (by decide) rfl (fun _ => ?_) (fun _ => ?_)
      · refine hz_iconst (v := (4 : Int32)) (n := 67) hC dX9_reason_66 (by decide +kernel) rfl ?_
        refine hz_goto (n := 71) hC dX9_reason_67 (by decide) ?_
        exact hz_iret hC hr dX9_reason_71
      · refine hz_iconst (v := (5 : Int32)) (n := 71) hC dX9_reason_70 (by decide +kernel) rfl ?_
        exact hz_iret hC hr dX9_reason_71
  refine hz_case (fun hk3 => ?_) (fun hk3 => ?_)
  · refine hz_tabIn (n := 36) hC hk3 dX9_reason_6 (by decide +kernel) (by decide +kernel) (by rfl) (by decide +kernel) ?_
    refine hz_iconst (v := (0 : Int32)) (n := 37) hC dX9_reason_36 (by decide +kernel) rfl ?_
    exact hz_iret hC hr dX9_reason_37
  refine hz_tabOut (n := 42) hC (hp_out 4 (by decide) (fun k hk => by
    rcases (show k = 0 ∨ k = 1 ∨ k = 2 ∨ k = 3 by omega) with rfl | rfl | rfl | rfl
    · exact fun e => hk0 (Int32.toInt_inj.mp (e.trans (by decide +kernel)))
    · exact fun e => hk1 (Int32.toInt_inj.mp (e.trans (by decide +kernel)))
    · exact fun e => hk2 (Int32.toInt_inj.mp (e.trans (by decide +kernel)))
    · exact fun e => hk3 (Int32.toInt_inj.mp (e.trans (by decide +kernel)))
    )) dX9_reason_6 (by decide +kernel) ?_
  refine hz_aload_n (a := 0) (n := 43) hC dX9_reason_42 rfl rfl rfl ?_
  refine fg_X9_7 (n := 46) hC hI dX9_reason_43 rfl ?_
  refine hz_iconst (v := (2 : Int32)) (n := 47) hC dX9_reason_46 (by decide +kernel) rfl ?_
  refine hz_ialdc (k := 2) (n := 48) hC (by decide +kernel) (by decide) dX9_reason_47 (hI 1 (by decide)) ha_m1 rfl ?_
  refine hz_iconst (v := (2 : Int32)) (n := 49) hC dX9_reason_48 (by decide +kernel) rfl ?_
  refine hz_icmp_ne (tgt := 56) (n := 52) hC dX9_reason_49 (by decide) rfl (fun _ => ?_) (fun _ => ?_)
  · refine hz_iconst (v := (3 : Int32)) (n := 53) hC dX9_reason_52 (by decide +kernel) rfl ?_
    refine hz_goto (n := 71) hC dX9_reason_53 (by decide) ?_
    exact hz_iret hC hr dX9_reason_71
  · refine hz_aload_n (a := 0) (n := 57) hC dX9_reason_56 rfl rfl rfl ?_
    refine fg_X9_7 (n := 60) hC hI dX9_reason_57 rfl ?_
    refine hz_iconst (v := (2 : Int32)) (n := 61) hC dX9_reason_60 (by decide +kernel) rfl ?_
    refine hz_ialdc (k := 2) (n := 62) hC (by decide +kernel) (by decide) dX9_reason_61 (hI 1 (by decide)) ha_m1 rfl ?_
    refine hz_iconst (v := (1 : Int32)) (n := 63) hC dX9_reason_62 (by decide +kernel) rfl ?_
    refine hz_icmp_ne (tgt := 70) (n := 66) hC dX9_reason_63 (by decide) rfl (fun _ => ?_) (fun _ => ?_)
    · refine hz_iconst (v := (4 : Int32)) (n := 67) hC dX9_reason_66 (by decide +kernel) rfl ?_
      refine hz_goto (n := 71) hC dX9_reason_67 (by decide) ?_
      exact hz_iret hC hr dX9_reason_71
    · refine hz_iconst (v := (5 : Int32)) (n := 71) hC dX9_reason_70 (by decide +kernel) rfl ?_
      exact hz_iret hC hr dX9_reason_71
def A_X9_why_28 (a0 : Int32) (a1 : Int32)  (z28_0 : Int32) (z28_1 : Int32) (M : hp_M) : Option (Int32 × hp_M) := (hp_b (F_X9_throwsOne_ z28_1 z28_0 M) (fun r3 M3 => (if r3 = 0 then (hp_b (F_X9_reason a0 M3) (fun r4 M4 => (if a1 = 0 then (some (r4, M4)) else (if r4 = (0 : Int32) then (some ((M4 13 1 4), M4)) else (if r4 = (1 : Int32) then (hp_b (F_X9_messagesFor a0 M4) (fun r5 M5 => (some (r5, M5)))) else (if r4 = (2 : Int32) then (hp_b (F_X9_of a0 (3 : Int32) M4) (fun r6 M6 => (some (r6, M6)))) else (if r4 = (3 : Int32) then (some ((M4 13 1 3), M4)) else (if r4 = (4 : Int32) then (some ((M4 13 1 3), M4)) else (if r4 = (5 : Int32) then (hp_b (F_X9_placeOf a0 M4) (fun r7 M7 => (some (r7, M7)))) else (some ((M4 13 1 3), M4))))))))))) else (some ((0 : Int32), M3)))))
def A_X9_why_14 (a0 : Int32) (a1 : Int32)  (z14_0 : Int32) (M : hp_M) : Option (Int32 × hp_M) := (hp_b (F_X9_in a1 (0 : Int32) (1 : Int32) M) (fun r2 M2 => (if r2 = 0 then (A_X9_why_28 a0 a1 (1 : Int32) z14_0 M2) else (A_X9_why_28 a0 a1 (0 : Int32) z14_0 M2))))
def F_X9_why (a0 : Int32) (a1 : Int32) (M : hp_M) : Option (Int32 × hp_M) := (hp_b (F_X9_isFlat a0 M) (fun r1 M1 => (if r1 = 0 then (A_X9_why_14 a0 a1 (1 : Int32) M1) else (A_X9_why_14 a0 a1 (0 : Int32) M1))))
set_option maxRecDepth 20000 in
set_option maxHeartbeats 4000000 in
theorem c_X9_why (l : Launch) (a0 : Int32) (a1 : Int32)  (M : hp_M) : hp_Ct l yX9_why cX9_why 4 (some .int) 2 hp_IR (fun adr adV => [.ref (adr 13 0), .int a0, .int a1]) hp_oi M (F_X9_why a0 a1 M) := by
  refine hp_start "HallPhoneModel" (fun adr adV => [(0, .ref (adr 13 0)), (1, .int a0), (2, .int a1)]) (by decide) rfl (fun _ _ => by simp only [lg_sl]; exact Nat.le_of_ble_eq_true rfl) (fun _ _ => rfl) ?_
  intro p e s m args below meth c A D ids adr adV cA rep G0 hI hC hr
  unfold F_X9_why
  have j28 : ∀ (z28_0 : Int32) (z28_1 : Int32) (M : hp_M), hp_Z p l e (hp_rm 2) s m args below meth c 4 A D ids adr adV cA 0 0 (MQ below (hp_Q A D ids adr adV cA rep hp_oi G0) args s 0 0 A) G0 rep 28 [(0, .ref (adr 13 0)), (1, .int a0), (2, .int a1)] [.int z28_0, .int z28_1, .ref (adr 13 0)] M (A_X9_why_28 a0 a1 z28_0 z28_1 M) := by
    intro z28_0 z28_1 M
    unfold A_X9_why_28
    refine hz_callV (k := 2) (As := [.int z28_1, .int z28_0]) (st := []) (S1 := fun r => .int r :: []) (n := 31) hC (c_X9_throwsOne_ l z28_1 z28_0   M) kv_X9_throwsOne_ wd_7_217 hI dX9_why_28 rfl (hI 0 (by decide)) he_X9 rfl rfl rfl (Nat.le_of_ble_eq_true rfl) ⟨Nat.le_of_ble_eq_true rfl, Nat.le_of_ble_eq_true rfl⟩ ⟨Nat.zero_le _, Nat.zero_le _⟩ (fun _ => rfl) rfl (fun r3 M3 _ => ?_)
    refine hz_if_eq (tgt := 36) (n := 34) hC dX9_why_31 (by decide) rfl (fun _ => ?_) (fun _ => ?_)
    · refine hz_aload_n (a := 0) (n := 37) hC dX9_why_36 rfl rfl rfl ?_
      refine hz_iload_n (a := 1) (n := 38) hC dX9_why_37 rfl rfl rfl ?_
      refine hz_callV (k := 1) (As := [.int a0]) (st := []) (S1 := fun r => .int r :: []) (n := 41) hC (c_X9_reason l a0   M3) kv_X9_reason wd_8_32 hI dX9_why_38 rfl (hI 0 (by decide)) he_X9 rfl rfl rfl (Nat.le_of_ble_eq_true rfl) ⟨Nat.le_of_ble_eq_true rfl, Nat.le_of_ble_eq_true rfl⟩ ⟨Nat.zero_le _, Nat.zero_le _⟩ (fun _ => rfl) rfl (fun r4 M4 _ => ?_)
      refine hz_istore_n (L' := [(3, .int r4), (0, .ref (adr 13 0)), (1, .int a0), (2, .int a1)]) (n := 42) hC dX9_why_41 rfl (by decide) rfl rfl ?_
      refine hz_iload_n (a := 3) (n := 43) hC dX9_why_42 rfl rfl rfl ?_
      refine hz_if_ne (tgt := 48) (n := 46) hC dX9_why_43 (by decide) rfl (fun _ => ?_) (fun _ => ?_)
      · refine hz_iload_n (a := 0) (n := 47) hC dX9_why_46 rfl rfl rfl ?_
        exact hz_iret hC hr dX9_why_47
      · refine hz_iload_n (a := 0) (n := 49) hC dX9_why_48 rfl rfl rfl ?_
        refine hz_case (fun hk0 => ?_) (fun hk0 => ?_)
        · refine hz_tabIn (n := 88) hC hk0 dX9_why_49 (by decide +kernel) (by decide +kernel) (by rfl) (by decide +kernel) ?_
          refine hz_aload_n (a := 1) (n := 89) hC dX9_why_88 rfl rfl rfl ?_
          refine fg_X9_7 (n := 92) hC hI dX9_why_89 rfl ?_
          refine hz_iconst (v := (4 : Int32)) (n := 93) hC dX9_why_92 (by decide +kernel) rfl ?_
          refine hz_ialdc (k := 4) (n := 94) hC (by decide +kernel) (by decide) dX9_why_93 (hI 1 (by decide)) ha_m1 rfl ?_
          exact hz_iret hC hr dX9_why_94
        refine hz_case (fun hk1 => ?_) (fun hk1 => ?_)
        · refine hz_tabIn (n := 95) hC hk1 dX9_why_49 (by decide +kernel) (by decide +kernel) (by rfl) (by decide +kernel) ?_
          refine hz_aload_n (a := 1) (n := 96) hC dX9_why_95 rfl rfl rfl ?_
          refine hz_iload_n (a := 2) (n := 97) hC dX9_why_96 rfl rfl rfl ?_
          refine hz_callV (k := 1) (As := [.int a0]) (st := []) (S1 := fun r => .int r :: []) (n := 100) hC (c_X9_messagesFor l a0   M4) kv_X9_messagesFor wd_7_225 hI dX9_why_97 rfl (hI 0 (by decide)) he_X9 rfl rfl rfl (Nat.le_of_ble_eq_true rfl) ⟨Nat.le_of_ble_eq_true rfl, Nat.le_of_ble_eq_true rfl⟩ ⟨Nat.zero_le _, Nat.zero_le _⟩ (fun _ => rfl) rfl (fun r5 M5 _ => ?_)
          exact hz_iret hC hr dX9_why_100
        refine hz_case (fun hk2 => ?_) (fun hk2 => ?_)
        · refine hz_tabIn (n := 101) hC hk2 dX9_why_49 (by decide +kernel) (by decide +kernel) (by rfl) (by decide +kernel) ?_
          refine hz_aload_n (a := 1) (n := 102) hC dX9_why_101 rfl rfl rfl ?_
          refine hz_iload_n (a := 2) (n := 103) hC dX9_why_102 rfl rfl rfl ?_
          refine hz_iconst (v := (3 : Int32)) (n := 104) hC dX9_why_103 (by decide +kernel) rfl ?_
          refine hz_callV (k := 2) (As := [.int a0, .int (3 : Int32)]) (st := []) (S1 := fun r => .int r :: []) (n := 107) hC (c_X9_of l a0 (3 : Int32)   M4) kv_X9_of wd_7_7 hI dX9_why_104 rfl (hI 0 (by decide)) he_X9 rfl rfl rfl (Nat.le_of_ble_eq_true rfl) ⟨Nat.le_of_ble_eq_true rfl, Nat.le_of_ble_eq_true rfl⟩ ⟨Nat.zero_le _, Nat.zero_le _⟩ (fun _ => rfl) rfl (fun r6 M6 _ => ?_)
          exact hz_iret hC hr dX9_why_107
        refine hz_case (fun hk3 => ?_) (fun hk3 => ?_)
        · refine hz_tabIn (n := 114) hC hk3 dX9_why_49 (by decide +kernel) (by decide +kernel) (by rfl) (by decide +kernel) ?_
          refine hz_aload_n (a := 1) (n := 115) hC dX9_why_114 rfl rfl rfl ?_
          refine fg_X9_7 (n := 118) hC hI dX9_why_115 rfl ?_
          refine hz_iconst (v := (3 : Int32)) (n := 119) hC dX9_why_118 (by decide +kernel) rfl ?_
          refine hz_ialdc (k := 3) (n := 120) hC (by decide +kernel) (by decide) dX9_why_119 (hI 1 (by decide)) ha_m1 rfl ?_
          exact hz_iret hC hr dX9_why_120
        refine hz_case (fun hk4 => ?_) (fun hk4 => ?_)
        · refine hz_tabIn (n := 114) hC hk4 dX9_why_49 (by decide +kernel) (by decide +kernel) (by rfl) (by decide +kernel) ?_
          refine hz_aload_n (a := 1) (n := 115) hC dX9_why_114 rfl rfl rfl ?_
          refine fg_X9_7 (n := 118) hC hI dX9_why_115 rfl ?_
          refine hz_iconst (v := (3 : Int32)) (n := 119) hC dX9_why_118 (by decide +kernel) rfl ?_
          refine hz_ialdc (k := 3) (n := 120) hC (by decide +kernel) (by decide) dX9_why_119 (hI 1 (by decide)) ha_m1 rfl ?_
          exact hz_iret hC hr dX9_why_120
        refine hz_case (fun hk5 => ?_) (fun hk5 => ?_)
        · refine hz_tabIn (n := 108) hC hk5 dX9_why_49 (by decide +kernel) (by decide +kernel) (by rfl) (by decide +kernel) ?_
          refine hz_aload_n (a := 1) (n := 109) hC dX9_why_108 rfl rfl rfl ?_
          refine hz_iload_n (a := 2) (n := 110) hC dX9_why_109 rfl rfl rfl ?_
          refine hz_callV (k := 1) (As := [.int a0]) (st := []) (S1 := fun r => .int r :: []) (n := 113) hC (c_X9_placeOf l a0   M4) kv_X9_placeOf wd_7_28 hI dX9_why_110 rfl (hI 0 (by decide)) he_X9 rfl rfl rfl (Nat.le_of_ble_eq_true rfl) ⟨Nat.le_of_ble_eq_true rfl, Nat.le_of_ble_eq_true rfl⟩ ⟨Nat.zero_le _, Nat.zero_le _⟩ (fun _ => rfl) rfl (fun r7 M7 _ => ?_)
          exact hz_iret hC hr dX9_why_113
        refine hz_tabOut (n := 114) hC (hp_out 6 (by decide) (fun k hk => by
          rcases (show k = 0 ∨ k = 1 ∨ k = 2 ∨ k = 3 ∨ k = 4 ∨ k = 5 by omega) with rfl | rfl | rfl | rfl | rfl | rfl
          · exact fun e => hk0 (Int32.toInt_inj.mp (e.trans (by decide +kernel)))
          · exact fun e => hk1 (Int32.toInt_inj.mp (e.trans (by decide +kernel)))
          · exact fun e => hk2 (Int32.toInt_inj.mp (e.trans (by decide +kernel)))
          · exact fun e => hk3 (Int32.toInt_inj.mp (e.trans (by decide +kernel)))
          · exact fun e => hk4 (Int32.toInt_inj.mp (e.trans (by decide +kernel)))
          · exact fun e => hk5 (Int32.toInt_inj.mp (e.trans (by decide +kernel)))
          )) dX9_why_49 (by decide +kernel) ?_
        refine hz_aload_n (a := 1) (n := 115) hC dX9_why_114 rfl rfl rfl ?_
        refine fg_X9_7 (n := 118) hC hI dX9_why_115 rfl ?_
        refine hz_iconst (v := (3 : Int32)) (n := 119) hC dX9_why_118 (by decide +kernel) rfl ?_
        refine hz_ialdc (k := 3) (n := 120) hC (by decide +kernel) (by decide) dX9_why_119 (hI 1 (by decide)) ha_m1 rfl ?_
        exact hz_iret hC hr dX9_why_120
    · refine hz_iconst (v := (0 : Int32)) (n := 35) hC dX9_why_34 (by decide +kernel) rfl ?_
      exact hz_iret hC hr dX9_why_35
  have j14 : ∀ (z14_0 : Int32) (M : hp_M), hp_Z p l e (hp_rm 2) s m args below meth c 4 A D ids adr adV cA 0 0 (MQ below (hp_Q A D ids adr adV cA rep hp_oi G0) args s 0 0 A) G0 rep 14 [(0, .ref (adr 13 0)), (1, .int a0), (2, .int a1)] [.int z14_0, .ref (adr 13 0)] M (A_X9_why_14 a0 a1 z14_0 M) := by
    intro z14_0 M
    unfold A_X9_why_14
    refine hz_iload_n (a := 2) (n := 15) hC dX9_why_14 rfl rfl rfl ?_
    refine hz_iconst (v := (0 : Int32)) (n := 16) hC dX9_why_15 (by decide +kernel) rfl ?_
    refine hz_iconst (v := (1 : Int32)) (n := 17) hC dX9_why_16 (by decide +kernel) rfl ?_
    refine hz_callS (k := 3) (As := [.int a1, .int (0 : Int32), .int (1 : Int32)]) (st := [.int z14_0, .ref (adr 13 0)]) (S1 := fun r => .int r :: [.int z14_0, .ref (adr 13 0)]) (n := 20) hC (c_X9_in l a1 (0 : Int32) (1 : Int32)   M) ks_X9_in wd_6_198 hI dX9_why_17 rfl rfl rfl (Nat.le_of_ble_eq_true rfl) ⟨Nat.le_of_ble_eq_true rfl, Nat.le_of_ble_eq_true rfl⟩ ⟨Nat.zero_le _, Nat.zero_le _⟩ (fun _ => rfl) rfl (fun r2 M2 _ => ?_)
    refine hz_if_ne (tgt := 27) (n := 23) hC dX9_why_20 (by decide) rfl (fun _ => ?_) (fun _ => ?_)
    · refine hz_iconst (v := (1 : Int32)) (n := 24) hC dX9_why_23 (by decide +kernel) rfl ?_
      refine hz_goto (n := 28) hC dX9_why_24 (by decide) ?_
      exact j28 _ _ _
    · refine hz_iconst (v := (0 : Int32)) (n := 28) hC dX9_why_27 (by decide +kernel) rfl ?_
      exact j28 _ _ _
  refine hz_aload_n (a := 0) (n := 1) hC dX9_why_0 rfl rfl rfl ?_
  refine hz_aload_n (a := 0) (n := 2) hC dX9_why_1 rfl rfl rfl ?_
  refine hz_iload_n (a := 1) (n := 3) hC dX9_why_2 rfl rfl rfl ?_
  refine hz_callV (k := 1) (As := [.int a0]) (st := [.ref (adr 13 0)]) (S1 := fun r => .int r :: [.ref (adr 13 0)]) (n := 6) hC (c_X9_isFlat l a0   M) kv_X9_isFlat wd_7_213 hI dX9_why_3 rfl (hI 0 (by decide)) he_X9 rfl rfl rfl (Nat.le_of_ble_eq_true rfl) ⟨Nat.le_of_ble_eq_true rfl, Nat.le_of_ble_eq_true rfl⟩ ⟨Nat.zero_le _, Nat.zero_le _⟩ (fun _ => rfl) rfl (fun r1 M1 _ => ?_)
  refine hz_if_ne (tgt := 13) (n := 9) hC dX9_why_6 (by decide) rfl (fun _ => ?_) (fun _ => ?_)
  · refine hz_iconst (v := (1 : Int32)) (n := 10) hC dX9_why_9 (by decide +kernel) rfl ?_
    refine hz_goto (n := 14) hC dX9_why_10 (by decide) ?_
    exact j14 _ _
  · refine hz_iconst (v := (0 : Int32)) (n := 14) hC dX9_why_13 (by decide +kernel) rfl ?_
    exact j14 _ _
def L_X9_tillSpeaks_2 (a0 : Int32)   : Nat → Int32 → hp_M → Option (Int32 × hp_M)
  | 0, _, _ => none
  | n2 + 1, x2, M => (if (500 : Int32) < x2 then (some ((-1 : Int32), M)) else (hp_b (F_X9_of a0 (2 : Int32) M) (fun r1 M1 => (if r1 = (3 : Int32) then (some (x2, M1)) else (hp_b (F_X9_minute M1) (fun _ M2 => (L_X9_tillSpeaks_2 a0 n2 (x2 + (1 : Int32)) M2)))))))
def F_X9_tillSpeaks (a0 : Int32) (M : hp_M) : Option (Int32 × hp_M) := (L_X9_tillSpeaks_2 a0 hp_fu (0 : Int32) M)
set_option maxRecDepth 20000 in
set_option maxHeartbeats 4000000 in
theorem c_X9_tillSpeaks (l : Launch) (a0 : Int32)  (M : hp_M) : hp_Ct l yX9_tillSpeaks cX9_tillSpeaks 3 (some .int) 4 hp_IR (fun adr adV => [.ref (adr 13 0), .int a0]) hp_oi M (F_X9_tillSpeaks a0 M) := by
  refine hp_start "HallPhoneModel" (fun adr adV => [(0, .ref (adr 13 0)), (1, .int a0)]) (by decide) rfl (fun _ _ => by simp only [lg_sl]; exact Nat.le_of_ble_eq_true rfl) (fun _ _ => rfl) ?_
  intro p e s m args below meth c A D ids adr adV cA rep G0 hI hC hr
  unfold F_X9_tillSpeaks
  have l2 : ∀  (n2 : Nat) (x2 : Int32) (M : hp_M), hp_Z p l e (hp_rm 4) s m args below meth c 3 A D ids adr adV cA 0 0 (MQ below (hp_Q A D ids adr adV cA rep hp_oi G0) args s 0 0 A) G0 rep 2 [(0, .ref (adr 13 0)), (1, .int a0), (2, .int x2)] [] M (L_X9_tillSpeaks_2 a0 n2 x2 M) := by
    intro  n2
    induction n2 with
    | zero => intro x2 M; exact hz_none hC
    | succ n2 ih2 =>
      intro x2 M
      rw [L_X9_tillSpeaks_2.eq_2]
      refine hz_iload_n (a := 2) (n := 3) hC dX9_tillSpeaks_2 rfl rfl rfl ?_
      refine hz_sipush (v := (500 : Int32)) (n := 6) hC dX9_tillSpeaks_3 (by decide +kernel) rfl ?_
      refine hz_icmp_gt (tgt := 31) (n := 9) hC dX9_tillSpeaks_6 (by decide) rfl (fun _ => ?_) (fun _ => ?_)
      · refine hz_iconst (v := (-1 : Int32)) (n := 32) hC dX9_tillSpeaks_31 (by decide +kernel) rfl ?_
        exact hz_iret hC hr dX9_tillSpeaks_32
      · refine hz_aload_n (a := 0) (n := 10) hC dX9_tillSpeaks_9 rfl rfl rfl ?_
        refine hz_iload_n (a := 1) (n := 11) hC dX9_tillSpeaks_10 rfl rfl rfl ?_
        refine hz_iconst (v := (2 : Int32)) (n := 12) hC dX9_tillSpeaks_11 (by decide +kernel) rfl ?_
        refine hz_callV (k := 2) (As := [.int a0, .int (2 : Int32)]) (st := []) (S1 := fun r => .int r :: []) (n := 15) hC (c_X9_of l a0 (2 : Int32)   M) kv_X9_of wd_7_7 hI dX9_tillSpeaks_12 rfl (hI 0 (by decide)) he_X9 rfl rfl rfl (Nat.le_of_ble_eq_true rfl) ⟨Nat.le_of_ble_eq_true rfl, Nat.le_of_ble_eq_true rfl⟩ ⟨Nat.zero_le _, Nat.zero_le _⟩ (fun _ => rfl) rfl (fun r1 M1 _ => ?_)
        refine hz_iconst (v := (3 : Int32)) (n := 16) hC dX9_tillSpeaks_15 (by decide +kernel) rfl ?_
        refine hz_icmp_ne (tgt := 21) (n := 19) hC dX9_tillSpeaks_16 (by decide) rfl (fun _ => ?_) (fun _ => ?_)
        · refine hz_iload_n (a := 2) (n := 20) hC dX9_tillSpeaks_19 rfl rfl rfl ?_
          exact hz_iret hC hr dX9_tillSpeaks_20
        · refine hz_aload_n (a := 0) (n := 22) hC dX9_tillSpeaks_21 rfl rfl rfl ?_
          refine hz_callV (k := 0) (As := []) (st := []) (S1 := fun _ => []) (n := 25) hC (c_X9_minute l    M1) kv_X9_minute wd_7_80 hI dX9_tillSpeaks_22 rfl (hI 0 (by decide)) he_X9 rfl rfl rfl (Nat.le_of_ble_eq_true rfl) ⟨Nat.le_of_ble_eq_true rfl, Nat.le_of_ble_eq_true rfl⟩ ⟨Nat.zero_le _, Nat.zero_le _⟩ (fun _ => rfl) rfl (fun r2 M2 _ => ?_)
          refine hz_iinc (a := 2) (v := (x2 + (1 : Int32))) (L' := [(2, .int (x2 + (1 : Int32))), (0, .ref (adr 13 0)), (1, .int a0)]) (n := 28) hC dX9_tillSpeaks_25 rfl rfl (by decide) rfl rfl ?_
          refine hz_goto (n := 2) hC dX9_tillSpeaks_28 (by decide) ?_
          refine hz_L (L' := [(0, .ref (adr 13 0)), (1, .int a0), (2, .int (x2 + (1 : Int32)))]) [1, 2, 0] rfl ?_
          exact ih2 _ _
  refine hz_iconst (v := (0 : Int32)) (n := 1) hC dX9_tillSpeaks_0 (by decide +kernel) rfl ?_
  refine hz_istore_n (L' := [(2, .int (0 : Int32)), (0, .ref (adr 13 0)), (1, .int a0)]) (n := 2) hC dX9_tillSpeaks_1 rfl (by decide) rfl rfl ?_
  refine hz_L (L' := [(0, .ref (adr 13 0)), (1, .int a0), (2, .int (0 : Int32))]) [1, 2, 0] rfl ?_
  exact l2 hp_fu _ _
def A_X9_speaksIn_14 (a0 : Int32)  (z14_0 : Int32) (M : hp_M) : Option (Int32 × hp_M) := (hp_b (F_X9_throwsOne z14_0 M) (fun r2 M2 => (if r2 = 0 then (hp_b (F_X9_setAside M2) (fun _ M3 => (hp_b (F_X9_tillSpeaks a0 M3) (fun r4 M4 => (hp_b (F_X9_bringBack M4) (fun _ M5 => (some (r4, M5)))))))) else (some ((0 : Int32), M2)))))
def F_X9_speaksIn (a0 : Int32) (M : hp_M) : Option (Int32 × hp_M) := (hp_b (F_X9_isFlat a0 M) (fun r1 M1 => (if r1 = 0 then (A_X9_speaksIn_14 a0 (1 : Int32) M1) else (A_X9_speaksIn_14 a0 (0 : Int32) M1))))
set_option maxRecDepth 20000 in
set_option maxHeartbeats 4000000 in
theorem c_X9_speaksIn (l : Launch) (a0 : Int32)  (M : hp_M) : hp_Ct l yX9_speaksIn cX9_speaksIn 3 (some .int) 5 hp_IR (fun adr adV => [.ref (adr 13 0), .int a0]) hp_oi M (F_X9_speaksIn a0 M) := by
  refine hp_start "HallPhoneModel" (fun adr adV => [(0, .ref (adr 13 0)), (1, .int a0)]) (by decide) rfl (fun _ _ => by simp only [lg_sl]; exact Nat.le_of_ble_eq_true rfl) (fun _ _ => rfl) ?_
  intro p e s m args below meth c A D ids adr adV cA rep G0 hI hC hr
  unfold F_X9_speaksIn
  have j14 : ∀ (z14_0 : Int32) (M : hp_M), hp_Z p l e (hp_rm 5) s m args below meth c 3 A D ids adr adV cA 0 0 (MQ below (hp_Q A D ids adr adV cA rep hp_oi G0) args s 0 0 A) G0 rep 14 [(0, .ref (adr 13 0)), (1, .int a0)] [.int z14_0, .ref (adr 13 0)] M (A_X9_speaksIn_14 a0 z14_0 M) := by
    intro z14_0 M
    unfold A_X9_speaksIn_14
    refine hz_callV (k := 1) (As := [.int z14_0]) (st := []) (S1 := fun r => .int r :: []) (n := 17) hC (c_X9_throwsOne l z14_0   M) kv_X9_throwsOne wd_7_181 hI dX9_speaksIn_14 rfl (hI 0 (by decide)) he_X9 rfl rfl rfl (Nat.le_of_ble_eq_true rfl) ⟨Nat.le_of_ble_eq_true rfl, Nat.le_of_ble_eq_true rfl⟩ ⟨Nat.zero_le _, Nat.zero_le _⟩ (fun _ => rfl) rfl (fun r2 M2 _ => ?_)
    refine hz_if_eq (tgt := 22) (n := 20) hC dX9_speaksIn_17 (by decide) rfl (fun _ => ?_) (fun _ => ?_)
    · refine hz_aload_n (a := 0) (n := 23) hC dX9_speaksIn_22 rfl rfl rfl ?_
      refine hz_callV (k := 0) (As := []) (st := []) (S1 := fun _ => []) (n := 26) hC (c_X9_setAside l    M2) kv_X9_setAside wd_8_40 hI dX9_speaksIn_23 rfl (hI 0 (by decide)) he_X9 rfl rfl rfl (Nat.le_of_ble_eq_true rfl) ⟨Nat.le_of_ble_eq_true rfl, Nat.le_of_ble_eq_true rfl⟩ ⟨Nat.zero_le _, Nat.zero_le _⟩ (fun _ => rfl) rfl (fun r3 M3 _ => ?_)
      refine hz_aload_n (a := 0) (n := 27) hC dX9_speaksIn_26 rfl rfl rfl ?_
      refine hz_iload_n (a := 1) (n := 28) hC dX9_speaksIn_27 rfl rfl rfl ?_
      refine hz_callV (k := 1) (As := [.int a0]) (st := []) (S1 := fun r => .int r :: []) (n := 31) hC (c_X9_tillSpeaks l a0   M3) kv_X9_tillSpeaks wd_8_44 hI dX9_speaksIn_28 rfl (hI 0 (by decide)) he_X9 rfl rfl rfl (Nat.le_of_ble_eq_true rfl) ⟨Nat.le_of_ble_eq_true rfl, Nat.le_of_ble_eq_true rfl⟩ ⟨Nat.zero_le _, Nat.zero_le _⟩ (fun _ => rfl) rfl (fun r4 M4 _ => ?_)
      refine hz_istore_n (L' := [(2, .int r4), (0, .ref (adr 13 0)), (1, .int a0)]) (n := 32) hC dX9_speaksIn_31 rfl (by decide) rfl rfl ?_
      refine hz_aload_n (a := 1) (n := 33) hC dX9_speaksIn_32 rfl rfl rfl ?_
      refine hz_callV (k := 0) (As := []) (st := []) (S1 := fun _ => []) (n := 36) hC (c_X9_bringBack l    M4) kv_X9_bringBack wd_8_48 hI dX9_speaksIn_33 rfl (hI 0 (by decide)) he_X9 rfl rfl rfl (Nat.le_of_ble_eq_true rfl) ⟨Nat.le_of_ble_eq_true rfl, Nat.le_of_ble_eq_true rfl⟩ ⟨Nat.zero_le _, Nat.zero_le _⟩ (fun _ => rfl) rfl (fun r5 M5 _ => ?_)
      refine hz_iload_n (a := 0) (n := 37) hC dX9_speaksIn_36 rfl rfl rfl ?_
      exact hz_iret hC hr dX9_speaksIn_37
    · refine hz_iconst (v := (0 : Int32)) (n := 21) hC dX9_speaksIn_20 (by decide +kernel) rfl ?_
      exact hz_iret hC hr dX9_speaksIn_21
  refine hz_aload_n (a := 0) (n := 1) hC dX9_speaksIn_0 rfl rfl rfl ?_
  refine hz_aload_n (a := 0) (n := 2) hC dX9_speaksIn_1 rfl rfl rfl ?_
  refine hz_iload_n (a := 1) (n := 3) hC dX9_speaksIn_2 rfl rfl rfl ?_
  refine hz_callV (k := 1) (As := [.int a0]) (st := [.ref (adr 13 0)]) (S1 := fun r => .int r :: [.ref (adr 13 0)]) (n := 6) hC (c_X9_isFlat l a0   M) kv_X9_isFlat wd_7_213 hI dX9_speaksIn_3 rfl (hI 0 (by decide)) he_X9 rfl rfl rfl (Nat.le_of_ble_eq_true rfl) ⟨Nat.le_of_ble_eq_true rfl, Nat.le_of_ble_eq_true rfl⟩ ⟨Nat.zero_le _, Nat.zero_le _⟩ (fun _ => rfl) rfl (fun r1 M1 _ => ?_)
  refine hz_if_ne (tgt := 13) (n := 9) hC dX9_speaksIn_6 (by decide) rfl (fun _ => ?_) (fun _ => ?_)
  · refine hz_iconst (v := (1 : Int32)) (n := 10) hC dX9_speaksIn_9 (by decide +kernel) rfl ?_
    refine hz_goto (n := 14) hC dX9_speaksIn_10 (by decide) ?_
    exact j14 _ _
  · refine hz_iconst (v := (0 : Int32)) (n := 14) hC dX9_speaksIn_13 (by decide +kernel) rfl ?_
    exact j14 _ _
def L_X9_freeIn_11    : Nat → Int32 → hp_M → Option (Int32 × hp_M)
  | 0, _, _ => none
  | n11 + 1, x1, M => (if (500 : Int32) < x1 then (hp_b (F_X9_bringBack M) (fun _ M2 => (if (500 : Int32) < x1 then (some ((-1 : Int32), M2)) else (some (x1, M2))))) else (if (M 13 1 2) = 0 then (hp_b (F_X9_bringBack M) (fun _ M3 => (if (500 : Int32) < x1 then (some ((-1 : Int32), M3)) else (some (x1, M3))))) else (hp_b (F_X9_minute M) (fun _ M4 => (L_X9_freeIn_11  n11 (x1 + (1 : Int32)) M4)))))
def F_X9_freeIn  (M : hp_M) : Option (Int32 × hp_M) := (hp_b (F_X9_setAside (hp_p M 13 0 13 (0 : Int32))) (fun _ M1 => (L_X9_freeIn_11 hp_fu (0 : Int32) M1)))
set_option maxRecDepth 20000 in
set_option maxHeartbeats 4000000 in
theorem c_X9_freeIn (l : Launch)   (M : hp_M) : hp_Ct l yX9_freeIn cX9_freeIn 2 (some .int) 4 hp_IR (fun adr adV => [.ref (adr 13 0)]) hp_oi M (F_X9_freeIn  M) := by
  refine hp_start "HallPhoneModel" (fun adr adV => [(0, .ref (adr 13 0))]) (by decide) rfl (fun _ _ => by simp only [lg_sl]; exact Nat.le_of_ble_eq_true rfl) (fun _ _ => rfl) ?_
  intro p e s m args below meth c A D ids adr adV cA rep G0 hI hC hr
  unfold F_X9_freeIn
  have l11 : ∀  (n11 : Nat) (x1 : Int32) (M : hp_M), hp_Z p l e (hp_rm 4) s m args below meth c 2 A D ids adr adV cA 0 0 (MQ below (hp_Q A D ids adr adV cA rep hp_oi G0) args s 0 0 A) G0 rep 11 [(0, .ref (adr 13 0)), (1, .int x1)] [] M (L_X9_freeIn_11  n11 x1 M) := by
    intro  n11
    induction n11 with
    | zero => intro x1 M; exact hz_none hC
    | succ n11 ih11 =>
      intro x1 M
      rw [L_X9_freeIn_11.eq_2]
      refine hz_iload_n (a := 1) (n := 12) hC dX9_freeIn_11 rfl rfl rfl ?_
      refine hz_sipush (v := (500 : Int32)) (n := 15) hC dX9_freeIn_12 (by decide +kernel) rfl ?_
      refine hz_icmp_gt (tgt := 37) (n := 18) hC dX9_freeIn_15 (by decide) rfl (fun _ => ?_) (fun _ => ?_)
      · refine hz_aload_n (a := 0) (n := 38) hC dX9_freeIn_37 rfl rfl rfl ?_
        refine hz_callV (k := 0) (As := []) (st := []) (S1 := fun _ => []) (n := 41) hC (c_X9_bringBack l    M) kv_X9_bringBack wd_8_48 hI dX9_freeIn_38 rfl (hI 0 (by decide)) he_X9 rfl rfl rfl (Nat.le_of_ble_eq_true rfl) ⟨Nat.le_of_ble_eq_true rfl, Nat.le_of_ble_eq_true rfl⟩ ⟨Nat.zero_le _, Nat.zero_le _⟩ (fun _ => rfl) rfl (fun r2 M2 _ => ?_)
        refine hz_iload_n (a := 1) (n := 42) hC dX9_freeIn_41 rfl rfl rfl ?_
        refine hz_sipush (v := (500 : Int32)) (n := 45) hC dX9_freeIn_42 (by decide +kernel) rfl ?_
        refine hz_icmp_gt (tgt := 52) (n := 48) hC dX9_freeIn_45 (by decide) rfl (fun _ => ?_) (fun _ => ?_)
        · refine hz_iconst (v := (-1 : Int32)) (n := 53) hC dX9_freeIn_52 (by decide +kernel) rfl ?_
          exact hz_iret hC hr dX9_freeIn_53
        · refine hz_iload_n (a := 1) (n := 49) hC dX9_freeIn_48 rfl rfl rfl ?_
          refine hz_goto (n := 53) hC dX9_freeIn_49 (by decide) ?_
          exact hz_iret hC hr dX9_freeIn_53
      · refine hz_aload_n (a := 0) (n := 19) hC dX9_freeIn_18 rfl rfl rfl ?_
        refine fg_X9_7 (n := 22) hC hI dX9_freeIn_19 rfl ?_
        refine hz_iconst (v := (2 : Int32)) (n := 23) hC dX9_freeIn_22 (by decide +kernel) rfl ?_
        refine hz_ialdc (k := 2) (n := 24) hC (by decide +kernel) (by decide) dX9_freeIn_23 (hI 1 (by decide)) ha_m1 rfl ?_
        refine hz_if_eq (tgt := 37) (n := 27) hC dX9_freeIn_24 (by decide) rfl (fun _ => ?_) (fun _ => ?_)
        · refine hz_aload_n (a := 0) (n := 38) hC dX9_freeIn_37 rfl rfl rfl ?_
          refine hz_callV (k := 0) (As := []) (st := []) (S1 := fun _ => []) (n := 41) hC (c_X9_bringBack l    M) kv_X9_bringBack wd_8_48 hI dX9_freeIn_38 rfl (hI 0 (by decide)) he_X9 rfl rfl rfl (Nat.le_of_ble_eq_true rfl) ⟨Nat.le_of_ble_eq_true rfl, Nat.le_of_ble_eq_true rfl⟩ ⟨Nat.zero_le _, Nat.zero_le _⟩ (fun _ => rfl) rfl (fun r3 M3 _ => ?_)
          refine hz_iload_n (a := 1) (n := 42) hC dX9_freeIn_41 rfl rfl rfl ?_
          refine hz_sipush (v := (500 : Int32)) (n := 45) hC dX9_freeIn_42 (by decide +kernel) rfl ?_
          refine hz_icmp_gt (tgt := 52) (n := 48) hC dX9_freeIn_45 (by decide) rfl (fun _ => ?_) (fun _ => ?_)
          · refine hz_iconst (v := (-1 : Int32)) (n := 53) hC dX9_freeIn_52 (by decide +kernel) rfl ?_
            exact hz_iret hC hr dX9_freeIn_53
          · refine hz_iload_n (a := 1) (n := 49) hC dX9_freeIn_48 rfl rfl rfl ?_
            refine hz_goto (n := 53) hC dX9_freeIn_49 (by decide) ?_
            exact hz_iret hC hr dX9_freeIn_53
        · refine hz_aload_n (a := 0) (n := 28) hC dX9_freeIn_27 rfl rfl rfl ?_
          refine hz_callV (k := 0) (As := []) (st := []) (S1 := fun _ => []) (n := 31) hC (c_X9_minute l    M) kv_X9_minute wd_7_80 hI dX9_freeIn_28 rfl (hI 0 (by decide)) he_X9 rfl rfl rfl (Nat.le_of_ble_eq_true rfl) ⟨Nat.le_of_ble_eq_true rfl, Nat.le_of_ble_eq_true rfl⟩ ⟨Nat.zero_le _, Nat.zero_le _⟩ (fun _ => rfl) rfl (fun r4 M4 _ => ?_)
          refine hz_iinc (a := 1) (v := (x1 + (1 : Int32))) (L' := [(1, .int (x1 + (1 : Int32))), (0, .ref (adr 13 0))]) (n := 34) hC dX9_freeIn_31 rfl rfl (by decide) rfl rfl ?_
          refine hz_goto (n := 11) hC dX9_freeIn_34 (by decide) ?_
          refine hz_L (L' := [(0, .ref (adr 13 0)), (1, .int (x1 + (1 : Int32)))]) [1, 0] rfl ?_
          exact ih11 _ _
  refine hz_aload_n (a := 0) (n := 1) hC dX9_freeIn_0 rfl rfl rfl ?_
  refine hz_iconst (v := (0 : Int32)) (n := 2) hC dX9_freeIn_1 (by decide +kernel) rfl ?_
  refine fp_X9_42 (n := 5) hC hI (0 : Int32) dX9_freeIn_2 rfl ?_
  refine hz_aload_n (a := 0) (n := 6) hC dX9_freeIn_5 rfl rfl rfl ?_
  refine hz_callV (k := 0) (As := []) (st := []) (S1 := fun _ => []) (n := 9) hC (c_X9_setAside l    (hp_p M 13 0 13 (0 : Int32))) kv_X9_setAside wd_8_40 hI dX9_freeIn_6 rfl (hI 0 (by decide)) he_X9 rfl rfl rfl (Nat.le_of_ble_eq_true rfl) ⟨Nat.le_of_ble_eq_true rfl, Nat.le_of_ble_eq_true rfl⟩ ⟨Nat.zero_le _, Nat.zero_le _⟩ (fun _ => rfl) rfl (fun r1 M1 _ => ?_)
  refine hz_iconst (v := (0 : Int32)) (n := 10) hC dX9_freeIn_9 (by decide +kernel) rfl ?_
  refine hz_istore_n (L' := [(1, .int (0 : Int32)), (0, .ref (adr 13 0))]) (n := 11) hC dX9_freeIn_10 rfl (by decide) rfl rfl ?_
  refine hz_L (L' := [(0, .ref (adr 13 0)), (1, .int (0 : Int32))]) [1, 0] rfl ?_
  exact l11 hp_fu _ _
def A_X9_flatIn_30 (a0 : Int32) (a1 : Int32)  (z30_0 : Int32) (z30_1 : Int32) (M : hp_M) : Option (Int32 × hp_M) := (hp_b (F_X9_throwsOne_ z30_1 z30_0 M) (fun r3 M3 => (if r3 = 0 then (hp_b (F_X9_setAside M3) (fun _ M4 => (hp_b (F_X9_minutes a1 M4) (fun r5 M5 => (hp_b (F_X9_of a0 (2 : Int32) M5) (fun r6 M6 => (hp_b (F_X9_bringBack M6) (fun _ M7 => (some (r6, M7)))))))))) else (some ((0 : Int32), M3)))))
def A_X9_flatIn_14 (a0 : Int32) (a1 : Int32)  (z14_0 : Int32) (M : hp_M) : Option (Int32 × hp_M) := (hp_b (F_X9_in a1 (0 : Int32) (500 : Int32) M) (fun r2 M2 => (if r2 = 0 then (A_X9_flatIn_30 a0 a1 (1 : Int32) z14_0 M2) else (A_X9_flatIn_30 a0 a1 (0 : Int32) z14_0 M2))))
def F_X9_flatIn (a0 : Int32) (a1 : Int32) (M : hp_M) : Option (Int32 × hp_M) := (hp_b (F_X9_isFlat a0 M) (fun r1 M1 => (if r1 = 0 then (A_X9_flatIn_14 a0 a1 (1 : Int32) M1) else (A_X9_flatIn_14 a0 a1 (0 : Int32) M1))))
set_option maxRecDepth 20000 in
set_option maxHeartbeats 4000000 in
theorem c_X9_flatIn (l : Launch) (a0 : Int32) (a1 : Int32)  (M : hp_M) : hp_Ct l yX9_flatIn cX9_flatIn 4 (some .int) 5 hp_IR (fun adr adV => [.ref (adr 13 0), .int a0, .int a1]) hp_oi M (F_X9_flatIn a0 a1 M) := by
  refine hp_start "HallPhoneModel" (fun adr adV => [(0, .ref (adr 13 0)), (1, .int a0), (2, .int a1)]) (by decide) rfl (fun _ _ => by simp only [lg_sl]; exact Nat.le_of_ble_eq_true rfl) (fun _ _ => rfl) ?_
  intro p e s m args below meth c A D ids adr adV cA rep G0 hI hC hr
  unfold F_X9_flatIn
  have j30 : ∀ (z30_0 : Int32) (z30_1 : Int32) (M : hp_M), hp_Z p l e (hp_rm 5) s m args below meth c 4 A D ids adr adV cA 0 0 (MQ below (hp_Q A D ids adr adV cA rep hp_oi G0) args s 0 0 A) G0 rep 30 [(0, .ref (adr 13 0)), (1, .int a0), (2, .int a1)] [.int z30_0, .int z30_1, .ref (adr 13 0)] M (A_X9_flatIn_30 a0 a1 z30_0 z30_1 M) := by
    intro z30_0 z30_1 M
    unfold A_X9_flatIn_30
    refine hz_callV (k := 2) (As := [.int z30_1, .int z30_0]) (st := []) (S1 := fun r => .int r :: []) (n := 33) hC (c_X9_throwsOne_ l z30_1 z30_0   M) kv_X9_throwsOne_ wd_7_217 hI dX9_flatIn_30 rfl (hI 0 (by decide)) he_X9 rfl rfl rfl (Nat.le_of_ble_eq_true rfl) ⟨Nat.le_of_ble_eq_true rfl, Nat.le_of_ble_eq_true rfl⟩ ⟨Nat.zero_le _, Nat.zero_le _⟩ (fun _ => rfl) rfl (fun r3 M3 _ => ?_)
    refine hz_if_eq (tgt := 38) (n := 36) hC dX9_flatIn_33 (by decide) rfl (fun _ => ?_) (fun _ => ?_)
    · refine hz_aload_n (a := 0) (n := 39) hC dX9_flatIn_38 rfl rfl rfl ?_
      refine hz_callV (k := 0) (As := []) (st := []) (S1 := fun _ => []) (n := 42) hC (c_X9_setAside l    M3) kv_X9_setAside wd_8_40 hI dX9_flatIn_39 rfl (hI 0 (by decide)) he_X9 rfl rfl rfl (Nat.le_of_ble_eq_true rfl) ⟨Nat.le_of_ble_eq_true rfl, Nat.le_of_ble_eq_true rfl⟩ ⟨Nat.zero_le _, Nat.zero_le _⟩ (fun _ => rfl) rfl (fun r4 M4 _ => ?_)
      refine hz_aload_n (a := 0) (n := 43) hC dX9_flatIn_42 rfl rfl rfl ?_
      refine hz_iload_n (a := 2) (n := 44) hC dX9_flatIn_43 rfl rfl rfl ?_
      refine hz_callV (k := 1) (As := [.int a1]) (st := []) (S1 := fun r => .int r :: []) (n := 47) hC (c_X9_minutes l a1   M4) kv_X9_minutes wd_7_76 hI dX9_flatIn_44 rfl (hI 0 (by decide)) he_X9 rfl rfl rfl (Nat.le_of_ble_eq_true rfl) ⟨Nat.le_of_ble_eq_true rfl, Nat.le_of_ble_eq_true rfl⟩ ⟨Nat.zero_le _, Nat.zero_le _⟩ (fun _ => rfl) rfl (fun r5 M5 _ => ?_)
      refine hz_pop (n := 48) hC dX9_flatIn_47 rfl rfl ?_
      refine hz_aload_n (a := 0) (n := 49) hC dX9_flatIn_48 rfl rfl rfl ?_
      refine hz_iload_n (a := 1) (n := 50) hC dX9_flatIn_49 rfl rfl rfl ?_
      refine hz_iconst (v := (2 : Int32)) (n := 51) hC dX9_flatIn_50 (by decide +kernel) rfl ?_
      refine hz_callV (k := 2) (As := [.int a0, .int (2 : Int32)]) (st := []) (S1 := fun r => .int r :: []) (n := 54) hC (c_X9_of l a0 (2 : Int32)   M5) kv_X9_of wd_7_7 hI dX9_flatIn_51 rfl (hI 0 (by decide)) he_X9 rfl rfl rfl (Nat.le_of_ble_eq_true rfl) ⟨Nat.le_of_ble_eq_true rfl, Nat.le_of_ble_eq_true rfl⟩ ⟨Nat.zero_le _, Nat.zero_le _⟩ (fun _ => rfl) rfl (fun r6 M6 _ => ?_)
      refine hz_istore_n (L' := [(3, .int r6), (0, .ref (adr 13 0)), (1, .int a0), (2, .int a1)]) (n := 55) hC dX9_flatIn_54 rfl (by decide) rfl rfl ?_
      refine hz_aload_n (a := 1) (n := 56) hC dX9_flatIn_55 rfl rfl rfl ?_
      refine hz_callV (k := 0) (As := []) (st := []) (S1 := fun _ => []) (n := 59) hC (c_X9_bringBack l    M6) kv_X9_bringBack wd_8_48 hI dX9_flatIn_56 rfl (hI 0 (by decide)) he_X9 rfl rfl rfl (Nat.le_of_ble_eq_true rfl) ⟨Nat.le_of_ble_eq_true rfl, Nat.le_of_ble_eq_true rfl⟩ ⟨Nat.zero_le _, Nat.zero_le _⟩ (fun _ => rfl) rfl (fun r7 M7 _ => ?_)
      refine hz_iload_n (a := 0) (n := 60) hC dX9_flatIn_59 rfl rfl rfl ?_
      exact hz_iret hC hr dX9_flatIn_60
    · refine hz_iconst (v := (0 : Int32)) (n := 37) hC dX9_flatIn_36 (by decide +kernel) rfl ?_
      exact hz_iret hC hr dX9_flatIn_37
  have j14 : ∀ (z14_0 : Int32) (M : hp_M), hp_Z p l e (hp_rm 5) s m args below meth c 4 A D ids adr adV cA 0 0 (MQ below (hp_Q A D ids adr adV cA rep hp_oi G0) args s 0 0 A) G0 rep 14 [(0, .ref (adr 13 0)), (1, .int a0), (2, .int a1)] [.int z14_0, .ref (adr 13 0)] M (A_X9_flatIn_14 a0 a1 z14_0 M) := by
    intro z14_0 M
    unfold A_X9_flatIn_14
    refine hz_iload_n (a := 2) (n := 15) hC dX9_flatIn_14 rfl rfl rfl ?_
    refine hz_iconst (v := (0 : Int32)) (n := 16) hC dX9_flatIn_15 (by decide +kernel) rfl ?_
    refine hz_sipush (v := (500 : Int32)) (n := 19) hC dX9_flatIn_16 (by decide +kernel) rfl ?_
    refine hz_callS (k := 3) (As := [.int a1, .int (0 : Int32), .int (500 : Int32)]) (st := [.int z14_0, .ref (adr 13 0)]) (S1 := fun r => .int r :: [.int z14_0, .ref (adr 13 0)]) (n := 22) hC (c_X9_in l a1 (0 : Int32) (500 : Int32)   M) ks_X9_in wd_6_198 hI dX9_flatIn_19 rfl rfl rfl (Nat.le_of_ble_eq_true rfl) ⟨Nat.le_of_ble_eq_true rfl, Nat.le_of_ble_eq_true rfl⟩ ⟨Nat.zero_le _, Nat.zero_le _⟩ (fun _ => rfl) rfl (fun r2 M2 _ => ?_)
    refine hz_if_ne (tgt := 29) (n := 25) hC dX9_flatIn_22 (by decide) rfl (fun _ => ?_) (fun _ => ?_)
    · refine hz_iconst (v := (1 : Int32)) (n := 26) hC dX9_flatIn_25 (by decide +kernel) rfl ?_
      refine hz_goto (n := 30) hC dX9_flatIn_26 (by decide) ?_
      exact j30 _ _ _
    · refine hz_iconst (v := (0 : Int32)) (n := 30) hC dX9_flatIn_29 (by decide +kernel) rfl ?_
      exact j30 _ _ _
  refine hz_aload_n (a := 0) (n := 1) hC dX9_flatIn_0 rfl rfl rfl ?_
  refine hz_aload_n (a := 0) (n := 2) hC dX9_flatIn_1 rfl rfl rfl ?_
  refine hz_iload_n (a := 1) (n := 3) hC dX9_flatIn_2 rfl rfl rfl ?_
  refine hz_callV (k := 1) (As := [.int a0]) (st := [.ref (adr 13 0)]) (S1 := fun r => .int r :: [.ref (adr 13 0)]) (n := 6) hC (c_X9_isFlat l a0   M) kv_X9_isFlat wd_7_213 hI dX9_flatIn_3 rfl (hI 0 (by decide)) he_X9 rfl rfl rfl (Nat.le_of_ble_eq_true rfl) ⟨Nat.le_of_ble_eq_true rfl, Nat.le_of_ble_eq_true rfl⟩ ⟨Nat.zero_le _, Nat.zero_le _⟩ (fun _ => rfl) rfl (fun r1 M1 _ => ?_)
  refine hz_if_ne (tgt := 13) (n := 9) hC dX9_flatIn_6 (by decide) rfl (fun _ => ?_) (fun _ => ?_)
  · refine hz_iconst (v := (1 : Int32)) (n := 10) hC dX9_flatIn_9 (by decide +kernel) rfl ?_
    refine hz_goto (n := 14) hC dX9_flatIn_10 (by decide) ?_
    exact j14 _ _
  · refine hz_iconst (v := (0 : Int32)) (n := 14) hC dX9_flatIn_13 (by decide +kernel) rfl ?_
    exact j14 _ _
def A_X9_debtIn_30 (a0 : Int32) (a1 : Int32)  (z30_0 : Int32) (z30_1 : Int32) (M : hp_M) : Option (Int32 × hp_M) := (hp_b (F_X9_throwsOne_ z30_1 z30_0 M) (fun r3 M3 => (if r3 = 0 then (hp_b (F_X9_setAside M3) (fun _ M4 => (hp_b (F_X9_minutes a1 M4) (fun r5 M5 => (hp_b (F_X9_of a0 (5 : Int32) M5) (fun r6 M6 => (hp_b (F_X9_bringBack M6) (fun _ M7 => (some (r6, M7)))))))))) else (some ((0 : Int32), M3)))))
def A_X9_debtIn_14 (a0 : Int32) (a1 : Int32)  (z14_0 : Int32) (M : hp_M) : Option (Int32 × hp_M) := (hp_b (F_X9_in a1 (0 : Int32) (500 : Int32) M) (fun r2 M2 => (if r2 = 0 then (A_X9_debtIn_30 a0 a1 (1 : Int32) z14_0 M2) else (A_X9_debtIn_30 a0 a1 (0 : Int32) z14_0 M2))))
def F_X9_debtIn (a0 : Int32) (a1 : Int32) (M : hp_M) : Option (Int32 × hp_M) := (hp_b (F_X9_isFlat a0 M) (fun r1 M1 => (if r1 = 0 then (A_X9_debtIn_14 a0 a1 (1 : Int32) M1) else (A_X9_debtIn_14 a0 a1 (0 : Int32) M1))))
set_option maxRecDepth 20000 in
set_option maxHeartbeats 4000000 in
theorem c_X9_debtIn (l : Launch) (a0 : Int32) (a1 : Int32)  (M : hp_M) : hp_Ct l yX9_debtIn cX9_debtIn 4 (some .int) 5 hp_IR (fun adr adV => [.ref (adr 13 0), .int a0, .int a1]) hp_oi M (F_X9_debtIn a0 a1 M) := by
  refine hp_start "HallPhoneModel" (fun adr adV => [(0, .ref (adr 13 0)), (1, .int a0), (2, .int a1)]) (by decide) rfl (fun _ _ => by simp only [lg_sl]; exact Nat.le_of_ble_eq_true rfl) (fun _ _ => rfl) ?_
  intro p e s m args below meth c A D ids adr adV cA rep G0 hI hC hr
  unfold F_X9_debtIn
  have j30 : ∀ (z30_0 : Int32) (z30_1 : Int32) (M : hp_M), hp_Z p l e (hp_rm 5) s m args below meth c 4 A D ids adr adV cA 0 0 (MQ below (hp_Q A D ids adr adV cA rep hp_oi G0) args s 0 0 A) G0 rep 30 [(0, .ref (adr 13 0)), (1, .int a0), (2, .int a1)] [.int z30_0, .int z30_1, .ref (adr 13 0)] M (A_X9_debtIn_30 a0 a1 z30_0 z30_1 M) := by
    intro z30_0 z30_1 M
    unfold A_X9_debtIn_30
    refine hz_callV (k := 2) (As := [.int z30_1, .int z30_0]) (st := []) (S1 := fun r => .int r :: []) (n := 33) hC (c_X9_throwsOne_ l z30_1 z30_0   M) kv_X9_throwsOne_ wd_7_217 hI dX9_debtIn_30 rfl (hI 0 (by decide)) he_X9 rfl rfl rfl (Nat.le_of_ble_eq_true rfl) ⟨Nat.le_of_ble_eq_true rfl, Nat.le_of_ble_eq_true rfl⟩ ⟨Nat.zero_le _, Nat.zero_le _⟩ (fun _ => rfl) rfl (fun r3 M3 _ => ?_)
    refine hz_if_eq (tgt := 38) (n := 36) hC dX9_debtIn_33 (by decide) rfl (fun _ => ?_) (fun _ => ?_)
    · refine hz_aload_n (a := 0) (n := 39) hC dX9_debtIn_38 rfl rfl rfl ?_
      refine hz_callV (k := 0) (As := []) (st := []) (S1 := fun _ => []) (n := 42) hC (c_X9_setAside l    M3) kv_X9_setAside wd_8_40 hI dX9_debtIn_39 rfl (hI 0 (by decide)) he_X9 rfl rfl rfl (Nat.le_of_ble_eq_true rfl) ⟨Nat.le_of_ble_eq_true rfl, Nat.le_of_ble_eq_true rfl⟩ ⟨Nat.zero_le _, Nat.zero_le _⟩ (fun _ => rfl) rfl (fun r4 M4 _ => ?_)
      refine hz_aload_n (a := 0) (n := 43) hC dX9_debtIn_42 rfl rfl rfl ?_
      refine hz_iload_n (a := 2) (n := 44) hC dX9_debtIn_43 rfl rfl rfl ?_
      refine hz_callV (k := 1) (As := [.int a1]) (st := []) (S1 := fun r => .int r :: []) (n := 47) hC (c_X9_minutes l a1   M4) kv_X9_minutes wd_7_76 hI dX9_debtIn_44 rfl (hI 0 (by decide)) he_X9 rfl rfl rfl (Nat.le_of_ble_eq_true rfl) ⟨Nat.le_of_ble_eq_true rfl, Nat.le_of_ble_eq_true rfl⟩ ⟨Nat.zero_le _, Nat.zero_le _⟩ (fun _ => rfl) rfl (fun r5 M5 _ => ?_)
      refine hz_pop (n := 48) hC dX9_debtIn_47 rfl rfl ?_
      refine hz_aload_n (a := 0) (n := 49) hC dX9_debtIn_48 rfl rfl rfl ?_
      refine hz_iload_n (a := 1) (n := 50) hC dX9_debtIn_49 rfl rfl rfl ?_
      refine hz_iconst (v := (5 : Int32)) (n := 51) hC dX9_debtIn_50 (by decide +kernel) rfl ?_
      refine hz_callV (k := 2) (As := [.int a0, .int (5 : Int32)]) (st := []) (S1 := fun r => .int r :: []) (n := 54) hC (c_X9_of l a0 (5 : Int32)   M5) kv_X9_of wd_7_7 hI dX9_debtIn_51 rfl (hI 0 (by decide)) he_X9 rfl rfl rfl (Nat.le_of_ble_eq_true rfl) ⟨Nat.le_of_ble_eq_true rfl, Nat.le_of_ble_eq_true rfl⟩ ⟨Nat.zero_le _, Nat.zero_le _⟩ (fun _ => rfl) rfl (fun r6 M6 _ => ?_)
      refine hz_istore_n (L' := [(3, .int r6), (0, .ref (adr 13 0)), (1, .int a0), (2, .int a1)]) (n := 55) hC dX9_debtIn_54 rfl (by decide) rfl rfl ?_
      refine hz_aload_n (a := 1) (n := 56) hC dX9_debtIn_55 rfl rfl rfl ?_
      refine hz_callV (k := 0) (As := []) (st := []) (S1 := fun _ => []) (n := 59) hC (c_X9_bringBack l    M6) kv_X9_bringBack wd_8_48 hI dX9_debtIn_56 rfl (hI 0 (by decide)) he_X9 rfl rfl rfl (Nat.le_of_ble_eq_true rfl) ⟨Nat.le_of_ble_eq_true rfl, Nat.le_of_ble_eq_true rfl⟩ ⟨Nat.zero_le _, Nat.zero_le _⟩ (fun _ => rfl) rfl (fun r7 M7 _ => ?_)
      refine hz_iload_n (a := 0) (n := 60) hC dX9_debtIn_59 rfl rfl rfl ?_
      exact hz_iret hC hr dX9_debtIn_60
    · refine hz_iconst (v := (0 : Int32)) (n := 37) hC dX9_debtIn_36 (by decide +kernel) rfl ?_
      exact hz_iret hC hr dX9_debtIn_37
  have j14 : ∀ (z14_0 : Int32) (M : hp_M), hp_Z p l e (hp_rm 5) s m args below meth c 4 A D ids adr adV cA 0 0 (MQ below (hp_Q A D ids adr adV cA rep hp_oi G0) args s 0 0 A) G0 rep 14 [(0, .ref (adr 13 0)), (1, .int a0), (2, .int a1)] [.int z14_0, .ref (adr 13 0)] M (A_X9_debtIn_14 a0 a1 z14_0 M) := by
    intro z14_0 M
    unfold A_X9_debtIn_14
    refine hz_iload_n (a := 2) (n := 15) hC dX9_debtIn_14 rfl rfl rfl ?_
    refine hz_iconst (v := (0 : Int32)) (n := 16) hC dX9_debtIn_15 (by decide +kernel) rfl ?_
    refine hz_sipush (v := (500 : Int32)) (n := 19) hC dX9_debtIn_16 (by decide +kernel) rfl ?_
    refine hz_callS (k := 3) (As := [.int a1, .int (0 : Int32), .int (500 : Int32)]) (st := [.int z14_0, .ref (adr 13 0)]) (S1 := fun r => .int r :: [.int z14_0, .ref (adr 13 0)]) (n := 22) hC (c_X9_in l a1 (0 : Int32) (500 : Int32)   M) ks_X9_in wd_6_198 hI dX9_debtIn_19 rfl rfl rfl (Nat.le_of_ble_eq_true rfl) ⟨Nat.le_of_ble_eq_true rfl, Nat.le_of_ble_eq_true rfl⟩ ⟨Nat.zero_le _, Nat.zero_le _⟩ (fun _ => rfl) rfl (fun r2 M2 _ => ?_)
    refine hz_if_ne (tgt := 29) (n := 25) hC dX9_debtIn_22 (by decide) rfl (fun _ => ?_) (fun _ => ?_)
    · refine hz_iconst (v := (1 : Int32)) (n := 26) hC dX9_debtIn_25 (by decide +kernel) rfl ?_
      refine hz_goto (n := 30) hC dX9_debtIn_26 (by decide) ?_
      exact j30 _ _ _
    · refine hz_iconst (v := (0 : Int32)) (n := 30) hC dX9_debtIn_29 (by decide +kernel) rfl ?_
      exact j30 _ _ _
  refine hz_aload_n (a := 0) (n := 1) hC dX9_debtIn_0 rfl rfl rfl ?_
  refine hz_aload_n (a := 0) (n := 2) hC dX9_debtIn_1 rfl rfl rfl ?_
  refine hz_iload_n (a := 1) (n := 3) hC dX9_debtIn_2 rfl rfl rfl ?_
  refine hz_callV (k := 1) (As := [.int a0]) (st := [.ref (adr 13 0)]) (S1 := fun r => .int r :: [.ref (adr 13 0)]) (n := 6) hC (c_X9_isFlat l a0   M) kv_X9_isFlat wd_7_213 hI dX9_debtIn_3 rfl (hI 0 (by decide)) he_X9 rfl rfl rfl (Nat.le_of_ble_eq_true rfl) ⟨Nat.le_of_ble_eq_true rfl, Nat.le_of_ble_eq_true rfl⟩ ⟨Nat.zero_le _, Nat.zero_le _⟩ (fun _ => rfl) rfl (fun r1 M1 _ => ?_)
  refine hz_if_ne (tgt := 13) (n := 9) hC dX9_debtIn_6 (by decide) rfl (fun _ => ?_) (fun _ => ?_)
  · refine hz_iconst (v := (1 : Int32)) (n := 10) hC dX9_debtIn_9 (by decide +kernel) rfl ?_
    refine hz_goto (n := 14) hC dX9_debtIn_10 (by decide) ?_
    exact j14 _ _
  · refine hz_iconst (v := (0 : Int32)) (n := 14) hC dX9_debtIn_13 (by decide +kernel) rfl ?_
    exact j14 _ _
def A_X9_waitIf_14 (a0 : Int32)  (z14_0 : Int32) (M : hp_M) : Option (Int32 × hp_M) := (hp_b (F_X9_throwsOne z14_0 M) (fun r2 M2 => (if r2 = 0 then (hp_b (F_X9_of a0 (2 : Int32) M2) (fun r3 M3 => (if r3 = 0 then (hp_b (F_X9_setAside M3) (fun _ M4 => (hp_b (F_X9_wants a0 (1 : Int32) M4) (fun r5 M5 => (hp_b (F_X9_tillSpeaks a0 M5) (fun r6 M6 => (hp_b (F_X9_bringBack M6) (fun _ M7 => (some (r6, M7)))))))))) else (if (M3 13 0 13) = 0 then (some ((-1 : Int32), M3)) else (some ((0 : Int32), M3)))))) else (if (M2 13 0 13) = 0 then (some ((-1 : Int32), M2)) else (some ((0 : Int32), M2))))))
def F_X9_waitIf (a0 : Int32) (M : hp_M) : Option (Int32 × hp_M) := (hp_b (F_X9_isFlat a0 M) (fun r1 M1 => (if r1 = 0 then (A_X9_waitIf_14 a0 (1 : Int32) M1) else (A_X9_waitIf_14 a0 (0 : Int32) M1))))
set_option maxRecDepth 20000 in
set_option maxHeartbeats 4000000 in
theorem c_X9_waitIf (l : Launch) (a0 : Int32)  (M : hp_M) : hp_Ct l yX9_waitIf cX9_waitIf 3 (some .int) 5 hp_IR (fun adr adV => [.ref (adr 13 0), .int a0]) hp_oi M (F_X9_waitIf a0 M) := by
  refine hp_start "HallPhoneModel" (fun adr adV => [(0, .ref (adr 13 0)), (1, .int a0)]) (by decide) rfl (fun _ _ => by simp only [lg_sl]; exact Nat.le_of_ble_eq_true rfl) (fun _ _ => rfl) ?_
  intro p e s m args below meth c A D ids adr adV cA rep G0 hI hC hr
  unfold F_X9_waitIf
  have j14 : ∀ (z14_0 : Int32) (M : hp_M), hp_Z p l e (hp_rm 5) s m args below meth c 3 A D ids adr adV cA 0 0 (MQ below (hp_Q A D ids adr adV cA rep hp_oi G0) args s 0 0 A) G0 rep 14 [(0, .ref (adr 13 0)), (1, .int a0)] [.int z14_0, .ref (adr 13 0)] M (A_X9_waitIf_14 a0 z14_0 M) := by
    intro z14_0 M
    unfold A_X9_waitIf_14
    refine hz_callV (k := 1) (As := [.int z14_0]) (st := []) (S1 := fun r => .int r :: []) (n := 17) hC (c_X9_throwsOne l z14_0   M) kv_X9_throwsOne wd_7_181 hI dX9_waitIf_14 rfl (hI 0 (by decide)) he_X9 rfl rfl rfl (Nat.le_of_ble_eq_true rfl) ⟨Nat.le_of_ble_eq_true rfl, Nat.le_of_ble_eq_true rfl⟩ ⟨Nat.zero_le _, Nat.zero_le _⟩ (fun _ => rfl) rfl (fun r2 M2 _ => ?_)
    refine hz_if_ne (tgt := 29) (n := 20) hC dX9_waitIf_17 (by decide) rfl (fun _ => ?_) (fun _ => ?_)
    · refine hz_aload_n (a := 0) (n := 21) hC dX9_waitIf_20 rfl rfl rfl ?_
      refine hz_iload_n (a := 1) (n := 22) hC dX9_waitIf_21 rfl rfl rfl ?_
      refine hz_iconst (v := (2 : Int32)) (n := 23) hC dX9_waitIf_22 (by decide +kernel) rfl ?_
      refine hz_callV (k := 2) (As := [.int a0, .int (2 : Int32)]) (st := []) (S1 := fun r => .int r :: []) (n := 26) hC (c_X9_of l a0 (2 : Int32)   M2) kv_X9_of wd_7_7 hI dX9_waitIf_23 rfl (hI 0 (by decide)) he_X9 rfl rfl rfl (Nat.le_of_ble_eq_true rfl) ⟨Nat.le_of_ble_eq_true rfl, Nat.le_of_ble_eq_true rfl⟩ ⟨Nat.zero_le _, Nat.zero_le _⟩ (fun _ => rfl) rfl (fun r3 M3 _ => ?_)
      refine hz_if_eq (tgt := 42) (n := 29) hC dX9_waitIf_26 (by decide) rfl (fun _ => ?_) (fun _ => ?_)
      · refine hz_aload_n (a := 0) (n := 43) hC dX9_waitIf_42 rfl rfl rfl ?_
        refine hz_callV (k := 0) (As := []) (st := []) (S1 := fun _ => []) (n := 46) hC (c_X9_setAside l    M3) kv_X9_setAside wd_8_40 hI dX9_waitIf_43 rfl (hI 0 (by decide)) he_X9 rfl rfl rfl (Nat.le_of_ble_eq_true rfl) ⟨Nat.le_of_ble_eq_true rfl, Nat.le_of_ble_eq_true rfl⟩ ⟨Nat.zero_le _, Nat.zero_le _⟩ (fun _ => rfl) rfl (fun r4 M4 _ => ?_)
        refine hz_aload_n (a := 0) (n := 47) hC dX9_waitIf_46 rfl rfl rfl ?_
        refine hz_iload_n (a := 1) (n := 48) hC dX9_waitIf_47 rfl rfl rfl ?_
        refine hz_iconst (v := (1 : Int32)) (n := 49) hC dX9_waitIf_48 (by decide +kernel) rfl ?_
        refine hz_callV (k := 2) (As := [.int a0, .int (1 : Int32)]) (st := []) (S1 := fun r => .int r :: []) (n := 52) hC (c_X9_wants l a0 (1 : Int32)   M4) kv_X9_wants wd_7_3 hI dX9_waitIf_49 rfl (hI 0 (by decide)) he_X9 rfl rfl rfl (Nat.le_of_ble_eq_true rfl) ⟨Nat.le_of_ble_eq_true rfl, Nat.le_of_ble_eq_true rfl⟩ ⟨Nat.zero_le _, Nat.zero_le _⟩ (fun _ => rfl) rfl (fun r5 M5 _ => ?_)
        refine hz_pop (n := 53) hC dX9_waitIf_52 rfl rfl ?_
        refine hz_aload_n (a := 0) (n := 54) hC dX9_waitIf_53 rfl rfl rfl ?_
        refine hz_iload_n (a := 1) (n := 55) hC dX9_waitIf_54 rfl rfl rfl ?_
        refine hz_callV (k := 1) (As := [.int a0]) (st := []) (S1 := fun r => .int r :: []) (n := 58) hC (c_X9_tillSpeaks l a0   M5) kv_X9_tillSpeaks wd_8_44 hI dX9_waitIf_55 rfl (hI 0 (by decide)) he_X9 rfl rfl rfl (Nat.le_of_ble_eq_true rfl) ⟨Nat.le_of_ble_eq_true rfl, Nat.le_of_ble_eq_true rfl⟩ ⟨Nat.zero_le _, Nat.zero_le _⟩ (fun _ => rfl) rfl (fun r6 M6 _ => ?_)
        refine hz_istore_n (L' := [(2, .int r6), (0, .ref (adr 13 0)), (1, .int a0)]) (n := 59) hC dX9_waitIf_58 rfl (by decide) rfl rfl ?_
        refine hz_aload_n (a := 1) (n := 60) hC dX9_waitIf_59 rfl rfl rfl ?_
        refine hz_callV (k := 0) (As := []) (st := []) (S1 := fun _ => []) (n := 63) hC (c_X9_bringBack l    M6) kv_X9_bringBack wd_8_48 hI dX9_waitIf_60 rfl (hI 0 (by decide)) he_X9 rfl rfl rfl (Nat.le_of_ble_eq_true rfl) ⟨Nat.le_of_ble_eq_true rfl, Nat.le_of_ble_eq_true rfl⟩ ⟨Nat.zero_le _, Nat.zero_le _⟩ (fun _ => rfl) rfl (fun r7 M7 _ => ?_)
        refine hz_iload_n (a := 0) (n := 64) hC dX9_waitIf_63 rfl rfl rfl ?_
        exact hz_iret hC hr dX9_waitIf_64
      · refine hz_aload_n (a := 0) (n := 30) hC dX9_waitIf_29 rfl rfl rfl ?_
        refine fg_X9_42 (n := 33) hC hI dX9_waitIf_30 rfl ?_
        refine hz_if_ne (tgt := 40) (n := 36) hC dX9_waitIf_33 (by decide) rfl (fun _ => ?_) (fun _ => ?_)
        · refine hz_iconst (v := (-1 : Int32)) (n := 37) hC dX9_waitIf_36 (by decide +kernel) rfl ?_
          refine hz_goto (n := 41) hC dX9_waitIf_37 (by decide) ?_
          exact hz_iret hC hr dX9_waitIf_41
        · refine hz_iconst (v := (0 : Int32)) (n := 41) hC dX9_waitIf_40 (by decide +kernel) rfl ?_
          exact hz_iret hC hr dX9_waitIf_41
    · refine hz_aload_n (a := 0) (n := 30) hC dX9_waitIf_29 rfl rfl rfl ?_
      refine fg_X9_42 (n := 33) hC hI dX9_waitIf_30 rfl ?_
      refine hz_if_ne (tgt := 40) (n := 36) hC dX9_waitIf_33 (by decide) rfl (fun _ => ?_) (fun _ => ?_)
      · refine hz_iconst (v := (-1 : Int32)) (n := 37) hC dX9_waitIf_36 (by decide +kernel) rfl ?_
        refine hz_goto (n := 41) hC dX9_waitIf_37 (by decide) ?_
        exact hz_iret hC hr dX9_waitIf_41
      · refine hz_iconst (v := (0 : Int32)) (n := 41) hC dX9_waitIf_40 (by decide +kernel) rfl ?_
        exact hz_iret hC hr dX9_waitIf_41
  refine hz_aload_n (a := 0) (n := 1) hC dX9_waitIf_0 rfl rfl rfl ?_
  refine hz_aload_n (a := 0) (n := 2) hC dX9_waitIf_1 rfl rfl rfl ?_
  refine hz_iload_n (a := 1) (n := 3) hC dX9_waitIf_2 rfl rfl rfl ?_
  refine hz_callV (k := 1) (As := [.int a0]) (st := [.ref (adr 13 0)]) (S1 := fun r => .int r :: [.ref (adr 13 0)]) (n := 6) hC (c_X9_isFlat l a0   M) kv_X9_isFlat wd_7_213 hI dX9_waitIf_3 rfl (hI 0 (by decide)) he_X9 rfl rfl rfl (Nat.le_of_ble_eq_true rfl) ⟨Nat.le_of_ble_eq_true rfl, Nat.le_of_ble_eq_true rfl⟩ ⟨Nat.zero_le _, Nat.zero_le _⟩ (fun _ => rfl) rfl (fun r1 M1 _ => ?_)
  refine hz_if_ne (tgt := 13) (n := 9) hC dX9_waitIf_6 (by decide) rfl (fun _ => ?_) (fun _ => ?_)
  · refine hz_iconst (v := (1 : Int32)) (n := 10) hC dX9_waitIf_9 (by decide +kernel) rfl ?_
    refine hz_goto (n := 14) hC dX9_waitIf_10 (by decide) ?_
    exact j14 _ _
  · refine hz_iconst (v := (0 : Int32)) (n := 14) hC dX9_waitIf_13 (by decide +kernel) rfl ?_
    exact j14 _ _
def L_X9_waiting_4    : Nat → Int32 → Int32 → hp_M → Option (Int32 × hp_M)
  | 0, _, _, _ => none
  | n4 + 1, x1, x2, M => (if (M 13 1 0) ≤ x2 then (some (x1, M)) else (hp_b (F_X9_of x2 (2 : Int32) M) (fun r1 M1 => (if r1 = (2 : Int32) then (L_X9_waiting_4  n4 (x1 ||| ((1 : Int32) <<< (x2 &&& 31))) (x2 + (1 : Int32)) M1) else (hp_b (F_X9_of x2 (2 : Int32) M1) (fun r2 M2 => (if r2 = (1 : Int32) then (L_X9_waiting_4  n4 (x1 ||| ((1 : Int32) <<< (x2 &&& 31))) (x2 + (1 : Int32)) M2) else (L_X9_waiting_4  n4 (x1 ||| (0 : Int32)) (x2 + (1 : Int32)) M2))))))))
def F_X9_waiting  (M : hp_M) : Option (Int32 × hp_M) := (L_X9_waiting_4 hp_fu (0 : Int32) (0 : Int32) M)
set_option maxRecDepth 20000 in
set_option maxHeartbeats 4000000 in
theorem c_X9_waiting (l : Launch)   (M : hp_M) : hp_Ct l yX9_waiting cX9_waiting 3 (some .int) 1 hp_IR (fun adr adV => [.ref (adr 13 0)]) hp_oi M (F_X9_waiting  M) := by
  refine hp_start "HallPhoneModel" (fun adr adV => [(0, .ref (adr 13 0))]) (by decide) rfl (fun _ _ => by simp only [lg_sl]; exact Nat.le_of_ble_eq_true rfl) (fun _ _ => rfl) ?_
  intro p e s m args below meth c A D ids adr adV cA rep G0 hI hC hr
  unfold F_X9_waiting
  have l4 : ∀  (n4 : Nat) (x1 : Int32) (x2 : Int32) (M : hp_M), hp_Z p l e (hp_rm 1) s m args below meth c 3 A D ids adr adV cA 0 0 (MQ below (hp_Q A D ids adr adV cA rep hp_oi G0) args s 0 0 A) G0 rep 4 [(0, .ref (adr 13 0)), (1, .int x1), (2, .int x2)] [] M (L_X9_waiting_4  n4 x1 x2 M) := by
    intro  n4
    induction n4 with
    | zero => intro x1 x2 M; exact hz_none hC
    | succ n4 ih4 =>
      intro x1 x2 M
      rw [L_X9_waiting_4.eq_2]
      refine hz_iload_n (a := 2) (n := 5) hC dX9_waiting_4 rfl rfl rfl ?_
      refine hz_aload_n (a := 0) (n := 6) hC dX9_waiting_5 rfl rfl rfl ?_
      refine fg_X9_7 (n := 9) hC hI dX9_waiting_6 rfl ?_
      refine hz_iconst (v := (0 : Int32)) (n := 10) hC dX9_waiting_9 (by decide +kernel) rfl ?_
      refine hz_ialdc (k := 0) (n := 11) hC (by decide +kernel) (by decide) dX9_waiting_10 (hI 1 (by decide)) ha_m1 rfl ?_
      refine hz_icmp_ge (tgt := 50) (n := 14) hC dX9_waiting_11 (by decide) rfl (fun _ => ?_) (fun _ => ?_)
      · refine hz_iload_n (a := 1) (n := 51) hC dX9_waiting_50 rfl rfl rfl ?_
        exact hz_iret hC hr dX9_waiting_51
      · refine hz_iload_n (a := 1) (n := 15) hC dX9_waiting_14 rfl rfl rfl ?_
        refine hz_aload_n (a := 0) (n := 16) hC dX9_waiting_15 rfl rfl rfl ?_
        refine hz_iload_n (a := 2) (n := 17) hC dX9_waiting_16 rfl rfl rfl ?_
        refine hz_iconst (v := (2 : Int32)) (n := 18) hC dX9_waiting_17 (by decide +kernel) rfl ?_
        refine hz_callV (k := 2) (As := [.int x2, .int (2 : Int32)]) (st := [.int x1]) (S1 := fun r => .int r :: [.int x1]) (n := 21) hC (c_X9_of l x2 (2 : Int32)   M) kv_X9_of wd_7_7 hI dX9_waiting_18 rfl (hI 0 (by decide)) he_X9 rfl rfl rfl (Nat.le_of_ble_eq_true rfl) ⟨Nat.le_of_ble_eq_true rfl, Nat.le_of_ble_eq_true rfl⟩ ⟨Nat.zero_le _, Nat.zero_le _⟩ (fun _ => rfl) rfl (fun r1 M1 _ => ?_)
        refine hz_iconst (v := (2 : Int32)) (n := 22) hC dX9_waiting_21 (by decide +kernel) rfl ?_
        refine hz_icmp_eq (tgt := 35) (n := 25) hC dX9_waiting_22 (by decide) rfl (fun _ => ?_) (fun _ => ?_)
        · refine hz_iconst (v := (1 : Int32)) (n := 36) hC dX9_waiting_35 (by decide +kernel) rfl ?_
          refine hz_iload_n (a := 2) (n := 37) hC dX9_waiting_36 rfl rfl rfl ?_
          refine hz_ishl (n := 38) hC dX9_waiting_37 rfl ?_
          refine hz_goto (n := 42) hC dX9_waiting_38 (by decide) ?_
          refine hz_ior (n := 43) hC dX9_waiting_42 rfl ?_
          refine hz_istore_n (L' := [(1, .int (x1 ||| ((1 : Int32) <<< (x2 &&& 31)))), (0, .ref (adr 13 0)), (2, .int x2)]) (n := 44) hC dX9_waiting_43 rfl (by decide) rfl rfl ?_
          refine hz_iinc (a := 2) (v := (x2 + (1 : Int32))) (L' := [(2, .int (x2 + (1 : Int32))), (1, .int (x1 ||| ((1 : Int32) <<< (x2 &&& 31)))), (0, .ref (adr 13 0))]) (n := 47) hC dX9_waiting_44 rfl rfl (by decide) rfl rfl ?_
          refine hz_goto (n := 4) hC dX9_waiting_47 (by decide) ?_
          refine hz_L (L' := [(0, .ref (adr 13 0)), (1, .int (x1 ||| ((1 : Int32) <<< (x2 &&& 31)))), (2, .int (x2 + (1 : Int32)))]) [2, 1, 0] rfl ?_
          exact ih4 _ _ _
        · refine hz_aload_n (a := 0) (n := 26) hC dX9_waiting_25 rfl rfl rfl ?_
          refine hz_iload_n (a := 2) (n := 27) hC dX9_waiting_26 rfl rfl rfl ?_
          refine hz_iconst (v := (2 : Int32)) (n := 28) hC dX9_waiting_27 (by decide +kernel) rfl ?_
          refine hz_callV (k := 2) (As := [.int x2, .int (2 : Int32)]) (st := [.int x1]) (S1 := fun r => .int r :: [.int x1]) (n := 31) hC (c_X9_of l x2 (2 : Int32)   M1) kv_X9_of wd_7_7 hI dX9_waiting_28 rfl (hI 0 (by decide)) he_X9 rfl rfl rfl (Nat.le_of_ble_eq_true rfl) ⟨Nat.le_of_ble_eq_true rfl, Nat.le_of_ble_eq_true rfl⟩ ⟨Nat.zero_le _, Nat.zero_le _⟩ (fun _ => rfl) rfl (fun r2 M2 _ => ?_)
          refine hz_iconst (v := (1 : Int32)) (n := 32) hC dX9_waiting_31 (by decide +kernel) rfl ?_
          refine hz_icmp_ne (tgt := 41) (n := 35) hC dX9_waiting_32 (by decide) rfl (fun _ => ?_) (fun _ => ?_)
          · refine hz_iconst (v := (1 : Int32)) (n := 36) hC dX9_waiting_35 (by decide +kernel) rfl ?_
            refine hz_iload_n (a := 2) (n := 37) hC dX9_waiting_36 rfl rfl rfl ?_
            refine hz_ishl (n := 38) hC dX9_waiting_37 rfl ?_
            refine hz_goto (n := 42) hC dX9_waiting_38 (by decide) ?_
            refine hz_ior (n := 43) hC dX9_waiting_42 rfl ?_
            refine hz_istore_n (L' := [(1, .int (x1 ||| ((1 : Int32) <<< (x2 &&& 31)))), (0, .ref (adr 13 0)), (2, .int x2)]) (n := 44) hC dX9_waiting_43 rfl (by decide) rfl rfl ?_
            refine hz_iinc (a := 2) (v := (x2 + (1 : Int32))) (L' := [(2, .int (x2 + (1 : Int32))), (1, .int (x1 ||| ((1 : Int32) <<< (x2 &&& 31)))), (0, .ref (adr 13 0))]) (n := 47) hC dX9_waiting_44 rfl rfl (by decide) rfl rfl ?_
            refine hz_goto (n := 4) hC dX9_waiting_47 (by decide) ?_
            refine hz_L (L' := [(0, .ref (adr 13 0)), (1, .int (x1 ||| ((1 : Int32) <<< (x2 &&& 31)))), (2, .int (x2 + (1 : Int32)))]) [2, 1, 0] rfl ?_
            exact ih4 _ _ _
          · refine hz_iconst (v := (0 : Int32)) (n := 42) hC dX9_waiting_41 (by decide +kernel) rfl ?_
            refine hz_ior (n := 43) hC dX9_waiting_42 rfl ?_
            refine hz_istore_n (L' := [(1, .int (x1 ||| (0 : Int32))), (0, .ref (adr 13 0)), (2, .int x2)]) (n := 44) hC dX9_waiting_43 rfl (by decide) rfl rfl ?_
            refine hz_iinc (a := 2) (v := (x2 + (1 : Int32))) (L' := [(2, .int (x2 + (1 : Int32))), (1, .int (x1 ||| (0 : Int32))), (0, .ref (adr 13 0))]) (n := 47) hC dX9_waiting_44 rfl rfl (by decide) rfl rfl ?_
            refine hz_goto (n := 4) hC dX9_waiting_47 (by decide) ?_
            refine hz_L (L' := [(0, .ref (adr 13 0)), (1, .int (x1 ||| (0 : Int32))), (2, .int (x2 + (1 : Int32)))]) [2, 1, 0] rfl ?_
            exact ih4 _ _ _
  refine hz_iconst (v := (0 : Int32)) (n := 1) hC dX9_waiting_0 (by decide +kernel) rfl ?_
  refine hz_istore_n (L' := [(1, .int (0 : Int32)), (0, .ref (adr 13 0))]) (n := 2) hC dX9_waiting_1 rfl (by decide) rfl rfl ?_
  refine hz_iconst (v := (0 : Int32)) (n := 3) hC dX9_waiting_2 (by decide +kernel) rfl ?_
  refine hz_istore_n (L' := [(2, .int (0 : Int32)), (1, .int (0 : Int32)), (0, .ref (adr 13 0))]) (n := 4) hC dX9_waiting_3 rfl (by decide) rfl rfl ?_
  refine hz_L (L' := [(0, .ref (adr 13 0)), (1, .int (0 : Int32)), (2, .int (0 : Int32))]) [2, 1, 0] rfl ?_
  exact l4 hp_fu _ _ _
def L_X9_tillAll_4 (a0 : Int32)   : Nat → Int32 → Int32 → hp_M → Option (Int32 × hp_M)
  | 0, _, _, _ => none
  | n4 + 1, x2, x3, M => (if (500 : Int32) < x3 then (some ((-1 : Int32), M)) else (if (M 13 1 2) = (2 : Int32) then (if (x2 &&& (((1 : Int32) <<< ((M 13 1 3) &&& 31)) ^^^ (-1 : Int32))) = 0 then (some (x3, M)) else (hp_b (F_X9_minute M) (fun _ M1 => (L_X9_tillAll_4 a0 n4 (x2 &&& (((1 : Int32) <<< ((M 13 1 3) &&& 31)) ^^^ (-1 : Int32))) (x3 + (1 : Int32)) M1)))) else (if x2 = 0 then (some (x3, M)) else (hp_b (F_X9_minute M) (fun _ M2 => (L_X9_tillAll_4 a0 n4 x2 (x3 + (1 : Int32)) M2))))))
def F_X9_tillAll (a0 : Int32) (M : hp_M) : Option (Int32 × hp_M) := (L_X9_tillAll_4 a0 hp_fu a0 (0 : Int32) M)
set_option maxRecDepth 20000 in
set_option maxHeartbeats 4000000 in
theorem c_X9_tillAll (l : Launch) (a0 : Int32)  (M : hp_M) : hp_Ct l yX9_tillAll cX9_tillAll 4 (some .int) 4 hp_IR (fun adr adV => [.ref (adr 13 0), .int a0]) hp_oi M (F_X9_tillAll a0 M) := by
  refine hp_start "HallPhoneModel" (fun adr adV => [(0, .ref (adr 13 0)), (1, .int a0)]) (by decide) rfl (fun _ _ => by simp only [lg_sl]; exact Nat.le_of_ble_eq_true rfl) (fun _ _ => rfl) ?_
  intro p e s m args below meth c A D ids adr adV cA rep G0 hI hC hr
  unfold F_X9_tillAll
  have l4 : ∀  (n4 : Nat) (x2 : Int32) (x3 : Int32) (M : hp_M), hp_Z p l e (hp_rm 4) s m args below meth c 4 A D ids adr adV cA 0 0 (MQ below (hp_Q A D ids adr adV cA rep hp_oi G0) args s 0 0 A) G0 rep 4 [(0, .ref (adr 13 0)), (2, .int x2), (3, .int x3)] [] M (L_X9_tillAll_4 a0 n4 x2 x3 M) := by
    intro  n4
    induction n4 with
    | zero => intro x2 x3 M; exact hz_none hC
    | succ n4 ih4 =>
      intro x2 x3 M
      rw [L_X9_tillAll_4.eq_2]
      refine hz_iload_n (a := 2) (n := 5) hC dX9_tillAll_4 rfl rfl rfl ?_
      refine hz_sipush (v := (500 : Int32)) (n := 8) hC dX9_tillAll_5 (by decide +kernel) rfl ?_
      refine hz_icmp_gt (tgt := 50) (n := 11) hC dX9_tillAll_8 (by decide) rfl (fun _ => ?_) (fun _ => ?_)
      · refine hz_iconst (v := (-1 : Int32)) (n := 51) hC dX9_tillAll_50 (by decide +kernel) rfl ?_
        exact hz_iret hC hr dX9_tillAll_51
      · refine hz_aload_n (a := 0) (n := 12) hC dX9_tillAll_11 rfl rfl rfl ?_
        refine fg_X9_7 (n := 15) hC hI dX9_tillAll_12 rfl ?_
        refine hz_iconst (v := (2 : Int32)) (n := 16) hC dX9_tillAll_15 (by decide +kernel) rfl ?_
        refine hz_ialdc (k := 2) (n := 17) hC (by decide +kernel) (by decide) dX9_tillAll_16 (hI 1 (by decide)) ha_m1 rfl ?_
        refine hz_iconst (v := (2 : Int32)) (n := 18) hC dX9_tillAll_17 (by decide +kernel) rfl ?_
        refine hz_icmp_ne (tgt := 34) (n := 21) hC dX9_tillAll_18 (by decide) rfl (fun _ => ?_) (fun _ => ?_)
        · refine hz_iload_n (a := 1) (n := 22) hC dX9_tillAll_21 rfl rfl rfl ?_
          refine hz_iconst (v := (1 : Int32)) (n := 23) hC dX9_tillAll_22 (by decide +kernel) rfl ?_
          refine hz_aload_n (a := 0) (n := 24) hC dX9_tillAll_23 rfl rfl rfl ?_
          refine fg_X9_7 (n := 27) hC hI dX9_tillAll_24 rfl ?_
          refine hz_iconst (v := (3 : Int32)) (n := 28) hC dX9_tillAll_27 (by decide +kernel) rfl ?_
          refine hz_ialdc (k := 3) (n := 29) hC (by decide +kernel) (by decide) dX9_tillAll_28 (hI 1 (by decide)) ha_m1 rfl ?_
          refine hz_ishl (n := 30) hC dX9_tillAll_29 rfl ?_
          refine hz_iconst (v := (-1 : Int32)) (n := 31) hC dX9_tillAll_30 (by decide +kernel) rfl ?_
          refine hz_ixor (n := 32) hC dX9_tillAll_31 rfl ?_
          refine hz_iand (n := 33) hC dX9_tillAll_32 rfl ?_
          refine hz_istore_n (L' := [(2, .int (x2 &&& (((1 : Int32) <<< ((M 13 1 3) &&& 31)) ^^^ (-1 : Int32)))), (0, .ref (adr 13 0)), (3, .int x3)]) (n := 34) hC dX9_tillAll_33 rfl (by decide) rfl rfl ?_
          refine hz_iload_n (a := 0) (n := 35) hC dX9_tillAll_34 rfl rfl rfl ?_
          refine hz_if_ne (tgt := 40) (n := 38) hC dX9_tillAll_35 (by decide) rfl (fun _ => ?_) (fun _ => ?_)
          · refine hz_iload_n (a := 2) (n := 39) hC dX9_tillAll_38 rfl rfl rfl ?_
            exact hz_iret hC hr dX9_tillAll_39
          · refine hz_aload_n (a := 1) (n := 41) hC dX9_tillAll_40 rfl rfl rfl ?_
            refine hz_callV (k := 0) (As := []) (st := []) (S1 := fun _ => []) (n := 44) hC (c_X9_minute l    M) kv_X9_minute wd_7_80 hI dX9_tillAll_41 rfl (hI 0 (by decide)) he_X9 rfl rfl rfl (Nat.le_of_ble_eq_true rfl) ⟨Nat.le_of_ble_eq_true rfl, Nat.le_of_ble_eq_true rfl⟩ ⟨Nat.zero_le _, Nat.zero_le _⟩ (fun _ => rfl) rfl (fun r1 M1 _ => ?_)
            refine hz_iinc (a := 2) (v := (x3 + (1 : Int32))) (L' := [(3, .int (x3 + (1 : Int32))), (2, .int (x2 &&& (((1 : Int32) <<< ((M 13 1 3) &&& 31)) ^^^ (-1 : Int32)))), (0, .ref (adr 13 0))]) (n := 47) hC dX9_tillAll_44 rfl rfl (by decide) rfl rfl ?_
            refine hz_goto (n := 4) hC dX9_tillAll_47 (by decide) ?_
            refine hz_L (L' := [(0, .ref (adr 13 0)), (2, .int (x2 &&& (((1 : Int32) <<< ((M 13 1 3) &&& 31)) ^^^ (-1 : Int32)))), (3, .int (x3 + (1 : Int32)))]) [2, 1, 0] rfl ?_
            exact ih4 _ _ _
        · refine hz_iload_n (a := 1) (n := 35) hC dX9_tillAll_34 rfl rfl rfl ?_
          refine hz_if_ne (tgt := 40) (n := 38) hC dX9_tillAll_35 (by decide) rfl (fun _ => ?_) (fun _ => ?_)
          · refine hz_iload_n (a := 2) (n := 39) hC dX9_tillAll_38 rfl rfl rfl ?_
            exact hz_iret hC hr dX9_tillAll_39
          · refine hz_aload_n (a := 0) (n := 41) hC dX9_tillAll_40 rfl rfl rfl ?_
            refine hz_callV (k := 0) (As := []) (st := []) (S1 := fun _ => []) (n := 44) hC (c_X9_minute l    M) kv_X9_minute wd_7_80 hI dX9_tillAll_41 rfl (hI 0 (by decide)) he_X9 rfl rfl rfl (Nat.le_of_ble_eq_true rfl) ⟨Nat.le_of_ble_eq_true rfl, Nat.le_of_ble_eq_true rfl⟩ ⟨Nat.zero_le _, Nat.zero_le _⟩ (fun _ => rfl) rfl (fun r2 M2 _ => ?_)
            refine hz_iinc (a := 2) (v := (x3 + (1 : Int32))) (L' := [(3, .int (x3 + (1 : Int32))), (0, .ref (adr 13 0)), (2, .int x2)]) (n := 47) hC dX9_tillAll_44 rfl rfl (by decide) rfl rfl ?_
            refine hz_goto (n := 4) hC dX9_tillAll_47 (by decide) ?_
            refine hz_L (L' := [(0, .ref (adr 13 0)), (2, .int x2), (3, .int (x3 + (1 : Int32)))]) [1, 2, 0] rfl ?_
            exact ih4 _ _ _
  refine hz_iload_n (a := 1) (n := 1) hC dX9_tillAll_0 rfl rfl rfl ?_
  refine hz_istore_n (L' := [(2, .int a0), (0, .ref (adr 13 0)), (1, .int a0)]) (n := 2) hC dX9_tillAll_1 rfl (by decide) rfl rfl ?_
  refine hz_iconst (v := (0 : Int32)) (n := 3) hC dX9_tillAll_2 (by decide +kernel) rfl ?_
  refine hz_istore_n (L' := [(3, .int (0 : Int32)), (2, .int a0), (0, .ref (adr 13 0)), (1, .int a0)]) (n := 4) hC dX9_tillAll_3 rfl (by decide) rfl rfl ?_
  refine hz_L (L' := [(0, .ref (adr 13 0)), (2, .int a0), (3, .int (0 : Int32))]) [2, 1, 0] rfl ?_
  exact l4 hp_fu _ _ _
def L_X9_bestLimit_17   (k17_1 : Int32) : Nat → Int32 → Int32 → Int32 → hp_M → Option (Int32 × hp_M)
  | 0, _, _, _, _ => none
  | n17 + 1, x2, x3, x4, M => (if (60 : Int32) < x4 then (some (x2, M)) else (if k17_1 = 0 then (some (x2, M)) else (hp_b (F_X9_setAside M) (fun _ M2 => (hp_b (F_X9_tillAll k17_1 (hp_p M2 13 1 7 x4)) (fun r3 M3 => (hp_b (F_X9_bringBack M3) (fun _ M4 => (if r3 = (-1 : Int32) then (L_X9_bestLimit_17 k17_1 n17 x2 x3 (x4 + (1 : Int32)) M4) else (if x2 = (-1 : Int32) then (L_X9_bestLimit_17 k17_1 n17 x4 r3 (x4 + (1 : Int32)) M4) else (if x3 ≤ r3 then (L_X9_bestLimit_17 k17_1 n17 x2 x3 (x4 + (1 : Int32)) M4) else (L_X9_bestLimit_17 k17_1 n17 x4 r3 (x4 + (1 : Int32)) M4))))))))))))
def F_X9_bestLimit  (M : hp_M) : Option (Int32 × hp_M) := (hp_b (F_X9_waiting (hp_p M 13 0 13 (0 : Int32))) (fun r1 M1 => (L_X9_bestLimit_17 r1 hp_fu (-1 : Int32) (0 : Int32) (1 : Int32) M1)))
set_option maxRecDepth 20000 in
set_option maxHeartbeats 4000000 in
theorem c_X9_bestLimit (l : Launch)   (M : hp_M) : hp_Ct l yX9_bestLimit cX9_bestLimit 6 (some .int) 5 hp_IR (fun adr adV => [.ref (adr 13 0)]) hp_oi M (F_X9_bestLimit  M) := by
  refine hp_start "HallPhoneModel" (fun adr adV => [(0, .ref (adr 13 0))]) (by decide) rfl (fun _ _ => by simp only [lg_sl]; exact Nat.le_of_ble_eq_true rfl) (fun _ _ => rfl) ?_
  intro p e s m args below meth c A D ids adr adV cA rep G0 hI hC hr
  unfold F_X9_bestLimit
  have l17 : ∀ (k17_1 : Int32) (n17 : Nat) (x2 : Int32) (x3 : Int32) (x4 : Int32) (M : hp_M), hp_Z p l e (hp_rm 5) s m args below meth c 6 A D ids adr adV cA 0 0 (MQ below (hp_Q A D ids adr adV cA rep hp_oi G0) args s 0 0 A) G0 rep 17 [(0, .ref (adr 13 0)), (1, .int k17_1), (2, .int x2), (3, .int x3), (4, .int x4)] [] M (L_X9_bestLimit_17 k17_1 n17 x2 x3 x4 M) := by
    intro k17_1 n17
    induction n17 with
    | zero => intro x2 x3 x4 M; exact hz_none hC
    | succ n17 ih17 =>
      intro x2 x3 x4 M
      rw [L_X9_bestLimit_17.eq_2]
      refine hz_iload (a := 4) (n := 19) hC dX9_bestLimit_17 rfl rfl ?_
      refine hz_bipush (v := (60 : Int32)) (n := 21) hC dX9_bestLimit_19 (by decide +kernel) rfl ?_
      refine hz_icmp_gt (tgt := 81) (n := 24) hC dX9_bestLimit_21 (by decide) rfl (fun _ => ?_) (fun _ => ?_)
      · refine hz_iload_n (a := 2) (n := 82) hC dX9_bestLimit_81 rfl rfl rfl ?_
        exact hz_iret hC hr dX9_bestLimit_82
      · refine hz_iload_n (a := 1) (n := 25) hC dX9_bestLimit_24 rfl rfl rfl ?_
        refine hz_if_eq (tgt := 81) (n := 28) hC dX9_bestLimit_25 (by decide) rfl (fun _ => ?_) (fun _ => ?_)
        · refine hz_iload_n (a := 2) (n := 82) hC dX9_bestLimit_81 rfl rfl rfl ?_
          exact hz_iret hC hr dX9_bestLimit_82
        · refine hz_aload_n (a := 0) (n := 29) hC dX9_bestLimit_28 rfl rfl rfl ?_
          refine hz_callV (k := 0) (As := []) (st := []) (S1 := fun _ => []) (n := 32) hC (c_X9_setAside l    M) kv_X9_setAside wd_8_40 hI dX9_bestLimit_29 rfl (hI 0 (by decide)) he_X9 rfl rfl rfl (Nat.le_of_ble_eq_true rfl) ⟨Nat.le_of_ble_eq_true rfl, Nat.le_of_ble_eq_true rfl⟩ ⟨Nat.zero_le _, Nat.zero_le _⟩ (fun _ => rfl) rfl (fun r2 M2 _ => ?_)
          refine hz_aload_n (a := 0) (n := 33) hC dX9_bestLimit_32 rfl rfl rfl ?_
          refine fg_X9_7 (n := 36) hC hI dX9_bestLimit_33 rfl ?_
          refine hz_bipush (v := (7 : Int32)) (n := 38) hC dX9_bestLimit_36 (by decide +kernel) rfl ?_
          refine hz_iload (a := 4) (n := 40) hC dX9_bestLimit_38 rfl rfl ?_
          refine hz_iastc (k := 7) (n := 41) hC (by decide +kernel) (by decide) dX9_bestLimit_40 (hI 1 (by decide)) ha_m1 rfl ?_
          refine hz_aload_n (a := 0) (n := 42) hC dX9_bestLimit_41 rfl rfl rfl ?_
          refine hz_iload_n (a := 1) (n := 43) hC dX9_bestLimit_42 rfl rfl rfl ?_
          refine hz_callV (k := 1) (As := [.int k17_1]) (st := []) (S1 := fun r => .int r :: []) (n := 46) hC (c_X9_tillAll l k17_1   (hp_p M2 13 1 7 x4)) kv_X9_tillAll wd_8_76 hI dX9_bestLimit_43 rfl (hI 0 (by decide)) he_X9 rfl rfl rfl (Nat.le_of_ble_eq_true rfl) ⟨Nat.le_of_ble_eq_true rfl, Nat.le_of_ble_eq_true rfl⟩ ⟨Nat.zero_le _, Nat.zero_le _⟩ (fun _ => rfl) rfl (fun r3 M3 _ => ?_)
          refine hz_istore (L' := [(5, .int r3), (0, .ref (adr 13 0)), (1, .int k17_1), (2, .int x2), (3, .int x3), (4, .int x4)]) (n := 48) hC dX9_bestLimit_46 (by decide) rfl rfl ?_
          refine hz_aload_n (a := 1) (n := 49) hC dX9_bestLimit_48 rfl rfl rfl ?_
          refine hz_callV (k := 0) (As := []) (st := []) (S1 := fun _ => []) (n := 52) hC (c_X9_bringBack l    M3) kv_X9_bringBack wd_8_48 hI dX9_bestLimit_49 rfl (hI 0 (by decide)) he_X9 rfl rfl rfl (Nat.le_of_ble_eq_true rfl) ⟨Nat.le_of_ble_eq_true rfl, Nat.le_of_ble_eq_true rfl⟩ ⟨Nat.zero_le _, Nat.zero_le _⟩ (fun _ => rfl) rfl (fun r4 M4 _ => ?_)
          refine hz_iload (a := 0) (n := 54) hC dX9_bestLimit_52 rfl rfl ?_
          refine hz_iconst (v := (-1 : Int32)) (n := 55) hC dX9_bestLimit_54 (by decide +kernel) rfl ?_
          refine hz_icmp_eq (tgt := 75) (n := 58) hC dX9_bestLimit_55 (by decide) rfl (fun _ => ?_) (fun _ => ?_)
          · refine hz_iinc (a := 5) (v := (x4 + (1 : Int32))) (L' := [(4, .int (x4 + (1 : Int32))), (5, .int r3), (0, .ref (adr 13 0)), (1, .int k17_1), (2, .int x2), (3, .int x3)]) (n := 78) hC dX9_bestLimit_75 rfl rfl (by decide) rfl rfl ?_
            refine hz_goto (n := 17) hC dX9_bestLimit_78 (by decide) ?_
            refine hz_L (L' := [(0, .ref (adr 13 0)), (1, .int k17_1), (2, .int x2), (3, .int x3), (4, .int (x4 + (1 : Int32)))]) [2, 3, 4, 5, 0] rfl ?_
            exact ih17 _ _ _ _
          · refine hz_iload_n (a := 3) (n := 59) hC dX9_bestLimit_58 rfl rfl rfl ?_
            refine hz_iconst (v := (-1 : Int32)) (n := 60) hC dX9_bestLimit_59 (by decide +kernel) rfl ?_
            refine hz_icmp_eq (tgt := 69) (n := 63) hC dX9_bestLimit_60 (by decide) rfl (fun _ => ?_) (fun _ => ?_)
            · refine hz_iload (a := 5) (n := 71) hC dX9_bestLimit_69 rfl rfl ?_
              refine hz_istore_n (L' := [(2, .int x4), (5, .int r3), (0, .ref (adr 13 0)), (1, .int k17_1), (3, .int x3), (4, .int x4)]) (n := 72) hC dX9_bestLimit_71 rfl (by decide) rfl rfl ?_
              refine hz_iload (a := 1) (n := 74) hC dX9_bestLimit_72 rfl rfl ?_
              refine hz_istore_n (L' := [(3, .int r3), (2, .int x4), (5, .int r3), (0, .ref (adr 13 0)), (1, .int k17_1), (4, .int x4)]) (n := 75) hC dX9_bestLimit_74 rfl (by decide) rfl rfl ?_
              refine hz_iinc (a := 5) (v := (x4 + (1 : Int32))) (L' := [(4, .int (x4 + (1 : Int32))), (3, .int r3), (2, .int x4), (5, .int r3), (0, .ref (adr 13 0)), (1, .int k17_1)]) (n := 78) hC dX9_bestLimit_75 rfl rfl (by decide) rfl rfl ?_
              refine hz_goto (n := 17) hC dX9_bestLimit_78 (by decide) ?_
              refine hz_L (L' := [(0, .ref (adr 13 0)), (1, .int k17_1), (2, .int x4), (3, .int r3), (4, .int (x4 + (1 : Int32)))]) [4, 5, 2, 1, 0] rfl ?_
              exact ih17 _ _ _ _
            · refine hz_iload (a := 0) (n := 65) hC dX9_bestLimit_63 rfl rfl ?_
              refine hz_iload_n (a := 4) (n := 66) hC dX9_bestLimit_65 rfl rfl rfl ?_
              refine hz_icmp_ge (tgt := 75) (n := 69) hC dX9_bestLimit_66 (by decide) rfl (fun _ => ?_) (fun _ => ?_)
              · refine hz_iinc (a := 5) (v := (x4 + (1 : Int32))) (L' := [(4, .int (x4 + (1 : Int32))), (5, .int r3), (0, .ref (adr 13 0)), (1, .int k17_1), (2, .int x2), (3, .int x3)]) (n := 78) hC dX9_bestLimit_75 rfl rfl (by decide) rfl rfl ?_
                refine hz_goto (n := 17) hC dX9_bestLimit_78 (by decide) ?_
                refine hz_L (L' := [(0, .ref (adr 13 0)), (1, .int k17_1), (2, .int x2), (3, .int x3), (4, .int (x4 + (1 : Int32)))]) [2, 3, 4, 5, 0] rfl ?_
                exact ih17 _ _ _ _
              · refine hz_iload (a := 5) (n := 71) hC dX9_bestLimit_69 rfl rfl ?_
                refine hz_istore_n (L' := [(2, .int x4), (5, .int r3), (0, .ref (adr 13 0)), (1, .int k17_1), (3, .int x3), (4, .int x4)]) (n := 72) hC dX9_bestLimit_71 rfl (by decide) rfl rfl ?_
                refine hz_iload (a := 1) (n := 74) hC dX9_bestLimit_72 rfl rfl ?_
                refine hz_istore_n (L' := [(3, .int r3), (2, .int x4), (5, .int r3), (0, .ref (adr 13 0)), (1, .int k17_1), (4, .int x4)]) (n := 75) hC dX9_bestLimit_74 rfl (by decide) rfl rfl ?_
                refine hz_iinc (a := 5) (v := (x4 + (1 : Int32))) (L' := [(4, .int (x4 + (1 : Int32))), (3, .int r3), (2, .int x4), (5, .int r3), (0, .ref (adr 13 0)), (1, .int k17_1)]) (n := 78) hC dX9_bestLimit_75 rfl rfl (by decide) rfl rfl ?_
                refine hz_goto (n := 17) hC dX9_bestLimit_78 (by decide) ?_
                refine hz_L (L' := [(0, .ref (adr 13 0)), (1, .int k17_1), (2, .int x4), (3, .int r3), (4, .int (x4 + (1 : Int32)))]) [4, 5, 2, 1, 0] rfl ?_
                exact ih17 _ _ _ _
  refine hz_aload_n (a := 0) (n := 1) hC dX9_bestLimit_0 rfl rfl rfl ?_
  refine hz_iconst (v := (0 : Int32)) (n := 2) hC dX9_bestLimit_1 (by decide +kernel) rfl ?_
  refine fp_X9_42 (n := 5) hC hI (0 : Int32) dX9_bestLimit_2 rfl ?_
  refine hz_aload_n (a := 0) (n := 6) hC dX9_bestLimit_5 rfl rfl rfl ?_
  refine hz_callV (k := 0) (As := []) (st := []) (S1 := fun r => .int r :: []) (n := 9) hC (c_X9_waiting l    (hp_p M 13 0 13 (0 : Int32))) kv_X9_waiting wd_8_72 hI dX9_bestLimit_6 rfl (hI 0 (by decide)) he_X9 rfl rfl rfl (Nat.le_of_ble_eq_true rfl) ⟨Nat.le_of_ble_eq_true rfl, Nat.le_of_ble_eq_true rfl⟩ ⟨Nat.zero_le _, Nat.zero_le _⟩ (fun _ => rfl) rfl (fun r1 M1 _ => ?_)
  refine hz_istore_n (L' := [(1, .int r1), (0, .ref (adr 13 0))]) (n := 10) hC dX9_bestLimit_9 rfl (by decide) rfl rfl ?_
  refine hz_iconst (v := (-1 : Int32)) (n := 11) hC dX9_bestLimit_10 (by decide +kernel) rfl ?_
  refine hz_istore_n (L' := [(2, .int (-1 : Int32)), (1, .int r1), (0, .ref (adr 13 0))]) (n := 12) hC dX9_bestLimit_11 rfl (by decide) rfl rfl ?_
  refine hz_iconst (v := (0 : Int32)) (n := 13) hC dX9_bestLimit_12 (by decide +kernel) rfl ?_
  refine hz_istore_n (L' := [(3, .int (0 : Int32)), (2, .int (-1 : Int32)), (1, .int r1), (0, .ref (adr 13 0))]) (n := 14) hC dX9_bestLimit_13 rfl (by decide) rfl rfl ?_
  refine hz_iconst (v := (1 : Int32)) (n := 15) hC dX9_bestLimit_14 (by decide +kernel) rfl ?_
  refine hz_istore (L' := [(4, .int (1 : Int32)), (3, .int (0 : Int32)), (2, .int (-1 : Int32)), (1, .int r1), (0, .ref (adr 13 0))]) (n := 17) hC dX9_bestLimit_15 (by decide) rfl rfl ?_
  refine hz_L (L' := [(0, .ref (adr 13 0)), (1, .int r1), (2, .int (-1 : Int32)), (3, .int (0 : Int32)), (4, .int (1 : Int32))]) [4, 3, 2, 1, 0] rfl ?_
  exact l17 _ hp_fu _ _ _ _
def L_X9_known_4 (a0 : Int32)   : Nat → Int32 → Int32 → hp_M → Option (Int32 × hp_M)
  | 0, _, _, _ => none
  | n4 + 1, x2, x3, M => (if (M 13 1 0) ≤ x3 then (some (x2, M)) else (hp_b (F_X9_heardOf a0 x3 M) (fun r1 M1 => (if r1 < (M1 13 1 11) then (L_X9_known_4 a0 n4 (x2 ||| (0 : Int32)) (x3 + (1 : Int32)) M1) else (L_X9_known_4 a0 n4 (x2 ||| ((1 : Int32) <<< (x3 &&& 31))) (x3 + (1 : Int32)) M1)))))
def F_X9_known (a0 : Int32) (M : hp_M) : Option (Int32 × hp_M) := (L_X9_known_4 a0 hp_fu (0 : Int32) (0 : Int32) M)
set_option maxRecDepth 20000 in
set_option maxHeartbeats 4000000 in
theorem c_X9_known (l : Launch) (a0 : Int32)  (M : hp_M) : hp_Ct l yX9_known cX9_known 4 (some .int) 1 hp_IR (fun adr adV => [.ref (adr 13 0), .int a0]) hp_oi M (F_X9_known a0 M) := by
  refine hp_start "HallPhoneModel" (fun adr adV => [(0, .ref (adr 13 0)), (1, .int a0)]) (by decide) rfl (fun _ _ => by simp only [lg_sl]; exact Nat.le_of_ble_eq_true rfl) (fun _ _ => rfl) ?_
  intro p e s m args below meth c A D ids adr adV cA rep G0 hI hC hr
  unfold F_X9_known
  have l4 : ∀  (n4 : Nat) (x2 : Int32) (x3 : Int32) (M : hp_M), hp_Z p l e (hp_rm 1) s m args below meth c 4 A D ids adr adV cA 0 0 (MQ below (hp_Q A D ids adr adV cA rep hp_oi G0) args s 0 0 A) G0 rep 4 [(0, .ref (adr 13 0)), (1, .int a0), (2, .int x2), (3, .int x3)] [] M (L_X9_known_4 a0 n4 x2 x3 M) := by
    intro  n4
    induction n4 with
    | zero => intro x2 x3 M; exact hz_none hC
    | succ n4 ih4 =>
      intro x2 x3 M
      rw [L_X9_known_4.eq_2]
      refine hz_iload_n (a := 3) (n := 5) hC dX9_known_4 rfl rfl rfl ?_
      refine hz_aload_n (a := 0) (n := 6) hC dX9_known_5 rfl rfl rfl ?_
      refine fg_X9_7 (n := 9) hC hI dX9_known_6 rfl ?_
      refine hz_iconst (v := (0 : Int32)) (n := 10) hC dX9_known_9 (by decide +kernel) rfl ?_
      refine hz_ialdc (k := 0) (n := 11) hC (by decide +kernel) (by decide) dX9_known_10 (hI 1 (by decide)) ha_m1 rfl ?_
      refine hz_icmp_ge (tgt := 46) (n := 14) hC dX9_known_11 (by decide) rfl (fun _ => ?_) (fun _ => ?_)
      · refine hz_iload_n (a := 2) (n := 47) hC dX9_known_46 rfl rfl rfl ?_
        exact hz_iret hC hr dX9_known_47
      · refine hz_iload_n (a := 2) (n := 15) hC dX9_known_14 rfl rfl rfl ?_
        refine hz_aload_n (a := 0) (n := 16) hC dX9_known_15 rfl rfl rfl ?_
        refine hz_iload_n (a := 1) (n := 17) hC dX9_known_16 rfl rfl rfl ?_
        refine hz_iload_n (a := 3) (n := 18) hC dX9_known_17 rfl rfl rfl ?_
        refine hz_callV (k := 2) (As := [.int a0, .int x3]) (st := [.int x2]) (S1 := fun r => .int r :: [.int x2]) (n := 21) hC (c_X9_heardOf l a0 x3   M) kv_X9_heardOf wd_8_1 hI dX9_known_18 rfl (hI 0 (by decide)) he_X9 rfl rfl rfl (Nat.le_of_ble_eq_true rfl) ⟨Nat.le_of_ble_eq_true rfl, Nat.le_of_ble_eq_true rfl⟩ ⟨Nat.zero_le _, Nat.zero_le _⟩ (fun _ => rfl) rfl (fun r1 M1 _ => ?_)
        refine hz_aload_n (a := 0) (n := 22) hC dX9_known_21 rfl rfl rfl ?_
        refine fg_X9_7 (n := 25) hC hI dX9_known_22 rfl ?_
        refine hz_bipush (v := (11 : Int32)) (n := 27) hC dX9_known_25 (by decide +kernel) rfl ?_
        refine hz_ialdc (k := 11) (n := 28) hC (by decide +kernel) (by decide) dX9_known_27 (hI 1 (by decide)) ha_m1 rfl ?_
        refine hz_icmp_lt (tgt := 37) (n := 31) hC dX9_known_28 (by decide) rfl (fun _ => ?_) (fun _ => ?_)
        · refine hz_iconst (v := (0 : Int32)) (n := 38) hC dX9_known_37 (by decide +kernel) rfl ?_
          refine hz_ior (n := 39) hC dX9_known_38 rfl ?_
          refine hz_istore_n (L' := [(2, .int (x2 ||| (0 : Int32))), (0, .ref (adr 13 0)), (1, .int a0), (3, .int x3)]) (n := 40) hC dX9_known_39 rfl (by decide) rfl rfl ?_
          refine hz_iinc (a := 3) (v := (x3 + (1 : Int32))) (L' := [(3, .int (x3 + (1 : Int32))), (2, .int (x2 ||| (0 : Int32))), (0, .ref (adr 13 0)), (1, .int a0)]) (n := 43) hC dX9_known_40 rfl rfl (by decide) rfl rfl ?_
          refine hz_goto (n := 4) hC dX9_known_43 (by decide) ?_
          refine hz_L (L' := [(0, .ref (adr 13 0)), (1, .int a0), (2, .int (x2 ||| (0 : Int32))), (3, .int (x3 + (1 : Int32)))]) [2, 3, 1, 0] rfl ?_
          exact ih4 _ _ _
        · refine hz_iconst (v := (1 : Int32)) (n := 32) hC dX9_known_31 (by decide +kernel) rfl ?_
          refine hz_iload_n (a := 3) (n := 33) hC dX9_known_32 rfl rfl rfl ?_
          refine hz_ishl (n := 34) hC dX9_known_33 rfl ?_
          refine hz_goto (n := 38) hC dX9_known_34 (by decide) ?_
          refine hz_ior (n := 39) hC dX9_known_38 rfl ?_
          refine hz_istore_n (L' := [(2, .int (x2 ||| ((1 : Int32) <<< (x3 &&& 31)))), (0, .ref (adr 13 0)), (1, .int a0), (3, .int x3)]) (n := 40) hC dX9_known_39 rfl (by decide) rfl rfl ?_
          refine hz_iinc (a := 3) (v := (x3 + (1 : Int32))) (L' := [(3, .int (x3 + (1 : Int32))), (2, .int (x2 ||| ((1 : Int32) <<< (x3 &&& 31)))), (0, .ref (adr 13 0)), (1, .int a0)]) (n := 43) hC dX9_known_40 rfl rfl (by decide) rfl rfl ?_
          refine hz_goto (n := 4) hC dX9_known_43 (by decide) ?_
          refine hz_L (L' := [(0, .ref (adr 13 0)), (1, .int a0), (2, .int (x2 ||| ((1 : Int32) <<< (x3 &&& 31)))), (3, .int (x3 + (1 : Int32)))]) [2, 3, 1, 0] rfl ?_
          exact ih4 _ _ _
  refine hz_iconst (v := (0 : Int32)) (n := 1) hC dX9_known_0 (by decide +kernel) rfl ?_
  refine hz_istore_n (L' := [(2, .int (0 : Int32)), (0, .ref (adr 13 0)), (1, .int a0)]) (n := 2) hC dX9_known_1 rfl (by decide) rfl rfl ?_
  refine hz_iconst (v := (0 : Int32)) (n := 3) hC dX9_known_2 (by decide +kernel) rfl ?_
  refine hz_istore_n (L' := [(3, .int (0 : Int32)), (2, .int (0 : Int32)), (0, .ref (adr 13 0)), (1, .int a0)]) (n := 4) hC dX9_known_3 rfl (by decide) rfl rfl ?_
  refine hz_L (L' := [(0, .ref (adr 13 0)), (1, .int a0), (2, .int (0 : Int32)), (3, .int (0 : Int32))]) [2, 3, 1, 0] rfl ?_
  exact l4 hp_fu _ _ _
def A_X9_learnsIn_30 (a0 : Int32) (a1 : Int32)  (z30_0 : Int32) (z30_1 : Int32) (M : hp_M) : Option (Int32 × hp_M) := (hp_b (F_X9_throwsOne_ z30_1 z30_0 M) (fun r3 M3 => (if r3 = 0 then (hp_b (F_X9_known a0 M3) (fun r4 M4 => (hp_b (F_X9_setAside M4) (fun _ M5 => (hp_b (F_X9_minutes a1 M5) (fun r6 M6 => (hp_b (F_X9_known a0 M6) (fun r7 M7 => (hp_b (F_X9_bringBack M7) (fun _ M8 => (some ((r7 &&& (r4 ^^^ (-1 : Int32))), M8)))))))))))) else (some ((0 : Int32), M3)))))
def A_X9_learnsIn_14 (a0 : Int32) (a1 : Int32)  (z14_0 : Int32) (M : hp_M) : Option (Int32 × hp_M) := (hp_b (F_X9_in a1 (0 : Int32) (500 : Int32) M) (fun r2 M2 => (if r2 = 0 then (A_X9_learnsIn_30 a0 a1 (1 : Int32) z14_0 M2) else (A_X9_learnsIn_30 a0 a1 (0 : Int32) z14_0 M2))))
def F_X9_learnsIn (a0 : Int32) (a1 : Int32) (M : hp_M) : Option (Int32 × hp_M) := (hp_b (F_X9_isFlat a0 M) (fun r1 M1 => (if r1 = 0 then (A_X9_learnsIn_14 a0 a1 (1 : Int32) M1) else (A_X9_learnsIn_14 a0 a1 (0 : Int32) M1))))
set_option maxRecDepth 20000 in
set_option maxHeartbeats 4000000 in
theorem c_X9_learnsIn (l : Launch) (a0 : Int32) (a1 : Int32)  (M : hp_M) : hp_Ct l yX9_learnsIn cX9_learnsIn 5 (some .int) 5 hp_IR (fun adr adV => [.ref (adr 13 0), .int a0, .int a1]) hp_oi M (F_X9_learnsIn a0 a1 M) := by
  refine hp_start "HallPhoneModel" (fun adr adV => [(0, .ref (adr 13 0)), (1, .int a0), (2, .int a1)]) (by decide) rfl (fun _ _ => by simp only [lg_sl]; exact Nat.le_of_ble_eq_true rfl) (fun _ _ => rfl) ?_
  intro p e s m args below meth c A D ids adr adV cA rep G0 hI hC hr
  unfold F_X9_learnsIn
  have j30 : ∀ (z30_0 : Int32) (z30_1 : Int32) (M : hp_M), hp_Z p l e (hp_rm 5) s m args below meth c 5 A D ids adr adV cA 0 0 (MQ below (hp_Q A D ids adr adV cA rep hp_oi G0) args s 0 0 A) G0 rep 30 [(0, .ref (adr 13 0)), (1, .int a0), (2, .int a1)] [.int z30_0, .int z30_1, .ref (adr 13 0)] M (A_X9_learnsIn_30 a0 a1 z30_0 z30_1 M) := by
    intro z30_0 z30_1 M
    unfold A_X9_learnsIn_30
    refine hz_callV (k := 2) (As := [.int z30_1, .int z30_0]) (st := []) (S1 := fun r => .int r :: []) (n := 33) hC (c_X9_throwsOne_ l z30_1 z30_0   M) kv_X9_throwsOne_ wd_7_217 hI dX9_learnsIn_30 rfl (hI 0 (by decide)) he_X9 rfl rfl rfl (Nat.le_of_ble_eq_true rfl) ⟨Nat.le_of_ble_eq_true rfl, Nat.le_of_ble_eq_true rfl⟩ ⟨Nat.zero_le _, Nat.zero_le _⟩ (fun _ => rfl) rfl (fun r3 M3 _ => ?_)
    refine hz_if_eq (tgt := 38) (n := 36) hC dX9_learnsIn_33 (by decide) rfl (fun _ => ?_) (fun _ => ?_)
    · refine hz_aload_n (a := 0) (n := 39) hC dX9_learnsIn_38 rfl rfl rfl ?_
      refine hz_iload_n (a := 1) (n := 40) hC dX9_learnsIn_39 rfl rfl rfl ?_
      refine hz_callV (k := 1) (As := [.int a0]) (st := []) (S1 := fun r => .int r :: []) (n := 43) hC (c_X9_known l a0   M3) kv_X9_known wd_8_84 hI dX9_learnsIn_40 rfl (hI 0 (by decide)) he_X9 rfl rfl rfl (Nat.le_of_ble_eq_true rfl) ⟨Nat.le_of_ble_eq_true rfl, Nat.le_of_ble_eq_true rfl⟩ ⟨Nat.zero_le _, Nat.zero_le _⟩ (fun _ => rfl) rfl (fun r4 M4 _ => ?_)
      refine hz_istore_n (L' := [(3, .int r4), (0, .ref (adr 13 0)), (1, .int a0), (2, .int a1)]) (n := 44) hC dX9_learnsIn_43 rfl (by decide) rfl rfl ?_
      refine hz_aload_n (a := 1) (n := 45) hC dX9_learnsIn_44 rfl rfl rfl ?_
      refine hz_callV (k := 0) (As := []) (st := []) (S1 := fun _ => []) (n := 48) hC (c_X9_setAside l    M4) kv_X9_setAside wd_8_40 hI dX9_learnsIn_45 rfl (hI 0 (by decide)) he_X9 rfl rfl rfl (Nat.le_of_ble_eq_true rfl) ⟨Nat.le_of_ble_eq_true rfl, Nat.le_of_ble_eq_true rfl⟩ ⟨Nat.zero_le _, Nat.zero_le _⟩ (fun _ => rfl) rfl (fun r5 M5 _ => ?_)
      refine hz_aload_n (a := 1) (n := 49) hC dX9_learnsIn_48 rfl rfl rfl ?_
      refine hz_iload_n (a := 3) (n := 50) hC dX9_learnsIn_49 rfl rfl rfl ?_
      refine hz_callV (k := 1) (As := [.int a1]) (st := []) (S1 := fun r => .int r :: []) (n := 53) hC (c_X9_minutes l a1   M5) kv_X9_minutes wd_7_76 hI dX9_learnsIn_50 rfl (hI 0 (by decide)) he_X9 rfl rfl rfl (Nat.le_of_ble_eq_true rfl) ⟨Nat.le_of_ble_eq_true rfl, Nat.le_of_ble_eq_true rfl⟩ ⟨Nat.zero_le _, Nat.zero_le _⟩ (fun _ => rfl) rfl (fun r6 M6 _ => ?_)
      refine hz_pop (n := 54) hC dX9_learnsIn_53 rfl rfl ?_
      refine hz_aload_n (a := 1) (n := 55) hC dX9_learnsIn_54 rfl rfl rfl ?_
      refine hz_iload_n (a := 2) (n := 56) hC dX9_learnsIn_55 rfl rfl rfl ?_
      refine hz_callV (k := 1) (As := [.int a0]) (st := []) (S1 := fun r => .int r :: []) (n := 59) hC (c_X9_known l a0   M6) kv_X9_known wd_8_84 hI dX9_learnsIn_56 rfl (hI 0 (by decide)) he_X9 rfl rfl rfl (Nat.le_of_ble_eq_true rfl) ⟨Nat.le_of_ble_eq_true rfl, Nat.le_of_ble_eq_true rfl⟩ ⟨Nat.zero_le _, Nat.zero_le _⟩ (fun _ => rfl) rfl (fun r7 M7 _ => ?_)
      refine hz_istore (L' := [(4, .int r7), (3, .int r4), (0, .ref (adr 13 0)), (1, .int a0), (2, .int a1)]) (n := 61) hC dX9_learnsIn_59 (by decide) rfl rfl ?_
      refine hz_aload_n (a := 2) (n := 62) hC dX9_learnsIn_61 rfl rfl rfl ?_
      refine hz_callV (k := 0) (As := []) (st := []) (S1 := fun _ => []) (n := 65) hC (c_X9_bringBack l    M7) kv_X9_bringBack wd_8_48 hI dX9_learnsIn_62 rfl (hI 0 (by decide)) he_X9 rfl rfl rfl (Nat.le_of_ble_eq_true rfl) ⟨Nat.le_of_ble_eq_true rfl, Nat.le_of_ble_eq_true rfl⟩ ⟨Nat.zero_le _, Nat.zero_le _⟩ (fun _ => rfl) rfl (fun r8 M8 _ => ?_)
      refine hz_iload (a := 0) (n := 67) hC dX9_learnsIn_65 rfl rfl ?_
      refine hz_iload_n (a := 1) (n := 68) hC dX9_learnsIn_67 rfl rfl rfl ?_
      refine hz_iconst (v := (-1 : Int32)) (n := 69) hC dX9_learnsIn_68 (by decide +kernel) rfl ?_
      refine hz_ixor (n := 70) hC dX9_learnsIn_69 rfl ?_
      refine hz_iand (n := 71) hC dX9_learnsIn_70 rfl ?_
      exact hz_iret hC hr dX9_learnsIn_71
    · refine hz_iconst (v := (0 : Int32)) (n := 37) hC dX9_learnsIn_36 (by decide +kernel) rfl ?_
      exact hz_iret hC hr dX9_learnsIn_37
  have j14 : ∀ (z14_0 : Int32) (M : hp_M), hp_Z p l e (hp_rm 5) s m args below meth c 5 A D ids adr adV cA 0 0 (MQ below (hp_Q A D ids adr adV cA rep hp_oi G0) args s 0 0 A) G0 rep 14 [(0, .ref (adr 13 0)), (1, .int a0), (2, .int a1)] [.int z14_0, .ref (adr 13 0)] M (A_X9_learnsIn_14 a0 a1 z14_0 M) := by
    intro z14_0 M
    unfold A_X9_learnsIn_14
    refine hz_iload_n (a := 2) (n := 15) hC dX9_learnsIn_14 rfl rfl rfl ?_
    refine hz_iconst (v := (0 : Int32)) (n := 16) hC dX9_learnsIn_15 (by decide +kernel) rfl ?_
    refine hz_sipush (v := (500 : Int32)) (n := 19) hC dX9_learnsIn_16 (by decide +kernel) rfl ?_
    refine hz_callS (k := 3) (As := [.int a1, .int (0 : Int32), .int (500 : Int32)]) (st := [.int z14_0, .ref (adr 13 0)]) (S1 := fun r => .int r :: [.int z14_0, .ref (adr 13 0)]) (n := 22) hC (c_X9_in l a1 (0 : Int32) (500 : Int32)   M) ks_X9_in wd_6_198 hI dX9_learnsIn_19 rfl rfl rfl (Nat.le_of_ble_eq_true rfl) ⟨Nat.le_of_ble_eq_true rfl, Nat.le_of_ble_eq_true rfl⟩ ⟨Nat.zero_le _, Nat.zero_le _⟩ (fun _ => rfl) rfl (fun r2 M2 _ => ?_)
    refine hz_if_ne (tgt := 29) (n := 25) hC dX9_learnsIn_22 (by decide) rfl (fun _ => ?_) (fun _ => ?_)
    · refine hz_iconst (v := (1 : Int32)) (n := 26) hC dX9_learnsIn_25 (by decide +kernel) rfl ?_
      refine hz_goto (n := 30) hC dX9_learnsIn_26 (by decide) ?_
      exact j30 _ _ _
    · refine hz_iconst (v := (0 : Int32)) (n := 30) hC dX9_learnsIn_29 (by decide +kernel) rfl ?_
      exact j30 _ _ _
  refine hz_aload_n (a := 0) (n := 1) hC dX9_learnsIn_0 rfl rfl rfl ?_
  refine hz_aload_n (a := 0) (n := 2) hC dX9_learnsIn_1 rfl rfl rfl ?_
  refine hz_iload_n (a := 1) (n := 3) hC dX9_learnsIn_2 rfl rfl rfl ?_
  refine hz_callV (k := 1) (As := [.int a0]) (st := [.ref (adr 13 0)]) (S1 := fun r => .int r :: [.ref (adr 13 0)]) (n := 6) hC (c_X9_isFlat l a0   M) kv_X9_isFlat wd_7_213 hI dX9_learnsIn_3 rfl (hI 0 (by decide)) he_X9 rfl rfl rfl (Nat.le_of_ble_eq_true rfl) ⟨Nat.le_of_ble_eq_true rfl, Nat.le_of_ble_eq_true rfl⟩ ⟨Nat.zero_le _, Nat.zero_le _⟩ (fun _ => rfl) rfl (fun r1 M1 _ => ?_)
  refine hz_if_ne (tgt := 13) (n := 9) hC dX9_learnsIn_6 (by decide) rfl (fun _ => ?_) (fun _ => ?_)
  · refine hz_iconst (v := (1 : Int32)) (n := 10) hC dX9_learnsIn_9 (by decide +kernel) rfl ?_
    refine hz_goto (n := 14) hC dX9_learnsIn_10 (by decide) ?_
    exact j14 _ _
  · refine hz_iconst (v := (0 : Int32)) (n := 14) hC dX9_learnsIn_13 (by decide +kernel) rfl ?_
    exact j14 _ _
def F_X9_ifRung (a0 : Int32) (M : hp_M) : Option (Int32 × hp_M) := (hp_b (F_X9_isFlat a0 M) (fun r1 M1 => (if r1 = 0 then (hp_b (F_X9_throwsOne (1 : Int32) M1) (fun r2 M2 => (if r2 = 0 then (hp_b (F_X9_outcome a0 M2) (fun r3 M3 => (some (r3, M3)))) else (some ((0 : Int32), M2))))) else (hp_b (F_X9_throwsOne (0 : Int32) M1) (fun r4 M4 => (if r4 = 0 then (hp_b (F_X9_outcome a0 M4) (fun r5 M5 => (some (r5, M5)))) else (some ((0 : Int32), M4))))))))
set_option maxRecDepth 20000 in
set_option maxHeartbeats 4000000 in
theorem c_X9_ifRung (l : Launch) (a0 : Int32)  (M : hp_M) : hp_Ct l yX9_ifRung cX9_ifRung 2 (some .int) 2 hp_IR (fun adr adV => [.ref (adr 13 0), .int a0]) hp_oi M (F_X9_ifRung a0 M) := by
  refine hp_start "HallPhoneModel" (fun adr adV => [(0, .ref (adr 13 0)), (1, .int a0)]) (by decide) rfl (fun _ _ => by simp only [lg_sl]; exact Nat.le_of_ble_eq_true rfl) (fun _ _ => rfl) ?_
  intro p e s m args below meth c A D ids adr adV cA rep G0 hI hC hr
  unfold F_X9_ifRung
  refine hz_aload_n (a := 0) (n := 1) hC dX9_ifRung_0 rfl rfl rfl ?_
  refine hz_aload_n (a := 0) (n := 2) hC dX9_ifRung_1 rfl rfl rfl ?_
  refine hz_iload_n (a := 1) (n := 3) hC dX9_ifRung_2 rfl rfl rfl ?_
  refine hz_callV (k := 1) (As := [.int a0]) (st := [.ref (adr 13 0)]) (S1 := fun r => .int r :: [.ref (adr 13 0)]) (n := 6) hC (c_X9_isFlat l a0   M) kv_X9_isFlat wd_7_213 hI dX9_ifRung_3 rfl (hI 0 (by decide)) he_X9 rfl rfl rfl (Nat.le_of_ble_eq_true rfl) ⟨Nat.le_of_ble_eq_true rfl, Nat.le_of_ble_eq_true rfl⟩ ⟨Nat.zero_le _, Nat.zero_le _⟩ (fun _ => rfl) rfl (fun r1 M1 _ => ?_)
  refine hz_if_ne (tgt := 13) (n := 9) hC dX9_ifRung_6 (by decide) rfl (fun _ => ?_) (fun _ => ?_)
  · refine hz_iconst (v := (1 : Int32)) (n := 10) hC dX9_ifRung_9 (by decide +kernel) rfl ?_
    refine hz_goto (n := 14) hC dX9_ifRung_10 (by decide) ?_
    refine hz_callV (k := 1) (As := [.int (1 : Int32)]) (st := []) (S1 := fun r => .int r :: []) (n := 17) hC (c_X9_throwsOne l (1 : Int32)   M1) kv_X9_throwsOne wd_7_181 hI dX9_ifRung_14 rfl (hI 0 (by decide)) he_X9 rfl rfl rfl (Nat.le_of_ble_eq_true rfl) ⟨Nat.le_of_ble_eq_true rfl, Nat.le_of_ble_eq_true rfl⟩ ⟨Nat.zero_le _, Nat.zero_le _⟩ (fun _ => rfl) rfl (fun r2 M2 _ => ?_)
    refine hz_if_eq (tgt := 24) (n := 20) hC dX9_ifRung_17 (by decide) rfl (fun _ => ?_) (fun _ => ?_)
    · refine hz_aload_n (a := 0) (n := 25) hC dX9_ifRung_24 rfl rfl rfl ?_
      refine hz_iload_n (a := 1) (n := 26) hC dX9_ifRung_25 rfl rfl rfl ?_
      refine hz_callV (k := 1) (As := [.int a0]) (st := []) (S1 := fun r => .int r :: []) (n := 29) hC (c_X9_outcome l a0   M2) kv_X9_outcome wd_7_62 hI dX9_ifRung_26 rfl (hI 0 (by decide)) he_X9 rfl rfl rfl (Nat.le_of_ble_eq_true rfl) ⟨Nat.le_of_ble_eq_true rfl, Nat.le_of_ble_eq_true rfl⟩ ⟨Nat.zero_le _, Nat.zero_le _⟩ (fun _ => rfl) rfl (fun r3 M3 _ => ?_)
      exact hz_iret hC hr dX9_ifRung_29
    · refine hz_iconst (v := (0 : Int32)) (n := 21) hC dX9_ifRung_20 (by decide +kernel) rfl ?_
      refine hz_goto (n := 29) hC dX9_ifRung_21 (by decide) ?_
      exact hz_iret hC hr dX9_ifRung_29
  · refine hz_iconst (v := (0 : Int32)) (n := 14) hC dX9_ifRung_13 (by decide +kernel) rfl ?_
    refine hz_callV (k := 1) (As := [.int (0 : Int32)]) (st := []) (S1 := fun r => .int r :: []) (n := 17) hC (c_X9_throwsOne l (0 : Int32)   M1) kv_X9_throwsOne wd_7_181 hI dX9_ifRung_14 rfl (hI 0 (by decide)) he_X9 rfl rfl rfl (Nat.le_of_ble_eq_true rfl) ⟨Nat.le_of_ble_eq_true rfl, Nat.le_of_ble_eq_true rfl⟩ ⟨Nat.zero_le _, Nat.zero_le _⟩ (fun _ => rfl) rfl (fun r4 M4 _ => ?_)
    refine hz_if_eq (tgt := 24) (n := 20) hC dX9_ifRung_17 (by decide) rfl (fun _ => ?_) (fun _ => ?_)
    · refine hz_aload_n (a := 0) (n := 25) hC dX9_ifRung_24 rfl rfl rfl ?_
      refine hz_iload_n (a := 1) (n := 26) hC dX9_ifRung_25 rfl rfl rfl ?_
      refine hz_callV (k := 1) (As := [.int a0]) (st := []) (S1 := fun r => .int r :: []) (n := 29) hC (c_X9_outcome l a0   M4) kv_X9_outcome wd_7_62 hI dX9_ifRung_26 rfl (hI 0 (by decide)) he_X9 rfl rfl rfl (Nat.le_of_ble_eq_true rfl) ⟨Nat.le_of_ble_eq_true rfl, Nat.le_of_ble_eq_true rfl⟩ ⟨Nat.zero_le _, Nat.zero_le _⟩ (fun _ => rfl) rfl (fun r5 M5 _ => ?_)
      exact hz_iret hC hr dX9_ifRung_29
    · refine hz_iconst (v := (0 : Int32)) (n := 21) hC dX9_ifRung_20 (by decide +kernel) rfl ?_
      refine hz_goto (n := 29) hC dX9_ifRung_21 (by decide) ?_
      exact hz_iret hC hr dX9_ifRung_29
def F_X9_balance  (M : hp_M) : Option (Int32 × hp_M) := (hp_b (F_X9_debts M) (fun r1 M1 => (some (((((((M 13 1 46) - (M 13 1 47)) - r1) + (M1 13 1 48)) - (M1 13 1 49)) - (M1 13 1 13)), M1))))
set_option maxRecDepth 20000 in
set_option maxHeartbeats 4000000 in
theorem c_X9_balance (l : Launch)   (M : hp_M) : hp_Ct l yX9_balance cX9_balance 1 (some .int) 2 hp_IR (fun adr adV => [.ref (adr 13 0)]) hp_oi M (F_X9_balance  M) := by
  refine hp_start "HallPhoneModel" (fun adr adV => [(0, .ref (adr 13 0))]) (by decide) rfl (fun _ _ => by simp only [lg_sl]; exact Nat.le_of_ble_eq_true rfl) (fun _ _ => rfl) ?_
  intro p e s m args below meth c A D ids adr adV cA rep G0 hI hC hr
  unfold F_X9_balance
  refine hz_aload_n (a := 0) (n := 1) hC dX9_balance_0 rfl rfl rfl ?_
  refine fg_X9_7 (n := 4) hC hI dX9_balance_1 rfl ?_
  refine hz_bipush (v := (46 : Int32)) (n := 6) hC dX9_balance_4 (by decide +kernel) rfl ?_
  refine hz_ialdc (k := 46) (n := 7) hC (by decide +kernel) (by decide) dX9_balance_6 (hI 1 (by decide)) ha_m1 rfl ?_
  refine hz_aload_n (a := 0) (n := 8) hC dX9_balance_7 rfl rfl rfl ?_
  refine fg_X9_7 (n := 11) hC hI dX9_balance_8 rfl ?_
  refine hz_bipush (v := (47 : Int32)) (n := 13) hC dX9_balance_11 (by decide +kernel) rfl ?_
  refine hz_ialdc (k := 47) (n := 14) hC (by decide +kernel) (by decide) dX9_balance_13 (hI 1 (by decide)) ha_m1 rfl ?_
  refine hz_isub (n := 15) hC dX9_balance_14 rfl ?_
  refine hz_aload_n (a := 0) (n := 16) hC dX9_balance_15 rfl rfl rfl ?_
  refine hz_callV (k := 0) (As := []) (st := [.int ((M 13 1 46) - (M 13 1 47))]) (S1 := fun r => .int r :: [.int ((M 13 1 46) - (M 13 1 47))]) (n := 19) hC (c_X9_debts l    M) kv_X9_debts wd_7_201 hI dX9_balance_16 rfl (hI 0 (by decide)) he_X9 rfl rfl rfl (Nat.le_of_ble_eq_true rfl) ⟨Nat.le_of_ble_eq_true rfl, Nat.le_of_ble_eq_true rfl⟩ ⟨Nat.zero_le _, Nat.zero_le _⟩ (fun _ => rfl) rfl (fun r1 M1 _ => ?_)
  refine hz_isub (n := 20) hC dX9_balance_19 rfl ?_
  refine hz_aload_n (a := 0) (n := 21) hC dX9_balance_20 rfl rfl rfl ?_
  refine fg_X9_7 (n := 24) hC hI dX9_balance_21 rfl ?_
  refine hz_bipush (v := (48 : Int32)) (n := 26) hC dX9_balance_24 (by decide +kernel) rfl ?_
  refine hz_ialdc (k := 48) (n := 27) hC (by decide +kernel) (by decide) dX9_balance_26 (hI 1 (by decide)) ha_m1 rfl ?_
  refine hz_iadd (n := 28) hC dX9_balance_27 rfl ?_
  refine hz_aload_n (a := 0) (n := 29) hC dX9_balance_28 rfl rfl rfl ?_
  refine fg_X9_7 (n := 32) hC hI dX9_balance_29 rfl ?_
  refine hz_bipush (v := (49 : Int32)) (n := 34) hC dX9_balance_32 (by decide +kernel) rfl ?_
  refine hz_ialdc (k := 49) (n := 35) hC (by decide +kernel) (by decide) dX9_balance_34 (hI 1 (by decide)) ha_m1 rfl ?_
  refine hz_isub (n := 36) hC dX9_balance_35 rfl ?_
  refine hz_aload_n (a := 0) (n := 37) hC dX9_balance_36 rfl rfl rfl ?_
  refine fg_X9_7 (n := 40) hC hI dX9_balance_37 rfl ?_
  refine hz_bipush (v := (13 : Int32)) (n := 42) hC dX9_balance_40 (by decide +kernel) rfl ?_
  refine hz_ialdc (k := 13) (n := 43) hC (by decide +kernel) (by decide) dX9_balance_42 (hI 1 (by decide)) ha_m1 rfl ?_
  refine hz_isub (n := 44) hC dX9_balance_43 rfl ?_
  exact hz_iret hC hr dX9_balance_44
def A_X9_account_16 (a0 : Int32)  (z16_0 : Int32) (M : hp_M) : Option (Int32 × hp_M) := (hp_b (F_X9_throwsOne z16_0 M) (fun r2 M2 => (if r2 = 0 then (if (10 : Int32) ≤ a0 then (hp_b (F_X9_balance M2) (fun r3 M3 => (some (r3, M3)))) else (if ((42 : Int32) + a0) < 0 ∨ 242 ≤ (((42 : Int32) + a0)).toNatClampNeg then none else (some ((M2 13 1 (((42 : Int32) + a0)).toNatClampNeg), M2)))) else (some ((0 : Int32), M2)))))
def F_X9_account (a0 : Int32) (M : hp_M) : Option (Int32 × hp_M) := (hp_b (F_X9_in a0 (0 : Int32) (10 : Int32) M) (fun r1 M1 => (if r1 = 0 then (A_X9_account_16 a0 (1 : Int32) M1) else (A_X9_account_16 a0 (0 : Int32) M1))))
set_option maxRecDepth 20000 in
set_option maxHeartbeats 4000000 in
theorem c_X9_account (l : Launch) (a0 : Int32)  (M : hp_M) : hp_Ct l yX9_account cX9_account 2 (some .int) 3 hp_IR (fun adr adV => [.ref (adr 13 0), .int a0]) hp_oi M (F_X9_account a0 M) := by
  refine hp_start "HallPhoneModel" (fun adr adV => [(0, .ref (adr 13 0)), (1, .int a0)]) (by decide) rfl (fun _ _ => by simp only [lg_sl]; exact Nat.le_of_ble_eq_true rfl) (fun _ _ => rfl) ?_
  intro p e s m args below meth c A D ids adr adV cA rep G0 hI hC hr
  unfold F_X9_account
  have j16 : ∀ (z16_0 : Int32) (M : hp_M), hp_Z p l e (hp_rm 3) s m args below meth c 2 A D ids adr adV cA 0 0 (MQ below (hp_Q A D ids adr adV cA rep hp_oi G0) args s 0 0 A) G0 rep 16 [(0, .ref (adr 13 0)), (1, .int a0)] [.int z16_0, .ref (adr 13 0)] M (A_X9_account_16 a0 z16_0 M) := by
    intro z16_0 M
    unfold A_X9_account_16
    refine hz_callV (k := 1) (As := [.int z16_0]) (st := []) (S1 := fun r => .int r :: []) (n := 19) hC (c_X9_throwsOne l z16_0   M) kv_X9_throwsOne wd_7_181 hI dX9_account_16 rfl (hI 0 (by decide)) he_X9 rfl rfl rfl (Nat.le_of_ble_eq_true rfl) ⟨Nat.le_of_ble_eq_true rfl, Nat.le_of_ble_eq_true rfl⟩ ⟨Nat.zero_le _, Nat.zero_le _⟩ (fun _ => rfl) rfl (fun r2 M2 _ => ?_)
    refine hz_if_eq (tgt := 26) (n := 22) hC dX9_account_19 (by decide) rfl (fun _ => ?_) (fun _ => ?_)
    · refine hz_iload_n (a := 1) (n := 27) hC dX9_account_26 rfl rfl rfl ?_
      refine hz_bipush (v := (10 : Int32)) (n := 29) hC dX9_account_27 (by decide +kernel) rfl ?_
      refine hz_icmp_ge (tgt := 44) (n := 32) hC dX9_account_29 (by decide) rfl (fun _ => ?_) (fun _ => ?_)
      · refine hz_aload_n (a := 0) (n := 45) hC dX9_account_44 rfl rfl rfl ?_
        refine hz_callV (k := 0) (As := []) (st := []) (S1 := fun r => .int r :: []) (n := 48) hC (c_X9_balance l    M2) kv_X9_balance wd_8_96 hI dX9_account_45 rfl (hI 0 (by decide)) he_X9 rfl rfl rfl (Nat.le_of_ble_eq_true rfl) ⟨Nat.le_of_ble_eq_true rfl, Nat.le_of_ble_eq_true rfl⟩ ⟨Nat.zero_le _, Nat.zero_le _⟩ (fun _ => rfl) rfl (fun r3 M3 _ => ?_)
        exact hz_iret hC hr dX9_account_48
      · refine hz_aload_n (a := 0) (n := 33) hC dX9_account_32 rfl rfl rfl ?_
        refine fg_X9_7 (n := 36) hC hI dX9_account_33 rfl ?_
        refine hz_bipush (v := (42 : Int32)) (n := 38) hC dX9_account_36 (by decide +kernel) rfl ?_
        refine hz_iload_n (a := 1) (n := 39) hC dX9_account_38 rfl rfl rfl ?_
        refine hz_iadd (n := 40) hC dX9_account_39 rfl ?_
        refine hz_iald (n := 41) hC dX9_account_40 (hI 1 (by decide)) ha_m1 rfl (fun _ => ?_)
        refine hz_goto (n := 48) hC dX9_account_41 (by decide) ?_
        exact hz_iret hC hr dX9_account_48
    · refine hz_iconst (v := (0 : Int32)) (n := 23) hC dX9_account_22 (by decide +kernel) rfl ?_
      refine hz_goto (n := 48) hC dX9_account_23 (by decide) ?_
      exact hz_iret hC hr dX9_account_48
  refine hz_aload_n (a := 0) (n := 1) hC dX9_account_0 rfl rfl rfl ?_
  refine hz_iload_n (a := 1) (n := 2) hC dX9_account_1 rfl rfl rfl ?_
  refine hz_iconst (v := (0 : Int32)) (n := 3) hC dX9_account_2 (by decide +kernel) rfl ?_
  refine hz_bipush (v := (10 : Int32)) (n := 5) hC dX9_account_3 (by decide +kernel) rfl ?_
  refine hz_callS (k := 3) (As := [.int a0, .int (0 : Int32), .int (10 : Int32)]) (st := [.ref (adr 13 0)]) (S1 := fun r => .int r :: [.ref (adr 13 0)]) (n := 8) hC (c_X9_in l a0 (0 : Int32) (10 : Int32)   M) ks_X9_in wd_6_198 hI dX9_account_5 rfl rfl rfl (Nat.le_of_ble_eq_true rfl) ⟨Nat.le_of_ble_eq_true rfl, Nat.le_of_ble_eq_true rfl⟩ ⟨Nat.zero_le _, Nat.zero_le _⟩ (fun _ => rfl) rfl (fun r1 M1 _ => ?_)
  refine hz_if_ne (tgt := 15) (n := 11) hC dX9_account_8 (by decide) rfl (fun _ => ?_) (fun _ => ?_)
  · refine hz_iconst (v := (1 : Int32)) (n := 12) hC dX9_account_11 (by decide +kernel) rfl ?_
    refine hz_goto (n := 16) hC dX9_account_12 (by decide) ?_
    exact j16 _ _
  · refine hz_iconst (v := (0 : Int32)) (n := 16) hC dX9_account_15 (by decide +kernel) rfl ?_
    exact j16 _ _
def F_X9_write (a0 : Int32) (M : hp_M) : Option (Unit × hp_M) := (if (M 13 0 12) < 0 ∨ 200 ≤ ((M 13 0 12)).toNatClampNeg then none else (some ((), (hp_p (hp_p M 13 8 ((M 13 0 12)).toNatClampNeg (vp_nar .char (((a0).toUInt32 % 65536).toInt32))) 13 0 12 (((hp_p M 13 8 ((M 13 0 12)).toNatClampNeg (vp_nar .char (((a0).toUInt32 % 65536).toInt32))) 13 0 12) + (1 : Int32))))))
set_option maxRecDepth 20000 in
set_option maxHeartbeats 4000000 in
theorem c_X9_write (l : Launch) (a0 : Int32)  (M : hp_M) : hp_Ct l yX9_write cX9_write 2 none 0 hp_IR (fun adr adV => [.ref (adr 13 0), .int a0]) hp_oo M (F_X9_write a0 M) := by
  refine hp_start "HallPhoneModel" (fun adr adV => [(0, .ref (adr 13 0)), (1, .int a0)]) (by decide) rfl (fun _ _ => by simp only [lg_sl]; exact Nat.le_of_ble_eq_true rfl) (fun _ _ => rfl) ?_
  intro p e s m args below meth c A D ids adr adV cA rep G0 hI hC hr
  unfold F_X9_write
  refine hz_aload_n (a := 0) (n := 1) hC dX9_write_0 rfl rfl rfl ?_
  refine fg_X9_31 (n := 4) hC hI dX9_write_1 rfl ?_
  refine hz_aload_n (a := 0) (n := 5) hC dX9_write_4 rfl rfl rfl ?_
  refine fg_X9_272 (n := 8) hC hI dX9_write_5 rfl ?_
  refine hz_iload_n (a := 1) (n := 9) hC dX9_write_8 rfl rfl rfl ?_
  refine hz_i2c (n := 10) hC dX9_write_9 rfl ?_
  refine hz_cast (n := 11) hC dX9_write_10 (hI 8 (by decide)) ha_m8 rfl (fun _ => ?_)
  refine hz_aload_n (a := 0) (n := 12) hC dX9_write_11 rfl rfl rfl ?_
  refine hz_dup (n := 13) hC dX9_write_12 rfl rfl ?_
  refine fg_X9_272 (n := 16) hC hI dX9_write_13 rfl ?_
  refine hz_iconst (v := (1 : Int32)) (n := 17) hC dX9_write_16 (by decide +kernel) rfl ?_
  refine hz_iadd (n := 18) hC dX9_write_17 rfl ?_
  refine fp_X9_272 (n := 21) hC hI (((hp_p M 13 8 ((M 13 0 12)).toNatClampNeg (vp_nar .char (((a0).toUInt32 % 65536).toInt32))) 13 0 12) + (1 : Int32)) dX9_write_18 rfl ?_
  exact hz_vret hC hr dX9_write_21
def F_X9_reportAt (a0 : Int32) (M : hp_M) : Option (Int32 × hp_M) := (hp_b (F_X9_in a0 (0 : Int32) (((hp_p M 13 0 13 (0 : Int32)) 13 0 12) - (1 : Int32)) (hp_p M 13 0 13 (0 : Int32))) (fun r1 M1 => (if r1 = 0 then (if vp_nar .char (0 : Int32) = (0 : Int32) then some ((0 : Int32), M1) else none) else (if a0 < 0 ∨ 200 ≤ (a0).toNatClampNeg then none else (if vp_nar .char (M1 13 8 (a0).toNatClampNeg) = (M1 13 8 (a0).toNatClampNeg) then some ((M1 13 8 (a0).toNatClampNeg), M1) else none)))))
set_option maxRecDepth 20000 in
set_option maxHeartbeats 4000000 in
theorem c_X9_reportAt (l : Launch) (a0 : Int32)  (M : hp_M) : hp_Ct l yX9_reportAt cX9_reportAt 2 (some .char) 1 hp_IR (fun adr adV => [.ref (adr 13 0), .int a0]) hp_oi M (F_X9_reportAt a0 M) := by
  refine hp_start "HallPhoneModel" (fun adr adV => [(0, .ref (adr 13 0)), (1, .int a0)]) (by decide) rfl (fun _ _ => by simp only [lg_sl]; exact Nat.le_of_ble_eq_true rfl) (fun _ _ => rfl) ?_
  intro p e s m args below meth c A D ids adr adV cA rep G0 hI hC hr
  unfold F_X9_reportAt
  refine hz_aload_n (a := 0) (n := 1) hC dX9_reportAt_0 rfl rfl rfl ?_
  refine hz_iconst (v := (0 : Int32)) (n := 2) hC dX9_reportAt_1 (by decide +kernel) rfl ?_
  refine fp_X9_42 (n := 5) hC hI (0 : Int32) dX9_reportAt_2 rfl ?_
  refine hz_iload_n (a := 1) (n := 6) hC dX9_reportAt_5 rfl rfl rfl ?_
  refine hz_iconst (v := (0 : Int32)) (n := 7) hC dX9_reportAt_6 (by decide +kernel) rfl ?_
  refine hz_aload_n (a := 0) (n := 8) hC dX9_reportAt_7 rfl rfl rfl ?_
  refine fg_X9_272 (n := 11) hC hI dX9_reportAt_8 rfl ?_
  refine hz_iconst (v := (1 : Int32)) (n := 12) hC dX9_reportAt_11 (by decide +kernel) rfl ?_
  refine hz_isub (n := 13) hC dX9_reportAt_12 rfl ?_
  refine hz_callS (k := 3) (As := [.int a0, .int (0 : Int32), .int (((hp_p M 13 0 13 (0 : Int32)) 13 0 12) - (1 : Int32))]) (st := []) (S1 := fun r => .int r :: []) (n := 16) hC (c_X9_in l a0 (0 : Int32) (((hp_p M 13 0 13 (0 : Int32)) 13 0 12) - (1 : Int32))   (hp_p M 13 0 13 (0 : Int32))) ks_X9_in wd_6_198 hI dX9_reportAt_13 rfl rfl rfl (Nat.le_of_ble_eq_true rfl) ⟨Nat.le_of_ble_eq_true rfl, Nat.le_of_ble_eq_true rfl⟩ ⟨Nat.zero_le _, Nat.zero_le _⟩ (fun _ => rfl) rfl (fun r1 M1 _ => ?_)
  refine hz_if_eq (tgt := 28) (n := 19) hC dX9_reportAt_16 (by decide) rfl (fun _ => ?_) (fun _ => ?_)
  · refine hz_iconst (v := (0 : Int32)) (n := 29) hC dX9_reportAt_28 (by decide +kernel) rfl ?_
    exact hz_cret hC hr dX9_reportAt_29
  · refine hz_aload_n (a := 0) (n := 20) hC dX9_reportAt_19 rfl rfl rfl ?_
    refine fg_X9_31 (n := 23) hC hI dX9_reportAt_20 rfl ?_
    refine hz_iload_n (a := 1) (n := 24) hC dX9_reportAt_23 rfl rfl rfl ?_
    refine hz_cald (n := 25) hC dX9_reportAt_24 (hI 8 (by decide)) ha_m8 rfl (fun _ => ?_)
    refine hz_goto (n := 29) hC dX9_reportAt_25 (by decide) ?_
    exact hz_cret hC hr dX9_reportAt_29
def L_X9_begins_2    : Nat → Int32 → hp_M → Option (Unit × hp_M)
  | 0, _, _ => none
  | n2 + 1, x1, M => (if (242 : Int32) ≤ x1 then (some ((), M)) else (if x1 < 0 ∨ 242 ≤ (x1).toNatClampNeg then none else (if x1 < 0 ∨ 242 ≤ (x1).toNatClampNeg then none else (L_X9_begins_2  n2 (x1 + (1 : Int32)) (hp_p M 13 2 (x1).toNatClampNeg (M 13 1 (x1).toNatClampNeg))))))
def F_X9_begins  (M : hp_M) : Option (Unit × hp_M) := (L_X9_begins_2 hp_fu (0 : Int32) M)
set_option maxRecDepth 20000 in
set_option maxHeartbeats 4000000 in
theorem c_X9_begins (l : Launch)   (M : hp_M) : hp_Ct l yX9_begins cX9_begins 2 none 0 hp_IR (fun adr adV => [.ref (adr 13 0)]) hp_oo M (F_X9_begins  M) := by
  refine hp_start "HallPhoneModel" (fun adr adV => [(0, .ref (adr 13 0))]) (by decide) rfl (fun _ _ => by simp only [lg_sl]; exact Nat.le_of_ble_eq_true rfl) (fun _ _ => rfl) ?_
  intro p e s m args below meth c A D ids adr adV cA rep G0 hI hC hr
  unfold F_X9_begins
  have l2 : ∀  (n2 : Nat) (x1 : Int32) (M : hp_M), hp_Z p l e (hp_rm 0) s m args below meth c 2 A D ids adr adV cA 0 0 (MQ below (hp_Q A D ids adr adV cA rep hp_oo G0) args s 0 0 A) G0 rep 2 [(0, .ref (adr 13 0)), (1, .int x1)] [] M (L_X9_begins_2  n2 x1 M) := by
    intro  n2
    induction n2 with
    | zero => intro x1 M; exact hz_none hC
    | succ n2 ih2 =>
      intro x1 M
      rw [L_X9_begins_2.eq_2]
      refine hz_iload_n (a := 1) (n := 3) hC dX9_begins_2 rfl rfl rfl ?_
      refine hz_sipush (v := (242 : Int32)) (n := 6) hC dX9_begins_3 (by decide +kernel) rfl ?_
      refine hz_icmp_ge (tgt := 27) (n := 9) hC dX9_begins_6 (by decide) rfl (fun _ => ?_) (fun _ => ?_)
      · exact hz_vret hC hr dX9_begins_27
      · refine hz_aload_n (a := 0) (n := 10) hC dX9_begins_9 rfl rfl rfl ?_
        refine fg_X9_13 (n := 13) hC hI dX9_begins_10 rfl ?_
        refine hz_iload_n (a := 1) (n := 14) hC dX9_begins_13 rfl rfl rfl ?_
        refine hz_aload_n (a := 0) (n := 15) hC dX9_begins_14 rfl rfl rfl ?_
        refine fg_X9_7 (n := 18) hC hI dX9_begins_15 rfl ?_
        refine hz_iload_n (a := 1) (n := 19) hC dX9_begins_18 rfl rfl rfl ?_
        refine hz_iald (n := 20) hC dX9_begins_19 (hI 1 (by decide)) ha_m1 rfl (fun _ => ?_)
        refine hz_iast (n := 21) hC dX9_begins_20 (hI 2 (by decide)) ha_m2 rfl (fun _ => ?_)
        refine hz_iinc (a := 1) (v := (x1 + (1 : Int32))) (L' := [(1, .int (x1 + (1 : Int32))), (0, .ref (adr 13 0))]) (n := 24) hC dX9_begins_21 rfl rfl (by decide) rfl rfl ?_
        refine hz_goto (n := 2) hC dX9_begins_24 (by decide) ?_
        refine hz_L (L' := [(0, .ref (adr 13 0)), (1, .int (x1 + (1 : Int32)))]) [1, 0] rfl ?_
        exact ih2 _ _
  refine hz_iconst (v := (0 : Int32)) (n := 1) hC dX9_begins_0 (by decide +kernel) rfl ?_
  refine hz_istore_n (L' := [(1, .int (0 : Int32)), (0, .ref (adr 13 0))]) (n := 2) hC dX9_begins_1 rfl (by decide) rfl rfl ?_
  refine hz_L (L' := [(0, .ref (adr 13 0)), (1, .int (0 : Int32))]) [1, 0] rfl ?_
  exact l2 hp_fu _ _
def L_X9_remember_60 (a0 : Int32)   : Nat → Int32 → hp_M → Option (Int32 × hp_M)
  | 0, _, _ => none
  | n60 + 1, x2, M => (if (242 : Int32) ≤ x2 then (some (a0, (hp_p M 13 0 5 ((M 13 0 5) + (1 : Int32))))) else (if x2 < 0 ∨ 242 ≤ (x2).toNatClampNeg then none else (if (((242 : Int32) * (M 13 0 5)) + x2) < 0 ∨ 1936 ≤ ((((242 : Int32) * (M 13 0 5)) + x2)).toNatClampNeg then none else (L_X9_remember_60 a0 n60 (x2 + (1 : Int32)) (hp_p M 13 4 ((((242 : Int32) * (M 13 0 5)) + x2)).toNatClampNeg (M 13 2 (x2).toNatClampNeg))))))
def A_X9_remember_58 (a0 : Int32)   (M : hp_M) : Option (Int32 × hp_M) := (L_X9_remember_60 a0 hp_fu (0 : Int32) M)
def L_X9_remember_19 (a0 : Int32)   : Nat → Int32 → hp_M → Option (Int32 × hp_M)
  | 0, _, _ => none
  | n19 + 1, x2, M => (if (1936 : Int32) ≤ x2 then (A_X9_remember_58 a0 (hp_p M 13 0 5 ((M 13 0 5) - (1 : Int32)))) else (if x2 < 0 ∨ 1936 ≤ (x2).toNatClampNeg then none else (if (x2 - (242 : Int32)) < 0 ∨ 1936 ≤ ((x2 - (242 : Int32))).toNatClampNeg then none else (L_X9_remember_19 a0 n19 (x2 + (1 : Int32)) (hp_p M 13 4 ((x2 - (242 : Int32))).toNatClampNeg (M 13 4 (x2).toNatClampNeg))))))
def F_X9_remember (a0 : Int32) (M : hp_M) : Option (Int32 × hp_M) := (if 0 ≤ a0 then (if (M 13 0 5) = (8 : Int32) then (L_X9_remember_19 a0 hp_fu (242 : Int32) M) else (A_X9_remember_58 a0 M)) else (some (a0, M)))
set_option maxRecDepth 20000 in
set_option maxHeartbeats 4000000 in
theorem c_X9_remember (l : Launch) (a0 : Int32)  (M : hp_M) : hp_Ct l yX9_remember cX9_remember 3 (some .int) 0 hp_IR (fun adr adV => [.ref (adr 13 0), .int a0]) hp_oi M (F_X9_remember a0 M) := by
  refine hp_start "HallPhoneModel" (fun adr adV => [(0, .ref (adr 13 0)), (1, .int a0)]) (by decide) rfl (fun _ _ => by simp only [lg_sl]; exact Nat.le_of_ble_eq_true rfl) (fun _ _ => rfl) ?_
  intro p e s m args below meth c A D ids adr adV cA rep G0 hI hC hr
  unfold F_X9_remember
  have l60 : ∀  (n60 : Nat) (x2 : Int32) (M : hp_M), hp_Z p l e (hp_rm 0) s m args below meth c 3 A D ids adr adV cA 0 0 (MQ below (hp_Q A D ids adr adV cA rep hp_oi G0) args s 0 0 A) G0 rep 60 [(0, .ref (adr 13 0)), (1, .int a0), (2, .int x2)] [] M (L_X9_remember_60 a0 n60 x2 M) := by
    intro  n60
    induction n60 with
    | zero => intro x2 M; exact hz_none hC
    | succ n60 ih60 =>
      intro x2 M
      rw [L_X9_remember_60.eq_2]
      refine hz_iload_n (a := 2) (n := 61) hC dX9_remember_60 rfl rfl rfl ?_
      refine hz_sipush (v := (242 : Int32)) (n := 64) hC dX9_remember_61 (by decide +kernel) rfl ?_
      refine hz_icmp_ge (tgt := 94) (n := 67) hC dX9_remember_64 (by decide) rfl (fun _ => ?_) (fun _ => ?_)
      · refine hz_aload_n (a := 0) (n := 95) hC dX9_remember_94 rfl rfl rfl ?_
        refine hz_dup (n := 96) hC dX9_remember_95 rfl rfl ?_
        refine fg_X9_250 (n := 99) hC hI dX9_remember_96 rfl ?_
        refine hz_iconst (v := (1 : Int32)) (n := 100) hC dX9_remember_99 (by decide +kernel) rfl ?_
        refine hz_iadd (n := 101) hC dX9_remember_100 rfl ?_
        refine fp_X9_250 (n := 104) hC hI ((M 13 0 5) + (1 : Int32)) dX9_remember_101 rfl ?_
        refine hz_iload_n (a := 1) (n := 105) hC dX9_remember_104 rfl rfl rfl ?_
        exact hz_iret hC hr dX9_remember_105
      · refine hz_aload_n (a := 0) (n := 68) hC dX9_remember_67 rfl rfl rfl ?_
        refine fg_X9_19 (n := 71) hC hI dX9_remember_68 rfl ?_
        refine hz_sipush (v := (242 : Int32)) (n := 74) hC dX9_remember_71 (by decide +kernel) rfl ?_
        refine hz_aload_n (a := 0) (n := 75) hC dX9_remember_74 rfl rfl rfl ?_
        refine fg_X9_250 (n := 78) hC hI dX9_remember_75 rfl ?_
        refine hz_imul (n := 79) hC dX9_remember_78 rfl ?_
        refine hz_iload_n (a := 2) (n := 80) hC dX9_remember_79 rfl rfl rfl ?_
        refine hz_iadd (n := 81) hC dX9_remember_80 rfl ?_
        refine hz_aload_n (a := 0) (n := 82) hC dX9_remember_81 rfl rfl rfl ?_
        refine fg_X9_13 (n := 85) hC hI dX9_remember_82 rfl ?_
        refine hz_iload_n (a := 2) (n := 86) hC dX9_remember_85 rfl rfl rfl ?_
        refine hz_iald (n := 87) hC dX9_remember_86 (hI 2 (by decide)) ha_m2 rfl (fun _ => ?_)
        refine hz_iast (n := 88) hC dX9_remember_87 (hI 4 (by decide)) ha_m4 rfl (fun _ => ?_)
        refine hz_iinc (a := 2) (v := (x2 + (1 : Int32))) (L' := [(2, .int (x2 + (1 : Int32))), (0, .ref (adr 13 0)), (1, .int a0)]) (n := 91) hC dX9_remember_88 rfl rfl (by decide) rfl rfl ?_
        refine hz_goto (n := 60) hC dX9_remember_91 (by decide) ?_
        refine hz_L (L' := [(0, .ref (adr 13 0)), (1, .int a0), (2, .int (x2 + (1 : Int32)))]) [1, 2, 0] rfl ?_
        exact ih60 _ _
  have j58 : ∀  (M : hp_M), hp_Z p l e (hp_rm 0) s m args below meth c 3 A D ids adr adV cA 0 0 (MQ below (hp_Q A D ids adr adV cA rep hp_oi G0) args s 0 0 A) G0 rep 58 [(0, .ref (adr 13 0)), (1, .int a0)] [] M (A_X9_remember_58 a0  M) := by
    intro  M
    unfold A_X9_remember_58
    refine hz_iconst (v := (0 : Int32)) (n := 59) hC dX9_remember_58 (by decide +kernel) rfl ?_
    refine hz_istore_n (L' := [(2, .int (0 : Int32)), (0, .ref (adr 13 0)), (1, .int a0)]) (n := 60) hC dX9_remember_59 rfl (by decide) rfl rfl ?_
    refine hz_L (L' := [(0, .ref (adr 13 0)), (1, .int a0), (2, .int (0 : Int32))]) [1, 2, 0] rfl ?_
    exact l60 hp_fu _ _
  have l19 : ∀  (n19 : Nat) (x2 : Int32) (M : hp_M), hp_Z p l e (hp_rm 0) s m args below meth c 3 A D ids adr adV cA 0 0 (MQ below (hp_Q A D ids adr adV cA rep hp_oi G0) args s 0 0 A) G0 rep 19 [(0, .ref (adr 13 0)), (1, .int a0), (2, .int x2)] [] M (L_X9_remember_19 a0 n19 x2 M) := by
    intro  n19
    induction n19 with
    | zero => intro x2 M; exact hz_none hC
    | succ n19 ih19 =>
      intro x2 M
      rw [L_X9_remember_19.eq_2]
      refine hz_iload_n (a := 2) (n := 20) hC dX9_remember_19 rfl rfl rfl ?_
      refine hz_sipush (v := (1936 : Int32)) (n := 23) hC dX9_remember_20 (by decide +kernel) rfl ?_
      refine hz_icmp_ge (tgt := 48) (n := 26) hC dX9_remember_23 (by decide) rfl (fun _ => ?_) (fun _ => ?_)
      · refine hz_aload_n (a := 0) (n := 49) hC dX9_remember_48 rfl rfl rfl ?_
        refine hz_dup (n := 50) hC dX9_remember_49 rfl rfl ?_
        refine fg_X9_250 (n := 53) hC hI dX9_remember_50 rfl ?_
        refine hz_iconst (v := (1 : Int32)) (n := 54) hC dX9_remember_53 (by decide +kernel) rfl ?_
        refine hz_isub (n := 55) hC dX9_remember_54 rfl ?_
        refine fp_X9_250 (n := 58) hC hI ((M 13 0 5) - (1 : Int32)) dX9_remember_55 rfl ?_
        refine hz_L (L' := [(0, .ref (adr 13 0)), (1, .int a0)]) [0, 1] rfl ?_
        exact j58 _
      · refine hz_aload_n (a := 0) (n := 27) hC dX9_remember_26 rfl rfl rfl ?_
        refine fg_X9_19 (n := 30) hC hI dX9_remember_27 rfl ?_
        refine hz_iload_n (a := 2) (n := 31) hC dX9_remember_30 rfl rfl rfl ?_
        refine hz_sipush (v := (242 : Int32)) (n := 34) hC dX9_remember_31 (by decide +kernel) rfl ?_
        refine hz_isub (n := 35) hC dX9_remember_34 rfl ?_
        refine hz_aload_n (a := 0) (n := 36) hC dX9_remember_35 rfl rfl rfl ?_
        refine fg_X9_19 (n := 39) hC hI dX9_remember_36 rfl ?_
        refine hz_iload_n (a := 2) (n := 40) hC dX9_remember_39 rfl rfl rfl ?_
        refine hz_iald (n := 41) hC dX9_remember_40 (hI 4 (by decide)) ha_m4 rfl (fun _ => ?_)
        refine hz_iast (n := 42) hC dX9_remember_41 (hI 4 (by decide)) ha_m4 rfl (fun _ => ?_)
        refine hz_iinc (a := 2) (v := (x2 + (1 : Int32))) (L' := [(2, .int (x2 + (1 : Int32))), (0, .ref (adr 13 0)), (1, .int a0)]) (n := 45) hC dX9_remember_42 rfl rfl (by decide) rfl rfl ?_
        refine hz_goto (n := 19) hC dX9_remember_45 (by decide) ?_
        refine hz_L (L' := [(0, .ref (adr 13 0)), (1, .int a0), (2, .int (x2 + (1 : Int32)))]) [1, 2, 0] rfl ?_
        exact ih19 _ _
  refine hz_iload_n (a := 1) (n := 1) hC dX9_remember_0 rfl rfl rfl ?_
  refine hz_if_ge (tgt := 6) (n := 4) hC dX9_remember_1 (by decide) rfl (fun _ => ?_) (fun _ => ?_)
  · refine hz_aload_n (a := 0) (n := 7) hC dX9_remember_6 rfl rfl rfl ?_
    refine fg_X9_250 (n := 10) hC hI dX9_remember_7 rfl ?_
    refine hz_bipush (v := (8 : Int32)) (n := 12) hC dX9_remember_10 (by decide +kernel) rfl ?_
    refine hz_icmp_ne (tgt := 58) (n := 15) hC dX9_remember_12 (by decide) rfl (fun _ => ?_) (fun _ => ?_)
    · refine hz_sipush (v := (242 : Int32)) (n := 18) hC dX9_remember_15 (by decide +kernel) rfl ?_
      refine hz_istore_n (L' := [(2, .int (242 : Int32)), (0, .ref (adr 13 0)), (1, .int a0)]) (n := 19) hC dX9_remember_18 rfl (by decide) rfl rfl ?_
      refine hz_L (L' := [(0, .ref (adr 13 0)), (1, .int a0), (2, .int (242 : Int32))]) [1, 2, 0] rfl ?_
      exact l19 hp_fu _ _
    · exact j58 _
  · refine hz_iload_n (a := 1) (n := 5) hC dX9_remember_4 rfl rfl rfl ?_
    exact hz_iret hC hr dX9_remember_5
def A_X9_want_29 (a0 : Int32) (a1 : Int32)  (z29_0 : Int32) (z29_1 : Int32) (M : hp_M) : Option (Int32 × hp_M) := (hp_b (F_X9_throwsOne_ z29_1 z29_0 M) (fun r3 M3 => (if r3 = 0 then (hp_b (F_X9_begins M3) (fun _ M4 => (hp_b (F_X9_wants a0 a1 M4) (fun r5 M5 => (hp_b (F_X9_remember r5 M5) (fun r6 M6 => (some (r6, M6)))))))) else (some ((0 : Int32), M3)))))
def A_X9_want_14 (a0 : Int32) (a1 : Int32)  (z14_0 : Int32) (M : hp_M) : Option (Int32 × hp_M) := (hp_b (F_X9_in a1 (1 : Int32) (99 : Int32) M) (fun r2 M2 => (if r2 = 0 then (A_X9_want_29 a0 a1 (1 : Int32) z14_0 M2) else (A_X9_want_29 a0 a1 (0 : Int32) z14_0 M2))))
def F_X9_want (a0 : Int32) (a1 : Int32) (M : hp_M) : Option (Int32 × hp_M) := (hp_b (F_X9_isFlat a0 M) (fun r1 M1 => (if r1 = 0 then (A_X9_want_14 a0 a1 (1 : Int32) M1) else (A_X9_want_14 a0 a1 (0 : Int32) M1))))
set_option maxRecDepth 20000 in
set_option maxHeartbeats 4000000 in
theorem c_X9_want (l : Launch) (a0 : Int32) (a1 : Int32)  (M : hp_M) : hp_Ct l yX9_want cX9_want 3 (some .int) 2 hp_IR (fun adr adV => [.ref (adr 13 0), .int a0, .int a1]) hp_oi M (F_X9_want a0 a1 M) := by
  refine hp_start "HallPhoneModel" (fun adr adV => [(0, .ref (adr 13 0)), (1, .int a0), (2, .int a1)]) (by decide) rfl (fun _ _ => by simp only [lg_sl]; exact Nat.le_of_ble_eq_true rfl) (fun _ _ => rfl) ?_
  intro p e s m args below meth c A D ids adr adV cA rep G0 hI hC hr
  unfold F_X9_want
  have j29 : ∀ (z29_0 : Int32) (z29_1 : Int32) (M : hp_M), hp_Z p l e (hp_rm 2) s m args below meth c 3 A D ids adr adV cA 0 0 (MQ below (hp_Q A D ids adr adV cA rep hp_oi G0) args s 0 0 A) G0 rep 29 [(0, .ref (adr 13 0)), (1, .int a0), (2, .int a1)] [.int z29_0, .int z29_1, .ref (adr 13 0)] M (A_X9_want_29 a0 a1 z29_0 z29_1 M) := by
    intro z29_0 z29_1 M
    unfold A_X9_want_29
    refine hz_callV (k := 2) (As := [.int z29_1, .int z29_0]) (st := []) (S1 := fun r => .int r :: []) (n := 32) hC (c_X9_throwsOne_ l z29_1 z29_0   M) kv_X9_throwsOne_ wd_7_217 hI dX9_want_29 rfl (hI 0 (by decide)) he_X9 rfl rfl rfl (Nat.le_of_ble_eq_true rfl) ⟨Nat.le_of_ble_eq_true rfl, Nat.le_of_ble_eq_true rfl⟩ ⟨Nat.zero_le _, Nat.zero_le _⟩ (fun _ => rfl) rfl (fun r3 M3 _ => ?_)
    refine hz_if_eq (tgt := 37) (n := 35) hC dX9_want_32 (by decide) rfl (fun _ => ?_) (fun _ => ?_)
    · refine hz_aload_n (a := 0) (n := 38) hC dX9_want_37 rfl rfl rfl ?_
      refine hz_callV (k := 0) (As := []) (st := []) (S1 := fun _ => []) (n := 41) hC (c_X9_begins l    M3) kv_X9_begins wd_8_136 hI dX9_want_38 rfl (hI 0 (by decide)) he_X9 rfl rfl rfl (Nat.le_of_ble_eq_true rfl) ⟨Nat.le_of_ble_eq_true rfl, Nat.le_of_ble_eq_true rfl⟩ ⟨Nat.zero_le _, Nat.zero_le _⟩ (fun _ => rfl) rfl (fun r4 M4 _ => ?_)
      refine hz_aload_n (a := 0) (n := 42) hC dX9_want_41 rfl rfl rfl ?_
      refine hz_aload_n (a := 0) (n := 43) hC dX9_want_42 rfl rfl rfl ?_
      refine hz_iload_n (a := 1) (n := 44) hC dX9_want_43 rfl rfl rfl ?_
      refine hz_iload_n (a := 2) (n := 45) hC dX9_want_44 rfl rfl rfl ?_
      refine hz_callV (k := 2) (As := [.int a0, .int a1]) (st := [.ref (adr 13 0)]) (S1 := fun r => .int r :: [.ref (adr 13 0)]) (n := 48) hC (c_X9_wants l a0 a1   M4) kv_X9_wants wd_7_3 hI dX9_want_45 rfl (hI 0 (by decide)) he_X9 rfl rfl rfl (Nat.le_of_ble_eq_true rfl) ⟨Nat.le_of_ble_eq_true rfl, Nat.le_of_ble_eq_true rfl⟩ ⟨Nat.zero_le _, Nat.zero_le _⟩ (fun _ => rfl) rfl (fun r5 M5 _ => ?_)
      refine hz_callV (k := 1) (As := [.int r5]) (st := []) (S1 := fun r => .int r :: []) (n := 51) hC (c_X9_remember l r5   M5) kv_X9_remember wd_8_140 hI dX9_want_48 rfl (hI 0 (by decide)) he_X9 rfl rfl rfl (Nat.le_of_ble_eq_true rfl) ⟨Nat.le_of_ble_eq_true rfl, Nat.le_of_ble_eq_true rfl⟩ ⟨Nat.zero_le _, Nat.zero_le _⟩ (fun _ => rfl) rfl (fun r6 M6 _ => ?_)
      exact hz_iret hC hr dX9_want_51
    · refine hz_iconst (v := (0 : Int32)) (n := 36) hC dX9_want_35 (by decide +kernel) rfl ?_
      exact hz_iret hC hr dX9_want_36
  have j14 : ∀ (z14_0 : Int32) (M : hp_M), hp_Z p l e (hp_rm 2) s m args below meth c 3 A D ids adr adV cA 0 0 (MQ below (hp_Q A D ids adr adV cA rep hp_oi G0) args s 0 0 A) G0 rep 14 [(0, .ref (adr 13 0)), (1, .int a0), (2, .int a1)] [.int z14_0, .ref (adr 13 0)] M (A_X9_want_14 a0 a1 z14_0 M) := by
    intro z14_0 M
    unfold A_X9_want_14
    refine hz_iload_n (a := 2) (n := 15) hC dX9_want_14 rfl rfl rfl ?_
    refine hz_iconst (v := (1 : Int32)) (n := 16) hC dX9_want_15 (by decide +kernel) rfl ?_
    refine hz_bipush (v := (99 : Int32)) (n := 18) hC dX9_want_16 (by decide +kernel) rfl ?_
    refine hz_callS (k := 3) (As := [.int a1, .int (1 : Int32), .int (99 : Int32)]) (st := [.int z14_0, .ref (adr 13 0)]) (S1 := fun r => .int r :: [.int z14_0, .ref (adr 13 0)]) (n := 21) hC (c_X9_in l a1 (1 : Int32) (99 : Int32)   M) ks_X9_in wd_6_198 hI dX9_want_18 rfl rfl rfl (Nat.le_of_ble_eq_true rfl) ⟨Nat.le_of_ble_eq_true rfl, Nat.le_of_ble_eq_true rfl⟩ ⟨Nat.zero_le _, Nat.zero_le _⟩ (fun _ => rfl) rfl (fun r2 M2 _ => ?_)
    refine hz_if_ne (tgt := 28) (n := 24) hC dX9_want_21 (by decide) rfl (fun _ => ?_) (fun _ => ?_)
    · refine hz_iconst (v := (1 : Int32)) (n := 25) hC dX9_want_24 (by decide +kernel) rfl ?_
      refine hz_goto (n := 29) hC dX9_want_25 (by decide) ?_
      exact j29 _ _ _
    · refine hz_iconst (v := (0 : Int32)) (n := 29) hC dX9_want_28 (by decide +kernel) rfl ?_
      exact j29 _ _ _
  refine hz_aload_n (a := 0) (n := 1) hC dX9_want_0 rfl rfl rfl ?_
  refine hz_aload_n (a := 0) (n := 2) hC dX9_want_1 rfl rfl rfl ?_
  refine hz_iload_n (a := 1) (n := 3) hC dX9_want_2 rfl rfl rfl ?_
  refine hz_callV (k := 1) (As := [.int a0]) (st := [.ref (adr 13 0)]) (S1 := fun r => .int r :: [.ref (adr 13 0)]) (n := 6) hC (c_X9_isFlat l a0   M) kv_X9_isFlat wd_7_213 hI dX9_want_3 rfl (hI 0 (by decide)) he_X9 rfl rfl rfl (Nat.le_of_ble_eq_true rfl) ⟨Nat.le_of_ble_eq_true rfl, Nat.le_of_ble_eq_true rfl⟩ ⟨Nat.zero_le _, Nat.zero_le _⟩ (fun _ => rfl) rfl (fun r1 M1 _ => ?_)
  refine hz_if_ne (tgt := 13) (n := 9) hC dX9_want_6 (by decide) rfl (fun _ => ?_) (fun _ => ?_)
  · refine hz_iconst (v := (1 : Int32)) (n := 10) hC dX9_want_9 (by decide +kernel) rfl ?_
    refine hz_goto (n := 14) hC dX9_want_10 (by decide) ?_
    exact j14 _ _
  · refine hz_iconst (v := (0 : Int32)) (n := 14) hC dX9_want_13 (by decide +kernel) rfl ?_
    exact j14 _ _
def A_X9_drop_14 (a0 : Int32)  (z14_0 : Int32) (M : hp_M) : Option (Int32 × hp_M) := (hp_b (F_X9_throwsOne z14_0 M) (fun r2 M2 => (if r2 = 0 then (hp_b (F_X9_begins M2) (fun _ M3 => (hp_b (F_X9_gives a0 M3) (fun r4 M4 => (hp_b (F_X9_remember r4 M4) (fun r5 M5 => (some (r5, M5)))))))) else (some ((0 : Int32), M2)))))
def F_X9_drop (a0 : Int32) (M : hp_M) : Option (Int32 × hp_M) := (hp_b (F_X9_isFlat a0 M) (fun r1 M1 => (if r1 = 0 then (A_X9_drop_14 a0 (1 : Int32) M1) else (A_X9_drop_14 a0 (0 : Int32) M1))))
set_option maxRecDepth 20000 in
set_option maxHeartbeats 4000000 in
theorem c_X9_drop (l : Launch) (a0 : Int32)  (M : hp_M) : hp_Ct l yX9_drop cX9_drop 2 (some .int) 3 hp_IR (fun adr adV => [.ref (adr 13 0), .int a0]) hp_oi M (F_X9_drop a0 M) := by
  refine hp_start "HallPhoneModel" (fun adr adV => [(0, .ref (adr 13 0)), (1, .int a0)]) (by decide) rfl (fun _ _ => by simp only [lg_sl]; exact Nat.le_of_ble_eq_true rfl) (fun _ _ => rfl) ?_
  intro p e s m args below meth c A D ids adr adV cA rep G0 hI hC hr
  unfold F_X9_drop
  have j14 : ∀ (z14_0 : Int32) (M : hp_M), hp_Z p l e (hp_rm 3) s m args below meth c 2 A D ids adr adV cA 0 0 (MQ below (hp_Q A D ids adr adV cA rep hp_oi G0) args s 0 0 A) G0 rep 14 [(0, .ref (adr 13 0)), (1, .int a0)] [.int z14_0, .ref (adr 13 0)] M (A_X9_drop_14 a0 z14_0 M) := by
    intro z14_0 M
    unfold A_X9_drop_14
    refine hz_callV (k := 1) (As := [.int z14_0]) (st := []) (S1 := fun r => .int r :: []) (n := 17) hC (c_X9_throwsOne l z14_0   M) kv_X9_throwsOne wd_7_181 hI dX9_drop_14 rfl (hI 0 (by decide)) he_X9 rfl rfl rfl (Nat.le_of_ble_eq_true rfl) ⟨Nat.le_of_ble_eq_true rfl, Nat.le_of_ble_eq_true rfl⟩ ⟨Nat.zero_le _, Nat.zero_le _⟩ (fun _ => rfl) rfl (fun r2 M2 _ => ?_)
    refine hz_if_eq (tgt := 22) (n := 20) hC dX9_drop_17 (by decide) rfl (fun _ => ?_) (fun _ => ?_)
    · refine hz_aload_n (a := 0) (n := 23) hC dX9_drop_22 rfl rfl rfl ?_
      refine hz_callV (k := 0) (As := []) (st := []) (S1 := fun _ => []) (n := 26) hC (c_X9_begins l    M2) kv_X9_begins wd_8_136 hI dX9_drop_23 rfl (hI 0 (by decide)) he_X9 rfl rfl rfl (Nat.le_of_ble_eq_true rfl) ⟨Nat.le_of_ble_eq_true rfl, Nat.le_of_ble_eq_true rfl⟩ ⟨Nat.zero_le _, Nat.zero_le _⟩ (fun _ => rfl) rfl (fun r3 M3 _ => ?_)
      refine hz_aload_n (a := 0) (n := 27) hC dX9_drop_26 rfl rfl rfl ?_
      refine hz_aload_n (a := 0) (n := 28) hC dX9_drop_27 rfl rfl rfl ?_
      refine hz_iload_n (a := 1) (n := 29) hC dX9_drop_28 rfl rfl rfl ?_
      refine hz_callV (k := 1) (As := [.int a0]) (st := [.ref (adr 13 0)]) (S1 := fun r => .int r :: [.ref (adr 13 0)]) (n := 32) hC (c_X9_gives l a0   M3) kv_X9_gives wd_7_16 hI dX9_drop_29 rfl (hI 0 (by decide)) he_X9 rfl rfl rfl (Nat.le_of_ble_eq_true rfl) ⟨Nat.le_of_ble_eq_true rfl, Nat.le_of_ble_eq_true rfl⟩ ⟨Nat.zero_le _, Nat.zero_le _⟩ (fun _ => rfl) rfl (fun r4 M4 _ => ?_)
      refine hz_callV (k := 1) (As := [.int r4]) (st := []) (S1 := fun r => .int r :: []) (n := 35) hC (c_X9_remember l r4   M4) kv_X9_remember wd_8_140 hI dX9_drop_32 rfl (hI 0 (by decide)) he_X9 rfl rfl rfl (Nat.le_of_ble_eq_true rfl) ⟨Nat.le_of_ble_eq_true rfl, Nat.le_of_ble_eq_true rfl⟩ ⟨Nat.zero_le _, Nat.zero_le _⟩ (fun _ => rfl) rfl (fun r5 M5 _ => ?_)
      exact hz_iret hC hr dX9_drop_35
    · refine hz_iconst (v := (0 : Int32)) (n := 21) hC dX9_drop_20 (by decide +kernel) rfl ?_
      exact hz_iret hC hr dX9_drop_21
  refine hz_aload_n (a := 0) (n := 1) hC dX9_drop_0 rfl rfl rfl ?_
  refine hz_aload_n (a := 0) (n := 2) hC dX9_drop_1 rfl rfl rfl ?_
  refine hz_iload_n (a := 1) (n := 3) hC dX9_drop_2 rfl rfl rfl ?_
  refine hz_callV (k := 1) (As := [.int a0]) (st := [.ref (adr 13 0)]) (S1 := fun r => .int r :: [.ref (adr 13 0)]) (n := 6) hC (c_X9_isFlat l a0   M) kv_X9_isFlat wd_7_213 hI dX9_drop_3 rfl (hI 0 (by decide)) he_X9 rfl rfl rfl (Nat.le_of_ble_eq_true rfl) ⟨Nat.le_of_ble_eq_true rfl, Nat.le_of_ble_eq_true rfl⟩ ⟨Nat.zero_le _, Nat.zero_le _⟩ (fun _ => rfl) rfl (fun r1 M1 _ => ?_)
  refine hz_if_ne (tgt := 13) (n := 9) hC dX9_drop_6 (by decide) rfl (fun _ => ?_) (fun _ => ?_)
  · refine hz_iconst (v := (1 : Int32)) (n := 10) hC dX9_drop_9 (by decide +kernel) rfl ?_
    refine hz_goto (n := 14) hC dX9_drop_10 (by decide) ?_
    exact j14 _ _
  · refine hz_iconst (v := (0 : Int32)) (n := 14) hC dX9_drop_13 (by decide +kernel) rfl ?_
    exact j14 _ _
def A_X9_hang_14 (a0 : Int32)  (z14_0 : Int32) (M : hp_M) : Option (Int32 × hp_M) := (hp_b (F_X9_throwsOne z14_0 M) (fun r2 M2 => (if r2 = 0 then (hp_b (F_X9_begins M2) (fun _ M3 => (hp_b (F_X9_hangs a0 M3) (fun r4 M4 => (hp_b (F_X9_remember r4 M4) (fun r5 M5 => (some (r5, M5)))))))) else (some ((0 : Int32), M2)))))
def F_X9_hang (a0 : Int32) (M : hp_M) : Option (Int32 × hp_M) := (hp_b (F_X9_isFlat a0 M) (fun r1 M1 => (if r1 = 0 then (A_X9_hang_14 a0 (1 : Int32) M1) else (A_X9_hang_14 a0 (0 : Int32) M1))))
set_option maxRecDepth 20000 in
set_option maxHeartbeats 4000000 in
theorem c_X9_hang (l : Launch) (a0 : Int32)  (M : hp_M) : hp_Ct l yX9_hang cX9_hang 2 (some .int) 3 hp_IR (fun adr adV => [.ref (adr 13 0), .int a0]) hp_oi M (F_X9_hang a0 M) := by
  refine hp_start "HallPhoneModel" (fun adr adV => [(0, .ref (adr 13 0)), (1, .int a0)]) (by decide) rfl (fun _ _ => by simp only [lg_sl]; exact Nat.le_of_ble_eq_true rfl) (fun _ _ => rfl) ?_
  intro p e s m args below meth c A D ids adr adV cA rep G0 hI hC hr
  unfold F_X9_hang
  have j14 : ∀ (z14_0 : Int32) (M : hp_M), hp_Z p l e (hp_rm 3) s m args below meth c 2 A D ids adr adV cA 0 0 (MQ below (hp_Q A D ids adr adV cA rep hp_oi G0) args s 0 0 A) G0 rep 14 [(0, .ref (adr 13 0)), (1, .int a0)] [.int z14_0, .ref (adr 13 0)] M (A_X9_hang_14 a0 z14_0 M) := by
    intro z14_0 M
    unfold A_X9_hang_14
    refine hz_callV (k := 1) (As := [.int z14_0]) (st := []) (S1 := fun r => .int r :: []) (n := 17) hC (c_X9_throwsOne l z14_0   M) kv_X9_throwsOne wd_7_181 hI dX9_hang_14 rfl (hI 0 (by decide)) he_X9 rfl rfl rfl (Nat.le_of_ble_eq_true rfl) ⟨Nat.le_of_ble_eq_true rfl, Nat.le_of_ble_eq_true rfl⟩ ⟨Nat.zero_le _, Nat.zero_le _⟩ (fun _ => rfl) rfl (fun r2 M2 _ => ?_)
    refine hz_if_eq (tgt := 22) (n := 20) hC dX9_hang_17 (by decide) rfl (fun _ => ?_) (fun _ => ?_)
    · refine hz_aload_n (a := 0) (n := 23) hC dX9_hang_22 rfl rfl rfl ?_
      refine hz_callV (k := 0) (As := []) (st := []) (S1 := fun _ => []) (n := 26) hC (c_X9_begins l    M2) kv_X9_begins wd_8_136 hI dX9_hang_23 rfl (hI 0 (by decide)) he_X9 rfl rfl rfl (Nat.le_of_ble_eq_true rfl) ⟨Nat.le_of_ble_eq_true rfl, Nat.le_of_ble_eq_true rfl⟩ ⟨Nat.zero_le _, Nat.zero_le _⟩ (fun _ => rfl) rfl (fun r3 M3 _ => ?_)
      refine hz_aload_n (a := 0) (n := 27) hC dX9_hang_26 rfl rfl rfl ?_
      refine hz_aload_n (a := 0) (n := 28) hC dX9_hang_27 rfl rfl rfl ?_
      refine hz_iload_n (a := 1) (n := 29) hC dX9_hang_28 rfl rfl rfl ?_
      refine hz_callV (k := 1) (As := [.int a0]) (st := [.ref (adr 13 0)]) (S1 := fun r => .int r :: [.ref (adr 13 0)]) (n := 32) hC (c_X9_hangs l a0   M3) kv_X9_hangs wd_7_33 hI dX9_hang_29 rfl (hI 0 (by decide)) he_X9 rfl rfl rfl (Nat.le_of_ble_eq_true rfl) ⟨Nat.le_of_ble_eq_true rfl, Nat.le_of_ble_eq_true rfl⟩ ⟨Nat.zero_le _, Nat.zero_le _⟩ (fun _ => rfl) rfl (fun r4 M4 _ => ?_)
      refine hz_callV (k := 1) (As := [.int r4]) (st := []) (S1 := fun r => .int r :: []) (n := 35) hC (c_X9_remember l r4   M4) kv_X9_remember wd_8_140 hI dX9_hang_32 rfl (hI 0 (by decide)) he_X9 rfl rfl rfl (Nat.le_of_ble_eq_true rfl) ⟨Nat.le_of_ble_eq_true rfl, Nat.le_of_ble_eq_true rfl⟩ ⟨Nat.zero_le _, Nat.zero_le _⟩ (fun _ => rfl) rfl (fun r5 M5 _ => ?_)
      exact hz_iret hC hr dX9_hang_35
    · refine hz_iconst (v := (0 : Int32)) (n := 21) hC dX9_hang_20 (by decide +kernel) rfl ?_
      exact hz_iret hC hr dX9_hang_21
  refine hz_aload_n (a := 0) (n := 1) hC dX9_hang_0 rfl rfl rfl ?_
  refine hz_aload_n (a := 0) (n := 2) hC dX9_hang_1 rfl rfl rfl ?_
  refine hz_iload_n (a := 1) (n := 3) hC dX9_hang_2 rfl rfl rfl ?_
  refine hz_callV (k := 1) (As := [.int a0]) (st := [.ref (adr 13 0)]) (S1 := fun r => .int r :: [.ref (adr 13 0)]) (n := 6) hC (c_X9_isFlat l a0   M) kv_X9_isFlat wd_7_213 hI dX9_hang_3 rfl (hI 0 (by decide)) he_X9 rfl rfl rfl (Nat.le_of_ble_eq_true rfl) ⟨Nat.le_of_ble_eq_true rfl, Nat.le_of_ble_eq_true rfl⟩ ⟨Nat.zero_le _, Nat.zero_le _⟩ (fun _ => rfl) rfl (fun r1 M1 _ => ?_)
  refine hz_if_ne (tgt := 13) (n := 9) hC dX9_hang_6 (by decide) rfl (fun _ => ?_) (fun _ => ?_)
  · refine hz_iconst (v := (1 : Int32)) (n := 10) hC dX9_hang_9 (by decide +kernel) rfl ?_
    refine hz_goto (n := 14) hC dX9_hang_10 (by decide) ?_
    exact j14 _ _
  · refine hz_iconst (v := (0 : Int32)) (n := 14) hC dX9_hang_13 (by decide +kernel) rfl ?_
    exact j14 _ _
def A_X9_ring_29 (a0 : Int32) (a1 : Int32)  (z29_0 : Int32) (z29_1 : Int32) (M : hp_M) : Option (Int32 × hp_M) := (hp_b (F_X9_throwsOne_ z29_1 z29_0 M) (fun r3 M3 => (if r3 = 0 then (hp_b (F_X9_begins M3) (fun _ M4 => (hp_b (F_X9_rings a0 a1 M4) (fun r5 M5 => (hp_b (F_X9_remember r5 M5) (fun r6 M6 => (some (r6, M6)))))))) else (some ((0 : Int32), M3)))))
def A_X9_ring_14 (a0 : Int32) (a1 : Int32)  (z14_0 : Int32) (M : hp_M) : Option (Int32 × hp_M) := (hp_b (F_X9_in a1 (1 : Int32) (99 : Int32) M) (fun r2 M2 => (if r2 = 0 then (A_X9_ring_29 a0 a1 (1 : Int32) z14_0 M2) else (A_X9_ring_29 a0 a1 (0 : Int32) z14_0 M2))))
def F_X9_ring (a0 : Int32) (a1 : Int32) (M : hp_M) : Option (Int32 × hp_M) := (hp_b (F_X9_isFlat a0 M) (fun r1 M1 => (if r1 = 0 then (A_X9_ring_14 a0 a1 (1 : Int32) M1) else (A_X9_ring_14 a0 a1 (0 : Int32) M1))))
set_option maxRecDepth 20000 in
set_option maxHeartbeats 4000000 in
theorem c_X9_ring (l : Launch) (a0 : Int32) (a1 : Int32)  (M : hp_M) : hp_Ct l yX9_ring cX9_ring 3 (some .int) 3 hp_IR (fun adr adV => [.ref (adr 13 0), .int a0, .int a1]) hp_oi M (F_X9_ring a0 a1 M) := by
  refine hp_start "HallPhoneModel" (fun adr adV => [(0, .ref (adr 13 0)), (1, .int a0), (2, .int a1)]) (by decide) rfl (fun _ _ => by simp only [lg_sl]; exact Nat.le_of_ble_eq_true rfl) (fun _ _ => rfl) ?_
  intro p e s m args below meth c A D ids adr adV cA rep G0 hI hC hr
  unfold F_X9_ring
  have j29 : ∀ (z29_0 : Int32) (z29_1 : Int32) (M : hp_M), hp_Z p l e (hp_rm 3) s m args below meth c 3 A D ids adr adV cA 0 0 (MQ below (hp_Q A D ids adr adV cA rep hp_oi G0) args s 0 0 A) G0 rep 29 [(0, .ref (adr 13 0)), (1, .int a0), (2, .int a1)] [.int z29_0, .int z29_1, .ref (adr 13 0)] M (A_X9_ring_29 a0 a1 z29_0 z29_1 M) := by
    intro z29_0 z29_1 M
    unfold A_X9_ring_29
    refine hz_callV (k := 2) (As := [.int z29_1, .int z29_0]) (st := []) (S1 := fun r => .int r :: []) (n := 32) hC (c_X9_throwsOne_ l z29_1 z29_0   M) kv_X9_throwsOne_ wd_7_217 hI dX9_ring_29 rfl (hI 0 (by decide)) he_X9 rfl rfl rfl (Nat.le_of_ble_eq_true rfl) ⟨Nat.le_of_ble_eq_true rfl, Nat.le_of_ble_eq_true rfl⟩ ⟨Nat.zero_le _, Nat.zero_le _⟩ (fun _ => rfl) rfl (fun r3 M3 _ => ?_)
    refine hz_if_eq (tgt := 37) (n := 35) hC dX9_ring_32 (by decide) rfl (fun _ => ?_) (fun _ => ?_)
    · refine hz_aload_n (a := 0) (n := 38) hC dX9_ring_37 rfl rfl rfl ?_
      refine hz_callV (k := 0) (As := []) (st := []) (S1 := fun _ => []) (n := 41) hC (c_X9_begins l    M3) kv_X9_begins wd_8_136 hI dX9_ring_38 rfl (hI 0 (by decide)) he_X9 rfl rfl rfl (Nat.le_of_ble_eq_true rfl) ⟨Nat.le_of_ble_eq_true rfl, Nat.le_of_ble_eq_true rfl⟩ ⟨Nat.zero_le _, Nat.zero_le _⟩ (fun _ => rfl) rfl (fun r4 M4 _ => ?_)
      refine hz_aload_n (a := 0) (n := 42) hC dX9_ring_41 rfl rfl rfl ?_
      refine hz_aload_n (a := 0) (n := 43) hC dX9_ring_42 rfl rfl rfl ?_
      refine hz_iload_n (a := 1) (n := 44) hC dX9_ring_43 rfl rfl rfl ?_
      refine hz_iload_n (a := 2) (n := 45) hC dX9_ring_44 rfl rfl rfl ?_
      refine hz_callV (k := 2) (As := [.int a0, .int a1]) (st := [.ref (adr 13 0)]) (S1 := fun r => .int r :: [.ref (adr 13 0)]) (n := 48) hC (c_X9_rings l a0 a1   M4) kv_X9_rings wd_7_58 hI dX9_ring_45 rfl (hI 0 (by decide)) he_X9 rfl rfl rfl (Nat.le_of_ble_eq_true rfl) ⟨Nat.le_of_ble_eq_true rfl, Nat.le_of_ble_eq_true rfl⟩ ⟨Nat.zero_le _, Nat.zero_le _⟩ (fun _ => rfl) rfl (fun r5 M5 _ => ?_)
      refine hz_callV (k := 1) (As := [.int r5]) (st := []) (S1 := fun r => .int r :: []) (n := 51) hC (c_X9_remember l r5   M5) kv_X9_remember wd_8_140 hI dX9_ring_48 rfl (hI 0 (by decide)) he_X9 rfl rfl rfl (Nat.le_of_ble_eq_true rfl) ⟨Nat.le_of_ble_eq_true rfl, Nat.le_of_ble_eq_true rfl⟩ ⟨Nat.zero_le _, Nat.zero_le _⟩ (fun _ => rfl) rfl (fun r6 M6 _ => ?_)
      exact hz_iret hC hr dX9_ring_51
    · refine hz_iconst (v := (0 : Int32)) (n := 36) hC dX9_ring_35 (by decide +kernel) rfl ?_
      exact hz_iret hC hr dX9_ring_36
  have j14 : ∀ (z14_0 : Int32) (M : hp_M), hp_Z p l e (hp_rm 3) s m args below meth c 3 A D ids adr adV cA 0 0 (MQ below (hp_Q A D ids adr adV cA rep hp_oi G0) args s 0 0 A) G0 rep 14 [(0, .ref (adr 13 0)), (1, .int a0), (2, .int a1)] [.int z14_0, .ref (adr 13 0)] M (A_X9_ring_14 a0 a1 z14_0 M) := by
    intro z14_0 M
    unfold A_X9_ring_14
    refine hz_iload_n (a := 2) (n := 15) hC dX9_ring_14 rfl rfl rfl ?_
    refine hz_iconst (v := (1 : Int32)) (n := 16) hC dX9_ring_15 (by decide +kernel) rfl ?_
    refine hz_bipush (v := (99 : Int32)) (n := 18) hC dX9_ring_16 (by decide +kernel) rfl ?_
    refine hz_callS (k := 3) (As := [.int a1, .int (1 : Int32), .int (99 : Int32)]) (st := [.int z14_0, .ref (adr 13 0)]) (S1 := fun r => .int r :: [.int z14_0, .ref (adr 13 0)]) (n := 21) hC (c_X9_in l a1 (1 : Int32) (99 : Int32)   M) ks_X9_in wd_6_198 hI dX9_ring_18 rfl rfl rfl (Nat.le_of_ble_eq_true rfl) ⟨Nat.le_of_ble_eq_true rfl, Nat.le_of_ble_eq_true rfl⟩ ⟨Nat.zero_le _, Nat.zero_le _⟩ (fun _ => rfl) rfl (fun r2 M2 _ => ?_)
    refine hz_if_ne (tgt := 28) (n := 24) hC dX9_ring_21 (by decide) rfl (fun _ => ?_) (fun _ => ?_)
    · refine hz_iconst (v := (1 : Int32)) (n := 25) hC dX9_ring_24 (by decide +kernel) rfl ?_
      refine hz_goto (n := 29) hC dX9_ring_25 (by decide) ?_
      exact j29 _ _ _
    · refine hz_iconst (v := (0 : Int32)) (n := 29) hC dX9_ring_28 (by decide +kernel) rfl ?_
      exact j29 _ _ _
  refine hz_aload_n (a := 0) (n := 1) hC dX9_ring_0 rfl rfl rfl ?_
  refine hz_aload_n (a := 0) (n := 2) hC dX9_ring_1 rfl rfl rfl ?_
  refine hz_iload_n (a := 1) (n := 3) hC dX9_ring_2 rfl rfl rfl ?_
  refine hz_callV (k := 1) (As := [.int a0]) (st := [.ref (adr 13 0)]) (S1 := fun r => .int r :: [.ref (adr 13 0)]) (n := 6) hC (c_X9_isFlat l a0   M) kv_X9_isFlat wd_7_213 hI dX9_ring_3 rfl (hI 0 (by decide)) he_X9 rfl rfl rfl (Nat.le_of_ble_eq_true rfl) ⟨Nat.le_of_ble_eq_true rfl, Nat.le_of_ble_eq_true rfl⟩ ⟨Nat.zero_le _, Nat.zero_le _⟩ (fun _ => rfl) rfl (fun r1 M1 _ => ?_)
  refine hz_if_ne (tgt := 13) (n := 9) hC dX9_ring_6 (by decide) rfl (fun _ => ?_) (fun _ => ?_)
  · refine hz_iconst (v := (1 : Int32)) (n := 10) hC dX9_ring_9 (by decide +kernel) rfl ?_
    refine hz_goto (n := 14) hC dX9_ring_10 (by decide) ?_
    exact j14 _ _
  · refine hz_iconst (v := (0 : Int32)) (n := 14) hC dX9_ring_13 (by decide +kernel) rfl ?_
    exact j14 _ _
def A_X9_pay_30 (a0 : Int32) (a1 : Int32)  (z30_0 : Int32) (z30_1 : Int32) (M : hp_M) : Option (Int32 × hp_M) := (hp_b (F_X9_throwsOne_ z30_1 z30_0 M) (fun r3 M3 => (if r3 = 0 then (hp_b (F_X9_begins M3) (fun _ M4 => (hp_b (F_X9_pays a0 a1 M4) (fun r5 M5 => (hp_b (F_X9_remember r5 M5) (fun r6 M6 => (some (r6, M6)))))))) else (some ((0 : Int32), M3)))))
def A_X9_pay_14 (a0 : Int32) (a1 : Int32)  (z14_0 : Int32) (M : hp_M) : Option (Int32 × hp_M) := (hp_b (F_X9_in a1 (1 : Int32) (9999 : Int32) M) (fun r2 M2 => (if r2 = 0 then (A_X9_pay_30 a0 a1 (1 : Int32) z14_0 M2) else (A_X9_pay_30 a0 a1 (0 : Int32) z14_0 M2))))
def F_X9_pay (a0 : Int32) (a1 : Int32) (M : hp_M) : Option (Int32 × hp_M) := (hp_b (F_X9_isFlat a0 M) (fun r1 M1 => (if r1 = 0 then (A_X9_pay_14 a0 a1 (1 : Int32) M1) else (A_X9_pay_14 a0 a1 (0 : Int32) M1))))
set_option maxRecDepth 20000 in
set_option maxHeartbeats 4000000 in
theorem c_X9_pay (l : Launch) (a0 : Int32) (a1 : Int32)  (M : hp_M) : hp_Ct l yX9_pay cX9_pay 3 (some .int) 2 hp_IR (fun adr adV => [.ref (adr 13 0), .int a0, .int a1]) hp_oi M (F_X9_pay a0 a1 M) := by
  refine hp_start "HallPhoneModel" (fun adr adV => [(0, .ref (adr 13 0)), (1, .int a0), (2, .int a1)]) (by decide) rfl (fun _ _ => by simp only [lg_sl]; exact Nat.le_of_ble_eq_true rfl) (fun _ _ => rfl) ?_
  intro p e s m args below meth c A D ids adr adV cA rep G0 hI hC hr
  unfold F_X9_pay
  have j30 : ∀ (z30_0 : Int32) (z30_1 : Int32) (M : hp_M), hp_Z p l e (hp_rm 2) s m args below meth c 3 A D ids adr adV cA 0 0 (MQ below (hp_Q A D ids adr adV cA rep hp_oi G0) args s 0 0 A) G0 rep 30 [(0, .ref (adr 13 0)), (1, .int a0), (2, .int a1)] [.int z30_0, .int z30_1, .ref (adr 13 0)] M (A_X9_pay_30 a0 a1 z30_0 z30_1 M) := by
    intro z30_0 z30_1 M
    unfold A_X9_pay_30
    refine hz_callV (k := 2) (As := [.int z30_1, .int z30_0]) (st := []) (S1 := fun r => .int r :: []) (n := 33) hC (c_X9_throwsOne_ l z30_1 z30_0   M) kv_X9_throwsOne_ wd_7_217 hI dX9_pay_30 rfl (hI 0 (by decide)) he_X9 rfl rfl rfl (Nat.le_of_ble_eq_true rfl) ⟨Nat.le_of_ble_eq_true rfl, Nat.le_of_ble_eq_true rfl⟩ ⟨Nat.zero_le _, Nat.zero_le _⟩ (fun _ => rfl) rfl (fun r3 M3 _ => ?_)
    refine hz_if_eq (tgt := 38) (n := 36) hC dX9_pay_33 (by decide) rfl (fun _ => ?_) (fun _ => ?_)
    · refine hz_aload_n (a := 0) (n := 39) hC dX9_pay_38 rfl rfl rfl ?_
      refine hz_callV (k := 0) (As := []) (st := []) (S1 := fun _ => []) (n := 42) hC (c_X9_begins l    M3) kv_X9_begins wd_8_136 hI dX9_pay_39 rfl (hI 0 (by decide)) he_X9 rfl rfl rfl (Nat.le_of_ble_eq_true rfl) ⟨Nat.le_of_ble_eq_true rfl, Nat.le_of_ble_eq_true rfl⟩ ⟨Nat.zero_le _, Nat.zero_le _⟩ (fun _ => rfl) rfl (fun r4 M4 _ => ?_)
      refine hz_aload_n (a := 0) (n := 43) hC dX9_pay_42 rfl rfl rfl ?_
      refine hz_aload_n (a := 0) (n := 44) hC dX9_pay_43 rfl rfl rfl ?_
      refine hz_iload_n (a := 1) (n := 45) hC dX9_pay_44 rfl rfl rfl ?_
      refine hz_iload_n (a := 2) (n := 46) hC dX9_pay_45 rfl rfl rfl ?_
      refine hz_callV (k := 2) (As := [.int a0, .int a1]) (st := [.ref (adr 13 0)]) (S1 := fun r => .int r :: [.ref (adr 13 0)]) (n := 49) hC (c_X9_pays l a0 a1   M4) kv_X9_pays wd_7_71 hI dX9_pay_46 rfl (hI 0 (by decide)) he_X9 rfl rfl rfl (Nat.le_of_ble_eq_true rfl) ⟨Nat.le_of_ble_eq_true rfl, Nat.le_of_ble_eq_true rfl⟩ ⟨Nat.zero_le _, Nat.zero_le _⟩ (fun _ => rfl) rfl (fun r5 M5 _ => ?_)
      refine hz_callV (k := 1) (As := [.int r5]) (st := []) (S1 := fun r => .int r :: []) (n := 52) hC (c_X9_remember l r5   M5) kv_X9_remember wd_8_140 hI dX9_pay_49 rfl (hI 0 (by decide)) he_X9 rfl rfl rfl (Nat.le_of_ble_eq_true rfl) ⟨Nat.le_of_ble_eq_true rfl, Nat.le_of_ble_eq_true rfl⟩ ⟨Nat.zero_le _, Nat.zero_le _⟩ (fun _ => rfl) rfl (fun r6 M6 _ => ?_)
      exact hz_iret hC hr dX9_pay_52
    · refine hz_iconst (v := (0 : Int32)) (n := 37) hC dX9_pay_36 (by decide +kernel) rfl ?_
      exact hz_iret hC hr dX9_pay_37
  have j14 : ∀ (z14_0 : Int32) (M : hp_M), hp_Z p l e (hp_rm 2) s m args below meth c 3 A D ids adr adV cA 0 0 (MQ below (hp_Q A D ids adr adV cA rep hp_oi G0) args s 0 0 A) G0 rep 14 [(0, .ref (adr 13 0)), (1, .int a0), (2, .int a1)] [.int z14_0, .ref (adr 13 0)] M (A_X9_pay_14 a0 a1 z14_0 M) := by
    intro z14_0 M
    unfold A_X9_pay_14
    refine hz_iload_n (a := 2) (n := 15) hC dX9_pay_14 rfl rfl rfl ?_
    refine hz_iconst (v := (1 : Int32)) (n := 16) hC dX9_pay_15 (by decide +kernel) rfl ?_
    refine hz_sipush (v := (9999 : Int32)) (n := 19) hC dX9_pay_16 (by decide +kernel) rfl ?_
    refine hz_callS (k := 3) (As := [.int a1, .int (1 : Int32), .int (9999 : Int32)]) (st := [.int z14_0, .ref (adr 13 0)]) (S1 := fun r => .int r :: [.int z14_0, .ref (adr 13 0)]) (n := 22) hC (c_X9_in l a1 (1 : Int32) (9999 : Int32)   M) ks_X9_in wd_6_198 hI dX9_pay_19 rfl rfl rfl (Nat.le_of_ble_eq_true rfl) ⟨Nat.le_of_ble_eq_true rfl, Nat.le_of_ble_eq_true rfl⟩ ⟨Nat.zero_le _, Nat.zero_le _⟩ (fun _ => rfl) rfl (fun r2 M2 _ => ?_)
    refine hz_if_ne (tgt := 29) (n := 25) hC dX9_pay_22 (by decide) rfl (fun _ => ?_) (fun _ => ?_)
    · refine hz_iconst (v := (1 : Int32)) (n := 26) hC dX9_pay_25 (by decide +kernel) rfl ?_
      refine hz_goto (n := 30) hC dX9_pay_26 (by decide) ?_
      exact j30 _ _ _
    · refine hz_iconst (v := (0 : Int32)) (n := 30) hC dX9_pay_29 (by decide +kernel) rfl ?_
      exact j30 _ _ _
  refine hz_aload_n (a := 0) (n := 1) hC dX9_pay_0 rfl rfl rfl ?_
  refine hz_aload_n (a := 0) (n := 2) hC dX9_pay_1 rfl rfl rfl ?_
  refine hz_iload_n (a := 1) (n := 3) hC dX9_pay_2 rfl rfl rfl ?_
  refine hz_callV (k := 1) (As := [.int a0]) (st := [.ref (adr 13 0)]) (S1 := fun r => .int r :: [.ref (adr 13 0)]) (n := 6) hC (c_X9_isFlat l a0   M) kv_X9_isFlat wd_7_213 hI dX9_pay_3 rfl (hI 0 (by decide)) he_X9 rfl rfl rfl (Nat.le_of_ble_eq_true rfl) ⟨Nat.le_of_ble_eq_true rfl, Nat.le_of_ble_eq_true rfl⟩ ⟨Nat.zero_le _, Nat.zero_le _⟩ (fun _ => rfl) rfl (fun r1 M1 _ => ?_)
  refine hz_if_ne (tgt := 13) (n := 9) hC dX9_pay_6 (by decide) rfl (fun _ => ?_) (fun _ => ?_)
  · refine hz_iconst (v := (1 : Int32)) (n := 10) hC dX9_pay_9 (by decide +kernel) rfl ?_
    refine hz_goto (n := 14) hC dX9_pay_10 (by decide) ?_
    exact j14 _ _
  · refine hz_iconst (v := (0 : Int32)) (n := 14) hC dX9_pay_13 (by decide +kernel) rfl ?_
    exact j14 _ _
def A_X9_setCurious_41 (a0 : Int32) (a1 : Int32)  (z41_0 : Int32) (M : hp_M) : Option (Int32 × hp_M) := (if a1 = 0 then (hp_b (F_X9_to a0 (1 : Int32) (0 : Int32) M) (fun _ M5 => (hp_b (F_X9_remember (0 : Int32) M5) (fun r6 M6 => (if z41_0 = 0 ∨ z41_0 = 1 then some (z41_0, M6) else none))))) else (hp_b (F_X9_to a0 (1 : Int32) (1 : Int32) M) (fun _ M7 => (hp_b (F_X9_remember (0 : Int32) M7) (fun r8 M8 => (if z41_0 = 0 ∨ z41_0 = 1 then some (z41_0, M8) else none))))))
def A_X9_setCurious_14 (a0 : Int32) (a1 : Int32)  (z14_0 : Int32) (M : hp_M) : Option (Int32 × hp_M) := (hp_b (F_X9_throwsOne z14_0 M) (fun r2 M2 => (if r2 = 0 then (hp_b (F_X9_begins M2) (fun _ M3 => (hp_b (F_X9_of a0 (1 : Int32) M3) (fun r4 M4 => (if r4 = (1 : Int32) then (A_X9_setCurious_41 a0 a1 (1 : Int32) M4) else (A_X9_setCurious_41 a0 a1 (0 : Int32) M4)))))) else (some ((0 : Int32), M2)))))
def F_X9_setCurious (a0 : Int32) (a1 : Int32) (M : hp_M) : Option (Int32 × hp_M) := (hp_b (F_X9_isFlat a0 M) (fun r1 M1 => (if r1 = 0 then (A_X9_setCurious_14 a0 a1 (1 : Int32) M1) else (A_X9_setCurious_14 a0 a1 (0 : Int32) M1))))
set_option maxRecDepth 20000 in
set_option maxHeartbeats 4000000 in
theorem c_X9_setCurious (l : Launch) (a0 : Int32) (a1 : Int32)  (M : hp_M) : hp_Ct l yX9_setCurious cX9_setCurious 4 (some .boolean) 2 hp_IR (fun adr adV => [.ref (adr 13 0), .int a0, .int a1]) hp_oi M (F_X9_setCurious a0 a1 M) := by
  refine hp_start "HallPhoneModel" (fun adr adV => [(0, .ref (adr 13 0)), (1, .int a0), (2, .int a1)]) (by decide) rfl (fun _ _ => by simp only [lg_sl]; exact Nat.le_of_ble_eq_true rfl) (fun _ _ => rfl) ?_
  intro p e s m args below meth c A D ids adr adV cA rep G0 hI hC hr
  unfold F_X9_setCurious
  have j41 : ∀ (z41_0 : Int32) (M : hp_M), hp_Z p l e (hp_rm 2) s m args below meth c 4 A D ids adr adV cA 0 0 (MQ below (hp_Q A D ids adr adV cA rep hp_oi G0) args s 0 0 A) G0 rep 41 [(0, .ref (adr 13 0)), (1, .int a0), (2, .int a1)] [.int z41_0] M (A_X9_setCurious_41 a0 a1 z41_0 M) := by
    intro z41_0 M
    unfold A_X9_setCurious_41
    refine hz_istore_n (L' := [(3, .int z41_0), (0, .ref (adr 13 0)), (1, .int a0), (2, .int a1)]) (n := 42) hC dX9_setCurious_41 rfl (by decide) rfl rfl ?_
    refine hz_aload_n (a := 1) (n := 43) hC dX9_setCurious_42 rfl rfl rfl ?_
    refine hz_iload_n (a := 2) (n := 44) hC dX9_setCurious_43 rfl rfl rfl ?_
    refine hz_iconst (v := (1 : Int32)) (n := 45) hC dX9_setCurious_44 (by decide +kernel) rfl ?_
    refine hz_iload_n (a := 3) (n := 46) hC dX9_setCurious_45 rfl rfl rfl ?_
    refine hz_if_eq (tgt := 53) (n := 49) hC dX9_setCurious_46 (by decide) rfl (fun _ => ?_) (fun _ => ?_)
    · refine hz_iconst (v := (0 : Int32)) (n := 54) hC dX9_setCurious_53 (by decide +kernel) rfl ?_
      refine hz_callV (k := 3) (As := [.int a0, .int (1 : Int32), .int (0 : Int32)]) (st := []) (S1 := fun _ => []) (n := 57) hC (c_X9_to l a0 (1 : Int32) (0 : Int32)   M) kv_X9_to wd_6_201 hI dX9_setCurious_54 rfl (hI 0 (by decide)) he_X9 rfl rfl rfl (Nat.le_of_ble_eq_true rfl) ⟨Nat.le_of_ble_eq_true rfl, Nat.le_of_ble_eq_true rfl⟩ ⟨Nat.zero_le _, Nat.zero_le _⟩ (fun _ => rfl) rfl (fun r5 M5 _ => ?_)
      refine hz_aload_n (a := 1) (n := 58) hC dX9_setCurious_57 rfl rfl rfl ?_
      refine hz_iconst (v := (0 : Int32)) (n := 59) hC dX9_setCurious_58 (by decide +kernel) rfl ?_
      refine hz_callV (k := 1) (As := [.int (0 : Int32)]) (st := []) (S1 := fun r => .int r :: []) (n := 62) hC (c_X9_remember l (0 : Int32)   M5) kv_X9_remember wd_8_140 hI dX9_setCurious_59 rfl (hI 0 (by decide)) he_X9 rfl rfl rfl (Nat.le_of_ble_eq_true rfl) ⟨Nat.le_of_ble_eq_true rfl, Nat.le_of_ble_eq_true rfl⟩ ⟨Nat.zero_le _, Nat.zero_le _⟩ (fun _ => rfl) rfl (fun r6 M6 _ => ?_)
      refine hz_pop (n := 63) hC dX9_setCurious_62 rfl rfl ?_
      refine hz_iload_n (a := 0) (n := 64) hC dX9_setCurious_63 rfl rfl rfl ?_
      exact hz_bret hC hr dX9_setCurious_64
    · refine hz_iconst (v := (1 : Int32)) (n := 50) hC dX9_setCurious_49 (by decide +kernel) rfl ?_
      refine hz_goto (n := 54) hC dX9_setCurious_50 (by decide) ?_
      refine hz_callV (k := 3) (As := [.int a0, .int (1 : Int32), .int (1 : Int32)]) (st := []) (S1 := fun _ => []) (n := 57) hC (c_X9_to l a0 (1 : Int32) (1 : Int32)   M) kv_X9_to wd_6_201 hI dX9_setCurious_54 rfl (hI 0 (by decide)) he_X9 rfl rfl rfl (Nat.le_of_ble_eq_true rfl) ⟨Nat.le_of_ble_eq_true rfl, Nat.le_of_ble_eq_true rfl⟩ ⟨Nat.zero_le _, Nat.zero_le _⟩ (fun _ => rfl) rfl (fun r7 M7 _ => ?_)
      refine hz_aload_n (a := 1) (n := 58) hC dX9_setCurious_57 rfl rfl rfl ?_
      refine hz_iconst (v := (0 : Int32)) (n := 59) hC dX9_setCurious_58 (by decide +kernel) rfl ?_
      refine hz_callV (k := 1) (As := [.int (0 : Int32)]) (st := []) (S1 := fun r => .int r :: []) (n := 62) hC (c_X9_remember l (0 : Int32)   M7) kv_X9_remember wd_8_140 hI dX9_setCurious_59 rfl (hI 0 (by decide)) he_X9 rfl rfl rfl (Nat.le_of_ble_eq_true rfl) ⟨Nat.le_of_ble_eq_true rfl, Nat.le_of_ble_eq_true rfl⟩ ⟨Nat.zero_le _, Nat.zero_le _⟩ (fun _ => rfl) rfl (fun r8 M8 _ => ?_)
      refine hz_pop (n := 63) hC dX9_setCurious_62 rfl rfl ?_
      refine hz_iload_n (a := 0) (n := 64) hC dX9_setCurious_63 rfl rfl rfl ?_
      exact hz_bret hC hr dX9_setCurious_64
  have j14 : ∀ (z14_0 : Int32) (M : hp_M), hp_Z p l e (hp_rm 2) s m args below meth c 4 A D ids adr adV cA 0 0 (MQ below (hp_Q A D ids adr adV cA rep hp_oi G0) args s 0 0 A) G0 rep 14 [(0, .ref (adr 13 0)), (1, .int a0), (2, .int a1)] [.int z14_0, .ref (adr 13 0)] M (A_X9_setCurious_14 a0 a1 z14_0 M) := by
    intro z14_0 M
    unfold A_X9_setCurious_14
    refine hz_callV (k := 1) (As := [.int z14_0]) (st := []) (S1 := fun r => .int r :: []) (n := 17) hC (c_X9_throwsOne l z14_0   M) kv_X9_throwsOne wd_7_181 hI dX9_setCurious_14 rfl (hI 0 (by decide)) he_X9 rfl rfl rfl (Nat.le_of_ble_eq_true rfl) ⟨Nat.le_of_ble_eq_true rfl, Nat.le_of_ble_eq_true rfl⟩ ⟨Nat.zero_le _, Nat.zero_le _⟩ (fun _ => rfl) rfl (fun r2 M2 _ => ?_)
    refine hz_if_eq (tgt := 22) (n := 20) hC dX9_setCurious_17 (by decide) rfl (fun _ => ?_) (fun _ => ?_)
    · refine hz_aload_n (a := 0) (n := 23) hC dX9_setCurious_22 rfl rfl rfl ?_
      refine hz_callV (k := 0) (As := []) (st := []) (S1 := fun _ => []) (n := 26) hC (c_X9_begins l    M2) kv_X9_begins wd_8_136 hI dX9_setCurious_23 rfl (hI 0 (by decide)) he_X9 rfl rfl rfl (Nat.le_of_ble_eq_true rfl) ⟨Nat.le_of_ble_eq_true rfl, Nat.le_of_ble_eq_true rfl⟩ ⟨Nat.zero_le _, Nat.zero_le _⟩ (fun _ => rfl) rfl (fun r3 M3 _ => ?_)
      refine hz_aload_n (a := 0) (n := 27) hC dX9_setCurious_26 rfl rfl rfl ?_
      refine hz_iload_n (a := 1) (n := 28) hC dX9_setCurious_27 rfl rfl rfl ?_
      refine hz_iconst (v := (1 : Int32)) (n := 29) hC dX9_setCurious_28 (by decide +kernel) rfl ?_
      refine hz_callV (k := 2) (As := [.int a0, .int (1 : Int32)]) (st := []) (S1 := fun r => .int r :: []) (n := 32) hC (c_X9_of l a0 (1 : Int32)   M3) kv_X9_of wd_7_7 hI dX9_setCurious_29 rfl (hI 0 (by decide)) he_X9 rfl rfl rfl (Nat.le_of_ble_eq_true rfl) ⟨Nat.le_of_ble_eq_true rfl, Nat.le_of_ble_eq_true rfl⟩ ⟨Nat.zero_le _, Nat.zero_le _⟩ (fun _ => rfl) rfl (fun r4 M4 _ => ?_)
      refine hz_iconst (v := (1 : Int32)) (n := 33) hC dX9_setCurious_32 (by decide +kernel) rfl ?_
      refine hz_icmp_ne (tgt := 40) (n := 36) hC dX9_setCurious_33 (by decide) rfl (fun _ => ?_) (fun _ => ?_)
      · refine hz_iconst (v := (1 : Int32)) (n := 37) hC dX9_setCurious_36 (by decide +kernel) rfl ?_
        refine hz_goto (n := 41) hC dX9_setCurious_37 (by decide) ?_
        exact j41 _ _
      · refine hz_iconst (v := (0 : Int32)) (n := 41) hC dX9_setCurious_40 (by decide +kernel) rfl ?_
        exact j41 _ _
    · refine hz_iconst (v := (0 : Int32)) (n := 21) hC dX9_setCurious_20 (by decide +kernel) rfl ?_
      exact hz_zret hC hr nz_0 dX9_setCurious_21
  refine hz_aload_n (a := 0) (n := 1) hC dX9_setCurious_0 rfl rfl rfl ?_
  refine hz_aload_n (a := 0) (n := 2) hC dX9_setCurious_1 rfl rfl rfl ?_
  refine hz_iload_n (a := 1) (n := 3) hC dX9_setCurious_2 rfl rfl rfl ?_
  refine hz_callV (k := 1) (As := [.int a0]) (st := [.ref (adr 13 0)]) (S1 := fun r => .int r :: [.ref (adr 13 0)]) (n := 6) hC (c_X9_isFlat l a0   M) kv_X9_isFlat wd_7_213 hI dX9_setCurious_3 rfl (hI 0 (by decide)) he_X9 rfl rfl rfl (Nat.le_of_ble_eq_true rfl) ⟨Nat.le_of_ble_eq_true rfl, Nat.le_of_ble_eq_true rfl⟩ ⟨Nat.zero_le _, Nat.zero_le _⟩ (fun _ => rfl) rfl (fun r1 M1 _ => ?_)
  refine hz_if_ne (tgt := 13) (n := 9) hC dX9_setCurious_6 (by decide) rfl (fun _ => ?_) (fun _ => ?_)
  · refine hz_iconst (v := (1 : Int32)) (n := 10) hC dX9_setCurious_9 (by decide +kernel) rfl ?_
    refine hz_goto (n := 14) hC dX9_setCurious_10 (by decide) ?_
    exact j14 _ _
  · refine hz_iconst (v := (0 : Int32)) (n := 14) hC dX9_setCurious_13 (by decide +kernel) rfl ?_
    exact j14 _ _
def A_X9_set_30 (a0 : Int32) (a1 : Int32)  (z30_0 : Int32) (M : hp_M) : Option (Int32 × hp_M) := (hp_b (F_X9_throwsOne z30_0 M) (fun r2 M2 => (if r2 = 0 then (hp_b (F_X9_begins M2) (fun _ M3 => (if ((7 : Int32) + a0) < 0 ∨ 242 ≤ (((7 : Int32) + a0)).toNatClampNeg then none else (if ((7 : Int32) + a0) < 0 ∨ 242 ≤ (((7 : Int32) + a0)).toNatClampNeg then none else (hp_b (F_X9_remember (M3 13 1 (((7 : Int32) + a0)).toNatClampNeg) (hp_p M3 13 1 (((7 : Int32) + a0)).toNatClampNeg a1)) (fun r4 M4 => (some (r4, M4)))))))) else (some ((0 : Int32), M2)))))
def A_X9_set_25 (a0 : Int32) (a1 : Int32)   (M : hp_M) : Option (Int32 × hp_M) := (A_X9_set_30 a0 a1 (1 : Int32) M)
def F_X9_set (a0 : Int32) (a1 : Int32) (M : hp_M) : Option (Int32 × hp_M) := (hp_b (F_X9_in a0 (0 : Int32) (5 : Int32) M) (fun r1 M1 => (if r1 = 0 then (A_X9_set_25 a0 a1 M1) else (hp_b (F_X9_leastOf a0 M1) (fun r5 M5 => (hp_b (F_X9_mostOf a0 M5) (fun r6 M6 => (hp_b (F_X9_in a1 r5 r6 M6) (fun r7 M7 => (if r7 = 0 then (A_X9_set_25 a0 a1 M7) else (A_X9_set_30 a0 a1 (0 : Int32) M7)))))))))))
set_option maxRecDepth 20000 in
set_option maxHeartbeats 4000000 in
theorem c_X9_set (l : Launch) (a0 : Int32) (a1 : Int32)  (M : hp_M) : hp_Ct l yX9_set cX9_set 4 (some .int) 1 hp_IR (fun adr adV => [.ref (adr 13 0), .int a0, .int a1]) hp_oi M (F_X9_set a0 a1 M) := by
  refine hp_start "HallPhoneModel" (fun adr adV => [(0, .ref (adr 13 0)), (1, .int a0), (2, .int a1)]) (by decide) rfl (fun _ _ => by simp only [lg_sl]; exact Nat.le_of_ble_eq_true rfl) (fun _ _ => rfl) ?_
  intro p e s m args below meth c A D ids adr adV cA rep G0 hI hC hr
  unfold F_X9_set
  have j30 : ∀ (z30_0 : Int32) (M : hp_M), hp_Z p l e (hp_rm 1) s m args below meth c 4 A D ids adr adV cA 0 0 (MQ below (hp_Q A D ids adr adV cA rep hp_oi G0) args s 0 0 A) G0 rep 30 [(0, .ref (adr 13 0)), (1, .int a0), (2, .int a1)] [.int z30_0, .ref (adr 13 0)] M (A_X9_set_30 a0 a1 z30_0 M) := by
    intro z30_0 M
    unfold A_X9_set_30
    refine hz_callV (k := 1) (As := [.int z30_0]) (st := []) (S1 := fun r => .int r :: []) (n := 33) hC (c_X9_throwsOne l z30_0   M) kv_X9_throwsOne wd_7_181 hI dX9_set_30 rfl (hI 0 (by decide)) he_X9 rfl rfl rfl (Nat.le_of_ble_eq_true rfl) ⟨Nat.le_of_ble_eq_true rfl, Nat.le_of_ble_eq_true rfl⟩ ⟨Nat.zero_le _, Nat.zero_le _⟩ (fun _ => rfl) rfl (fun r2 M2 _ => ?_)
    refine hz_if_eq (tgt := 38) (n := 36) hC dX9_set_33 (by decide) rfl (fun _ => ?_) (fun _ => ?_)
    · refine hz_aload_n (a := 0) (n := 39) hC dX9_set_38 rfl rfl rfl ?_
      refine hz_callV (k := 0) (As := []) (st := []) (S1 := fun _ => []) (n := 42) hC (c_X9_begins l    M2) kv_X9_begins wd_8_136 hI dX9_set_39 rfl (hI 0 (by decide)) he_X9 rfl rfl rfl (Nat.le_of_ble_eq_true rfl) ⟨Nat.le_of_ble_eq_true rfl, Nat.le_of_ble_eq_true rfl⟩ ⟨Nat.zero_le _, Nat.zero_le _⟩ (fun _ => rfl) rfl (fun r3 M3 _ => ?_)
      refine hz_aload_n (a := 0) (n := 43) hC dX9_set_42 rfl rfl rfl ?_
      refine fg_X9_7 (n := 46) hC hI dX9_set_43 rfl ?_
      refine hz_bipush (v := (7 : Int32)) (n := 48) hC dX9_set_46 (by decide +kernel) rfl ?_
      refine hz_iload_n (a := 1) (n := 49) hC dX9_set_48 rfl rfl rfl ?_
      refine hz_iadd (n := 50) hC dX9_set_49 rfl ?_
      refine hz_iald (n := 51) hC dX9_set_50 (hI 1 (by decide)) ha_m1 rfl (fun _ => ?_)
      refine hz_istore_n (L' := [(3, .int (M3 13 1 (((7 : Int32) + a0)).toNatClampNeg)), (0, .ref (adr 13 0)), (1, .int a0), (2, .int a1)]) (n := 52) hC dX9_set_51 rfl (by decide) rfl rfl ?_
      refine hz_aload_n (a := 1) (n := 53) hC dX9_set_52 rfl rfl rfl ?_
      refine fg_X9_7 (n := 56) hC hI dX9_set_53 rfl ?_
      refine hz_bipush (v := (7 : Int32)) (n := 58) hC dX9_set_56 (by decide +kernel) rfl ?_
      refine hz_iload_n (a := 2) (n := 59) hC dX9_set_58 rfl rfl rfl ?_
      refine hz_iadd (n := 60) hC dX9_set_59 rfl ?_
      refine hz_iload_n (a := 3) (n := 61) hC dX9_set_60 rfl rfl rfl ?_
      refine hz_iast (n := 62) hC dX9_set_61 (hI 1 (by decide)) ha_m1 rfl (fun _ => ?_)
      refine hz_aload_n (a := 1) (n := 63) hC dX9_set_62 rfl rfl rfl ?_
      refine hz_iload_n (a := 0) (n := 64) hC dX9_set_63 rfl rfl rfl ?_
      refine hz_callV (k := 1) (As := [.int (M3 13 1 (((7 : Int32) + a0)).toNatClampNeg)]) (st := []) (S1 := fun r => .int r :: []) (n := 67) hC (c_X9_remember l (M3 13 1 (((7 : Int32) + a0)).toNatClampNeg)   (hp_p M3 13 1 (((7 : Int32) + a0)).toNatClampNeg a1)) kv_X9_remember wd_8_140 hI dX9_set_64 rfl (hI 0 (by decide)) he_X9 rfl rfl rfl (Nat.le_of_ble_eq_true rfl) ⟨Nat.le_of_ble_eq_true rfl, Nat.le_of_ble_eq_true rfl⟩ ⟨Nat.zero_le _, Nat.zero_le _⟩ (fun _ => rfl) rfl (fun r4 M4 _ => ?_)
      exact hz_iret hC hr dX9_set_67
    · refine hz_iconst (v := (0 : Int32)) (n := 37) hC dX9_set_36 (by decide +kernel) rfl ?_
      exact hz_iret hC hr dX9_set_37
  have j25 : ∀  (M : hp_M), hp_Z p l e (hp_rm 1) s m args below meth c 4 A D ids adr adV cA 0 0 (MQ below (hp_Q A D ids adr adV cA rep hp_oi G0) args s 0 0 A) G0 rep 25 [(0, .ref (adr 13 0)), (1, .int a0), (2, .int a1)] [.ref (adr 13 0)] M (A_X9_set_25 a0 a1  M) := by
    intro  M
    unfold A_X9_set_25
    refine hz_iconst (v := (1 : Int32)) (n := 26) hC dX9_set_25 (by decide +kernel) rfl ?_
    refine hz_goto (n := 30) hC dX9_set_26 (by decide) ?_
    exact j30 _ _
  refine hz_aload_n (a := 0) (n := 1) hC dX9_set_0 rfl rfl rfl ?_
  refine hz_iload_n (a := 1) (n := 2) hC dX9_set_1 rfl rfl rfl ?_
  refine hz_iconst (v := (0 : Int32)) (n := 3) hC dX9_set_2 (by decide +kernel) rfl ?_
  refine hz_iconst (v := (5 : Int32)) (n := 4) hC dX9_set_3 (by decide +kernel) rfl ?_
  refine hz_callS (k := 3) (As := [.int a0, .int (0 : Int32), .int (5 : Int32)]) (st := [.ref (adr 13 0)]) (S1 := fun r => .int r :: [.ref (adr 13 0)]) (n := 7) hC (c_X9_in l a0 (0 : Int32) (5 : Int32)   M) ks_X9_in wd_6_198 hI dX9_set_4 rfl rfl rfl (Nat.le_of_ble_eq_true rfl) ⟨Nat.le_of_ble_eq_true rfl, Nat.le_of_ble_eq_true rfl⟩ ⟨Nat.zero_le _, Nat.zero_le _⟩ (fun _ => rfl) rfl (fun r1 M1 _ => ?_)
  refine hz_if_eq (tgt := 25) (n := 10) hC dX9_set_7 (by decide) rfl (fun _ => ?_) (fun _ => ?_)
  · exact j25 _
  · refine hz_iload_n (a := 2) (n := 11) hC dX9_set_10 rfl rfl rfl ?_
    refine hz_iload_n (a := 1) (n := 12) hC dX9_set_11 rfl rfl rfl ?_
    refine hz_callS (k := 1) (As := [.int a0]) (st := [.int a1, .ref (adr 13 0)]) (S1 := fun r => .int r :: [.int a1, .ref (adr 13 0)]) (n := 15) hC (c_X9_leastOf l a0   M1) ks_X9_leastOf wd_6_224 hI dX9_set_12 rfl rfl rfl (Nat.le_of_ble_eq_true rfl) ⟨Nat.le_of_ble_eq_true rfl, Nat.le_of_ble_eq_true rfl⟩ ⟨Nat.zero_le _, Nat.zero_le _⟩ (fun _ => rfl) rfl (fun r5 M5 _ => ?_)
    refine hz_iload_n (a := 1) (n := 16) hC dX9_set_15 rfl rfl rfl ?_
    refine hz_callS (k := 1) (As := [.int a0]) (st := [.int r5, .int a1, .ref (adr 13 0)]) (S1 := fun r => .int r :: [.int r5, .int a1, .ref (adr 13 0)]) (n := 19) hC (c_X9_mostOf l a0   M5) ks_X9_mostOf wd_6_227 hI dX9_set_16 rfl rfl rfl (Nat.le_of_ble_eq_true rfl) ⟨Nat.le_of_ble_eq_true rfl, Nat.le_of_ble_eq_true rfl⟩ ⟨Nat.zero_le _, Nat.zero_le _⟩ (fun _ => rfl) rfl (fun r6 M6 _ => ?_)
    refine hz_callS (k := 3) (As := [.int a1, .int r5, .int r6]) (st := [.ref (adr 13 0)]) (S1 := fun r => .int r :: [.ref (adr 13 0)]) (n := 22) hC (c_X9_in l a1 r5 r6   M6) ks_X9_in wd_6_198 hI dX9_set_19 rfl rfl rfl (Nat.le_of_ble_eq_true rfl) ⟨Nat.le_of_ble_eq_true rfl, Nat.le_of_ble_eq_true rfl⟩ ⟨Nat.zero_le _, Nat.zero_le _⟩ (fun _ => rfl) rfl (fun r7 M7 _ => ?_)
    refine hz_if_ne (tgt := 29) (n := 25) hC dX9_set_22 (by decide) rfl (fun _ => ?_) (fun _ => ?_)
    · exact j25 _
    · refine hz_iconst (v := (0 : Int32)) (n := 30) hC dX9_set_29 (by decide +kernel) rfl ?_
      exact j30 _ _
def A_X9_pass_17 (a0 : Int32)  (z17_0 : Int32) (M : hp_M) : Option (Int32 × hp_M) := (hp_b (F_X9_throwsOne z17_0 M) (fun r2 M2 => (if r2 = 0 then (hp_b (F_X9_begins M2) (fun _ M3 => (hp_b (F_X9_minutes a0 M3) (fun r4 M4 => (hp_b (F_X9_remember r4 M4) (fun r5 M5 => (some (r5, M5)))))))) else (some ((0 : Int32), M2)))))
def F_X9_pass (a0 : Int32) (M : hp_M) : Option (Int32 × hp_M) := (hp_b (F_X9_in a0 (1 : Int32) (999 : Int32) M) (fun r1 M1 => (if r1 = 0 then (A_X9_pass_17 a0 (1 : Int32) M1) else (A_X9_pass_17 a0 (0 : Int32) M1))))
set_option maxRecDepth 20000 in
set_option maxHeartbeats 4000000 in
theorem c_X9_pass (l : Launch) (a0 : Int32)  (M : hp_M) : hp_Ct l yX9_pass cX9_pass 2 (some .int) 5 hp_IR (fun adr adV => [.ref (adr 13 0), .int a0]) hp_oi M (F_X9_pass a0 M) := by
  refine hp_start "HallPhoneModel" (fun adr adV => [(0, .ref (adr 13 0)), (1, .int a0)]) (by decide) rfl (fun _ _ => by simp only [lg_sl]; exact Nat.le_of_ble_eq_true rfl) (fun _ _ => rfl) ?_
  intro p e s m args below meth c A D ids adr adV cA rep G0 hI hC hr
  unfold F_X9_pass
  have j17 : ∀ (z17_0 : Int32) (M : hp_M), hp_Z p l e (hp_rm 5) s m args below meth c 2 A D ids adr adV cA 0 0 (MQ below (hp_Q A D ids adr adV cA rep hp_oi G0) args s 0 0 A) G0 rep 17 [(0, .ref (adr 13 0)), (1, .int a0)] [.int z17_0, .ref (adr 13 0)] M (A_X9_pass_17 a0 z17_0 M) := by
    intro z17_0 M
    unfold A_X9_pass_17
    refine hz_callV (k := 1) (As := [.int z17_0]) (st := []) (S1 := fun r => .int r :: []) (n := 20) hC (c_X9_throwsOne l z17_0   M) kv_X9_throwsOne wd_7_181 hI dX9_pass_17 rfl (hI 0 (by decide)) he_X9 rfl rfl rfl (Nat.le_of_ble_eq_true rfl) ⟨Nat.le_of_ble_eq_true rfl, Nat.le_of_ble_eq_true rfl⟩ ⟨Nat.zero_le _, Nat.zero_le _⟩ (fun _ => rfl) rfl (fun r2 M2 _ => ?_)
    refine hz_if_eq (tgt := 25) (n := 23) hC dX9_pass_20 (by decide) rfl (fun _ => ?_) (fun _ => ?_)
    · refine hz_aload_n (a := 0) (n := 26) hC dX9_pass_25 rfl rfl rfl ?_
      refine hz_callV (k := 0) (As := []) (st := []) (S1 := fun _ => []) (n := 29) hC (c_X9_begins l    M2) kv_X9_begins wd_8_136 hI dX9_pass_26 rfl (hI 0 (by decide)) he_X9 rfl rfl rfl (Nat.le_of_ble_eq_true rfl) ⟨Nat.le_of_ble_eq_true rfl, Nat.le_of_ble_eq_true rfl⟩ ⟨Nat.zero_le _, Nat.zero_le _⟩ (fun _ => rfl) rfl (fun r3 M3 _ => ?_)
      refine hz_aload_n (a := 0) (n := 30) hC dX9_pass_29 rfl rfl rfl ?_
      refine hz_aload_n (a := 0) (n := 31) hC dX9_pass_30 rfl rfl rfl ?_
      refine hz_iload_n (a := 1) (n := 32) hC dX9_pass_31 rfl rfl rfl ?_
      refine hz_callV (k := 1) (As := [.int a0]) (st := [.ref (adr 13 0)]) (S1 := fun r => .int r :: [.ref (adr 13 0)]) (n := 35) hC (c_X9_minutes l a0   M3) kv_X9_minutes wd_7_76 hI dX9_pass_32 rfl (hI 0 (by decide)) he_X9 rfl rfl rfl (Nat.le_of_ble_eq_true rfl) ⟨Nat.le_of_ble_eq_true rfl, Nat.le_of_ble_eq_true rfl⟩ ⟨Nat.zero_le _, Nat.zero_le _⟩ (fun _ => rfl) rfl (fun r4 M4 _ => ?_)
      refine hz_callV (k := 1) (As := [.int r4]) (st := []) (S1 := fun r => .int r :: []) (n := 38) hC (c_X9_remember l r4   M4) kv_X9_remember wd_8_140 hI dX9_pass_35 rfl (hI 0 (by decide)) he_X9 rfl rfl rfl (Nat.le_of_ble_eq_true rfl) ⟨Nat.le_of_ble_eq_true rfl, Nat.le_of_ble_eq_true rfl⟩ ⟨Nat.zero_le _, Nat.zero_le _⟩ (fun _ => rfl) rfl (fun r5 M5 _ => ?_)
      exact hz_iret hC hr dX9_pass_38
    · refine hz_iconst (v := (0 : Int32)) (n := 24) hC dX9_pass_23 (by decide +kernel) rfl ?_
      exact hz_iret hC hr dX9_pass_24
  refine hz_aload_n (a := 0) (n := 1) hC dX9_pass_0 rfl rfl rfl ?_
  refine hz_iload_n (a := 1) (n := 2) hC dX9_pass_1 rfl rfl rfl ?_
  refine hz_iconst (v := (1 : Int32)) (n := 3) hC dX9_pass_2 (by decide +kernel) rfl ?_
  refine hz_sipush (v := (999 : Int32)) (n := 6) hC dX9_pass_3 (by decide +kernel) rfl ?_
  refine hz_callS (k := 3) (As := [.int a0, .int (1 : Int32), .int (999 : Int32)]) (st := [.ref (adr 13 0)]) (S1 := fun r => .int r :: [.ref (adr 13 0)]) (n := 9) hC (c_X9_in l a0 (1 : Int32) (999 : Int32)   M) ks_X9_in wd_6_198 hI dX9_pass_6 rfl rfl rfl (Nat.le_of_ble_eq_true rfl) ⟨Nat.le_of_ble_eq_true rfl, Nat.le_of_ble_eq_true rfl⟩ ⟨Nat.zero_le _, Nat.zero_le _⟩ (fun _ => rfl) rfl (fun r1 M1 _ => ?_)
  refine hz_if_ne (tgt := 16) (n := 12) hC dX9_pass_9 (by decide) rfl (fun _ => ?_) (fun _ => ?_)
  · refine hz_iconst (v := (1 : Int32)) (n := 13) hC dX9_pass_12 (by decide +kernel) rfl ?_
    refine hz_goto (n := 17) hC dX9_pass_13 (by decide) ?_
    exact j17 _ _
  · refine hz_iconst (v := (0 : Int32)) (n := 17) hC dX9_pass_16 (by decide +kernel) rfl ?_
    exact j17 _ _
def L_X9_undo_26    : Nat → Int32 → hp_M → Option (Int32 × hp_M)
  | 0, _, _ => none
  | n26 + 1, x1, M => (if (242 : Int32) ≤ x1 then (some ((M 13 0 5), M)) else (if (((242 : Int32) * (M 13 0 5)) + x1) < 0 ∨ 1936 ≤ ((((242 : Int32) * (M 13 0 5)) + x1)).toNatClampNeg then none else (if x1 < 0 ∨ 242 ≤ (x1).toNatClampNeg then none else (L_X9_undo_26  n26 (x1 + (1 : Int32)) (hp_p M 13 1 (x1).toNatClampNeg (M 13 4 ((((242 : Int32) * (M 13 0 5)) + x1)).toNatClampNeg))))))
def F_X9_undo  (M : hp_M) : Option (Int32 × hp_M) := (if ((hp_p M 13 0 13 (0 : Int32)) 13 0 5) = 0 then (some ((-1 : Int32), (hp_p M 13 0 13 (0 : Int32)))) else (L_X9_undo_26 hp_fu (0 : Int32) (hp_p (hp_p M 13 0 13 (0 : Int32)) 13 0 5 (((hp_p M 13 0 13 (0 : Int32)) 13 0 5) - (1 : Int32)))))
set_option maxRecDepth 20000 in
set_option maxHeartbeats 4000000 in
theorem c_X9_undo (l : Launch)   (M : hp_M) : hp_Ct l yX9_undo cX9_undo 2 (some .int) 0 hp_IR (fun adr adV => [.ref (adr 13 0)]) hp_oi M (F_X9_undo  M) := by
  refine hp_start "HallPhoneModel" (fun adr adV => [(0, .ref (adr 13 0))]) (by decide) rfl (fun _ _ => by simp only [lg_sl]; exact Nat.le_of_ble_eq_true rfl) (fun _ _ => rfl) ?_
  intro p e s m args below meth c A D ids adr adV cA rep G0 hI hC hr
  unfold F_X9_undo
  have l26 : ∀  (n26 : Nat) (x1 : Int32) (M : hp_M), hp_Z p l e (hp_rm 0) s m args below meth c 2 A D ids adr adV cA 0 0 (MQ below (hp_Q A D ids adr adV cA rep hp_oi G0) args s 0 0 A) G0 rep 26 [(0, .ref (adr 13 0)), (1, .int x1)] [] M (L_X9_undo_26  n26 x1 M) := by
    intro  n26
    induction n26 with
    | zero => intro x1 M; exact hz_none hC
    | succ n26 ih26 =>
      intro x1 M
      rw [L_X9_undo_26.eq_2]
      refine hz_iload_n (a := 1) (n := 27) hC dX9_undo_26 rfl rfl rfl ?_
      refine hz_sipush (v := (242 : Int32)) (n := 30) hC dX9_undo_27 (by decide +kernel) rfl ?_
      refine hz_icmp_ge (tgt := 60) (n := 33) hC dX9_undo_30 (by decide) rfl (fun _ => ?_) (fun _ => ?_)
      · refine hz_aload_n (a := 0) (n := 61) hC dX9_undo_60 rfl rfl rfl ?_
        refine fg_X9_250 (n := 64) hC hI dX9_undo_61 rfl ?_
        exact hz_iret hC hr dX9_undo_64
      · refine hz_aload_n (a := 0) (n := 34) hC dX9_undo_33 rfl rfl rfl ?_
        refine fg_X9_7 (n := 37) hC hI dX9_undo_34 rfl ?_
        refine hz_iload_n (a := 1) (n := 38) hC dX9_undo_37 rfl rfl rfl ?_
        refine hz_aload_n (a := 0) (n := 39) hC dX9_undo_38 rfl rfl rfl ?_
        refine fg_X9_19 (n := 42) hC hI dX9_undo_39 rfl ?_
        refine hz_sipush (v := (242 : Int32)) (n := 45) hC dX9_undo_42 (by decide +kernel) rfl ?_
        refine hz_aload_n (a := 0) (n := 46) hC dX9_undo_45 rfl rfl rfl ?_
        refine fg_X9_250 (n := 49) hC hI dX9_undo_46 rfl ?_
        refine hz_imul (n := 50) hC dX9_undo_49 rfl ?_
        refine hz_iload_n (a := 1) (n := 51) hC dX9_undo_50 rfl rfl rfl ?_
        refine hz_iadd (n := 52) hC dX9_undo_51 rfl ?_
        refine hz_iald (n := 53) hC dX9_undo_52 (hI 4 (by decide)) ha_m4 rfl (fun _ => ?_)
        refine hz_iast (n := 54) hC dX9_undo_53 (hI 1 (by decide)) ha_m1 rfl (fun _ => ?_)
        refine hz_iinc (a := 1) (v := (x1 + (1 : Int32))) (L' := [(1, .int (x1 + (1 : Int32))), (0, .ref (adr 13 0))]) (n := 57) hC dX9_undo_54 rfl rfl (by decide) rfl rfl ?_
        refine hz_goto (n := 26) hC dX9_undo_57 (by decide) ?_
        refine hz_L (L' := [(0, .ref (adr 13 0)), (1, .int (x1 + (1 : Int32)))]) [1, 0] rfl ?_
        exact ih26 _ _
  refine hz_aload_n (a := 0) (n := 1) hC dX9_undo_0 rfl rfl rfl ?_
  refine hz_iconst (v := (0 : Int32)) (n := 2) hC dX9_undo_1 (by decide +kernel) rfl ?_
  refine fp_X9_42 (n := 5) hC hI (0 : Int32) dX9_undo_2 rfl ?_
  refine hz_aload_n (a := 0) (n := 6) hC dX9_undo_5 rfl rfl rfl ?_
  refine fg_X9_250 (n := 9) hC hI dX9_undo_6 rfl ?_
  refine hz_if_ne (tgt := 14) (n := 12) hC dX9_undo_9 (by decide) rfl (fun _ => ?_) (fun _ => ?_)
  · refine hz_iconst (v := (-1 : Int32)) (n := 13) hC dX9_undo_12 (by decide +kernel) rfl ?_
    exact hz_iret hC hr dX9_undo_13
  · refine hz_aload_n (a := 0) (n := 15) hC dX9_undo_14 rfl rfl rfl ?_
    refine hz_dup (n := 16) hC dX9_undo_15 rfl rfl ?_
    refine fg_X9_250 (n := 19) hC hI dX9_undo_16 rfl ?_
    refine hz_iconst (v := (1 : Int32)) (n := 20) hC dX9_undo_19 (by decide +kernel) rfl ?_
    refine hz_isub (n := 21) hC dX9_undo_20 rfl ?_
    refine fp_X9_250 (n := 24) hC hI (((hp_p M 13 0 13 (0 : Int32)) 13 0 5) - (1 : Int32)) dX9_undo_21 rfl ?_
    refine hz_iconst (v := (0 : Int32)) (n := 25) hC dX9_undo_24 (by decide +kernel) rfl ?_
    refine hz_istore_n (L' := [(1, .int (0 : Int32)), (0, .ref (adr 13 0))]) (n := 26) hC dX9_undo_25 rfl (by decide) rfl rfl ?_
    refine hz_L (L' := [(0, .ref (adr 13 0)), (1, .int (0 : Int32))]) [1, 0] rfl ?_
    exact l26 hp_fu _ _
def L_X9_saveSnapshot_55 (a0 : Int32)  (k55_2 : Int32) : Nat → Int32 → hp_M → Option (Int32 × hp_M)
  | 0, _, _ => none
  | n55 + 1, x3, M => (if (242 : Int32) ≤ x3 then (if k55_2 = 0 ∨ k55_2 = 1 then some (k55_2, M) else none) else (if x3 < 0 ∨ 242 ≤ (x3).toNatClampNeg then none else (if (((242 : Int32) * a0) + x3) < 0 ∨ 484 ≤ ((((242 : Int32) * a0) + x3)).toNatClampNeg then none else (L_X9_saveSnapshot_55 a0 k55_2 n55 (x3 + (1 : Int32)) (hp_p M 13 5 ((((242 : Int32) * a0) + x3)).toNatClampNeg (M 13 1 (x3).toNatClampNeg))))))
def A_X9_saveSnapshot_40 (a0 : Int32)  (z40_0 : Int32) (M : hp_M) : Option (Int32 × hp_M) := (L_X9_saveSnapshot_55 a0 z40_0 hp_fu (0 : Int32) (hp_p M 13 0 6 ((M 13 0 6) ||| ((1 : Int32) <<< (a0 &&& 31)))))
def A_X9_saveSnapshot_15 (a0 : Int32)  (z15_0 : Int32) (M : hp_M) : Option (Int32 × hp_M) := (hp_b (F_X9_throwsOne z15_0 M) (fun r2 M2 => (if r2 = 0 then (if (((M2 13 0 6) >>> (a0 &&& 31)) &&& (1 : Int32)) = (1 : Int32) then (A_X9_saveSnapshot_40 a0 (1 : Int32) M2) else (A_X9_saveSnapshot_40 a0 (0 : Int32) M2)) else (some ((0 : Int32), M2)))))
def F_X9_saveSnapshot (a0 : Int32) (M : hp_M) : Option (Int32 × hp_M) := (hp_b (F_X9_in a0 (0 : Int32) (1 : Int32) M) (fun r1 M1 => (if r1 = 0 then (A_X9_saveSnapshot_15 a0 (1 : Int32) M1) else (A_X9_saveSnapshot_15 a0 (0 : Int32) M1))))
set_option maxRecDepth 20000 in
set_option maxHeartbeats 4000000 in
theorem c_X9_saveSnapshot (l : Launch) (a0 : Int32)  (M : hp_M) : hp_Ct l yX9_saveSnapshot cX9_saveSnapshot 4 (some .boolean) 1 hp_IR (fun adr adV => [.ref (adr 13 0), .int a0]) hp_oi M (F_X9_saveSnapshot a0 M) := by
  refine hp_start "HallPhoneModel" (fun adr adV => [(0, .ref (adr 13 0)), (1, .int a0)]) (by decide) rfl (fun _ _ => by simp only [lg_sl]; exact Nat.le_of_ble_eq_true rfl) (fun _ _ => rfl) ?_
  intro p e s m args below meth c A D ids adr adV cA rep G0 hI hC hr
  unfold F_X9_saveSnapshot
  have l55 : ∀ (k55_2 : Int32) (n55 : Nat) (x3 : Int32) (M : hp_M), hp_Z p l e (hp_rm 1) s m args below meth c 4 A D ids adr adV cA 0 0 (MQ below (hp_Q A D ids adr adV cA rep hp_oi G0) args s 0 0 A) G0 rep 55 [(0, .ref (adr 13 0)), (1, .int a0), (2, .int k55_2), (3, .int x3)] [] M (L_X9_saveSnapshot_55 a0 k55_2 n55 x3 M) := by
    intro k55_2 n55
    induction n55 with
    | zero => intro x3 M; exact hz_none hC
    | succ n55 ih55 =>
      intro x3 M
      rw [L_X9_saveSnapshot_55.eq_2]
      refine hz_iload_n (a := 3) (n := 56) hC dX9_saveSnapshot_55 rfl rfl rfl ?_
      refine hz_sipush (v := (242 : Int32)) (n := 59) hC dX9_saveSnapshot_56 (by decide +kernel) rfl ?_
      refine hz_icmp_ge (tgt := 86) (n := 62) hC dX9_saveSnapshot_59 (by decide) rfl (fun _ => ?_) (fun _ => ?_)
      · refine hz_iload_n (a := 2) (n := 87) hC dX9_saveSnapshot_86 rfl rfl rfl ?_
        exact hz_bret hC hr dX9_saveSnapshot_87
      · refine hz_aload_n (a := 0) (n := 63) hC dX9_saveSnapshot_62 rfl rfl rfl ?_
        refine fg_X9_22 (n := 66) hC hI dX9_saveSnapshot_63 rfl ?_
        refine hz_sipush (v := (242 : Int32)) (n := 69) hC dX9_saveSnapshot_66 (by decide +kernel) rfl ?_
        refine hz_iload_n (a := 1) (n := 70) hC dX9_saveSnapshot_69 rfl rfl rfl ?_
        refine hz_imul (n := 71) hC dX9_saveSnapshot_70 rfl ?_
        refine hz_iload_n (a := 3) (n := 72) hC dX9_saveSnapshot_71 rfl rfl rfl ?_
        refine hz_iadd (n := 73) hC dX9_saveSnapshot_72 rfl ?_
        refine hz_aload_n (a := 0) (n := 74) hC dX9_saveSnapshot_73 rfl rfl rfl ?_
        refine fg_X9_7 (n := 77) hC hI dX9_saveSnapshot_74 rfl ?_
        refine hz_iload_n (a := 3) (n := 78) hC dX9_saveSnapshot_77 rfl rfl rfl ?_
        refine hz_iald (n := 79) hC dX9_saveSnapshot_78 (hI 1 (by decide)) ha_m1 rfl (fun _ => ?_)
        refine hz_iast (n := 80) hC dX9_saveSnapshot_79 (hI 5 (by decide)) ha_m5 rfl (fun _ => ?_)
        refine hz_iinc (a := 3) (v := (x3 + (1 : Int32))) (L' := [(3, .int (x3 + (1 : Int32))), (0, .ref (adr 13 0)), (1, .int a0), (2, .int k55_2)]) (n := 83) hC dX9_saveSnapshot_80 rfl rfl (by decide) rfl rfl ?_
        refine hz_goto (n := 55) hC dX9_saveSnapshot_83 (by decide) ?_
        refine hz_L (L' := [(0, .ref (adr 13 0)), (1, .int a0), (2, .int k55_2), (3, .int (x3 + (1 : Int32)))]) [1, 2, 3, 0] rfl ?_
        exact ih55 _ _
  have j40 : ∀ (z40_0 : Int32) (M : hp_M), hp_Z p l e (hp_rm 1) s m args below meth c 4 A D ids adr adV cA 0 0 (MQ below (hp_Q A D ids adr adV cA rep hp_oi G0) args s 0 0 A) G0 rep 40 [(0, .ref (adr 13 0)), (1, .int a0)] [.int z40_0] M (A_X9_saveSnapshot_40 a0 z40_0 M) := by
    intro z40_0 M
    unfold A_X9_saveSnapshot_40
    refine hz_istore_n (L' := [(2, .int z40_0), (0, .ref (adr 13 0)), (1, .int a0)]) (n := 41) hC dX9_saveSnapshot_40 rfl (by decide) rfl rfl ?_
    refine hz_aload_n (a := 1) (n := 42) hC dX9_saveSnapshot_41 rfl rfl rfl ?_
    refine hz_dup (n := 43) hC dX9_saveSnapshot_42 rfl rfl ?_
    refine fg_X9_253 (n := 46) hC hI dX9_saveSnapshot_43 rfl ?_
    refine hz_iconst (v := (1 : Int32)) (n := 47) hC dX9_saveSnapshot_46 (by decide +kernel) rfl ?_
    refine hz_iload_n (a := 2) (n := 48) hC dX9_saveSnapshot_47 rfl rfl rfl ?_
    refine hz_ishl (n := 49) hC dX9_saveSnapshot_48 rfl ?_
    refine hz_ior (n := 50) hC dX9_saveSnapshot_49 rfl ?_
    refine fp_X9_253 (n := 53) hC hI ((M 13 0 6) ||| ((1 : Int32) <<< (a0 &&& 31))) dX9_saveSnapshot_50 rfl ?_
    refine hz_iconst (v := (0 : Int32)) (n := 54) hC dX9_saveSnapshot_53 (by decide +kernel) rfl ?_
    refine hz_istore_n (L' := [(3, .int (0 : Int32)), (2, .int z40_0), (0, .ref (adr 13 0)), (1, .int a0)]) (n := 55) hC dX9_saveSnapshot_54 rfl (by decide) rfl rfl ?_
    refine hz_L (L' := [(0, .ref (adr 13 0)), (1, .int a0), (2, .int z40_0), (3, .int (0 : Int32))]) [2, 3, 1, 0] rfl ?_
    exact l55 _ hp_fu _ _
  have j15 : ∀ (z15_0 : Int32) (M : hp_M), hp_Z p l e (hp_rm 1) s m args below meth c 4 A D ids adr adV cA 0 0 (MQ below (hp_Q A D ids adr adV cA rep hp_oi G0) args s 0 0 A) G0 rep 15 [(0, .ref (adr 13 0)), (1, .int a0)] [.int z15_0, .ref (adr 13 0)] M (A_X9_saveSnapshot_15 a0 z15_0 M) := by
    intro z15_0 M
    unfold A_X9_saveSnapshot_15
    refine hz_callV (k := 1) (As := [.int z15_0]) (st := []) (S1 := fun r => .int r :: []) (n := 18) hC (c_X9_throwsOne l z15_0   M) kv_X9_throwsOne wd_7_181 hI dX9_saveSnapshot_15 rfl (hI 0 (by decide)) he_X9 rfl rfl rfl (Nat.le_of_ble_eq_true rfl) ⟨Nat.le_of_ble_eq_true rfl, Nat.le_of_ble_eq_true rfl⟩ ⟨Nat.zero_le _, Nat.zero_le _⟩ (fun _ => rfl) rfl (fun r2 M2 _ => ?_)
    refine hz_if_eq (tgt := 23) (n := 21) hC dX9_saveSnapshot_18 (by decide) rfl (fun _ => ?_) (fun _ => ?_)
    · refine hz_aload_n (a := 0) (n := 24) hC dX9_saveSnapshot_23 rfl rfl rfl ?_
      refine fg_X9_253 (n := 27) hC hI dX9_saveSnapshot_24 rfl ?_
      refine hz_iload_n (a := 1) (n := 28) hC dX9_saveSnapshot_27 rfl rfl rfl ?_
      refine hz_ishr (n := 29) hC dX9_saveSnapshot_28 rfl ?_
      refine hz_iconst (v := (1 : Int32)) (n := 30) hC dX9_saveSnapshot_29 (by decide +kernel) rfl ?_
      refine hz_iand (n := 31) hC dX9_saveSnapshot_30 rfl ?_
      refine hz_iconst (v := (1 : Int32)) (n := 32) hC dX9_saveSnapshot_31 (by decide +kernel) rfl ?_
      refine hz_icmp_ne (tgt := 39) (n := 35) hC dX9_saveSnapshot_32 (by decide) rfl (fun _ => ?_) (fun _ => ?_)
      · refine hz_iconst (v := (1 : Int32)) (n := 36) hC dX9_saveSnapshot_35 (by decide +kernel) rfl ?_
        refine hz_goto (n := 40) hC dX9_saveSnapshot_36 (by decide) ?_
        exact j40 _ _
      · refine hz_iconst (v := (0 : Int32)) (n := 40) hC dX9_saveSnapshot_39 (by decide +kernel) rfl ?_
        exact j40 _ _
    · refine hz_iconst (v := (0 : Int32)) (n := 22) hC dX9_saveSnapshot_21 (by decide +kernel) rfl ?_
      exact hz_zret hC hr nz_0 dX9_saveSnapshot_22
  refine hz_aload_n (a := 0) (n := 1) hC dX9_saveSnapshot_0 rfl rfl rfl ?_
  refine hz_iload_n (a := 1) (n := 2) hC dX9_saveSnapshot_1 rfl rfl rfl ?_
  refine hz_iconst (v := (0 : Int32)) (n := 3) hC dX9_saveSnapshot_2 (by decide +kernel) rfl ?_
  refine hz_iconst (v := (1 : Int32)) (n := 4) hC dX9_saveSnapshot_3 (by decide +kernel) rfl ?_
  refine hz_callS (k := 3) (As := [.int a0, .int (0 : Int32), .int (1 : Int32)]) (st := [.ref (adr 13 0)]) (S1 := fun r => .int r :: [.ref (adr 13 0)]) (n := 7) hC (c_X9_in l a0 (0 : Int32) (1 : Int32)   M) ks_X9_in wd_6_198 hI dX9_saveSnapshot_4 rfl rfl rfl (Nat.le_of_ble_eq_true rfl) ⟨Nat.le_of_ble_eq_true rfl, Nat.le_of_ble_eq_true rfl⟩ ⟨Nat.zero_le _, Nat.zero_le _⟩ (fun _ => rfl) rfl (fun r1 M1 _ => ?_)
  refine hz_if_ne (tgt := 14) (n := 10) hC dX9_saveSnapshot_7 (by decide) rfl (fun _ => ?_) (fun _ => ?_)
  · refine hz_iconst (v := (1 : Int32)) (n := 11) hC dX9_saveSnapshot_10 (by decide +kernel) rfl ?_
    refine hz_goto (n := 15) hC dX9_saveSnapshot_11 (by decide) ?_
    exact j15 _ _
  · refine hz_iconst (v := (0 : Int32)) (n := 15) hC dX9_saveSnapshot_14 (by decide +kernel) rfl ?_
    exact j15 _ _
def L_X9_restoreSnapshot_47 (a0 : Int32)   : Nat → Int32 → hp_M → Option (Int32 × hp_M)
  | 0, _, _ => none
  | n47 + 1, x3, M => (if (242 : Int32) ≤ x3 then (some (((hp_p M 13 0 5 (0 : Int32)) 13 1 1), (hp_p M 13 0 5 (0 : Int32)))) else (if (((242 : Int32) * a0) + x3) < 0 ∨ 484 ≤ ((((242 : Int32) * a0) + x3)).toNatClampNeg then none else (if x3 < 0 ∨ 242 ≤ (x3).toNatClampNeg then none else (L_X9_restoreSnapshot_47 a0 n47 (x3 + (1 : Int32)) (hp_p M 13 1 (x3).toNatClampNeg (M 13 5 ((((242 : Int32) * a0) + x3)).toNatClampNeg))))))
def A_X9_restoreSnapshot_37 (a0 : Int32)  (z37_0 : Int32) (z37_1 : Int32) (M : hp_M) : Option (Int32 × hp_M) := (hp_b (F_X9_throwsOne_ z37_1 z37_0 M) (fun r2 M2 => (if r2 = 0 then (L_X9_restoreSnapshot_47 a0 hp_fu (0 : Int32) M2) else (some ((0 : Int32), M2)))))
def A_X9_restoreSnapshot_36 (a0 : Int32)  (z36_0 : Int32) (M : hp_M) : Option (Int32 × hp_M) := (A_X9_restoreSnapshot_37 a0 (0 : Int32) z36_0 M)
def A_X9_restoreSnapshot_17 (a0 : Int32)  (y17_2 : Int32) (z17_0 : Int32) (M : hp_M) : Option (Int32 × hp_M) := (if y17_2 = 0 then (A_X9_restoreSnapshot_36 a0 z17_0 M) else (if (((M 13 0 6) >>> (a0 &&& 31)) &&& (1 : Int32)) = 0 then (A_X9_restoreSnapshot_37 a0 (1 : Int32) z17_0 M) else (A_X9_restoreSnapshot_36 a0 z17_0 M)))
def F_X9_restoreSnapshot (a0 : Int32) (M : hp_M) : Option (Int32 × hp_M) := (hp_b (F_X9_in a0 (0 : Int32) (1 : Int32) M) (fun r1 M1 => (if r1 = 0 then (A_X9_restoreSnapshot_17 a0 r1 (1 : Int32) M1) else (A_X9_restoreSnapshot_17 a0 r1 (0 : Int32) M1))))
set_option maxRecDepth 20000 in
set_option maxHeartbeats 4000000 in
theorem c_X9_restoreSnapshot (l : Launch) (a0 : Int32)  (M : hp_M) : hp_Ct l yX9_restoreSnapshot cX9_restoreSnapshot 4 (some .int) 1 hp_IR (fun adr adV => [.ref (adr 13 0), .int a0]) hp_oi M (F_X9_restoreSnapshot a0 M) := by
  refine hp_start "HallPhoneModel" (fun adr adV => [(0, .ref (adr 13 0)), (1, .int a0)]) (by decide) rfl (fun _ _ => by simp only [lg_sl]; exact Nat.le_of_ble_eq_true rfl) (fun _ _ => rfl) ?_
  intro p e s m args below meth c A D ids adr adV cA rep G0 hI hC hr
  unfold F_X9_restoreSnapshot
  have l47 : ∀  (n47 : Nat) (x3 : Int32) (M : hp_M), hp_Z p l e (hp_rm 1) s m args below meth c 4 A D ids adr adV cA 0 0 (MQ below (hp_Q A D ids adr adV cA rep hp_oi G0) args s 0 0 A) G0 rep 47 [(0, .ref (adr 13 0)), (1, .int a0), (3, .int x3)] [] M (L_X9_restoreSnapshot_47 a0 n47 x3 M) := by
    intro  n47
    induction n47 with
    | zero => intro x3 M; exact hz_none hC
    | succ n47 ih47 =>
      intro x3 M
      rw [L_X9_restoreSnapshot_47.eq_2]
      refine hz_iload_n (a := 2) (n := 48) hC dX9_restoreSnapshot_47 rfl rfl rfl ?_
      refine hz_sipush (v := (242 : Int32)) (n := 51) hC dX9_restoreSnapshot_48 (by decide +kernel) rfl ?_
      refine hz_icmp_ge (tgt := 78) (n := 54) hC dX9_restoreSnapshot_51 (by decide) rfl (fun _ => ?_) (fun _ => ?_)
      · refine hz_aload_n (a := 0) (n := 79) hC dX9_restoreSnapshot_78 rfl rfl rfl ?_
        refine hz_iconst (v := (0 : Int32)) (n := 80) hC dX9_restoreSnapshot_79 (by decide +kernel) rfl ?_
        refine fp_X9_250 (n := 83) hC hI (0 : Int32) dX9_restoreSnapshot_80 rfl ?_
        refine hz_aload_n (a := 0) (n := 84) hC dX9_restoreSnapshot_83 rfl rfl rfl ?_
        refine fg_X9_7 (n := 87) hC hI dX9_restoreSnapshot_84 rfl ?_
        refine hz_iconst (v := (1 : Int32)) (n := 88) hC dX9_restoreSnapshot_87 (by decide +kernel) rfl ?_
        refine hz_ialdc (k := 1) (n := 89) hC (by decide +kernel) (by decide) dX9_restoreSnapshot_88 (hI 1 (by decide)) ha_m1 rfl ?_
        exact hz_iret hC hr dX9_restoreSnapshot_89
      · refine hz_aload_n (a := 0) (n := 55) hC dX9_restoreSnapshot_54 rfl rfl rfl ?_
        refine fg_X9_7 (n := 58) hC hI dX9_restoreSnapshot_55 rfl ?_
        refine hz_iload_n (a := 2) (n := 59) hC dX9_restoreSnapshot_58 rfl rfl rfl ?_
        refine hz_aload_n (a := 0) (n := 60) hC dX9_restoreSnapshot_59 rfl rfl rfl ?_
        refine fg_X9_22 (n := 63) hC hI dX9_restoreSnapshot_60 rfl ?_
        refine hz_sipush (v := (242 : Int32)) (n := 66) hC dX9_restoreSnapshot_63 (by decide +kernel) rfl ?_
        refine hz_iload_n (a := 1) (n := 67) hC dX9_restoreSnapshot_66 rfl rfl rfl ?_
        refine hz_imul (n := 68) hC dX9_restoreSnapshot_67 rfl ?_
        refine hz_iload_n (a := 2) (n := 69) hC dX9_restoreSnapshot_68 rfl rfl rfl ?_
        refine hz_iadd (n := 70) hC dX9_restoreSnapshot_69 rfl ?_
        refine hz_iald (n := 71) hC dX9_restoreSnapshot_70 (hI 5 (by decide)) ha_m5 rfl (fun _ => ?_)
        refine hz_iast (n := 72) hC dX9_restoreSnapshot_71 (hI 1 (by decide)) ha_m1 rfl (fun _ => ?_)
        refine hz_iinc (a := 2) (v := (x3 + (1 : Int32))) (L' := [(3, .int (x3 + (1 : Int32))), (0, .ref (adr 13 0)), (1, .int a0)]) (n := 75) hC dX9_restoreSnapshot_72 rfl rfl (by decide) rfl rfl ?_
        refine hz_goto (n := 47) hC dX9_restoreSnapshot_75 (by decide) ?_
        refine hz_L (L' := [(0, .ref (adr 13 0)), (1, .int a0), (3, .int (x3 + (1 : Int32)))]) [1, 2, 0] rfl ?_
        exact ih47 _ _
  have j37 : ∀ (z37_0 : Int32) (z37_1 : Int32) (M : hp_M), hp_Z p l e (hp_rm 1) s m args below meth c 4 A D ids adr adV cA 0 0 (MQ below (hp_Q A D ids adr adV cA rep hp_oi G0) args s 0 0 A) G0 rep 37 [(0, .ref (adr 13 0)), (1, .int a0)] [.int z37_0, .int z37_1, .ref (adr 13 0)] M (A_X9_restoreSnapshot_37 a0 z37_0 z37_1 M) := by
    intro z37_0 z37_1 M
    unfold A_X9_restoreSnapshot_37
    refine hz_callV (k := 2) (As := [.int z37_1, .int z37_0]) (st := []) (S1 := fun r => .int r :: []) (n := 40) hC (c_X9_throwsOne_ l z37_1 z37_0   M) kv_X9_throwsOne_ wd_7_217 hI dX9_restoreSnapshot_37 rfl (hI 0 (by decide)) he_X9 rfl rfl rfl (Nat.le_of_ble_eq_true rfl) ⟨Nat.le_of_ble_eq_true rfl, Nat.le_of_ble_eq_true rfl⟩ ⟨Nat.zero_le _, Nat.zero_le _⟩ (fun _ => rfl) rfl (fun r2 M2 _ => ?_)
    refine hz_if_eq (tgt := 45) (n := 43) hC dX9_restoreSnapshot_40 (by decide) rfl (fun _ => ?_) (fun _ => ?_)
    · refine hz_iconst (v := (0 : Int32)) (n := 46) hC dX9_restoreSnapshot_45 (by decide +kernel) rfl ?_
      refine hz_istore_n (L' := [(3, .int (0 : Int32)), (0, .ref (adr 13 0)), (1, .int a0)]) (n := 47) hC dX9_restoreSnapshot_46 rfl (by decide) rfl rfl ?_
      refine hz_L (L' := [(0, .ref (adr 13 0)), (1, .int a0), (3, .int (0 : Int32))]) [1, 2, 0] rfl ?_
      exact l47 hp_fu _ _
    · refine hz_iconst (v := (0 : Int32)) (n := 44) hC dX9_restoreSnapshot_43 (by decide +kernel) rfl ?_
      exact hz_iret hC hr dX9_restoreSnapshot_44
  have j36 : ∀ (z36_0 : Int32) (M : hp_M), hp_Z p l e (hp_rm 1) s m args below meth c 4 A D ids adr adV cA 0 0 (MQ below (hp_Q A D ids adr adV cA rep hp_oi G0) args s 0 0 A) G0 rep 36 [(0, .ref (adr 13 0)), (1, .int a0)] [.int z36_0, .ref (adr 13 0)] M (A_X9_restoreSnapshot_36 a0 z36_0 M) := by
    intro z36_0 M
    unfold A_X9_restoreSnapshot_36
    refine hz_iconst (v := (0 : Int32)) (n := 37) hC dX9_restoreSnapshot_36 (by decide +kernel) rfl ?_
    exact j37 _ _ _
  have j17 : ∀ (y17_2 : Int32) (z17_0 : Int32) (M : hp_M), hp_Z p l e (hp_rm 1) s m args below meth c 4 A D ids adr adV cA 0 0 (MQ below (hp_Q A D ids adr adV cA rep hp_oi G0) args s 0 0 A) G0 rep 17 [(0, .ref (adr 13 0)), (1, .int a0), (2, .int y17_2)] [.int z17_0, .ref (adr 13 0)] M (A_X9_restoreSnapshot_17 a0 y17_2 z17_0 M) := by
    intro y17_2 z17_0 M
    unfold A_X9_restoreSnapshot_17
    refine hz_iload_n (a := 2) (n := 18) hC dX9_restoreSnapshot_17 rfl rfl rfl ?_
    refine hz_if_eq (tgt := 36) (n := 21) hC dX9_restoreSnapshot_18 (by decide) rfl (fun _ => ?_) (fun _ => ?_)
    · refine hz_L (L' := [(0, .ref (adr 13 0)), (1, .int a0)]) [0, 1] rfl ?_
      exact j36 _ _
    · refine hz_aload_n (a := 0) (n := 22) hC dX9_restoreSnapshot_21 rfl rfl rfl ?_
      refine fg_X9_253 (n := 25) hC hI dX9_restoreSnapshot_22 rfl ?_
      refine hz_iload_n (a := 1) (n := 26) hC dX9_restoreSnapshot_25 rfl rfl rfl ?_
      refine hz_ishr (n := 27) hC dX9_restoreSnapshot_26 rfl ?_
      refine hz_iconst (v := (1 : Int32)) (n := 28) hC dX9_restoreSnapshot_27 (by decide +kernel) rfl ?_
      refine hz_iand (n := 29) hC dX9_restoreSnapshot_28 rfl ?_
      refine hz_if_ne (tgt := 36) (n := 32) hC dX9_restoreSnapshot_29 (by decide) rfl (fun _ => ?_) (fun _ => ?_)
      · refine hz_iconst (v := (1 : Int32)) (n := 33) hC dX9_restoreSnapshot_32 (by decide +kernel) rfl ?_
        refine hz_goto (n := 37) hC dX9_restoreSnapshot_33 (by decide) ?_
        refine hz_L (L' := [(0, .ref (adr 13 0)), (1, .int a0)]) [0, 1] rfl ?_
        exact j37 _ _ _
      · refine hz_L (L' := [(0, .ref (adr 13 0)), (1, .int a0)]) [0, 1] rfl ?_
        exact j36 _ _
  refine hz_iload_n (a := 1) (n := 1) hC dX9_restoreSnapshot_0 rfl rfl rfl ?_
  refine hz_iconst (v := (0 : Int32)) (n := 2) hC dX9_restoreSnapshot_1 (by decide +kernel) rfl ?_
  refine hz_iconst (v := (1 : Int32)) (n := 3) hC dX9_restoreSnapshot_2 (by decide +kernel) rfl ?_
  refine hz_callS (k := 3) (As := [.int a0, .int (0 : Int32), .int (1 : Int32)]) (st := []) (S1 := fun r => .int r :: []) (n := 6) hC (c_X9_in l a0 (0 : Int32) (1 : Int32)   M) ks_X9_in wd_6_198 hI dX9_restoreSnapshot_3 rfl rfl rfl (Nat.le_of_ble_eq_true rfl) ⟨Nat.le_of_ble_eq_true rfl, Nat.le_of_ble_eq_true rfl⟩ ⟨Nat.zero_le _, Nat.zero_le _⟩ (fun _ => rfl) rfl (fun r1 M1 _ => ?_)
  refine hz_istore_n (L' := [(2, .int r1), (0, .ref (adr 13 0)), (1, .int a0)]) (n := 7) hC dX9_restoreSnapshot_6 rfl (by decide) rfl rfl ?_
  refine hz_aload_n (a := 1) (n := 8) hC dX9_restoreSnapshot_7 rfl rfl rfl ?_
  refine hz_iload_n (a := 0) (n := 9) hC dX9_restoreSnapshot_8 rfl rfl rfl ?_
  refine hz_if_ne (tgt := 16) (n := 12) hC dX9_restoreSnapshot_9 (by decide) rfl (fun _ => ?_) (fun _ => ?_)
  · refine hz_iconst (v := (1 : Int32)) (n := 13) hC dX9_restoreSnapshot_12 (by decide +kernel) rfl ?_
    refine hz_goto (n := 17) hC dX9_restoreSnapshot_13 (by decide) ?_
    refine hz_L (L' := [(0, .ref (adr 13 0)), (1, .int a0), (2, .int r1)]) [1, 2, 0] rfl ?_
    exact j17 _ _ _
  · refine hz_iconst (v := (0 : Int32)) (n := 17) hC dX9_restoreSnapshot_16 (by decide +kernel) rfl ?_
    refine hz_L (L' := [(0, .ref (adr 13 0)), (1, .int a0), (2, .int r1)]) [1, 2, 0] rfl ?_
    exact j17 _ _ _
def L_X9_heardSum_6 (a0 : Int64) (a1 : Int32)   : Nat → Int64 → Int32 → hp_M → Option (Int64 × hp_M)
  | 0, _, _, _ => none
  | n6 + 1, x4, x6, M => (if (M 13 1 0) ≤ x6 then (some (x4, M)) else (hp_b (F_X9_heardOf a1 x6 M) (fun r1 M1 => (L_X9_heardSum_6 a0 a1 n6 (((31 : Int64) * x4) + (r1).toInt64) (x6 + (1 : Int32)) M1))))
def F_X9_heardSum (a0 : Int64) (a1 : Int32) (M : hp_M) : Option (Int64 × hp_M) := (L_X9_heardSum_6 a0 a1 hp_fu a0 (0 : Int32) M)
set_option maxRecDepth 20000 in
set_option maxHeartbeats 4000000 in
theorem c_X9_heardSum (l : Launch) (a0 : Int64) (a1 : Int32)  (M : hp_M) : hp_Ct l yX9_heardSum cX9_heardSum 7 (some .long) 1 hp_IR (fun adr adV => [.ref (adr 13 0), .long a0, .int a1]) hp_ol M (F_X9_heardSum a0 a1 M) := by
  refine hp_start "HallPhoneModel" (fun adr adV => [(0, .ref (adr 13 0)), (1, .long a0), (3, .int a1)]) (by decide) rfl (fun _ _ => by simp only [lg_sl]; exact Nat.le_of_ble_eq_true rfl) (fun _ _ => rfl) ?_
  intro p e s m args below meth c A D ids adr adV cA rep G0 hI hC hr
  unfold F_X9_heardSum
  have l6 : ∀  (n6 : Nat) (x4 : Int64) (x6 : Int32) (M : hp_M), hp_Z p l e (hp_rm 1) s m args below meth c 7 A D ids adr adV cA 0 0 (MQ below (hp_Q A D ids adr adV cA rep hp_ol G0) args s 0 0 A) G0 rep 6 [(0, .ref (adr 13 0)), (3, .int a1), (4, .long x4), (6, .int x6)] [] M (L_X9_heardSum_6 a0 a1 n6 x4 x6 M) := by
    intro  n6
    induction n6 with
    | zero => intro x4 x6 M; exact hz_none hC
    | succ n6 ih6 =>
      intro x4 x6 M
      rw [L_X9_heardSum_6.eq_2]
      refine hz_iload (a := 3) (n := 8) hC dX9_heardSum_6 rfl rfl ?_
      refine hz_aload_n (a := 0) (n := 9) hC dX9_heardSum_8 rfl rfl rfl ?_
      refine fg_X9_7 (n := 12) hC hI dX9_heardSum_9 rfl ?_
      refine hz_iconst (v := (0 : Int32)) (n := 13) hC dX9_heardSum_12 (by decide +kernel) rfl ?_
      refine hz_ialdc (k := 0) (n := 14) hC (by decide +kernel) (by decide) dX9_heardSum_13 (hI 1 (by decide)) ha_m1 rfl ?_
      refine hz_icmp_ge (tgt := 40) (n := 17) hC dX9_heardSum_14 (by decide) rfl (fun _ => ?_) (fun _ => ?_)
      · refine hz_lload (a := 2) (n := 42) hC dX9_heardSum_40 rfl rfl ?_
        exact hz_lret hC hr dX9_heardSum_42
      · refine hz_ldc2 (n := 20) hC dX9_heardSum_17 wd_8_188 rfl ?_
        refine hz_lload (a := 2) (n := 22) hC dX9_heardSum_20 rfl rfl ?_
        refine hz_lmul (n := 23) hC dX9_heardSum_22 rfl ?_
        refine hz_aload_n (a := 0) (n := 24) hC dX9_heardSum_23 rfl rfl rfl ?_
        refine hz_iload_n (a := 1) (n := 25) hC dX9_heardSum_24 rfl rfl rfl ?_
        refine hz_iload (a := 3) (n := 27) hC dX9_heardSum_25 rfl rfl ?_
        refine hz_callV (k := 2) (As := [.int a1, .int x6]) (st := [.long ((31 : Int64) * x4)]) (S1 := fun r => .int r :: [.long ((31 : Int64) * x4)]) (n := 30) hC (c_X9_heardOf l a1 x6   M) kv_X9_heardOf wd_8_1 hI dX9_heardSum_27 rfl (hI 0 (by decide)) he_X9 rfl rfl rfl (Nat.le_of_ble_eq_true rfl) ⟨Nat.le_of_ble_eq_true rfl, Nat.le_of_ble_eq_true rfl⟩ ⟨Nat.zero_le _, Nat.zero_le _⟩ (fun _ => rfl) rfl (fun r1 M1 _ => ?_)
        refine hz_i2l (n := 31) hC dX9_heardSum_30 rfl ?_
        refine hz_ladd (n := 32) hC dX9_heardSum_31 rfl ?_
        refine hz_lstore (L' := [(4, .long (((31 : Int64) * x4) + (r1).toInt64)), (0, .ref (adr 13 0)), (3, .int a1), (6, .int x6)]) (n := 34) hC dX9_heardSum_32 (by decide) rfl rfl ?_
        refine hz_iinc (a := 3) (v := (x6 + (1 : Int32))) (L' := [(6, .int (x6 + (1 : Int32))), (4, .long (((31 : Int64) * x4) + (r1).toInt64)), (0, .ref (adr 13 0)), (3, .int a1)]) (n := 37) hC dX9_heardSum_34 rfl rfl (by decide) rfl rfl ?_
        refine hz_goto (n := 6) hC dX9_heardSum_37 (by decide) ?_
        refine hz_L (L' := [(0, .ref (adr 13 0)), (3, .int a1), (4, .long (((31 : Int64) * x4) + (r1).toInt64)), (6, .int (x6 + (1 : Int32)))]) [2, 3, 1, 0] rfl ?_
        exact ih6 _ _ _
  refine hz_lload_n (a := 1) (n := 1) hC dX9_heardSum_0 rfl rfl rfl ?_
  refine hz_lstore (L' := [(4, .long a0), (0, .ref (adr 13 0)), (1, .long a0), (3, .int a1)]) (n := 3) hC dX9_heardSum_1 (by decide) rfl rfl ?_
  refine hz_iconst (v := (0 : Int32)) (n := 4) hC dX9_heardSum_3 (by decide +kernel) rfl ?_
  refine hz_istore (L' := [(6, .int (0 : Int32)), (4, .long a0), (0, .ref (adr 13 0)), (1, .long a0), (3, .int a1)]) (n := 6) hC dX9_heardSum_4 (by decide) rfl rfl ?_
  refine hz_L (L' := [(0, .ref (adr 13 0)), (3, .int a1), (4, .long a0), (6, .int (0 : Int32))]) [2, 4, 1, 0] rfl ?_
  exact l6 hp_fu _ _ _
def L_X9_checksum_161    : Nat → Int64 → Int32 → hp_M → Option (Int64 × hp_M)
  | 0, _, _, _ => none
  | n161 + 1, x1, x3, M => (if (10 : Int32) ≤ x3 then (some (x1, M)) else (if ((42 : Int32) + x3) < 0 ∨ 242 ≤ (((42 : Int32) + x3)).toNatClampNeg then none else (L_X9_checksum_161  n161 (((31 : Int64) * x1) + ((M 13 1 (((42 : Int32) + x3)).toNatClampNeg)).toInt64) (x3 + (1 : Int32)) M)))
def L_X9_checksum_123    : Nat → Int64 → Int32 → hp_M → Option (Int64 × hp_M)
  | 0, _, _, _ => none
  | n123 + 1, x1, x3, M => (if ((2 : Int32) * (M 13 1 13)) ≤ x3 then (L_X9_checksum_161 hp_fu x1 (0 : Int32) M) else (if ((14 : Int32) + x3) < 0 ∨ 242 ≤ (((14 : Int32) + x3)).toNatClampNeg then none else (L_X9_checksum_123  n123 (((31 : Int64) * x1) + ((M 13 1 (((14 : Int32) + x3)).toNatClampNeg)).toInt64) (x3 + (1 : Int32)) M)))
def L_X9_checksum_80  (rec67 : Int64 → Int32 → hp_M → Option (Int64 × hp_M)) (k80_3 : Int32) : Nat → Int64 → Int32 → hp_M → Option (Int64 × hp_M)
  | 0, _, _, _ => none
  | n80 + 1, x1, x4, M => (if (11 : Int32) ≤ x4 then (hp_b (F_X9_heardSum x1 k80_3 M) (fun r1 M1 => (rec67 r1 (k80_3 + (1 : Int32)) M1))) else (hp_b (F_X9_flatTold k80_3 x4 M) (fun r2 M2 => (L_X9_checksum_80 rec67 k80_3 n80 (((31 : Int64) * x1) + (r2).toInt64) (x4 + (1 : Int32)) M2))))
def L_X9_checksum_67    : Nat → Int64 → Int32 → hp_M → Option (Int64 × hp_M)
  | 0, _, _, _ => none
  | n67 + 1, x1, x3, M => (if (M 13 1 0) ≤ x3 then (L_X9_checksum_123 hp_fu x1 (0 : Int32) M) else (L_X9_checksum_80 (L_X9_checksum_67  n67) x3 hp_fu x1 (0 : Int32) M))
def L_X9_checksum_36    : Nat → Int64 → Int32 → hp_M → Option (Int64 × hp_M)
  | 0, _, _, _ => none
  | n36 + 1, x1, x3, M => (if (6 : Int32) ≤ x3 then (L_X9_checksum_67 hp_fu x1 (0 : Int32) M) else (if ((7 : Int32) + x3) < 0 ∨ 242 ≤ (((7 : Int32) + x3)).toNatClampNeg then none else (L_X9_checksum_36  n36 (((31 : Int64) * x1) + ((M 13 1 (((7 : Int32) + x3)).toNatClampNeg)).toInt64) (x3 + (1 : Int32)) M)))
def L_X9_checksum_9    : Nat → Int64 → Int32 → hp_M → Option (Int64 × hp_M)
  | 0, _, _, _ => none
  | n9 + 1, x1, x3, M => (if (11 : Int32) ≤ x3 then (L_X9_checksum_36 hp_fu x1 (0 : Int32) M) else (hp_b (F_X9_sizeOf x3 M) (fun r3 M3 => (L_X9_checksum_9  n9 (((31 : Int64) * x1) + (r3).toInt64) (x3 + (1 : Int32)) M3))))
def F_X9_checksum  (M : hp_M) : Option (Int64 × hp_M) := (L_X9_checksum_9 hp_fu (0 : Int64) (0 : Int32) (hp_p M 13 0 13 (0 : Int32)))
set_option maxRecDepth 20000 in
set_option maxHeartbeats 4000000 in
theorem c_X9_checksum (l : Launch)   (M : hp_M) : hp_Ct l yX9_checksum cX9_checksum 5 (some .long) 3 hp_IR (fun adr adV => [.ref (adr 13 0)]) hp_ol M (F_X9_checksum  M) := by
  refine hp_start "HallPhoneModel" (fun adr adV => [(0, .ref (adr 13 0))]) (by decide) rfl (fun _ _ => by simp only [lg_sl]; exact Nat.le_of_ble_eq_true rfl) (fun _ _ => rfl) ?_
  intro p e s m args below meth c A D ids adr adV cA rep G0 hI hC hr
  unfold F_X9_checksum
  have l161 : ∀  (n161 : Nat) (x1 : Int64) (x3 : Int32) (M : hp_M), hp_Z p l e (hp_rm 3) s m args below meth c 5 A D ids adr adV cA 0 0 (MQ below (hp_Q A D ids adr adV cA rep hp_ol G0) args s 0 0 A) G0 rep 161 [(0, .ref (adr 13 0)), (1, .long x1), (3, .int x3)] [] M (L_X9_checksum_161  n161 x1 x3 M) := by
    intro  n161
    induction n161 with
    | zero => intro x1 x3 M; exact hz_none hC
    | succ n161 ih161 =>
      intro x1 x3 M
      rw [L_X9_checksum_161.eq_2]
      refine hz_iload_n (a := 2) (n := 162) hC dX9_checksum_161 rfl rfl rfl ?_
      refine hz_bipush (v := (10 : Int32)) (n := 164) hC dX9_checksum_162 (by decide +kernel) rfl ?_
      refine hz_icmp_ge (tgt := 190) (n := 167) hC dX9_checksum_164 (by decide) rfl (fun _ => ?_) (fun _ => ?_)
      · refine hz_lload_n (a := 1) (n := 191) hC dX9_checksum_190 rfl rfl rfl ?_
        exact hz_lret hC hr dX9_checksum_191
      · refine hz_ldc2 (n := 170) hC dX9_checksum_167 wd_8_188 rfl ?_
        refine hz_lload_n (a := 1) (n := 171) hC dX9_checksum_170 rfl rfl rfl ?_
        refine hz_lmul (n := 172) hC dX9_checksum_171 rfl ?_
        refine hz_aload_n (a := 0) (n := 173) hC dX9_checksum_172 rfl rfl rfl ?_
        refine fg_X9_7 (n := 176) hC hI dX9_checksum_173 rfl ?_
        refine hz_bipush (v := (42 : Int32)) (n := 178) hC dX9_checksum_176 (by decide +kernel) rfl ?_
        refine hz_iload_n (a := 2) (n := 179) hC dX9_checksum_178 rfl rfl rfl ?_
        refine hz_iadd (n := 180) hC dX9_checksum_179 rfl ?_
        refine hz_iald (n := 181) hC dX9_checksum_180 (hI 1 (by decide)) ha_m1 rfl (fun _ => ?_)
        refine hz_i2l (n := 182) hC dX9_checksum_181 rfl ?_
        refine hz_ladd (n := 183) hC dX9_checksum_182 rfl ?_
        refine hz_lstore_n (L' := [(1, .long (((31 : Int64) * x1) + ((M 13 1 (((42 : Int32) + x3)).toNatClampNeg)).toInt64)), (0, .ref (adr 13 0)), (3, .int x3)]) (n := 184) hC dX9_checksum_183 rfl (by decide) rfl rfl ?_
        refine hz_iinc (a := 2) (v := (x3 + (1 : Int32))) (L' := [(3, .int (x3 + (1 : Int32))), (1, .long (((31 : Int64) * x1) + ((M 13 1 (((42 : Int32) + x3)).toNatClampNeg)).toInt64)), (0, .ref (adr 13 0))]) (n := 187) hC dX9_checksum_184 rfl rfl (by decide) rfl rfl ?_
        refine hz_goto (n := 161) hC dX9_checksum_187 (by decide) ?_
        refine hz_L (L' := [(0, .ref (adr 13 0)), (1, .long (((31 : Int64) * x1) + ((M 13 1 (((42 : Int32) + x3)).toNatClampNeg)).toInt64)), (3, .int (x3 + (1 : Int32)))]) [2, 1, 0] rfl ?_
        exact ih161 _ _ _
  have l123 : ∀  (n123 : Nat) (x1 : Int64) (x3 : Int32) (M : hp_M), hp_Z p l e (hp_rm 3) s m args below meth c 5 A D ids adr adV cA 0 0 (MQ below (hp_Q A D ids adr adV cA rep hp_ol G0) args s 0 0 A) G0 rep 123 [(0, .ref (adr 13 0)), (1, .long x1), (3, .int x3)] [] M (L_X9_checksum_123  n123 x1 x3 M) := by
    intro  n123
    induction n123 with
    | zero => intro x1 x3 M; exact hz_none hC
    | succ n123 ih123 =>
      intro x1 x3 M
      rw [L_X9_checksum_123.eq_2]
      refine hz_iload_n (a := 2) (n := 124) hC dX9_checksum_123 rfl rfl rfl ?_
      refine hz_iconst (v := (2 : Int32)) (n := 125) hC dX9_checksum_124 (by decide +kernel) rfl ?_
      refine hz_aload_n (a := 0) (n := 126) hC dX9_checksum_125 rfl rfl rfl ?_
      refine fg_X9_7 (n := 129) hC hI dX9_checksum_126 rfl ?_
      refine hz_bipush (v := (13 : Int32)) (n := 131) hC dX9_checksum_129 (by decide +kernel) rfl ?_
      refine hz_ialdc (k := 13) (n := 132) hC (by decide +kernel) (by decide) dX9_checksum_131 (hI 1 (by decide)) ha_m1 rfl ?_
      refine hz_imul (n := 133) hC dX9_checksum_132 rfl ?_
      refine hz_icmp_ge (tgt := 159) (n := 136) hC dX9_checksum_133 (by decide) rfl (fun _ => ?_) (fun _ => ?_)
      · refine hz_iconst (v := (0 : Int32)) (n := 160) hC dX9_checksum_159 (by decide +kernel) rfl ?_
        refine hz_istore_n (L' := [(3, .int (0 : Int32)), (0, .ref (adr 13 0)), (1, .long x1)]) (n := 161) hC dX9_checksum_160 rfl (by decide) rfl rfl ?_
        refine hz_L (L' := [(0, .ref (adr 13 0)), (1, .long x1), (3, .int (0 : Int32))]) [1, 2, 0] rfl ?_
        exact l161 hp_fu _ _ _
      · refine hz_ldc2 (n := 139) hC dX9_checksum_136 wd_8_188 rfl ?_
        refine hz_lload_n (a := 1) (n := 140) hC dX9_checksum_139 rfl rfl rfl ?_
        refine hz_lmul (n := 141) hC dX9_checksum_140 rfl ?_
        refine hz_aload_n (a := 0) (n := 142) hC dX9_checksum_141 rfl rfl rfl ?_
        refine fg_X9_7 (n := 145) hC hI dX9_checksum_142 rfl ?_
        refine hz_bipush (v := (14 : Int32)) (n := 147) hC dX9_checksum_145 (by decide +kernel) rfl ?_
        refine hz_iload_n (a := 2) (n := 148) hC dX9_checksum_147 rfl rfl rfl ?_
        refine hz_iadd (n := 149) hC dX9_checksum_148 rfl ?_
        refine hz_iald (n := 150) hC dX9_checksum_149 (hI 1 (by decide)) ha_m1 rfl (fun _ => ?_)
        refine hz_i2l (n := 151) hC dX9_checksum_150 rfl ?_
        refine hz_ladd (n := 152) hC dX9_checksum_151 rfl ?_
        refine hz_lstore_n (L' := [(1, .long (((31 : Int64) * x1) + ((M 13 1 (((14 : Int32) + x3)).toNatClampNeg)).toInt64)), (0, .ref (adr 13 0)), (3, .int x3)]) (n := 153) hC dX9_checksum_152 rfl (by decide) rfl rfl ?_
        refine hz_iinc (a := 2) (v := (x3 + (1 : Int32))) (L' := [(3, .int (x3 + (1 : Int32))), (1, .long (((31 : Int64) * x1) + ((M 13 1 (((14 : Int32) + x3)).toNatClampNeg)).toInt64)), (0, .ref (adr 13 0))]) (n := 156) hC dX9_checksum_153 rfl rfl (by decide) rfl rfl ?_
        refine hz_goto (n := 123) hC dX9_checksum_156 (by decide) ?_
        refine hz_L (L' := [(0, .ref (adr 13 0)), (1, .long (((31 : Int64) * x1) + ((M 13 1 (((14 : Int32) + x3)).toNatClampNeg)).toInt64)), (3, .int (x3 + (1 : Int32)))]) [2, 1, 0] rfl ?_
        exact ih123 _ _ _
  have l67 : ∀  (n67 : Nat) (x1 : Int64) (x3 : Int32) (M : hp_M), hp_Z p l e (hp_rm 3) s m args below meth c 5 A D ids adr adV cA 0 0 (MQ below (hp_Q A D ids adr adV cA rep hp_ol G0) args s 0 0 A) G0 rep 67 [(0, .ref (adr 13 0)), (1, .long x1), (3, .int x3)] [] M (L_X9_checksum_67  n67 x1 x3 M) := by
    intro  n67
    induction n67 with
    | zero => intro x1 x3 M; exact hz_none hC
    | succ n67 ih67 =>
      intro x1 x3 M
      rw [L_X9_checksum_67.eq_2]
      have l80 : ∀ (k80_3 : Int32) (n80 : Nat) (x1 : Int64) (x4 : Int32) (M : hp_M), hp_Z p l e (hp_rm 3) s m args below meth c 5 A D ids adr adV cA 0 0 (MQ below (hp_Q A D ids adr adV cA rep hp_ol G0) args s 0 0 A) G0 rep 80 [(0, .ref (adr 13 0)), (1, .long x1), (3, .int k80_3), (4, .int x4)] [] M (L_X9_checksum_80 (L_X9_checksum_67 n67) k80_3 n80 x1 x4 M) := by
        intro k80_3 n80
        induction n80 with
        | zero => intro x1 x4 M; exact hz_none hC
        | succ n80 ih80 =>
          intro x1 x4 M
          rw [L_X9_checksum_80.eq_2]
          refine hz_iload (a := 3) (n := 82) hC dX9_checksum_80 rfl rfl ?_
          refine hz_bipush (v := (11 : Int32)) (n := 84) hC dX9_checksum_82 (by decide +kernel) rfl ?_
          refine hz_icmp_ge (tgt := 108) (n := 87) hC dX9_checksum_84 (by decide) rfl (fun _ => ?_) (fun _ => ?_)
          · refine hz_aload_n (a := 0) (n := 109) hC dX9_checksum_108 rfl rfl rfl ?_
            refine hz_lload_n (a := 1) (n := 110) hC dX9_checksum_109 rfl rfl rfl ?_
            refine hz_iload_n (a := 2) (n := 111) hC dX9_checksum_110 rfl rfl rfl ?_
            refine hz_callV (k := 2) (As := [.long x1, .int k80_3]) (st := []) (S1 := fun r => .long r :: []) (n := 114) hC (c_X9_heardSum l x1 k80_3   M) kv_X9_heardSum wd_8_189 hI dX9_checksum_111 rfl (hI 0 (by decide)) he_X9 rfl rfl rfl (Nat.le_of_ble_eq_true rfl) ⟨Nat.le_of_ble_eq_true rfl, Nat.le_of_ble_eq_true rfl⟩ ⟨Nat.zero_le _, Nat.zero_le _⟩ (fun _ => rfl) rfl (fun r1 M1 _ => ?_)
            refine hz_lstore_n (L' := [(1, .long r1), (0, .ref (adr 13 0)), (3, .int k80_3), (4, .int x4)]) (n := 115) hC dX9_checksum_114 rfl (by decide) rfl rfl ?_
            refine hz_iinc (a := 2) (v := (k80_3 + (1 : Int32))) (L' := [(3, .int (k80_3 + (1 : Int32))), (1, .long r1), (0, .ref (adr 13 0)), (4, .int x4)]) (n := 118) hC dX9_checksum_115 rfl rfl (by decide) rfl rfl ?_
            refine hz_goto (n := 67) hC dX9_checksum_118 (by decide) ?_
            refine hz_L (L' := [(0, .ref (adr 13 0)), (1, .long r1), (3, .int (k80_3 + (1 : Int32)))]) [2, 1, 0] rfl ?_
            exact ih67 _ _ _
          · refine hz_ldc2 (n := 90) hC dX9_checksum_87 wd_8_188 rfl ?_
            refine hz_lload_n (a := 1) (n := 91) hC dX9_checksum_90 rfl rfl rfl ?_
            refine hz_lmul (n := 92) hC dX9_checksum_91 rfl ?_
            refine hz_aload_n (a := 0) (n := 93) hC dX9_checksum_92 rfl rfl rfl ?_
            refine hz_iload_n (a := 2) (n := 94) hC dX9_checksum_93 rfl rfl rfl ?_
            refine hz_iload (a := 3) (n := 96) hC dX9_checksum_94 rfl rfl ?_
            refine hz_callV (k := 2) (As := [.int k80_3, .int x4]) (st := [.long ((31 : Int64) * x1)]) (S1 := fun r => .int r :: [.long ((31 : Int64) * x1)]) (n := 99) hC (c_X9_flatTold l k80_3 x4   M) kv_X9_flatTold wd_7_221 hI dX9_checksum_96 rfl (hI 0 (by decide)) he_X9 rfl rfl rfl (Nat.le_of_ble_eq_true rfl) ⟨Nat.le_of_ble_eq_true rfl, Nat.le_of_ble_eq_true rfl⟩ ⟨Nat.zero_le _, Nat.zero_le _⟩ (fun _ => rfl) rfl (fun r2 M2 _ => ?_)
            refine hz_i2l (n := 100) hC dX9_checksum_99 rfl ?_
            refine hz_ladd (n := 101) hC dX9_checksum_100 rfl ?_
            refine hz_lstore_n (L' := [(1, .long (((31 : Int64) * x1) + (r2).toInt64)), (0, .ref (adr 13 0)), (3, .int k80_3), (4, .int x4)]) (n := 102) hC dX9_checksum_101 rfl (by decide) rfl rfl ?_
            refine hz_iinc (a := 3) (v := (x4 + (1 : Int32))) (L' := [(4, .int (x4 + (1 : Int32))), (1, .long (((31 : Int64) * x1) + (r2).toInt64)), (0, .ref (adr 13 0)), (3, .int k80_3)]) (n := 105) hC dX9_checksum_102 rfl rfl (by decide) rfl rfl ?_
            refine hz_goto (n := 80) hC dX9_checksum_105 (by decide) ?_
            refine hz_L (L' := [(0, .ref (adr 13 0)), (1, .long (((31 : Int64) * x1) + (r2).toInt64)), (3, .int k80_3), (4, .int (x4 + (1 : Int32)))]) [2, 1, 3, 0] rfl ?_
            exact ih80 _ _ _
      refine hz_iload_n (a := 2) (n := 68) hC dX9_checksum_67 rfl rfl rfl ?_
      refine hz_aload_n (a := 0) (n := 69) hC dX9_checksum_68 rfl rfl rfl ?_
      refine fg_X9_7 (n := 72) hC hI dX9_checksum_69 rfl ?_
      refine hz_iconst (v := (0 : Int32)) (n := 73) hC dX9_checksum_72 (by decide +kernel) rfl ?_
      refine hz_ialdc (k := 0) (n := 74) hC (by decide +kernel) (by decide) dX9_checksum_73 (hI 1 (by decide)) ha_m1 rfl ?_
      refine hz_icmp_ge (tgt := 121) (n := 77) hC dX9_checksum_74 (by decide) rfl (fun _ => ?_) (fun _ => ?_)
      · refine hz_iconst (v := (0 : Int32)) (n := 122) hC dX9_checksum_121 (by decide +kernel) rfl ?_
        refine hz_istore_n (L' := [(3, .int (0 : Int32)), (0, .ref (adr 13 0)), (1, .long x1)]) (n := 123) hC dX9_checksum_122 rfl (by decide) rfl rfl ?_
        refine hz_L (L' := [(0, .ref (adr 13 0)), (1, .long x1), (3, .int (0 : Int32))]) [1, 2, 0] rfl ?_
        exact l123 hp_fu _ _ _
      · refine hz_iconst (v := (0 : Int32)) (n := 78) hC dX9_checksum_77 (by decide +kernel) rfl ?_
        refine hz_istore (L' := [(4, .int (0 : Int32)), (0, .ref (adr 13 0)), (1, .long x1), (3, .int x3)]) (n := 80) hC dX9_checksum_78 (by decide) rfl rfl ?_
        refine hz_L (L' := [(0, .ref (adr 13 0)), (1, .long x1), (3, .int x3), (4, .int (0 : Int32))]) [1, 2, 3, 0] rfl ?_
        exact l80 _ hp_fu _ _ _
  have l36 : ∀  (n36 : Nat) (x1 : Int64) (x3 : Int32) (M : hp_M), hp_Z p l e (hp_rm 3) s m args below meth c 5 A D ids adr adV cA 0 0 (MQ below (hp_Q A D ids adr adV cA rep hp_ol G0) args s 0 0 A) G0 rep 36 [(0, .ref (adr 13 0)), (1, .long x1), (3, .int x3)] [] M (L_X9_checksum_36  n36 x1 x3 M) := by
    intro  n36
    induction n36 with
    | zero => intro x1 x3 M; exact hz_none hC
    | succ n36 ih36 =>
      intro x1 x3 M
      rw [L_X9_checksum_36.eq_2]
      refine hz_iload_n (a := 2) (n := 37) hC dX9_checksum_36 rfl rfl rfl ?_
      refine hz_bipush (v := (6 : Int32)) (n := 39) hC dX9_checksum_37 (by decide +kernel) rfl ?_
      refine hz_icmp_ge (tgt := 65) (n := 42) hC dX9_checksum_39 (by decide) rfl (fun _ => ?_) (fun _ => ?_)
      · refine hz_iconst (v := (0 : Int32)) (n := 66) hC dX9_checksum_65 (by decide +kernel) rfl ?_
        refine hz_istore_n (L' := [(3, .int (0 : Int32)), (0, .ref (adr 13 0)), (1, .long x1)]) (n := 67) hC dX9_checksum_66 rfl (by decide) rfl rfl ?_
        refine hz_L (L' := [(0, .ref (adr 13 0)), (1, .long x1), (3, .int (0 : Int32))]) [1, 2, 0] rfl ?_
        exact l67 hp_fu _ _ _
      · refine hz_ldc2 (n := 45) hC dX9_checksum_42 wd_8_188 rfl ?_
        refine hz_lload_n (a := 1) (n := 46) hC dX9_checksum_45 rfl rfl rfl ?_
        refine hz_lmul (n := 47) hC dX9_checksum_46 rfl ?_
        refine hz_aload_n (a := 0) (n := 48) hC dX9_checksum_47 rfl rfl rfl ?_
        refine fg_X9_7 (n := 51) hC hI dX9_checksum_48 rfl ?_
        refine hz_bipush (v := (7 : Int32)) (n := 53) hC dX9_checksum_51 (by decide +kernel) rfl ?_
        refine hz_iload_n (a := 2) (n := 54) hC dX9_checksum_53 rfl rfl rfl ?_
        refine hz_iadd (n := 55) hC dX9_checksum_54 rfl ?_
        refine hz_iald (n := 56) hC dX9_checksum_55 (hI 1 (by decide)) ha_m1 rfl (fun _ => ?_)
        refine hz_i2l (n := 57) hC dX9_checksum_56 rfl ?_
        refine hz_ladd (n := 58) hC dX9_checksum_57 rfl ?_
        refine hz_lstore_n (L' := [(1, .long (((31 : Int64) * x1) + ((M 13 1 (((7 : Int32) + x3)).toNatClampNeg)).toInt64)), (0, .ref (adr 13 0)), (3, .int x3)]) (n := 59) hC dX9_checksum_58 rfl (by decide) rfl rfl ?_
        refine hz_iinc (a := 2) (v := (x3 + (1 : Int32))) (L' := [(3, .int (x3 + (1 : Int32))), (1, .long (((31 : Int64) * x1) + ((M 13 1 (((7 : Int32) + x3)).toNatClampNeg)).toInt64)), (0, .ref (adr 13 0))]) (n := 62) hC dX9_checksum_59 rfl rfl (by decide) rfl rfl ?_
        refine hz_goto (n := 36) hC dX9_checksum_62 (by decide) ?_
        refine hz_L (L' := [(0, .ref (adr 13 0)), (1, .long (((31 : Int64) * x1) + ((M 13 1 (((7 : Int32) + x3)).toNatClampNeg)).toInt64)), (3, .int (x3 + (1 : Int32)))]) [2, 1, 0] rfl ?_
        exact ih36 _ _ _
  have l9 : ∀  (n9 : Nat) (x1 : Int64) (x3 : Int32) (M : hp_M), hp_Z p l e (hp_rm 3) s m args below meth c 5 A D ids adr adV cA 0 0 (MQ below (hp_Q A D ids adr adV cA rep hp_ol G0) args s 0 0 A) G0 rep 9 [(0, .ref (adr 13 0)), (1, .long x1), (3, .int x3)] [] M (L_X9_checksum_9  n9 x1 x3 M) := by
    intro  n9
    induction n9 with
    | zero => intro x1 x3 M; exact hz_none hC
    | succ n9 ih9 =>
      intro x1 x3 M
      rw [L_X9_checksum_9.eq_2]
      refine hz_iload_n (a := 2) (n := 10) hC dX9_checksum_9 rfl rfl rfl ?_
      refine hz_bipush (v := (11 : Int32)) (n := 12) hC dX9_checksum_10 (by decide +kernel) rfl ?_
      refine hz_icmp_ge (tgt := 34) (n := 15) hC dX9_checksum_12 (by decide) rfl (fun _ => ?_) (fun _ => ?_)
      · refine hz_iconst (v := (0 : Int32)) (n := 35) hC dX9_checksum_34 (by decide +kernel) rfl ?_
        refine hz_istore_n (L' := [(3, .int (0 : Int32)), (0, .ref (adr 13 0)), (1, .long x1)]) (n := 36) hC dX9_checksum_35 rfl (by decide) rfl rfl ?_
        refine hz_L (L' := [(0, .ref (adr 13 0)), (1, .long x1), (3, .int (0 : Int32))]) [1, 2, 0] rfl ?_
        exact l36 hp_fu _ _ _
      · refine hz_ldc2 (n := 18) hC dX9_checksum_15 wd_8_188 rfl ?_
        refine hz_lload_n (a := 1) (n := 19) hC dX9_checksum_18 rfl rfl rfl ?_
        refine hz_lmul (n := 20) hC dX9_checksum_19 rfl ?_
        refine hz_aload_n (a := 0) (n := 21) hC dX9_checksum_20 rfl rfl rfl ?_
        refine hz_iload_n (a := 2) (n := 22) hC dX9_checksum_21 rfl rfl rfl ?_
        refine hz_callV (k := 1) (As := [.int x3]) (st := [.long ((31 : Int64) * x1)]) (S1 := fun r => .int r :: [.long ((31 : Int64) * x1)]) (n := 25) hC (c_X9_sizeOf l x3   M) kv_X9_sizeOf wd_7_193 hI dX9_checksum_22 rfl (hI 0 (by decide)) he_X9 rfl rfl rfl (Nat.le_of_ble_eq_true rfl) ⟨Nat.le_of_ble_eq_true rfl, Nat.le_of_ble_eq_true rfl⟩ ⟨Nat.zero_le _, Nat.zero_le _⟩ (fun _ => rfl) rfl (fun r3 M3 _ => ?_)
        refine hz_i2l (n := 26) hC dX9_checksum_25 rfl ?_
        refine hz_ladd (n := 27) hC dX9_checksum_26 rfl ?_
        refine hz_lstore_n (L' := [(1, .long (((31 : Int64) * x1) + (r3).toInt64)), (0, .ref (adr 13 0)), (3, .int x3)]) (n := 28) hC dX9_checksum_27 rfl (by decide) rfl rfl ?_
        refine hz_iinc (a := 2) (v := (x3 + (1 : Int32))) (L' := [(3, .int (x3 + (1 : Int32))), (1, .long (((31 : Int64) * x1) + (r3).toInt64)), (0, .ref (adr 13 0))]) (n := 31) hC dX9_checksum_28 rfl rfl (by decide) rfl rfl ?_
        refine hz_goto (n := 9) hC dX9_checksum_31 (by decide) ?_
        refine hz_L (L' := [(0, .ref (adr 13 0)), (1, .long (((31 : Int64) * x1) + (r3).toInt64)), (3, .int (x3 + (1 : Int32)))]) [2, 1, 0] rfl ?_
        exact ih9 _ _ _
  refine hz_aload_n (a := 0) (n := 1) hC dX9_checksum_0 rfl rfl rfl ?_
  refine hz_iconst (v := (0 : Int32)) (n := 2) hC dX9_checksum_1 (by decide +kernel) rfl ?_
  refine fp_X9_42 (n := 5) hC hI (0 : Int32) dX9_checksum_2 rfl ?_
  refine hz_lconst (v := (0 : Int64)) (n := 6) hC dX9_checksum_5 (by decide +kernel) rfl ?_
  refine hz_lstore_n (L' := [(1, .long (0 : Int64)), (0, .ref (adr 13 0))]) (n := 7) hC dX9_checksum_6 rfl (by decide) rfl rfl ?_
  refine hz_iconst (v := (0 : Int32)) (n := 8) hC dX9_checksum_7 (by decide +kernel) rfl ?_
  refine hz_istore_n (L' := [(3, .int (0 : Int32)), (1, .long (0 : Int64)), (0, .ref (adr 13 0))]) (n := 9) hC dX9_checksum_8 rfl (by decide) rfl rfl ?_
  refine hz_L (L' := [(0, .ref (adr 13 0)), (1, .long (0 : Int64)), (3, .int (0 : Int32))]) [2, 1, 0] rfl ?_
  exact l9 hp_fu _ _ _
