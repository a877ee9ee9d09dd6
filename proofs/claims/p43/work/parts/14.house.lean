def F_X3_putDown (g : Nat) (M : hp_M) : Option (Unit × hp_M) := (some ((), (hp_p (hp_p (hp_p (hp_p (hp_p M g 5 0 (0 : Int32)) g 5 1 (-1 : Int32)) g 5 2 (0 : Int32)) g 5 3 (0 : Int32)) g 5 4 (0 : Int32))))
set_option maxRecDepth 20000 in
set_option maxHeartbeats 4000000 in
theorem c_X3_putDown (l : Launch) (g : Nat) (hg : g < 12) (M : hp_M) : hp_Ct l yX3_putDown cX3_putDown 1 none 0 hp_IC (fun adr adV => [.ref (adr g 5)]) hp_oo M (F_X3_putDown g M) := by
  refine hp_start "HallPhone$Phone" (fun adr adV => [(0, .ref (adr g 5))]) (by decide) rfl (fun _ _ => by simp only [lg_sl]; exact Nat.le_of_ble_eq_true rfl) (fun _ _ => rfl) ?_
  intro p e s m args below meth c A D ids adr adV cA rep G0 hI hC hr
  unfold F_X3_putDown
  refine hz_aload_n (a := 0) (n := 1) hC dX3_putDown_0 rfl rfl rfl ?_
  refine hz_iconst (v := (0 : Int32)) (n := 2) hC dX3_putDown_1 (by decide +kernel) rfl ?_
  refine fp_X3_9 (n := 5) hC hg hI (0 : Int32) dX3_putDown_2 rfl ?_
  refine hz_aload_n (a := 0) (n := 6) hC dX3_putDown_5 rfl rfl rfl ?_
  refine hz_iconst (v := (-1 : Int32)) (n := 7) hC dX3_putDown_6 (by decide +kernel) rfl ?_
  refine fp_X3_15 (n := 10) hC hg hI (-1 : Int32) dX3_putDown_7 rfl ?_
  refine hz_aload_n (a := 0) (n := 11) hC dX3_putDown_10 rfl rfl rfl ?_
  refine hz_iconst (v := (0 : Int32)) (n := 12) hC dX3_putDown_11 (by decide +kernel) rfl ?_
  refine fp_X3_18 (n := 15) hC hg hI (0 : Int32) dX3_putDown_12 rfl ?_
  refine hz_aload_n (a := 0) (n := 16) hC dX3_putDown_15 rfl rfl rfl ?_
  refine hz_iconst (v := (0 : Int32)) (n := 17) hC dX3_putDown_16 (by decide +kernel) rfl ?_
  refine fp_X3_21 (n := 20) hC hg hI (0 : Int32) dX3_putDown_17 rfl ?_
  refine hz_aload_n (a := 0) (n := 21) hC dX3_putDown_20 rfl rfl rfl ?_
  refine hz_iconst (v := (0 : Int32)) (n := 22) hC dX3_putDown_21 (by decide +kernel) rfl ?_
  refine fp_X3_24 (n := 25) hC hg hI (0 : Int32) (by decide) dX3_putDown_22 rfl ?_
  exact hz_vret hC hr dX3_putDown_25
def F_X2_clear (g : Nat) (M : hp_M) : Option (Unit × hp_M) := (hp_b (F_X8_copyRowT g 1 (hp_p (hp_p (hp_p M g 0 0 (0 : Int32)) g 0 1 (0 : Int32)) g 0 2 (0 : Int32))) (fun _ M1 => (hp_b (F_J7_fill_53178 g 2 10 (0 : Int32) M1) (fun _ M2 => (hp_b (F_J7_fill_53178 g 3 110 (0 : Int32) M2) (fun _ M3 => (hp_b (F_J7_fill_53178 g 4 100 (0 : Int32) M3) (fun _ M4 => (hp_b (F_X3_putDown g M4) (fun _ M5 => (some ((), (hp_p (hp_p M5 g 6 1 (0 : Int32)) g 8 2 (0 : Int32))))))))))))))
set_option maxRecDepth 20000 in
set_option maxHeartbeats 4000000 in
theorem c_X2_clear (l : Launch) (g : Nat) (hg : g < 12) (M : hp_M) : hp_Ct l yX2_clear cX2_clear 1 none 2 hp_IC (fun adr adV => [.ref (adr g 0)]) hp_oo M (F_X2_clear g M) := by
  refine hp_start "HallPhone$House" (fun adr adV => [(0, .ref (adr g 0))]) (by decide) rfl (fun _ _ => by simp only [lg_sl]; exact Nat.le_of_ble_eq_true rfl) (fun _ _ => rfl) ?_
  intro p e s m args below meth c A D ids adr adV cA rep G0 hI hC hr
  unfold F_X2_clear
  refine hz_aload_n (a := 0) (n := 1) hC dX2_clear_0 rfl rfl rfl ?_
  refine hz_iconst (v := (0 : Int32)) (n := 2) hC dX2_clear_1 (by decide +kernel) rfl ?_
  refine fp_X2_9 (n := 5) hC hg hI (0 : Int32) dX2_clear_2 rfl ?_
  refine hz_aload_n (a := 0) (n := 6) hC dX2_clear_5 rfl rfl rfl ?_
  refine hz_iconst (v := (0 : Int32)) (n := 7) hC dX2_clear_6 (by decide +kernel) rfl ?_
  refine fp_X2_15 (n := 10) hC hg hI (0 : Int32) dX2_clear_7 rfl ?_
  refine hz_aload_n (a := 0) (n := 11) hC dX2_clear_10 rfl rfl rfl ?_
  refine hz_iconst (v := (0 : Int32)) (n := 12) hC dX2_clear_11 (by decide +kernel) rfl ?_
  refine fp_X2_18 (n := 15) hC hg hI (0 : Int32) dX2_clear_12 rfl ?_
  refine hz_getsN (k := 12) (n := 18) hC dX2_clear_15 wd_2_55 wd_1_1.1 (by decide +kernel) wd_2_54 rfl ?_
  refine hz_aload_n (a := 0) (n := 19) hC dX2_clear_18 rfl rfl rfl ?_
  refine fg_X2_21 (n := 22) hC hg hI dX2_clear_19 rfl ?_
  refine hz_callSN (k := 2) (As := [.ref (adV 12), .ref (adr g 1)]) (st := []) (S1 := fun _ => []) (n := 25) hC (c_X8_copyRowT l g 1 (fun _ h => (h.1 g 1 hg (by decide))) (fun _ _ _ f => (ha_h1 hg) f) (hp_p (hp_p (hp_p M g 0 0 (0 : Int32)) g 0 1 (0 : Int32)) g 0 2 (0 : Int32))) ks_X8_copyRow wd_2_56 hI dX2_clear_22 rfl rfl rfl (Nat.le_of_ble_eq_true rfl) ⟨Nat.le_of_ble_eq_true rfl, Nat.le_of_ble_eq_true rfl⟩ ⟨Nat.zero_le _, Nat.zero_le _⟩ (fun _ => rfl) rfl (fun r1 M1 _ => ?_)
  refine hz_aload_n (a := 0) (n := 26) hC dX2_clear_25 rfl rfl rfl ?_
  refine fg_X2_25 (n := 29) hC hg hI dX2_clear_26 rfl ?_
  refine hz_iconst (v := (0 : Int32)) (n := 30) hC dX2_clear_29 (by decide +kernel) rfl ?_
  refine hz_callS (k := 2) (As := [.ref (adr g 2), .int (0 : Int32)]) (st := []) (S1 := fun _ => []) (n := 33) hC (c_J7_fill_53178 l g 2 10 (0 : Int32)  (fun _ h => (h.1 g 2 hg (by decide))) (fun _ _ _ f => (ha_h2 hg) f) M1) ks_J7_fill_53178 wd_2_63 hI dX2_clear_30 rfl rfl rfl (Nat.le_of_ble_eq_true rfl) ⟨Nat.le_of_ble_eq_true rfl, Nat.le_of_ble_eq_true rfl⟩ ⟨Nat.zero_le _, Nat.zero_le _⟩ (fun _ => rfl) rfl (fun r2 M2 _ => ?_)
  refine hz_aload_n (a := 0) (n := 34) hC dX2_clear_33 rfl rfl rfl ?_
  refine fg_X2_28 (n := 37) hC hg hI dX2_clear_34 rfl ?_
  refine hz_iconst (v := (0 : Int32)) (n := 38) hC dX2_clear_37 (by decide +kernel) rfl ?_
  refine hz_callS (k := 2) (As := [.ref (adr g 3), .int (0 : Int32)]) (st := []) (S1 := fun _ => []) (n := 41) hC (c_J7_fill_53178 l g 3 110 (0 : Int32)  (fun _ h => (h.1 g 3 hg (by decide))) (fun _ _ _ f => (ha_h3 hg) f) M2) ks_J7_fill_53178 wd_2_63 hI dX2_clear_38 rfl rfl rfl (Nat.le_of_ble_eq_true rfl) ⟨Nat.le_of_ble_eq_true rfl, Nat.le_of_ble_eq_true rfl⟩ ⟨Nat.zero_le _, Nat.zero_le _⟩ (fun _ => rfl) rfl (fun r3 M3 _ => ?_)
  refine hz_aload_n (a := 0) (n := 42) hC dX2_clear_41 rfl rfl rfl ?_
  refine fg_X2_31 (n := 45) hC hg hI dX2_clear_42 rfl ?_
  refine hz_iconst (v := (0 : Int32)) (n := 46) hC dX2_clear_45 (by decide +kernel) rfl ?_
  refine hz_callS (k := 2) (As := [.ref (adr g 4), .int (0 : Int32)]) (st := []) (S1 := fun _ => []) (n := 49) hC (c_J7_fill_53178 l g 4 100 (0 : Int32)  (fun _ h => (h.1 g 4 hg (by decide))) (fun _ _ _ f => (ha_h4 hg) f) M3) ks_J7_fill_53178 wd_2_63 hI dX2_clear_46 rfl rfl rfl (Nat.le_of_ble_eq_true rfl) ⟨Nat.le_of_ble_eq_true rfl, Nat.le_of_ble_eq_true rfl⟩ ⟨Nat.zero_le _, Nat.zero_le _⟩ (fun _ => rfl) rfl (fun r4 M4 _ => ?_)
  refine hz_aload_n (a := 0) (n := 50) hC dX2_clear_49 rfl rfl rfl ?_
  refine fg_X2_37 (n := 53) hC hg hI dX2_clear_50 rfl ?_
  refine hz_callVN (k := 0) (As := []) (st := []) (S1 := fun _ => []) (n := 56) hC (c_X3_putDown l g hg  M4) kv_X3_putDown wd_2_66 hI dX2_clear_53 rfl (hI.1 g 5 hg (by decide)) (he_X3 hg) rfl rfl rfl (Nat.le_of_ble_eq_true rfl) ⟨Nat.le_of_ble_eq_true rfl, Nat.le_of_ble_eq_true rfl⟩ ⟨Nat.zero_le _, Nat.zero_le _⟩ (fun _ => rfl) rfl (fun r5 M5 _ => ?_)
  refine hz_aload_n (a := 0) (n := 57) hC dX2_clear_56 rfl rfl rfl ?_
  refine fg_X2_44 (n := 60) hC hg hI dX2_clear_57 rfl ?_
  refine hz_iconst (v := (0 : Int32)) (n := 61) hC dX2_clear_60 (by decide +kernel) rfl ?_
  refine fp_X2_71 (n := 64) hC hg hI (0 : Int32) dX2_clear_61 rfl ?_
  refine hz_aload_n (a := 0) (n := 65) hC dX2_clear_64 rfl rfl rfl ?_
  refine fg_X2_51 (n := 68) hC hg hI dX2_clear_65 rfl ?_
  refine hz_iconst (v := (0 : Int32)) (n := 69) hC dX2_clear_68 (by decide +kernel) rfl ?_
  refine fp_X2_74 (n := 72) hC hg hI (0 : Int32) dX2_clear_69 rfl ?_
  exact hz_vret hC hr dX2_clear_72
def F_X4_at (g : Nat) (a0 : Int32) (M : hp_M) : Option (Int32 × hp_M) := (if a0 < 0 then (some ((-1 : Int32), M)) else (if (M g 6 1) ≤ a0 then (some ((-1 : Int32), M)) else (if (10 : Int32) ≤ a0 then (some ((-1 : Int32), M)) else (if a0 < 0 ∨ 10 ≤ (a0).toNatClampNeg then none else (some ((M g 7 (a0).toNatClampNeg), M))))))
set_option maxRecDepth 20000 in
set_option maxHeartbeats 4000000 in
theorem c_X4_at (l : Launch) (g : Nat) (a0 : Int32) (hg : g < 12) (M : hp_M) : hp_Ct l yX4_at cX4_at 2 (some .int) 0 hp_IC (fun adr adV => [.ref (adr g 6), .int a0]) hp_oi M (F_X4_at g a0 M) := by
  refine hp_start "HallPhone$Queue" (fun adr adV => [(0, .ref (adr g 6)), (1, .int a0)]) (by decide) rfl (fun _ _ => by simp only [lg_sl]; exact Nat.le_of_ble_eq_true rfl) (fun _ _ => rfl) ?_
  intro p e s m args below meth c A D ids adr adV cA rep G0 hI hC hr
  unfold F_X4_at
  refine hz_iload_n (a := 1) (n := 1) hC dX4_at_0 rfl rfl rfl ?_
  refine hz_if_lt (tgt := 30) (n := 4) hC dX4_at_1 (by decide) rfl (fun _ => ?_) (fun _ => ?_)
  · refine hz_iconst (v := (-1 : Int32)) (n := 31) hC dX4_at_30 (by decide +kernel) rfl ?_
    exact hz_iret hC hr dX4_at_31
  · refine hz_iload_n (a := 1) (n := 5) hC dX4_at_4 rfl rfl rfl ?_
    refine hz_aload_n (a := 0) (n := 6) hC dX4_at_5 rfl rfl rfl ?_
    refine fg_X4_15 (n := 9) hC hg hI dX4_at_6 rfl ?_
    refine hz_icmp_ge (tgt := 30) (n := 12) hC dX4_at_9 (by decide) rfl (fun _ => ?_) (fun _ => ?_)
    · refine hz_iconst (v := (-1 : Int32)) (n := 31) hC dX4_at_30 (by decide +kernel) rfl ?_
      exact hz_iret hC hr dX4_at_31
    · refine hz_iload_n (a := 1) (n := 13) hC dX4_at_12 rfl rfl rfl ?_
      refine hz_aload_n (a := 0) (n := 14) hC dX4_at_13 rfl rfl rfl ?_
      refine fg_X4_9 (n := 17) hC hg hI dX4_at_14 rfl ?_
      refine hz_alen (v := (10 : Int32)) (t := 0) (n := 18) hC dX4_at_17 (hI.1 g 7 hg (by decide)) (ha_h7 hg) rfl (by decide +kernel) rfl ?_
      refine hz_icmp_ge (tgt := 30) (n := 21) hC dX4_at_18 (by decide) rfl (fun _ => ?_) (fun _ => ?_)
      · refine hz_iconst (v := (-1 : Int32)) (n := 31) hC dX4_at_30 (by decide +kernel) rfl ?_
        exact hz_iret hC hr dX4_at_31
      · refine hz_aload_n (a := 0) (n := 22) hC dX4_at_21 rfl rfl rfl ?_
        refine fg_X4_9 (n := 25) hC hg hI dX4_at_22 rfl ?_
        refine hz_iload_n (a := 1) (n := 26) hC dX4_at_25 rfl rfl rfl ?_
        refine hz_iald (n := 27) hC dX4_at_26 (hI.1 g 7 hg (by decide)) (ha_h7 hg) rfl (fun _ => ?_)
        refine hz_goto (n := 31) hC dX4_at_27 (by decide) ?_
        exact hz_iret hC hr dX4_at_31
def F_X6_flatAt (g : Nat) (a0 : Int32) (M : hp_M) : Option (Int32 × hp_M) := (if a0 < 0 then (some ((-1 : Int32), M)) else (if (8 : Int32) ≤ a0 then (some ((-1 : Int32), M)) else (if a0 < 0 ∨ 8 ≤ (a0).toNatClampNeg then none else (some ((M g 9 (a0).toNatClampNeg), M)))))
set_option maxRecDepth 20000 in
set_option maxHeartbeats 4000000 in
theorem c_X6_flatAt (l : Launch) (g : Nat) (a0 : Int32) (hg : g < 12) (M : hp_M) : hp_Ct l yX6_flatAt cX6_flatAt 2 (some .int) 0 hp_IC (fun adr adV => [.ref (adr g 8), .int a0]) hp_oi M (F_X6_flatAt g a0 M) := by
  refine hp_start "HallPhone$Slate" (fun adr adV => [(0, .ref (adr g 8)), (1, .int a0)]) (by decide) rfl (fun _ _ => by simp only [lg_sl]; exact Nat.le_of_ble_eq_true rfl) (fun _ _ => rfl) ?_
  intro p e s m args below meth c A D ids adr adV cA rep G0 hI hC hr
  unfold F_X6_flatAt
  refine hz_iload_n (a := 1) (n := 1) hC dX6_flatAt_0 rfl rfl rfl ?_
  refine hz_if_lt (tgt := 22) (n := 4) hC dX6_flatAt_1 (by decide) rfl (fun _ => ?_) (fun _ => ?_)
  · refine hz_iconst (v := (-1 : Int32)) (n := 23) hC dX6_flatAt_22 (by decide +kernel) rfl ?_
    exact hz_iret hC hr dX6_flatAt_23
  · refine hz_iload_n (a := 1) (n := 5) hC dX6_flatAt_4 rfl rfl rfl ?_
    refine hz_aload_n (a := 0) (n := 6) hC dX6_flatAt_5 rfl rfl rfl ?_
    refine fg_X6_9 (n := 9) hC hg hI dX6_flatAt_6 rfl ?_
    refine hz_alen (v := (8 : Int32)) (t := 0) (n := 10) hC dX6_flatAt_9 (hI.1 g 9 hg (by decide)) (ha_h9 hg) rfl (by decide +kernel) rfl ?_
    refine hz_icmp_ge (tgt := 22) (n := 13) hC dX6_flatAt_10 (by decide) rfl (fun _ => ?_) (fun _ => ?_)
    · refine hz_iconst (v := (-1 : Int32)) (n := 23) hC dX6_flatAt_22 (by decide +kernel) rfl ?_
      exact hz_iret hC hr dX6_flatAt_23
    · refine hz_aload_n (a := 0) (n := 14) hC dX6_flatAt_13 rfl rfl rfl ?_
      refine fg_X6_9 (n := 17) hC hg hI dX6_flatAt_14 rfl ?_
      refine hz_iload_n (a := 1) (n := 18) hC dX6_flatAt_17 rfl rfl rfl ?_
      refine hz_iald (n := 19) hC dX6_flatAt_18 (hI.1 g 9 hg (by decide)) (ha_h9 hg) rfl (fun _ => ?_)
      refine hz_goto (n := 23) hC dX6_flatAt_19 (by decide) ?_
      exact hz_iret hC hr dX6_flatAt_23
def F_X3_copyFrom (g : Nat) (b0 : Nat) (M : hp_M) : Option (Unit × hp_M) := (if ((hp_p (hp_p (hp_p (hp_p M g 5 0 (M b0 5 0)) g 5 1 ((hp_p M g 5 0 (M b0 5 0)) b0 5 1)) g 5 2 ((hp_p (hp_p M g 5 0 (M b0 5 0)) g 5 1 ((hp_p M g 5 0 (M b0 5 0)) b0 5 1)) b0 5 2)) g 5 3 ((hp_p (hp_p (hp_p M g 5 0 (M b0 5 0)) g 5 1 ((hp_p M g 5 0 (M b0 5 0)) b0 5 1)) g 5 2 ((hp_p (hp_p M g 5 0 (M b0 5 0)) g 5 1 ((hp_p M g 5 0 (M b0 5 0)) b0 5 1)) b0 5 2)) b0 5 3)) b0 5 4) = 0 ∨ ((hp_p (hp_p (hp_p (hp_p M g 5 0 (M b0 5 0)) g 5 1 ((hp_p M g 5 0 (M b0 5 0)) b0 5 1)) g 5 2 ((hp_p (hp_p M g 5 0 (M b0 5 0)) g 5 1 ((hp_p M g 5 0 (M b0 5 0)) b0 5 1)) b0 5 2)) g 5 3 ((hp_p (hp_p (hp_p M g 5 0 (M b0 5 0)) g 5 1 ((hp_p M g 5 0 (M b0 5 0)) b0 5 1)) g 5 2 ((hp_p (hp_p M g 5 0 (M b0 5 0)) g 5 1 ((hp_p M g 5 0 (M b0 5 0)) b0 5 1)) b0 5 2)) b0 5 3)) b0 5 4) = 1 then (some ((), (hp_p (hp_p (hp_p (hp_p (hp_p M g 5 0 (M b0 5 0)) g 5 1 ((hp_p M g 5 0 (M b0 5 0)) b0 5 1)) g 5 2 ((hp_p (hp_p M g 5 0 (M b0 5 0)) g 5 1 ((hp_p M g 5 0 (M b0 5 0)) b0 5 1)) b0 5 2)) g 5 3 ((hp_p (hp_p (hp_p M g 5 0 (M b0 5 0)) g 5 1 ((hp_p M g 5 0 (M b0 5 0)) b0 5 1)) g 5 2 ((hp_p (hp_p M g 5 0 (M b0 5 0)) g 5 1 ((hp_p M g 5 0 (M b0 5 0)) b0 5 1)) b0 5 2)) b0 5 3)) g 5 4 ((hp_p (hp_p (hp_p (hp_p M g 5 0 (M b0 5 0)) g 5 1 ((hp_p M g 5 0 (M b0 5 0)) b0 5 1)) g 5 2 ((hp_p (hp_p M g 5 0 (M b0 5 0)) g 5 1 ((hp_p M g 5 0 (M b0 5 0)) b0 5 1)) b0 5 2)) g 5 3 ((hp_p (hp_p (hp_p M g 5 0 (M b0 5 0)) g 5 1 ((hp_p M g 5 0 (M b0 5 0)) b0 5 1)) g 5 2 ((hp_p (hp_p M g 5 0 (M b0 5 0)) g 5 1 ((hp_p M g 5 0 (M b0 5 0)) b0 5 1)) b0 5 2)) b0 5 3)) b0 5 4)))) else none)
set_option maxRecDepth 20000 in
set_option maxHeartbeats 4000000 in
theorem c_X3_copyFrom (l : Launch) (g : Nat) (b0 : Nat) (hg : g < 12) (hb0 : b0 < 12) (M : hp_M) : hp_Ct l yX3_copyFrom cX3_copyFrom 2 none 0 hp_IC (fun adr adV => [.ref (adr g 5), .ref (adr b0 5)]) hp_oo M (F_X3_copyFrom g b0 M) := by
  refine hp_start "HallPhone$Phone" (fun adr adV => [(0, .ref (adr g 5)), (1, .ref (adr b0 5))]) (by decide) rfl (fun _ _ => by simp only [lg_sl]; exact Nat.le_of_ble_eq_true rfl) (fun _ _ => rfl) ?_
  intro p e s m args below meth c A D ids adr adV cA rep G0 hI hC hr
  unfold F_X3_copyFrom
  refine hz_aload_n (a := 0) (n := 1) hC dX3_copyFrom_0 rfl rfl rfl ?_
  refine hz_aload_n (a := 1) (n := 2) hC dX3_copyFrom_1 rfl rfl rfl ?_
  refine fg_X3_9 (n := 5) hC hb0 hI dX3_copyFrom_2 rfl ?_
  refine fp_X3_9 (n := 8) hC hg hI (M b0 5 0) dX3_copyFrom_5 rfl ?_
  refine hz_aload_n (a := 0) (n := 9) hC dX3_copyFrom_8 rfl rfl rfl ?_
  refine hz_aload_n (a := 1) (n := 10) hC dX3_copyFrom_9 rfl rfl rfl ?_
  refine fg_X3_15 (n := 13) hC hb0 hI dX3_copyFrom_10 rfl ?_
  refine fp_X3_15 (n := 16) hC hg hI ((hp_p M g 5 0 (M b0 5 0)) b0 5 1) dX3_copyFrom_13 rfl ?_
  refine hz_aload_n (a := 0) (n := 17) hC dX3_copyFrom_16 rfl rfl rfl ?_
  refine hz_aload_n (a := 1) (n := 18) hC dX3_copyFrom_17 rfl rfl rfl ?_
  refine fg_X3_18 (n := 21) hC hb0 hI dX3_copyFrom_18 rfl ?_
  refine fp_X3_18 (n := 24) hC hg hI ((hp_p (hp_p M g 5 0 (M b0 5 0)) g 5 1 ((hp_p M g 5 0 (M b0 5 0)) b0 5 1)) b0 5 2) dX3_copyFrom_21 rfl ?_
  refine hz_aload_n (a := 0) (n := 25) hC dX3_copyFrom_24 rfl rfl rfl ?_
  refine hz_aload_n (a := 1) (n := 26) hC dX3_copyFrom_25 rfl rfl rfl ?_
  refine fg_X3_21 (n := 29) hC hb0 hI dX3_copyFrom_26 rfl ?_
  refine fp_X3_21 (n := 32) hC hg hI ((hp_p (hp_p (hp_p M g 5 0 (M b0 5 0)) g 5 1 ((hp_p M g 5 0 (M b0 5 0)) b0 5 1)) g 5 2 ((hp_p (hp_p M g 5 0 (M b0 5 0)) g 5 1 ((hp_p M g 5 0 (M b0 5 0)) b0 5 1)) b0 5 2)) b0 5 3) dX3_copyFrom_29 rfl ?_
  refine hz_aload_n (a := 0) (n := 33) hC dX3_copyFrom_32 rfl rfl rfl ?_
  refine hz_aload_n (a := 1) (n := 34) hC dX3_copyFrom_33 rfl rfl rfl ?_
  refine fg_X3_24 (n := 37) hC hb0 hI dX3_copyFrom_34 rfl ?_
  refine hz_case (fun hb => ?_) (fun _ => hz_none hC)
  refine fp_X3_24 (n := 40) hC hg hI ((hp_p (hp_p (hp_p (hp_p M g 5 0 (M b0 5 0)) g 5 1 ((hp_p M g 5 0 (M b0 5 0)) b0 5 1)) g 5 2 ((hp_p (hp_p M g 5 0 (M b0 5 0)) g 5 1 ((hp_p M g 5 0 (M b0 5 0)) b0 5 1)) b0 5 2)) g 5 3 ((hp_p (hp_p (hp_p M g 5 0 (M b0 5 0)) g 5 1 ((hp_p M g 5 0 (M b0 5 0)) b0 5 1)) g 5 2 ((hp_p (hp_p M g 5 0 (M b0 5 0)) g 5 1 ((hp_p M g 5 0 (M b0 5 0)) b0 5 1)) b0 5 2)) b0 5 3)) b0 5 4) hb dX3_copyFrom_37 rfl ?_
  exact hz_vret hC hr dX3_copyFrom_40
def F_X4_copyFrom (g : Nat) (b0 : Nat) (M : hp_M) : Option (Unit × hp_M) := (hp_b (F_X8_copyRow b0 7 g 7 10 M) (fun _ M1 => (some ((), (hp_p M1 g 6 1 (M1 b0 6 1))))))
set_option maxRecDepth 20000 in
set_option maxHeartbeats 4000000 in
theorem c_X4_copyFrom (l : Launch) (g : Nat) (b0 : Nat) (hg : g < 12) (hb0 : b0 < 12) (M : hp_M) : hp_Ct l yX4_copyFrom cX4_copyFrom 2 none 2 hp_IC (fun adr adV => [.ref (adr g 6), .ref (adr b0 6)]) hp_oo M (F_X4_copyFrom g b0 M) := by
  refine hp_start "HallPhone$Queue" (fun adr adV => [(0, .ref (adr g 6)), (1, .ref (adr b0 6))]) (by decide) rfl (fun _ _ => by simp only [lg_sl]; exact Nat.le_of_ble_eq_true rfl) (fun _ _ => rfl) ?_
  intro p e s m args below meth c A D ids adr adV cA rep G0 hI hC hr
  unfold F_X4_copyFrom
  refine hz_aload_n (a := 1) (n := 1) hC dX4_copyFrom_0 rfl rfl rfl ?_
  refine fg_X4_9 (n := 4) hC hb0 hI dX4_copyFrom_1 rfl ?_
  refine hz_aload_n (a := 0) (n := 5) hC dX4_copyFrom_4 rfl rfl rfl ?_
  refine fg_X4_9 (n := 8) hC hg hI dX4_copyFrom_5 rfl ?_
  refine hz_callSN (k := 2) (As := [.ref (adr b0 7), .ref (adr g 7)]) (st := []) (S1 := fun _ => []) (n := 11) hC (c_X8_copyRow l b0 7 g 7 10 (by decide) (fun _ h => (h.1 b0 7 hb0 (by decide))) (fun _ h => (h.1 g 7 hg (by decide))) (fun _ _ _ f => (ha_h7 hb0) f) (fun _ _ _ f => (ha_h7 hg) f) M) ks_X8_copyRow wd_3_34 hI dX4_copyFrom_8 rfl rfl rfl (Nat.le_of_ble_eq_true rfl) ⟨Nat.le_of_ble_eq_true rfl, Nat.le_of_ble_eq_true rfl⟩ ⟨Nat.zero_le _, Nat.zero_le _⟩ (fun _ => rfl) rfl (fun r1 M1 _ => ?_)
  refine hz_aload_n (a := 0) (n := 12) hC dX4_copyFrom_11 rfl rfl rfl ?_
  refine hz_aload_n (a := 1) (n := 13) hC dX4_copyFrom_12 rfl rfl rfl ?_
  refine fg_X4_15 (n := 16) hC hb0 hI dX4_copyFrom_13 rfl ?_
  refine fp_X4_15 (n := 19) hC hg hI (M1 b0 6 1) dX4_copyFrom_16 rfl ?_
  exact hz_vret hC hr dX4_copyFrom_19
def F_X6_copyFrom (g : Nat) (b0 : Nat) (M : hp_M) : Option (Unit × hp_M) := (hp_b (F_X8_copyRow b0 9 g 9 8 M) (fun _ M1 => (hp_b (F_X8_copyRow b0 10 g 10 8 M1) (fun _ M2 => (some ((), (hp_p M2 g 8 2 (M2 b0 8 2))))))))
set_option maxRecDepth 20000 in
set_option maxHeartbeats 4000000 in
theorem c_X6_copyFrom (l : Launch) (g : Nat) (b0 : Nat) (hg : g < 12) (hb0 : b0 < 12) (M : hp_M) : hp_Ct l yX6_copyFrom cX6_copyFrom 2 none 2 hp_IC (fun adr adV => [.ref (adr g 8), .ref (adr b0 8)]) hp_oo M (F_X6_copyFrom g b0 M) := by
  refine hp_start "HallPhone$Slate" (fun adr adV => [(0, .ref (adr g 8)), (1, .ref (adr b0 8))]) (by decide) rfl (fun _ _ => by simp only [lg_sl]; exact Nat.le_of_ble_eq_true rfl) (fun _ _ => rfl) ?_
  intro p e s m args below meth c A D ids adr adV cA rep G0 hI hC hr
  unfold F_X6_copyFrom
  refine hz_aload_n (a := 1) (n := 1) hC dX6_copyFrom_0 rfl rfl rfl ?_
  refine fg_X6_9 (n := 4) hC hb0 hI dX6_copyFrom_1 rfl ?_
  refine hz_aload_n (a := 0) (n := 5) hC dX6_copyFrom_4 rfl rfl rfl ?_
  refine fg_X6_9 (n := 8) hC hg hI dX6_copyFrom_5 rfl ?_
  refine hz_callSN (k := 2) (As := [.ref (adr b0 9), .ref (adr g 9)]) (st := []) (S1 := fun _ => []) (n := 11) hC (c_X8_copyRow l b0 9 g 9 8 (by decide) (fun _ h => (h.1 b0 9 hb0 (by decide))) (fun _ h => (h.1 g 9 hg (by decide))) (fun _ _ _ f => (ha_h9 hb0) f) (fun _ _ _ f => (ha_h9 hg) f) M) ks_X8_copyRow wd_3_39 hI dX6_copyFrom_8 rfl rfl rfl (Nat.le_of_ble_eq_true rfl) ⟨Nat.le_of_ble_eq_true rfl, Nat.le_of_ble_eq_true rfl⟩ ⟨Nat.zero_le _, Nat.zero_le _⟩ (fun _ => rfl) rfl (fun r1 M1 _ => ?_)
  refine hz_aload_n (a := 1) (n := 12) hC dX6_copyFrom_11 rfl rfl rfl ?_
  refine fg_X6_15 (n := 15) hC hb0 hI dX6_copyFrom_12 rfl ?_
  refine hz_aload_n (a := 0) (n := 16) hC dX6_copyFrom_15 rfl rfl rfl ?_
  refine fg_X6_15 (n := 19) hC hg hI dX6_copyFrom_16 rfl ?_
  refine hz_callSN (k := 2) (As := [.ref (adr b0 10), .ref (adr g 10)]) (st := []) (S1 := fun _ => []) (n := 22) hC (c_X8_copyRow l b0 10 g 10 8 (by decide) (fun _ h => (h.1 b0 10 hb0 (by decide))) (fun _ h => (h.1 g 10 hg (by decide))) (fun _ _ _ f => (ha_h10 hb0) f) (fun _ _ _ f => (ha_h10 hg) f) M1) ks_X8_copyRow wd_3_39 hI dX6_copyFrom_19 rfl rfl rfl (Nat.le_of_ble_eq_true rfl) ⟨Nat.le_of_ble_eq_true rfl, Nat.le_of_ble_eq_true rfl⟩ ⟨Nat.zero_le _, Nat.zero_le _⟩ (fun _ => rfl) rfl (fun r2 M2 _ => ?_)
  refine hz_aload_n (a := 0) (n := 23) hC dX6_copyFrom_22 rfl rfl rfl ?_
  refine hz_aload_n (a := 1) (n := 24) hC dX6_copyFrom_23 rfl rfl rfl ?_
  refine fg_X6_18 (n := 27) hC hb0 hI dX6_copyFrom_24 rfl ?_
  refine fp_X6_18 (n := 30) hC hg hI (M2 b0 8 2) dX6_copyFrom_27 rfl ?_
  exact hz_vret hC hr dX6_copyFrom_30
def F_X2_copyFrom (g : Nat) (b0 : Nat) (M : hp_M) : Option (Unit × hp_M) := (hp_b (F_X8_copyRow b0 1 g 1 6 (hp_p (hp_p (hp_p M g 0 0 (M b0 0 0)) g 0 1 ((hp_p M g 0 0 (M b0 0 0)) b0 0 1)) g 0 2 ((hp_p (hp_p M g 0 0 (M b0 0 0)) g 0 1 ((hp_p M g 0 0 (M b0 0 0)) b0 0 1)) b0 0 2))) (fun _ M1 => (hp_b (F_X8_copyRow b0 2 g 2 10 M1) (fun _ M2 => (hp_b (F_X8_copyRow b0 3 g 3 110 M2) (fun _ M3 => (hp_b (F_X8_copyRow b0 4 g 4 100 M3) (fun _ M4 => (hp_b (F_X3_copyFrom g b0 M4) (fun _ M5 => (hp_b (F_X4_copyFrom g b0 M5) (fun _ M6 => (hp_b (F_X6_copyFrom g b0 M6) (fun _ M7 => (some ((), M7))))))))))))))))
set_option maxRecDepth 20000 in
set_option maxHeartbeats 4000000 in
theorem c_X2_copyFrom (l : Launch) (g : Nat) (b0 : Nat) (hg : g < 12) (hb0 : b0 < 12) (M : hp_M) : hp_Ct l yX2_copyFrom cX2_copyFrom 2 none 3 hp_IC (fun adr adV => [.ref (adr g 0), .ref (adr b0 0)]) hp_oo M (F_X2_copyFrom g b0 M) := by
  refine hp_start "HallPhone$House" (fun adr adV => [(0, .ref (adr g 0)), (1, .ref (adr b0 0))]) (by decide) rfl (fun _ _ => by simp only [lg_sl]; exact Nat.le_of_ble_eq_true rfl) (fun _ _ => rfl) ?_
  intro p e s m args below meth c A D ids adr adV cA rep G0 hI hC hr
  unfold F_X2_copyFrom
  refine hz_aload_n (a := 0) (n := 1) hC dX2_copyFrom_0 rfl rfl rfl ?_
  refine hz_aload_n (a := 1) (n := 2) hC dX2_copyFrom_1 rfl rfl rfl ?_
  refine fg_X2_9 (n := 5) hC hb0 hI dX2_copyFrom_2 rfl ?_
  refine fp_X2_9 (n := 8) hC hg hI (M b0 0 0) dX2_copyFrom_5 rfl ?_
  refine hz_aload_n (a := 0) (n := 9) hC dX2_copyFrom_8 rfl rfl rfl ?_
  refine hz_aload_n (a := 1) (n := 10) hC dX2_copyFrom_9 rfl rfl rfl ?_
  refine fg_X2_15 (n := 13) hC hb0 hI dX2_copyFrom_10 rfl ?_
  refine fp_X2_15 (n := 16) hC hg hI ((hp_p M g 0 0 (M b0 0 0)) b0 0 1) dX2_copyFrom_13 rfl ?_
  refine hz_aload_n (a := 0) (n := 17) hC dX2_copyFrom_16 rfl rfl rfl ?_
  refine hz_aload_n (a := 1) (n := 18) hC dX2_copyFrom_17 rfl rfl rfl ?_
  refine fg_X2_18 (n := 21) hC hb0 hI dX2_copyFrom_18 rfl ?_
  refine fp_X2_18 (n := 24) hC hg hI ((hp_p (hp_p M g 0 0 (M b0 0 0)) g 0 1 ((hp_p M g 0 0 (M b0 0 0)) b0 0 1)) b0 0 2) dX2_copyFrom_21 rfl ?_
  refine hz_aload_n (a := 1) (n := 25) hC dX2_copyFrom_24 rfl rfl rfl ?_
  refine fg_X2_21 (n := 28) hC hb0 hI dX2_copyFrom_25 rfl ?_
  refine hz_aload_n (a := 0) (n := 29) hC dX2_copyFrom_28 rfl rfl rfl ?_
  refine fg_X2_21 (n := 32) hC hg hI dX2_copyFrom_29 rfl ?_
  refine hz_callSN (k := 2) (As := [.ref (adr b0 1), .ref (adr g 1)]) (st := []) (S1 := fun _ => []) (n := 35) hC (c_X8_copyRow l b0 1 g 1 6 (by decide) (fun _ h => (h.1 b0 1 hb0 (by decide))) (fun _ h => (h.1 g 1 hg (by decide))) (fun _ _ _ f => (ha_h1 hb0) f) (fun _ _ _ f => (ha_h1 hg) f) (hp_p (hp_p (hp_p M g 0 0 (M b0 0 0)) g 0 1 ((hp_p M g 0 0 (M b0 0 0)) b0 0 1)) g 0 2 ((hp_p (hp_p M g 0 0 (M b0 0 0)) g 0 1 ((hp_p M g 0 0 (M b0 0 0)) b0 0 1)) b0 0 2))) ks_X8_copyRow wd_2_56 hI dX2_copyFrom_32 rfl rfl rfl (Nat.le_of_ble_eq_true rfl) ⟨Nat.le_of_ble_eq_true rfl, Nat.le_of_ble_eq_true rfl⟩ ⟨Nat.zero_le _, Nat.zero_le _⟩ (fun _ => rfl) rfl (fun r1 M1 _ => ?_)
  refine hz_aload_n (a := 1) (n := 36) hC dX2_copyFrom_35 rfl rfl rfl ?_
  refine fg_X2_25 (n := 39) hC hb0 hI dX2_copyFrom_36 rfl ?_
  refine hz_aload_n (a := 0) (n := 40) hC dX2_copyFrom_39 rfl rfl rfl ?_
  refine fg_X2_25 (n := 43) hC hg hI dX2_copyFrom_40 rfl ?_
  refine hz_callSN (k := 2) (As := [.ref (adr b0 2), .ref (adr g 2)]) (st := []) (S1 := fun _ => []) (n := 46) hC (c_X8_copyRow l b0 2 g 2 10 (by decide) (fun _ h => (h.1 b0 2 hb0 (by decide))) (fun _ h => (h.1 g 2 hg (by decide))) (fun _ _ _ f => (ha_h2 hb0) f) (fun _ _ _ f => (ha_h2 hg) f) M1) ks_X8_copyRow wd_2_56 hI dX2_copyFrom_43 rfl rfl rfl (Nat.le_of_ble_eq_true rfl) ⟨Nat.le_of_ble_eq_true rfl, Nat.le_of_ble_eq_true rfl⟩ ⟨Nat.zero_le _, Nat.zero_le _⟩ (fun _ => rfl) rfl (fun r2 M2 _ => ?_)
  refine hz_aload_n (a := 1) (n := 47) hC dX2_copyFrom_46 rfl rfl rfl ?_
  refine fg_X2_28 (n := 50) hC hb0 hI dX2_copyFrom_47 rfl ?_
  refine hz_aload_n (a := 0) (n := 51) hC dX2_copyFrom_50 rfl rfl rfl ?_
  refine fg_X2_28 (n := 54) hC hg hI dX2_copyFrom_51 rfl ?_
  refine hz_callSN (k := 2) (As := [.ref (adr b0 3), .ref (adr g 3)]) (st := []) (S1 := fun _ => []) (n := 57) hC (c_X8_copyRow l b0 3 g 3 110 (by decide) (fun _ h => (h.1 b0 3 hb0 (by decide))) (fun _ h => (h.1 g 3 hg (by decide))) (fun _ _ _ f => (ha_h3 hb0) f) (fun _ _ _ f => (ha_h3 hg) f) M2) ks_X8_copyRow wd_2_56 hI dX2_copyFrom_54 rfl rfl rfl (Nat.le_of_ble_eq_true rfl) ⟨Nat.le_of_ble_eq_true rfl, Nat.le_of_ble_eq_true rfl⟩ ⟨Nat.zero_le _, Nat.zero_le _⟩ (fun _ => rfl) rfl (fun r3 M3 _ => ?_)
  refine hz_aload_n (a := 1) (n := 58) hC dX2_copyFrom_57 rfl rfl rfl ?_
  refine fg_X2_31 (n := 61) hC hb0 hI dX2_copyFrom_58 rfl ?_
  refine hz_aload_n (a := 0) (n := 62) hC dX2_copyFrom_61 rfl rfl rfl ?_
  refine fg_X2_31 (n := 65) hC hg hI dX2_copyFrom_62 rfl ?_
  refine hz_callSN (k := 2) (As := [.ref (adr b0 4), .ref (adr g 4)]) (st := []) (S1 := fun _ => []) (n := 68) hC (c_X8_copyRow l b0 4 g 4 100 (by decide) (fun _ h => (h.1 b0 4 hb0 (by decide))) (fun _ h => (h.1 g 4 hg (by decide))) (fun _ _ _ f => (ha_h4 hb0) f) (fun _ _ _ f => (ha_h4 hg) f) M3) ks_X8_copyRow wd_2_56 hI dX2_copyFrom_65 rfl rfl rfl (Nat.le_of_ble_eq_true rfl) ⟨Nat.le_of_ble_eq_true rfl, Nat.le_of_ble_eq_true rfl⟩ ⟨Nat.zero_le _, Nat.zero_le _⟩ (fun _ => rfl) rfl (fun r4 M4 _ => ?_)
  refine hz_aload_n (a := 0) (n := 69) hC dX2_copyFrom_68 rfl rfl rfl ?_
  refine fg_X2_37 (n := 72) hC hg hI dX2_copyFrom_69 rfl ?_
  refine hz_aload_n (a := 1) (n := 73) hC dX2_copyFrom_72 rfl rfl rfl ?_
  refine fg_X2_37 (n := 76) hC hb0 hI dX2_copyFrom_73 rfl ?_
  refine hz_callVN (k := 1) (As := [.ref (adr b0 5)]) (st := []) (S1 := fun _ => []) (n := 79) hC (c_X3_copyFrom l g b0 hg hb0  M4) kv_X3_copyFrom wd_3_26 hI dX2_copyFrom_76 rfl (hI.1 g 5 hg (by decide)) (he_X3 hg) rfl rfl rfl (Nat.le_of_ble_eq_true rfl) ⟨Nat.le_of_ble_eq_true rfl, Nat.le_of_ble_eq_true rfl⟩ ⟨Nat.zero_le _, Nat.zero_le _⟩ (fun _ => rfl) rfl (fun r5 M5 _ => ?_)
  refine hz_aload_n (a := 0) (n := 80) hC dX2_copyFrom_79 rfl rfl rfl ?_
  refine fg_X2_44 (n := 83) hC hg hI dX2_copyFrom_80 rfl ?_
  refine hz_aload_n (a := 1) (n := 84) hC dX2_copyFrom_83 rfl rfl rfl ?_
  refine fg_X2_44 (n := 87) hC hb0 hI dX2_copyFrom_84 rfl ?_
  refine hz_callVN (k := 1) (As := [.ref (adr b0 6)]) (st := []) (S1 := fun _ => []) (n := 90) hC (c_X4_copyFrom l g b0 hg hb0  M5) kv_X4_copyFrom wd_3_30 hI dX2_copyFrom_87 rfl (hI.1 g 6 hg (by decide)) (he_X4 hg) rfl rfl rfl (Nat.le_of_ble_eq_true rfl) ⟨Nat.le_of_ble_eq_true rfl, Nat.le_of_ble_eq_true rfl⟩ ⟨Nat.zero_le _, Nat.zero_le _⟩ (fun _ => rfl) rfl (fun r6 M6 _ => ?_)
  refine hz_aload_n (a := 0) (n := 91) hC dX2_copyFrom_90 rfl rfl rfl ?_
  refine fg_X2_51 (n := 94) hC hg hI dX2_copyFrom_91 rfl ?_
  refine hz_aload_n (a := 1) (n := 95) hC dX2_copyFrom_94 rfl rfl rfl ?_
  refine fg_X2_51 (n := 98) hC hb0 hI dX2_copyFrom_95 rfl ?_
  refine hz_callVN (k := 1) (As := [.ref (adr b0 8)]) (st := []) (S1 := fun _ => []) (n := 101) hC (c_X6_copyFrom l g b0 hg hb0  M6) kv_X6_copyFrom wd_3_35 hI dX2_copyFrom_98 rfl (hI.1 g 8 hg (by decide)) (he_X6 hg) rfl rfl rfl (Nat.le_of_ble_eq_true rfl) ⟨Nat.le_of_ble_eq_true rfl, Nat.le_of_ble_eq_true rfl⟩ ⟨Nat.zero_le _, Nat.zero_le _⟩ (fun _ => rfl) rfl (fun r7 M7 _ => ?_)
  exact hz_vret hC hr dX2_copyFrom_101
def F_X3_holdFor (g : Nat) (a0 : Int32) (a1 : Int32) (M : hp_M) : Option (Unit × hp_M) := (some ((), (hp_p (hp_p (hp_p (hp_p (hp_p M g 5 0 (1 : Int32)) g 5 1 a0) g 5 2 (0 : Int32)) g 5 3 a1) g 5 4 (1 : Int32))))
set_option maxRecDepth 20000 in
set_option maxHeartbeats 4000000 in
theorem c_X3_holdFor (l : Launch) (g : Nat) (a0 : Int32) (a1 : Int32) (hg : g < 12) (M : hp_M) : hp_Ct l yX3_holdFor cX3_holdFor 3 none 0 hp_IC (fun adr adV => [.ref (adr g 5), .int a0, .int a1]) hp_oo M (F_X3_holdFor g a0 a1 M) := by
  refine hp_start "HallPhone$Phone" (fun adr adV => [(0, .ref (adr g 5)), (1, .int a0), (2, .int a1)]) (by decide) rfl (fun _ _ => by simp only [lg_sl]; exact Nat.le_of_ble_eq_true rfl) (fun _ _ => rfl) ?_
  intro p e s m args below meth c A D ids adr adV cA rep G0 hI hC hr
  unfold F_X3_holdFor
  refine hz_aload_n (a := 0) (n := 1) hC dX3_holdFor_0 rfl rfl rfl ?_
  refine hz_iconst (v := (1 : Int32)) (n := 2) hC dX3_holdFor_1 (by decide +kernel) rfl ?_
  refine fp_X3_9 (n := 5) hC hg hI (1 : Int32) dX3_holdFor_2 rfl ?_
  refine hz_aload_n (a := 0) (n := 6) hC dX3_holdFor_5 rfl rfl rfl ?_
  refine hz_iload_n (a := 1) (n := 7) hC dX3_holdFor_6 rfl rfl rfl ?_
  refine fp_X3_15 (n := 10) hC hg hI a0 dX3_holdFor_7 rfl ?_
  refine hz_aload_n (a := 0) (n := 11) hC dX3_holdFor_10 rfl rfl rfl ?_
  refine hz_iconst (v := (0 : Int32)) (n := 12) hC dX3_holdFor_11 (by decide +kernel) rfl ?_
  refine fp_X3_18 (n := 15) hC hg hI (0 : Int32) dX3_holdFor_12 rfl ?_
  refine hz_aload_n (a := 0) (n := 16) hC dX3_holdFor_15 rfl rfl rfl ?_
  refine hz_iload_n (a := 2) (n := 17) hC dX3_holdFor_16 rfl rfl rfl ?_
  refine fp_X3_21 (n := 20) hC hg hI a1 dX3_holdFor_17 rfl ?_
  refine hz_aload_n (a := 0) (n := 21) hC dX3_holdFor_20 rfl rfl rfl ?_
  refine hz_iconst (v := (1 : Int32)) (n := 22) hC dX3_holdFor_21 (by decide +kernel) rfl ?_
  refine fp_X3_24 (n := 25) hC hg hI (1 : Int32) (by decide) dX3_holdFor_22 rfl ?_
  exact hz_vret hC hr dX3_holdFor_25
def L_X4_placeOf_2 (g : Nat) (a0 : Int32)   : Nat → Int32 → hp_M → Option (Int32 × hp_M)
  | 0, _, _ => none
  | n2 + 1, x2, M => (if (M g 6 1) ≤ x2 then (some ((-1 : Int32), M)) else (if (10 : Int32) ≤ x2 then (some ((-1 : Int32), M)) else (if x2 < 0 ∨ 10 ≤ (x2).toNatClampNeg then none else (if (M g 7 (x2).toNatClampNeg) = a0 then (some (x2, M)) else (L_X4_placeOf_2 g a0 n2 (x2 + (1 : Int32)) M)))))
def F_X4_placeOf (g : Nat) (a0 : Int32) (M : hp_M) : Option (Int32 × hp_M) := (L_X4_placeOf_2 g a0 hp_fu (0 : Int32) M)
set_option maxRecDepth 20000 in
set_option maxHeartbeats 4000000 in
theorem c_X4_placeOf (l : Launch) (g : Nat) (a0 : Int32) (hg : g < 12) (M : hp_M) : hp_Ct l yX4_placeOf cX4_placeOf 3 (some .int) 0 hp_IC (fun adr adV => [.ref (adr g 6), .int a0]) hp_oi M (F_X4_placeOf g a0 M) := by
  refine hp_start "HallPhone$Queue" (fun adr adV => [(0, .ref (adr g 6)), (1, .int a0)]) (by decide) rfl (fun _ _ => by simp only [lg_sl]; exact Nat.le_of_ble_eq_true rfl) (fun _ _ => rfl) ?_
  intro p e s m args below meth c A D ids adr adV cA rep G0 hI hC hr
  unfold F_X4_placeOf
  have l2 : ∀  (n2 : Nat) (x2 : Int32) (M : hp_M), hp_Z p l e (hp_rm 0) s m args below meth c 3 A D ids adr adV cA 0 0 (MQ below (hp_Q A D ids adr adV cA rep hp_oi G0) args s 0 0 A) G0 rep 2 [(0, .ref (adr g 6)), (1, .int a0), (2, .int x2)] [] M (L_X4_placeOf_2 g a0 n2 x2 M) := by
    intro  n2
    induction n2 with
    | zero => intro x2 M; exact hz_none hC
    | succ n2 ih2 =>
      intro x2 M
      rw [L_X4_placeOf_2.eq_2]
      refine hz_iload_n (a := 2) (n := 3) hC dX4_placeOf_2 rfl rfl rfl ?_
      refine hz_aload_n (a := 0) (n := 4) hC dX4_placeOf_3 rfl rfl rfl ?_
      refine fg_X4_15 (n := 7) hC hg hI dX4_placeOf_4 rfl ?_
      refine hz_icmp_ge (tgt := 37) (n := 10) hC dX4_placeOf_7 (by decide) rfl (fun _ => ?_) (fun _ => ?_)
      · refine hz_iconst (v := (-1 : Int32)) (n := 38) hC dX4_placeOf_37 (by decide +kernel) rfl ?_
        exact hz_iret hC hr dX4_placeOf_38
      · refine hz_iload_n (a := 2) (n := 11) hC dX4_placeOf_10 rfl rfl rfl ?_
        refine hz_aload_n (a := 0) (n := 12) hC dX4_placeOf_11 rfl rfl rfl ?_
        refine fg_X4_9 (n := 15) hC hg hI dX4_placeOf_12 rfl ?_
        refine hz_alen (v := (10 : Int32)) (t := 0) (n := 16) hC dX4_placeOf_15 (hI.1 g 7 hg (by decide)) (ha_h7 hg) rfl (by decide +kernel) rfl ?_
        refine hz_icmp_ge (tgt := 37) (n := 19) hC dX4_placeOf_16 (by decide) rfl (fun _ => ?_) (fun _ => ?_)
        · refine hz_iconst (v := (-1 : Int32)) (n := 38) hC dX4_placeOf_37 (by decide +kernel) rfl ?_
          exact hz_iret hC hr dX4_placeOf_38
        · refine hz_aload_n (a := 0) (n := 20) hC dX4_placeOf_19 rfl rfl rfl ?_
          refine fg_X4_9 (n := 23) hC hg hI dX4_placeOf_20 rfl ?_
          refine hz_iload_n (a := 2) (n := 24) hC dX4_placeOf_23 rfl rfl rfl ?_
          refine hz_iald (n := 25) hC dX4_placeOf_24 (hI.1 g 7 hg (by decide)) (ha_h7 hg) rfl (fun _ => ?_)
          refine hz_iload_n (a := 1) (n := 26) hC dX4_placeOf_25 rfl rfl rfl ?_
          refine hz_icmp_ne (tgt := 31) (n := 29) hC dX4_placeOf_26 (by decide) rfl (fun _ => ?_) (fun _ => ?_)
          · refine hz_iload_n (a := 2) (n := 30) hC dX4_placeOf_29 rfl rfl rfl ?_
            exact hz_iret hC hr dX4_placeOf_30
          · refine hz_iinc (a := 2) (v := (x2 + (1 : Int32))) (L' := [(2, .int (x2 + (1 : Int32))), (0, .ref (adr g 6)), (1, .int a0)]) (n := 34) hC dX4_placeOf_31 rfl rfl (by decide) rfl rfl ?_
            refine hz_goto (n := 2) hC dX4_placeOf_34 (by decide) ?_
            refine hz_L (L' := [(0, .ref (adr g 6)), (1, .int a0), (2, .int (x2 + (1 : Int32)))]) [1, 2, 0] rfl ?_
            exact ih2 _ _
  refine hz_iconst (v := (0 : Int32)) (n := 1) hC dX4_placeOf_0 (by decide +kernel) rfl ?_
  refine hz_istore_n (L' := [(2, .int (0 : Int32)), (0, .ref (adr g 6)), (1, .int a0)]) (n := 2) hC dX4_placeOf_1 rfl (by decide) rfl rfl ?_
  refine hz_L (L' := [(0, .ref (adr g 6)), (1, .int a0), (2, .int (0 : Int32))]) [1, 2, 0] rfl ?_
  exact l2 hp_fu _ _
def F_X6_minuteAt (g : Nat) (a0 : Int32) (M : hp_M) : Option (Int32 × hp_M) := (if a0 < 0 then (some ((-1 : Int32), M)) else (if (8 : Int32) ≤ a0 then (some ((-1 : Int32), M)) else (if a0 < 0 ∨ 8 ≤ (a0).toNatClampNeg then none else (some ((M g 10 (a0).toNatClampNeg), M)))))
set_option maxRecDepth 20000 in
set_option maxHeartbeats 4000000 in
theorem c_X6_minuteAt (l : Launch) (g : Nat) (a0 : Int32) (hg : g < 12) (M : hp_M) : hp_Ct l yX6_minuteAt cX6_minuteAt 2 (some .int) 0 hp_IC (fun adr adV => [.ref (adr g 8), .int a0]) hp_oi M (F_X6_minuteAt g a0 M) := by
  refine hp_start "HallPhone$Slate" (fun adr adV => [(0, .ref (adr g 8)), (1, .int a0)]) (by decide) rfl (fun _ _ => by simp only [lg_sl]; exact Nat.le_of_ble_eq_true rfl) (fun _ _ => rfl) ?_
  intro p e s m args below meth c A D ids adr adV cA rep G0 hI hC hr
  unfold F_X6_minuteAt
  refine hz_iload_n (a := 1) (n := 1) hC dX6_minuteAt_0 rfl rfl rfl ?_
  refine hz_if_lt (tgt := 22) (n := 4) hC dX6_minuteAt_1 (by decide) rfl (fun _ => ?_) (fun _ => ?_)
  · refine hz_iconst (v := (-1 : Int32)) (n := 23) hC dX6_minuteAt_22 (by decide +kernel) rfl ?_
    exact hz_iret hC hr dX6_minuteAt_23
  · refine hz_iload_n (a := 1) (n := 5) hC dX6_minuteAt_4 rfl rfl rfl ?_
    refine hz_aload_n (a := 0) (n := 6) hC dX6_minuteAt_5 rfl rfl rfl ?_
    refine fg_X6_15 (n := 9) hC hg hI dX6_minuteAt_6 rfl ?_
    refine hz_alen (v := (8 : Int32)) (t := 0) (n := 10) hC dX6_minuteAt_9 (hI.1 g 10 hg (by decide)) (ha_h10 hg) rfl (by decide +kernel) rfl ?_
    refine hz_icmp_ge (tgt := 22) (n := 13) hC dX6_minuteAt_10 (by decide) rfl (fun _ => ?_) (fun _ => ?_)
    · refine hz_iconst (v := (-1 : Int32)) (n := 23) hC dX6_minuteAt_22 (by decide +kernel) rfl ?_
      exact hz_iret hC hr dX6_minuteAt_23
    · refine hz_aload_n (a := 0) (n := 14) hC dX6_minuteAt_13 rfl rfl rfl ?_
      refine fg_X6_15 (n := 17) hC hg hI dX6_minuteAt_14 rfl ?_
      refine hz_iload_n (a := 1) (n := 18) hC dX6_minuteAt_17 rfl rfl rfl ?_
      refine hz_iald (n := 19) hC dX6_minuteAt_18 (hI.1 g 10 hg (by decide)) (ha_h10 hg) rfl (fun _ => ?_)
      refine hz_goto (n := 23) hC dX6_minuteAt_19 (by decide) ?_
      exact hz_iret hC hr dX6_minuteAt_23
def F_X2_get (g : Nat) (a0 : Int32) (a1 : Int32) (M : hp_M) : Option (Int32 × hp_M) := (if ((a0 * (11 : Int32)) + a1) < 0 then (some ((0 : Int32), M)) else (if (110 : Int32) ≤ ((a0 * (11 : Int32)) + a1) then (some ((0 : Int32), M)) else (if ((a0 * (11 : Int32)) + a1) < 0 ∨ 110 ≤ (((a0 * (11 : Int32)) + a1)).toNatClampNeg then none else (some ((M g 3 (((a0 * (11 : Int32)) + a1)).toNatClampNeg), M)))))
set_option maxRecDepth 20000 in
set_option maxHeartbeats 4000000 in
theorem c_X2_get (l : Launch) (g : Nat) (a0 : Int32) (a1 : Int32) (hg : g < 12) (M : hp_M) : hp_Ct l yX2_get cX2_get 4 (some .int) 0 hp_IC (fun adr adV => [.ref (adr g 0), .int a0, .int a1]) hp_oi M (F_X2_get g a0 a1 M) := by
  refine hp_start "HallPhone$House" (fun adr adV => [(0, .ref (adr g 0)), (1, .int a0), (2, .int a1)]) (by decide) rfl (fun _ _ => by simp only [lg_sl]; exact Nat.le_of_ble_eq_true rfl) (fun _ _ => rfl) ?_
  intro p e s m args below meth c A D ids adr adV cA rep G0 hI hC hr
  unfold F_X2_get
  refine hz_iload_n (a := 1) (n := 1) hC dX2_get_0 rfl rfl rfl ?_
  refine hz_bipush (v := (11 : Int32)) (n := 3) hC dX2_get_1 (by decide +kernel) rfl ?_
  refine hz_imul (n := 4) hC dX2_get_3 rfl ?_
  refine hz_iload_n (a := 2) (n := 5) hC dX2_get_4 rfl rfl rfl ?_
  refine hz_iadd (n := 6) hC dX2_get_5 rfl ?_
  refine hz_istore_n (L' := [(3, .int ((a0 * (11 : Int32)) + a1)), (0, .ref (adr g 0)), (1, .int a0), (2, .int a1)]) (n := 7) hC dX2_get_6 rfl (by decide) rfl rfl ?_
  refine hz_iload_n (a := 0) (n := 8) hC dX2_get_7 rfl rfl rfl ?_
  refine hz_if_lt (tgt := 29) (n := 11) hC dX2_get_8 (by decide) rfl (fun _ => ?_) (fun _ => ?_)
  · refine hz_iconst (v := (0 : Int32)) (n := 30) hC dX2_get_29 (by decide +kernel) rfl ?_
    exact hz_iret hC hr dX2_get_30
  · refine hz_iload_n (a := 0) (n := 12) hC dX2_get_11 rfl rfl rfl ?_
    refine hz_aload_n (a := 1) (n := 13) hC dX2_get_12 rfl rfl rfl ?_
    refine fg_X2_28 (n := 16) hC hg hI dX2_get_13 rfl ?_
    refine hz_alen (v := (110 : Int32)) (t := 0) (n := 17) hC dX2_get_16 (hI.1 g 3 hg (by decide)) (ha_h3 hg) rfl (by decide +kernel) rfl ?_
    refine hz_icmp_ge (tgt := 29) (n := 20) hC dX2_get_17 (by decide) rfl (fun _ => ?_) (fun _ => ?_)
    · refine hz_iconst (v := (0 : Int32)) (n := 30) hC dX2_get_29 (by decide +kernel) rfl ?_
      exact hz_iret hC hr dX2_get_30
    · refine hz_aload_n (a := 1) (n := 21) hC dX2_get_20 rfl rfl rfl ?_
      refine fg_X2_28 (n := 24) hC hg hI dX2_get_21 rfl ?_
      refine hz_iload_n (a := 0) (n := 25) hC dX2_get_24 rfl rfl rfl ?_
      refine hz_iald (n := 26) hC dX2_get_25 (hI.1 g 3 hg (by decide)) (ha_h3 hg) rfl (fun _ => ?_)
      refine hz_goto (n := 30) hC dX2_get_26 (by decide) ?_
      exact hz_iret hC hr dX2_get_30
def F_X3_connect (g : Nat) (a0 : Int32) (a1 : Int32) (a2 : Int32) (M : hp_M) : Option (Unit × hp_M) := (if a2 = 0 ∨ a2 = 1 then (some ((), (hp_p (hp_p (hp_p (hp_p (hp_p M g 5 0 (2 : Int32)) g 5 1 a0) g 5 2 (0 : Int32)) g 5 3 a1) g 5 4 a2))) else none)
set_option maxRecDepth 20000 in
set_option maxHeartbeats 4000000 in
theorem c_X3_connect (l : Launch) (g : Nat) (a0 : Int32) (a1 : Int32) (a2 : Int32) (hg : g < 12) (M : hp_M) : hp_Ct l yX3_connect cX3_connect 4 none 0 hp_IC (fun adr adV => [.ref (adr g 5), .int a0, .int a1, .int a2]) hp_oo M (F_X3_connect g a0 a1 a2 M) := by
  refine hp_start "HallPhone$Phone" (fun adr adV => [(0, .ref (adr g 5)), (1, .int a0), (2, .int a1), (3, .int a2)]) (by decide) rfl (fun _ _ => by simp only [lg_sl]; exact Nat.le_of_ble_eq_true rfl) (fun _ _ => rfl) ?_
  intro p e s m args below meth c A D ids adr adV cA rep G0 hI hC hr
  unfold F_X3_connect
  refine hz_aload_n (a := 0) (n := 1) hC dX3_connect_0 rfl rfl rfl ?_
  refine hz_iconst (v := (2 : Int32)) (n := 2) hC dX3_connect_1 (by decide +kernel) rfl ?_
  refine fp_X3_9 (n := 5) hC hg hI (2 : Int32) dX3_connect_2 rfl ?_
  refine hz_aload_n (a := 0) (n := 6) hC dX3_connect_5 rfl rfl rfl ?_
  refine hz_iload_n (a := 1) (n := 7) hC dX3_connect_6 rfl rfl rfl ?_
  refine fp_X3_15 (n := 10) hC hg hI a0 dX3_connect_7 rfl ?_
  refine hz_aload_n (a := 0) (n := 11) hC dX3_connect_10 rfl rfl rfl ?_
  refine hz_iconst (v := (0 : Int32)) (n := 12) hC dX3_connect_11 (by decide +kernel) rfl ?_
  refine fp_X3_18 (n := 15) hC hg hI (0 : Int32) dX3_connect_12 rfl ?_
  refine hz_aload_n (a := 0) (n := 16) hC dX3_connect_15 rfl rfl rfl ?_
  refine hz_iload_n (a := 2) (n := 17) hC dX3_connect_16 rfl rfl rfl ?_
  refine fp_X3_21 (n := 20) hC hg hI a1 dX3_connect_17 rfl ?_
  refine hz_aload_n (a := 0) (n := 21) hC dX3_connect_20 rfl rfl rfl ?_
  refine hz_iload_n (a := 3) (n := 22) hC dX3_connect_21 rfl rfl rfl ?_
  refine hz_case (fun hb => ?_) (fun _ => hz_none hC)
  refine fp_X3_24 (n := 25) hC hg hI a2 hb dX3_connect_22 rfl ?_
  exact hz_vret hC hr dX3_connect_25
def F_X4_join (g : Nat) (a0 : Int32) (M : hp_M) : Option (Unit × hp_M) := (if (M g 6 1) < 0 then (some ((), M)) else (if (10 : Int32) ≤ (M g 6 1) then (some ((), M)) else (if (M g 6 1) < 0 ∨ 10 ≤ ((M g 6 1)).toNatClampNeg then none else (some ((), (hp_p (hp_p M g 7 ((M g 6 1)).toNatClampNeg a0) g 6 1 (((hp_p M g 7 ((M g 6 1)).toNatClampNeg a0) g 6 1) + (1 : Int32))))))))
set_option maxRecDepth 20000 in
set_option maxHeartbeats 4000000 in
theorem c_X4_join (l : Launch) (g : Nat) (a0 : Int32) (hg : g < 12) (M : hp_M) : hp_Ct l yX4_join cX4_join 2 none 0 hp_IC (fun adr adV => [.ref (adr g 6), .int a0]) hp_oo M (F_X4_join g a0 M) := by
  refine hp_start "HallPhone$Queue" (fun adr adV => [(0, .ref (adr g 6)), (1, .int a0)]) (by decide) rfl (fun _ _ => by simp only [lg_sl]; exact Nat.le_of_ble_eq_true rfl) (fun _ _ => rfl) ?_
  intro p e s m args below meth c A D ids adr adV cA rep G0 hI hC hr
  unfold F_X4_join
  refine hz_aload_n (a := 0) (n := 1) hC dX4_join_0 rfl rfl rfl ?_
  refine fg_X4_15 (n := 4) hC hg hI dX4_join_1 rfl ?_
  refine hz_if_lt (tgt := 39) (n := 7) hC dX4_join_4 (by decide) rfl (fun _ => ?_) (fun _ => ?_)
  · exact hz_vret hC hr dX4_join_39
  · refine hz_aload_n (a := 0) (n := 8) hC dX4_join_7 rfl rfl rfl ?_
    refine fg_X4_15 (n := 11) hC hg hI dX4_join_8 rfl ?_
    refine hz_aload_n (a := 0) (n := 12) hC dX4_join_11 rfl rfl rfl ?_
    refine fg_X4_9 (n := 15) hC hg hI dX4_join_12 rfl ?_
    refine hz_alen (v := (10 : Int32)) (t := 0) (n := 16) hC dX4_join_15 (hI.1 g 7 hg (by decide)) (ha_h7 hg) rfl (by decide +kernel) rfl ?_
    refine hz_icmp_ge (tgt := 39) (n := 19) hC dX4_join_16 (by decide) rfl (fun _ => ?_) (fun _ => ?_)
    · exact hz_vret hC hr dX4_join_39
    · refine hz_aload_n (a := 0) (n := 20) hC dX4_join_19 rfl rfl rfl ?_
      refine fg_X4_9 (n := 23) hC hg hI dX4_join_20 rfl ?_
      refine hz_aload_n (a := 0) (n := 24) hC dX4_join_23 rfl rfl rfl ?_
      refine fg_X4_15 (n := 27) hC hg hI dX4_join_24 rfl ?_
      refine hz_iload_n (a := 1) (n := 28) hC dX4_join_27 rfl rfl rfl ?_
      refine hz_iast (n := 29) hC dX4_join_28 (hI.1 g 7 hg (by decide)) (ha_h7 hg) rfl (fun _ => ?_)
      refine hz_aload_n (a := 0) (n := 30) hC dX4_join_29 rfl rfl rfl ?_
      refine hz_dup (n := 31) hC dX4_join_30 rfl rfl ?_
      refine fg_X4_15 (n := 34) hC hg hI dX4_join_31 rfl ?_
      refine hz_iconst (v := (1 : Int32)) (n := 35) hC dX4_join_34 (by decide +kernel) rfl ?_
      refine hz_iadd (n := 36) hC dX4_join_35 rfl ?_
      refine fp_X4_15 (n := 39) hC hg hI (((hp_p M g 7 ((M g 6 1)).toNatClampNeg a0) g 6 1) + (1 : Int32)) dX4_join_36 rfl ?_
      exact hz_vret hC hr dX4_join_39
def L_X6_countFor_4 (g : Nat) (a0 : Int32)   : Nat → Int32 → Int32 → hp_M → Option (Int32 × hp_M)
  | 0, _, _, _ => none
  | n4 + 1, x2, x3, M => (if (M g 8 2) ≤ x3 then (some (x2, M)) else (hp_b (F_X6_flatAt g x3 M) (fun r1 M1 => (if r1 = a0 then (L_X6_countFor_4 g a0 n4 (x2 + (1 : Int32)) (x3 + (1 : Int32)) M1) else (L_X6_countFor_4 g a0 n4 x2 (x3 + (1 : Int32)) M1)))))
def F_X6_countFor (g : Nat) (a0 : Int32) (M : hp_M) : Option (Int32 × hp_M) := (L_X6_countFor_4 g a0 hp_fu (0 : Int32) (0 : Int32) M)
set_option maxRecDepth 20000 in
set_option maxHeartbeats 4000000 in
theorem c_X6_countFor (l : Launch) (g : Nat) (a0 : Int32) (hg : g < 12) (M : hp_M) : hp_Ct l yX6_countFor cX6_countFor 4 (some .int) 1 hp_IC (fun adr adV => [.ref (adr g 8), .int a0]) hp_oi M (F_X6_countFor g a0 M) := by
  refine hp_start "HallPhone$Slate" (fun adr adV => [(0, .ref (adr g 8)), (1, .int a0)]) (by decide) rfl (fun _ _ => by simp only [lg_sl]; exact Nat.le_of_ble_eq_true rfl) (fun _ _ => rfl) ?_
  intro p e s m args below meth c A D ids adr adV cA rep G0 hI hC hr
  unfold F_X6_countFor
  have l4 : ∀  (n4 : Nat) (x2 : Int32) (x3 : Int32) (M : hp_M), hp_Z p l e (hp_rm 1) s m args below meth c 4 A D ids adr adV cA 0 0 (MQ below (hp_Q A D ids adr adV cA rep hp_oi G0) args s 0 0 A) G0 rep 4 [(0, .ref (adr g 8)), (1, .int a0), (2, .int x2), (3, .int x3)] [] M (L_X6_countFor_4 g a0 n4 x2 x3 M) := by
    intro  n4
    induction n4 with
    | zero => intro x2 x3 M; exact hz_none hC
    | succ n4 ih4 =>
      intro x2 x3 M
      rw [L_X6_countFor_4.eq_2]
      refine hz_iload_n (a := 3) (n := 5) hC dX6_countFor_4 rfl rfl rfl ?_
      refine hz_aload_n (a := 0) (n := 6) hC dX6_countFor_5 rfl rfl rfl ?_
      refine fg_X6_18 (n := 9) hC hg hI dX6_countFor_6 rfl ?_
      refine hz_icmp_ge (tgt := 30) (n := 12) hC dX6_countFor_9 (by decide) rfl (fun _ => ?_) (fun _ => ?_)
      · refine hz_iload_n (a := 2) (n := 31) hC dX6_countFor_30 rfl rfl rfl ?_
        exact hz_iret hC hr dX6_countFor_31
      · refine hz_aload_n (a := 0) (n := 13) hC dX6_countFor_12 rfl rfl rfl ?_
        refine hz_iload_n (a := 3) (n := 14) hC dX6_countFor_13 rfl rfl rfl ?_
        refine hz_callV (k := 1) (As := [.int x3]) (st := []) (S1 := fun r => .int r :: []) (n := 17) hC (c_X6_flatAt l g x3 hg  M) kv_X6_flatAt wd_3_217 hI dX6_countFor_14 rfl (hI.1 g 8 hg (by decide)) (he_X6 hg) rfl rfl rfl (Nat.le_of_ble_eq_true rfl) ⟨Nat.le_of_ble_eq_true rfl, Nat.le_of_ble_eq_true rfl⟩ ⟨Nat.zero_le _, Nat.zero_le _⟩ (fun _ => rfl) rfl (fun r1 M1 _ => ?_)
        refine hz_iload_n (a := 1) (n := 18) hC dX6_countFor_17 rfl rfl rfl ?_
        refine hz_icmp_ne (tgt := 24) (n := 21) hC dX6_countFor_18 (by decide) rfl (fun _ => ?_) (fun _ => ?_)
        · refine hz_iinc (a := 2) (v := (x2 + (1 : Int32))) (L' := [(2, .int (x2 + (1 : Int32))), (0, .ref (adr g 8)), (1, .int a0), (3, .int x3)]) (n := 24) hC dX6_countFor_21 rfl rfl (by decide) rfl rfl ?_
          refine hz_iinc (a := 3) (v := (x3 + (1 : Int32))) (L' := [(3, .int (x3 + (1 : Int32))), (2, .int (x2 + (1 : Int32))), (0, .ref (adr g 8)), (1, .int a0)]) (n := 27) hC dX6_countFor_24 rfl rfl (by decide) rfl rfl ?_
          refine hz_goto (n := 4) hC dX6_countFor_27 (by decide) ?_
          refine hz_L (L' := [(0, .ref (adr g 8)), (1, .int a0), (2, .int (x2 + (1 : Int32))), (3, .int (x3 + (1 : Int32)))]) [2, 3, 1, 0] rfl ?_
          exact ih4 _ _ _
        · refine hz_iinc (a := 3) (v := (x3 + (1 : Int32))) (L' := [(3, .int (x3 + (1 : Int32))), (0, .ref (adr g 8)), (1, .int a0), (2, .int x2)]) (n := 27) hC dX6_countFor_24 rfl rfl (by decide) rfl rfl ?_
          refine hz_goto (n := 4) hC dX6_countFor_27 (by decide) ?_
          refine hz_L (L' := [(0, .ref (adr g 8)), (1, .int a0), (2, .int x2), (3, .int (x3 + (1 : Int32)))]) [1, 2, 3, 0] rfl ?_
          exact ih4 _ _ _
  refine hz_iconst (v := (0 : Int32)) (n := 1) hC dX6_countFor_0 (by decide +kernel) rfl ?_
  refine hz_istore_n (L' := [(2, .int (0 : Int32)), (0, .ref (adr g 8)), (1, .int a0)]) (n := 2) hC dX6_countFor_1 rfl (by decide) rfl rfl ?_
  refine hz_iconst (v := (0 : Int32)) (n := 3) hC dX6_countFor_2 (by decide +kernel) rfl ?_
  refine hz_istore_n (L' := [(3, .int (0 : Int32)), (2, .int (0 : Int32)), (0, .ref (adr g 8)), (1, .int a0)]) (n := 4) hC dX6_countFor_3 rfl (by decide) rfl rfl ?_
  refine hz_L (L' := [(0, .ref (adr g 8)), (1, .int a0), (2, .int (0 : Int32)), (3, .int (0 : Int32))]) [2, 3, 1, 0] rfl ?_
  exact l4 hp_fu _ _ _
def F_X7_takesNumber (v : Nat) (M : hp_M) : Option (Int32 × hp_M) := (if (hp_vgre.getD v 0) ≤ 0 then (some ((0 : Int32), M)) else (some ((1 : Int32), M)))
set_option maxRecDepth 20000 in
set_option maxHeartbeats 4000000 in
theorem c_X7_takesNumber (l : Launch) (v : Nat) (hv : v < 12) (M : hp_M) : hp_Ct l yX7_takesNumber cX7_takesNumber 1 (some .boolean) 0 hp_I0 (fun adr adV => [.ref (adV v)]) hp_oi M (F_X7_takesNumber v M) := by
  refine hp_start "HallPhone$Verb" (fun adr adV => [(0, .ref (adV v))]) (by decide) rfl (fun _ _ => by simp only [lg_sl]; exact Nat.le_of_ble_eq_true rfl) (fun _ _ => rfl) ?_
  intro p e s m args below meth c A D ids adr adV cA rep G0 hI hC hr
  unfold F_X7_takesNumber
  refine hz_aload_n (a := 0) (n := 1) hC dX7_takesNumber_0 rfl rfl rfl ?_
  refine hz_vget (n := 4) hC dX7_takesNumber_1 (hp_vgre_OF hC.2.2.2.2.1 hv) wd_4_149 rfl ?_
  refine hz_if_le (tgt := 11) (n := 7) hC dX7_takesNumber_4 (by decide) rfl (fun _ => ?_) (fun _ => ?_)
  · refine hz_iconst (v := (0 : Int32)) (n := 12) hC dX7_takesNumber_11 (by decide +kernel) rfl ?_
    exact hz_zret hC hr nz_0 dX7_takesNumber_12
  · refine hz_iconst (v := (1 : Int32)) (n := 8) hC dX7_takesNumber_7 (by decide +kernel) rfl ?_
    refine hz_goto (n := 12) hC dX7_takesNumber_8 (by decide) ?_
    exact hz_zret hC hr nz_1 dX7_takesNumber_12
def F_X2_put (g : Nat) (a0 : Int32) (a1 : Int32) (a2 : Int32) (M : hp_M) : Option (Unit × hp_M) := (if ((a0 * (11 : Int32)) + a1) < 0 then (some ((), M)) else (if (110 : Int32) ≤ ((a0 * (11 : Int32)) + a1) then (some ((), M)) else (if ((a0 * (11 : Int32)) + a1) < 0 ∨ 110 ≤ (((a0 * (11 : Int32)) + a1)).toNatClampNeg then none else (some ((), (hp_p M g 3 (((a0 * (11 : Int32)) + a1)).toNatClampNeg a2))))))
set_option maxRecDepth 20000 in
set_option maxHeartbeats 4000000 in
theorem c_X2_put (l : Launch) (g : Nat) (a0 : Int32) (a1 : Int32) (a2 : Int32) (hg : g < 12) (M : hp_M) : hp_Ct l yX2_put cX2_put 5 none 0 hp_IC (fun adr adV => [.ref (adr g 0), .int a0, .int a1, .int a2]) hp_oo M (F_X2_put g a0 a1 a2 M) := by
  refine hp_start "HallPhone$House" (fun adr adV => [(0, .ref (adr g 0)), (1, .int a0), (2, .int a1), (3, .int a2)]) (by decide) rfl (fun _ _ => by simp only [lg_sl]; exact Nat.le_of_ble_eq_true rfl) (fun _ _ => rfl) ?_
  intro p e s m args below meth c A D ids adr adV cA rep G0 hI hC hr
  unfold F_X2_put
  refine hz_iload_n (a := 1) (n := 1) hC dX2_put_0 rfl rfl rfl ?_
  refine hz_bipush (v := (11 : Int32)) (n := 3) hC dX2_put_1 (by decide +kernel) rfl ?_
  refine hz_imul (n := 4) hC dX2_put_3 rfl ?_
  refine hz_iload_n (a := 2) (n := 5) hC dX2_put_4 rfl rfl rfl ?_
  refine hz_iadd (n := 6) hC dX2_put_5 rfl ?_
  refine hz_istore (L' := [(4, .int ((a0 * (11 : Int32)) + a1)), (0, .ref (adr g 0)), (1, .int a0), (2, .int a1), (3, .int a2)]) (n := 8) hC dX2_put_6 (by decide) rfl rfl ?_
  refine hz_iload (a := 0) (n := 10) hC dX2_put_8 rfl rfl ?_
  refine hz_if_lt (tgt := 31) (n := 13) hC dX2_put_10 (by decide) rfl (fun _ => ?_) (fun _ => ?_)
  · exact hz_vret hC hr dX2_put_31
  · refine hz_iload (a := 0) (n := 15) hC dX2_put_13 rfl rfl ?_
    refine hz_aload_n (a := 1) (n := 16) hC dX2_put_15 rfl rfl rfl ?_
    refine fg_X2_28 (n := 19) hC hg hI dX2_put_16 rfl ?_
    refine hz_alen (v := (110 : Int32)) (t := 0) (n := 20) hC dX2_put_19 (hI.1 g 3 hg (by decide)) (ha_h3 hg) rfl (by decide +kernel) rfl ?_
    refine hz_icmp_ge (tgt := 31) (n := 23) hC dX2_put_20 (by decide) rfl (fun _ => ?_) (fun _ => ?_)
    · exact hz_vret hC hr dX2_put_31
    · refine hz_aload_n (a := 1) (n := 24) hC dX2_put_23 rfl rfl rfl ?_
      refine fg_X2_28 (n := 27) hC hg hI dX2_put_24 rfl ?_
      refine hz_iload (a := 0) (n := 29) hC dX2_put_27 rfl rfl ?_
      refine hz_iload_n (a := 4) (n := 30) hC dX2_put_29 rfl rfl rfl ?_
      refine hz_iast (n := 31) hC dX2_put_30 (hI.1 g 3 hg (by decide)) (ha_h3 hg) rfl (fun _ => ?_)
      exact hz_vret hC hr dX2_put_31
def L_X4_leave_4 (g : Nat) (a0 : Int32)   : Nat → Int32 → Int32 → hp_M → Option (Unit × hp_M)
  | 0, _, _, _ => none
  | n4 + 1, x2, x3, M => (if (M g 6 1) ≤ x3 then (some ((), (hp_p M g 6 1 x2))) else (if (10 : Int32) ≤ x3 then (some ((), (hp_p M g 6 1 x2))) else (if x3 < 0 ∨ 10 ≤ (x3).toNatClampNeg then none else (if (M g 7 (x3).toNatClampNeg) = a0 then (L_X4_leave_4 g a0 n4 x2 (x3 + (1 : Int32)) M) else (if x3 < x2 then (L_X4_leave_4 g a0 n4 x2 (x3 + (1 : Int32)) M) else (if x3 < 0 ∨ 10 ≤ (x3).toNatClampNeg then none else (if x2 < 0 ∨ 10 ≤ (x2).toNatClampNeg then none else (L_X4_leave_4 g a0 n4 (x2 + (1 : Int32)) (x3 + (1 : Int32)) (hp_p M g 7 (x2).toNatClampNeg (M g 7 (x3).toNatClampNeg))))))))))
def F_X4_leave (g : Nat) (a0 : Int32) (M : hp_M) : Option (Unit × hp_M) := (L_X4_leave_4 g a0 hp_fu (0 : Int32) (0 : Int32) M)
set_option maxRecDepth 20000 in
set_option maxHeartbeats 4000000 in
theorem c_X4_leave (l : Launch) (g : Nat) (a0 : Int32) (hg : g < 12) (M : hp_M) : hp_Ct l yX4_leave cX4_leave 4 none 0 hp_IC (fun adr adV => [.ref (adr g 6), .int a0]) hp_oo M (F_X4_leave g a0 M) := by
  refine hp_start "HallPhone$Queue" (fun adr adV => [(0, .ref (adr g 6)), (1, .int a0)]) (by decide) rfl (fun _ _ => by simp only [lg_sl]; exact Nat.le_of_ble_eq_true rfl) (fun _ _ => rfl) ?_
  intro p e s m args below meth c A D ids adr adV cA rep G0 hI hC hr
  unfold F_X4_leave
  have l4 : ∀  (n4 : Nat) (x2 : Int32) (x3 : Int32) (M : hp_M), hp_Z p l e (hp_rm 0) s m args below meth c 4 A D ids adr adV cA 0 0 (MQ below (hp_Q A D ids adr adV cA rep hp_oo G0) args s 0 0 A) G0 rep 4 [(0, .ref (adr g 6)), (1, .int a0), (2, .int x2), (3, .int x3)] [] M (L_X4_leave_4 g a0 n4 x2 x3 M) := by
    intro  n4
    induction n4 with
    | zero => intro x2 x3 M; exact hz_none hC
    | succ n4 ih4 =>
      intro x2 x3 M
      rw [L_X4_leave_4.eq_2]
      refine hz_iload_n (a := 3) (n := 5) hC dX4_leave_4 rfl rfl rfl ?_
      refine hz_aload_n (a := 0) (n := 6) hC dX4_leave_5 rfl rfl rfl ?_
      refine fg_X4_15 (n := 9) hC hg hI dX4_leave_6 rfl ?_
      refine hz_icmp_ge (tgt := 57) (n := 12) hC dX4_leave_9 (by decide) rfl (fun _ => ?_) (fun _ => ?_)
      · refine hz_aload_n (a := 0) (n := 58) hC dX4_leave_57 rfl rfl rfl ?_
        refine hz_iload_n (a := 2) (n := 59) hC dX4_leave_58 rfl rfl rfl ?_
        refine fp_X4_15 (n := 62) hC hg hI x2 dX4_leave_59 rfl ?_
        exact hz_vret hC hr dX4_leave_62
      · refine hz_iload_n (a := 3) (n := 13) hC dX4_leave_12 rfl rfl rfl ?_
        refine hz_aload_n (a := 0) (n := 14) hC dX4_leave_13 rfl rfl rfl ?_
        refine fg_X4_9 (n := 17) hC hg hI dX4_leave_14 rfl ?_
        refine hz_alen (v := (10 : Int32)) (t := 0) (n := 18) hC dX4_leave_17 (hI.1 g 7 hg (by decide)) (ha_h7 hg) rfl (by decide +kernel) rfl ?_
        refine hz_icmp_ge (tgt := 57) (n := 21) hC dX4_leave_18 (by decide) rfl (fun _ => ?_) (fun _ => ?_)
        · refine hz_aload_n (a := 0) (n := 58) hC dX4_leave_57 rfl rfl rfl ?_
          refine hz_iload_n (a := 2) (n := 59) hC dX4_leave_58 rfl rfl rfl ?_
          refine fp_X4_15 (n := 62) hC hg hI x2 dX4_leave_59 rfl ?_
          exact hz_vret hC hr dX4_leave_62
        · refine hz_aload_n (a := 0) (n := 22) hC dX4_leave_21 rfl rfl rfl ?_
          refine fg_X4_9 (n := 25) hC hg hI dX4_leave_22 rfl ?_
          refine hz_iload_n (a := 3) (n := 26) hC dX4_leave_25 rfl rfl rfl ?_
          refine hz_iald (n := 27) hC dX4_leave_26 (hI.1 g 7 hg (by decide)) (ha_h7 hg) rfl (fun _ => ?_)
          refine hz_iload_n (a := 1) (n := 28) hC dX4_leave_27 rfl rfl rfl ?_
          refine hz_icmp_eq (tgt := 51) (n := 31) hC dX4_leave_28 (by decide) rfl (fun _ => ?_) (fun _ => ?_)
          · refine hz_iinc (a := 3) (v := (x3 + (1 : Int32))) (L' := [(3, .int (x3 + (1 : Int32))), (0, .ref (adr g 6)), (1, .int a0), (2, .int x2)]) (n := 54) hC dX4_leave_51 rfl rfl (by decide) rfl rfl ?_
            refine hz_goto (n := 4) hC dX4_leave_54 (by decide) ?_
            refine hz_L (L' := [(0, .ref (adr g 6)), (1, .int a0), (2, .int x2), (3, .int (x3 + (1 : Int32)))]) [1, 2, 3, 0] rfl ?_
            exact ih4 _ _ _
          · refine hz_iload_n (a := 2) (n := 32) hC dX4_leave_31 rfl rfl rfl ?_
            refine hz_iload_n (a := 3) (n := 33) hC dX4_leave_32 rfl rfl rfl ?_
            refine hz_icmp_gt (tgt := 51) (n := 36) hC dX4_leave_33 (by decide) rfl (fun _ => ?_) (fun _ => ?_)
            · refine hz_iinc (a := 3) (v := (x3 + (1 : Int32))) (L' := [(3, .int (x3 + (1 : Int32))), (0, .ref (adr g 6)), (1, .int a0), (2, .int x2)]) (n := 54) hC dX4_leave_51 rfl rfl (by decide) rfl rfl ?_
              refine hz_goto (n := 4) hC dX4_leave_54 (by decide) ?_
              refine hz_L (L' := [(0, .ref (adr g 6)), (1, .int a0), (2, .int x2), (3, .int (x3 + (1 : Int32)))]) [1, 2, 3, 0] rfl ?_
              exact ih4 _ _ _
            · refine hz_aload_n (a := 0) (n := 37) hC dX4_leave_36 rfl rfl rfl ?_
              refine fg_X4_9 (n := 40) hC hg hI dX4_leave_37 rfl ?_
              refine hz_iload_n (a := 2) (n := 41) hC dX4_leave_40 rfl rfl rfl ?_
              refine hz_aload_n (a := 0) (n := 42) hC dX4_leave_41 rfl rfl rfl ?_
              refine fg_X4_9 (n := 45) hC hg hI dX4_leave_42 rfl ?_
              refine hz_iload_n (a := 3) (n := 46) hC dX4_leave_45 rfl rfl rfl ?_
              refine hz_iald (n := 47) hC dX4_leave_46 (hI.1 g 7 hg (by decide)) (ha_h7 hg) rfl (fun _ => ?_)
              refine hz_iast (n := 48) hC dX4_leave_47 (hI.1 g 7 hg (by decide)) (ha_h7 hg) rfl (fun _ => ?_)
              refine hz_iinc (a := 2) (v := (x2 + (1 : Int32))) (L' := [(2, .int (x2 + (1 : Int32))), (0, .ref (adr g 6)), (1, .int a0), (3, .int x3)]) (n := 51) hC dX4_leave_48 rfl rfl (by decide) rfl rfl ?_
              refine hz_iinc (a := 3) (v := (x3 + (1 : Int32))) (L' := [(3, .int (x3 + (1 : Int32))), (2, .int (x2 + (1 : Int32))), (0, .ref (adr g 6)), (1, .int a0)]) (n := 54) hC dX4_leave_51 rfl rfl (by decide) rfl rfl ?_
              refine hz_goto (n := 4) hC dX4_leave_54 (by decide) ?_
              refine hz_L (L' := [(0, .ref (adr g 6)), (1, .int a0), (2, .int (x2 + (1 : Int32))), (3, .int (x3 + (1 : Int32)))]) [2, 3, 1, 0] rfl ?_
              exact ih4 _ _ _
  refine hz_iconst (v := (0 : Int32)) (n := 1) hC dX4_leave_0 (by decide +kernel) rfl ?_
  refine hz_istore_n (L' := [(2, .int (0 : Int32)), (0, .ref (adr g 6)), (1, .int a0)]) (n := 2) hC dX4_leave_1 rfl (by decide) rfl rfl ?_
  refine hz_iconst (v := (0 : Int32)) (n := 3) hC dX4_leave_2 (by decide +kernel) rfl ?_
  refine hz_istore_n (L' := [(3, .int (0 : Int32)), (2, .int (0 : Int32)), (0, .ref (adr g 6)), (1, .int a0)]) (n := 4) hC dX4_leave_3 rfl (by decide) rfl rfl ?_
  refine hz_L (L' := [(0, .ref (adr g 6)), (1, .int a0), (2, .int (0 : Int32)), (3, .int (0 : Int32))]) [2, 3, 1, 0] rfl ?_
  exact l4 hp_fu _ _ _
def F_X6_write (g : Nat) (a0 : Int32) (a1 : Int32) (M : hp_M) : Option (Unit × hp_M) := (if (M g 8 2) < 0 then (some ((), M)) else (if (8 : Int32) ≤ (M g 8 2) then (some ((), M)) else (if (8 : Int32) ≤ (M g 8 2) then (some ((), M)) else (if (M g 8 2) < 0 ∨ 8 ≤ ((M g 8 2)).toNatClampNeg then none else (if ((hp_p M g 9 ((M g 8 2)).toNatClampNeg a0) g 8 2) < 0 ∨ 8 ≤ (((hp_p M g 9 ((M g 8 2)).toNatClampNeg a0) g 8 2)).toNatClampNeg then none else (some ((), (hp_p (hp_p (hp_p M g 9 ((M g 8 2)).toNatClampNeg a0) g 10 (((hp_p M g 9 ((M g 8 2)).toNatClampNeg a0) g 8 2)).toNatClampNeg a1) g 8 2 (((hp_p (hp_p M g 9 ((M g 8 2)).toNatClampNeg a0) g 10 (((hp_p M g 9 ((M g 8 2)).toNatClampNeg a0) g 8 2)).toNatClampNeg a1) g 8 2) + (1 : Int32))))))))))
set_option maxRecDepth 20000 in
set_option maxHeartbeats 4000000 in
theorem c_X6_write (l : Launch) (g : Nat) (a0 : Int32) (a1 : Int32) (hg : g < 12) (M : hp_M) : hp_Ct l yX6_write cX6_write 3 none 0 hp_IC (fun adr adV => [.ref (adr g 8), .int a0, .int a1]) hp_oo M (F_X6_write g a0 a1 M) := by
  refine hp_start "HallPhone$Slate" (fun adr adV => [(0, .ref (adr g 8)), (1, .int a0), (2, .int a1)]) (by decide) rfl (fun _ _ => by simp only [lg_sl]; exact Nat.le_of_ble_eq_true rfl) (fun _ _ => rfl) ?_
  intro p e s m args below meth c A D ids adr adV cA rep G0 hI hC hr
  unfold F_X6_write
  refine hz_aload_n (a := 0) (n := 1) hC dX6_write_0 rfl rfl rfl ?_
  refine fg_X6_18 (n := 4) hC hg hI dX6_write_1 rfl ?_
  refine hz_if_lt (tgt := 61) (n := 7) hC dX6_write_4 (by decide) rfl (fun _ => ?_) (fun _ => ?_)
  · exact hz_vret hC hr dX6_write_61
  · refine hz_aload_n (a := 0) (n := 8) hC dX6_write_7 rfl rfl rfl ?_
    refine fg_X6_18 (n := 11) hC hg hI dX6_write_8 rfl ?_
    refine hz_aload_n (a := 0) (n := 12) hC dX6_write_11 rfl rfl rfl ?_
    refine fg_X6_9 (n := 15) hC hg hI dX6_write_12 rfl ?_
    refine hz_alen (v := (8 : Int32)) (t := 0) (n := 16) hC dX6_write_15 (hI.1 g 9 hg (by decide)) (ha_h9 hg) rfl (by decide +kernel) rfl ?_
    refine hz_icmp_ge (tgt := 61) (n := 19) hC dX6_write_16 (by decide) rfl (fun _ => ?_) (fun _ => ?_)
    · exact hz_vret hC hr dX6_write_61
    · refine hz_aload_n (a := 0) (n := 20) hC dX6_write_19 rfl rfl rfl ?_
      refine fg_X6_18 (n := 23) hC hg hI dX6_write_20 rfl ?_
      refine hz_aload_n (a := 0) (n := 24) hC dX6_write_23 rfl rfl rfl ?_
      refine fg_X6_15 (n := 27) hC hg hI dX6_write_24 rfl ?_
      refine hz_alen (v := (8 : Int32)) (t := 0) (n := 28) hC dX6_write_27 (hI.1 g 10 hg (by decide)) (ha_h10 hg) rfl (by decide +kernel) rfl ?_
      refine hz_icmp_ge (tgt := 61) (n := 31) hC dX6_write_28 (by decide) rfl (fun _ => ?_) (fun _ => ?_)
      · exact hz_vret hC hr dX6_write_61
      · refine hz_aload_n (a := 0) (n := 32) hC dX6_write_31 rfl rfl rfl ?_
        refine fg_X6_9 (n := 35) hC hg hI dX6_write_32 rfl ?_
        refine hz_aload_n (a := 0) (n := 36) hC dX6_write_35 rfl rfl rfl ?_
        refine fg_X6_18 (n := 39) hC hg hI dX6_write_36 rfl ?_
        refine hz_iload_n (a := 1) (n := 40) hC dX6_write_39 rfl rfl rfl ?_
        refine hz_iast (n := 41) hC dX6_write_40 (hI.1 g 9 hg (by decide)) (ha_h9 hg) rfl (fun _ => ?_)
        refine hz_aload_n (a := 0) (n := 42) hC dX6_write_41 rfl rfl rfl ?_
        refine fg_X6_15 (n := 45) hC hg hI dX6_write_42 rfl ?_
        refine hz_aload_n (a := 0) (n := 46) hC dX6_write_45 rfl rfl rfl ?_
        refine fg_X6_18 (n := 49) hC hg hI dX6_write_46 rfl ?_
        refine hz_iload_n (a := 2) (n := 50) hC dX6_write_49 rfl rfl rfl ?_
        refine hz_iast (n := 51) hC dX6_write_50 (hI.1 g 10 hg (by decide)) (ha_h10 hg) rfl (fun _ => ?_)
        refine hz_aload_n (a := 0) (n := 52) hC dX6_write_51 rfl rfl rfl ?_
        refine hz_dup (n := 53) hC dX6_write_52 rfl rfl ?_
        refine fg_X6_18 (n := 56) hC hg hI dX6_write_53 rfl ?_
        refine hz_iconst (v := (1 : Int32)) (n := 57) hC dX6_write_56 (by decide +kernel) rfl ?_
        refine hz_iadd (n := 58) hC dX6_write_57 rfl ?_
        refine fp_X6_18 (n := 61) hC hg hI (((hp_p (hp_p M g 9 ((M g 8 2)).toNatClampNeg a0) g 10 (((hp_p M g 9 ((M g 8 2)).toNatClampNeg a0) g 8 2)).toNatClampNeg a1) g 8 2) + (1 : Int32)) dX6_write_58 rfl ?_
        exact hz_vret hC hr dX6_write_61
def L_X7_ofSetting_9 (a0 : Int32)  (k9_2 : Int32) : Nat → Int32 → hp_M → Option (Int32 × hp_M)
  | 0, _, _ => none
  | n9 + 1, x3, M => (if k9_2 ≤ x3 then (some ((-1 : Int32), M)) else (if x3 < 0 ∨ 12 ≤ (x3).toNatClampNeg then none else (if (hp_vset.getD ((x3).toNatClampNeg) 0) = a0 then (if a0 = (-1 : Int32) then (L_X7_ofSetting_9 a0 k9_2 n9 (x3 + (1 : Int32)) M) else (some (nI ((x3).toNatClampNeg), M))) else (L_X7_ofSetting_9 a0 k9_2 n9 (x3 + (1 : Int32)) M))))
def F_X7_ofSetting (a0 : Int32) (M : hp_M) : Option (Int32 × hp_M) := (L_X7_ofSetting_9 a0 (nI 12) hp_fu (0 : Int32) M)
set_option maxRecDepth 20000 in
set_option maxHeartbeats 4000000 in
theorem c_X7_ofSetting (l : Launch) (a0 : Int32)  (M : hp_M) : hp_Ct l yX7_ofSetting cX7_ofSetting 5 (some (.object "HallPhone$Verb")) 0 hp_I0 (fun adr adV => [.int a0]) hp_oe M (F_X7_ofSetting a0 M) := by
  refine hp_start "HallPhone$Verb" (fun adr adV => [(0, .int a0)]) (by decide) rfl (fun _ _ => by simp only [lg_sl]; exact Nat.le_of_ble_eq_true rfl) (fun _ _ => rfl) ?_
  intro p e s m args below meth c A D ids adr adV cA rep G0 hI hC hr
  unfold F_X7_ofSetting
  have l9 : ∀ (k9_2 : Int32) (n9 : Nat) (x3 : Int32) (M : hp_M), hp_Z p l e (hp_rm 0) s m args below meth c 5 A D ids adr adV cA 0 0 (MQ below (hp_Q A D ids adr adV cA rep hp_oe G0) args s 0 0 A) G0 rep 9 [(0, .int a0), (1, .ref (adV 14)), (2, .int k9_2), (3, .int x3)] [] M (L_X7_ofSetting_9 a0 k9_2 n9 x3 M) := by
    intro k9_2 n9
    induction n9 with
    | zero => intro x3 M; exact hz_none hC
    | succ n9 ih9 =>
      intro x3 M
      rw [L_X7_ofSetting_9.eq_2]
      refine hz_iload_n (a := 3) (n := 10) hC dX7_ofSetting_9 rfl rfl rfl ?_
      refine hz_iload_n (a := 2) (n := 11) hC dX7_ofSetting_10 rfl rfl rfl ?_
      refine hz_icmp_ge (tgt := 42) (n := 14) hC dX7_ofSetting_11 (by decide) rfl (fun _ => ?_) (fun _ => ?_)
      · refine hz_null (n := 43) hC dX7_ofSetting_42 rfl ?_
        exact hz_eret0 hC hr (Or.inl ⟨_, rfl⟩) dX7_ofSetting_43
      · refine hz_aload_n (a := 1) (n := 15) hC dX7_ofSetting_14 rfl rfl rfl ?_
        refine hz_iload_n (a := 3) (n := 16) hC dX7_ofSetting_15 rfl rfl rfl ?_
        refine hz_taald (n := 17) hC dX7_ofSetting_16 rfl (fun he1 => ?_)
        refine hz_astore (L' := [(4, .ref (adV ((x3).toNatClampNeg))), (0, .int a0), (1, .ref (adV 14)), (2, .int k9_2), (3, .int x3)]) (n := 19) hC dX7_ofSetting_17 (by decide) rfl rfl ?_
        refine hz_aload (a := 0) (n := 21) hC dX7_ofSetting_19 rfl rfl ?_
        refine hz_vget (n := 24) hC dX7_ofSetting_21 (hp_vset_OF hC.2.2.2.2.1 he1) wd_4_156 rfl ?_
        refine hz_iload_n (a := 1) (n := 25) hC dX7_ofSetting_24 rfl rfl rfl ?_
        refine hz_icmp_ne (tgt := 36) (n := 28) hC dX7_ofSetting_25 (by decide) rfl (fun _ => ?_) (fun _ => ?_)
        · refine hz_iload_n (a := 1) (n := 29) hC dX7_ofSetting_28 rfl rfl rfl ?_
          refine hz_iconst (v := (-1 : Int32)) (n := 30) hC dX7_ofSetting_29 (by decide +kernel) rfl ?_
          refine hz_icmp_eq (tgt := 36) (n := 33) hC dX7_ofSetting_30 (by decide) rfl (fun _ => ?_) (fun _ => ?_)
          · refine hz_iinc (a := 4) (v := (x3 + (1 : Int32))) (L' := [(3, .int (x3 + (1 : Int32))), (4, .ref (adV ((x3).toNatClampNeg))), (0, .int a0), (1, .ref (adV 14)), (2, .int k9_2)]) (n := 39) hC dX7_ofSetting_36 rfl rfl (by decide) rfl rfl ?_
            refine hz_goto (n := 9) hC dX7_ofSetting_39 (by decide) ?_
            refine hz_L (L' := [(0, .int a0), (1, .ref (adV 14)), (2, .int k9_2), (3, .int (x3 + (1 : Int32)))]) [2, 3, 4, 0] rfl ?_
            exact ih9 _ _
          · refine hz_aload (a := 0) (n := 35) hC dX7_ofSetting_33 rfl rfl ?_
            exact hz_eretN hC he1 hr (Or.inl ⟨_, rfl⟩) dX7_ofSetting_35
        · refine hz_iinc (a := 4) (v := (x3 + (1 : Int32))) (L' := [(3, .int (x3 + (1 : Int32))), (4, .ref (adV ((x3).toNatClampNeg))), (0, .int a0), (1, .ref (adV 14)), (2, .int k9_2)]) (n := 39) hC dX7_ofSetting_36 rfl rfl (by decide) rfl rfl ?_
          refine hz_goto (n := 9) hC dX7_ofSetting_39 (by decide) ?_
          refine hz_L (L' := [(0, .int a0), (1, .ref (adV 14)), (2, .int k9_2), (3, .int (x3 + (1 : Int32)))]) [2, 3, 4, 0] rfl ?_
          exact ih9 _ _
  refine hz_gets (k := 14) (n := 3) hC dX7_ofSetting_0 wd_2_123 wd_1_18.1 (by decide +kernel) wd_4_52 rfl ?_
  refine hz_astore_n (L' := [(1, .ref (adV 14)), (0, .int a0)]) (n := 4) hC dX7_ofSetting_3 rfl (by decide) rfl rfl ?_
  refine hz_aload_n (a := 0) (n := 5) hC dX7_ofSetting_4 rfl rfl rfl ?_
  refine hz_tlen (n := 6) hC dX7_ofSetting_5 (hp_all_T hC.2.2.2.2.1) rfl ?_
  refine hz_istore_n (L' := [(2, .int (nI 12)), (1, .ref (adV 14)), (0, .int a0)]) (n := 7) hC dX7_ofSetting_6 rfl (by decide) rfl rfl ?_
  refine hz_iconst (v := (0 : Int32)) (n := 8) hC dX7_ofSetting_7 (by decide +kernel) rfl ?_
  refine hz_istore_n (L' := [(3, .int (0 : Int32)), (2, .int (nI 12)), (1, .ref (adV 14)), (0, .int a0)]) (n := 9) hC dX7_ofSetting_8 rfl (by decide) rfl rfl ?_
  refine hz_L (L' := [(0, .int a0), (1, .ref (adV 14)), (2, .int (nI 12)), (3, .int (0 : Int32))]) [3, 2, 1, 0] rfl ?_
  exact l9 _ hp_fu _ _
def F_X2_settingNumber (g : Nat) (a0 : Int32) (M : hp_M) : Option (Int32 × hp_M) := (if a0 < 0 then (some ((0 : Int32), M)) else (if (6 : Int32) ≤ a0 then (some ((0 : Int32), M)) else (if a0 < 0 ∨ 6 ≤ (a0).toNatClampNeg then none else (some ((M g 1 (a0).toNatClampNeg), M)))))
set_option maxRecDepth 20000 in
set_option maxHeartbeats 4000000 in
theorem c_X2_settingNumber (l : Launch) (g : Nat) (a0 : Int32) (hg : g < 12) (M : hp_M) : hp_Ct l yX2_settingNumber cX2_settingNumber 2 (some .int) 0 hp_IC (fun adr adV => [.ref (adr g 0), .int a0]) hp_oi M (F_X2_settingNumber g a0 M) := by
  refine hp_start "HallPhone$House" (fun adr adV => [(0, .ref (adr g 0)), (1, .int a0)]) (by decide) rfl (fun _ _ => by simp only [lg_sl]; exact Nat.le_of_ble_eq_true rfl) (fun _ _ => rfl) ?_
  intro p e s m args below meth c A D ids adr adV cA rep G0 hI hC hr
  unfold F_X2_settingNumber
  refine hz_iload_n (a := 1) (n := 1) hC dX2_settingNumber_0 rfl rfl rfl ?_
  refine hz_if_lt (tgt := 22) (n := 4) hC dX2_settingNumber_1 (by decide) rfl (fun _ => ?_) (fun _ => ?_)
  · refine hz_iconst (v := (0 : Int32)) (n := 23) hC dX2_settingNumber_22 (by decide +kernel) rfl ?_
    exact hz_iret hC hr dX2_settingNumber_23
  · refine hz_iload_n (a := 1) (n := 5) hC dX2_settingNumber_4 rfl rfl rfl ?_
    refine hz_aload_n (a := 0) (n := 6) hC dX2_settingNumber_5 rfl rfl rfl ?_
    refine fg_X2_21 (n := 9) hC hg hI dX2_settingNumber_6 rfl ?_
    refine hz_alen (v := (6 : Int32)) (t := 0) (n := 10) hC dX2_settingNumber_9 (hI.1 g 1 hg (by decide)) (ha_h1 hg) rfl (by decide +kernel) rfl ?_
    refine hz_icmp_ge (tgt := 22) (n := 13) hC dX2_settingNumber_10 (by decide) rfl (fun _ => ?_) (fun _ => ?_)
    · refine hz_iconst (v := (0 : Int32)) (n := 23) hC dX2_settingNumber_22 (by decide +kernel) rfl ?_
      exact hz_iret hC hr dX2_settingNumber_23
    · refine hz_aload_n (a := 0) (n := 14) hC dX2_settingNumber_13 rfl rfl rfl ?_
      refine fg_X2_21 (n := 17) hC hg hI dX2_settingNumber_14 rfl ?_
      refine hz_iload_n (a := 1) (n := 18) hC dX2_settingNumber_17 rfl rfl rfl ?_
      refine hz_iald (n := 19) hC dX2_settingNumber_18 (hI.1 g 1 hg (by decide)) (ha_h1 hg) rfl (fun _ => ?_)
      refine hz_goto (n := 23) hC dX2_settingNumber_19 (by decide) ?_
      exact hz_iret hC hr dX2_settingNumber_23
def L_X6_wipeFor_10 (g : Nat) (a0 : Int32)  (k10_3 : Int32) : Nat → Int32 → Int32 → hp_M → Option (Int32 × hp_M)
  | 0, _, _, _ => none
  | n10 + 1, x2, x4, M => (if k10_3 ≤ x4 then (some ((k10_3 - x2), (hp_p M g 8 2 x2))) else (if (8 : Int32) ≤ x4 then (some ((k10_3 - x2), (hp_p M g 8 2 x2))) else (if (8 : Int32) ≤ x4 then (some ((k10_3 - x2), (hp_p M g 8 2 x2))) else (if x4 < 0 ∨ 8 ≤ (x4).toNatClampNeg then none else (if (M g 9 (x4).toNatClampNeg) = a0 then (L_X6_wipeFor_10 g a0 k10_3 n10 x2 (x4 + (1 : Int32)) M) else (if x4 < x2 then (L_X6_wipeFor_10 g a0 k10_3 n10 x2 (x4 + (1 : Int32)) M) else (if x4 < 0 ∨ 8 ≤ (x4).toNatClampNeg then none else (if x2 < 0 ∨ 8 ≤ (x2).toNatClampNeg then none else (if x4 < 0 ∨ 8 ≤ (x4).toNatClampNeg then none else (if x2 < 0 ∨ 8 ≤ (x2).toNatClampNeg then none else (L_X6_wipeFor_10 g a0 k10_3 n10 (x2 + (1 : Int32)) (x4 + (1 : Int32)) (hp_p (hp_p M g 9 (x2).toNatClampNeg (M g 9 (x4).toNatClampNeg)) g 10 (x2).toNatClampNeg ((hp_p M g 9 (x2).toNatClampNeg (M g 9 (x4).toNatClampNeg)) g 10 (x4).toNatClampNeg)))))))))))))
def F_X6_wipeFor (g : Nat) (a0 : Int32) (M : hp_M) : Option (Int32 × hp_M) := (L_X6_wipeFor_10 g a0 (M g 8 2) hp_fu (0 : Int32) (0 : Int32) M)
set_option maxRecDepth 20000 in
set_option maxHeartbeats 4000000 in
theorem c_X6_wipeFor (l : Launch) (g : Nat) (a0 : Int32) (hg : g < 12) (M : hp_M) : hp_Ct l yX6_wipeFor cX6_wipeFor 5 (some .int) 0 hp_IC (fun adr adV => [.ref (adr g 8), .int a0]) hp_oi M (F_X6_wipeFor g a0 M) := by
  refine hp_start "HallPhone$Slate" (fun adr adV => [(0, .ref (adr g 8)), (1, .int a0)]) (by decide) rfl (fun _ _ => by simp only [lg_sl]; exact Nat.le_of_ble_eq_true rfl) (fun _ _ => rfl) ?_
  intro p e s m args below meth c A D ids adr adV cA rep G0 hI hC hr
  unfold F_X6_wipeFor
  have l10 : ∀ (k10_3 : Int32) (n10 : Nat) (x2 : Int32) (x4 : Int32) (M : hp_M), hp_Z p l e (hp_rm 0) s m args below meth c 5 A D ids adr adV cA 0 0 (MQ below (hp_Q A D ids adr adV cA rep hp_oi G0) args s 0 0 A) G0 rep 10 [(0, .ref (adr g 8)), (1, .int a0), (2, .int x2), (3, .int k10_3), (4, .int x4)] [] M (L_X6_wipeFor_10 g a0 k10_3 n10 x2 x4 M) := by
    intro k10_3 n10
    induction n10 with
    | zero => intro x2 x4 M; exact hz_none hC
    | succ n10 ih10 =>
      intro x2 x4 M
      rw [L_X6_wipeFor_10.eq_2]
      refine hz_iload (a := 4) (n := 12) hC dX6_wipeFor_10 rfl rfl ?_
      refine hz_iload_n (a := 3) (n := 13) hC dX6_wipeFor_12 rfl rfl rfl ?_
      refine hz_icmp_ge (tgt := 88) (n := 16) hC dX6_wipeFor_13 (by decide) rfl (fun _ => ?_) (fun _ => ?_)
      · refine hz_aload_n (a := 0) (n := 89) hC dX6_wipeFor_88 rfl rfl rfl ?_
        refine hz_iload_n (a := 2) (n := 90) hC dX6_wipeFor_89 rfl rfl rfl ?_
        refine fp_X6_18 (n := 93) hC hg hI x2 dX6_wipeFor_90 rfl ?_
        refine hz_iload_n (a := 3) (n := 94) hC dX6_wipeFor_93 rfl rfl rfl ?_
        refine hz_iload_n (a := 2) (n := 95) hC dX6_wipeFor_94 rfl rfl rfl ?_
        refine hz_isub (n := 96) hC dX6_wipeFor_95 rfl ?_
        exact hz_iret hC hr dX6_wipeFor_96
      · refine hz_iload (a := 4) (n := 18) hC dX6_wipeFor_16 rfl rfl ?_
        refine hz_aload_n (a := 0) (n := 19) hC dX6_wipeFor_18 rfl rfl rfl ?_
        refine fg_X6_9 (n := 22) hC hg hI dX6_wipeFor_19 rfl ?_
        refine hz_alen (v := (8 : Int32)) (t := 0) (n := 23) hC dX6_wipeFor_22 (hI.1 g 9 hg (by decide)) (ha_h9 hg) rfl (by decide +kernel) rfl ?_
        refine hz_icmp_ge (tgt := 88) (n := 26) hC dX6_wipeFor_23 (by decide) rfl (fun _ => ?_) (fun _ => ?_)
        · refine hz_aload_n (a := 0) (n := 89) hC dX6_wipeFor_88 rfl rfl rfl ?_
          refine hz_iload_n (a := 2) (n := 90) hC dX6_wipeFor_89 rfl rfl rfl ?_
          refine fp_X6_18 (n := 93) hC hg hI x2 dX6_wipeFor_90 rfl ?_
          refine hz_iload_n (a := 3) (n := 94) hC dX6_wipeFor_93 rfl rfl rfl ?_
          refine hz_iload_n (a := 2) (n := 95) hC dX6_wipeFor_94 rfl rfl rfl ?_
          refine hz_isub (n := 96) hC dX6_wipeFor_95 rfl ?_
          exact hz_iret hC hr dX6_wipeFor_96
        · refine hz_iload (a := 4) (n := 28) hC dX6_wipeFor_26 rfl rfl ?_
          refine hz_aload_n (a := 0) (n := 29) hC dX6_wipeFor_28 rfl rfl rfl ?_
          refine fg_X6_15 (n := 32) hC hg hI dX6_wipeFor_29 rfl ?_
          refine hz_alen (v := (8 : Int32)) (t := 0) (n := 33) hC dX6_wipeFor_32 (hI.1 g 10 hg (by decide)) (ha_h10 hg) rfl (by decide +kernel) rfl ?_
          refine hz_icmp_ge (tgt := 88) (n := 36) hC dX6_wipeFor_33 (by decide) rfl (fun _ => ?_) (fun _ => ?_)
          · refine hz_aload_n (a := 0) (n := 89) hC dX6_wipeFor_88 rfl rfl rfl ?_
            refine hz_iload_n (a := 2) (n := 90) hC dX6_wipeFor_89 rfl rfl rfl ?_
            refine fp_X6_18 (n := 93) hC hg hI x2 dX6_wipeFor_90 rfl ?_
            refine hz_iload_n (a := 3) (n := 94) hC dX6_wipeFor_93 rfl rfl rfl ?_
            refine hz_iload_n (a := 2) (n := 95) hC dX6_wipeFor_94 rfl rfl rfl ?_
            refine hz_isub (n := 96) hC dX6_wipeFor_95 rfl ?_
            exact hz_iret hC hr dX6_wipeFor_96
          · refine hz_aload_n (a := 0) (n := 37) hC dX6_wipeFor_36 rfl rfl rfl ?_
            refine fg_X6_9 (n := 40) hC hg hI dX6_wipeFor_37 rfl ?_
            refine hz_iload (a := 4) (n := 42) hC dX6_wipeFor_40 rfl rfl ?_
            refine hz_iald (n := 43) hC dX6_wipeFor_42 (hI.1 g 9 hg (by decide)) (ha_h9 hg) rfl (fun _ => ?_)
            refine hz_iload_n (a := 1) (n := 44) hC dX6_wipeFor_43 rfl rfl rfl ?_
            refine hz_icmp_eq (tgt := 82) (n := 47) hC dX6_wipeFor_44 (by decide) rfl (fun _ => ?_) (fun _ => ?_)
            · refine hz_iinc (a := 4) (v := (x4 + (1 : Int32))) (L' := [(4, .int (x4 + (1 : Int32))), (0, .ref (adr g 8)), (1, .int a0), (2, .int x2), (3, .int k10_3)]) (n := 85) hC dX6_wipeFor_82 rfl rfl (by decide) rfl rfl ?_
              refine hz_goto (n := 10) hC dX6_wipeFor_85 (by decide) ?_
              refine hz_L (L' := [(0, .ref (adr g 8)), (1, .int a0), (2, .int x2), (3, .int k10_3), (4, .int (x4 + (1 : Int32)))]) [1, 2, 3, 4, 0] rfl ?_
              exact ih10 _ _ _
            · refine hz_iload_n (a := 2) (n := 48) hC dX6_wipeFor_47 rfl rfl rfl ?_
              refine hz_iload (a := 4) (n := 50) hC dX6_wipeFor_48 rfl rfl ?_
              refine hz_icmp_gt (tgt := 82) (n := 53) hC dX6_wipeFor_50 (by decide) rfl (fun _ => ?_) (fun _ => ?_)
              · refine hz_iinc (a := 4) (v := (x4 + (1 : Int32))) (L' := [(4, .int (x4 + (1 : Int32))), (0, .ref (adr g 8)), (1, .int a0), (2, .int x2), (3, .int k10_3)]) (n := 85) hC dX6_wipeFor_82 rfl rfl (by decide) rfl rfl ?_
                refine hz_goto (n := 10) hC dX6_wipeFor_85 (by decide) ?_
                refine hz_L (L' := [(0, .ref (adr g 8)), (1, .int a0), (2, .int x2), (3, .int k10_3), (4, .int (x4 + (1 : Int32)))]) [1, 2, 3, 4, 0] rfl ?_
                exact ih10 _ _ _
              · refine hz_aload_n (a := 0) (n := 54) hC dX6_wipeFor_53 rfl rfl rfl ?_
                refine fg_X6_9 (n := 57) hC hg hI dX6_wipeFor_54 rfl ?_
                refine hz_iload_n (a := 2) (n := 58) hC dX6_wipeFor_57 rfl rfl rfl ?_
                refine hz_aload_n (a := 0) (n := 59) hC dX6_wipeFor_58 rfl rfl rfl ?_
                refine fg_X6_9 (n := 62) hC hg hI dX6_wipeFor_59 rfl ?_
                refine hz_iload (a := 4) (n := 64) hC dX6_wipeFor_62 rfl rfl ?_
                refine hz_iald (n := 65) hC dX6_wipeFor_64 (hI.1 g 9 hg (by decide)) (ha_h9 hg) rfl (fun _ => ?_)
                refine hz_iast (n := 66) hC dX6_wipeFor_65 (hI.1 g 9 hg (by decide)) (ha_h9 hg) rfl (fun _ => ?_)
                refine hz_aload_n (a := 0) (n := 67) hC dX6_wipeFor_66 rfl rfl rfl ?_
                refine fg_X6_15 (n := 70) hC hg hI dX6_wipeFor_67 rfl ?_
                refine hz_iload_n (a := 2) (n := 71) hC dX6_wipeFor_70 rfl rfl rfl ?_
                refine hz_aload_n (a := 0) (n := 72) hC dX6_wipeFor_71 rfl rfl rfl ?_
                refine fg_X6_15 (n := 75) hC hg hI dX6_wipeFor_72 rfl ?_
                refine hz_iload (a := 4) (n := 77) hC dX6_wipeFor_75 rfl rfl ?_
                refine hz_iald (n := 78) hC dX6_wipeFor_77 (hI.1 g 10 hg (by decide)) (ha_h10 hg) rfl (fun _ => ?_)
                refine hz_iast (n := 79) hC dX6_wipeFor_78 (hI.1 g 10 hg (by decide)) (ha_h10 hg) rfl (fun _ => ?_)
                refine hz_iinc (a := 2) (v := (x2 + (1 : Int32))) (L' := [(2, .int (x2 + (1 : Int32))), (0, .ref (adr g 8)), (1, .int a0), (3, .int k10_3), (4, .int x4)]) (n := 82) hC dX6_wipeFor_79 rfl rfl (by decide) rfl rfl ?_
                refine hz_iinc (a := 4) (v := (x4 + (1 : Int32))) (L' := [(4, .int (x4 + (1 : Int32))), (2, .int (x2 + (1 : Int32))), (0, .ref (adr g 8)), (1, .int a0), (3, .int k10_3)]) (n := 85) hC dX6_wipeFor_82 rfl rfl (by decide) rfl rfl ?_
                refine hz_goto (n := 10) hC dX6_wipeFor_85 (by decide) ?_
                refine hz_L (L' := [(0, .ref (adr g 8)), (1, .int a0), (2, .int (x2 + (1 : Int32))), (3, .int k10_3), (4, .int (x4 + (1 : Int32)))]) [2, 3, 1, 4, 0] rfl ?_
                exact ih10 _ _ _
  refine hz_iconst (v := (0 : Int32)) (n := 1) hC dX6_wipeFor_0 (by decide +kernel) rfl ?_
  refine hz_istore_n (L' := [(2, .int (0 : Int32)), (0, .ref (adr g 8)), (1, .int a0)]) (n := 2) hC dX6_wipeFor_1 rfl (by decide) rfl rfl ?_
  refine hz_aload_n (a := 1) (n := 3) hC dX6_wipeFor_2 rfl rfl rfl ?_
  refine fg_X6_18 (n := 6) hC hg hI dX6_wipeFor_3 rfl ?_
  refine hz_istore_n (L' := [(3, .int (M g 8 2)), (2, .int (0 : Int32)), (0, .ref (adr g 8)), (1, .int a0)]) (n := 7) hC dX6_wipeFor_6 rfl (by decide) rfl rfl ?_
  refine hz_iconst (v := (0 : Int32)) (n := 8) hC dX6_wipeFor_7 (by decide +kernel) rfl ?_
  refine hz_istore (L' := [(4, .int (0 : Int32)), (3, .int (M g 8 2)), (2, .int (0 : Int32)), (0, .ref (adr g 8)), (1, .int a0)]) (n := 10) hC dX6_wipeFor_8 (by decide) rfl rfl ?_
  refine hz_L (L' := [(0, .ref (adr g 8)), (1, .int a0), (2, .int (0 : Int32)), (3, .int (M g 8 2)), (4, .int (0 : Int32))]) [3, 4, 2, 1, 0] rfl ?_
  exact l10 _ hp_fu _ _ _
def F_X2_changeSetting (g : Nat) (a0 : Int32) (a1 : Int32) (M : hp_M) : Option (Int32 × hp_M) := (hp_b (F_X2_settingNumber g a0 M) (fun r1 M1 => (if a0 < 0 then (some (r1, M1)) else (if (6 : Int32) ≤ a0 then (some (r1, M1)) else (if a0 < 0 ∨ 6 ≤ (a0).toNatClampNeg then none else (some (r1, (hp_p M1 g 1 (a0).toNatClampNeg a1))))))))
set_option maxRecDepth 20000 in
set_option maxHeartbeats 4000000 in
theorem c_X2_changeSetting (l : Launch) (g : Nat) (a0 : Int32) (a1 : Int32) (hg : g < 12) (M : hp_M) : hp_Ct l yX2_changeSetting cX2_changeSetting 4 (some .int) 1 hp_IC (fun adr adV => [.ref (adr g 0), .int a0, .int a1]) hp_oi M (F_X2_changeSetting g a0 a1 M) := by
  refine hp_start "HallPhone$House" (fun adr adV => [(0, .ref (adr g 0)), (1, .int a0), (2, .int a1)]) (by decide) rfl (fun _ _ => by simp only [lg_sl]; exact Nat.le_of_ble_eq_true rfl) (fun _ _ => rfl) ?_
  intro p e s m args below meth c A D ids adr adV cA rep G0 hI hC hr
  unfold F_X2_changeSetting
  refine hz_aload_n (a := 0) (n := 1) hC dX2_changeSetting_0 rfl rfl rfl ?_
  refine hz_iload_n (a := 1) (n := 2) hC dX2_changeSetting_1 rfl rfl rfl ?_
  refine hz_callV (k := 1) (As := [.int a0]) (st := []) (S1 := fun r => .int r :: []) (n := 5) hC (c_X2_settingNumber l g a0 hg  M) kv_X2_settingNumber wd_3_17 hI dX2_changeSetting_2 rfl (hI.1 g 0 hg (by decide)) (he_X2 hg) rfl rfl rfl (Nat.le_of_ble_eq_true rfl) ⟨Nat.le_of_ble_eq_true rfl, Nat.le_of_ble_eq_true rfl⟩ ⟨Nat.zero_le _, Nat.zero_le _⟩ (fun _ => rfl) rfl (fun r1 M1 _ => ?_)
  refine hz_istore_n (L' := [(3, .int r1), (0, .ref (adr g 0)), (1, .int a0), (2, .int a1)]) (n := 6) hC dX2_changeSetting_5 rfl (by decide) rfl rfl ?_
  refine hz_iload_n (a := 2) (n := 7) hC dX2_changeSetting_6 rfl rfl rfl ?_
  refine hz_if_lt (tgt := 26) (n := 10) hC dX2_changeSetting_7 (by decide) rfl (fun _ => ?_) (fun _ => ?_)
  · refine hz_iload_n (a := 0) (n := 27) hC dX2_changeSetting_26 rfl rfl rfl ?_
    exact hz_iret hC hr dX2_changeSetting_27
  · refine hz_iload_n (a := 2) (n := 11) hC dX2_changeSetting_10 rfl rfl rfl ?_
    refine hz_aload_n (a := 1) (n := 12) hC dX2_changeSetting_11 rfl rfl rfl ?_
    refine fg_X2_21 (n := 15) hC hg hI dX2_changeSetting_12 rfl ?_
    refine hz_alen (v := (6 : Int32)) (t := 0) (n := 16) hC dX2_changeSetting_15 (hI.1 g 1 hg (by decide)) (ha_h1 hg) rfl (by decide +kernel) rfl ?_
    refine hz_icmp_ge (tgt := 26) (n := 19) hC dX2_changeSetting_16 (by decide) rfl (fun _ => ?_) (fun _ => ?_)
    · refine hz_iload_n (a := 0) (n := 27) hC dX2_changeSetting_26 rfl rfl rfl ?_
      exact hz_iret hC hr dX2_changeSetting_27
    · refine hz_aload_n (a := 1) (n := 20) hC dX2_changeSetting_19 rfl rfl rfl ?_
      refine fg_X2_21 (n := 23) hC hg hI dX2_changeSetting_20 rfl ?_
      refine hz_iload_n (a := 2) (n := 24) hC dX2_changeSetting_23 rfl rfl rfl ?_
      refine hz_iload_n (a := 3) (n := 25) hC dX2_changeSetting_24 rfl rfl rfl ?_
      refine hz_iast (n := 26) hC dX2_changeSetting_25 (hI.1 g 1 hg (by decide)) (ha_h1 hg) rfl (fun _ => ?_)
      refine hz_iload_n (a := 0) (n := 27) hC dX2_changeSetting_26 rfl rfl rfl ?_
      exact hz_iret hC hr dX2_changeSetting_27
def F_X2_minutesHeard (g : Nat) (a0 : Int32) (a1 : Int32) (M : hp_M) : Option (Int32 × hp_M) := (if ((a0 * (10 : Int32)) + a1) < 0 then (some ((0 : Int32), M)) else (if (100 : Int32) ≤ ((a0 * (10 : Int32)) + a1) then (some ((0 : Int32), M)) else (if ((a0 * (10 : Int32)) + a1) < 0 ∨ 100 ≤ (((a0 * (10 : Int32)) + a1)).toNatClampNeg then none else (some ((M g 4 (((a0 * (10 : Int32)) + a1)).toNatClampNeg), M)))))
set_option maxRecDepth 20000 in
set_option maxHeartbeats 4000000 in
theorem c_X2_minutesHeard (l : Launch) (g : Nat) (a0 : Int32) (a1 : Int32) (hg : g < 12) (M : hp_M) : hp_Ct l yX2_minutesHeard cX2_minutesHeard 4 (some .int) 0 hp_IC (fun adr adV => [.ref (adr g 0), .int a0, .int a1]) hp_oi M (F_X2_minutesHeard g a0 a1 M) := by
  refine hp_start "HallPhone$House" (fun adr adV => [(0, .ref (adr g 0)), (1, .int a0), (2, .int a1)]) (by decide) rfl (fun _ _ => by simp only [lg_sl]; exact Nat.le_of_ble_eq_true rfl) (fun _ _ => rfl) ?_
  intro p e s m args below meth c A D ids adr adV cA rep G0 hI hC hr
  unfold F_X2_minutesHeard
  refine hz_iload_n (a := 1) (n := 1) hC dX2_minutesHeard_0 rfl rfl rfl ?_
  refine hz_bipush (v := (10 : Int32)) (n := 3) hC dX2_minutesHeard_1 (by decide +kernel) rfl ?_
  refine hz_imul (n := 4) hC dX2_minutesHeard_3 rfl ?_
  refine hz_iload_n (a := 2) (n := 5) hC dX2_minutesHeard_4 rfl rfl rfl ?_
  refine hz_iadd (n := 6) hC dX2_minutesHeard_5 rfl ?_
  refine hz_istore_n (L' := [(3, .int ((a0 * (10 : Int32)) + a1)), (0, .ref (adr g 0)), (1, .int a0), (2, .int a1)]) (n := 7) hC dX2_minutesHeard_6 rfl (by decide) rfl rfl ?_
  refine hz_iload_n (a := 0) (n := 8) hC dX2_minutesHeard_7 rfl rfl rfl ?_
  refine hz_if_lt (tgt := 29) (n := 11) hC dX2_minutesHeard_8 (by decide) rfl (fun _ => ?_) (fun _ => ?_)
  · refine hz_iconst (v := (0 : Int32)) (n := 30) hC dX2_minutesHeard_29 (by decide +kernel) rfl ?_
    exact hz_iret hC hr dX2_minutesHeard_30
  · refine hz_iload_n (a := 0) (n := 12) hC dX2_minutesHeard_11 rfl rfl rfl ?_
    refine hz_aload_n (a := 1) (n := 13) hC dX2_minutesHeard_12 rfl rfl rfl ?_
    refine fg_X2_31 (n := 16) hC hg hI dX2_minutesHeard_13 rfl ?_
    refine hz_alen (v := (100 : Int32)) (t := 0) (n := 17) hC dX2_minutesHeard_16 (hI.1 g 4 hg (by decide)) (ha_h4 hg) rfl (by decide +kernel) rfl ?_
    refine hz_icmp_ge (tgt := 29) (n := 20) hC dX2_minutesHeard_17 (by decide) rfl (fun _ => ?_) (fun _ => ?_)
    · refine hz_iconst (v := (0 : Int32)) (n := 30) hC dX2_minutesHeard_29 (by decide +kernel) rfl ?_
      exact hz_iret hC hr dX2_minutesHeard_30
    · refine hz_aload_n (a := 1) (n := 21) hC dX2_minutesHeard_20 rfl rfl rfl ?_
      refine fg_X2_31 (n := 24) hC hg hI dX2_minutesHeard_21 rfl ?_
      refine hz_iload_n (a := 0) (n := 25) hC dX2_minutesHeard_24 rfl rfl rfl ?_
      refine hz_iald (n := 26) hC dX2_minutesHeard_25 (hI.1 g 4 hg (by decide)) (ha_h4 hg) rfl (fun _ => ?_)
      refine hz_goto (n := 30) hC dX2_minutesHeard_26 (by decide) ?_
      exact hz_iret hC hr dX2_minutesHeard_30
def F_X2_hearOneMinute (g : Nat) (a0 : Int32) (a1 : Int32) (M : hp_M) : Option (Unit × hp_M) := (if ((a0 * (10 : Int32)) + a1) < 0 then (some ((), M)) else (if (100 : Int32) ≤ ((a0 * (10 : Int32)) + a1) then (some ((), M)) else (if ((a0 * (10 : Int32)) + a1) < 0 ∨ 100 ≤ (((a0 * (10 : Int32)) + a1)).toNatClampNeg then none else (if ((a0 * (10 : Int32)) + a1) < 0 ∨ 100 ≤ (((a0 * (10 : Int32)) + a1)).toNatClampNeg then none else (some ((), (hp_p (hp_p M g 4 (((a0 * (10 : Int32)) + a1)).toNatClampNeg ((M g 4 (((a0 * (10 : Int32)) + a1)).toNatClampNeg) + (1 : Int32))) g 2 9 (((hp_p M g 4 (((a0 * (10 : Int32)) + a1)).toNatClampNeg ((M g 4 (((a0 * (10 : Int32)) + a1)).toNatClampNeg) + (1 : Int32))) g 2 9) + (1 : Int32)))))))))
set_option maxRecDepth 20000 in
set_option maxHeartbeats 4000000 in
theorem c_X2_hearOneMinute (l : Launch) (g : Nat) (a0 : Int32) (a1 : Int32) (hg : g < 12) (M : hp_M) : hp_Ct l yX2_hearOneMinute cX2_hearOneMinute 4 none 0 hp_IC (fun adr adV => [.ref (adr g 0), .int a0, .int a1]) hp_oo M (F_X2_hearOneMinute g a0 a1 M) := by
  refine hp_start "HallPhone$House" (fun adr adV => [(0, .ref (adr g 0)), (1, .int a0), (2, .int a1)]) (by decide) rfl (fun _ _ => by simp only [lg_sl]; exact Nat.le_of_ble_eq_true rfl) (fun _ _ => rfl) ?_
  intro p e s m args below meth c A D ids adr adV cA rep G0 hI hC hr
  unfold F_X2_hearOneMinute
  refine hz_iload_n (a := 1) (n := 1) hC dX2_hearOneMinute_0 rfl rfl rfl ?_
  refine hz_bipush (v := (10 : Int32)) (n := 3) hC dX2_hearOneMinute_1 (by decide +kernel) rfl ?_
  refine hz_imul (n := 4) hC dX2_hearOneMinute_3 rfl ?_
  refine hz_iload_n (a := 2) (n := 5) hC dX2_hearOneMinute_4 rfl rfl rfl ?_
  refine hz_iadd (n := 6) hC dX2_hearOneMinute_5 rfl ?_
  refine hz_istore_n (L' := [(3, .int ((a0 * (10 : Int32)) + a1)), (0, .ref (adr g 0)), (1, .int a0), (2, .int a1)]) (n := 7) hC dX2_hearOneMinute_6 rfl (by decide) rfl rfl ?_
  refine hz_iload_n (a := 0) (n := 8) hC dX2_hearOneMinute_7 rfl rfl rfl ?_
  refine hz_if_lt (tgt := 41) (n := 11) hC dX2_hearOneMinute_8 (by decide) rfl (fun _ => ?_) (fun _ => ?_)
  · exact hz_vret hC hr dX2_hearOneMinute_41
  · refine hz_iload_n (a := 0) (n := 12) hC dX2_hearOneMinute_11 rfl rfl rfl ?_
    refine hz_aload_n (a := 1) (n := 13) hC dX2_hearOneMinute_12 rfl rfl rfl ?_
    refine fg_X2_31 (n := 16) hC hg hI dX2_hearOneMinute_13 rfl ?_
    refine hz_alen (v := (100 : Int32)) (t := 0) (n := 17) hC dX2_hearOneMinute_16 (hI.1 g 4 hg (by decide)) (ha_h4 hg) rfl (by decide +kernel) rfl ?_
    refine hz_icmp_ge (tgt := 41) (n := 20) hC dX2_hearOneMinute_17 (by decide) rfl (fun _ => ?_) (fun _ => ?_)
    · exact hz_vret hC hr dX2_hearOneMinute_41
    · refine hz_aload_n (a := 1) (n := 21) hC dX2_hearOneMinute_20 rfl rfl rfl ?_
      refine fg_X2_31 (n := 24) hC hg hI dX2_hearOneMinute_21 rfl ?_
      refine hz_iload_n (a := 0) (n := 25) hC dX2_hearOneMinute_24 rfl rfl rfl ?_
      refine hz_dup2 (n := 26) hC dX2_hearOneMinute_25 rfl rfl rfl ?_
      refine hz_iald (n := 27) hC dX2_hearOneMinute_26 (hI.1 g 4 hg (by decide)) (ha_h4 hg) rfl (fun _ => ?_)
      refine hz_iconst (v := (1 : Int32)) (n := 28) hC dX2_hearOneMinute_27 (by decide +kernel) rfl ?_
      refine hz_iadd (n := 29) hC dX2_hearOneMinute_28 rfl ?_
      refine hz_iast (n := 30) hC dX2_hearOneMinute_29 (hI.1 g 4 hg (by decide)) (ha_h4 hg) rfl (fun _ => ?_)
      refine hz_aload_n (a := 1) (n := 31) hC dX2_hearOneMinute_30 rfl rfl rfl ?_
      refine fg_X2_25 (n := 34) hC hg hI dX2_hearOneMinute_31 rfl ?_
      refine hz_bipush (v := (9 : Int32)) (n := 36) hC dX2_hearOneMinute_34 (by decide +kernel) rfl ?_
      refine hz_dup2 (n := 37) hC dX2_hearOneMinute_36 rfl rfl rfl ?_
      refine hz_ialdc (k := 9) (n := 38) hC (by decide +kernel) (by decide) dX2_hearOneMinute_37 (hI.1 g 2 hg (by decide)) (ha_h2 hg) rfl ?_
      refine hz_iconst (v := (1 : Int32)) (n := 39) hC dX2_hearOneMinute_38 (by decide +kernel) rfl ?_
      refine hz_iadd (n := 40) hC dX2_hearOneMinute_39 rfl ?_
      refine hz_iastc (k := 9) (n := 41) hC (by decide +kernel) (by decide) dX2_hearOneMinute_40 (hI.1 g 2 hg (by decide)) (ha_h2 hg) rfl ?_
      exact hz_vret hC hr dX2_hearOneMinute_41
def F_X2_addFlat (g : Nat) (a0 : Int32) (M : hp_M) : Option (Int32 × hp_M) := (if (M g 0 0) < (10 : Int32) then (hp_b (F_X2_put g (M g 0 0) (0 : Int32) a0 M) (fun _ M1 => (some ((1 : Int32), (hp_p M1 g 0 0 ((M1 g 0 0) + (1 : Int32))))))) else (some ((0 : Int32), M)))
set_option maxRecDepth 20000 in
set_option maxHeartbeats 4000000 in
theorem c_X2_addFlat (l : Launch) (g : Nat) (a0 : Int32) (hg : g < 12) (M : hp_M) : hp_Ct l yX2_addFlat cX2_addFlat 2 (some .boolean) 1 hp_IC (fun adr adV => [.ref (adr g 0), .int a0]) hp_oi M (F_X2_addFlat g a0 M) := by
  refine hp_start "HallPhone$House" (fun adr adV => [(0, .ref (adr g 0)), (1, .int a0)]) (by decide) rfl (fun _ _ => by simp only [lg_sl]; exact Nat.le_of_ble_eq_true rfl) (fun _ _ => rfl) ?_
  intro p e s m args below meth c A D ids adr adV cA rep G0 hI hC hr
  unfold F_X2_addFlat
  refine hz_aload_n (a := 0) (n := 1) hC dX2_addFlat_0 rfl rfl rfl ?_
  refine fg_X2_9 (n := 4) hC hg hI dX2_addFlat_1 rfl ?_
  refine hz_bipush (v := (10 : Int32)) (n := 6) hC dX2_addFlat_4 (by decide +kernel) rfl ?_
  refine hz_icmp_lt (tgt := 11) (n := 9) hC dX2_addFlat_6 (by decide) rfl (fun _ => ?_) (fun _ => ?_)
  · refine hz_aload_n (a := 0) (n := 12) hC dX2_addFlat_11 rfl rfl rfl ?_
    refine hz_aload_n (a := 0) (n := 13) hC dX2_addFlat_12 rfl rfl rfl ?_
    refine fg_X2_9 (n := 16) hC hg hI dX2_addFlat_13 rfl ?_
    refine hz_iconst (v := (0 : Int32)) (n := 17) hC dX2_addFlat_16 (by decide +kernel) rfl ?_
    refine hz_iload_n (a := 1) (n := 18) hC dX2_addFlat_17 rfl rfl rfl ?_
    refine hz_callV (k := 3) (As := [.int (M g 0 0), .int (0 : Int32), .int a0]) (st := []) (S1 := fun _ => []) (n := 21) hC (c_X2_put l g (M g 0 0) (0 : Int32) a0 hg  M) kv_X2_put wd_2_108 hI dX2_addFlat_18 rfl (hI.1 g 0 hg (by decide)) (he_X2 hg) rfl rfl rfl (Nat.le_of_ble_eq_true rfl) ⟨Nat.le_of_ble_eq_true rfl, Nat.le_of_ble_eq_true rfl⟩ ⟨Nat.zero_le _, Nat.zero_le _⟩ (fun _ => rfl) rfl (fun r1 M1 _ => ?_)
    refine hz_aload_n (a := 0) (n := 22) hC dX2_addFlat_21 rfl rfl rfl ?_
    refine hz_dup (n := 23) hC dX2_addFlat_22 rfl rfl ?_
    refine fg_X2_9 (n := 26) hC hg hI dX2_addFlat_23 rfl ?_
    refine hz_iconst (v := (1 : Int32)) (n := 27) hC dX2_addFlat_26 (by decide +kernel) rfl ?_
    refine hz_iadd (n := 28) hC dX2_addFlat_27 rfl ?_
    refine fp_X2_9 (n := 31) hC hg hI ((M1 g 0 0) + (1 : Int32)) dX2_addFlat_28 rfl ?_
    refine hz_iconst (v := (1 : Int32)) (n := 32) hC dX2_addFlat_31 (by decide +kernel) rfl ?_
    exact hz_zret hC hr nz_1 dX2_addFlat_32
  · refine hz_iconst (v := (0 : Int32)) (n := 10) hC dX2_addFlat_9 (by decide +kernel) rfl ?_
    exact hz_zret hC hr nz_0 dX2_addFlat_10
def L_X2_debtOfAll_4 (g : Nat)   : Nat → Int32 → Int32 → hp_M → Option (Int32 × hp_M)
  | 0, _, _, _ => none
  | n4 + 1, x1, x2, M => (if (M g 0 0) ≤ x2 then (some (x1, M)) else (hp_b (F_X2_get g x2 (6 : Int32) M) (fun r1 M1 => (L_X2_debtOfAll_4 g n4 (x1 + r1) (x2 + (1 : Int32)) M1))))
def F_X2_debtOfAll (g : Nat) (M : hp_M) : Option (Int32 × hp_M) := (L_X2_debtOfAll_4 g hp_fu (0 : Int32) (0 : Int32) M)
set_option maxRecDepth 20000 in
set_option maxHeartbeats 4000000 in
theorem c_X2_debtOfAll (l : Launch) (g : Nat) (hg : g < 12) (M : hp_M) : hp_Ct l yX2_debtOfAll cX2_debtOfAll 3 (some .int) 1 hp_IC (fun adr adV => [.ref (adr g 0)]) hp_oi M (F_X2_debtOfAll g M) := by
  refine hp_start "HallPhone$House" (fun adr adV => [(0, .ref (adr g 0))]) (by decide) rfl (fun _ _ => by simp only [lg_sl]; exact Nat.le_of_ble_eq_true rfl) (fun _ _ => rfl) ?_
  intro p e s m args below meth c A D ids adr adV cA rep G0 hI hC hr
  unfold F_X2_debtOfAll
  have l4 : ∀  (n4 : Nat) (x1 : Int32) (x2 : Int32) (M : hp_M), hp_Z p l e (hp_rm 1) s m args below meth c 3 A D ids adr adV cA 0 0 (MQ below (hp_Q A D ids adr adV cA rep hp_oi G0) args s 0 0 A) G0 rep 4 [(0, .ref (adr g 0)), (1, .int x1), (2, .int x2)] [] M (L_X2_debtOfAll_4 g n4 x1 x2 M) := by
    intro  n4
    induction n4 with
    | zero => intro x1 x2 M; exact hz_none hC
    | succ n4 ih4 =>
      intro x1 x2 M
      rw [L_X2_debtOfAll_4.eq_2]
      refine hz_iload_n (a := 2) (n := 5) hC dX2_debtOfAll_4 rfl rfl rfl ?_
      refine hz_aload_n (a := 0) (n := 6) hC dX2_debtOfAll_5 rfl rfl rfl ?_
      refine fg_X2_9 (n := 9) hC hg hI dX2_debtOfAll_6 rfl ?_
      refine hz_icmp_ge (tgt := 28) (n := 12) hC dX2_debtOfAll_9 (by decide) rfl (fun _ => ?_) (fun _ => ?_)
      · refine hz_iload_n (a := 1) (n := 29) hC dX2_debtOfAll_28 rfl rfl rfl ?_
        exact hz_iret hC hr dX2_debtOfAll_29
      · refine hz_iload_n (a := 1) (n := 13) hC dX2_debtOfAll_12 rfl rfl rfl ?_
        refine hz_aload_n (a := 0) (n := 14) hC dX2_debtOfAll_13 rfl rfl rfl ?_
        refine hz_iload_n (a := 2) (n := 15) hC dX2_debtOfAll_14 rfl rfl rfl ?_
        refine hz_bipush (v := (6 : Int32)) (n := 17) hC dX2_debtOfAll_15 (by decide +kernel) rfl ?_
        refine hz_callV (k := 2) (As := [.int x2, .int (6 : Int32)]) (st := [.int x1]) (S1 := fun r => .int r :: [.int x1]) (n := 20) hC (c_X2_get l g x2 (6 : Int32) hg  M) kv_X2_get wd_2_137 hI dX2_debtOfAll_17 rfl (hI.1 g 0 hg (by decide)) (he_X2 hg) rfl rfl rfl (Nat.le_of_ble_eq_true rfl) ⟨Nat.le_of_ble_eq_true rfl, Nat.le_of_ble_eq_true rfl⟩ ⟨Nat.zero_le _, Nat.zero_le _⟩ (fun _ => rfl) rfl (fun r1 M1 _ => ?_)
        refine hz_iadd (n := 21) hC dX2_debtOfAll_20 rfl ?_
        refine hz_istore_n (L' := [(1, .int (x1 + r1)), (0, .ref (adr g 0)), (2, .int x2)]) (n := 22) hC dX2_debtOfAll_21 rfl (by decide) rfl rfl ?_
        refine hz_iinc (a := 2) (v := (x2 + (1 : Int32))) (L' := [(2, .int (x2 + (1 : Int32))), (1, .int (x1 + r1)), (0, .ref (adr g 0))]) (n := 25) hC dX2_debtOfAll_22 rfl rfl (by decide) rfl rfl ?_
        refine hz_goto (n := 4) hC dX2_debtOfAll_25 (by decide) ?_
        refine hz_L (L' := [(0, .ref (adr g 0)), (1, .int (x1 + r1)), (2, .int (x2 + (1 : Int32)))]) [2, 1, 0] rfl ?_
        exact ih4 _ _ _
  refine hz_iconst (v := (0 : Int32)) (n := 1) hC dX2_debtOfAll_0 (by decide +kernel) rfl ?_
  refine hz_istore_n (L' := [(1, .int (0 : Int32)), (0, .ref (adr g 0))]) (n := 2) hC dX2_debtOfAll_1 rfl (by decide) rfl rfl ?_
  refine hz_iconst (v := (0 : Int32)) (n := 3) hC dX2_debtOfAll_2 (by decide +kernel) rfl ?_
  refine hz_istore_n (L' := [(2, .int (0 : Int32)), (1, .int (0 : Int32)), (0, .ref (adr g 0))]) (n := 4) hC dX2_debtOfAll_3 rfl (by decide) rfl rfl ?_
  refine hz_L (L' := [(0, .ref (adr g 0)), (1, .int (0 : Int32)), (2, .int (0 : Int32))]) [2, 1, 0] rfl ?_
  exact l4 hp_fu _ _ _
def L_X2_flatsThatAre_4 (g : Nat) (a0 : Int32)   : Nat → Int32 → Int32 → hp_M → Option (Int32 × hp_M)
  | 0, _, _, _ => none
  | n4 + 1, x2, x3, M => (if (M g 0 0) ≤ x3 then (some (x2, M)) else (hp_b (F_X2_get g x3 (2 : Int32) M) (fun r1 M1 => (if r1 = a0 then (L_X2_flatsThatAre_4 g a0 n4 (x2 ||| ((1 : Int32) <<< (x3 &&& 31))) (x3 + (1 : Int32)) M1) else (L_X2_flatsThatAre_4 g a0 n4 x2 (x3 + (1 : Int32)) M1)))))
def F_X2_flatsThatAre (g : Nat) (a0 : Int32) (M : hp_M) : Option (Int32 × hp_M) := (L_X2_flatsThatAre_4 g a0 hp_fu (0 : Int32) (0 : Int32) M)
set_option maxRecDepth 20000 in
set_option maxHeartbeats 4000000 in
theorem c_X2_flatsThatAre (l : Launch) (g : Nat) (a0 : Int32) (hg : g < 12) (M : hp_M) : hp_Ct l yX2_flatsThatAre cX2_flatsThatAre 4 (some .int) 1 hp_IC (fun adr adV => [.ref (adr g 0), .int a0]) hp_oi M (F_X2_flatsThatAre g a0 M) := by
  refine hp_start "HallPhone$House" (fun adr adV => [(0, .ref (adr g 0)), (1, .int a0)]) (by decide) rfl (fun _ _ => by simp only [lg_sl]; exact Nat.le_of_ble_eq_true rfl) (fun _ _ => rfl) ?_
  intro p e s m args below meth c A D ids adr adV cA rep G0 hI hC hr
  unfold F_X2_flatsThatAre
  have l4 : ∀  (n4 : Nat) (x2 : Int32) (x3 : Int32) (M : hp_M), hp_Z p l e (hp_rm 1) s m args below meth c 4 A D ids adr adV cA 0 0 (MQ below (hp_Q A D ids adr adV cA rep hp_oi G0) args s 0 0 A) G0 rep 4 [(0, .ref (adr g 0)), (1, .int a0), (2, .int x2), (3, .int x3)] [] M (L_X2_flatsThatAre_4 g a0 n4 x2 x3 M) := by
    intro  n4
    induction n4 with
    | zero => intro x2 x3 M; exact hz_none hC
    | succ n4 ih4 =>
      intro x2 x3 M
      rw [L_X2_flatsThatAre_4.eq_2]
      refine hz_iload_n (a := 3) (n := 5) hC dX2_flatsThatAre_4 rfl rfl rfl ?_
      refine hz_aload_n (a := 0) (n := 6) hC dX2_flatsThatAre_5 rfl rfl rfl ?_
      refine fg_X2_9 (n := 9) hC hg hI dX2_flatsThatAre_6 rfl ?_
      refine hz_icmp_ge (tgt := 34) (n := 12) hC dX2_flatsThatAre_9 (by decide) rfl (fun _ => ?_) (fun _ => ?_)
      · refine hz_iload_n (a := 2) (n := 35) hC dX2_flatsThatAre_34 rfl rfl rfl ?_
        exact hz_iret hC hr dX2_flatsThatAre_35
      · refine hz_aload_n (a := 0) (n := 13) hC dX2_flatsThatAre_12 rfl rfl rfl ?_
        refine hz_iload_n (a := 3) (n := 14) hC dX2_flatsThatAre_13 rfl rfl rfl ?_
        refine hz_iconst (v := (2 : Int32)) (n := 15) hC dX2_flatsThatAre_14 (by decide +kernel) rfl ?_
        refine hz_callV (k := 2) (As := [.int x3, .int (2 : Int32)]) (st := []) (S1 := fun r => .int r :: []) (n := 18) hC (c_X2_get l g x3 (2 : Int32) hg  M) kv_X2_get wd_2_137 hI dX2_flatsThatAre_15 rfl (hI.1 g 0 hg (by decide)) (he_X2 hg) rfl rfl rfl (Nat.le_of_ble_eq_true rfl) ⟨Nat.le_of_ble_eq_true rfl, Nat.le_of_ble_eq_true rfl⟩ ⟨Nat.zero_le _, Nat.zero_le _⟩ (fun _ => rfl) rfl (fun r1 M1 _ => ?_)
        refine hz_iload_n (a := 1) (n := 19) hC dX2_flatsThatAre_18 rfl rfl rfl ?_
        refine hz_icmp_ne (tgt := 28) (n := 22) hC dX2_flatsThatAre_19 (by decide) rfl (fun _ => ?_) (fun _ => ?_)
        · refine hz_iload_n (a := 2) (n := 23) hC dX2_flatsThatAre_22 rfl rfl rfl ?_
          refine hz_iconst (v := (1 : Int32)) (n := 24) hC dX2_flatsThatAre_23 (by decide +kernel) rfl ?_
          refine hz_iload_n (a := 3) (n := 25) hC dX2_flatsThatAre_24 rfl rfl rfl ?_
          refine hz_ishl (n := 26) hC dX2_flatsThatAre_25 rfl ?_
          refine hz_ior (n := 27) hC dX2_flatsThatAre_26 rfl ?_
          refine hz_istore_n (L' := [(2, .int (x2 ||| ((1 : Int32) <<< (x3 &&& 31)))), (0, .ref (adr g 0)), (1, .int a0), (3, .int x3)]) (n := 28) hC dX2_flatsThatAre_27 rfl (by decide) rfl rfl ?_
          refine hz_iinc (a := 3) (v := (x3 + (1 : Int32))) (L' := [(3, .int (x3 + (1 : Int32))), (2, .int (x2 ||| ((1 : Int32) <<< (x3 &&& 31)))), (0, .ref (adr g 0)), (1, .int a0)]) (n := 31) hC dX2_flatsThatAre_28 rfl rfl (by decide) rfl rfl ?_
          refine hz_goto (n := 4) hC dX2_flatsThatAre_31 (by decide) ?_
          refine hz_L (L' := [(0, .ref (adr g 0)), (1, .int a0), (2, .int (x2 ||| ((1 : Int32) <<< (x3 &&& 31)))), (3, .int (x3 + (1 : Int32)))]) [2, 3, 1, 0] rfl ?_
          exact ih4 _ _ _
        · refine hz_iinc (a := 3) (v := (x3 + (1 : Int32))) (L' := [(3, .int (x3 + (1 : Int32))), (0, .ref (adr g 0)), (1, .int a0), (2, .int x2)]) (n := 31) hC dX2_flatsThatAre_28 rfl rfl (by decide) rfl rfl ?_
          refine hz_goto (n := 4) hC dX2_flatsThatAre_31 (by decide) ?_
          refine hz_L (L' := [(0, .ref (adr g 0)), (1, .int a0), (2, .int x2), (3, .int (x3 + (1 : Int32)))]) [1, 2, 3, 0] rfl ?_
          exact ih4 _ _ _
  refine hz_iconst (v := (0 : Int32)) (n := 1) hC dX2_flatsThatAre_0 (by decide +kernel) rfl ?_
  refine hz_istore_n (L' := [(2, .int (0 : Int32)), (0, .ref (adr g 0)), (1, .int a0)]) (n := 2) hC dX2_flatsThatAre_1 rfl (by decide) rfl rfl ?_
  refine hz_iconst (v := (0 : Int32)) (n := 3) hC dX2_flatsThatAre_2 (by decide +kernel) rfl ?_
  refine hz_istore_n (L' := [(3, .int (0 : Int32)), (2, .int (0 : Int32)), (0, .ref (adr g 0)), (1, .int a0)]) (n := 4) hC dX2_flatsThatAre_3 rfl (by decide) rfl rfl ?_
  refine hz_L (L' := [(0, .ref (adr g 0)), (1, .int a0), (2, .int (0 : Int32)), (3, .int (0 : Int32))]) [2, 3, 1, 0] rfl ?_
  exact l4 hp_fu _ _ _
def F_X2_houseNumber (g : Nat) (a0 : Int32) (M : hp_M) : Option (Int32 × hp_M) := (if a0 = (0 : Int32) then (some ((M g 0 0), M)) else (if a0 = (1 : Int32) then (some ((M g 0 1), M)) else (if a0 = (2 : Int32) then (some ((M g 5 0), M)) else (if a0 = (3 : Int32) then (some ((M g 5 1), M)) else (if a0 = (4 : Int32) then (some ((M g 5 2), M)) else (if a0 = (5 : Int32) then (if (M g 5 0) = (2 : Int32) then (some ((M g 5 3), M)) else (some ((0 : Int32), M))) else (if a0 = (6 : Int32) then (if (M g 5 4) = 0 then (some ((0 : Int32), M)) else (some ((1 : Int32), M))) else (if a0 = (7 : Int32) then (some ((M g 6 1), M)) else (if a0 = (8 : Int32) then (hp_b (F_X2_flatsThatAre g (1 : Int32) M) (fun r1 M1 => (hp_b (F_J6_bitCount_0f7a4 r1 M1) (fun r2 M2 => (some (r2, M2)))))) else (if a0 = (9 : Int32) then (some ((M g 8 2), M)) else (hp_b (F_X2_debtOfAll g M) (fun r3 M3 => (some (r3, M3))))))))))))))
set_option maxRecDepth 20000 in
set_option maxHeartbeats 4000000 in
theorem c_X2_houseNumber (l : Launch) (g : Nat) (a0 : Int32) (hg : g < 12) (M : hp_M) : hp_Ct l yX2_houseNumber cX2_houseNumber 2 (some .int) 2 hp_IC (fun adr adV => [.ref (adr g 0), .int a0]) hp_oi M (F_X2_houseNumber g a0 M) := by
  refine hp_start "HallPhone$House" (fun adr adV => [(0, .ref (adr g 0)), (1, .int a0)]) (by decide) rfl (fun _ _ => by simp only [lg_sl]; exact Nat.le_of_ble_eq_true rfl) (fun _ _ => rfl) ?_
  intro p e s m args below meth c A D ids adr adV cA rep G0 hI hC hr
  unfold F_X2_houseNumber
  refine hz_iload_n (a := 1) (n := 1) hC dX2_houseNumber_0 rfl rfl rfl ?_
  refine hz_case (fun hk0 => ?_) (fun hk0 => ?_)
  · refine hz_tabIn (n := 56) hC hk0 dX2_houseNumber_1 (by decide +kernel) (by decide +kernel) (by rfl) (by decide +kernel) ?_
    refine hz_aload_n (a := 0) (n := 57) hC dX2_houseNumber_56 rfl rfl rfl ?_
    refine fg_X2_9 (n := 60) hC hg hI dX2_houseNumber_57 rfl ?_
    exact hz_iret hC hr dX2_houseNumber_60
  refine hz_case (fun hk1 => ?_) (fun hk1 => ?_)
  · refine hz_tabIn (n := 61) hC hk1 dX2_houseNumber_1 (by decide +kernel) (by decide +kernel) (by rfl) (by decide +kernel) ?_
    refine hz_aload_n (a := 0) (n := 62) hC dX2_houseNumber_61 rfl rfl rfl ?_
    refine fg_X2_15 (n := 65) hC hg hI dX2_houseNumber_62 rfl ?_
    exact hz_iret hC hr dX2_houseNumber_65
  refine hz_case (fun hk2 => ?_) (fun hk2 => ?_)
  · refine hz_tabIn (n := 66) hC hk2 dX2_houseNumber_1 (by decide +kernel) (by decide +kernel) (by rfl) (by decide +kernel) ?_
    refine hz_aload_n (a := 0) (n := 67) hC dX2_houseNumber_66 rfl rfl rfl ?_
    refine fg_X2_37 (n := 70) hC hg hI dX2_houseNumber_67 rfl ?_
    refine fg_X2_93 (n := 73) hC hg hI dX2_houseNumber_70 rfl ?_
    exact hz_iret hC hr dX2_houseNumber_73
  refine hz_case (fun hk3 => ?_) (fun hk3 => ?_)
  · refine hz_tabIn (n := 74) hC hk3 dX2_houseNumber_1 (by decide +kernel) (by decide +kernel) (by rfl) (by decide +kernel) ?_
    refine hz_aload_n (a := 0) (n := 75) hC dX2_houseNumber_74 rfl rfl rfl ?_
    refine fg_X2_37 (n := 78) hC hg hI dX2_houseNumber_75 rfl ?_
    refine fg_X2_96 (n := 81) hC hg hI dX2_houseNumber_78 rfl ?_
    exact hz_iret hC hr dX2_houseNumber_81
  refine hz_case (fun hk4 => ?_) (fun hk4 => ?_)
  · refine hz_tabIn (n := 82) hC hk4 dX2_houseNumber_1 (by decide +kernel) (by decide +kernel) (by rfl) (by decide +kernel) ?_
    refine hz_aload_n (a := 0) (n := 83) hC dX2_houseNumber_82 rfl rfl rfl ?_
    refine fg_X2_37 (n := 86) hC hg hI dX2_houseNumber_83 rfl ?_
    refine fg_X2_99 (n := 89) hC hg hI dX2_houseNumber_86 rfl ?_
    exact hz_iret hC hr dX2_houseNumber_89
  refine hz_case (fun hk5 => ?_) (fun hk5 => ?_)
  · refine hz_tabIn (n := 90) hC hk5 dX2_houseNumber_1 (by decide +kernel) (by decide +kernel) (by rfl) (by decide +kernel) ?_
    refine hz_aload_n (a := 0) (n := 91) hC dX2_houseNumber_90 rfl rfl rfl ?_
    refine fg_X2_37 (n := 94) hC hg hI dX2_houseNumber_91 rfl ?_
    refine fg_X2_93 (n := 97) hC hg hI dX2_houseNumber_94 rfl ?_
    refine hz_iconst (v := (2 : Int32)) (n := 98) hC dX2_houseNumber_97 (by decide +kernel) rfl ?_
    refine hz_icmp_ne (tgt := 111) (n := 101) hC dX2_houseNumber_98 (by decide) rfl (fun _ => ?_) (fun _ => ?_)
    · refine hz_aload_n (a := 0) (n := 102) hC dX2_houseNumber_101 rfl rfl rfl ?_
      refine fg_X2_37 (n := 105) hC hg hI dX2_houseNumber_102 rfl ?_
      refine fg_X2_102 (n := 108) hC hg hI dX2_houseNumber_105 rfl ?_
      refine hz_goto (n := 112) hC dX2_houseNumber_108 (by decide) ?_
      exact hz_iret hC hr dX2_houseNumber_112
    · refine hz_iconst (v := (0 : Int32)) (n := 112) hC dX2_houseNumber_111 (by decide +kernel) rfl ?_
      exact hz_iret hC hr dX2_houseNumber_112
  refine hz_case (fun hk6 => ?_) (fun hk6 => ?_)
  · refine hz_tabIn (n := 113) hC hk6 dX2_houseNumber_1 (by decide +kernel) (by decide +kernel) (by rfl) (by decide +kernel) ?_
    refine hz_aload_n (a := 0) (n := 114) hC dX2_houseNumber_113 rfl rfl rfl ?_
    refine fg_X2_37 (n := 117) hC hg hI dX2_houseNumber_114 rfl ?_
    refine fg_X2_105 (n := 120) hC hg hI dX2_houseNumber_117 rfl ?_
    refine hz_if_eq (tgt := 127) (n := 123) hC dX2_houseNumber_120 (by decide) rfl (fun _ => ?_) (fun _ => ?_)
    · refine hz_iconst (v := (0 : Int32)) (n := 128) hC dX2_houseNumber_127 (by decide +kernel) rfl ?_
      exact hz_iret hC hr dX2_houseNumber_128
    · refine hz_iconst (v := (1 : Int32)) (n := 124) hC dX2_houseNumber_123 (by decide +kernel) rfl ?_
      refine hz_goto (n := 128) hC dX2_houseNumber_124 (by decide) ?_
      exact hz_iret hC hr dX2_houseNumber_128
  refine hz_case (fun hk7 => ?_) (fun hk7 => ?_)
  · refine hz_tabIn (n := 129) hC hk7 dX2_houseNumber_1 (by decide +kernel) (by decide +kernel) (by rfl) (by decide +kernel) ?_
    refine hz_aload_n (a := 0) (n := 130) hC dX2_houseNumber_129 rfl rfl rfl ?_
    refine fg_X2_44 (n := 133) hC hg hI dX2_houseNumber_130 rfl ?_
    refine fg_X2_71 (n := 136) hC hg hI dX2_houseNumber_133 rfl ?_
    exact hz_iret hC hr dX2_houseNumber_136
  refine hz_case (fun hk8 => ?_) (fun hk8 => ?_)
  · refine hz_tabIn (n := 137) hC hk8 dX2_houseNumber_1 (by decide +kernel) (by decide +kernel) (by rfl) (by decide +kernel) ?_
    refine hz_aload_n (a := 0) (n := 138) hC dX2_houseNumber_137 rfl rfl rfl ?_
    refine hz_iconst (v := (1 : Int32)) (n := 139) hC dX2_houseNumber_138 (by decide +kernel) rfl ?_
    refine hz_callV (k := 1) (As := [.int (1 : Int32)]) (st := []) (S1 := fun r => .int r :: []) (n := 142) hC (c_X2_flatsThatAre l g (1 : Int32) hg  M) kv_X2_flatsThatAre wd_2_213 hI dX2_houseNumber_139 rfl (hI.1 g 0 hg (by decide)) (he_X2 hg) rfl rfl rfl (Nat.le_of_ble_eq_true rfl) ⟨Nat.le_of_ble_eq_true rfl, Nat.le_of_ble_eq_true rfl⟩ ⟨Nat.zero_le _, Nat.zero_le _⟩ (fun _ => rfl) rfl (fun r1 M1 _ => ?_)
    refine hz_callS (k := 1) (As := [.int r1]) (st := []) (S1 := fun r => .int r :: []) (n := 145) hC (c_J6_bitCount_0f7a4 l r1   M1) ks_J6_bitCount_0f7a4 wd_3_166 trivial dX2_houseNumber_142 rfl rfl rfl (Nat.le_of_ble_eq_true rfl) ⟨Nat.le_of_ble_eq_true rfl, Nat.le_of_ble_eq_true rfl⟩ ⟨Nat.zero_le _, Nat.zero_le _⟩ (fun _ => rfl) rfl (fun r2 M2 _ => ?_)
    exact hz_iret hC hr dX2_houseNumber_145
  refine hz_case (fun hk9 => ?_) (fun hk9 => ?_)
  · refine hz_tabIn (n := 146) hC hk9 dX2_houseNumber_1 (by decide +kernel) (by decide +kernel) (by rfl) (by decide +kernel) ?_
    refine hz_aload_n (a := 0) (n := 147) hC dX2_houseNumber_146 rfl rfl rfl ?_
    refine fg_X2_51 (n := 150) hC hg hI dX2_houseNumber_147 rfl ?_
    refine fg_X2_74 (n := 153) hC hg hI dX2_houseNumber_150 rfl ?_
    exact hz_iret hC hr dX2_houseNumber_153
  refine hz_tabOut (n := 154) hC (hp_out 10 (by decide) (fun k hk => by
    rcases (show k = 0 ∨ k = 1 ∨ k = 2 ∨ k = 3 ∨ k = 4 ∨ k = 5 ∨ k = 6 ∨ k = 7 ∨ k = 8 ∨ k = 9 by omega) with rfl | rfl | rfl | rfl | rfl | rfl | rfl | rfl | rfl | rfl
    · exact fun e => hk0 (Int32.toInt_inj.mp (e.trans (by decide +kernel)))
    · exact fun e => hk1 (Int32.toInt_inj.mp (e.trans (by decide +kernel)))
    · exact fun e => hk2 (Int32.toInt_inj.mp (e.trans (by decide +kernel)))
    · exact fun e => hk3 (Int32.toInt_inj.mp (e.trans (by decide +kernel)))
    · exact fun e => hk4 (Int32.toInt_inj.mp (e.trans (by decide +kernel)))
    · exact fun e => hk5 (Int32.toInt_inj.mp (e.trans (by decide +kernel)))
    · exact fun e => hk6 (Int32.toInt_inj.mp (e.trans (by decide +kernel)))
    · exact fun e => hk7 (Int32.toInt_inj.mp (e.trans (by decide +kernel)))
    · exact fun e => hk8 (Int32.toInt_inj.mp (e.trans (by decide +kernel)))
    · exact fun e => hk9 (Int32.toInt_inj.mp (e.trans (by decide +kernel)))
    )) dX2_houseNumber_1 (by decide +kernel) ?_
  refine hz_aload_n (a := 0) (n := 155) hC dX2_houseNumber_154 rfl rfl rfl ?_
  refine hz_callV (k := 0) (As := []) (st := []) (S1 := fun r => .int r :: []) (n := 158) hC (c_X2_debtOfAll l g hg  M) kv_X2_debtOfAll wd_3_172 hI dX2_houseNumber_155 rfl (hI.1 g 0 hg (by decide)) (he_X2 hg) rfl rfl rfl (Nat.le_of_ble_eq_true rfl) ⟨Nat.le_of_ble_eq_true rfl, Nat.le_of_ble_eq_true rfl⟩ ⟨Nat.zero_le _, Nat.zero_le _⟩ (fun _ => rfl) rfl (fun r3 M3 _ => ?_)
  exact hz_iret hC hr dX2_houseNumber_158
def F_X2_flatNumber (g : Nat) (a0 : Int32) (a1 : Int32) (M : hp_M) : Option (Int32 × hp_M) := (if a1 = (5 : Int32) then (hp_b (F_X4_placeOf g a0 M) (fun r1 M1 => (some (r1, M1)))) else (if a1 = (9 : Int32) then (hp_b (F_X6_countFor g a0 M) (fun r2 M2 => (some (r2, M2)))) else (hp_b (F_X2_get g a0 a1 M) (fun r3 M3 => (some (r3, M3))))))
set_option maxRecDepth 20000 in
set_option maxHeartbeats 4000000 in
theorem c_X2_flatNumber (l : Launch) (g : Nat) (a0 : Int32) (a1 : Int32) (hg : g < 12) (M : hp_M) : hp_Ct l yX2_flatNumber cX2_flatNumber 3 (some .int) 2 hp_IC (fun adr adV => [.ref (adr g 0), .int a0, .int a1]) hp_oi M (F_X2_flatNumber g a0 a1 M) := by
  refine hp_start "HallPhone$House" (fun adr adV => [(0, .ref (adr g 0)), (1, .int a0), (2, .int a1)]) (by decide) rfl (fun _ _ => by simp only [lg_sl]; exact Nat.le_of_ble_eq_true rfl) (fun _ _ => rfl) ?_
  intro p e s m args below meth c A D ids adr adV cA rep G0 hI hC hr
  unfold F_X2_flatNumber
  refine hz_iload_n (a := 2) (n := 1) hC dX2_flatNumber_0 rfl rfl rfl ?_
  refine hz_case (fun hk5 => ?_) (fun hk5 => ?_)
  · refine hz_lookup (off := 27) (n := 28) hC dX2_flatNumber_1 (by decide +kernel) (hp_lk hk5 (by decide +kernel)) (by decide) ?_
    refine hz_aload_n (a := 0) (n := 29) hC dX2_flatNumber_28 rfl rfl rfl ?_
    refine fg_X2_44 (n := 32) hC hg hI dX2_flatNumber_29 rfl ?_
    refine hz_iload_n (a := 1) (n := 33) hC dX2_flatNumber_32 rfl rfl rfl ?_
    refine hz_callVN (k := 1) (As := [.int a0]) (st := []) (S1 := fun r => .int r :: []) (n := 36) hC (c_X4_placeOf l g a0 hg  M) kv_X4_placeOf wd_3_209 hI dX2_flatNumber_33 rfl (hI.1 g 6 hg (by decide)) (he_X4 hg) rfl rfl rfl (Nat.le_of_ble_eq_true rfl) ⟨Nat.le_of_ble_eq_true rfl, Nat.le_of_ble_eq_true rfl⟩ ⟨Nat.zero_le _, Nat.zero_le _⟩ (fun _ => rfl) rfl (fun r1 M1 _ => ?_)
    exact hz_iret hC hr dX2_flatNumber_36
  refine hz_case (fun hk9 => ?_) (fun hk9 => ?_)
  · refine hz_lookup (off := 36) (n := 37) hC dX2_flatNumber_1 (by decide +kernel) (hp_lk hk9 (by decide +kernel)) (by decide) ?_
    refine hz_aload_n (a := 0) (n := 38) hC dX2_flatNumber_37 rfl rfl rfl ?_
    refine fg_X2_51 (n := 41) hC hg hI dX2_flatNumber_38 rfl ?_
    refine hz_iload_n (a := 1) (n := 42) hC dX2_flatNumber_41 rfl rfl rfl ?_
    refine hz_callVN (k := 1) (As := [.int a0]) (st := []) (S1 := fun r => .int r :: []) (n := 45) hC (c_X6_countFor l g a0 hg  M) kv_X6_countFor wd_3_213 hI dX2_flatNumber_42 rfl (hI.1 g 8 hg (by decide)) (he_X6 hg) rfl rfl rfl (Nat.le_of_ble_eq_true rfl) ⟨Nat.le_of_ble_eq_true rfl, Nat.le_of_ble_eq_true rfl⟩ ⟨Nat.zero_le _, Nat.zero_le _⟩ (fun _ => rfl) rfl (fun r2 M2 _ => ?_)
    exact hz_iret hC hr dX2_flatNumber_45
  refine hz_lookup (off := 45) (n := 46) hC dX2_flatNumber_1 (by decide +kernel) (hp_lk2 hk5 hk9 (by decide +kernel)) (by decide) ?_
  refine hz_aload_n (a := 0) (n := 47) hC dX2_flatNumber_46 rfl rfl rfl ?_
  refine hz_iload_n (a := 1) (n := 48) hC dX2_flatNumber_47 rfl rfl rfl ?_
  refine hz_iload_n (a := 2) (n := 49) hC dX2_flatNumber_48 rfl rfl rfl ?_
  refine hz_callV (k := 2) (As := [.int a0, .int a1]) (st := []) (S1 := fun r => .int r :: []) (n := 52) hC (c_X2_get l g a0 a1 hg  M) kv_X2_get wd_2_137 hI dX2_flatNumber_49 rfl (hI.1 g 0 hg (by decide)) (he_X2 hg) rfl rfl rfl (Nat.le_of_ble_eq_true rfl) ⟨Nat.le_of_ble_eq_true rfl, Nat.le_of_ble_eq_true rfl⟩ ⟨Nat.zero_le _, Nat.zero_le _⟩ (fun _ => rfl) rfl (fun r3 M3 _ => ?_)
  exact hz_iret hC hr dX2_flatNumber_52
def F_X2_accountNumber (g : Nat) (a0 : Int32) (M : hp_M) : Option (Int32 × hp_M) := (if a0 = 0 then (some ((M g 0 1), M)) else (if a0 = (10 : Int32) then (hp_b (F_X2_debtOfAll g M) (fun r1 M1 => (some (((((((M g 2 4) - (M g 2 5)) - r1) + (M1 g 2 6)) - (M1 g 2 7)) - (M1 g 8 2)), M1)))) else (if a0 < 0 then (some ((0 : Int32), M)) else (if (10 : Int32) ≤ a0 then (some ((0 : Int32), M)) else (if a0 < 0 ∨ 10 ≤ (a0).toNatClampNeg then none else (some ((M g 2 (a0).toNatClampNeg), M)))))))
set_option maxRecDepth 20000 in
set_option maxHeartbeats 4000000 in
theorem c_X2_accountNumber (l : Launch) (g : Nat) (a0 : Int32) (hg : g < 12) (M : hp_M) : hp_Ct l yX2_accountNumber cX2_accountNumber 2 (some .int) 2 hp_IC (fun adr adV => [.ref (adr g 0), .int a0]) hp_oi M (F_X2_accountNumber g a0 M) := by
  refine hp_start "HallPhone$House" (fun adr adV => [(0, .ref (adr g 0)), (1, .int a0)]) (by decide) rfl (fun _ _ => by simp only [lg_sl]; exact Nat.le_of_ble_eq_true rfl) (fun _ _ => rfl) ?_
  intro p e s m args below meth c A D ids adr adV cA rep G0 hI hC hr
  unfold F_X2_accountNumber
  refine hz_iload_n (a := 1) (n := 1) hC dX2_accountNumber_0 rfl rfl rfl ?_
  refine hz_if_ne (tgt := 9) (n := 4) hC dX2_accountNumber_1 (by decide) rfl (fun _ => ?_) (fun _ => ?_)
  · refine hz_aload_n (a := 0) (n := 5) hC dX2_accountNumber_4 rfl rfl rfl ?_
    refine fg_X2_15 (n := 8) hC hg hI dX2_accountNumber_5 rfl ?_
    exact hz_iret hC hr dX2_accountNumber_8
  · refine hz_iload_n (a := 1) (n := 10) hC dX2_accountNumber_9 rfl rfl rfl ?_
    refine hz_bipush (v := (10 : Int32)) (n := 12) hC dX2_accountNumber_10 (by decide +kernel) rfl ?_
    refine hz_icmp_ne (tgt := 58) (n := 15) hC dX2_accountNumber_12 (by decide) rfl (fun _ => ?_) (fun _ => ?_)
    · refine hz_aload_n (a := 0) (n := 16) hC dX2_accountNumber_15 rfl rfl rfl ?_
      refine fg_X2_25 (n := 19) hC hg hI dX2_accountNumber_16 rfl ?_
      refine hz_iconst (v := (4 : Int32)) (n := 20) hC dX2_accountNumber_19 (by decide +kernel) rfl ?_
      refine hz_ialdc (k := 4) (n := 21) hC (by decide +kernel) (by decide) dX2_accountNumber_20 (hI.1 g 2 hg (by decide)) (ha_h2 hg) rfl ?_
      refine hz_aload_n (a := 0) (n := 22) hC dX2_accountNumber_21 rfl rfl rfl ?_
      refine fg_X2_25 (n := 25) hC hg hI dX2_accountNumber_22 rfl ?_
      refine hz_iconst (v := (5 : Int32)) (n := 26) hC dX2_accountNumber_25 (by decide +kernel) rfl ?_
      refine hz_ialdc (k := 5) (n := 27) hC (by decide +kernel) (by decide) dX2_accountNumber_26 (hI.1 g 2 hg (by decide)) (ha_h2 hg) rfl ?_
      refine hz_isub (n := 28) hC dX2_accountNumber_27 rfl ?_
      refine hz_aload_n (a := 0) (n := 29) hC dX2_accountNumber_28 rfl rfl rfl ?_
      refine hz_callV (k := 0) (As := []) (st := [.int ((M g 2 4) - (M g 2 5))]) (S1 := fun r => .int r :: [.int ((M g 2 4) - (M g 2 5))]) (n := 32) hC (c_X2_debtOfAll l g hg  M) kv_X2_debtOfAll wd_3_172 hI dX2_accountNumber_29 rfl (hI.1 g 0 hg (by decide)) (he_X2 hg) rfl rfl rfl (Nat.le_of_ble_eq_true rfl) ⟨Nat.le_of_ble_eq_true rfl, Nat.le_of_ble_eq_true rfl⟩ ⟨Nat.zero_le _, Nat.zero_le _⟩ (fun _ => rfl) rfl (fun r1 M1 _ => ?_)
      refine hz_isub (n := 33) hC dX2_accountNumber_32 rfl ?_
      refine hz_aload_n (a := 0) (n := 34) hC dX2_accountNumber_33 rfl rfl rfl ?_
      refine fg_X2_25 (n := 37) hC hg hI dX2_accountNumber_34 rfl ?_
      refine hz_bipush (v := (6 : Int32)) (n := 39) hC dX2_accountNumber_37 (by decide +kernel) rfl ?_
      refine hz_ialdc (k := 6) (n := 40) hC (by decide +kernel) (by decide) dX2_accountNumber_39 (hI.1 g 2 hg (by decide)) (ha_h2 hg) rfl ?_
      refine hz_iadd (n := 41) hC dX2_accountNumber_40 rfl ?_
      refine hz_aload_n (a := 0) (n := 42) hC dX2_accountNumber_41 rfl rfl rfl ?_
      refine fg_X2_25 (n := 45) hC hg hI dX2_accountNumber_42 rfl ?_
      refine hz_bipush (v := (7 : Int32)) (n := 47) hC dX2_accountNumber_45 (by decide +kernel) rfl ?_
      refine hz_ialdc (k := 7) (n := 48) hC (by decide +kernel) (by decide) dX2_accountNumber_47 (hI.1 g 2 hg (by decide)) (ha_h2 hg) rfl ?_
      refine hz_isub (n := 49) hC dX2_accountNumber_48 rfl ?_
      refine hz_aload_n (a := 0) (n := 50) hC dX2_accountNumber_49 rfl rfl rfl ?_
      refine fg_X2_51 (n := 53) hC hg hI dX2_accountNumber_50 rfl ?_
      refine fg_X2_74 (n := 56) hC hg hI dX2_accountNumber_53 rfl ?_
      refine hz_isub (n := 57) hC dX2_accountNumber_56 rfl ?_
      exact hz_iret hC hr dX2_accountNumber_57
    · refine hz_iload_n (a := 1) (n := 59) hC dX2_accountNumber_58 rfl rfl rfl ?_
      refine hz_if_lt (tgt := 80) (n := 62) hC dX2_accountNumber_59 (by decide) rfl (fun _ => ?_) (fun _ => ?_)
      · refine hz_iconst (v := (0 : Int32)) (n := 81) hC dX2_accountNumber_80 (by decide +kernel) rfl ?_
        exact hz_iret hC hr dX2_accountNumber_81
      · refine hz_iload_n (a := 1) (n := 63) hC dX2_accountNumber_62 rfl rfl rfl ?_
        refine hz_aload_n (a := 0) (n := 64) hC dX2_accountNumber_63 rfl rfl rfl ?_
        refine fg_X2_25 (n := 67) hC hg hI dX2_accountNumber_64 rfl ?_
        refine hz_alen (v := (10 : Int32)) (t := 0) (n := 68) hC dX2_accountNumber_67 (hI.1 g 2 hg (by decide)) (ha_h2 hg) rfl (by decide +kernel) rfl ?_
        refine hz_icmp_ge (tgt := 80) (n := 71) hC dX2_accountNumber_68 (by decide) rfl (fun _ => ?_) (fun _ => ?_)
        · refine hz_iconst (v := (0 : Int32)) (n := 81) hC dX2_accountNumber_80 (by decide +kernel) rfl ?_
          exact hz_iret hC hr dX2_accountNumber_81
        · refine hz_aload_n (a := 0) (n := 72) hC dX2_accountNumber_71 rfl rfl rfl ?_
          refine fg_X2_25 (n := 75) hC hg hI dX2_accountNumber_72 rfl ?_
          refine hz_iload_n (a := 1) (n := 76) hC dX2_accountNumber_75 rfl rfl rfl ?_
          refine hz_iald (n := 77) hC dX2_accountNumber_76 (hI.1 g 2 hg (by decide)) (ha_h2 hg) rfl (fun _ => ?_)
          refine hz_goto (n := 81) hC dX2_accountNumber_77 (by decide) ?_
          exact hz_iret hC hr dX2_accountNumber_81
def F_X2_isListener (g : Nat) (a0 : Int32) (M : hp_M) : Option (Int32 × hp_M) := (hp_b (F_X2_get g a0 (2 : Int32) M) (fun r1 M1 => (if r1 = 0 then (hp_b (F_X2_get g a0 (1 : Int32) M1) (fun r2 M2 => (if r2 = (1 : Int32) then (hp_b (F_X2_get g a0 (0 : Int32) M2) (fun r3 M3 => (if (M3 g 1 3) < r3 then (some ((0 : Int32), M3)) else (some ((1 : Int32), M3))))) else (some ((0 : Int32), M2))))) else (some ((0 : Int32), M1)))))
set_option maxRecDepth 20000 in
set_option maxHeartbeats 4000000 in
theorem c_X2_isListener (l : Launch) (g : Nat) (a0 : Int32) (hg : g < 12) (M : hp_M) : hp_Ct l yX2_isListener cX2_isListener 2 (some .boolean) 1 hp_IC (fun adr adV => [.ref (adr g 0), .int a0]) hp_oi M (F_X2_isListener g a0 M) := by
  refine hp_start "HallPhone$House" (fun adr adV => [(0, .ref (adr g 0)), (1, .int a0)]) (by decide) rfl (fun _ _ => by simp only [lg_sl]; exact Nat.le_of_ble_eq_true rfl) (fun _ _ => rfl) ?_
  intro p e s m args below meth c A D ids adr adV cA rep G0 hI hC hr
  unfold F_X2_isListener
  refine hz_aload_n (a := 0) (n := 1) hC dX2_isListener_0 rfl rfl rfl ?_
  refine hz_iload_n (a := 1) (n := 2) hC dX2_isListener_1 rfl rfl rfl ?_
  refine hz_iconst (v := (2 : Int32)) (n := 3) hC dX2_isListener_2 (by decide +kernel) rfl ?_
  refine hz_callV (k := 2) (As := [.int a0, .int (2 : Int32)]) (st := []) (S1 := fun r => .int r :: []) (n := 6) hC (c_X2_get l g a0 (2 : Int32) hg  M) kv_X2_get wd_2_137 hI dX2_isListener_3 rfl (hI.1 g 0 hg (by decide)) (he_X2 hg) rfl rfl rfl (Nat.le_of_ble_eq_true rfl) ⟨Nat.le_of_ble_eq_true rfl, Nat.le_of_ble_eq_true rfl⟩ ⟨Nat.zero_le _, Nat.zero_le _⟩ (fun _ => rfl) rfl (fun r1 M1 _ => ?_)
  refine hz_if_ne (tgt := 38) (n := 9) hC dX2_isListener_6 (by decide) rfl (fun _ => ?_) (fun _ => ?_)
  · refine hz_aload_n (a := 0) (n := 10) hC dX2_isListener_9 rfl rfl rfl ?_
    refine hz_iload_n (a := 1) (n := 11) hC dX2_isListener_10 rfl rfl rfl ?_
    refine hz_iconst (v := (1 : Int32)) (n := 12) hC dX2_isListener_11 (by decide +kernel) rfl ?_
    refine hz_callV (k := 2) (As := [.int a0, .int (1 : Int32)]) (st := []) (S1 := fun r => .int r :: []) (n := 15) hC (c_X2_get l g a0 (1 : Int32) hg  M1) kv_X2_get wd_2_137 hI dX2_isListener_12 rfl (hI.1 g 0 hg (by decide)) (he_X2 hg) rfl rfl rfl (Nat.le_of_ble_eq_true rfl) ⟨Nat.le_of_ble_eq_true rfl, Nat.le_of_ble_eq_true rfl⟩ ⟨Nat.zero_le _, Nat.zero_le _⟩ (fun _ => rfl) rfl (fun r2 M2 _ => ?_)
    refine hz_iconst (v := (1 : Int32)) (n := 16) hC dX2_isListener_15 (by decide +kernel) rfl ?_
    refine hz_icmp_ne (tgt := 38) (n := 19) hC dX2_isListener_16 (by decide) rfl (fun _ => ?_) (fun _ => ?_)
    · refine hz_aload_n (a := 0) (n := 20) hC dX2_isListener_19 rfl rfl rfl ?_
      refine hz_iload_n (a := 1) (n := 21) hC dX2_isListener_20 rfl rfl rfl ?_
      refine hz_iconst (v := (0 : Int32)) (n := 22) hC dX2_isListener_21 (by decide +kernel) rfl ?_
      refine hz_callV (k := 2) (As := [.int a0, .int (0 : Int32)]) (st := []) (S1 := fun r => .int r :: []) (n := 25) hC (c_X2_get l g a0 (0 : Int32) hg  M2) kv_X2_get wd_2_137 hI dX2_isListener_22 rfl (hI.1 g 0 hg (by decide)) (he_X2 hg) rfl rfl rfl (Nat.le_of_ble_eq_true rfl) ⟨Nat.le_of_ble_eq_true rfl, Nat.le_of_ble_eq_true rfl⟩ ⟨Nat.zero_le _, Nat.zero_le _⟩ (fun _ => rfl) rfl (fun r3 M3 _ => ?_)
      refine hz_aload_n (a := 0) (n := 26) hC dX2_isListener_25 rfl rfl rfl ?_
      refine fg_X2_21 (n := 29) hC hg hI dX2_isListener_26 rfl ?_
      refine hz_iconst (v := (3 : Int32)) (n := 30) hC dX2_isListener_29 (by decide +kernel) rfl ?_
      refine hz_ialdc (k := 3) (n := 31) hC (by decide +kernel) (by decide) dX2_isListener_30 (hI.1 g 1 hg (by decide)) (ha_h1 hg) rfl ?_
      refine hz_icmp_gt (tgt := 38) (n := 34) hC dX2_isListener_31 (by decide) rfl (fun _ => ?_) (fun _ => ?_)
      · refine hz_iconst (v := (0 : Int32)) (n := 39) hC dX2_isListener_38 (by decide +kernel) rfl ?_
        exact hz_zret hC hr nz_0 dX2_isListener_39
      · refine hz_iconst (v := (1 : Int32)) (n := 35) hC dX2_isListener_34 (by decide +kernel) rfl ?_
        refine hz_goto (n := 39) hC dX2_isListener_35 (by decide) ?_
        exact hz_zret hC hr nz_1 dX2_isListener_39
    · refine hz_iconst (v := (0 : Int32)) (n := 39) hC dX2_isListener_38 (by decide +kernel) rfl ?_
      exact hz_zret hC hr nz_0 dX2_isListener_39
  · refine hz_iconst (v := (0 : Int32)) (n := 39) hC dX2_isListener_38 (by decide +kernel) rfl ?_
    exact hz_zret hC hr nz_0 dX2_isListener_39
def F_X2_costOf (g : Nat) (a0 : Int32) (M : hp_M) : Option (Int32 × hp_M) := (if (M g 1 1) ≤ 0 then (some ((0 : Int32), M)) else (if (M g 1 1) = 0 then none else (some (((M g 1 2) * (((a0 + (M g 1 1)) - (1 : Int32)) / (M g 1 1))), M))))
set_option maxRecDepth 20000 in
set_option maxHeartbeats 4000000 in
theorem c_X2_costOf (l : Launch) (g : Nat) (a0 : Int32) (hg : g < 12) (M : hp_M) : hp_Ct l yX2_costOf cX2_costOf 3 (some .int) 0 hp_IC (fun adr adV => [.ref (adr g 0), .int a0]) hp_oi M (F_X2_costOf g a0 M) := by
  refine hp_start "HallPhone$House" (fun adr adV => [(0, .ref (adr g 0)), (1, .int a0)]) (by decide) rfl (fun _ _ => by simp only [lg_sl]; exact Nat.le_of_ble_eq_true rfl) (fun _ _ => rfl) ?_
  intro p e s m args below meth c A D ids adr adV cA rep G0 hI hC hr
  unfold F_X2_costOf
  refine hz_aload_n (a := 0) (n := 1) hC dX2_costOf_0 rfl rfl rfl ?_
  refine fg_X2_21 (n := 4) hC hg hI dX2_costOf_1 rfl ?_
  refine hz_iconst (v := (1 : Int32)) (n := 5) hC dX2_costOf_4 (by decide +kernel) rfl ?_
  refine hz_ialdc (k := 1) (n := 6) hC (by decide +kernel) (by decide) dX2_costOf_5 (hI.1 g 1 hg (by decide)) (ha_h1 hg) rfl ?_
  refine hz_istore_n (L' := [(2, .int (M g 1 1)), (0, .ref (adr g 0)), (1, .int a0)]) (n := 7) hC dX2_costOf_6 rfl (by decide) rfl rfl ?_
  refine hz_iload_n (a := 0) (n := 8) hC dX2_costOf_7 rfl rfl rfl ?_
  refine hz_if_le (tgt := 28) (n := 11) hC dX2_costOf_8 (by decide) rfl (fun _ => ?_) (fun _ => ?_)
  · refine hz_iconst (v := (0 : Int32)) (n := 29) hC dX2_costOf_28 (by decide +kernel) rfl ?_
    exact hz_iret hC hr dX2_costOf_29
  · refine hz_aload_n (a := 1) (n := 12) hC dX2_costOf_11 rfl rfl rfl ?_
    refine fg_X2_21 (n := 15) hC hg hI dX2_costOf_12 rfl ?_
    refine hz_iconst (v := (2 : Int32)) (n := 16) hC dX2_costOf_15 (by decide +kernel) rfl ?_
    refine hz_ialdc (k := 2) (n := 17) hC (by decide +kernel) (by decide) dX2_costOf_16 (hI.1 g 1 hg (by decide)) (ha_h1 hg) rfl ?_
    refine hz_iload_n (a := 2) (n := 18) hC dX2_costOf_17 rfl rfl rfl ?_
    refine hz_iload_n (a := 0) (n := 19) hC dX2_costOf_18 rfl rfl rfl ?_
    refine hz_iadd (n := 20) hC dX2_costOf_19 rfl ?_
    refine hz_iconst (v := (1 : Int32)) (n := 21) hC dX2_costOf_20 (by decide +kernel) rfl ?_
    refine hz_isub (n := 22) hC dX2_costOf_21 rfl ?_
    refine hz_iload_n (a := 0) (n := 23) hC dX2_costOf_22 rfl rfl rfl ?_
    refine hz_idiv (n := 24) hC dX2_costOf_23 rfl (fun _ => ?_)
    refine hz_imul (n := 25) hC dX2_costOf_24 rfl ?_
    refine hz_goto (n := 29) hC dX2_costOf_25 (by decide) ?_
    exact hz_iret hC hr dX2_costOf_29
def F_X2_connect (g : Nat) (a0 : Int32) (a1 : Int32) (a2 : Int32) (M : hp_M) : Option (Unit × hp_M) := (hp_b (F_X4_leave g a0 M) (fun _ M1 => (hp_b (F_X2_put g a0 (2 : Int32) (3 : Int32) M1) (fun _ M2 => (hp_b (F_X2_put g a0 (4 : Int32) (0 : Int32) M2) (fun _ M3 => (hp_b (F_X3_connect g a0 a1 a2 M3) (fun _ M4 => (some ((), M4))))))))))
set_option maxRecDepth 20000 in
set_option maxHeartbeats 4000000 in
theorem c_X2_connect (l : Launch) (g : Nat) (a0 : Int32) (a1 : Int32) (a2 : Int32) (hg : g < 12) (M : hp_M) : hp_Ct l yX2_connect cX2_connect 4 none 1 hp_IC (fun adr adV => [.ref (adr g 0), .int a0, .int a1, .int a2]) hp_oo M (F_X2_connect g a0 a1 a2 M) := by
  refine hp_start "HallPhone$House" (fun adr adV => [(0, .ref (adr g 0)), (1, .int a0), (2, .int a1), (3, .int a2)]) (by decide) rfl (fun _ _ => by simp only [lg_sl]; exact Nat.le_of_ble_eq_true rfl) (fun _ _ => rfl) ?_
  intro p e s m args below meth c A D ids adr adV cA rep G0 hI hC hr
  unfold F_X2_connect
  refine hz_aload_n (a := 0) (n := 1) hC dX2_connect_0 rfl rfl rfl ?_
  refine fg_X2_44 (n := 4) hC hg hI dX2_connect_1 rfl ?_
  refine hz_iload_n (a := 1) (n := 5) hC dX2_connect_4 rfl rfl rfl ?_
  refine hz_callVN (k := 1) (As := [.int a0]) (st := []) (S1 := fun _ => []) (n := 8) hC (c_X4_leave l g a0 hg  M) kv_X4_leave wd_2_165 hI dX2_connect_5 rfl (hI.1 g 6 hg (by decide)) (he_X4 hg) rfl rfl rfl (Nat.le_of_ble_eq_true rfl) ⟨Nat.le_of_ble_eq_true rfl, Nat.le_of_ble_eq_true rfl⟩ ⟨Nat.zero_le _, Nat.zero_le _⟩ (fun _ => rfl) rfl (fun r1 M1 _ => ?_)
  refine hz_aload_n (a := 0) (n := 9) hC dX2_connect_8 rfl rfl rfl ?_
  refine hz_iload_n (a := 1) (n := 10) hC dX2_connect_9 rfl rfl rfl ?_
  refine hz_iconst (v := (2 : Int32)) (n := 11) hC dX2_connect_10 (by decide +kernel) rfl ?_
  refine hz_iconst (v := (3 : Int32)) (n := 12) hC dX2_connect_11 (by decide +kernel) rfl ?_
  refine hz_callV (k := 3) (As := [.int a0, .int (2 : Int32), .int (3 : Int32)]) (st := []) (S1 := fun _ => []) (n := 15) hC (c_X2_put l g a0 (2 : Int32) (3 : Int32) hg  M1) kv_X2_put wd_2_108 hI dX2_connect_12 rfl (hI.1 g 0 hg (by decide)) (he_X2 hg) rfl rfl rfl (Nat.le_of_ble_eq_true rfl) ⟨Nat.le_of_ble_eq_true rfl, Nat.le_of_ble_eq_true rfl⟩ ⟨Nat.zero_le _, Nat.zero_le _⟩ (fun _ => rfl) rfl (fun r2 M2 _ => ?_)
  refine hz_aload_n (a := 0) (n := 16) hC dX2_connect_15 rfl rfl rfl ?_
  refine hz_iload_n (a := 1) (n := 17) hC dX2_connect_16 rfl rfl rfl ?_
  refine hz_iconst (v := (4 : Int32)) (n := 18) hC dX2_connect_17 (by decide +kernel) rfl ?_
  refine hz_iconst (v := (0 : Int32)) (n := 19) hC dX2_connect_18 (by decide +kernel) rfl ?_
  refine hz_callV (k := 3) (As := [.int a0, .int (4 : Int32), .int (0 : Int32)]) (st := []) (S1 := fun _ => []) (n := 22) hC (c_X2_put l g a0 (4 : Int32) (0 : Int32) hg  M2) kv_X2_put wd_2_108 hI dX2_connect_19 rfl (hI.1 g 0 hg (by decide)) (he_X2 hg) rfl rfl rfl (Nat.le_of_ble_eq_true rfl) ⟨Nat.le_of_ble_eq_true rfl, Nat.le_of_ble_eq_true rfl⟩ ⟨Nat.zero_le _, Nat.zero_le _⟩ (fun _ => rfl) rfl (fun r3 M3 _ => ?_)
  refine hz_aload_n (a := 0) (n := 23) hC dX2_connect_22 rfl rfl rfl ?_
  refine fg_X2_37 (n := 26) hC hg hI dX2_connect_23 rfl ?_
  refine hz_iload_n (a := 1) (n := 27) hC dX2_connect_26 rfl rfl rfl ?_
  refine hz_iload_n (a := 2) (n := 28) hC dX2_connect_27 rfl rfl rfl ?_
  refine hz_iload_n (a := 3) (n := 29) hC dX2_connect_28 rfl rfl rfl ?_
  refine hz_callVN (k := 3) (As := [.int a0, .int a1, .int a2]) (st := []) (S1 := fun _ => []) (n := 32) hC (c_X3_connect l g a0 a1 a2 hg  M3) kv_X3_connect wd_2_193 hI dX2_connect_29 rfl (hI.1 g 5 hg (by decide)) (he_X3 hg) rfl rfl rfl (Nat.le_of_ble_eq_true rfl) ⟨Nat.le_of_ble_eq_true rfl, Nat.le_of_ble_eq_true rfl⟩ ⟨Nat.zero_le _, Nat.zero_le _⟩ (fun _ => rfl) rfl (fun r4 M4 _ => ?_)
  exact hz_vret hC hr dX2_connect_32
def F_X2_isCalled (g : Nat) (a0 : Int32) (M : hp_M) : Option (Int32 × hp_M) := (if (M g 5 0) = (1 : Int32) then (if (M g 5 1) = a0 then (some ((1 : Int32), M)) else (some ((0 : Int32), M))) else (some ((0 : Int32), M)))
set_option maxRecDepth 20000 in
set_option maxHeartbeats 4000000 in
theorem c_X2_isCalled (l : Launch) (g : Nat) (a0 : Int32) (hg : g < 12) (M : hp_M) : hp_Ct l yX2_isCalled cX2_isCalled 2 (some .boolean) 0 hp_IC (fun adr adV => [.ref (adr g 0), .int a0]) hp_oi M (F_X2_isCalled g a0 M) := by
  refine hp_start "HallPhone$House" (fun adr adV => [(0, .ref (adr g 0)), (1, .int a0)]) (by decide) rfl (fun _ _ => by simp only [lg_sl]; exact Nat.le_of_ble_eq_true rfl) (fun _ _ => rfl) ?_
  intro p e s m args below meth c A D ids adr adV cA rep G0 hI hC hr
  unfold F_X2_isCalled
  refine hz_aload_n (a := 0) (n := 1) hC dX2_isCalled_0 rfl rfl rfl ?_
  refine fg_X2_37 (n := 4) hC hg hI dX2_isCalled_1 rfl ?_
  refine fg_X2_93 (n := 7) hC hg hI dX2_isCalled_4 rfl ?_
  refine hz_iconst (v := (1 : Int32)) (n := 8) hC dX2_isCalled_7 (by decide +kernel) rfl ?_
  refine hz_icmp_ne (tgt := 26) (n := 11) hC dX2_isCalled_8 (by decide) rfl (fun _ => ?_) (fun _ => ?_)
  · refine hz_aload_n (a := 0) (n := 12) hC dX2_isCalled_11 rfl rfl rfl ?_
    refine fg_X2_37 (n := 15) hC hg hI dX2_isCalled_12 rfl ?_
    refine fg_X2_96 (n := 18) hC hg hI dX2_isCalled_15 rfl ?_
    refine hz_iload_n (a := 1) (n := 19) hC dX2_isCalled_18 rfl rfl rfl ?_
    refine hz_icmp_ne (tgt := 26) (n := 22) hC dX2_isCalled_19 (by decide) rfl (fun _ => ?_) (fun _ => ?_)
    · refine hz_iconst (v := (1 : Int32)) (n := 23) hC dX2_isCalled_22 (by decide +kernel) rfl ?_
      refine hz_goto (n := 27) hC dX2_isCalled_23 (by decide) ?_
      exact hz_zret hC hr nz_1 dX2_isCalled_27
    · refine hz_iconst (v := (0 : Int32)) (n := 27) hC dX2_isCalled_26 (by decide +kernel) rfl ?_
      exact hz_zret hC hr nz_0 dX2_isCalled_27
  · refine hz_iconst (v := (0 : Int32)) (n := 27) hC dX2_isCalled_26 (by decide +kernel) rfl ?_
    exact hz_zret hC hr nz_0 dX2_isCalled_27
def F_X2_comeDown (g : Nat) (a0 : Int32) (M : hp_M) : Option (Unit × hp_M) := (hp_b (F_X2_get g a0 (2 : Int32) M) (fun r1 M1 => (if r1 = (1 : Int32) then (hp_b (F_X2_get g a0 (3 : Int32) M1) (fun r2 M2 => (hp_b (F_X2_put g a0 (3 : Int32) (r2 - (1 : Int32)) M2) (fun _ M3 => (if (r2 - (1 : Int32)) ≤ 0 then (hp_b (F_X6_wipeFor g a0 M3) (fun r4 M4 => (hp_b (F_X2_isCalled g a0 (hp_p M4 g 2 7 ((M3 g 2 7) + r4))) (fun r5 M5 => (if r5 = 0 then (hp_b (F_X2_put g a0 (2 : Int32) (2 : Int32) M5) (fun _ M6 => (hp_b (F_X4_join g a0 M6) (fun _ M7 => (some ((), M7)))))) else (hp_b (F_X2_connect g a0 (M5 g 5 3) (1 : Int32) M5) (fun _ M8 => (some ((), M8))))))))) else (some ((), M3))))))) else (some ((), M1)))))
set_option maxRecDepth 20000 in
set_option maxHeartbeats 4000000 in
theorem c_X2_comeDown (l : Launch) (g : Nat) (a0 : Int32) (hg : g < 12) (M : hp_M) : hp_Ct l yX2_comeDown cX2_comeDown 3 none 2 hp_IC (fun adr adV => [.ref (adr g 0), .int a0]) hp_oo M (F_X2_comeDown g a0 M) := by
  refine hp_start "HallPhone$House" (fun adr adV => [(0, .ref (adr g 0)), (1, .int a0)]) (by decide) rfl (fun _ _ => by simp only [lg_sl]; exact Nat.le_of_ble_eq_true rfl) (fun _ _ => rfl) ?_
  intro p e s m args below meth c A D ids adr adV cA rep G0 hI hC hr
  unfold F_X2_comeDown
  refine hz_aload_n (a := 0) (n := 1) hC dX2_comeDown_0 rfl rfl rfl ?_
  refine hz_iload_n (a := 1) (n := 2) hC dX2_comeDown_1 rfl rfl rfl ?_
  refine hz_iconst (v := (2 : Int32)) (n := 3) hC dX2_comeDown_2 (by decide +kernel) rfl ?_
  refine hz_callV (k := 2) (As := [.int a0, .int (2 : Int32)]) (st := []) (S1 := fun r => .int r :: []) (n := 6) hC (c_X2_get l g a0 (2 : Int32) hg  M) kv_X2_get wd_2_137 hI dX2_comeDown_3 rfl (hI.1 g 0 hg (by decide)) (he_X2 hg) rfl rfl rfl (Nat.le_of_ble_eq_true rfl) ⟨Nat.le_of_ble_eq_true rfl, Nat.le_of_ble_eq_true rfl⟩ ⟨Nat.zero_le _, Nat.zero_le _⟩ (fun _ => rfl) rfl (fun r1 M1 _ => ?_)
  refine hz_iconst (v := (1 : Int32)) (n := 7) hC dX2_comeDown_6 (by decide +kernel) rfl ?_
  refine hz_icmp_eq (tgt := 11) (n := 10) hC dX2_comeDown_7 (by decide) rfl (fun _ => ?_) (fun _ => ?_)
  · refine hz_aload_n (a := 0) (n := 12) hC dX2_comeDown_11 rfl rfl rfl ?_
    refine hz_iload_n (a := 1) (n := 13) hC dX2_comeDown_12 rfl rfl rfl ?_
    refine hz_iconst (v := (3 : Int32)) (n := 14) hC dX2_comeDown_13 (by decide +kernel) rfl ?_
    refine hz_callV (k := 2) (As := [.int a0, .int (3 : Int32)]) (st := []) (S1 := fun r => .int r :: []) (n := 17) hC (c_X2_get l g a0 (3 : Int32) hg  M1) kv_X2_get wd_2_137 hI dX2_comeDown_14 rfl (hI.1 g 0 hg (by decide)) (he_X2 hg) rfl rfl rfl (Nat.le_of_ble_eq_true rfl) ⟨Nat.le_of_ble_eq_true rfl, Nat.le_of_ble_eq_true rfl⟩ ⟨Nat.zero_le _, Nat.zero_le _⟩ (fun _ => rfl) rfl (fun r2 M2 _ => ?_)
    refine hz_iconst (v := (1 : Int32)) (n := 18) hC dX2_comeDown_17 (by decide +kernel) rfl ?_
    refine hz_isub (n := 19) hC dX2_comeDown_18 rfl ?_
    refine hz_istore_n (L' := [(2, .int (r2 - (1 : Int32))), (0, .ref (adr g 0)), (1, .int a0)]) (n := 20) hC dX2_comeDown_19 rfl (by decide) rfl rfl ?_
    refine hz_aload_n (a := 1) (n := 21) hC dX2_comeDown_20 rfl rfl rfl ?_
    refine hz_iload_n (a := 2) (n := 22) hC dX2_comeDown_21 rfl rfl rfl ?_
    refine hz_iconst (v := (3 : Int32)) (n := 23) hC dX2_comeDown_22 (by decide +kernel) rfl ?_
    refine hz_iload_n (a := 0) (n := 24) hC dX2_comeDown_23 rfl rfl rfl ?_
    refine hz_callV (k := 3) (As := [.int a0, .int (3 : Int32), .int (r2 - (1 : Int32))]) (st := []) (S1 := fun _ => []) (n := 27) hC (c_X2_put l g a0 (3 : Int32) (r2 - (1 : Int32)) hg  M2) kv_X2_put wd_2_108 hI dX2_comeDown_24 rfl (hI.1 g 0 hg (by decide)) (he_X2 hg) rfl rfl rfl (Nat.le_of_ble_eq_true rfl) ⟨Nat.le_of_ble_eq_true rfl, Nat.le_of_ble_eq_true rfl⟩ ⟨Nat.zero_le _, Nat.zero_le _⟩ (fun _ => rfl) rfl (fun r3 M3 _ => ?_)
    refine hz_iload_n (a := 0) (n := 28) hC dX2_comeDown_27 rfl rfl rfl ?_
    refine hz_if_le (tgt := 32) (n := 31) hC dX2_comeDown_28 (by decide) rfl (fun _ => ?_) (fun _ => ?_)
    · refine hz_aload_n (a := 1) (n := 33) hC dX2_comeDown_32 rfl rfl rfl ?_
      refine fg_X2_25 (n := 36) hC hg hI dX2_comeDown_33 rfl ?_
      refine hz_bipush (v := (7 : Int32)) (n := 38) hC dX2_comeDown_36 (by decide +kernel) rfl ?_
      refine hz_dup2 (n := 39) hC dX2_comeDown_38 rfl rfl rfl ?_
      refine hz_ialdc (k := 7) (n := 40) hC (by decide +kernel) (by decide) dX2_comeDown_39 (hI.1 g 2 hg (by decide)) (ha_h2 hg) rfl ?_
      refine hz_aload_n (a := 1) (n := 41) hC dX2_comeDown_40 rfl rfl rfl ?_
      refine fg_X2_51 (n := 44) hC hg hI dX2_comeDown_41 rfl ?_
      refine hz_iload_n (a := 2) (n := 45) hC dX2_comeDown_44 rfl rfl rfl ?_
      refine hz_callVN (k := 1) (As := [.int a0]) (st := [.int (M3 g 2 7), .int (7 : Int32), .ref (adr g 2)]) (S1 := fun r => .int r :: [.int (M3 g 2 7), .int (7 : Int32), .ref (adr g 2)]) (n := 48) hC (c_X6_wipeFor l g a0 hg  M3) kv_X6_wipeFor wd_2_233 hI dX2_comeDown_45 rfl (hI.1 g 8 hg (by decide)) (he_X6 hg) rfl rfl rfl (Nat.le_of_ble_eq_true rfl) ⟨Nat.le_of_ble_eq_true rfl, Nat.le_of_ble_eq_true rfl⟩ ⟨Nat.zero_le _, Nat.zero_le _⟩ (fun _ => rfl) rfl (fun r4 M4 _ => ?_)
      refine hz_iadd (n := 49) hC dX2_comeDown_48 rfl ?_
      refine hz_iastc (k := 7) (n := 50) hC (by decide +kernel) (by decide) dX2_comeDown_49 (hI.1 g 2 hg (by decide)) (ha_h2 hg) rfl ?_
      refine hz_aload_n (a := 1) (n := 51) hC dX2_comeDown_50 rfl rfl rfl ?_
      refine hz_iload_n (a := 2) (n := 52) hC dX2_comeDown_51 rfl rfl rfl ?_
      refine hz_callV (k := 1) (As := [.int a0]) (st := []) (S1 := fun r => .int r :: []) (n := 55) hC (c_X2_isCalled l g a0 hg  (hp_p M4 g 2 7 ((M3 g 2 7) + r4))) kv_X2_isCalled wd_2_149 hI dX2_comeDown_52 rfl (hI.1 g 0 hg (by decide)) (he_X2 hg) rfl rfl rfl (Nat.le_of_ble_eq_true rfl) ⟨Nat.le_of_ble_eq_true rfl, Nat.le_of_ble_eq_true rfl⟩ ⟨Nat.zero_le _, Nat.zero_le _⟩ (fun _ => rfl) rfl (fun r5 M5 _ => ?_)
      refine hz_if_eq (tgt := 74) (n := 58) hC dX2_comeDown_55 (by decide) rfl (fun _ => ?_) (fun _ => ?_)
      · refine hz_aload_n (a := 1) (n := 75) hC dX2_comeDown_74 rfl rfl rfl ?_
        refine hz_iload_n (a := 2) (n := 76) hC dX2_comeDown_75 rfl rfl rfl ?_
        refine hz_iconst (v := (2 : Int32)) (n := 77) hC dX2_comeDown_76 (by decide +kernel) rfl ?_
        refine hz_iconst (v := (2 : Int32)) (n := 78) hC dX2_comeDown_77 (by decide +kernel) rfl ?_
        refine hz_callV (k := 3) (As := [.int a0, .int (2 : Int32), .int (2 : Int32)]) (st := []) (S1 := fun _ => []) (n := 81) hC (c_X2_put l g a0 (2 : Int32) (2 : Int32) hg  M5) kv_X2_put wd_2_108 hI dX2_comeDown_78 rfl (hI.1 g 0 hg (by decide)) (he_X2 hg) rfl rfl rfl (Nat.le_of_ble_eq_true rfl) ⟨Nat.le_of_ble_eq_true rfl, Nat.le_of_ble_eq_true rfl⟩ ⟨Nat.zero_le _, Nat.zero_le _⟩ (fun _ => rfl) rfl (fun r6 M6 _ => ?_)
        refine hz_aload_n (a := 1) (n := 82) hC dX2_comeDown_81 rfl rfl rfl ?_
        refine fg_X2_44 (n := 85) hC hg hI dX2_comeDown_82 rfl ?_
        refine hz_iload_n (a := 2) (n := 86) hC dX2_comeDown_85 rfl rfl rfl ?_
        refine hz_callVN (k := 1) (As := [.int a0]) (st := []) (S1 := fun _ => []) (n := 89) hC (c_X4_join l g a0 hg  M6) kv_X4_join wd_2_237 hI dX2_comeDown_86 rfl (hI.1 g 6 hg (by decide)) (he_X4 hg) rfl rfl rfl (Nat.le_of_ble_eq_true rfl) ⟨Nat.le_of_ble_eq_true rfl, Nat.le_of_ble_eq_true rfl⟩ ⟨Nat.zero_le _, Nat.zero_le _⟩ (fun _ => rfl) rfl (fun r7 M7 _ => ?_)
        exact hz_vret hC hr dX2_comeDown_89
      · refine hz_aload_n (a := 1) (n := 59) hC dX2_comeDown_58 rfl rfl rfl ?_
        refine hz_iload_n (a := 2) (n := 60) hC dX2_comeDown_59 rfl rfl rfl ?_
        refine hz_aload_n (a := 1) (n := 61) hC dX2_comeDown_60 rfl rfl rfl ?_
        refine fg_X2_37 (n := 64) hC hg hI dX2_comeDown_61 rfl ?_
        refine fg_X2_102 (n := 67) hC hg hI dX2_comeDown_64 rfl ?_
        refine hz_iconst (v := (1 : Int32)) (n := 68) hC dX2_comeDown_67 (by decide +kernel) rfl ?_
        refine hz_callV (k := 3) (As := [.int a0, .int (M5 g 5 3), .int (1 : Int32)]) (st := []) (S1 := fun _ => []) (n := 71) hC (c_X2_connect l g a0 (M5 g 5 3) (1 : Int32) hg  M5) kv_X2_connect wd_2_189 hI dX2_comeDown_68 rfl (hI.1 g 0 hg (by decide)) (he_X2 hg) rfl rfl rfl (Nat.le_of_ble_eq_true rfl) ⟨Nat.le_of_ble_eq_true rfl, Nat.le_of_ble_eq_true rfl⟩ ⟨Nat.zero_le _, Nat.zero_le _⟩ (fun _ => rfl) rfl (fun r8 M8 _ => ?_)
        refine hz_goto (n := 89) hC dX2_comeDown_71 (by decide) ?_
        exact hz_vret hC hr dX2_comeDown_89
    · exact hz_vret hC hr dX2_comeDown_31
  · exact hz_vret hC hr dX2_comeDown_10
def L_X2_countWaiting_2 (g : Nat)   : Nat → Int32 → hp_M → Option (Unit × hp_M)
  | 0, _, _ => none
  | n2 + 1, x1, M => (if (M g 6 1) ≤ x1 then (some ((), M)) else (hp_b (F_X4_at g x1 M) (fun r1 M1 => (hp_b (F_X2_get g r1 (10 : Int32) M1) (fun r2 M2 => (hp_b (F_X2_put g r1 (10 : Int32) (r2 + (1 : Int32)) M2) (fun _ M3 => (L_X2_countWaiting_2 g n2 (x1 + (1 : Int32)) M3))))))))
def F_X2_countWaiting (g : Nat) (M : hp_M) : Option (Unit × hp_M) := (L_X2_countWaiting_2 g hp_fu (0 : Int32) M)
set_option maxRecDepth 20000 in
set_option maxHeartbeats 4000000 in
theorem c_X2_countWaiting (l : Launch) (g : Nat) (hg : g < 12) (M : hp_M) : hp_Ct l yX2_countWaiting cX2_countWaiting 3 none 1 hp_IC (fun adr adV => [.ref (adr g 0)]) hp_oo M (F_X2_countWaiting g M) := by
  refine hp_start "HallPhone$House" (fun adr adV => [(0, .ref (adr g 0))]) (by decide) rfl (fun _ _ => by simp only [lg_sl]; exact Nat.le_of_ble_eq_true rfl) (fun _ _ => rfl) ?_
  intro p e s m args below meth c A D ids adr adV cA rep G0 hI hC hr
  unfold F_X2_countWaiting
  have l2 : ∀  (n2 : Nat) (x1 : Int32) (M : hp_M), hp_Z p l e (hp_rm 1) s m args below meth c 3 A D ids adr adV cA 0 0 (MQ below (hp_Q A D ids adr adV cA rep hp_oo G0) args s 0 0 A) G0 rep 2 [(0, .ref (adr g 0)), (1, .int x1)] [] M (L_X2_countWaiting_2 g n2 x1 M) := by
    intro  n2
    induction n2 with
    | zero => intro x1 M; exact hz_none hC
    | succ n2 ih2 =>
      intro x1 M
      rw [L_X2_countWaiting_2.eq_2]
      refine hz_iload_n (a := 1) (n := 3) hC dX2_countWaiting_2 rfl rfl rfl ?_
      refine hz_aload_n (a := 0) (n := 4) hC dX2_countWaiting_3 rfl rfl rfl ?_
      refine fg_X2_44 (n := 7) hC hg hI dX2_countWaiting_4 rfl ?_
      refine fg_X2_71 (n := 10) hC hg hI dX2_countWaiting_7 rfl ?_
      refine hz_icmp_ge (tgt := 44) (n := 13) hC dX2_countWaiting_10 (by decide) rfl (fun _ => ?_) (fun _ => ?_)
      · exact hz_vret hC hr dX2_countWaiting_44
      · refine hz_aload_n (a := 0) (n := 14) hC dX2_countWaiting_13 rfl rfl rfl ?_
        refine fg_X2_44 (n := 17) hC hg hI dX2_countWaiting_14 rfl ?_
        refine hz_iload_n (a := 1) (n := 18) hC dX2_countWaiting_17 rfl rfl rfl ?_
        refine hz_callVN (k := 1) (As := [.int x1]) (st := []) (S1 := fun r => .int r :: []) (n := 21) hC (c_X4_at l g x1 hg  M) kv_X4_at wd_3_5 hI dX2_countWaiting_18 rfl (hI.1 g 6 hg (by decide)) (he_X4 hg) rfl rfl rfl (Nat.le_of_ble_eq_true rfl) ⟨Nat.le_of_ble_eq_true rfl, Nat.le_of_ble_eq_true rfl⟩ ⟨Nat.zero_le _, Nat.zero_le _⟩ (fun _ => rfl) rfl (fun r1 M1 _ => ?_)
        refine hz_istore_n (L' := [(2, .int r1), (0, .ref (adr g 0)), (1, .int x1)]) (n := 22) hC dX2_countWaiting_21 rfl (by decide) rfl rfl ?_
        refine hz_aload_n (a := 1) (n := 23) hC dX2_countWaiting_22 rfl rfl rfl ?_
        refine hz_iload_n (a := 0) (n := 24) hC dX2_countWaiting_23 rfl rfl rfl ?_
        refine hz_bipush (v := (10 : Int32)) (n := 26) hC dX2_countWaiting_24 (by decide +kernel) rfl ?_
        refine hz_aload_n (a := 1) (n := 27) hC dX2_countWaiting_26 rfl rfl rfl ?_
        refine hz_iload_n (a := 0) (n := 28) hC dX2_countWaiting_27 rfl rfl rfl ?_
        refine hz_bipush (v := (10 : Int32)) (n := 30) hC dX2_countWaiting_28 (by decide +kernel) rfl ?_
        refine hz_callV (k := 2) (As := [.int r1, .int (10 : Int32)]) (st := [.int (10 : Int32), .int r1, .ref (adr g 0)]) (S1 := fun r => .int r :: [.int (10 : Int32), .int r1, .ref (adr g 0)]) (n := 33) hC (c_X2_get l g r1 (10 : Int32) hg  M1) kv_X2_get wd_2_137 hI dX2_countWaiting_30 rfl (hI.1 g 0 hg (by decide)) (he_X2 hg) rfl rfl rfl (Nat.le_of_ble_eq_true rfl) ⟨Nat.le_of_ble_eq_true rfl, Nat.le_of_ble_eq_true rfl⟩ ⟨Nat.zero_le _, Nat.zero_le _⟩ (fun _ => rfl) rfl (fun r2 M2 _ => ?_)
        refine hz_iconst (v := (1 : Int32)) (n := 34) hC dX2_countWaiting_33 (by decide +kernel) rfl ?_
        refine hz_iadd (n := 35) hC dX2_countWaiting_34 rfl ?_
        refine hz_callV (k := 3) (As := [.int r1, .int (10 : Int32), .int (r2 + (1 : Int32))]) (st := []) (S1 := fun _ => []) (n := 38) hC (c_X2_put l g r1 (10 : Int32) (r2 + (1 : Int32)) hg  M2) kv_X2_put wd_2_108 hI dX2_countWaiting_35 rfl (hI.1 g 0 hg (by decide)) (he_X2 hg) rfl rfl rfl (Nat.le_of_ble_eq_true rfl) ⟨Nat.le_of_ble_eq_true rfl, Nat.le_of_ble_eq_true rfl⟩ ⟨Nat.zero_le _, Nat.zero_le _⟩ (fun _ => rfl) rfl (fun r3 M3 _ => ?_)
        refine hz_iinc (a := 2) (v := (x1 + (1 : Int32))) (L' := [(1, .int (x1 + (1 : Int32))), (2, .int r1), (0, .ref (adr g 0))]) (n := 41) hC dX2_countWaiting_38 rfl rfl (by decide) rfl rfl ?_
        refine hz_goto (n := 2) hC dX2_countWaiting_41 (by decide) ?_
        refine hz_L (L' := [(0, .ref (adr g 0)), (1, .int (x1 + (1 : Int32)))]) [2, 0] rfl ?_
        exact ih2 _ _
  refine hz_iconst (v := (0 : Int32)) (n := 1) hC dX2_countWaiting_0 (by decide +kernel) rfl ?_
  refine hz_istore_n (L' := [(1, .int (0 : Int32)), (0, .ref (adr g 0))]) (n := 2) hC dX2_countWaiting_1 rfl (by decide) rfl rfl ?_
  refine hz_L (L' := [(0, .ref (adr g 0)), (1, .int (0 : Int32))]) [1, 0] rfl ?_
  exact l2 hp_fu _ _
def A_X2_endCall_35 (g : Nat)  (y35_1 : Int32) (y35_2 : Int32) (z35_0 : Int32) (M : hp_M) : Option (Int32 × hp_M) := (hp_b (F_X2_put g y35_1 (2 : Int32) (0 : Int32) M) (fun _ M2 => (hp_b (F_X2_get g y35_1 (6 : Int32) M2) (fun r3 M3 => (hp_b (F_X2_put g y35_1 (6 : Int32) (r3 + z35_0) M3) (fun _ M4 => (hp_b (F_X2_get g y35_1 (8 : Int32) M4) (fun r5 M5 => (hp_b (F_X2_put g y35_1 (8 : Int32) (r5 + (1 : Int32)) M5) (fun _ M6 => (hp_b (F_X3_putDown g (hp_p (hp_p (hp_p M6 g 2 1 ((M6 g 2 1) + (1 : Int32))) g 2 4 (((hp_p M6 g 2 1 ((M6 g 2 1) + (1 : Int32))) g 2 4) + z35_0)) g 0 2 (((hp_p (hp_p M6 g 2 1 ((M6 g 2 1) + (1 : Int32))) g 2 4 (((hp_p M6 g 2 1 ((M6 g 2 1) + (1 : Int32))) g 2 4) + z35_0)) g 0 2) + y35_2))) (fun _ M7 => (some (y35_2, M7))))))))))))))
def F_X2_endCall (g : Nat) (M : hp_M) : Option (Int32 × hp_M) := (if (M g 5 4) = 0 then (hp_b (F_X2_costOf g (M g 5 2) M) (fun r1 M1 => (A_X2_endCall_35 g (M g 5 1) (M g 5 2) r1 M1))) else (A_X2_endCall_35 g (M g 5 1) (M g 5 2) (0 : Int32) M))
set_option maxRecDepth 20000 in
set_option maxHeartbeats 4000000 in
theorem c_X2_endCall (l : Launch) (g : Nat) (hg : g < 12) (M : hp_M) : hp_Ct l yX2_endCall cX2_endCall 4 (some .int) 1 hp_IC (fun adr adV => [.ref (adr g 0)]) hp_oi M (F_X2_endCall g M) := by
  refine hp_start "HallPhone$House" (fun adr adV => [(0, .ref (adr g 0))]) (by decide) rfl (fun _ _ => by simp only [lg_sl]; exact Nat.le_of_ble_eq_true rfl) (fun _ _ => rfl) ?_
  intro p e s m args below meth c A D ids adr adV cA rep G0 hI hC hr
  unfold F_X2_endCall
  have j35 : ∀ (y35_1 : Int32) (y35_2 : Int32) (z35_0 : Int32) (M : hp_M), hp_Z p l e (hp_rm 1) s m args below meth c 4 A D ids adr adV cA 0 0 (MQ below (hp_Q A D ids adr adV cA rep hp_oi G0) args s 0 0 A) G0 rep 35 [(0, .ref (adr g 0)), (1, .int y35_1), (2, .int y35_2)] [.int z35_0] M (A_X2_endCall_35 g y35_1 y35_2 z35_0 M) := by
    intro y35_1 y35_2 z35_0 M
    unfold A_X2_endCall_35
    refine hz_istore_n (L' := [(3, .int z35_0), (0, .ref (adr g 0)), (1, .int y35_1), (2, .int y35_2)]) (n := 36) hC dX2_endCall_35 rfl (by decide) rfl rfl ?_
    refine hz_aload_n (a := 1) (n := 37) hC dX2_endCall_36 rfl rfl rfl ?_
    refine hz_iload_n (a := 2) (n := 38) hC dX2_endCall_37 rfl rfl rfl ?_
    refine hz_iconst (v := (2 : Int32)) (n := 39) hC dX2_endCall_38 (by decide +kernel) rfl ?_
    refine hz_iconst (v := (0 : Int32)) (n := 40) hC dX2_endCall_39 (by decide +kernel) rfl ?_
    refine hz_callV (k := 3) (As := [.int y35_1, .int (2 : Int32), .int (0 : Int32)]) (st := []) (S1 := fun _ => []) (n := 43) hC (c_X2_put l g y35_1 (2 : Int32) (0 : Int32) hg  M) kv_X2_put wd_2_108 hI dX2_endCall_40 rfl (hI.1 g 0 hg (by decide)) (he_X2 hg) rfl rfl rfl (Nat.le_of_ble_eq_true rfl) ⟨Nat.le_of_ble_eq_true rfl, Nat.le_of_ble_eq_true rfl⟩ ⟨Nat.zero_le _, Nat.zero_le _⟩ (fun _ => rfl) rfl (fun r2 M2 _ => ?_)
    refine hz_aload_n (a := 1) (n := 44) hC dX2_endCall_43 rfl rfl rfl ?_
    refine hz_iload_n (a := 2) (n := 45) hC dX2_endCall_44 rfl rfl rfl ?_
    refine hz_bipush (v := (6 : Int32)) (n := 47) hC dX2_endCall_45 (by decide +kernel) rfl ?_
    refine hz_aload_n (a := 1) (n := 48) hC dX2_endCall_47 rfl rfl rfl ?_
    refine hz_iload_n (a := 2) (n := 49) hC dX2_endCall_48 rfl rfl rfl ?_
    refine hz_bipush (v := (6 : Int32)) (n := 51) hC dX2_endCall_49 (by decide +kernel) rfl ?_
    refine hz_callV (k := 2) (As := [.int y35_1, .int (6 : Int32)]) (st := [.int (6 : Int32), .int y35_1, .ref (adr g 0)]) (S1 := fun r => .int r :: [.int (6 : Int32), .int y35_1, .ref (adr g 0)]) (n := 54) hC (c_X2_get l g y35_1 (6 : Int32) hg  M2) kv_X2_get wd_2_137 hI dX2_endCall_51 rfl (hI.1 g 0 hg (by decide)) (he_X2 hg) rfl rfl rfl (Nat.le_of_ble_eq_true rfl) ⟨Nat.le_of_ble_eq_true rfl, Nat.le_of_ble_eq_true rfl⟩ ⟨Nat.zero_le _, Nat.zero_le _⟩ (fun _ => rfl) rfl (fun r3 M3 _ => ?_)
    refine hz_iload_n (a := 0) (n := 55) hC dX2_endCall_54 rfl rfl rfl ?_
    refine hz_iadd (n := 56) hC dX2_endCall_55 rfl ?_
    refine hz_callV (k := 3) (As := [.int y35_1, .int (6 : Int32), .int (r3 + z35_0)]) (st := []) (S1 := fun _ => []) (n := 59) hC (c_X2_put l g y35_1 (6 : Int32) (r3 + z35_0) hg  M3) kv_X2_put wd_2_108 hI dX2_endCall_56 rfl (hI.1 g 0 hg (by decide)) (he_X2 hg) rfl rfl rfl (Nat.le_of_ble_eq_true rfl) ⟨Nat.le_of_ble_eq_true rfl, Nat.le_of_ble_eq_true rfl⟩ ⟨Nat.zero_le _, Nat.zero_le _⟩ (fun _ => rfl) rfl (fun r4 M4 _ => ?_)
    refine hz_aload_n (a := 1) (n := 60) hC dX2_endCall_59 rfl rfl rfl ?_
    refine hz_iload_n (a := 2) (n := 61) hC dX2_endCall_60 rfl rfl rfl ?_
    refine hz_bipush (v := (8 : Int32)) (n := 63) hC dX2_endCall_61 (by decide +kernel) rfl ?_
    refine hz_aload_n (a := 1) (n := 64) hC dX2_endCall_63 rfl rfl rfl ?_
    refine hz_iload_n (a := 2) (n := 65) hC dX2_endCall_64 rfl rfl rfl ?_
    refine hz_bipush (v := (8 : Int32)) (n := 67) hC dX2_endCall_65 (by decide +kernel) rfl ?_
    refine hz_callV (k := 2) (As := [.int y35_1, .int (8 : Int32)]) (st := [.int (8 : Int32), .int y35_1, .ref (adr g 0)]) (S1 := fun r => .int r :: [.int (8 : Int32), .int y35_1, .ref (adr g 0)]) (n := 70) hC (c_X2_get l g y35_1 (8 : Int32) hg  M4) kv_X2_get wd_2_137 hI dX2_endCall_67 rfl (hI.1 g 0 hg (by decide)) (he_X2 hg) rfl rfl rfl (Nat.le_of_ble_eq_true rfl) ⟨Nat.le_of_ble_eq_true rfl, Nat.le_of_ble_eq_true rfl⟩ ⟨Nat.zero_le _, Nat.zero_le _⟩ (fun _ => rfl) rfl (fun r5 M5 _ => ?_)
    refine hz_iconst (v := (1 : Int32)) (n := 71) hC dX2_endCall_70 (by decide +kernel) rfl ?_
    refine hz_iadd (n := 72) hC dX2_endCall_71 rfl ?_
    refine hz_callV (k := 3) (As := [.int y35_1, .int (8 : Int32), .int (r5 + (1 : Int32))]) (st := []) (S1 := fun _ => []) (n := 75) hC (c_X2_put l g y35_1 (8 : Int32) (r5 + (1 : Int32)) hg  M5) kv_X2_put wd_2_108 hI dX2_endCall_72 rfl (hI.1 g 0 hg (by decide)) (he_X2 hg) rfl rfl rfl (Nat.le_of_ble_eq_true rfl) ⟨Nat.le_of_ble_eq_true rfl, Nat.le_of_ble_eq_true rfl⟩ ⟨Nat.zero_le _, Nat.zero_le _⟩ (fun _ => rfl) rfl (fun r6 M6 _ => ?_)
    refine hz_aload_n (a := 1) (n := 76) hC dX2_endCall_75 rfl rfl rfl ?_
    refine fg_X2_25 (n := 79) hC hg hI dX2_endCall_76 rfl ?_
    refine hz_iconst (v := (1 : Int32)) (n := 80) hC dX2_endCall_79 (by decide +kernel) rfl ?_
    refine hz_dup2 (n := 81) hC dX2_endCall_80 rfl rfl rfl ?_
    refine hz_ialdc (k := 1) (n := 82) hC (by decide +kernel) (by decide) dX2_endCall_81 (hI.1 g 2 hg (by decide)) (ha_h2 hg) rfl ?_
    refine hz_iconst (v := (1 : Int32)) (n := 83) hC dX2_endCall_82 (by decide +kernel) rfl ?_
    refine hz_iadd (n := 84) hC dX2_endCall_83 rfl ?_
    refine hz_iastc (k := 1) (n := 85) hC (by decide +kernel) (by decide) dX2_endCall_84 (hI.1 g 2 hg (by decide)) (ha_h2 hg) rfl ?_
    refine hz_aload_n (a := 1) (n := 86) hC dX2_endCall_85 rfl rfl rfl ?_
    refine fg_X2_25 (n := 89) hC hg hI dX2_endCall_86 rfl ?_
    refine hz_iconst (v := (4 : Int32)) (n := 90) hC dX2_endCall_89 (by decide +kernel) rfl ?_
    refine hz_dup2 (n := 91) hC dX2_endCall_90 rfl rfl rfl ?_
    refine hz_ialdc (k := 4) (n := 92) hC (by decide +kernel) (by decide) dX2_endCall_91 (hI.1 g 2 hg (by decide)) (ha_h2 hg) rfl ?_
    refine hz_iload_n (a := 0) (n := 93) hC dX2_endCall_92 rfl rfl rfl ?_
    refine hz_iadd (n := 94) hC dX2_endCall_93 rfl ?_
    refine hz_iastc (k := 4) (n := 95) hC (by decide +kernel) (by decide) dX2_endCall_94 (hI.1 g 2 hg (by decide)) (ha_h2 hg) rfl ?_
    refine hz_aload_n (a := 1) (n := 96) hC dX2_endCall_95 rfl rfl rfl ?_
    refine hz_dup (n := 97) hC dX2_endCall_96 rfl rfl ?_
    refine fg_X2_18 (n := 100) hC hg hI dX2_endCall_97 rfl ?_
    refine hz_iload_n (a := 3) (n := 101) hC dX2_endCall_100 rfl rfl rfl ?_
    refine hz_iadd (n := 102) hC dX2_endCall_101 rfl ?_
    refine fp_X2_18 (n := 105) hC hg hI (((hp_p (hp_p M6 g 2 1 ((M6 g 2 1) + (1 : Int32))) g 2 4 (((hp_p M6 g 2 1 ((M6 g 2 1) + (1 : Int32))) g 2 4) + z35_0)) g 0 2) + y35_2) dX2_endCall_102 rfl ?_
    refine hz_aload_n (a := 1) (n := 106) hC dX2_endCall_105 rfl rfl rfl ?_
    refine fg_X2_37 (n := 109) hC hg hI dX2_endCall_106 rfl ?_
    refine hz_callVN (k := 0) (As := []) (st := []) (S1 := fun _ => []) (n := 112) hC (c_X3_putDown l g hg  (hp_p (hp_p (hp_p M6 g 2 1 ((M6 g 2 1) + (1 : Int32))) g 2 4 (((hp_p M6 g 2 1 ((M6 g 2 1) + (1 : Int32))) g 2 4) + z35_0)) g 0 2 (((hp_p (hp_p M6 g 2 1 ((M6 g 2 1) + (1 : Int32))) g 2 4 (((hp_p M6 g 2 1 ((M6 g 2 1) + (1 : Int32))) g 2 4) + z35_0)) g 0 2) + y35_2))) kv_X3_putDown wd_2_66 hI dX2_endCall_109 rfl (hI.1 g 5 hg (by decide)) (he_X3 hg) rfl rfl rfl (Nat.le_of_ble_eq_true rfl) ⟨Nat.le_of_ble_eq_true rfl, Nat.le_of_ble_eq_true rfl⟩ ⟨Nat.zero_le _, Nat.zero_le _⟩ (fun _ => rfl) rfl (fun r7 M7 _ => ?_)
    refine hz_iload_n (a := 3) (n := 113) hC dX2_endCall_112 rfl rfl rfl ?_
    exact hz_iret hC hr dX2_endCall_113
  refine hz_aload_n (a := 0) (n := 1) hC dX2_endCall_0 rfl rfl rfl ?_
  refine fg_X2_37 (n := 4) hC hg hI dX2_endCall_1 rfl ?_
  refine fg_X2_96 (n := 7) hC hg hI dX2_endCall_4 rfl ?_
  refine hz_istore_n (L' := [(1, .int (M g 5 1)), (0, .ref (adr g 0))]) (n := 8) hC dX2_endCall_7 rfl (by decide) rfl rfl ?_
  refine hz_aload_n (a := 1) (n := 9) hC dX2_endCall_8 rfl rfl rfl ?_
  refine fg_X2_37 (n := 12) hC hg hI dX2_endCall_9 rfl ?_
  refine fg_X2_99 (n := 15) hC hg hI dX2_endCall_12 rfl ?_
  refine hz_istore_n (L' := [(2, .int (M g 5 2)), (1, .int (M g 5 1)), (0, .ref (adr g 0))]) (n := 16) hC dX2_endCall_15 rfl (by decide) rfl rfl ?_
  refine hz_aload_n (a := 2) (n := 17) hC dX2_endCall_16 rfl rfl rfl ?_
  refine fg_X2_37 (n := 20) hC hg hI dX2_endCall_17 rfl ?_
  refine fg_X2_105 (n := 23) hC hg hI dX2_endCall_20 rfl ?_
  refine hz_if_eq (tgt := 30) (n := 26) hC dX2_endCall_23 (by decide) rfl (fun _ => ?_) (fun _ => ?_)
  · refine hz_aload_n (a := 2) (n := 31) hC dX2_endCall_30 rfl rfl rfl ?_
    refine hz_iload_n (a := 0) (n := 32) hC dX2_endCall_31 rfl rfl rfl ?_
    refine hz_callV (k := 1) (As := [.int (M g 5 2)]) (st := []) (S1 := fun r => .int r :: []) (n := 35) hC (c_X2_costOf l g (M g 5 2) hg  M) kv_X2_costOf wd_2_173 hI dX2_endCall_32 rfl (hI.1 g 0 hg (by decide)) (he_X2 hg) rfl rfl rfl (Nat.le_of_ble_eq_true rfl) ⟨Nat.le_of_ble_eq_true rfl, Nat.le_of_ble_eq_true rfl⟩ ⟨Nat.zero_le _, Nat.zero_le _⟩ (fun _ => rfl) rfl (fun r1 M1 _ => ?_)
    refine hz_L (L' := [(0, .ref (adr g 0)), (1, .int (M g 5 1)), (2, .int (M g 5 2))]) [2, 1, 0] rfl ?_
    exact j35 _ _ _ _
  · refine hz_iconst (v := (0 : Int32)) (n := 27) hC dX2_endCall_26 (by decide +kernel) rfl ?_
    refine hz_goto (n := 35) hC dX2_endCall_27 (by decide) ?_
    refine hz_L (L' := [(0, .ref (adr g 0)), (1, .int (M g 5 1)), (2, .int (M g 5 2))]) [2, 1, 0] rfl ?_
    exact j35 _ _ _ _
def A_X2_isCallOver_37 (g : Nat)  (z37_0 : Int32) (M : hp_M) : Option (Int32 × hp_M) := (if (M g 5 0) = (2 : Int32) then (if (M g 5 3) ≤ 0 then (some ((1 : Int32), M)) else (if z37_0 = 0 then (some ((0 : Int32), M)) else (some ((1 : Int32), M)))) else (some ((0 : Int32), M)))
def A_X2_isCallOver_36 (g : Nat)   (M : hp_M) : Option (Int32 × hp_M) := (A_X2_isCallOver_37 g (0 : Int32) M)
def F_X2_isCallOver (g : Nat) (M : hp_M) : Option (Int32 × hp_M) := (if (M g 1 0) ≤ 0 then (A_X2_isCallOver_36 g M) else (if (M g 5 2) < (M g 1 0) then (A_X2_isCallOver_36 g M) else (if (M g 6 1) ≤ 0 then (A_X2_isCallOver_36 g M) else (A_X2_isCallOver_37 g (1 : Int32) M))))
set_option maxRecDepth 20000 in
set_option maxHeartbeats 4000000 in
theorem c_X2_isCallOver (l : Launch) (g : Nat) (hg : g < 12) (M : hp_M) : hp_Ct l yX2_isCallOver cX2_isCallOver 3 (some .boolean) 0 hp_IC (fun adr adV => [.ref (adr g 0)]) hp_oi M (F_X2_isCallOver g M) := by
  refine hp_start "HallPhone$House" (fun adr adV => [(0, .ref (adr g 0))]) (by decide) rfl (fun _ _ => by simp only [lg_sl]; exact Nat.le_of_ble_eq_true rfl) (fun _ _ => rfl) ?_
  intro p e s m args below meth c A D ids adr adV cA rep G0 hI hC hr
  unfold F_X2_isCallOver
  have j37 : ∀ (z37_0 : Int32) (M : hp_M), hp_Z p l e (hp_rm 0) s m args below meth c 3 A D ids adr adV cA 0 0 (MQ below (hp_Q A D ids adr adV cA rep hp_oi G0) args s 0 0 A) G0 rep 37 [(0, .ref (adr g 0))] [.int z37_0] M (A_X2_isCallOver_37 g z37_0 M) := by
    intro z37_0 M
    unfold A_X2_isCallOver_37
    refine hz_istore_n (L' := [(2, .int z37_0), (0, .ref (adr g 0))]) (n := 38) hC dX2_isCallOver_37 rfl (by decide) rfl rfl ?_
    refine hz_aload_n (a := 1) (n := 39) hC dX2_isCallOver_38 rfl rfl rfl ?_
    refine fg_X2_37 (n := 42) hC hg hI dX2_isCallOver_39 rfl ?_
    refine fg_X2_93 (n := 45) hC hg hI dX2_isCallOver_42 rfl ?_
    refine hz_iconst (v := (2 : Int32)) (n := 46) hC dX2_isCallOver_45 (by decide +kernel) rfl ?_
    refine hz_icmp_ne (tgt := 67) (n := 49) hC dX2_isCallOver_46 (by decide) rfl (fun _ => ?_) (fun _ => ?_)
    · refine hz_aload_n (a := 1) (n := 50) hC dX2_isCallOver_49 rfl rfl rfl ?_
      refine fg_X2_37 (n := 53) hC hg hI dX2_isCallOver_50 rfl ?_
      refine fg_X2_102 (n := 56) hC hg hI dX2_isCallOver_53 rfl ?_
      refine hz_if_le (tgt := 63) (n := 59) hC dX2_isCallOver_56 (by decide) rfl (fun _ => ?_) (fun _ => ?_)
      · refine hz_iconst (v := (1 : Int32)) (n := 64) hC dX2_isCallOver_63 (by decide +kernel) rfl ?_
        refine hz_goto (n := 68) hC dX2_isCallOver_64 (by decide) ?_
        exact hz_zret hC hr nz_1 dX2_isCallOver_68
      · refine hz_iload_n (a := 0) (n := 60) hC dX2_isCallOver_59 rfl rfl rfl ?_
        refine hz_if_eq (tgt := 67) (n := 63) hC dX2_isCallOver_60 (by decide) rfl (fun _ => ?_) (fun _ => ?_)
        · refine hz_iconst (v := (0 : Int32)) (n := 68) hC dX2_isCallOver_67 (by decide +kernel) rfl ?_
          exact hz_zret hC hr nz_0 dX2_isCallOver_68
        · refine hz_iconst (v := (1 : Int32)) (n := 64) hC dX2_isCallOver_63 (by decide +kernel) rfl ?_
          refine hz_goto (n := 68) hC dX2_isCallOver_64 (by decide) ?_
          exact hz_zret hC hr nz_1 dX2_isCallOver_68
    · refine hz_iconst (v := (0 : Int32)) (n := 68) hC dX2_isCallOver_67 (by decide +kernel) rfl ?_
      exact hz_zret hC hr nz_0 dX2_isCallOver_68
  have j36 : ∀  (M : hp_M), hp_Z p l e (hp_rm 0) s m args below meth c 3 A D ids adr adV cA 0 0 (MQ below (hp_Q A D ids adr adV cA rep hp_oi G0) args s 0 0 A) G0 rep 36 [(0, .ref (adr g 0))] [] M (A_X2_isCallOver_36 g  M) := by
    intro  M
    unfold A_X2_isCallOver_36
    refine hz_iconst (v := (0 : Int32)) (n := 37) hC dX2_isCallOver_36 (by decide +kernel) rfl ?_
    exact j37 _ _
  refine hz_aload_n (a := 0) (n := 1) hC dX2_isCallOver_0 rfl rfl rfl ?_
  refine fg_X2_21 (n := 4) hC hg hI dX2_isCallOver_1 rfl ?_
  refine hz_iconst (v := (0 : Int32)) (n := 5) hC dX2_isCallOver_4 (by decide +kernel) rfl ?_
  refine hz_ialdc (k := 0) (n := 6) hC (by decide +kernel) (by decide) dX2_isCallOver_5 (hI.1 g 1 hg (by decide)) (ha_h1 hg) rfl ?_
  refine hz_istore_n (L' := [(1, .int (M g 1 0)), (0, .ref (adr g 0))]) (n := 7) hC dX2_isCallOver_6 rfl (by decide) rfl rfl ?_
  refine hz_iload_n (a := 0) (n := 8) hC dX2_isCallOver_7 rfl rfl rfl ?_
  refine hz_if_le (tgt := 36) (n := 11) hC dX2_isCallOver_8 (by decide) rfl (fun _ => ?_) (fun _ => ?_)
  · refine hz_L (L' := [(0, .ref (adr g 0))]) [1] rfl ?_
    exact j36 _
  · refine hz_aload_n (a := 1) (n := 12) hC dX2_isCallOver_11 rfl rfl rfl ?_
    refine fg_X2_37 (n := 15) hC hg hI dX2_isCallOver_12 rfl ?_
    refine fg_X2_99 (n := 18) hC hg hI dX2_isCallOver_15 rfl ?_
    refine hz_iload_n (a := 0) (n := 19) hC dX2_isCallOver_18 rfl rfl rfl ?_
    refine hz_icmp_lt (tgt := 36) (n := 22) hC dX2_isCallOver_19 (by decide) rfl (fun _ => ?_) (fun _ => ?_)
    · refine hz_L (L' := [(0, .ref (adr g 0))]) [1] rfl ?_
      exact j36 _
    · refine hz_aload_n (a := 1) (n := 23) hC dX2_isCallOver_22 rfl rfl rfl ?_
      refine fg_X2_44 (n := 26) hC hg hI dX2_isCallOver_23 rfl ?_
      refine fg_X2_71 (n := 29) hC hg hI dX2_isCallOver_26 rfl ?_
      refine hz_if_le (tgt := 36) (n := 32) hC dX2_isCallOver_29 (by decide) rfl (fun _ => ?_) (fun _ => ?_)
      · refine hz_L (L' := [(0, .ref (adr g 0))]) [1] rfl ?_
        exact j36 _
      · refine hz_iconst (v := (1 : Int32)) (n := 33) hC dX2_isCallOver_32 (by decide +kernel) rfl ?_
        refine hz_goto (n := 37) hC dX2_isCallOver_33 (by decide) ?_
        refine hz_L (L' := [(0, .ref (adr g 0))]) [1] rfl ?_
        exact j37 _ _
def F_X2_isQuiet (g : Nat) (M : hp_M) : Option (Int32 × hp_M) := (if (M g 5 0) = 0 then (if (M g 6 1) = 0 then (hp_b (F_X2_flatsThatAre g (1 : Int32) M) (fun r1 M1 => (if r1 = 0 then (some ((1 : Int32), M1)) else (some ((0 : Int32), M1))))) else (some ((0 : Int32), M))) else (some ((0 : Int32), M)))
set_option maxRecDepth 20000 in
set_option maxHeartbeats 4000000 in
theorem c_X2_isQuiet (l : Launch) (g : Nat) (hg : g < 12) (M : hp_M) : hp_Ct l yX2_isQuiet cX2_isQuiet 1 (some .boolean) 2 hp_IC (fun adr adV => [.ref (adr g 0)]) hp_oi M (F_X2_isQuiet g M) := by
  refine hp_start "HallPhone$House" (fun adr adV => [(0, .ref (adr g 0))]) (by decide) rfl (fun _ _ => by simp only [lg_sl]; exact Nat.le_of_ble_eq_true rfl) (fun _ _ => rfl) ?_
  intro p e s m args below meth c A D ids adr adV cA rep G0 hI hC hr
  unfold F_X2_isQuiet
  refine hz_aload_n (a := 0) (n := 1) hC dX2_isQuiet_0 rfl rfl rfl ?_
  refine fg_X2_37 (n := 4) hC hg hI dX2_isQuiet_1 rfl ?_
  refine fg_X2_93 (n := 7) hC hg hI dX2_isQuiet_4 rfl ?_
  refine hz_if_ne (tgt := 32) (n := 10) hC dX2_isQuiet_7 (by decide) rfl (fun _ => ?_) (fun _ => ?_)
  · refine hz_aload_n (a := 0) (n := 11) hC dX2_isQuiet_10 rfl rfl rfl ?_
    refine fg_X2_44 (n := 14) hC hg hI dX2_isQuiet_11 rfl ?_
    refine fg_X2_71 (n := 17) hC hg hI dX2_isQuiet_14 rfl ?_
    refine hz_if_ne (tgt := 32) (n := 20) hC dX2_isQuiet_17 (by decide) rfl (fun _ => ?_) (fun _ => ?_)
    · refine hz_aload_n (a := 0) (n := 21) hC dX2_isQuiet_20 rfl rfl rfl ?_
      refine hz_iconst (v := (1 : Int32)) (n := 22) hC dX2_isQuiet_21 (by decide +kernel) rfl ?_
      refine hz_callV (k := 1) (As := [.int (1 : Int32)]) (st := []) (S1 := fun r => .int r :: []) (n := 25) hC (c_X2_flatsThatAre l g (1 : Int32) hg  M) kv_X2_flatsThatAre wd_2_213 hI dX2_isQuiet_22 rfl (hI.1 g 0 hg (by decide)) (he_X2 hg) rfl rfl rfl (Nat.le_of_ble_eq_true rfl) ⟨Nat.le_of_ble_eq_true rfl, Nat.le_of_ble_eq_true rfl⟩ ⟨Nat.zero_le _, Nat.zero_le _⟩ (fun _ => rfl) rfl (fun r1 M1 _ => ?_)
      refine hz_if_ne (tgt := 32) (n := 28) hC dX2_isQuiet_25 (by decide) rfl (fun _ => ?_) (fun _ => ?_)
      · refine hz_iconst (v := (1 : Int32)) (n := 29) hC dX2_isQuiet_28 (by decide +kernel) rfl ?_
        refine hz_goto (n := 33) hC dX2_isQuiet_29 (by decide) ?_
        exact hz_zret hC hr nz_1 dX2_isQuiet_33
      · refine hz_iconst (v := (0 : Int32)) (n := 33) hC dX2_isQuiet_32 (by decide +kernel) rfl ?_
        exact hz_zret hC hr nz_0 dX2_isQuiet_33
    · refine hz_iconst (v := (0 : Int32)) (n := 33) hC dX2_isQuiet_32 (by decide +kernel) rfl ?_
      exact hz_zret hC hr nz_0 dX2_isQuiet_33
  · refine hz_iconst (v := (0 : Int32)) (n := 33) hC dX2_isQuiet_32 (by decide +kernel) rfl ?_
    exact hz_zret hC hr nz_0 dX2_isQuiet_33
def L_X2_speakOneMinute_66 (g : Nat)   : Nat → Int32 → hp_M → Option (Unit × hp_M)
  | 0, _, _ => none
  | n66 + 1, x1, M => (if (M g 0 0) ≤ x1 then (some ((), M)) else (hp_b (F_X2_isListener g x1 M) (fun r3 M3 => (if r3 = 0 then (L_X2_speakOneMinute_66 g n66 (x1 + (1 : Int32)) M3) else (hp_b (F_X2_hearOneMinute g x1 (M3 g 5 1) M3) (fun _ M4 => (L_X2_speakOneMinute_66 g n66 (x1 + (1 : Int32)) M4)))))))
def F_X2_speakOneMinute (g : Nat) (M : hp_M) : Option (Unit × hp_M) := (hp_b (F_X2_get g ((hp_p (hp_p (hp_p M g 5 2 ((M g 5 2) + (1 : Int32))) g 5 3 (((hp_p M g 5 2 ((M g 5 2) + (1 : Int32))) g 5 3) - (1 : Int32))) g 2 3 (((hp_p (hp_p M g 5 2 ((M g 5 2) + (1 : Int32))) g 5 3 (((hp_p M g 5 2 ((M g 5 2) + (1 : Int32))) g 5 3) - (1 : Int32))) g 2 3) + (1 : Int32))) g 5 1) (7 : Int32) (hp_p (hp_p (hp_p M g 5 2 ((M g 5 2) + (1 : Int32))) g 5 3 (((hp_p M g 5 2 ((M g 5 2) + (1 : Int32))) g 5 3) - (1 : Int32))) g 2 3 (((hp_p (hp_p M g 5 2 ((M g 5 2) + (1 : Int32))) g 5 3 (((hp_p M g 5 2 ((M g 5 2) + (1 : Int32))) g 5 3) - (1 : Int32))) g 2 3) + (1 : Int32)))) (fun r1 M1 => (hp_b (F_X2_put g ((hp_p (hp_p (hp_p M g 5 2 ((M g 5 2) + (1 : Int32))) g 5 3 (((hp_p M g 5 2 ((M g 5 2) + (1 : Int32))) g 5 3) - (1 : Int32))) g 2 3 (((hp_p (hp_p M g 5 2 ((M g 5 2) + (1 : Int32))) g 5 3 (((hp_p M g 5 2 ((M g 5 2) + (1 : Int32))) g 5 3) - (1 : Int32))) g 2 3) + (1 : Int32))) g 5 1) (7 : Int32) (r1 + (1 : Int32)) M1) (fun _ M2 => (L_X2_speakOneMinute_66 g hp_fu (0 : Int32) M2)))))
set_option maxRecDepth 20000 in
set_option maxHeartbeats 4000000 in
theorem c_X2_speakOneMinute (l : Launch) (g : Nat) (hg : g < 12) (M : hp_M) : hp_Ct l yX2_speakOneMinute cX2_speakOneMinute 2 none 2 hp_IC (fun adr adV => [.ref (adr g 0)]) hp_oo M (F_X2_speakOneMinute g M) := by
  refine hp_start "HallPhone$House" (fun adr adV => [(0, .ref (adr g 0))]) (by decide) rfl (fun _ _ => by simp only [lg_sl]; exact Nat.le_of_ble_eq_true rfl) (fun _ _ => rfl) ?_
  intro p e s m args below meth c A D ids adr adV cA rep G0 hI hC hr
  unfold F_X2_speakOneMinute
  have l66 : ∀  (n66 : Nat) (x1 : Int32) (M : hp_M), hp_Z p l e (hp_rm 2) s m args below meth c 2 A D ids adr adV cA 0 0 (MQ below (hp_Q A D ids adr adV cA rep hp_oo G0) args s 0 0 A) G0 rep 66 [(0, .ref (adr g 0)), (1, .int x1)] [] M (L_X2_speakOneMinute_66 g n66 x1 M) := by
    intro  n66
    induction n66 with
    | zero => intro x1 M; exact hz_none hC
    | succ n66 ih66 =>
      intro x1 M
      rw [L_X2_speakOneMinute_66.eq_2]
      refine hz_iload_n (a := 1) (n := 67) hC dX2_speakOneMinute_66 rfl rfl rfl ?_
      refine hz_aload_n (a := 0) (n := 68) hC dX2_speakOneMinute_67 rfl rfl rfl ?_
      refine fg_X2_9 (n := 71) hC hg hI dX2_speakOneMinute_68 rfl ?_
      refine hz_icmp_ge (tgt := 100) (n := 74) hC dX2_speakOneMinute_71 (by decide) rfl (fun _ => ?_) (fun _ => ?_)
      · exact hz_vret hC hr dX2_speakOneMinute_100
      · refine hz_aload_n (a := 0) (n := 75) hC dX2_speakOneMinute_74 rfl rfl rfl ?_
        refine hz_iload_n (a := 1) (n := 76) hC dX2_speakOneMinute_75 rfl rfl rfl ?_
        refine hz_callV (k := 1) (As := [.int x1]) (st := []) (S1 := fun r => .int r :: []) (n := 79) hC (c_X2_isListener l g x1 hg  M) kv_X2_isListener wd_2_221 hI dX2_speakOneMinute_76 rfl (hI.1 g 0 hg (by decide)) (he_X2 hg) rfl rfl rfl (Nat.le_of_ble_eq_true rfl) ⟨Nat.le_of_ble_eq_true rfl, Nat.le_of_ble_eq_true rfl⟩ ⟨Nat.zero_le _, Nat.zero_le _⟩ (fun _ => rfl) rfl (fun r3 M3 _ => ?_)
        refine hz_if_eq (tgt := 94) (n := 82) hC dX2_speakOneMinute_79 (by decide) rfl (fun _ => ?_) (fun _ => ?_)
        · refine hz_iinc (a := 1) (v := (x1 + (1 : Int32))) (L' := [(1, .int (x1 + (1 : Int32))), (0, .ref (adr g 0))]) (n := 97) hC dX2_speakOneMinute_94 rfl rfl (by decide) rfl rfl ?_
          refine hz_goto (n := 66) hC dX2_speakOneMinute_97 (by decide) ?_
          refine hz_L (L' := [(0, .ref (adr g 0)), (1, .int (x1 + (1 : Int32)))]) [1, 0] rfl ?_
          exact ih66 _ _
        · refine hz_aload_n (a := 0) (n := 83) hC dX2_speakOneMinute_82 rfl rfl rfl ?_
          refine hz_iload_n (a := 1) (n := 84) hC dX2_speakOneMinute_83 rfl rfl rfl ?_
          refine hz_aload_n (a := 0) (n := 85) hC dX2_speakOneMinute_84 rfl rfl rfl ?_
          refine fg_X2_37 (n := 88) hC hg hI dX2_speakOneMinute_85 rfl ?_
          refine fg_X2_96 (n := 91) hC hg hI dX2_speakOneMinute_88 rfl ?_
          refine hz_callV (k := 2) (As := [.int x1, .int (M3 g 5 1)]) (st := []) (S1 := fun _ => []) (n := 94) hC (c_X2_hearOneMinute l g x1 (M3 g 5 1) hg  M3) kv_X2_hearOneMinute wd_2_225 hI dX2_speakOneMinute_91 rfl (hI.1 g 0 hg (by decide)) (he_X2 hg) rfl rfl rfl (Nat.le_of_ble_eq_true rfl) ⟨Nat.le_of_ble_eq_true rfl, Nat.le_of_ble_eq_true rfl⟩ ⟨Nat.zero_le _, Nat.zero_le _⟩ (fun _ => rfl) rfl (fun r4 M4 _ => ?_)
          refine hz_iinc (a := 1) (v := (x1 + (1 : Int32))) (L' := [(1, .int (x1 + (1 : Int32))), (0, .ref (adr g 0))]) (n := 97) hC dX2_speakOneMinute_94 rfl rfl (by decide) rfl rfl ?_
          refine hz_goto (n := 66) hC dX2_speakOneMinute_97 (by decide) ?_
          refine hz_L (L' := [(0, .ref (adr g 0)), (1, .int (x1 + (1 : Int32)))]) [1, 0] rfl ?_
          exact ih66 _ _
  refine hz_aload_n (a := 0) (n := 1) hC dX2_speakOneMinute_0 rfl rfl rfl ?_
  refine fg_X2_37 (n := 4) hC hg hI dX2_speakOneMinute_1 rfl ?_
  refine hz_dup (n := 5) hC dX2_speakOneMinute_4 rfl rfl ?_
  refine fg_X2_99 (n := 8) hC hg hI dX2_speakOneMinute_5 rfl ?_
  refine hz_iconst (v := (1 : Int32)) (n := 9) hC dX2_speakOneMinute_8 (by decide +kernel) rfl ?_
  refine hz_iadd (n := 10) hC dX2_speakOneMinute_9 rfl ?_
  refine fp_X2_99 (n := 13) hC hg hI ((M g 5 2) + (1 : Int32)) dX2_speakOneMinute_10 rfl ?_
  refine hz_aload_n (a := 0) (n := 14) hC dX2_speakOneMinute_13 rfl rfl rfl ?_
  refine fg_X2_37 (n := 17) hC hg hI dX2_speakOneMinute_14 rfl ?_
  refine hz_dup (n := 18) hC dX2_speakOneMinute_17 rfl rfl ?_
  refine fg_X2_102 (n := 21) hC hg hI dX2_speakOneMinute_18 rfl ?_
  refine hz_iconst (v := (1 : Int32)) (n := 22) hC dX2_speakOneMinute_21 (by decide +kernel) rfl ?_
  refine hz_isub (n := 23) hC dX2_speakOneMinute_22 rfl ?_
  refine fp_X2_102 (n := 26) hC hg hI (((hp_p M g 5 2 ((M g 5 2) + (1 : Int32))) g 5 3) - (1 : Int32)) dX2_speakOneMinute_23 rfl ?_
  refine hz_aload_n (a := 0) (n := 27) hC dX2_speakOneMinute_26 rfl rfl rfl ?_
  refine fg_X2_25 (n := 30) hC hg hI dX2_speakOneMinute_27 rfl ?_
  refine hz_iconst (v := (3 : Int32)) (n := 31) hC dX2_speakOneMinute_30 (by decide +kernel) rfl ?_
  refine hz_dup2 (n := 32) hC dX2_speakOneMinute_31 rfl rfl rfl ?_
  refine hz_ialdc (k := 3) (n := 33) hC (by decide +kernel) (by decide) dX2_speakOneMinute_32 (hI.1 g 2 hg (by decide)) (ha_h2 hg) rfl ?_
  refine hz_iconst (v := (1 : Int32)) (n := 34) hC dX2_speakOneMinute_33 (by decide +kernel) rfl ?_
  refine hz_iadd (n := 35) hC dX2_speakOneMinute_34 rfl ?_
  refine hz_iastc (k := 3) (n := 36) hC (by decide +kernel) (by decide) dX2_speakOneMinute_35 (hI.1 g 2 hg (by decide)) (ha_h2 hg) rfl ?_
  refine hz_aload_n (a := 0) (n := 37) hC dX2_speakOneMinute_36 rfl rfl rfl ?_
  refine hz_aload_n (a := 0) (n := 38) hC dX2_speakOneMinute_37 rfl rfl rfl ?_
  refine fg_X2_37 (n := 41) hC hg hI dX2_speakOneMinute_38 rfl ?_
  refine fg_X2_96 (n := 44) hC hg hI dX2_speakOneMinute_41 rfl ?_
  refine hz_bipush (v := (7 : Int32)) (n := 46) hC dX2_speakOneMinute_44 (by decide +kernel) rfl ?_
  refine hz_aload_n (a := 0) (n := 47) hC dX2_speakOneMinute_46 rfl rfl rfl ?_
  refine hz_aload_n (a := 0) (n := 48) hC dX2_speakOneMinute_47 rfl rfl rfl ?_
  refine fg_X2_37 (n := 51) hC hg hI dX2_speakOneMinute_48 rfl ?_
  refine fg_X2_96 (n := 54) hC hg hI dX2_speakOneMinute_51 rfl ?_
  refine hz_bipush (v := (7 : Int32)) (n := 56) hC dX2_speakOneMinute_54 (by decide +kernel) rfl ?_
  refine hz_callV (k := 2) (As := [.int ((hp_p (hp_p (hp_p M g 5 2 ((M g 5 2) + (1 : Int32))) g 5 3 (((hp_p M g 5 2 ((M g 5 2) + (1 : Int32))) g 5 3) - (1 : Int32))) g 2 3 (((hp_p (hp_p M g 5 2 ((M g 5 2) + (1 : Int32))) g 5 3 (((hp_p M g 5 2 ((M g 5 2) + (1 : Int32))) g 5 3) - (1 : Int32))) g 2 3) + (1 : Int32))) g 5 1), .int (7 : Int32)]) (st := [.int (7 : Int32), .int ((hp_p (hp_p (hp_p M g 5 2 ((M g 5 2) + (1 : Int32))) g 5 3 (((hp_p M g 5 2 ((M g 5 2) + (1 : Int32))) g 5 3) - (1 : Int32))) g 2 3 (((hp_p (hp_p M g 5 2 ((M g 5 2) + (1 : Int32))) g 5 3 (((hp_p M g 5 2 ((M g 5 2) + (1 : Int32))) g 5 3) - (1 : Int32))) g 2 3) + (1 : Int32))) g 5 1), .ref (adr g 0)]) (S1 := fun r => .int r :: [.int (7 : Int32), .int ((hp_p (hp_p (hp_p M g 5 2 ((M g 5 2) + (1 : Int32))) g 5 3 (((hp_p M g 5 2 ((M g 5 2) + (1 : Int32))) g 5 3) - (1 : Int32))) g 2 3 (((hp_p (hp_p M g 5 2 ((M g 5 2) + (1 : Int32))) g 5 3 (((hp_p M g 5 2 ((M g 5 2) + (1 : Int32))) g 5 3) - (1 : Int32))) g 2 3) + (1 : Int32))) g 5 1), .ref (adr g 0)]) (n := 59) hC (c_X2_get l g ((hp_p (hp_p (hp_p M g 5 2 ((M g 5 2) + (1 : Int32))) g 5 3 (((hp_p M g 5 2 ((M g 5 2) + (1 : Int32))) g 5 3) - (1 : Int32))) g 2 3 (((hp_p (hp_p M g 5 2 ((M g 5 2) + (1 : Int32))) g 5 3 (((hp_p M g 5 2 ((M g 5 2) + (1 : Int32))) g 5 3) - (1 : Int32))) g 2 3) + (1 : Int32))) g 5 1) (7 : Int32) hg  (hp_p (hp_p (hp_p M g 5 2 ((M g 5 2) + (1 : Int32))) g 5 3 (((hp_p M g 5 2 ((M g 5 2) + (1 : Int32))) g 5 3) - (1 : Int32))) g 2 3 (((hp_p (hp_p M g 5 2 ((M g 5 2) + (1 : Int32))) g 5 3 (((hp_p M g 5 2 ((M g 5 2) + (1 : Int32))) g 5 3) - (1 : Int32))) g 2 3) + (1 : Int32)))) kv_X2_get wd_2_137 hI dX2_speakOneMinute_56 rfl (hI.1 g 0 hg (by decide)) (he_X2 hg) rfl rfl rfl (Nat.le_of_ble_eq_true rfl) ⟨Nat.le_of_ble_eq_true rfl, Nat.le_of_ble_eq_true rfl⟩ ⟨Nat.zero_le _, Nat.zero_le _⟩ (fun _ => rfl) rfl (fun r1 M1 _ => ?_)
  refine hz_iconst (v := (1 : Int32)) (n := 60) hC dX2_speakOneMinute_59 (by decide +kernel) rfl ?_
  refine hz_iadd (n := 61) hC dX2_speakOneMinute_60 rfl ?_
  refine hz_callV (k := 3) (As := [.int ((hp_p (hp_p (hp_p M g 5 2 ((M g 5 2) + (1 : Int32))) g 5 3 (((hp_p M g 5 2 ((M g 5 2) + (1 : Int32))) g 5 3) - (1 : Int32))) g 2 3 (((hp_p (hp_p M g 5 2 ((M g 5 2) + (1 : Int32))) g 5 3 (((hp_p M g 5 2 ((M g 5 2) + (1 : Int32))) g 5 3) - (1 : Int32))) g 2 3) + (1 : Int32))) g 5 1), .int (7 : Int32), .int (r1 + (1 : Int32))]) (st := []) (S1 := fun _ => []) (n := 64) hC (c_X2_put l g ((hp_p (hp_p (hp_p M g 5 2 ((M g 5 2) + (1 : Int32))) g 5 3 (((hp_p M g 5 2 ((M g 5 2) + (1 : Int32))) g 5 3) - (1 : Int32))) g 2 3 (((hp_p (hp_p M g 5 2 ((M g 5 2) + (1 : Int32))) g 5 3 (((hp_p M g 5 2 ((M g 5 2) + (1 : Int32))) g 5 3) - (1 : Int32))) g 2 3) + (1 : Int32))) g 5 1) (7 : Int32) (r1 + (1 : Int32)) hg  M1) kv_X2_put wd_2_108 hI dX2_speakOneMinute_61 rfl (hI.1 g 0 hg (by decide)) (he_X2 hg) rfl rfl rfl (Nat.le_of_ble_eq_true rfl) ⟨Nat.le_of_ble_eq_true rfl, Nat.le_of_ble_eq_true rfl⟩ ⟨Nat.zero_le _, Nat.zero_le _⟩ (fun _ => rfl) rfl (fun r2 M2 _ => ?_)
  refine hz_iconst (v := (0 : Int32)) (n := 65) hC dX2_speakOneMinute_64 (by decide +kernel) rfl ?_
  refine hz_istore_n (L' := [(1, .int (0 : Int32)), (0, .ref (adr g 0))]) (n := 66) hC dX2_speakOneMinute_65 rfl (by decide) rfl rfl ?_
  refine hz_L (L' := [(0, .ref (adr g 0)), (1, .int (0 : Int32))]) [1, 0] rfl ?_
  exact l66 hp_fu _ _
def A_X2_letPass_104 (g : Nat) (a0 : Int32) (rec14 : Int32 → Int32 → hp_M → Option (Int32 × hp_M)) (y104_2 : Int32) (y104_3 : Int32) (M : hp_M) : Option (Int32 × hp_M) := (if (M g 5 0) = 0 then (if (M g 6 1) ≤ 0 then (hp_b (F_X2_countWaiting g M) (fun _ M4 => (rec14 y104_2 (y104_3 + (1 : Int32)) M4))) else (hp_b (F_X4_at g (0 : Int32) M) (fun r5 M5 => (hp_b (F_X2_get g r5 (4 : Int32) M5) (fun r6 M6 => (hp_b (F_X2_connect g r5 r6 (0 : Int32) M6) (fun _ M7 => (hp_b (F_X2_countWaiting g M7) (fun _ M8 => (rec14 y104_2 (y104_3 + (1 : Int32)) M8)))))))))) else (hp_b (F_X2_countWaiting g M) (fun _ M9 => (rec14 y104_2 (y104_3 + (1 : Int32)) M9))))
def A_X2_letPass_94 (g : Nat) (a0 : Int32) (rec14 : Int32 → Int32 → hp_M → Option (Int32 × hp_M)) (y94_2 : Int32) (y94_3 : Int32) (z94_0 : Int32) (z94_1 : Int32) (z94_2 : Int32) (M : hp_M) : Option (Int32 × hp_M) := (if z94_2 < 0 ∨ 10 ≤ (z94_2).toNatClampNeg then none else (hp_b (F_X2_endCall g (hp_p M g 2 (z94_2).toNatClampNeg (z94_1 + z94_0))) (fun r10 M10 => (A_X2_letPass_104 g a0 rec14 (y94_2 + (1 : Int32)) y94_3 M10))))
def L_X2_letPass_44 (g : Nat) (a0 : Int32) (rec14 : Int32 → Int32 → hp_M → Option (Int32 × hp_M)) (k44_2 : Int32) (k44_3 : Int32) : Nat → Int32 → hp_M → Option (Int32 × hp_M)
  | 0, _, _ => none
  | n44 + 1, x4, M => (if (M g 0 0) ≤ x4 then (hp_b (F_X2_isCallOver g M) (fun r3 M3 => (if r3 = 0 then (A_X2_letPass_104 g a0 rec14 k44_2 k44_3 M3) else (if (M3 g 5 3) ≤ 0 then (A_X2_letPass_94 g a0 rec14 k44_2 k44_3 (0 : Int32) (M3 g 2 2) (2 : Int32) M3) else (A_X2_letPass_94 g a0 rec14 k44_2 k44_3 (1 : Int32) (M3 g 2 2) (2 : Int32) M3))))) else (hp_b (F_X2_comeDown g x4 M) (fun _ M11 => (L_X2_letPass_44 g a0 rec14 k44_2 k44_3 n44 (x4 + (1 : Int32)) M11))))
def A_X2_letPass_41 (g : Nat) (a0 : Int32) (rec14 : Int32 → Int32 → hp_M → Option (Int32 × hp_M)) (y41_2 : Int32) (y41_3 : Int32) (M : hp_M) : Option (Int32 × hp_M) := (L_X2_letPass_44 g a0 rec14 y41_2 y41_3 hp_fu (0 : Int32) M)
def L_X2_letPass_14 (g : Nat) (a0 : Int32)   : Nat → Int32 → Int32 → hp_M → Option (Int32 × hp_M)
  | 0, _, _, _ => none
  | n14 + 1, x2, x3, M => (if a0 ≤ x3 then (some (x2, M)) else (hp_b (F_X2_isQuiet g M) (fun r1 M1 => (if r1 = 0 then (if (M1 g 5 0) = (2 : Int32) then (hp_b (F_X2_speakOneMinute g M1) (fun _ M2 => (A_X2_letPass_41 g a0 (L_X2_letPass_14 g a0 n14) x2 x3 M2))) else (A_X2_letPass_41 g a0 (L_X2_letPass_14 g a0 n14) x2 x3 M1)) else (some (x2, M1))))))
def F_X2_letPass (g : Nat) (a0 : Int32) (M : hp_M) : Option (Int32 × hp_M) := (L_X2_letPass_14 g a0 hp_fu (0 : Int32) (0 : Int32) (hp_p M g 0 1 ((M g 0 1) + a0)))
set_option maxRecDepth 20000 in
set_option maxHeartbeats 4000000 in
theorem c_X2_letPass (l : Launch) (g : Nat) (a0 : Int32) (hg : g < 12) (M : hp_M) : hp_Ct l yX2_letPass cX2_letPass 5 (some .int) 3 hp_IC (fun adr adV => [.ref (adr g 0), .int a0]) hp_oi M (F_X2_letPass g a0 M) := by
  refine hp_start "HallPhone$House" (fun adr adV => [(0, .ref (adr g 0)), (1, .int a0)]) (by decide) rfl (fun _ _ => by simp only [lg_sl]; exact Nat.le_of_ble_eq_true rfl) (fun _ _ => rfl) ?_
  intro p e s m args below meth c A D ids adr adV cA rep G0 hI hC hr
  unfold F_X2_letPass
  have l14 : ∀  (n14 : Nat) (x2 : Int32) (x3 : Int32) (M : hp_M), hp_Z p l e (hp_rm 3) s m args below meth c 5 A D ids adr adV cA 0 0 (MQ below (hp_Q A D ids adr adV cA rep hp_oi G0) args s 0 0 A) G0 rep 14 [(0, .ref (adr g 0)), (1, .int a0), (2, .int x2), (3, .int x3)] [] M (L_X2_letPass_14 g a0 n14 x2 x3 M) := by
    intro  n14
    induction n14 with
    | zero => intro x2 x3 M; exact hz_none hC
    | succ n14 ih14 =>
      intro x2 x3 M
      rw [L_X2_letPass_14.eq_2]
      have j104 : ∀ (y104_2 : Int32) (y104_3 : Int32) (M : hp_M), hp_Z p l e (hp_rm 3) s m args below meth c 5 A D ids adr adV cA 0 0 (MQ below (hp_Q A D ids adr adV cA rep hp_oi G0) args s 0 0 A) G0 rep 104 [(0, .ref (adr g 0)), (1, .int a0), (2, .int y104_2), (3, .int y104_3)] [] M (A_X2_letPass_104 g a0 (L_X2_letPass_14 g a0 n14) y104_2 y104_3 M) := by
        intro y104_2 y104_3 M
        unfold A_X2_letPass_104
        refine hz_aload_n (a := 0) (n := 105) hC dX2_letPass_104 rfl rfl rfl ?_
        refine fg_X2_37 (n := 108) hC hg hI dX2_letPass_105 rfl ?_
        refine fg_X2_93 (n := 111) hC hg hI dX2_letPass_108 rfl ?_
        refine hz_if_ne (tgt := 148) (n := 114) hC dX2_letPass_111 (by decide) rfl (fun _ => ?_) (fun _ => ?_)
        · refine hz_aload_n (a := 0) (n := 115) hC dX2_letPass_114 rfl rfl rfl ?_
          refine fg_X2_44 (n := 118) hC hg hI dX2_letPass_115 rfl ?_
          refine fg_X2_71 (n := 121) hC hg hI dX2_letPass_118 rfl ?_
          refine hz_if_le (tgt := 148) (n := 124) hC dX2_letPass_121 (by decide) rfl (fun _ => ?_) (fun _ => ?_)
          · refine hz_aload_n (a := 0) (n := 149) hC dX2_letPass_148 rfl rfl rfl ?_
            refine hz_callV (k := 0) (As := []) (st := []) (S1 := fun _ => []) (n := 152) hC (c_X2_countWaiting l g hg  M) kv_X2_countWaiting wd_3_9 hI dX2_letPass_149 rfl (hI.1 g 0 hg (by decide)) (he_X2 hg) rfl rfl rfl (Nat.le_of_ble_eq_true rfl) ⟨Nat.le_of_ble_eq_true rfl, Nat.le_of_ble_eq_true rfl⟩ ⟨Nat.zero_le _, Nat.zero_le _⟩ (fun _ => rfl) rfl (fun r4 M4 _ => ?_)
            refine hz_iinc (a := 3) (v := (y104_3 + (1 : Int32))) (L' := [(3, .int (y104_3 + (1 : Int32))), (0, .ref (adr g 0)), (1, .int a0), (2, .int y104_2)]) (n := 155) hC dX2_letPass_152 rfl rfl (by decide) rfl rfl ?_
            refine hz_goto (n := 14) hC dX2_letPass_155 (by decide) ?_
            refine hz_L (L' := [(0, .ref (adr g 0)), (1, .int a0), (2, .int y104_2), (3, .int (y104_3 + (1 : Int32)))]) [1, 2, 3, 0] rfl ?_
            exact ih14 _ _ _
          · refine hz_aload_n (a := 0) (n := 125) hC dX2_letPass_124 rfl rfl rfl ?_
            refine fg_X2_44 (n := 128) hC hg hI dX2_letPass_125 rfl ?_
            refine hz_iconst (v := (0 : Int32)) (n := 129) hC dX2_letPass_128 (by decide +kernel) rfl ?_
            refine hz_callVN (k := 1) (As := [.int (0 : Int32)]) (st := []) (S1 := fun r => .int r :: []) (n := 132) hC (c_X4_at l g (0 : Int32) hg  M) kv_X4_at wd_3_5 hI dX2_letPass_129 rfl (hI.1 g 6 hg (by decide)) (he_X4 hg) rfl rfl rfl (Nat.le_of_ble_eq_true rfl) ⟨Nat.le_of_ble_eq_true rfl, Nat.le_of_ble_eq_true rfl⟩ ⟨Nat.zero_le _, Nat.zero_le _⟩ (fun _ => rfl) rfl (fun r5 M5 _ => ?_)
            refine hz_istore (L' := [(4, .int r5), (0, .ref (adr g 0)), (1, .int a0), (2, .int y104_2), (3, .int y104_3)]) (n := 134) hC dX2_letPass_132 (by decide) rfl rfl ?_
            refine hz_aload_n (a := 1) (n := 135) hC dX2_letPass_134 rfl rfl rfl ?_
            refine hz_iload (a := 0) (n := 137) hC dX2_letPass_135 rfl rfl ?_
            refine hz_aload_n (a := 1) (n := 138) hC dX2_letPass_137 rfl rfl rfl ?_
            refine hz_iload (a := 0) (n := 140) hC dX2_letPass_138 rfl rfl ?_
            refine hz_iconst (v := (4 : Int32)) (n := 141) hC dX2_letPass_140 (by decide +kernel) rfl ?_
            refine hz_callV (k := 2) (As := [.int r5, .int (4 : Int32)]) (st := [.int r5, .ref (adr g 0)]) (S1 := fun r => .int r :: [.int r5, .ref (adr g 0)]) (n := 144) hC (c_X2_get l g r5 (4 : Int32) hg  M5) kv_X2_get wd_2_137 hI dX2_letPass_141 rfl (hI.1 g 0 hg (by decide)) (he_X2 hg) rfl rfl rfl (Nat.le_of_ble_eq_true rfl) ⟨Nat.le_of_ble_eq_true rfl, Nat.le_of_ble_eq_true rfl⟩ ⟨Nat.zero_le _, Nat.zero_le _⟩ (fun _ => rfl) rfl (fun r6 M6 _ => ?_)
            refine hz_iconst (v := (0 : Int32)) (n := 145) hC dX2_letPass_144 (by decide +kernel) rfl ?_
            refine hz_callV (k := 3) (As := [.int r5, .int r6, .int (0 : Int32)]) (st := []) (S1 := fun _ => []) (n := 148) hC (c_X2_connect l g r5 r6 (0 : Int32) hg  M6) kv_X2_connect wd_2_189 hI dX2_letPass_145 rfl (hI.1 g 0 hg (by decide)) (he_X2 hg) rfl rfl rfl (Nat.le_of_ble_eq_true rfl) ⟨Nat.le_of_ble_eq_true rfl, Nat.le_of_ble_eq_true rfl⟩ ⟨Nat.zero_le _, Nat.zero_le _⟩ (fun _ => rfl) rfl (fun r7 M7 _ => ?_)
            refine hz_aload_n (a := 1) (n := 149) hC dX2_letPass_148 rfl rfl rfl ?_
            refine hz_callV (k := 0) (As := []) (st := []) (S1 := fun _ => []) (n := 152) hC (c_X2_countWaiting l g hg  M7) kv_X2_countWaiting wd_3_9 hI dX2_letPass_149 rfl (hI.1 g 0 hg (by decide)) (he_X2 hg) rfl rfl rfl (Nat.le_of_ble_eq_true rfl) ⟨Nat.le_of_ble_eq_true rfl, Nat.le_of_ble_eq_true rfl⟩ ⟨Nat.zero_le _, Nat.zero_le _⟩ (fun _ => rfl) rfl (fun r8 M8 _ => ?_)
            refine hz_iinc (a := 4) (v := (y104_3 + (1 : Int32))) (L' := [(3, .int (y104_3 + (1 : Int32))), (4, .int r5), (0, .ref (adr g 0)), (1, .int a0), (2, .int y104_2)]) (n := 155) hC dX2_letPass_152 rfl rfl (by decide) rfl rfl ?_
            refine hz_goto (n := 14) hC dX2_letPass_155 (by decide) ?_
            refine hz_L (L' := [(0, .ref (adr g 0)), (1, .int a0), (2, .int y104_2), (3, .int (y104_3 + (1 : Int32)))]) [2, 3, 4, 0] rfl ?_
            exact ih14 _ _ _
        · refine hz_aload_n (a := 0) (n := 149) hC dX2_letPass_148 rfl rfl rfl ?_
          refine hz_callV (k := 0) (As := []) (st := []) (S1 := fun _ => []) (n := 152) hC (c_X2_countWaiting l g hg  M) kv_X2_countWaiting wd_3_9 hI dX2_letPass_149 rfl (hI.1 g 0 hg (by decide)) (he_X2 hg) rfl rfl rfl (Nat.le_of_ble_eq_true rfl) ⟨Nat.le_of_ble_eq_true rfl, Nat.le_of_ble_eq_true rfl⟩ ⟨Nat.zero_le _, Nat.zero_le _⟩ (fun _ => rfl) rfl (fun r9 M9 _ => ?_)
          refine hz_iinc (a := 3) (v := (y104_3 + (1 : Int32))) (L' := [(3, .int (y104_3 + (1 : Int32))), (0, .ref (adr g 0)), (1, .int a0), (2, .int y104_2)]) (n := 155) hC dX2_letPass_152 rfl rfl (by decide) rfl rfl ?_
          refine hz_goto (n := 14) hC dX2_letPass_155 (by decide) ?_
          refine hz_L (L' := [(0, .ref (adr g 0)), (1, .int a0), (2, .int y104_2), (3, .int (y104_3 + (1 : Int32)))]) [1, 2, 3, 0] rfl ?_
          exact ih14 _ _ _
      have j94 : ∀ (y94_2 : Int32) (y94_3 : Int32) (z94_0 : Int32) (z94_1 : Int32) (z94_2 : Int32) (M : hp_M), hp_Z p l e (hp_rm 3) s m args below meth c 5 A D ids adr adV cA 0 0 (MQ below (hp_Q A D ids adr adV cA rep hp_oi G0) args s 0 0 A) G0 rep 94 [(0, .ref (adr g 0)), (1, .int a0), (2, .int y94_2), (3, .int y94_3)] [.int z94_0, .int z94_1, .int z94_2, .ref (adr g 2)] M (A_X2_letPass_94 g a0 (L_X2_letPass_14 g a0 n14) y94_2 y94_3 z94_0 z94_1 z94_2 M) := by
        intro y94_2 y94_3 z94_0 z94_1 z94_2 M
        unfold A_X2_letPass_94
        refine hz_iadd (n := 95) hC dX2_letPass_94 rfl ?_
        refine hz_iast (n := 96) hC dX2_letPass_95 (hI.1 g 2 hg (by decide)) (ha_h2 hg) rfl (fun _ => ?_)
        refine hz_aload_n (a := 0) (n := 97) hC dX2_letPass_96 rfl rfl rfl ?_
        refine hz_callV (k := 0) (As := []) (st := []) (S1 := fun r => .int r :: []) (n := 100) hC (c_X2_endCall l g hg  (hp_p M g 2 (z94_2).toNatClampNeg (z94_1 + z94_0))) kv_X2_endCall wd_2_169 hI dX2_letPass_97 rfl (hI.1 g 0 hg (by decide)) (he_X2 hg) rfl rfl rfl (Nat.le_of_ble_eq_true rfl) ⟨Nat.le_of_ble_eq_true rfl, Nat.le_of_ble_eq_true rfl⟩ ⟨Nat.zero_le _, Nat.zero_le _⟩ (fun _ => rfl) rfl (fun r10 M10 _ => ?_)
        refine hz_pop (n := 101) hC dX2_letPass_100 rfl rfl ?_
        refine hz_iinc (a := 2) (v := (y94_2 + (1 : Int32))) (L' := [(2, .int (y94_2 + (1 : Int32))), (0, .ref (adr g 0)), (1, .int a0), (3, .int y94_3)]) (n := 104) hC dX2_letPass_101 rfl rfl (by decide) rfl rfl ?_
        refine hz_L (L' := [(0, .ref (adr g 0)), (1, .int a0), (2, .int (y94_2 + (1 : Int32))), (3, .int y94_3)]) [1, 2, 0, 3] rfl ?_
        exact j104 _ _ _
      have l44 : ∀ (k44_2 : Int32) (k44_3 : Int32) (n44 : Nat) (x4 : Int32) (M : hp_M), hp_Z p l e (hp_rm 3) s m args below meth c 5 A D ids adr adV cA 0 0 (MQ below (hp_Q A D ids adr adV cA rep hp_oi G0) args s 0 0 A) G0 rep 44 [(0, .ref (adr g 0)), (1, .int a0), (2, .int k44_2), (3, .int k44_3), (4, .int x4)] [] M (L_X2_letPass_44 g a0 (L_X2_letPass_14 g a0 n14) k44_2 k44_3 n44 x4 M) := by
        intro k44_2 k44_3 n44
        induction n44 with
        | zero => intro x4 M; exact hz_none hC
        | succ n44 ih44 =>
          intro x4 M
          rw [L_X2_letPass_44.eq_2]
          refine hz_iload (a := 4) (n := 46) hC dX2_letPass_44 rfl rfl ?_
          refine hz_aload_n (a := 0) (n := 47) hC dX2_letPass_46 rfl rfl rfl ?_
          refine fg_X2_9 (n := 50) hC hg hI dX2_letPass_47 rfl ?_
          refine hz_icmp_ge (tgt := 65) (n := 53) hC dX2_letPass_50 (by decide) rfl (fun _ => ?_) (fun _ => ?_)
          · refine hz_aload_n (a := 0) (n := 66) hC dX2_letPass_65 rfl rfl rfl ?_
            refine hz_callV (k := 0) (As := []) (st := []) (S1 := fun r => .int r :: []) (n := 69) hC (c_X2_isCallOver l g hg  M) kv_X2_isCallOver wd_3_1 hI dX2_letPass_66 rfl (hI.1 g 0 hg (by decide)) (he_X2 hg) rfl rfl rfl (Nat.le_of_ble_eq_true rfl) ⟨Nat.le_of_ble_eq_true rfl, Nat.le_of_ble_eq_true rfl⟩ ⟨Nat.zero_le _, Nat.zero_le _⟩ (fun _ => rfl) rfl (fun r3 M3 _ => ?_)
            refine hz_if_eq (tgt := 104) (n := 72) hC dX2_letPass_69 (by decide) rfl (fun _ => ?_) (fun _ => ?_)
            · refine hz_L (L' := [(0, .ref (adr g 0)), (1, .int a0), (2, .int k44_2), (3, .int k44_3)]) [0, 1, 2, 3] rfl ?_
              exact j104 _ _ _
            · refine hz_aload_n (a := 0) (n := 73) hC dX2_letPass_72 rfl rfl rfl ?_
              refine fg_X2_25 (n := 76) hC hg hI dX2_letPass_73 rfl ?_
              refine hz_iconst (v := (2 : Int32)) (n := 77) hC dX2_letPass_76 (by decide +kernel) rfl ?_
              refine hz_dup2 (n := 78) hC dX2_letPass_77 rfl rfl rfl ?_
              refine hz_ialdc (k := 2) (n := 79) hC (by decide +kernel) (by decide) dX2_letPass_78 (hI.1 g 2 hg (by decide)) (ha_h2 hg) rfl ?_
              refine hz_aload_n (a := 0) (n := 80) hC dX2_letPass_79 rfl rfl rfl ?_
              refine fg_X2_37 (n := 83) hC hg hI dX2_letPass_80 rfl ?_
              refine fg_X2_102 (n := 86) hC hg hI dX2_letPass_83 rfl ?_
              refine hz_if_le (tgt := 93) (n := 89) hC dX2_letPass_86 (by decide) rfl (fun _ => ?_) (fun _ => ?_)
              · refine hz_iconst (v := (0 : Int32)) (n := 94) hC dX2_letPass_93 (by decide +kernel) rfl ?_
                refine hz_L (L' := [(0, .ref (adr g 0)), (1, .int a0), (2, .int k44_2), (3, .int k44_3)]) [0, 1, 2, 3] rfl ?_
                exact j94 _ _ _ _ _ _
              · refine hz_iconst (v := (1 : Int32)) (n := 90) hC dX2_letPass_89 (by decide +kernel) rfl ?_
                refine hz_goto (n := 94) hC dX2_letPass_90 (by decide) ?_
                refine hz_L (L' := [(0, .ref (adr g 0)), (1, .int a0), (2, .int k44_2), (3, .int k44_3)]) [0, 1, 2, 3] rfl ?_
                exact j94 _ _ _ _ _ _
          · refine hz_aload_n (a := 0) (n := 54) hC dX2_letPass_53 rfl rfl rfl ?_
            refine hz_iload (a := 4) (n := 56) hC dX2_letPass_54 rfl rfl ?_
            refine hz_callV (k := 1) (As := [.int x4]) (st := []) (S1 := fun _ => []) (n := 59) hC (c_X2_comeDown l g x4 hg  M) kv_X2_comeDown wd_2_229 hI dX2_letPass_56 rfl (hI.1 g 0 hg (by decide)) (he_X2 hg) rfl rfl rfl (Nat.le_of_ble_eq_true rfl) ⟨Nat.le_of_ble_eq_true rfl, Nat.le_of_ble_eq_true rfl⟩ ⟨Nat.zero_le _, Nat.zero_le _⟩ (fun _ => rfl) rfl (fun r11 M11 _ => ?_)
            refine hz_iinc (a := 4) (v := (x4 + (1 : Int32))) (L' := [(4, .int (x4 + (1 : Int32))), (0, .ref (adr g 0)), (1, .int a0), (2, .int k44_2), (3, .int k44_3)]) (n := 62) hC dX2_letPass_59 rfl rfl (by decide) rfl rfl ?_
            refine hz_goto (n := 44) hC dX2_letPass_62 (by decide) ?_
            refine hz_L (L' := [(0, .ref (adr g 0)), (1, .int a0), (2, .int k44_2), (3, .int k44_3), (4, .int (x4 + (1 : Int32)))]) [1, 2, 3, 4, 0] rfl ?_
            exact ih44 _ _
      have j41 : ∀ (y41_2 : Int32) (y41_3 : Int32) (M : hp_M), hp_Z p l e (hp_rm 3) s m args below meth c 5 A D ids adr adV cA 0 0 (MQ below (hp_Q A D ids adr adV cA rep hp_oi G0) args s 0 0 A) G0 rep 41 [(0, .ref (adr g 0)), (1, .int a0), (2, .int y41_2), (3, .int y41_3)] [] M (A_X2_letPass_41 g a0 (L_X2_letPass_14 g a0 n14) y41_2 y41_3 M) := by
        intro y41_2 y41_3 M
        unfold A_X2_letPass_41
        refine hz_iconst (v := (0 : Int32)) (n := 42) hC dX2_letPass_41 (by decide +kernel) rfl ?_
        refine hz_istore (L' := [(4, .int (0 : Int32)), (0, .ref (adr g 0)), (1, .int a0), (2, .int y41_2), (3, .int y41_3)]) (n := 44) hC dX2_letPass_42 (by decide) rfl rfl ?_
        refine hz_L (L' := [(0, .ref (adr g 0)), (1, .int a0), (2, .int y41_2), (3, .int y41_3), (4, .int (0 : Int32))]) [1, 2, 3, 4, 0] rfl ?_
        exact l44 _ _ hp_fu _ _
      refine hz_iload_n (a := 3) (n := 15) hC dX2_letPass_14 rfl rfl rfl ?_
      refine hz_iload_n (a := 1) (n := 16) hC dX2_letPass_15 rfl rfl rfl ?_
      refine hz_icmp_ge (tgt := 158) (n := 19) hC dX2_letPass_16 (by decide) rfl (fun _ => ?_) (fun _ => ?_)
      · refine hz_iload_n (a := 2) (n := 159) hC dX2_letPass_158 rfl rfl rfl ?_
        exact hz_iret hC hr dX2_letPass_159
      · refine hz_aload_n (a := 0) (n := 20) hC dX2_letPass_19 rfl rfl rfl ?_
        refine hz_callV (k := 0) (As := []) (st := []) (S1 := fun r => .int r :: []) (n := 23) hC (c_X2_isQuiet l g hg  M) kv_X2_isQuiet wd_2_209 hI dX2_letPass_20 rfl (hI.1 g 0 hg (by decide)) (he_X2 hg) rfl rfl rfl (Nat.le_of_ble_eq_true rfl) ⟨Nat.le_of_ble_eq_true rfl, Nat.le_of_ble_eq_true rfl⟩ ⟨Nat.zero_le _, Nat.zero_le _⟩ (fun _ => rfl) rfl (fun r1 M1 _ => ?_)
        refine hz_if_ne (tgt := 158) (n := 26) hC dX2_letPass_23 (by decide) rfl (fun _ => ?_) (fun _ => ?_)
        · refine hz_aload_n (a := 0) (n := 27) hC dX2_letPass_26 rfl rfl rfl ?_
          refine fg_X2_37 (n := 30) hC hg hI dX2_letPass_27 rfl ?_
          refine fg_X2_93 (n := 33) hC hg hI dX2_letPass_30 rfl ?_
          refine hz_iconst (v := (2 : Int32)) (n := 34) hC dX2_letPass_33 (by decide +kernel) rfl ?_
          refine hz_icmp_ne (tgt := 41) (n := 37) hC dX2_letPass_34 (by decide) rfl (fun _ => ?_) (fun _ => ?_)
          · refine hz_aload_n (a := 0) (n := 38) hC dX2_letPass_37 rfl rfl rfl ?_
            refine hz_callV (k := 0) (As := []) (st := []) (S1 := fun _ => []) (n := 41) hC (c_X2_speakOneMinute l g hg  M1) kv_X2_speakOneMinute wd_2_217 hI dX2_letPass_38 rfl (hI.1 g 0 hg (by decide)) (he_X2 hg) rfl rfl rfl (Nat.le_of_ble_eq_true rfl) ⟨Nat.le_of_ble_eq_true rfl, Nat.le_of_ble_eq_true rfl⟩ ⟨Nat.zero_le _, Nat.zero_le _⟩ (fun _ => rfl) rfl (fun r2 M2 _ => ?_)
            exact j41 _ _ _
          · exact j41 _ _ _
        · refine hz_iload_n (a := 2) (n := 159) hC dX2_letPass_158 rfl rfl rfl ?_
          exact hz_iret hC hr dX2_letPass_159
  refine hz_iconst (v := (0 : Int32)) (n := 1) hC dX2_letPass_0 (by decide +kernel) rfl ?_
  refine hz_istore_n (L' := [(2, .int (0 : Int32)), (0, .ref (adr g 0)), (1, .int a0)]) (n := 2) hC dX2_letPass_1 rfl (by decide) rfl rfl ?_
  refine hz_aload_n (a := 1) (n := 3) hC dX2_letPass_2 rfl rfl rfl ?_
  refine hz_dup (n := 4) hC dX2_letPass_3 rfl rfl ?_
  refine fg_X2_15 (n := 7) hC hg hI dX2_letPass_4 rfl ?_
  refine hz_iload_n (a := 2) (n := 8) hC dX2_letPass_7 rfl rfl rfl ?_
  refine hz_iadd (n := 9) hC dX2_letPass_8 rfl ?_
  refine fp_X2_15 (n := 12) hC hg hI ((M g 0 1) + a0) dX2_letPass_9 rfl ?_
  refine hz_iconst (v := (0 : Int32)) (n := 13) hC dX2_letPass_12 (by decide +kernel) rfl ?_
  refine hz_istore_n (L' := [(3, .int (0 : Int32)), (2, .int (0 : Int32)), (0, .ref (adr g 0)), (1, .int a0)]) (n := 14) hC dX2_letPass_13 rfl (by decide) rfl rfl ?_
  refine hz_L (L' := [(0, .ref (adr g 0)), (1, .int a0), (2, .int (0 : Int32)), (3, .int (0 : Int32))]) [2, 3, 1, 0] rfl ?_
  exact l14 hp_fu _ _ _
def F_X2_refusal (g : Nat) (v0 : Nat) (a1 : Int32) (a2 : Int32) (M : hp_M) : Option (Int32 × hp_M) := (hp_b (F_X2_get g a1 (2 : Int32) M) (fun r1 M1 => (hp_b (F_Jx29ce0_ordinal_8abf5 v0 M1) (fun r2 M2 => (if r2 < 0 ∨ 12 ≤ (r2).toNatClampNeg then none else (if (hp_sm.getD (r2).toNatClampNeg 0) = (1 : Int32) then (if r1 = 0 then (some ((0 : Int32), M2)) else (some ((2 : Int32), M2))) else (if (hp_sm.getD (r2).toNatClampNeg 0) = (2 : Int32) then (if r1 = (2 : Int32) then (some ((0 : Int32), M2)) else (if r1 = (1 : Int32) then (hp_b (F_X2_isCalled g a1 M2) (fun r3 M3 => (if r3 = 0 then (some ((0 : Int32), M3)) else (some ((3 : Int32), M3))))) else (some ((3 : Int32), M2)))) else (if (hp_sm.getD (r2).toNatClampNeg 0) = (3 : Int32) then (if r1 = (3 : Int32) then (some ((0 : Int32), M2)) else (some ((4 : Int32), M2))) else (if (hp_sm.getD (r2).toNatClampNeg 0) = (4 : Int32) then (if (M2 g 5 0) = 0 then (some ((0 : Int32), M2)) else (some ((5 : Int32), M2))) else (if (hp_sm.getD (r2).toNatClampNeg 0) = (5 : Int32) then (hp_b (F_X2_get g a1 (6 : Int32) M2) (fun r4 M4 => (if r4 < a2 then (some ((6 : Int32), M4)) else (some ((0 : Int32), M4))))) else (some ((0 : Int32), M2))))))))))))
set_option maxRecDepth 20000 in
set_option maxHeartbeats 4000000 in
theorem c_X2_refusal (l : Launch) (g : Nat) (v0 : Nat) (a1 : Int32) (a2 : Int32) (hg : g < 12) (hv0 : v0 < 12) (M : hp_M) : hp_Ct l yX2_refusal cX2_refusal 5 (some .int) 1 hp_IC (fun adr adV => [.ref (adr g 0), .ref (adV v0), .int a1, .int a2]) hp_oi M (F_X2_refusal g v0 a1 a2 M) := by
  refine hp_start "HallPhone$House" (fun adr adV => [(0, .ref (adr g 0)), (1, .ref (adV v0)), (2, .int a1), (3, .int a2)]) (by decide) rfl (fun _ _ => by simp only [lg_sl]; exact Nat.le_of_ble_eq_true rfl) (fun _ _ => rfl) ?_
  intro p e s m args below meth c A D ids adr adV cA rep G0 hI hC hr
  unfold F_X2_refusal
  refine hz_aload_n (a := 0) (n := 1) hC dX2_refusal_0 rfl rfl rfl ?_
  refine hz_iload_n (a := 2) (n := 2) hC dX2_refusal_1 rfl rfl rfl ?_
  refine hz_iconst (v := (2 : Int32)) (n := 3) hC dX2_refusal_2 (by decide +kernel) rfl ?_
  refine hz_callV (k := 2) (As := [.int a1, .int (2 : Int32)]) (st := []) (S1 := fun r => .int r :: []) (n := 6) hC (c_X2_get l g a1 (2 : Int32) hg  M) kv_X2_get wd_2_137 hI dX2_refusal_3 rfl (hI.1 g 0 hg (by decide)) (he_X2 hg) rfl rfl rfl (Nat.le_of_ble_eq_true rfl) ⟨Nat.le_of_ble_eq_true rfl, Nat.le_of_ble_eq_true rfl⟩ ⟨Nat.zero_le _, Nat.zero_le _⟩ (fun _ => rfl) rfl (fun r1 M1 _ => ?_)
  refine hz_istore (L' := [(4, .int r1), (0, .ref (adr g 0)), (1, .ref (adV v0)), (2, .int a1), (3, .int a2)]) (n := 8) hC dX2_refusal_6 (by decide) rfl rfl ?_
  refine hz_gets (k := 13) (n := 11) hC dX2_refusal_8 wd_2_142 wd_1_19.1 (by decide +kernel) wd_2_141 rfl ?_
  refine hz_aload_n (a := 2) (n := 12) hC dX2_refusal_11 rfl rfl rfl ?_
  refine hz_callOU (k := 0) (C := "HallPhone$Verb") (x := ⟨"HallPhone$Verb", "ordinal", "()I"⟩) (As := []) (st := [.ref (adV 13)]) (S1 := fun r => .int r :: [.ref (adV 13)]) (n := 15) hC (c_Jx29ce0_ordinal_8abf5 l v0 hv0  M1) rfl hp_ordw ⟨by decide, by decide, by decide +kernel⟩ (by decide) trivial dX2_refusal_12 rfl (hp_v_O hC.2.2.2.2.1 hv0) rfl rfl (Nat.le_of_ble_eq_true rfl) ⟨Nat.le_of_ble_eq_true rfl, Nat.le_of_ble_eq_true rfl⟩ ⟨Nat.zero_le _, Nat.zero_le _⟩ (fun _ => rfl) rfl (fun r2 M2 _ => ?_)
  refine hz_tald (n := 16) hC (hp_sm_T hC.2.2.2.2.1) dX2_refusal_15 rfl (fun _ => ?_)
  refine hz_case (fun hk1 => ?_) (fun hk1 => ?_)
  · refine hz_tabIn (n := 52) hC hk1 dX2_refusal_16 (by decide +kernel) (by decide +kernel) (by rfl) (by decide +kernel) ?_
    refine hz_iload (a := 0) (n := 54) hC dX2_refusal_52 rfl rfl ?_
    refine hz_if_ne (tgt := 61) (n := 57) hC dX2_refusal_54 (by decide) rfl (fun _ => ?_) (fun _ => ?_)
    · refine hz_iconst (v := (0 : Int32)) (n := 58) hC dX2_refusal_57 (by decide +kernel) rfl ?_
      refine hz_goto (n := 62) hC dX2_refusal_58 (by decide) ?_
      exact hz_iret hC hr dX2_refusal_62
    · refine hz_iconst (v := (2 : Int32)) (n := 62) hC dX2_refusal_61 (by decide +kernel) rfl ?_
      exact hz_iret hC hr dX2_refusal_62
  refine hz_case (fun hk2 => ?_) (fun hk2 => ?_)
  · refine hz_tabIn (n := 63) hC hk2 dX2_refusal_16 (by decide +kernel) (by decide +kernel) (by rfl) (by decide +kernel) ?_
    refine hz_iload (a := 0) (n := 65) hC dX2_refusal_63 rfl rfl ?_
    refine hz_iconst (v := (2 : Int32)) (n := 66) hC dX2_refusal_65 (by decide +kernel) rfl ?_
    refine hz_icmp_eq (tgt := 83) (n := 69) hC dX2_refusal_66 (by decide) rfl (fun _ => ?_) (fun _ => ?_)
    · refine hz_iconst (v := (0 : Int32)) (n := 84) hC dX2_refusal_83 (by decide +kernel) rfl ?_
      refine hz_goto (n := 88) hC dX2_refusal_84 (by decide) ?_
      exact hz_iret hC hr dX2_refusal_88
    · refine hz_iload (a := 0) (n := 71) hC dX2_refusal_69 rfl rfl ?_
      refine hz_iconst (v := (1 : Int32)) (n := 72) hC dX2_refusal_71 (by decide +kernel) rfl ?_
      refine hz_icmp_ne (tgt := 87) (n := 75) hC dX2_refusal_72 (by decide) rfl (fun _ => ?_) (fun _ => ?_)
      · refine hz_aload_n (a := 1) (n := 76) hC dX2_refusal_75 rfl rfl rfl ?_
        refine hz_iload_n (a := 3) (n := 77) hC dX2_refusal_76 rfl rfl rfl ?_
        refine hz_callV (k := 1) (As := [.int a1]) (st := []) (S1 := fun r => .int r :: []) (n := 80) hC (c_X2_isCalled l g a1 hg  M2) kv_X2_isCalled wd_2_149 hI dX2_refusal_77 rfl (hI.1 g 0 hg (by decide)) (he_X2 hg) rfl rfl rfl (Nat.le_of_ble_eq_true rfl) ⟨Nat.le_of_ble_eq_true rfl, Nat.le_of_ble_eq_true rfl⟩ ⟨Nat.zero_le _, Nat.zero_le _⟩ (fun _ => rfl) rfl (fun r3 M3 _ => ?_)
        refine hz_if_ne (tgt := 87) (n := 83) hC dX2_refusal_80 (by decide) rfl (fun _ => ?_) (fun _ => ?_)
        · refine hz_iconst (v := (0 : Int32)) (n := 84) hC dX2_refusal_83 (by decide +kernel) rfl ?_
          refine hz_goto (n := 88) hC dX2_refusal_84 (by decide) ?_
          exact hz_iret hC hr dX2_refusal_88
        · refine hz_iconst (v := (3 : Int32)) (n := 88) hC dX2_refusal_87 (by decide +kernel) rfl ?_
          exact hz_iret hC hr dX2_refusal_88
      · refine hz_iconst (v := (3 : Int32)) (n := 88) hC dX2_refusal_87 (by decide +kernel) rfl ?_
        exact hz_iret hC hr dX2_refusal_88
  refine hz_case (fun hk3 => ?_) (fun hk3 => ?_)
  · refine hz_tabIn (n := 89) hC hk3 dX2_refusal_16 (by decide +kernel) (by decide +kernel) (by rfl) (by decide +kernel) ?_
    refine hz_iload (a := 0) (n := 91) hC dX2_refusal_89 rfl rfl ?_
    refine hz_iconst (v := (3 : Int32)) (n := 92) hC dX2_refusal_91 (by decide +kernel) rfl ?_
    refine hz_icmp_ne (tgt := 99) (n := 95) hC dX2_refusal_92 (by decide) rfl (fun _ => ?_) (fun _ => ?_)
    · refine hz_iconst (v := (0 : Int32)) (n := 96) hC dX2_refusal_95 (by decide +kernel) rfl ?_
      refine hz_goto (n := 100) hC dX2_refusal_96 (by decide) ?_
      exact hz_iret hC hr dX2_refusal_100
    · refine hz_iconst (v := (4 : Int32)) (n := 100) hC dX2_refusal_99 (by decide +kernel) rfl ?_
      exact hz_iret hC hr dX2_refusal_100
  refine hz_case (fun hk4 => ?_) (fun hk4 => ?_)
  · refine hz_tabIn (n := 101) hC hk4 dX2_refusal_16 (by decide +kernel) (by decide +kernel) (by rfl) (by decide +kernel) ?_
    refine hz_aload_n (a := 1) (n := 102) hC dX2_refusal_101 rfl rfl rfl ?_
    refine fg_X2_37 (n := 105) hC hg hI dX2_refusal_102 rfl ?_
    refine fg_X2_93 (n := 108) hC hg hI dX2_refusal_105 rfl ?_
    refine hz_if_ne (tgt := 115) (n := 111) hC dX2_refusal_108 (by decide) rfl (fun _ => ?_) (fun _ => ?_)
    · refine hz_iconst (v := (0 : Int32)) (n := 112) hC dX2_refusal_111 (by decide +kernel) rfl ?_
      refine hz_goto (n := 116) hC dX2_refusal_112 (by decide) ?_
      exact hz_iret hC hr dX2_refusal_116
    · refine hz_iconst (v := (5 : Int32)) (n := 116) hC dX2_refusal_115 (by decide +kernel) rfl ?_
      exact hz_iret hC hr dX2_refusal_116
  refine hz_case (fun hk5 => ?_) (fun hk5 => ?_)
  · refine hz_tabIn (n := 117) hC hk5 dX2_refusal_16 (by decide +kernel) (by decide +kernel) (by rfl) (by decide +kernel) ?_
    refine hz_iload_n (a := 4) (n := 118) hC dX2_refusal_117 rfl rfl rfl ?_
    refine hz_aload_n (a := 1) (n := 119) hC dX2_refusal_118 rfl rfl rfl ?_
    refine hz_iload_n (a := 3) (n := 120) hC dX2_refusal_119 rfl rfl rfl ?_
    refine hz_bipush (v := (6 : Int32)) (n := 122) hC dX2_refusal_120 (by decide +kernel) rfl ?_
    refine hz_callV (k := 2) (As := [.int a1, .int (6 : Int32)]) (st := [.int a2]) (S1 := fun r => .int r :: [.int a2]) (n := 125) hC (c_X2_get l g a1 (6 : Int32) hg  M2) kv_X2_get wd_2_137 hI dX2_refusal_122 rfl (hI.1 g 0 hg (by decide)) (he_X2 hg) rfl rfl rfl (Nat.le_of_ble_eq_true rfl) ⟨Nat.le_of_ble_eq_true rfl, Nat.le_of_ble_eq_true rfl⟩ ⟨Nat.zero_le _, Nat.zero_le _⟩ (fun _ => rfl) rfl (fun r4 M4 _ => ?_)
    refine hz_icmp_gt (tgt := 132) (n := 128) hC dX2_refusal_125 (by decide) rfl (fun _ => ?_) (fun _ => ?_)
    · refine hz_bipush (v := (6 : Int32)) (n := 134) hC dX2_refusal_132 (by decide +kernel) rfl ?_
      exact hz_iret hC hr dX2_refusal_134
    · refine hz_iconst (v := (0 : Int32)) (n := 129) hC dX2_refusal_128 (by decide +kernel) rfl ?_
      refine hz_goto (n := 134) hC dX2_refusal_129 (by decide) ?_
      exact hz_iret hC hr dX2_refusal_134
  refine hz_tabOut (n := 135) hC (hp_out 5 (by decide) (fun k hk => by
    rcases (show k = 0 ∨ k = 1 ∨ k = 2 ∨ k = 3 ∨ k = 4 by omega) with rfl | rfl | rfl | rfl | rfl
    · exact fun e => hk1 (Int32.toInt_inj.mp (e.trans (by decide +kernel)))
    · exact fun e => hk2 (Int32.toInt_inj.mp (e.trans (by decide +kernel)))
    · exact fun e => hk3 (Int32.toInt_inj.mp (e.trans (by decide +kernel)))
    · exact fun e => hk4 (Int32.toInt_inj.mp (e.trans (by decide +kernel)))
    · exact fun e => hk5 (Int32.toInt_inj.mp (e.trans (by decide +kernel)))
    )) dX2_refusal_16 (by decide +kernel) ?_
  refine hz_iconst (v := (0 : Int32)) (n := 136) hC dX2_refusal_135 (by decide +kernel) rfl ?_
  exact hz_iret hC hr dX2_refusal_136
def F_X2_giveUp (g : Nat) (a0 : Int32) (M : hp_M) : Option (Int32 × hp_M) := (hp_b (F_X2_get g a0 (4 : Int32) M) (fun r1 M1 => (hp_b (F_X4_leave g a0 M1) (fun _ M2 => (hp_b (F_X2_put g a0 (2 : Int32) (0 : Int32) M2) (fun _ M3 => (hp_b (F_X2_put g a0 (3 : Int32) (0 : Int32) M3) (fun _ M4 => (hp_b (F_X2_put g a0 (4 : Int32) (0 : Int32) M4) (fun _ M5 => (some (r1, M5))))))))))))
set_option maxRecDepth 20000 in
set_option maxHeartbeats 4000000 in
theorem c_X2_giveUp (l : Launch) (g : Nat) (a0 : Int32) (hg : g < 12) (M : hp_M) : hp_Ct l yX2_giveUp cX2_giveUp 3 (some .int) 1 hp_IC (fun adr adV => [.ref (adr g 0), .int a0]) hp_oi M (F_X2_giveUp g a0 M) := by
  refine hp_start "HallPhone$House" (fun adr adV => [(0, .ref (adr g 0)), (1, .int a0)]) (by decide) rfl (fun _ _ => by simp only [lg_sl]; exact Nat.le_of_ble_eq_true rfl) (fun _ _ => rfl) ?_
  intro p e s m args below meth c A D ids adr adV cA rep G0 hI hC hr
  unfold F_X2_giveUp
  refine hz_aload_n (a := 0) (n := 1) hC dX2_giveUp_0 rfl rfl rfl ?_
  refine hz_iload_n (a := 1) (n := 2) hC dX2_giveUp_1 rfl rfl rfl ?_
  refine hz_iconst (v := (4 : Int32)) (n := 3) hC dX2_giveUp_2 (by decide +kernel) rfl ?_
  refine hz_callV (k := 2) (As := [.int a0, .int (4 : Int32)]) (st := []) (S1 := fun r => .int r :: []) (n := 6) hC (c_X2_get l g a0 (4 : Int32) hg  M) kv_X2_get wd_2_137 hI dX2_giveUp_3 rfl (hI.1 g 0 hg (by decide)) (he_X2 hg) rfl rfl rfl (Nat.le_of_ble_eq_true rfl) ⟨Nat.le_of_ble_eq_true rfl, Nat.le_of_ble_eq_true rfl⟩ ⟨Nat.zero_le _, Nat.zero_le _⟩ (fun _ => rfl) rfl (fun r1 M1 _ => ?_)
  refine hz_istore_n (L' := [(2, .int r1), (0, .ref (adr g 0)), (1, .int a0)]) (n := 7) hC dX2_giveUp_6 rfl (by decide) rfl rfl ?_
  refine hz_aload_n (a := 1) (n := 8) hC dX2_giveUp_7 rfl rfl rfl ?_
  refine fg_X2_44 (n := 11) hC hg hI dX2_giveUp_8 rfl ?_
  refine hz_iload_n (a := 2) (n := 12) hC dX2_giveUp_11 rfl rfl rfl ?_
  refine hz_callVN (k := 1) (As := [.int a0]) (st := []) (S1 := fun _ => []) (n := 15) hC (c_X4_leave l g a0 hg  M1) kv_X4_leave wd_2_165 hI dX2_giveUp_12 rfl (hI.1 g 6 hg (by decide)) (he_X4 hg) rfl rfl rfl (Nat.le_of_ble_eq_true rfl) ⟨Nat.le_of_ble_eq_true rfl, Nat.le_of_ble_eq_true rfl⟩ ⟨Nat.zero_le _, Nat.zero_le _⟩ (fun _ => rfl) rfl (fun r2 M2 _ => ?_)
  refine hz_aload_n (a := 1) (n := 16) hC dX2_giveUp_15 rfl rfl rfl ?_
  refine hz_iload_n (a := 2) (n := 17) hC dX2_giveUp_16 rfl rfl rfl ?_
  refine hz_iconst (v := (2 : Int32)) (n := 18) hC dX2_giveUp_17 (by decide +kernel) rfl ?_
  refine hz_iconst (v := (0 : Int32)) (n := 19) hC dX2_giveUp_18 (by decide +kernel) rfl ?_
  refine hz_callV (k := 3) (As := [.int a0, .int (2 : Int32), .int (0 : Int32)]) (st := []) (S1 := fun _ => []) (n := 22) hC (c_X2_put l g a0 (2 : Int32) (0 : Int32) hg  M2) kv_X2_put wd_2_108 hI dX2_giveUp_19 rfl (hI.1 g 0 hg (by decide)) (he_X2 hg) rfl rfl rfl (Nat.le_of_ble_eq_true rfl) ⟨Nat.le_of_ble_eq_true rfl, Nat.le_of_ble_eq_true rfl⟩ ⟨Nat.zero_le _, Nat.zero_le _⟩ (fun _ => rfl) rfl (fun r3 M3 _ => ?_)
  refine hz_aload_n (a := 1) (n := 23) hC dX2_giveUp_22 rfl rfl rfl ?_
  refine hz_iload_n (a := 2) (n := 24) hC dX2_giveUp_23 rfl rfl rfl ?_
  refine hz_iconst (v := (3 : Int32)) (n := 25) hC dX2_giveUp_24 (by decide +kernel) rfl ?_
  refine hz_iconst (v := (0 : Int32)) (n := 26) hC dX2_giveUp_25 (by decide +kernel) rfl ?_
  refine hz_callV (k := 3) (As := [.int a0, .int (3 : Int32), .int (0 : Int32)]) (st := []) (S1 := fun _ => []) (n := 29) hC (c_X2_put l g a0 (3 : Int32) (0 : Int32) hg  M3) kv_X2_put wd_2_108 hI dX2_giveUp_26 rfl (hI.1 g 0 hg (by decide)) (he_X2 hg) rfl rfl rfl (Nat.le_of_ble_eq_true rfl) ⟨Nat.le_of_ble_eq_true rfl, Nat.le_of_ble_eq_true rfl⟩ ⟨Nat.zero_le _, Nat.zero_le _⟩ (fun _ => rfl) rfl (fun r4 M4 _ => ?_)
  refine hz_aload_n (a := 1) (n := 30) hC dX2_giveUp_29 rfl rfl rfl ?_
  refine hz_iload_n (a := 2) (n := 31) hC dX2_giveUp_30 rfl rfl rfl ?_
  refine hz_iconst (v := (4 : Int32)) (n := 32) hC dX2_giveUp_31 (by decide +kernel) rfl ?_
  refine hz_iconst (v := (0 : Int32)) (n := 33) hC dX2_giveUp_32 (by decide +kernel) rfl ?_
  refine hz_callV (k := 3) (As := [.int a0, .int (4 : Int32), .int (0 : Int32)]) (st := []) (S1 := fun _ => []) (n := 36) hC (c_X2_put l g a0 (4 : Int32) (0 : Int32) hg  M4) kv_X2_put wd_2_108 hI dX2_giveUp_33 rfl (hI.1 g 0 hg (by decide)) (he_X2 hg) rfl rfl rfl (Nat.le_of_ble_eq_true rfl) ⟨Nat.le_of_ble_eq_true rfl, Nat.le_of_ble_eq_true rfl⟩ ⟨Nat.zero_le _, Nat.zero_le _⟩ (fun _ => rfl) rfl (fun r5 M5 _ => ?_)
  refine hz_iload_n (a := 0) (n := 37) hC dX2_giveUp_36 rfl rfl rfl ?_
  exact hz_iret hC hr dX2_giveUp_37
def F_X2_setOut (g : Nat) (a0 : Int32) (a1 : Int32) (M : hp_M) : Option (Int32 × hp_M) := (hp_b (F_X2_get g a0 (0 : Int32) M) (fun r1 M1 => (hp_b (F_X2_put g a0 (2 : Int32) (1 : Int32) M1) (fun _ M2 => (hp_b (F_X2_put g a0 (3 : Int32) ((1 : Int32) + r1) M2) (fun _ M3 => (hp_b (F_X2_put g a0 (4 : Int32) a1 M3) (fun _ M4 => (some (((1 : Int32) + r1), M4))))))))))
set_option maxRecDepth 20000 in
set_option maxHeartbeats 4000000 in
theorem c_X2_setOut (l : Launch) (g : Nat) (a0 : Int32) (a1 : Int32) (hg : g < 12) (M : hp_M) : hp_Ct l yX2_setOut cX2_setOut 4 (some .int) 1 hp_IC (fun adr adV => [.ref (adr g 0), .int a0, .int a1]) hp_oi M (F_X2_setOut g a0 a1 M) := by
  refine hp_start "HallPhone$House" (fun adr adV => [(0, .ref (adr g 0)), (1, .int a0), (2, .int a1)]) (by decide) rfl (fun _ _ => by simp only [lg_sl]; exact Nat.le_of_ble_eq_true rfl) (fun _ _ => rfl) ?_
  intro p e s m args below meth c A D ids adr adV cA rep G0 hI hC hr
  unfold F_X2_setOut
  refine hz_iconst (v := (1 : Int32)) (n := 1) hC dX2_setOut_0 (by decide +kernel) rfl ?_
  refine hz_aload_n (a := 0) (n := 2) hC dX2_setOut_1 rfl rfl rfl ?_
  refine hz_iload_n (a := 1) (n := 3) hC dX2_setOut_2 rfl rfl rfl ?_
  refine hz_iconst (v := (0 : Int32)) (n := 4) hC dX2_setOut_3 (by decide +kernel) rfl ?_
  refine hz_callV (k := 2) (As := [.int a0, .int (0 : Int32)]) (st := [.int (1 : Int32)]) (S1 := fun r => .int r :: [.int (1 : Int32)]) (n := 7) hC (c_X2_get l g a0 (0 : Int32) hg  M) kv_X2_get wd_2_137 hI dX2_setOut_4 rfl (hI.1 g 0 hg (by decide)) (he_X2 hg) rfl rfl rfl (Nat.le_of_ble_eq_true rfl) ⟨Nat.le_of_ble_eq_true rfl, Nat.le_of_ble_eq_true rfl⟩ ⟨Nat.zero_le _, Nat.zero_le _⟩ (fun _ => rfl) rfl (fun r1 M1 _ => ?_)
  refine hz_iadd (n := 8) hC dX2_setOut_7 rfl ?_
  refine hz_istore_n (L' := [(3, .int ((1 : Int32) + r1)), (0, .ref (adr g 0)), (1, .int a0), (2, .int a1)]) (n := 9) hC dX2_setOut_8 rfl (by decide) rfl rfl ?_
  refine hz_aload_n (a := 1) (n := 10) hC dX2_setOut_9 rfl rfl rfl ?_
  refine hz_iload_n (a := 2) (n := 11) hC dX2_setOut_10 rfl rfl rfl ?_
  refine hz_iconst (v := (2 : Int32)) (n := 12) hC dX2_setOut_11 (by decide +kernel) rfl ?_
  refine hz_iconst (v := (1 : Int32)) (n := 13) hC dX2_setOut_12 (by decide +kernel) rfl ?_
  refine hz_callV (k := 3) (As := [.int a0, .int (2 : Int32), .int (1 : Int32)]) (st := []) (S1 := fun _ => []) (n := 16) hC (c_X2_put l g a0 (2 : Int32) (1 : Int32) hg  M1) kv_X2_put wd_2_108 hI dX2_setOut_13 rfl (hI.1 g 0 hg (by decide)) (he_X2 hg) rfl rfl rfl (Nat.le_of_ble_eq_true rfl) ⟨Nat.le_of_ble_eq_true rfl, Nat.le_of_ble_eq_true rfl⟩ ⟨Nat.zero_le _, Nat.zero_le _⟩ (fun _ => rfl) rfl (fun r2 M2 _ => ?_)
  refine hz_aload_n (a := 1) (n := 17) hC dX2_setOut_16 rfl rfl rfl ?_
  refine hz_iload_n (a := 2) (n := 18) hC dX2_setOut_17 rfl rfl rfl ?_
  refine hz_iconst (v := (3 : Int32)) (n := 19) hC dX2_setOut_18 (by decide +kernel) rfl ?_
  refine hz_iload_n (a := 0) (n := 20) hC dX2_setOut_19 rfl rfl rfl ?_
  refine hz_callV (k := 3) (As := [.int a0, .int (3 : Int32), .int ((1 : Int32) + r1)]) (st := []) (S1 := fun _ => []) (n := 23) hC (c_X2_put l g a0 (3 : Int32) ((1 : Int32) + r1) hg  M2) kv_X2_put wd_2_108 hI dX2_setOut_20 rfl (hI.1 g 0 hg (by decide)) (he_X2 hg) rfl rfl rfl (Nat.le_of_ble_eq_true rfl) ⟨Nat.le_of_ble_eq_true rfl, Nat.le_of_ble_eq_true rfl⟩ ⟨Nat.zero_le _, Nat.zero_le _⟩ (fun _ => rfl) rfl (fun r3 M3 _ => ?_)
  refine hz_aload_n (a := 1) (n := 24) hC dX2_setOut_23 rfl rfl rfl ?_
  refine hz_iload_n (a := 2) (n := 25) hC dX2_setOut_24 rfl rfl rfl ?_
  refine hz_iconst (v := (4 : Int32)) (n := 26) hC dX2_setOut_25 (by decide +kernel) rfl ?_
  refine hz_iload_n (a := 3) (n := 27) hC dX2_setOut_26 rfl rfl rfl ?_
  refine hz_callV (k := 3) (As := [.int a0, .int (4 : Int32), .int a1]) (st := []) (S1 := fun _ => []) (n := 30) hC (c_X2_put l g a0 (4 : Int32) a1 hg  M3) kv_X2_put wd_2_108 hI dX2_setOut_27 rfl (hI.1 g 0 hg (by decide)) (he_X2 hg) rfl rfl rfl (Nat.le_of_ble_eq_true rfl) ⟨Nat.le_of_ble_eq_true rfl, Nat.le_of_ble_eq_true rfl⟩ ⟨Nat.zero_le _, Nat.zero_le _⟩ (fun _ => rfl) rfl (fun r4 M4 _ => ?_)
  refine hz_iload_n (a := 0) (n := 31) hC dX2_setOut_30 rfl rfl rfl ?_
  exact hz_iret hC hr dX2_setOut_31
def F_X2_takeMoney (g : Nat) (a0 : Int32) (a1 : Int32) (M : hp_M) : Option (Int32 × hp_M) := (hp_b (F_X2_get g a0 (6 : Int32) M) (fun r1 M1 => (hp_b (F_X2_put g a0 (6 : Int32) (r1 - a1) M1) (fun _ M2 => (some ((r1 - a1), (hp_p M2 g 2 5 ((M2 g 2 5) + a1))))))))
set_option maxRecDepth 20000 in
set_option maxHeartbeats 4000000 in
theorem c_X2_takeMoney (l : Launch) (g : Nat) (a0 : Int32) (a1 : Int32) (hg : g < 12) (M : hp_M) : hp_Ct l yX2_takeMoney cX2_takeMoney 4 (some .int) 1 hp_IC (fun adr adV => [.ref (adr g 0), .int a0, .int a1]) hp_oi M (F_X2_takeMoney g a0 a1 M) := by
  refine hp_start "HallPhone$House" (fun adr adV => [(0, .ref (adr g 0)), (1, .int a0), (2, .int a1)]) (by decide) rfl (fun _ _ => by simp only [lg_sl]; exact Nat.le_of_ble_eq_true rfl) (fun _ _ => rfl) ?_
  intro p e s m args below meth c A D ids adr adV cA rep G0 hI hC hr
  unfold F_X2_takeMoney
  refine hz_aload_n (a := 0) (n := 1) hC dX2_takeMoney_0 rfl rfl rfl ?_
  refine hz_iload_n (a := 1) (n := 2) hC dX2_takeMoney_1 rfl rfl rfl ?_
  refine hz_bipush (v := (6 : Int32)) (n := 4) hC dX2_takeMoney_2 (by decide +kernel) rfl ?_
  refine hz_callV (k := 2) (As := [.int a0, .int (6 : Int32)]) (st := []) (S1 := fun r => .int r :: []) (n := 7) hC (c_X2_get l g a0 (6 : Int32) hg  M) kv_X2_get wd_2_137 hI dX2_takeMoney_4 rfl (hI.1 g 0 hg (by decide)) (he_X2 hg) rfl rfl rfl (Nat.le_of_ble_eq_true rfl) ⟨Nat.le_of_ble_eq_true rfl, Nat.le_of_ble_eq_true rfl⟩ ⟨Nat.zero_le _, Nat.zero_le _⟩ (fun _ => rfl) rfl (fun r1 M1 _ => ?_)
  refine hz_iload_n (a := 2) (n := 8) hC dX2_takeMoney_7 rfl rfl rfl ?_
  refine hz_isub (n := 9) hC dX2_takeMoney_8 rfl ?_
  refine hz_istore_n (L' := [(3, .int (r1 - a1)), (0, .ref (adr g 0)), (1, .int a0), (2, .int a1)]) (n := 10) hC dX2_takeMoney_9 rfl (by decide) rfl rfl ?_
  refine hz_aload_n (a := 1) (n := 11) hC dX2_takeMoney_10 rfl rfl rfl ?_
  refine hz_iload_n (a := 2) (n := 12) hC dX2_takeMoney_11 rfl rfl rfl ?_
  refine hz_bipush (v := (6 : Int32)) (n := 14) hC dX2_takeMoney_12 (by decide +kernel) rfl ?_
  refine hz_iload_n (a := 0) (n := 15) hC dX2_takeMoney_14 rfl rfl rfl ?_
  refine hz_callV (k := 3) (As := [.int a0, .int (6 : Int32), .int (r1 - a1)]) (st := []) (S1 := fun _ => []) (n := 18) hC (c_X2_put l g a0 (6 : Int32) (r1 - a1) hg  M1) kv_X2_put wd_2_108 hI dX2_takeMoney_15 rfl (hI.1 g 0 hg (by decide)) (he_X2 hg) rfl rfl rfl (Nat.le_of_ble_eq_true rfl) ⟨Nat.le_of_ble_eq_true rfl, Nat.le_of_ble_eq_true rfl⟩ ⟨Nat.zero_le _, Nat.zero_le _⟩ (fun _ => rfl) rfl (fun r2 M2 _ => ?_)
  refine hz_aload_n (a := 1) (n := 19) hC dX2_takeMoney_18 rfl rfl rfl ?_
  refine fg_X2_25 (n := 22) hC hg hI dX2_takeMoney_19 rfl ?_
  refine hz_iconst (v := (5 : Int32)) (n := 23) hC dX2_takeMoney_22 (by decide +kernel) rfl ?_
  refine hz_dup2 (n := 24) hC dX2_takeMoney_23 rfl rfl rfl ?_
  refine hz_ialdc (k := 5) (n := 25) hC (by decide +kernel) (by decide) dX2_takeMoney_24 (hI.1 g 2 hg (by decide)) (ha_h2 hg) rfl ?_
  refine hz_iload_n (a := 3) (n := 26) hC dX2_takeMoney_25 rfl rfl rfl ?_
  refine hz_iadd (n := 27) hC dX2_takeMoney_26 rfl ?_
  refine hz_iastc (k := 5) (n := 28) hC (by decide +kernel) (by decide) dX2_takeMoney_27 (hI.1 g 2 hg (by decide)) (ha_h2 hg) rfl ?_
  refine hz_iload_n (a := 0) (n := 29) hC dX2_takeMoney_28 rfl rfl rfl ?_
  exact hz_iret hC hr dX2_takeMoney_29
def A_X2_outcomeOfRing_28 (g : Nat) (a0 : Int32)  (y28_2 : Int32) (M : hp_M) : Option (Int32 × hp_M) := (if y28_2 = (2 : Int32) then (some ((1 : Int32), M)) else (if (8 : Int32) ≤ (M g 8 2) then (some ((3 : Int32), M)) else (some ((2 : Int32), M))))
def F_X2_outcomeOfRing (g : Nat) (a0 : Int32) (M : hp_M) : Option (Int32 × hp_M) := (hp_b (F_X2_get g a0 (2 : Int32) M) (fun r1 M1 => (if r1 = 0 then (hp_b (F_X2_get g a0 (0 : Int32) M1) (fun r2 M2 => (if (M2 g 1 5) < r2 then (A_X2_outcomeOfRing_28 g a0 r1 M2) else (some ((0 : Int32), M2))))) else (A_X2_outcomeOfRing_28 g a0 r1 M1))))
set_option maxRecDepth 20000 in
set_option maxHeartbeats 4000000 in
theorem c_X2_outcomeOfRing (l : Launch) (g : Nat) (a0 : Int32) (hg : g < 12) (M : hp_M) : hp_Ct l yX2_outcomeOfRing cX2_outcomeOfRing 3 (some .int) 1 hp_IC (fun adr adV => [.ref (adr g 0), .int a0]) hp_oi M (F_X2_outcomeOfRing g a0 M) := by
  refine hp_start "HallPhone$House" (fun adr adV => [(0, .ref (adr g 0)), (1, .int a0)]) (by decide) rfl (fun _ _ => by simp only [lg_sl]; exact Nat.le_of_ble_eq_true rfl) (fun _ _ => rfl) ?_
  intro p e s m args below meth c A D ids adr adV cA rep G0 hI hC hr
  unfold F_X2_outcomeOfRing
  have j28 : ∀ (y28_2 : Int32) (M : hp_M), hp_Z p l e (hp_rm 1) s m args below meth c 3 A D ids adr adV cA 0 0 (MQ below (hp_Q A D ids adr adV cA rep hp_oi G0) args s 0 0 A) G0 rep 28 [(0, .ref (adr g 0)), (2, .int y28_2)] [] M (A_X2_outcomeOfRing_28 g a0 y28_2 M) := by
    intro y28_2 M
    unfold A_X2_outcomeOfRing_28
    refine hz_iload_n (a := 1) (n := 29) hC dX2_outcomeOfRing_28 rfl rfl rfl ?_
    refine hz_iconst (v := (2 : Int32)) (n := 30) hC dX2_outcomeOfRing_29 (by decide +kernel) rfl ?_
    refine hz_icmp_ne (tgt := 35) (n := 33) hC dX2_outcomeOfRing_30 (by decide) rfl (fun _ => ?_) (fun _ => ?_)
    · refine hz_iconst (v := (1 : Int32)) (n := 34) hC dX2_outcomeOfRing_33 (by decide +kernel) rfl ?_
      exact hz_iret hC hr dX2_outcomeOfRing_34
    · refine hz_aload_n (a := 0) (n := 36) hC dX2_outcomeOfRing_35 rfl rfl rfl ?_
      refine fg_X2_51 (n := 39) hC hg hI dX2_outcomeOfRing_36 rfl ?_
      refine fg_X2_74 (n := 42) hC hg hI dX2_outcomeOfRing_39 rfl ?_
      refine hz_bipush (v := (8 : Int32)) (n := 44) hC dX2_outcomeOfRing_42 (by decide +kernel) rfl ?_
      refine hz_icmp_ge (tgt := 51) (n := 47) hC dX2_outcomeOfRing_44 (by decide) rfl (fun _ => ?_) (fun _ => ?_)
      · refine hz_iconst (v := (3 : Int32)) (n := 52) hC dX2_outcomeOfRing_51 (by decide +kernel) rfl ?_
        exact hz_iret hC hr dX2_outcomeOfRing_52
      · refine hz_iconst (v := (2 : Int32)) (n := 48) hC dX2_outcomeOfRing_47 (by decide +kernel) rfl ?_
        refine hz_goto (n := 52) hC dX2_outcomeOfRing_48 (by decide) ?_
        exact hz_iret hC hr dX2_outcomeOfRing_52
  refine hz_aload_n (a := 0) (n := 1) hC dX2_outcomeOfRing_0 rfl rfl rfl ?_
  refine hz_iload_n (a := 1) (n := 2) hC dX2_outcomeOfRing_1 rfl rfl rfl ?_
  refine hz_iconst (v := (2 : Int32)) (n := 3) hC dX2_outcomeOfRing_2 (by decide +kernel) rfl ?_
  refine hz_callV (k := 2) (As := [.int a0, .int (2 : Int32)]) (st := []) (S1 := fun r => .int r :: []) (n := 6) hC (c_X2_get l g a0 (2 : Int32) hg  M) kv_X2_get wd_2_137 hI dX2_outcomeOfRing_3 rfl (hI.1 g 0 hg (by decide)) (he_X2 hg) rfl rfl rfl (Nat.le_of_ble_eq_true rfl) ⟨Nat.le_of_ble_eq_true rfl, Nat.le_of_ble_eq_true rfl⟩ ⟨Nat.zero_le _, Nat.zero_le _⟩ (fun _ => rfl) rfl (fun r1 M1 _ => ?_)
  refine hz_istore_n (L' := [(2, .int r1), (0, .ref (adr g 0)), (1, .int a0)]) (n := 7) hC dX2_outcomeOfRing_6 rfl (by decide) rfl rfl ?_
  refine hz_iload_n (a := 0) (n := 8) hC dX2_outcomeOfRing_7 rfl rfl rfl ?_
  refine hz_if_ne (tgt := 28) (n := 11) hC dX2_outcomeOfRing_8 (by decide) rfl (fun _ => ?_) (fun _ => ?_)
  · refine hz_aload_n (a := 1) (n := 12) hC dX2_outcomeOfRing_11 rfl rfl rfl ?_
    refine hz_iload_n (a := 2) (n := 13) hC dX2_outcomeOfRing_12 rfl rfl rfl ?_
    refine hz_iconst (v := (0 : Int32)) (n := 14) hC dX2_outcomeOfRing_13 (by decide +kernel) rfl ?_
    refine hz_callV (k := 2) (As := [.int a0, .int (0 : Int32)]) (st := []) (S1 := fun r => .int r :: []) (n := 17) hC (c_X2_get l g a0 (0 : Int32) hg  M1) kv_X2_get wd_2_137 hI dX2_outcomeOfRing_14 rfl (hI.1 g 0 hg (by decide)) (he_X2 hg) rfl rfl rfl (Nat.le_of_ble_eq_true rfl) ⟨Nat.le_of_ble_eq_true rfl, Nat.le_of_ble_eq_true rfl⟩ ⟨Nat.zero_le _, Nat.zero_le _⟩ (fun _ => rfl) rfl (fun r2 M2 _ => ?_)
    refine hz_aload_n (a := 1) (n := 18) hC dX2_outcomeOfRing_17 rfl rfl rfl ?_
    refine fg_X2_21 (n := 21) hC hg hI dX2_outcomeOfRing_18 rfl ?_
    refine hz_iconst (v := (5 : Int32)) (n := 22) hC dX2_outcomeOfRing_21 (by decide +kernel) rfl ?_
    refine hz_ialdc (k := 5) (n := 23) hC (by decide +kernel) (by decide) dX2_outcomeOfRing_22 (hI.1 g 1 hg (by decide)) (ha_h1 hg) rfl ?_
    refine hz_icmp_gt (tgt := 28) (n := 26) hC dX2_outcomeOfRing_23 (by decide) rfl (fun _ => ?_) (fun _ => ?_)
    · refine hz_L (L' := [(0, .ref (adr g 0)), (2, .int r1)]) [1, 0] rfl ?_
      exact j28 _ _
    · refine hz_iconst (v := (0 : Int32)) (n := 27) hC dX2_outcomeOfRing_26 (by decide +kernel) rfl ?_
      exact hz_iret hC hr dX2_outcomeOfRing_27
  · refine hz_L (L' := [(0, .ref (adr g 0)), (2, .int r1)]) [1, 0] rfl ?_
    exact j28 _ _
def F_X2_takeRing (g : Nat) (a0 : Int32) (a1 : Int32) (M : hp_M) : Option (Int32 × hp_M) := (hp_b (F_X2_outcomeOfRing g a0 M) (fun r1 M1 => (if r1 = (0 : Int32) then (hp_b (F_X2_setOut g a0 (0 : Int32) M1) (fun r2 M2 => (hp_b (F_X3_holdFor g a0 a1 M2) (fun _ M3 => (some (r1, M3)))))) else (if r1 = (1 : Int32) then (hp_b (F_X2_connect g a0 a1 (1 : Int32) M1) (fun _ M4 => (some (r1, M4)))) else (if r1 = (2 : Int32) then (hp_b (F_X6_write g a0 (M1 g 0 1) M1) (fun _ M5 => (some (r1, (hp_p M5 g 2 6 ((M5 g 2 6) + (1 : Int32))))))) else (some (r1, (hp_p M1 g 2 8 ((M1 g 2 8) + (1 : Int32))))))))))
set_option maxRecDepth 20000 in
set_option maxHeartbeats 4000000 in
theorem c_X2_takeRing (l : Launch) (g : Nat) (a0 : Int32) (a1 : Int32) (hg : g < 12) (M : hp_M) : hp_Ct l yX2_takeRing cX2_takeRing 4 (some .int) 2 hp_IC (fun adr adV => [.ref (adr g 0), .int a0, .int a1]) hp_oi M (F_X2_takeRing g a0 a1 M) := by
  refine hp_start "HallPhone$House" (fun adr adV => [(0, .ref (adr g 0)), (1, .int a0), (2, .int a1)]) (by decide) rfl (fun _ _ => by simp only [lg_sl]; exact Nat.le_of_ble_eq_true rfl) (fun _ _ => rfl) ?_
  intro p e s m args below meth c A D ids adr adV cA rep G0 hI hC hr
  unfold F_X2_takeRing
  refine hz_aload_n (a := 0) (n := 1) hC dX2_takeRing_0 rfl rfl rfl ?_
  refine hz_iload_n (a := 1) (n := 2) hC dX2_takeRing_1 rfl rfl rfl ?_
  refine hz_callV (k := 1) (As := [.int a0]) (st := []) (S1 := fun r => .int r :: []) (n := 5) hC (c_X2_outcomeOfRing l g a0 hg  M) kv_X2_outcomeOfRing wd_2_181 hI dX2_takeRing_2 rfl (hI.1 g 0 hg (by decide)) (he_X2 hg) rfl rfl rfl (Nat.le_of_ble_eq_true rfl) ⟨Nat.le_of_ble_eq_true rfl, Nat.le_of_ble_eq_true rfl⟩ ⟨Nat.zero_le _, Nat.zero_le _⟩ (fun _ => rfl) rfl (fun r1 M1 _ => ?_)
  refine hz_istore_n (L' := [(3, .int r1), (0, .ref (adr g 0)), (1, .int a0), (2, .int a1)]) (n := 6) hC dX2_takeRing_5 rfl (by decide) rfl rfl ?_
  refine hz_iload_n (a := 0) (n := 7) hC dX2_takeRing_6 rfl rfl rfl ?_
  refine hz_case (fun hk0 => ?_) (fun hk0 => ?_)
  · refine hz_tabIn (n := 32) hC hk0 dX2_takeRing_7 (by decide +kernel) (by decide +kernel) (by rfl) (by decide +kernel) ?_
    refine hz_aload_n (a := 1) (n := 33) hC dX2_takeRing_32 rfl rfl rfl ?_
    refine hz_iload_n (a := 2) (n := 34) hC dX2_takeRing_33 rfl rfl rfl ?_
    refine hz_iconst (v := (0 : Int32)) (n := 35) hC dX2_takeRing_34 (by decide +kernel) rfl ?_
    refine hz_callV (k := 2) (As := [.int a0, .int (0 : Int32)]) (st := []) (S1 := fun r => .int r :: []) (n := 38) hC (c_X2_setOut l g a0 (0 : Int32) hg  M1) kv_X2_setOut wd_2_157 hI dX2_takeRing_35 rfl (hI.1 g 0 hg (by decide)) (he_X2 hg) rfl rfl rfl (Nat.le_of_ble_eq_true rfl) ⟨Nat.le_of_ble_eq_true rfl, Nat.le_of_ble_eq_true rfl⟩ ⟨Nat.zero_le _, Nat.zero_le _⟩ (fun _ => rfl) rfl (fun r2 M2 _ => ?_)
    refine hz_pop (n := 39) hC dX2_takeRing_38 rfl rfl ?_
    refine hz_aload_n (a := 1) (n := 40) hC dX2_takeRing_39 rfl rfl rfl ?_
    refine fg_X2_37 (n := 43) hC hg hI dX2_takeRing_40 rfl ?_
    refine hz_iload_n (a := 2) (n := 44) hC dX2_takeRing_43 rfl rfl rfl ?_
    refine hz_iload_n (a := 3) (n := 45) hC dX2_takeRing_44 rfl rfl rfl ?_
    refine hz_callVN (k := 2) (As := [.int a0, .int a1]) (st := []) (S1 := fun _ => []) (n := 48) hC (c_X3_holdFor l g a0 a1 hg  M2) kv_X3_holdFor wd_2_185 hI dX2_takeRing_45 rfl (hI.1 g 5 hg (by decide)) (he_X3 hg) rfl rfl rfl (Nat.le_of_ble_eq_true rfl) ⟨Nat.le_of_ble_eq_true rfl, Nat.le_of_ble_eq_true rfl⟩ ⟨Nat.zero_le _, Nat.zero_le _⟩ (fun _ => rfl) rfl (fun r3 M3 _ => ?_)
    refine hz_goto (n := 98) hC dX2_takeRing_48 (by decide) ?_
    refine hz_iload_n (a := 0) (n := 99) hC dX2_takeRing_98 rfl rfl rfl ?_
    exact hz_iret hC hr dX2_takeRing_99
  refine hz_case (fun hk1 => ?_) (fun hk1 => ?_)
  · refine hz_tabIn (n := 51) hC hk1 dX2_takeRing_7 (by decide +kernel) (by decide +kernel) (by rfl) (by decide +kernel) ?_
    refine hz_aload_n (a := 1) (n := 52) hC dX2_takeRing_51 rfl rfl rfl ?_
    refine hz_iload_n (a := 2) (n := 53) hC dX2_takeRing_52 rfl rfl rfl ?_
    refine hz_iload_n (a := 3) (n := 54) hC dX2_takeRing_53 rfl rfl rfl ?_
    refine hz_iconst (v := (1 : Int32)) (n := 55) hC dX2_takeRing_54 (by decide +kernel) rfl ?_
    refine hz_callV (k := 3) (As := [.int a0, .int a1, .int (1 : Int32)]) (st := []) (S1 := fun _ => []) (n := 58) hC (c_X2_connect l g a0 a1 (1 : Int32) hg  M1) kv_X2_connect wd_2_189 hI dX2_takeRing_55 rfl (hI.1 g 0 hg (by decide)) (he_X2 hg) rfl rfl rfl (Nat.le_of_ble_eq_true rfl) ⟨Nat.le_of_ble_eq_true rfl, Nat.le_of_ble_eq_true rfl⟩ ⟨Nat.zero_le _, Nat.zero_le _⟩ (fun _ => rfl) rfl (fun r4 M4 _ => ?_)
    refine hz_goto (n := 98) hC dX2_takeRing_58 (by decide) ?_
    refine hz_iload_n (a := 0) (n := 99) hC dX2_takeRing_98 rfl rfl rfl ?_
    exact hz_iret hC hr dX2_takeRing_99
  refine hz_case (fun hk2 => ?_) (fun hk2 => ?_)
  · refine hz_tabIn (n := 61) hC hk2 dX2_takeRing_7 (by decide +kernel) (by decide +kernel) (by rfl) (by decide +kernel) ?_
    refine hz_aload_n (a := 1) (n := 62) hC dX2_takeRing_61 rfl rfl rfl ?_
    refine fg_X2_51 (n := 65) hC hg hI dX2_takeRing_62 rfl ?_
    refine hz_iload_n (a := 2) (n := 66) hC dX2_takeRing_65 rfl rfl rfl ?_
    refine hz_aload_n (a := 1) (n := 67) hC dX2_takeRing_66 rfl rfl rfl ?_
    refine fg_X2_15 (n := 70) hC hg hI dX2_takeRing_67 rfl ?_
    refine hz_callVN (k := 2) (As := [.int a0, .int (M1 g 0 1)]) (st := []) (S1 := fun _ => []) (n := 73) hC (c_X6_write l g a0 (M1 g 0 1) hg  M1) kv_X6_write wd_2_197 hI dX2_takeRing_70 rfl (hI.1 g 8 hg (by decide)) (he_X6 hg) rfl rfl rfl (Nat.le_of_ble_eq_true rfl) ⟨Nat.le_of_ble_eq_true rfl, Nat.le_of_ble_eq_true rfl⟩ ⟨Nat.zero_le _, Nat.zero_le _⟩ (fun _ => rfl) rfl (fun r5 M5 _ => ?_)
    refine hz_aload_n (a := 1) (n := 74) hC dX2_takeRing_73 rfl rfl rfl ?_
    refine fg_X2_25 (n := 77) hC hg hI dX2_takeRing_74 rfl ?_
    refine hz_bipush (v := (6 : Int32)) (n := 79) hC dX2_takeRing_77 (by decide +kernel) rfl ?_
    refine hz_dup2 (n := 80) hC dX2_takeRing_79 rfl rfl rfl ?_
    refine hz_ialdc (k := 6) (n := 81) hC (by decide +kernel) (by decide) dX2_takeRing_80 (hI.1 g 2 hg (by decide)) (ha_h2 hg) rfl ?_
    refine hz_iconst (v := (1 : Int32)) (n := 82) hC dX2_takeRing_81 (by decide +kernel) rfl ?_
    refine hz_iadd (n := 83) hC dX2_takeRing_82 rfl ?_
    refine hz_iastc (k := 6) (n := 84) hC (by decide +kernel) (by decide) dX2_takeRing_83 (hI.1 g 2 hg (by decide)) (ha_h2 hg) rfl ?_
    refine hz_goto (n := 98) hC dX2_takeRing_84 (by decide) ?_
    refine hz_iload_n (a := 0) (n := 99) hC dX2_takeRing_98 rfl rfl rfl ?_
    exact hz_iret hC hr dX2_takeRing_99
  refine hz_tabOut (n := 87) hC (hp_out 3 (by decide) (fun k hk => by
    rcases (show k = 0 ∨ k = 1 ∨ k = 2 by omega) with rfl | rfl | rfl
    · exact fun e => hk0 (Int32.toInt_inj.mp (e.trans (by decide +kernel)))
    · exact fun e => hk1 (Int32.toInt_inj.mp (e.trans (by decide +kernel)))
    · exact fun e => hk2 (Int32.toInt_inj.mp (e.trans (by decide +kernel)))
    )) dX2_takeRing_7 (by decide +kernel) ?_
  refine hz_aload_n (a := 1) (n := 88) hC dX2_takeRing_87 rfl rfl rfl ?_
  refine fg_X2_25 (n := 91) hC hg hI dX2_takeRing_88 rfl ?_
  refine hz_bipush (v := (8 : Int32)) (n := 93) hC dX2_takeRing_91 (by decide +kernel) rfl ?_
  refine hz_dup2 (n := 94) hC dX2_takeRing_93 rfl rfl rfl ?_
  refine hz_ialdc (k := 8) (n := 95) hC (by decide +kernel) (by decide) dX2_takeRing_94 (hI.1 g 2 hg (by decide)) (ha_h2 hg) rfl ?_
  refine hz_iconst (v := (1 : Int32)) (n := 96) hC dX2_takeRing_95 (by decide +kernel) rfl ?_
  refine hz_iadd (n := 97) hC dX2_takeRing_96 rfl ?_
  refine hz_iastc (k := 8) (n := 98) hC (by decide +kernel) (by decide) dX2_takeRing_97 (hI.1 g 2 hg (by decide)) (ha_h2 hg) rfl ?_
  refine hz_iload_n (a := 0) (n := 99) hC dX2_takeRing_98 rfl rfl rfl ?_
  exact hz_iret hC hr dX2_takeRing_99
def F_X2_perform (g : Nat) (v0 : Nat) (a1 : Int32) (a2 : Int32) (M : hp_M) : Option (Int32 × hp_M) := (hp_b (F_Jx29ce0_ordinal_8abf5 v0 M) (fun r1 M1 => (if r1 < 0 ∨ 12 ≤ (r1).toNatClampNeg then none else (if (hp_sm.getD (r1).toNatClampNeg 0) = (1 : Int32) then (hp_b (F_X2_setOut g a1 a2 M1) (fun r2 M2 => (some (r2, M2)))) else (if (hp_sm.getD (r1).toNatClampNeg 0) = (2 : Int32) then (hp_b (F_X2_giveUp g a1 M1) (fun r3 M3 => (some (r3, M3)))) else (if (hp_sm.getD (r1).toNatClampNeg 0) = (3 : Int32) then (hp_b (F_X2_endCall g M1) (fun r4 M4 => (some (r4, M4)))) else (if (hp_sm.getD (r1).toNatClampNeg 0) = (4 : Int32) then (hp_b (F_X2_takeRing g a1 a2 M1) (fun r5 M5 => (some (r5, M5)))) else (if (hp_sm.getD (r1).toNatClampNeg 0) = (5 : Int32) then (hp_b (F_X2_takeMoney g a1 a2 M1) (fun r6 M6 => (some (r6, M6)))) else (if (hp_sm.getD (r1).toNatClampNeg 0) = (6 : Int32) then (hp_b (F_X2_letPass g a2 M1) (fun r7 M7 => (some (r7, M7)))) else (hp_b (F_X2_changeSetting g (hp_vset.getD v0 0) a2 M1) (fun r8 M8 => (some (r8, M8)))))))))))))
set_option maxRecDepth 20000 in
set_option maxHeartbeats 4000000 in
theorem c_X2_perform (l : Launch) (g : Nat) (v0 : Nat) (a1 : Int32) (a2 : Int32) (hg : g < 12) (hv0 : v0 < 12) (M : hp_M) : hp_Ct l yX2_perform cX2_perform 4 (some .int) 4 hp_IC (fun adr adV => [.ref (adr g 0), .ref (adV v0), .int a1, .int a2]) hp_oi M (F_X2_perform g v0 a1 a2 M) := by
  refine hp_start "HallPhone$House" (fun adr adV => [(0, .ref (adr g 0)), (1, .ref (adV v0)), (2, .int a1), (3, .int a2)]) (by decide) rfl (fun _ _ => by simp only [lg_sl]; exact Nat.le_of_ble_eq_true rfl) (fun _ _ => rfl) ?_
  intro p e s m args below meth c A D ids adr adV cA rep G0 hI hC hr
  unfold F_X2_perform
  refine hz_gets (k := 13) (n := 3) hC dX2_perform_0 wd_2_142 wd_1_19.1 (by decide +kernel) wd_2_141 rfl ?_
  refine hz_aload_n (a := 1) (n := 4) hC dX2_perform_3 rfl rfl rfl ?_
  refine hz_callOU (k := 0) (C := "HallPhone$Verb") (x := ⟨"HallPhone$Verb", "ordinal", "()I"⟩) (As := []) (st := [.ref (adV 13)]) (S1 := fun r => .int r :: [.ref (adV 13)]) (n := 7) hC (c_Jx29ce0_ordinal_8abf5 l v0 hv0  M) rfl hp_ordw ⟨by decide, by decide, by decide +kernel⟩ (by decide) trivial dX2_perform_4 rfl (hp_v_O hC.2.2.2.2.1 hv0) rfl rfl (Nat.le_of_ble_eq_true rfl) ⟨Nat.le_of_ble_eq_true rfl, Nat.le_of_ble_eq_true rfl⟩ ⟨Nat.zero_le _, Nat.zero_le _⟩ (fun _ => rfl) rfl (fun r1 M1 _ => ?_)
  refine hz_tald (n := 8) hC (hp_sm_T hC.2.2.2.2.1) dX2_perform_7 rfl (fun _ => ?_)
  refine hz_case (fun hk1 => ?_) (fun hk1 => ?_)
  · refine hz_tabIn (n := 48) hC hk1 dX2_perform_8 (by decide +kernel) (by decide +kernel) (by rfl) (by decide +kernel) ?_
    refine hz_aload_n (a := 0) (n := 49) hC dX2_perform_48 rfl rfl rfl ?_
    refine hz_iload_n (a := 2) (n := 50) hC dX2_perform_49 rfl rfl rfl ?_
    refine hz_iload_n (a := 3) (n := 51) hC dX2_perform_50 rfl rfl rfl ?_
    refine hz_callV (k := 2) (As := [.int a1, .int a2]) (st := []) (S1 := fun r => .int r :: []) (n := 54) hC (c_X2_setOut l g a1 a2 hg  M1) kv_X2_setOut wd_2_157 hI dX2_perform_51 rfl (hI.1 g 0 hg (by decide)) (he_X2 hg) rfl rfl rfl (Nat.le_of_ble_eq_true rfl) ⟨Nat.le_of_ble_eq_true rfl, Nat.le_of_ble_eq_true rfl⟩ ⟨Nat.zero_le _, Nat.zero_le _⟩ (fun _ => rfl) rfl (fun r2 M2 _ => ?_)
    exact hz_iret hC hr dX2_perform_54
  refine hz_case (fun hk2 => ?_) (fun hk2 => ?_)
  · refine hz_tabIn (n := 55) hC hk2 dX2_perform_8 (by decide +kernel) (by decide +kernel) (by rfl) (by decide +kernel) ?_
    refine hz_aload_n (a := 0) (n := 56) hC dX2_perform_55 rfl rfl rfl ?_
    refine hz_iload_n (a := 2) (n := 57) hC dX2_perform_56 rfl rfl rfl ?_
    refine hz_callV (k := 1) (As := [.int a1]) (st := []) (S1 := fun r => .int r :: []) (n := 60) hC (c_X2_giveUp l g a1 hg  M1) kv_X2_giveUp wd_2_161 hI dX2_perform_57 rfl (hI.1 g 0 hg (by decide)) (he_X2 hg) rfl rfl rfl (Nat.le_of_ble_eq_true rfl) ⟨Nat.le_of_ble_eq_true rfl, Nat.le_of_ble_eq_true rfl⟩ ⟨Nat.zero_le _, Nat.zero_le _⟩ (fun _ => rfl) rfl (fun r3 M3 _ => ?_)
    exact hz_iret hC hr dX2_perform_60
  refine hz_case (fun hk3 => ?_) (fun hk3 => ?_)
  · refine hz_tabIn (n := 61) hC hk3 dX2_perform_8 (by decide +kernel) (by decide +kernel) (by rfl) (by decide +kernel) ?_
    refine hz_aload_n (a := 0) (n := 62) hC dX2_perform_61 rfl rfl rfl ?_
    refine hz_callV (k := 0) (As := []) (st := []) (S1 := fun r => .int r :: []) (n := 65) hC (c_X2_endCall l g hg  M1) kv_X2_endCall wd_2_169 hI dX2_perform_62 rfl (hI.1 g 0 hg (by decide)) (he_X2 hg) rfl rfl rfl (Nat.le_of_ble_eq_true rfl) ⟨Nat.le_of_ble_eq_true rfl, Nat.le_of_ble_eq_true rfl⟩ ⟨Nat.zero_le _, Nat.zero_le _⟩ (fun _ => rfl) rfl (fun r4 M4 _ => ?_)
    exact hz_iret hC hr dX2_perform_65
  refine hz_case (fun hk4 => ?_) (fun hk4 => ?_)
  · refine hz_tabIn (n := 66) hC hk4 dX2_perform_8 (by decide +kernel) (by decide +kernel) (by rfl) (by decide +kernel) ?_
    refine hz_aload_n (a := 0) (n := 67) hC dX2_perform_66 rfl rfl rfl ?_
    refine hz_iload_n (a := 2) (n := 68) hC dX2_perform_67 rfl rfl rfl ?_
    refine hz_iload_n (a := 3) (n := 69) hC dX2_perform_68 rfl rfl rfl ?_
    refine hz_callV (k := 2) (As := [.int a1, .int a2]) (st := []) (S1 := fun r => .int r :: []) (n := 72) hC (c_X2_takeRing l g a1 a2 hg  M1) kv_X2_takeRing wd_2_177 hI dX2_perform_69 rfl (hI.1 g 0 hg (by decide)) (he_X2 hg) rfl rfl rfl (Nat.le_of_ble_eq_true rfl) ⟨Nat.le_of_ble_eq_true rfl, Nat.le_of_ble_eq_true rfl⟩ ⟨Nat.zero_le _, Nat.zero_le _⟩ (fun _ => rfl) rfl (fun r5 M5 _ => ?_)
    exact hz_iret hC hr dX2_perform_72
  refine hz_case (fun hk5 => ?_) (fun hk5 => ?_)
  · refine hz_tabIn (n := 73) hC hk5 dX2_perform_8 (by decide +kernel) (by decide +kernel) (by rfl) (by decide +kernel) ?_
    refine hz_aload_n (a := 0) (n := 74) hC dX2_perform_73 rfl rfl rfl ?_
    refine hz_iload_n (a := 2) (n := 75) hC dX2_perform_74 rfl rfl rfl ?_
    refine hz_iload_n (a := 3) (n := 76) hC dX2_perform_75 rfl rfl rfl ?_
    refine hz_callV (k := 2) (As := [.int a1, .int a2]) (st := []) (S1 := fun r => .int r :: []) (n := 79) hC (c_X2_takeMoney l g a1 a2 hg  M1) kv_X2_takeMoney wd_2_201 hI dX2_perform_76 rfl (hI.1 g 0 hg (by decide)) (he_X2 hg) rfl rfl rfl (Nat.le_of_ble_eq_true rfl) ⟨Nat.le_of_ble_eq_true rfl, Nat.le_of_ble_eq_true rfl⟩ ⟨Nat.zero_le _, Nat.zero_le _⟩ (fun _ => rfl) rfl (fun r6 M6 _ => ?_)
    exact hz_iret hC hr dX2_perform_79
  refine hz_case (fun hk6 => ?_) (fun hk6 => ?_)
  · refine hz_tabIn (n := 80) hC hk6 dX2_perform_8 (by decide +kernel) (by decide +kernel) (by rfl) (by decide +kernel) ?_
    refine hz_aload_n (a := 0) (n := 81) hC dX2_perform_80 rfl rfl rfl ?_
    refine hz_iload_n (a := 3) (n := 82) hC dX2_perform_81 rfl rfl rfl ?_
    refine hz_callV (k := 1) (As := [.int a2]) (st := []) (S1 := fun r => .int r :: []) (n := 85) hC (c_X2_letPass l g a2 hg  M1) kv_X2_letPass wd_2_205 hI dX2_perform_82 rfl (hI.1 g 0 hg (by decide)) (he_X2 hg) rfl rfl rfl (Nat.le_of_ble_eq_true rfl) ⟨Nat.le_of_ble_eq_true rfl, Nat.le_of_ble_eq_true rfl⟩ ⟨Nat.zero_le _, Nat.zero_le _⟩ (fun _ => rfl) rfl (fun r7 M7 _ => ?_)
    exact hz_iret hC hr dX2_perform_85
  refine hz_tabOut (n := 86) hC (hp_out 6 (by decide) (fun k hk => by
    rcases (show k = 0 ∨ k = 1 ∨ k = 2 ∨ k = 3 ∨ k = 4 ∨ k = 5 by omega) with rfl | rfl | rfl | rfl | rfl | rfl
    · exact fun e => hk1 (Int32.toInt_inj.mp (e.trans (by decide +kernel)))
    · exact fun e => hk2 (Int32.toInt_inj.mp (e.trans (by decide +kernel)))
    · exact fun e => hk3 (Int32.toInt_inj.mp (e.trans (by decide +kernel)))
    · exact fun e => hk4 (Int32.toInt_inj.mp (e.trans (by decide +kernel)))
    · exact fun e => hk5 (Int32.toInt_inj.mp (e.trans (by decide +kernel)))
    · exact fun e => hk6 (Int32.toInt_inj.mp (e.trans (by decide +kernel)))
    )) dX2_perform_8 (by decide +kernel) ?_
  refine hz_aload_n (a := 0) (n := 87) hC dX2_perform_86 rfl rfl rfl ?_
  refine hz_aload_n (a := 1) (n := 88) hC dX2_perform_87 rfl rfl rfl ?_
  refine hz_vgetN (n := 91) hC dX2_perform_88 (hp_vset_OF hC.2.2.2.2.1 hv0) wd_4_153 rfl ?_
  refine hz_iload_n (a := 3) (n := 92) hC dX2_perform_91 rfl rfl rfl ?_
  refine hz_callV (k := 2) (As := [.int (hp_vset.getD v0 0), .int a2]) (st := []) (S1 := fun r => .int r :: []) (n := 95) hC (c_X2_changeSetting l g (hp_vset.getD v0 0) a2 hg  M1) kv_X2_changeSetting wd_3_13 hI dX2_perform_92 rfl (hI.1 g 0 hg (by decide)) (he_X2 hg) rfl rfl rfl (Nat.le_of_ble_eq_true rfl) ⟨Nat.le_of_ble_eq_true rfl, Nat.le_of_ble_eq_true rfl⟩ ⟨Nat.zero_le _, Nat.zero_le _⟩ (fun _ => rfl) rfl (fun r8 M8 _ => ?_)
  exact hz_iret hC hr dX2_perform_95
