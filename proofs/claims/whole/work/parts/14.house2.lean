def F_X2_clear (g : Nat) (M : hp_M) : Option (Unit × hp_M) := (hp_b (F_X8_copyRowT g 1 (hp_p (hp_p (hp_p M g 0 0 (0 : Int32)) g 0 1 (0 : Int32)) g 0 2 (0 : Int32))) (fun _ M1 => (hp_b (F_J7_fill_53178 g 2 10 (0 : Int32) M1) (fun _ M2 => (hp_b (F_J7_fill_53178 g 3 110 (0 : Int32) M2) (fun _ M3 => (hp_b (F_J7_fill_53178 g 4 100 (0 : Int32) M3) (fun _ M4 => (hp_b (F_X3_putDown g M4) (fun _ M5 => (some ((), (hp_p (hp_p M5 g 6 1 (0 : Int32)) g 8 2 (0 : Int32))))))))))))))
set_option maxRecDepth 20000 in
set_option maxHeartbeats 4000000 in
theorem c_X2_clear (l : Launch) (g : Nat) (hg : g < 12) (M : hp_M) : hp_Ct l yX2_clear cX2_clear 1 none 2 hp_IC (fun adr adV => [.ref (adr g 0)]) hp_oo M (F_X2_clear g M) := by
  refine hp_start "HallPhone$House" (fun adr adV => [(0, .ref (adr g 0))]) (by decide) rfl (fun _ _ => by simp only [lg_sl]; exact Nat.le_of_ble_eq_true rfl) (fun _ _ => rfl) ?_
  intro p e s m args below meth c A D ids adr adV cA rep G0 hI hC hr
  unfold F_X2_clear
  refine hz_aload_n (a := 0) (n := 1) hC dX2_clear_0 rfl rfl rfl ?_
  refine hz_iconst (v := (0 : Int32)) (n := 2) hC dX2_clear_1 (by decide +kernel) rfl ?_
  refine fp_X2_9 (n := 5) hC hg hI (0 : Int32) dX2_clear_2 rfl ?_
  refine hz_aload_n (a := 0) (n := 6) hC dX2_clear_5 rfl rfl rfl ?_
  refine hz_iconst (v := (0 : Int32)) (n := 7) hC dX2_clear_6 (by decide +kernel) rfl ?_
  refine fp_X2_15 (n := 10) hC hg hI (0 : Int32) dX2_clear_7 rfl ?_
  refine hz_aload_n (a := 0) (n := 11) hC dX2_clear_10 rfl rfl rfl ?_
  refine hz_iconst (v := (0 : Int32)) (n := 12) hC dX2_clear_11 (by decide +kernel) rfl ?_
  refine fp_X2_18 (n := 15) hC hg hI (0 : Int32) dX2_clear_12 rfl ?_
  refine hz_getsN (k := 12) (n := 18) hC dX2_clear_15 wd_2_66 wd_1_1.1 (by decide +kernel) wd_2_65 rfl ?_
  refine hz_aload_n (a := 0) (n := 19) hC dX2_clear_18 rfl rfl rfl ?_
  refine fg_X2_21 (n := 22) hC hg hI dX2_clear_19 rfl ?_
  refine hz_callSN (k := 2) (As := [.ref (adV 12), .ref (adr g 1)]) (st := []) (S1 := fun _ => []) (n := 25) hC (c_X8_copyRowT l g 1 (fun _ h => (h.1 g 1 hg (by decide))) (fun _ _ _ f => (ha_h1 hg) f) (hp_p (hp_p (hp_p M g 0 0 (0 : Int32)) g 0 1 (0 : Int32)) g 0 2 (0 : Int32))) ks_X8_copyRow wd_2_67 hI dX2_clear_22 rfl rfl rfl (Nat.le_of_ble_eq_true rfl) ⟨Nat.le_of_ble_eq_true rfl, Nat.le_of_ble_eq_true rfl⟩ ⟨Nat.zero_le _, Nat.zero_le _⟩ (fun _ => rfl) rfl (fun r1 M1 _ => ?_)
  refine hz_aload_n (a := 0) (n := 26) hC dX2_clear_25 rfl rfl rfl ?_
  refine fg_X2_25 (n := 29) hC hg hI dX2_clear_26 rfl ?_
  refine hz_iconst (v := (0 : Int32)) (n := 30) hC dX2_clear_29 (by decide +kernel) rfl ?_
  refine hz_callS (k := 2) (As := [.ref (adr g 2), .int (0 : Int32)]) (st := []) (S1 := fun _ => []) (n := 33) hC (c_J7_fill_53178 l g 2 10 (0 : Int32)  (fun _ h => (h.1 g 2 hg (by decide))) (fun _ _ _ f => (ha_h2 hg) f) M1) ks_J7_fill_53178 wd_2_74 hI dX2_clear_30 rfl rfl rfl (Nat.le_of_ble_eq_true rfl) ⟨Nat.le_of_ble_eq_true rfl, Nat.le_of_ble_eq_true rfl⟩ ⟨Nat.zero_le _, Nat.zero_le _⟩ (fun _ => rfl) rfl (fun r2 M2 _ => ?_)
  refine hz_aload_n (a := 0) (n := 34) hC dX2_clear_33 rfl rfl rfl ?_
  refine fg_X2_28 (n := 37) hC hg hI dX2_clear_34 rfl ?_
  refine hz_iconst (v := (0 : Int32)) (n := 38) hC dX2_clear_37 (by decide +kernel) rfl ?_
  refine hz_callS (k := 2) (As := [.ref (adr g 3), .int (0 : Int32)]) (st := []) (S1 := fun _ => []) (n := 41) hC (c_J7_fill_53178 l g 3 110 (0 : Int32)  (fun _ h => (h.1 g 3 hg (by decide))) (fun _ _ _ f => (ha_h3 hg) f) M2) ks_J7_fill_53178 wd_2_74 hI dX2_clear_38 rfl rfl rfl (Nat.le_of_ble_eq_true rfl) ⟨Nat.le_of_ble_eq_true rfl, Nat.le_of_ble_eq_true rfl⟩ ⟨Nat.zero_le _, Nat.zero_le _⟩ (fun _ => rfl) rfl (fun r3 M3 _ => ?_)
  refine hz_aload_n (a := 0) (n := 42) hC dX2_clear_41 rfl rfl rfl ?_
  refine fg_X2_31 (n := 45) hC hg hI dX2_clear_42 rfl ?_
  refine hz_iconst (v := (0 : Int32)) (n := 46) hC dX2_clear_45 (by decide +kernel) rfl ?_
  refine hz_callS (k := 2) (As := [.ref (adr g 4), .int (0 : Int32)]) (st := []) (S1 := fun _ => []) (n := 49) hC (c_J7_fill_53178 l g 4 100 (0 : Int32)  (fun _ h => (h.1 g 4 hg (by decide))) (fun _ _ _ f => (ha_h4 hg) f) M3) ks_J7_fill_53178 wd_2_74 hI dX2_clear_46 rfl rfl rfl (Nat.le_of_ble_eq_true rfl) ⟨Nat.le_of_ble_eq_true rfl, Nat.le_of_ble_eq_true rfl⟩ ⟨Nat.zero_le _, Nat.zero_le _⟩ (fun _ => rfl) rfl (fun r4 M4 _ => ?_)
  refine hz_aload_n (a := 0) (n := 50) hC dX2_clear_49 rfl rfl rfl ?_
  refine fg_X2_37 (n := 53) hC hg hI dX2_clear_50 rfl ?_
  refine hz_callVN (k := 0) (As := []) (st := []) (S1 := fun _ => []) (n := 56) hC (c_X3_putDown l g hg  M4) kv_X3_putDown wd_2_77 hI dX2_clear_53 rfl (hI.1 g 5 hg (by decide)) (he_X3 hg) rfl rfl rfl (Nat.le_of_ble_eq_true rfl) ⟨Nat.le_of_ble_eq_true rfl, Nat.le_of_ble_eq_true rfl⟩ ⟨Nat.zero_le _, Nat.zero_le _⟩ (fun _ => rfl) rfl (fun r5 M5 _ => ?_)
  refine hz_aload_n (a := 0) (n := 57) hC dX2_clear_56 rfl rfl rfl ?_
  refine fg_X2_44 (n := 60) hC hg hI dX2_clear_57 rfl ?_
  refine hz_iconst (v := (0 : Int32)) (n := 61) hC dX2_clear_60 (by decide +kernel) rfl ?_
  refine fp_X2_71 (n := 64) hC hg hI (0 : Int32) dX2_clear_61 rfl ?_
  refine hz_aload_n (a := 0) (n := 65) hC dX2_clear_64 rfl rfl rfl ?_
  refine fg_X2_51 (n := 68) hC hg hI dX2_clear_65 rfl ?_
  refine hz_iconst (v := (0 : Int32)) (n := 69) hC dX2_clear_68 (by decide +kernel) rfl ?_
  refine fp_X2_74 (n := 72) hC hg hI (0 : Int32) dX2_clear_69 rfl ?_
  exact hz_vret hC hr dX2_clear_72
def F_X3_copyFrom (g : Nat) (b0 : Nat) (M : hp_M) : Option (Unit × hp_M) := (if ((hp_p (hp_p (hp_p (hp_p M g 5 0 (M b0 5 0)) g 5 1 ((hp_p M g 5 0 (M b0 5 0)) b0 5 1)) g 5 2 ((hp_p (hp_p M g 5 0 (M b0 5 0)) g 5 1 ((hp_p M g 5 0 (M b0 5 0)) b0 5 1)) b0 5 2)) g 5 3 ((hp_p (hp_p (hp_p M g 5 0 (M b0 5 0)) g 5 1 ((hp_p M g 5 0 (M b0 5 0)) b0 5 1)) g 5 2 ((hp_p (hp_p M g 5 0 (M b0 5 0)) g 5 1 ((hp_p M g 5 0 (M b0 5 0)) b0 5 1)) b0 5 2)) b0 5 3)) b0 5 4) = 0 ∨ ((hp_p (hp_p (hp_p (hp_p M g 5 0 (M b0 5 0)) g 5 1 ((hp_p M g 5 0 (M b0 5 0)) b0 5 1)) g 5 2 ((hp_p (hp_p M g 5 0 (M b0 5 0)) g 5 1 ((hp_p M g 5 0 (M b0 5 0)) b0 5 1)) b0 5 2)) g 5 3 ((hp_p (hp_p (hp_p M g 5 0 (M b0 5 0)) g 5 1 ((hp_p M g 5 0 (M b0 5 0)) b0 5 1)) g 5 2 ((hp_p (hp_p M g 5 0 (M b0 5 0)) g 5 1 ((hp_p M g 5 0 (M b0 5 0)) b0 5 1)) b0 5 2)) b0 5 3)) b0 5 4) = 1 then (some ((), (hp_p (hp_p (hp_p (hp_p (hp_p M g 5 0 (M b0 5 0)) g 5 1 ((hp_p M g 5 0 (M b0 5 0)) b0 5 1)) g 5 2 ((hp_p (hp_p M g 5 0 (M b0 5 0)) g 5 1 ((hp_p M g 5 0 (M b0 5 0)) b0 5 1)) b0 5 2)) g 5 3 ((hp_p (hp_p (hp_p M g 5 0 (M b0 5 0)) g 5 1 ((hp_p M g 5 0 (M b0 5 0)) b0 5 1)) g 5 2 ((hp_p (hp_p M g 5 0 (M b0 5 0)) g 5 1 ((hp_p M g 5 0 (M b0 5 0)) b0 5 1)) b0 5 2)) b0 5 3)) g 5 4 ((hp_p (hp_p (hp_p (hp_p M g 5 0 (M b0 5 0)) g 5 1 ((hp_p M g 5 0 (M b0 5 0)) b0 5 1)) g 5 2 ((hp_p (hp_p M g 5 0 (M b0 5 0)) g 5 1 ((hp_p M g 5 0 (M b0 5 0)) b0 5 1)) b0 5 2)) g 5 3 ((hp_p (hp_p (hp_p M g 5 0 (M b0 5 0)) g 5 1 ((hp_p M g 5 0 (M b0 5 0)) b0 5 1)) g 5 2 ((hp_p (hp_p M g 5 0 (M b0 5 0)) g 5 1 ((hp_p M g 5 0 (M b0 5 0)) b0 5 1)) b0 5 2)) b0 5 3)) b0 5 4)))) else none)
set_option maxRecDepth 20000 in
set_option maxHeartbeats 4000000 in
theorem c_X3_copyFrom (l : Launch) (g : Nat) (b0 : Nat) (hg : g < 12) (hb0 : b0 < 12) (M : hp_M) : hp_Ct l yX3_copyFrom cX3_copyFrom 2 none 0 hp_IC (fun adr adV => [.ref (adr g 5), .ref (adr b0 5)]) hp_oo M (F_X3_copyFrom g b0 M) := by
  refine hp_start "HallPhone$Phone" (fun adr adV => [(0, .ref (adr g 5)), (1, .ref (adr b0 5))]) (by decide) rfl (fun _ _ => by simp only [lg_sl]; exact Nat.le_of_ble_eq_true rfl) (fun _ _ => rfl) ?_
  intro p e s m args below meth c A D ids adr adV cA rep G0 hI hC hr
  unfold F_X3_copyFrom
  refine hz_aload_n (a := 0) (n := 1) hC dX3_copyFrom_0 rfl rfl rfl ?_
  refine hz_aload_n (a := 1) (n := 2) hC dX3_copyFrom_1 rfl rfl rfl ?_
  refine fg_X3_9 (n := 5) hC hb0 hI dX3_copyFrom_2 rfl ?_
  refine fp_X3_9 (n := 8) hC hg hI (M b0 5 0) dX3_copyFrom_5 rfl ?_
  refine hz_aload_n (a := 0) (n := 9) hC dX3_copyFrom_8 rfl rfl rfl ?_
  refine hz_aload_n (a := 1) (n := 10) hC dX3_copyFrom_9 rfl rfl rfl ?_
  refine fg_X3_15 (n := 13) hC hb0 hI dX3_copyFrom_10 rfl ?_
  refine fp_X3_15 (n := 16) hC hg hI ((hp_p M g 5 0 (M b0 5 0)) b0 5 1) dX3_copyFrom_13 rfl ?_
  refine hz_aload_n (a := 0) (n := 17) hC dX3_copyFrom_16 rfl rfl rfl ?_
  refine hz_aload_n (a := 1) (n := 18) hC dX3_copyFrom_17 rfl rfl rfl ?_
  refine fg_X3_18 (n := 21) hC hb0 hI dX3_copyFrom_18 rfl ?_
  refine fp_X3_18 (n := 24) hC hg hI ((hp_p (hp_p M g 5 0 (M b0 5 0)) g 5 1 ((hp_p M g 5 0 (M b0 5 0)) b0 5 1)) b0 5 2) dX3_copyFrom_21 rfl ?_
  refine hz_aload_n (a := 0) (n := 25) hC dX3_copyFrom_24 rfl rfl rfl ?_
  refine hz_aload_n (a := 1) (n := 26) hC dX3_copyFrom_25 rfl rfl rfl ?_
  refine fg_X3_21 (n := 29) hC hb0 hI dX3_copyFrom_26 rfl ?_
  refine fp_X3_21 (n := 32) hC hg hI ((hp_p (hp_p (hp_p M g 5 0 (M b0 5 0)) g 5 1 ((hp_p M g 5 0 (M b0 5 0)) b0 5 1)) g 5 2 ((hp_p (hp_p M g 5 0 (M b0 5 0)) g 5 1 ((hp_p M g 5 0 (M b0 5 0)) b0 5 1)) b0 5 2)) b0 5 3) dX3_copyFrom_29 rfl ?_
  refine hz_aload_n (a := 0) (n := 33) hC dX3_copyFrom_32 rfl rfl rfl ?_
  refine hz_aload_n (a := 1) (n := 34) hC dX3_copyFrom_33 rfl rfl rfl ?_
  refine fg_X3_24 (n := 37) hC hb0 hI dX3_copyFrom_34 rfl ?_
  refine hz_case (fun hb => ?_) (fun _ => hz_none hC)
  refine fp_X3_24 (n := 40) hC hg hI ((hp_p (hp_p (hp_p (hp_p M g 5 0 (M b0 5 0)) g 5 1 ((hp_p M g 5 0 (M b0 5 0)) b0 5 1)) g 5 2 ((hp_p (hp_p M g 5 0 (M b0 5 0)) g 5 1 ((hp_p M g 5 0 (M b0 5 0)) b0 5 1)) b0 5 2)) g 5 3 ((hp_p (hp_p (hp_p M g 5 0 (M b0 5 0)) g 5 1 ((hp_p M g 5 0 (M b0 5 0)) b0 5 1)) g 5 2 ((hp_p (hp_p M g 5 0 (M b0 5 0)) g 5 1 ((hp_p M g 5 0 (M b0 5 0)) b0 5 1)) b0 5 2)) b0 5 3)) b0 5 4) hb dX3_copyFrom_37 rfl ?_
  exact hz_vret hC hr dX3_copyFrom_40
def F_X4_copyFrom (g : Nat) (b0 : Nat) (M : hp_M) : Option (Unit × hp_M) := (hp_b (F_X8_copyRow b0 7 g 7 10 M) (fun _ M1 => (some ((), (hp_p M1 g 6 1 (M1 b0 6 1))))))
set_option maxRecDepth 20000 in
set_option maxHeartbeats 4000000 in
theorem c_X4_copyFrom (l : Launch) (g : Nat) (b0 : Nat) (hg : g < 12) (hb0 : b0 < 12) (M : hp_M) : hp_Ct l yX4_copyFrom cX4_copyFrom 2 none 2 hp_IC (fun adr adV => [.ref (adr g 6), .ref (adr b0 6)]) hp_oo M (F_X4_copyFrom g b0 M) := by
  refine hp_start "HallPhone$Queue" (fun adr adV => [(0, .ref (adr g 6)), (1, .ref (adr b0 6))]) (by decide) rfl (fun _ _ => by simp only [lg_sl]; exact Nat.le_of_ble_eq_true rfl) (fun _ _ => rfl) ?_
  intro p e s m args below meth c A D ids adr adV cA rep G0 hI hC hr
  unfold F_X4_copyFrom
  refine hz_aload_n (a := 1) (n := 1) hC dX4_copyFrom_0 rfl rfl rfl ?_
  refine fg_X4_9 (n := 4) hC hb0 hI dX4_copyFrom_1 rfl ?_
  refine hz_aload_n (a := 0) (n := 5) hC dX4_copyFrom_4 rfl rfl rfl ?_
  refine fg_X4_9 (n := 8) hC hg hI dX4_copyFrom_5 rfl ?_
  refine hz_callSN (k := 2) (As := [.ref (adr b0 7), .ref (adr g 7)]) (st := []) (S1 := fun _ => []) (n := 11) hC (c_X8_copyRow l b0 7 g 7 10 (by decide) (fun _ h => (h.1 b0 7 hb0 (by decide))) (fun _ h => (h.1 g 7 hg (by decide))) (fun _ _ _ f => (ha_h7 hb0) f) (fun _ _ _ f => (ha_h7 hg) f) M) ks_X8_copyRow wd_3_45 hI dX4_copyFrom_8 rfl rfl rfl (Nat.le_of_ble_eq_true rfl) ⟨Nat.le_of_ble_eq_true rfl, Nat.le_of_ble_eq_true rfl⟩ ⟨Nat.zero_le _, Nat.zero_le _⟩ (fun _ => rfl) rfl (fun r1 M1 _ => ?_)
  refine hz_aload_n (a := 0) (n := 12) hC dX4_copyFrom_11 rfl rfl rfl ?_
  refine hz_aload_n (a := 1) (n := 13) hC dX4_copyFrom_12 rfl rfl rfl ?_
  refine fg_X4_15 (n := 16) hC hb0 hI dX4_copyFrom_13 rfl ?_
  refine fp_X4_15 (n := 19) hC hg hI (M1 b0 6 1) dX4_copyFrom_16 rfl ?_
  exact hz_vret hC hr dX4_copyFrom_19
def F_X6_copyFrom (g : Nat) (b0 : Nat) (M : hp_M) : Option (Unit × hp_M) := (hp_b (F_X8_copyRow b0 9 g 9 8 M) (fun _ M1 => (hp_b (F_X8_copyRow b0 10 g 10 8 M1) (fun _ M2 => (some ((), (hp_p M2 g 8 2 (M2 b0 8 2))))))))
set_option maxRecDepth 20000 in
set_option maxHeartbeats 4000000 in
theorem c_X6_copyFrom (l : Launch) (g : Nat) (b0 : Nat) (hg : g < 12) (hb0 : b0 < 12) (M : hp_M) : hp_Ct l yX6_copyFrom cX6_copyFrom 2 none 2 hp_IC (fun adr adV => [.ref (adr g 8), .ref (adr b0 8)]) hp_oo M (F_X6_copyFrom g b0 M) := by
  refine hp_start "HallPhone$Slate" (fun adr adV => [(0, .ref (adr g 8)), (1, .ref (adr b0 8))]) (by decide) rfl (fun _ _ => by simp only [lg_sl]; exact Nat.le_of_ble_eq_true rfl) (fun _ _ => rfl) ?_
  intro p e s m args below meth c A D ids adr adV cA rep G0 hI hC hr
  unfold F_X6_copyFrom
  refine hz_aload_n (a := 1) (n := 1) hC dX6_copyFrom_0 rfl rfl rfl ?_
  refine fg_X6_9 (n := 4) hC hb0 hI dX6_copyFrom_1 rfl ?_
  refine hz_aload_n (a := 0) (n := 5) hC dX6_copyFrom_4 rfl rfl rfl ?_
  refine fg_X6_9 (n := 8) hC hg hI dX6_copyFrom_5 rfl ?_
  refine hz_callSN (k := 2) (As := [.ref (adr b0 9), .ref (adr g 9)]) (st := []) (S1 := fun _ => []) (n := 11) hC (c_X8_copyRow l b0 9 g 9 8 (by decide) (fun _ h => (h.1 b0 9 hb0 (by decide))) (fun _ h => (h.1 g 9 hg (by decide))) (fun _ _ _ f => (ha_h9 hb0) f) (fun _ _ _ f => (ha_h9 hg) f) M) ks_X8_copyRow wd_3_50 hI dX6_copyFrom_8 rfl rfl rfl (Nat.le_of_ble_eq_true rfl) ⟨Nat.le_of_ble_eq_true rfl, Nat.le_of_ble_eq_true rfl⟩ ⟨Nat.zero_le _, Nat.zero_le _⟩ (fun _ => rfl) rfl (fun r1 M1 _ => ?_)
  refine hz_aload_n (a := 1) (n := 12) hC dX6_copyFrom_11 rfl rfl rfl ?_
  refine fg_X6_15 (n := 15) hC hb0 hI dX6_copyFrom_12 rfl ?_
  refine hz_aload_n (a := 0) (n := 16) hC dX6_copyFrom_15 rfl rfl rfl ?_
  refine fg_X6_15 (n := 19) hC hg hI dX6_copyFrom_16 rfl ?_
  refine hz_callSN (k := 2) (As := [.ref (adr b0 10), .ref (adr g 10)]) (st := []) (S1 := fun _ => []) (n := 22) hC (c_X8_copyRow l b0 10 g 10 8 (by decide) (fun _ h => (h.1 b0 10 hb0 (by decide))) (fun _ h => (h.1 g 10 hg (by decide))) (fun _ _ _ f => (ha_h10 hb0) f) (fun _ _ _ f => (ha_h10 hg) f) M1) ks_X8_copyRow wd_3_50 hI dX6_copyFrom_19 rfl rfl rfl (Nat.le_of_ble_eq_true rfl) ⟨Nat.le_of_ble_eq_true rfl, Nat.le_of_ble_eq_true rfl⟩ ⟨Nat.zero_le _, Nat.zero_le _⟩ (fun _ => rfl) rfl (fun r2 M2 _ => ?_)
  refine hz_aload_n (a := 0) (n := 23) hC dX6_copyFrom_22 rfl rfl rfl ?_
  refine hz_aload_n (a := 1) (n := 24) hC dX6_copyFrom_23 rfl rfl rfl ?_
  refine fg_X6_18 (n := 27) hC hb0 hI dX6_copyFrom_24 rfl ?_
  refine fp_X6_18 (n := 30) hC hg hI (M2 b0 8 2) dX6_copyFrom_27 rfl ?_
  exact hz_vret hC hr dX6_copyFrom_30
def F_X2_copyFrom (g : Nat) (b0 : Nat) (M : hp_M) : Option (Unit × hp_M) := (hp_b (F_X8_copyRow b0 1 g 1 6 (hp_p (hp_p (hp_p M g 0 0 (M b0 0 0)) g 0 1 ((hp_p M g 0 0 (M b0 0 0)) b0 0 1)) g 0 2 ((hp_p (hp_p M g 0 0 (M b0 0 0)) g 0 1 ((hp_p M g 0 0 (M b0 0 0)) b0 0 1)) b0 0 2))) (fun _ M1 => (hp_b (F_X8_copyRow b0 2 g 2 10 M1) (fun _ M2 => (hp_b (F_X8_copyRow b0 3 g 3 110 M2) (fun _ M3 => (hp_b (F_X8_copyRow b0 4 g 4 100 M3) (fun _ M4 => (hp_b (F_X3_copyFrom g b0 M4) (fun _ M5 => (hp_b (F_X4_copyFrom g b0 M5) (fun _ M6 => (hp_b (F_X6_copyFrom g b0 M6) (fun _ M7 => (some ((), M7))))))))))))))))
set_option maxRecDepth 20000 in
set_option maxHeartbeats 4000000 in
theorem c_X2_copyFrom (l : Launch) (g : Nat) (b0 : Nat) (hg : g < 12) (hb0 : b0 < 12) (M : hp_M) : hp_Ct l yX2_copyFrom cX2_copyFrom 2 none 3 hp_IC (fun adr adV => [.ref (adr g 0), .ref (adr b0 0)]) hp_oo M (F_X2_copyFrom g b0 M) := by
  refine hp_start "HallPhone$House" (fun adr adV => [(0, .ref (adr g 0)), (1, .ref (adr b0 0))]) (by decide) rfl (fun _ _ => by simp only [lg_sl]; exact Nat.le_of_ble_eq_true rfl) (fun _ _ => rfl) ?_
  intro p e s m args below meth c A D ids adr adV cA rep G0 hI hC hr
  unfold F_X2_copyFrom
  refine hz_aload_n (a := 0) (n := 1) hC dX2_copyFrom_0 rfl rfl rfl ?_
  refine hz_aload_n (a := 1) (n := 2) hC dX2_copyFrom_1 rfl rfl rfl ?_
  refine fg_X2_9 (n := 5) hC hb0 hI dX2_copyFrom_2 rfl ?_
  refine fp_X2_9 (n := 8) hC hg hI (M b0 0 0) dX2_copyFrom_5 rfl ?_
  refine hz_aload_n (a := 0) (n := 9) hC dX2_copyFrom_8 rfl rfl rfl ?_
  refine hz_aload_n (a := 1) (n := 10) hC dX2_copyFrom_9 rfl rfl rfl ?_
  refine fg_X2_15 (n := 13) hC hb0 hI dX2_copyFrom_10 rfl ?_
  refine fp_X2_15 (n := 16) hC hg hI ((hp_p M g 0 0 (M b0 0 0)) b0 0 1) dX2_copyFrom_13 rfl ?_
  refine hz_aload_n (a := 0) (n := 17) hC dX2_copyFrom_16 rfl rfl rfl ?_
  refine hz_aload_n (a := 1) (n := 18) hC dX2_copyFrom_17 rfl rfl rfl ?_
  refine fg_X2_18 (n := 21) hC hb0 hI dX2_copyFrom_18 rfl ?_
  refine fp_X2_18 (n := 24) hC hg hI ((hp_p (hp_p M g 0 0 (M b0 0 0)) g 0 1 ((hp_p M g 0 0 (M b0 0 0)) b0 0 1)) b0 0 2) dX2_copyFrom_21 rfl ?_
  refine hz_aload_n (a := 1) (n := 25) hC dX2_copyFrom_24 rfl rfl rfl ?_
  refine fg_X2_21 (n := 28) hC hb0 hI dX2_copyFrom_25 rfl ?_
  refine hz_aload_n (a := 0) (n := 29) hC dX2_copyFrom_28 rfl rfl rfl ?_
  refine fg_X2_21 (n := 32) hC hg hI dX2_copyFrom_29 rfl ?_
  refine hz_callSN (k := 2) (As := [.ref (adr b0 1), .ref (adr g 1)]) (st := []) (S1 := fun _ => []) (n := 35) hC (c_X8_copyRow l b0 1 g 1 6 (by decide) (fun _ h => (h.1 b0 1 hb0 (by decide))) (fun _ h => (h.1 g 1 hg (by decide))) (fun _ _ _ f => (ha_h1 hb0) f) (fun _ _ _ f => (ha_h1 hg) f) (hp_p (hp_p (hp_p M g 0 0 (M b0 0 0)) g 0 1 ((hp_p M g 0 0 (M b0 0 0)) b0 0 1)) g 0 2 ((hp_p (hp_p M g 0 0 (M b0 0 0)) g 0 1 ((hp_p M g 0 0 (M b0 0 0)) b0 0 1)) b0 0 2))) ks_X8_copyRow wd_2_67 hI dX2_copyFrom_32 rfl rfl rfl (Nat.le_of_ble_eq_true rfl) ⟨Nat.le_of_ble_eq_true rfl, Nat.le_of_ble_eq_true rfl⟩ ⟨Nat.zero_le _, Nat.zero_le _⟩ (fun _ => rfl) rfl (fun r1 M1 _ => ?_)
  refine hz_aload_n (a := 1) (n := 36) hC dX2_copyFrom_35 rfl rfl rfl ?_
  refine fg_X2_25 (n := 39) hC hb0 hI dX2_copyFrom_36 rfl ?_
  refine hz_aload_n (a := 0) (n := 40) hC dX2_copyFrom_39 rfl rfl rfl ?_
  refine fg_X2_25 (n := 43) hC hg hI dX2_copyFrom_40 rfl ?_
  refine hz_callSN (k := 2) (As := [.ref (adr b0 2), .ref (adr g 2)]) (st := []) (S1 := fun _ => []) (n := 46) hC (c_X8_copyRow l b0 2 g 2 10 (by decide) (fun _ h => (h.1 b0 2 hb0 (by decide))) (fun _ h => (h.1 g 2 hg (by decide))) (fun _ _ _ f => (ha_h2 hb0) f) (fun _ _ _ f => (ha_h2 hg) f) M1) ks_X8_copyRow wd_2_67 hI dX2_copyFrom_43 rfl rfl rfl (Nat.le_of_ble_eq_true rfl) ⟨Nat.le_of_ble_eq_true rfl, Nat.le_of_ble_eq_true rfl⟩ ⟨Nat.zero_le _, Nat.zero_le _⟩ (fun _ => rfl) rfl (fun r2 M2 _ => ?_)
  refine hz_aload_n (a := 1) (n := 47) hC dX2_copyFrom_46 rfl rfl rfl ?_
  refine fg_X2_28 (n := 50) hC hb0 hI dX2_copyFrom_47 rfl ?_
  refine hz_aload_n (a := 0) (n := 51) hC dX2_copyFrom_50 rfl rfl rfl ?_
  refine fg_X2_28 (n := 54) hC hg hI dX2_copyFrom_51 rfl ?_
  refine hz_callSN (k := 2) (As := [.ref (adr b0 3), .ref (adr g 3)]) (st := []) (S1 := fun _ => []) (n := 57) hC (c_X8_copyRow l b0 3 g 3 110 (by decide) (fun _ h => (h.1 b0 3 hb0 (by decide))) (fun _ h => (h.1 g 3 hg (by decide))) (fun _ _ _ f => (ha_h3 hb0) f) (fun _ _ _ f => (ha_h3 hg) f) M2) ks_X8_copyRow wd_2_67 hI dX2_copyFrom_54 rfl rfl rfl (Nat.le_of_ble_eq_true rfl) ⟨Nat.le_of_ble_eq_true rfl, Nat.le_of_ble_eq_true rfl⟩ ⟨Nat.zero_le _, Nat.zero_le _⟩ (fun _ => rfl) rfl (fun r3 M3 _ => ?_)
  refine hz_aload_n (a := 1) (n := 58) hC dX2_copyFrom_57 rfl rfl rfl ?_
  refine fg_X2_31 (n := 61) hC hb0 hI dX2_copyFrom_58 rfl ?_
  refine hz_aload_n (a := 0) (n := 62) hC dX2_copyFrom_61 rfl rfl rfl ?_
  refine fg_X2_31 (n := 65) hC hg hI dX2_copyFrom_62 rfl ?_
  refine hz_callSN (k := 2) (As := [.ref (adr b0 4), .ref (adr g 4)]) (st := []) (S1 := fun _ => []) (n := 68) hC (c_X8_copyRow l b0 4 g 4 100 (by decide) (fun _ h => (h.1 b0 4 hb0 (by decide))) (fun _ h => (h.1 g 4 hg (by decide))) (fun _ _ _ f => (ha_h4 hb0) f) (fun _ _ _ f => (ha_h4 hg) f) M3) ks_X8_copyRow wd_2_67 hI dX2_copyFrom_65 rfl rfl rfl (Nat.le_of_ble_eq_true rfl) ⟨Nat.le_of_ble_eq_true rfl, Nat.le_of_ble_eq_true rfl⟩ ⟨Nat.zero_le _, Nat.zero_le _⟩ (fun _ => rfl) rfl (fun r4 M4 _ => ?_)
  refine hz_aload_n (a := 0) (n := 69) hC dX2_copyFrom_68 rfl rfl rfl ?_
  refine fg_X2_37 (n := 72) hC hg hI dX2_copyFrom_69 rfl ?_
  refine hz_aload_n (a := 1) (n := 73) hC dX2_copyFrom_72 rfl rfl rfl ?_
  refine fg_X2_37 (n := 76) hC hb0 hI dX2_copyFrom_73 rfl ?_
  refine hz_callVN (k := 1) (As := [.ref (adr b0 5)]) (st := []) (S1 := fun _ => []) (n := 79) hC (c_X3_copyFrom l g b0 hg hb0  M4) kv_X3_copyFrom wd_3_37 hI dX2_copyFrom_76 rfl (hI.1 g 5 hg (by decide)) (he_X3 hg) rfl rfl rfl (Nat.le_of_ble_eq_true rfl) ⟨Nat.le_of_ble_eq_true rfl, Nat.le_of_ble_eq_true rfl⟩ ⟨Nat.zero_le _, Nat.zero_le _⟩ (fun _ => rfl) rfl (fun r5 M5 _ => ?_)
  refine hz_aload_n (a := 0) (n := 80) hC dX2_copyFrom_79 rfl rfl rfl ?_
  refine fg_X2_44 (n := 83) hC hg hI dX2_copyFrom_80 rfl ?_
  refine hz_aload_n (a := 1) (n := 84) hC dX2_copyFrom_83 rfl rfl rfl ?_
  refine fg_X2_44 (n := 87) hC hb0 hI dX2_copyFrom_84 rfl ?_
  refine hz_callVN (k := 1) (As := [.ref (adr b0 6)]) (st := []) (S1 := fun _ => []) (n := 90) hC (c_X4_copyFrom l g b0 hg hb0  M5) kv_X4_copyFrom wd_3_41 hI dX2_copyFrom_87 rfl (hI.1 g 6 hg (by decide)) (he_X4 hg) rfl rfl rfl (Nat.le_of_ble_eq_true rfl) ⟨Nat.le_of_ble_eq_true rfl, Nat.le_of_ble_eq_true rfl⟩ ⟨Nat.zero_le _, Nat.zero_le _⟩ (fun _ => rfl) rfl (fun r6 M6 _ => ?_)
  refine hz_aload_n (a := 0) (n := 91) hC dX2_copyFrom_90 rfl rfl rfl ?_
  refine fg_X2_51 (n := 94) hC hg hI dX2_copyFrom_91 rfl ?_
  refine hz_aload_n (a := 1) (n := 95) hC dX2_copyFrom_94 rfl rfl rfl ?_
  refine fg_X2_51 (n := 98) hC hb0 hI dX2_copyFrom_95 rfl ?_
  refine hz_callVN (k := 1) (As := [.ref (adr b0 8)]) (st := []) (S1 := fun _ => []) (n := 101) hC (c_X6_copyFrom l g b0 hg hb0  M6) kv_X6_copyFrom wd_3_46 hI dX2_copyFrom_98 rfl (hI.1 g 8 hg (by decide)) (he_X6 hg) rfl rfl rfl (Nat.le_of_ble_eq_true rfl) ⟨Nat.le_of_ble_eq_true rfl, Nat.le_of_ble_eq_true rfl⟩ ⟨Nat.zero_le _, Nat.zero_le _⟩ (fun _ => rfl) rfl (fun r7 M7 _ => ?_)
  exact hz_vret hC hr dX2_copyFrom_101
def F_X7_takesNumber (v : Nat) (M : hp_M) : Option (Int32 × hp_M) := (if (hp_vgre.getD v 0) ≤ 0 then (some ((0 : Int32), M)) else (some ((1 : Int32), M)))
set_option maxRecDepth 20000 in
set_option maxHeartbeats 4000000 in
theorem c_X7_takesNumber (l : Launch) (v : Nat) (hv : v < 12) (M : hp_M) : hp_Ct l yX7_takesNumber cX7_takesNumber 1 (some .boolean) 0 hp_I0 (fun adr adV => [.ref (adV v)]) hp_oi M (F_X7_takesNumber v M) := by
  refine hp_start "HallPhone$Verb" (fun adr adV => [(0, .ref (adV v))]) (by decide) rfl (fun _ _ => by simp only [lg_sl]; exact Nat.le_of_ble_eq_true rfl) (fun _ _ => rfl) ?_
  intro p e s m args below meth c A D ids adr adV cA rep G0 hI hC hr
  unfold F_X7_takesNumber
  refine hz_aload_n (a := 0) (n := 1) hC dX7_takesNumber_0 rfl rfl rfl ?_
  refine hz_vget (n := 4) hC dX7_takesNumber_1 (hp_vgre_OF hC.2.2.2.2.1 hv) wd_8_228 rfl ?_
  refine hz_if_le (tgt := 11) (n := 7) hC dX7_takesNumber_4 (by decide) rfl (fun _ => ?_) (fun _ => ?_)
  · refine hz_iconst (v := (0 : Int32)) (n := 12) hC dX7_takesNumber_11 (by decide +kernel) rfl ?_
    exact hz_zret hC hr nz_0 dX7_takesNumber_12
  · refine hz_iconst (v := (1 : Int32)) (n := 8) hC dX7_takesNumber_7 (by decide +kernel) rfl ?_
    refine hz_goto (n := 12) hC dX7_takesNumber_8 (by decide) ?_
    exact hz_zret hC hr nz_1 dX7_takesNumber_12
def L_X7_ofSetting_9 (a0 : Int32)  (k9_2 : Int32) : Nat → Int32 → hp_M → Option (Int32 × hp_M)
  | 0, _, _ => none
  | n9 + 1, x3, M => (if k9_2 ≤ x3 then (some ((-1 : Int32), M)) else (if x3 < 0 ∨ 12 ≤ (x3).toNatClampNeg then none else (if (hp_vset.getD ((x3).toNatClampNeg) 0) = a0 then (if a0 = (-1 : Int32) then (L_X7_ofSetting_9 a0 k9_2 n9 (x3 + (1 : Int32)) M) else (some (nI ((x3).toNatClampNeg), M))) else (L_X7_ofSetting_9 a0 k9_2 n9 (x3 + (1 : Int32)) M))))
def F_X7_ofSetting (a0 : Int32) (M : hp_M) : Option (Int32 × hp_M) := (L_X7_ofSetting_9 a0 (nI 12) hp_fu (0 : Int32) M)
set_option maxRecDepth 20000 in
set_option maxHeartbeats 4000000 in
theorem c_X7_ofSetting (l : Launch) (a0 : Int32)  (M : hp_M) : hp_Ct l yX7_ofSetting cX7_ofSetting 5 (some (.object "HallPhone$Verb")) 0 hp_I0 (fun adr adV => [.int a0]) hp_oe M (F_X7_ofSetting a0 M) := by
  refine hp_start "HallPhone$Verb" (fun adr adV => [(0, .int a0)]) (by decide) rfl (fun _ _ => by simp only [lg_sl]; exact Nat.le_of_ble_eq_true rfl) (fun _ _ => rfl) ?_
  intro p e s m args below meth c A D ids adr adV cA rep G0 hI hC hr
  unfold F_X7_ofSetting
  have l9 : ∀ (k9_2 : Int32) (n9 : Nat) (x3 : Int32) (M : hp_M), hp_Z p l e (hp_rm 0) s m args below meth c 5 A D ids adr adV cA 0 0 (MQ below (hp_Q A D ids adr adV cA rep hp_oe G0) args s 0 0 A) G0 rep 9 [(0, .int a0), (1, .ref (adV 14)), (2, .int k9_2), (3, .int x3)] [] M (L_X7_ofSetting_9 a0 k9_2 n9 x3 M) := by
    intro k9_2 n9
    induction n9 with
    | zero => intro x3 M; exact hz_none hC
    | succ n9 ih9 =>
      intro x3 M
      rw [L_X7_ofSetting_9.eq_2]
      refine hz_iload_n (a := 3) (n := 10) hC dX7_ofSetting_9 rfl rfl rfl ?_
      refine hz_iload_n (a := 2) (n := 11) hC dX7_ofSetting_10 rfl rfl rfl ?_
      refine hz_icmp_ge (tgt := 42) (n := 14) hC dX7_ofSetting_11 (by decide) rfl (fun _ => ?_) (fun _ => ?_)
      · refine hz_null (n := 43) hC dX7_ofSetting_42 rfl ?_
        exact hz_eret0 hC hr (Or.inl ⟨_, rfl⟩) dX7_ofSetting_43
      · refine hz_aload_n (a := 1) (n := 15) hC dX7_ofSetting_14 rfl rfl rfl ?_
        refine hz_iload_n (a := 3) (n := 16) hC dX7_ofSetting_15 rfl rfl rfl ?_
        refine hz_taald (n := 17) hC dX7_ofSetting_16 rfl (fun he1 => ?_)
        refine hz_astore (L' := [(4, .ref (adV ((x3).toNatClampNeg))), (0, .int a0), (1, .ref (adV 14)), (2, .int k9_2), (3, .int x3)]) (n := 19) hC dX7_ofSetting_17 (by decide) rfl rfl ?_
        refine hz_aload (a := 0) (n := 21) hC dX7_ofSetting_19 rfl rfl ?_
        refine hz_vget (n := 24) hC dX7_ofSetting_21 (hp_vset_OF hC.2.2.2.2.1 he1) wd_8_235 rfl ?_
        refine hz_iload_n (a := 1) (n := 25) hC dX7_ofSetting_24 rfl rfl rfl ?_
        refine hz_icmp_ne (tgt := 36) (n := 28) hC dX7_ofSetting_25 (by decide) rfl (fun _ => ?_) (fun _ => ?_)
        · refine hz_iload_n (a := 1) (n := 29) hC dX7_ofSetting_28 rfl rfl rfl ?_
          refine hz_iconst (v := (-1 : Int32)) (n := 30) hC dX7_ofSetting_29 (by decide +kernel) rfl ?_
          refine hz_icmp_eq (tgt := 36) (n := 33) hC dX7_ofSetting_30 (by decide) rfl (fun _ => ?_) (fun _ => ?_)
          · refine hz_iinc (a := 4) (v := (x3 + (1 : Int32))) (L' := [(3, .int (x3 + (1 : Int32))), (4, .ref (adV ((x3).toNatClampNeg))), (0, .int a0), (1, .ref (adV 14)), (2, .int k9_2)]) (n := 39) hC dX7_ofSetting_36 rfl rfl (by decide) rfl rfl ?_
            refine hz_goto (n := 9) hC dX7_ofSetting_39 (by decide) ?_
            refine hz_L (L' := [(0, .int a0), (1, .ref (adV 14)), (2, .int k9_2), (3, .int (x3 + (1 : Int32)))]) [2, 3, 4, 0] rfl ?_
            exact ih9 _ _
          · refine hz_aload (a := 0) (n := 35) hC dX7_ofSetting_33 rfl rfl ?_
            exact hz_eretN hC he1 hr (Or.inl ⟨_, rfl⟩) dX7_ofSetting_35
        · refine hz_iinc (a := 4) (v := (x3 + (1 : Int32))) (L' := [(3, .int (x3 + (1 : Int32))), (4, .ref (adV ((x3).toNatClampNeg))), (0, .int a0), (1, .ref (adV 14)), (2, .int k9_2)]) (n := 39) hC dX7_ofSetting_36 rfl rfl (by decide) rfl rfl ?_
          refine hz_goto (n := 9) hC dX7_ofSetting_39 (by decide) ?_
          refine hz_L (L' := [(0, .int a0), (1, .ref (adV 14)), (2, .int k9_2), (3, .int (x3 + (1 : Int32)))]) [2, 3, 4, 0] rfl ?_
          exact ih9 _ _
  refine hz_gets (k := 14) (n := 3) hC dX7_ofSetting_0 wd_2_134 wd_1_18.1 (by decide +kernel) wd_6_112 rfl ?_
  refine hz_astore_n (L' := [(1, .ref (adV 14)), (0, .int a0)]) (n := 4) hC dX7_ofSetting_3 rfl (by decide) rfl rfl ?_
  refine hz_aload_n (a := 0) (n := 5) hC dX7_ofSetting_4 rfl rfl rfl ?_
  refine hz_tlen (n := 6) hC dX7_ofSetting_5 (hp_all_T hC.2.2.2.2.1) rfl ?_
  refine hz_istore_n (L' := [(2, .int (nI 12)), (1, .ref (adV 14)), (0, .int a0)]) (n := 7) hC dX7_ofSetting_6 rfl (by decide) rfl rfl ?_
  refine hz_iconst (v := (0 : Int32)) (n := 8) hC dX7_ofSetting_7 (by decide +kernel) rfl ?_
  refine hz_istore_n (L' := [(3, .int (0 : Int32)), (2, .int (nI 12)), (1, .ref (adV 14)), (0, .int a0)]) (n := 9) hC dX7_ofSetting_8 rfl (by decide) rfl rfl ?_
  refine hz_L (L' := [(0, .int a0), (1, .ref (adV 14)), (2, .int (nI 12)), (3, .int (0 : Int32))]) [3, 2, 1, 0] rfl ?_
  exact l9 _ hp_fu _ _
def F_X2_houseNumber (g : Nat) (a0 : Int32) (M : hp_M) : Option (Int32 × hp_M) := (if a0 = (0 : Int32) then (some ((M g 0 0), M)) else (if a0 = (1 : Int32) then (some ((M g 0 1), M)) else (if a0 = (2 : Int32) then (some ((M g 5 0), M)) else (if a0 = (3 : Int32) then (some ((M g 5 1), M)) else (if a0 = (4 : Int32) then (some ((M g 5 2), M)) else (if a0 = (5 : Int32) then (if (M g 5 0) = (2 : Int32) then (some ((M g 5 3), M)) else (some ((0 : Int32), M))) else (if a0 = (6 : Int32) then (if (M g 5 4) = 0 then (some ((0 : Int32), M)) else (some ((1 : Int32), M))) else (if a0 = (7 : Int32) then (some ((M g 6 1), M)) else (if a0 = (8 : Int32) then (hp_b (F_X2_flatsThatAre g (1 : Int32) M) (fun r1 M1 => (hp_b (F_J6_bitCount_0f7a4 r1 M1) (fun r2 M2 => (some (r2, M2)))))) else (if a0 = (9 : Int32) then (some ((M g 8 2), M)) else (hp_b (F_X2_debtOfAll g M) (fun r3 M3 => (some (r3, M3))))))))))))))
set_option maxRecDepth 20000 in
set_option maxHeartbeats 4000000 in
theorem c_X2_houseNumber (l : Launch) (g : Nat) (a0 : Int32) (hg : g < 12) (M : hp_M) : hp_Ct l yX2_houseNumber cX2_houseNumber 2 (some .int) 2 hp_IC (fun adr adV => [.ref (adr g 0), .int a0]) hp_oi M (F_X2_houseNumber g a0 M) := by
  refine hp_start "HallPhone$House" (fun adr adV => [(0, .ref (adr g 0)), (1, .int a0)]) (by decide) rfl (fun _ _ => by simp only [lg_sl]; exact Nat.le_of_ble_eq_true rfl) (fun _ _ => rfl) ?_
  intro p e s m args below meth c A D ids adr adV cA rep G0 hI hC hr
  unfold F_X2_houseNumber
  refine hz_iload_n (a := 1) (n := 1) hC dX2_houseNumber_0 rfl rfl rfl ?_
  refine hz_case (fun hk0 => ?_) (fun hk0 => ?_)
  · refine hz_tabIn (n := 56) hC hk0 dX2_houseNumber_1 (by decide +kernel) (by decide +kernel) (by rfl) (by decide +kernel) ?_
    refine hz_aload_n (a := 0) (n := 57) hC dX2_houseNumber_56 rfl rfl rfl ?_
    refine fg_X2_9 (n := 60) hC hg hI dX2_houseNumber_57 rfl ?_
    exact hz_iret hC hr dX2_houseNumber_60
  refine hz_case (fun hk1 => ?_) (fun hk1 => ?_)
  · refine hz_tabIn (n := 61) hC hk1 dX2_houseNumber_1 (by decide +kernel) (by decide +kernel) (by rfl) (by decide +kernel) ?_
    refine hz_aload_n (a := 0) (n := 62) hC dX2_houseNumber_61 rfl rfl rfl ?_
    refine fg_X2_15 (n := 65) hC hg hI dX2_houseNumber_62 rfl ?_
    exact hz_iret hC hr dX2_houseNumber_65
  refine hz_case (fun hk2 => ?_) (fun hk2 => ?_)
  · refine hz_tabIn (n := 66) hC hk2 dX2_houseNumber_1 (by decide +kernel) (by decide +kernel) (by rfl) (by decide +kernel) ?_
    refine hz_aload_n (a := 0) (n := 67) hC dX2_houseNumber_66 rfl rfl rfl ?_
    refine fg_X2_37 (n := 70) hC hg hI dX2_houseNumber_67 rfl ?_
    refine fg_X2_93 (n := 73) hC hg hI dX2_houseNumber_70 rfl ?_
    exact hz_iret hC hr dX2_houseNumber_73
  refine hz_case (fun hk3 => ?_) (fun hk3 => ?_)
  · refine hz_tabIn (n := 74) hC hk3 dX2_houseNumber_1 (by decide +kernel) (by decide +kernel) (by rfl) (by decide +kernel) ?_
    refine hz_aload_n (a := 0) (n := 75) hC dX2_houseNumber_74 rfl rfl rfl ?_
    refine fg_X2_37 (n := 78) hC hg hI dX2_houseNumber_75 rfl ?_
    refine fg_X2_96 (n := 81) hC hg hI dX2_houseNumber_78 rfl ?_
    exact hz_iret hC hr dX2_houseNumber_81
  refine hz_case (fun hk4 => ?_) (fun hk4 => ?_)
  · refine hz_tabIn (n := 82) hC hk4 dX2_houseNumber_1 (by decide +kernel) (by decide +kernel) (by rfl) (by decide +kernel) ?_
    refine hz_aload_n (a := 0) (n := 83) hC dX2_houseNumber_82 rfl rfl rfl ?_
    refine fg_X2_37 (n := 86) hC hg hI dX2_houseNumber_83 rfl ?_
    refine fg_X2_99 (n := 89) hC hg hI dX2_houseNumber_86 rfl ?_
    exact hz_iret hC hr dX2_houseNumber_89
  refine hz_case (fun hk5 => ?_) (fun hk5 => ?_)
  · refine hz_tabIn (n := 90) hC hk5 dX2_houseNumber_1 (by decide +kernel) (by decide +kernel) (by rfl) (by decide +kernel) ?_
    refine hz_aload_n (a := 0) (n := 91) hC dX2_houseNumber_90 rfl rfl rfl ?_
    refine fg_X2_37 (n := 94) hC hg hI dX2_houseNumber_91 rfl ?_
    refine fg_X2_93 (n := 97) hC hg hI dX2_houseNumber_94 rfl ?_
    refine hz_iconst (v := (2 : Int32)) (n := 98) hC dX2_houseNumber_97 (by decide +kernel) rfl ?_
    refine hz_icmp_ne (tgt := 111) (n := 101) hC dX2_houseNumber_98 (by decide) rfl (fun _ => ?_) (fun _ => ?_)
    · refine hz_aload_n (a := 0) (n := 102) hC dX2_houseNumber_101 rfl rfl rfl ?_
      refine fg_X2_37 (n := 105) hC hg hI dX2_houseNumber_102 rfl ?_
      refine fg_X2_102 (n := 108) hC hg hI dX2_houseNumber_105 rfl ?_
      refine hz_goto (n := 112) hC dX2_houseNumber_108 (by decide) ?_
      exact hz_iret hC hr dX2_houseNumber_112
    · refine hz_iconst (v := (0 : Int32)) (n := 112) hC dX2_houseNumber_111 (by decide +kernel) rfl ?_
      exact hz_iret hC hr dX2_houseNumber_112
  refine hz_case (fun hk6 => ?_) (fun hk6 => ?_)
  · refine hz_tabIn (n := 113) hC hk6 dX2_houseNumber_1 (by decide +kernel) (by decide +kernel) (by rfl) (by decide +kernel) ?_
    refine hz_aload_n (a := 0) (n := 114) hC dX2_houseNumber_113 rfl rfl rfl ?_
    refine fg_X2_37 (n := 117) hC hg hI dX2_houseNumber_114 rfl ?_
    refine fg_X2_105 (n := 120) hC hg hI dX2_houseNumber_117 rfl ?_
    refine hz_if_eq (tgt := 127) (n := 123) hC dX2_houseNumber_120 (by decide) rfl (fun _ => ?_) (fun _ => ?_)
    · refine hz_iconst (v := (0 : Int32)) (n := 128) hC dX2_houseNumber_127 (by decide +kernel) rfl ?_
      exact hz_iret hC hr dX2_houseNumber_128
    · refine hz_iconst (v := (1 : Int32)) (n := 124) hC dX2_houseNumber_123 (by decide +kernel) rfl ?_
      refine hz_goto (n := 128) hC dX2_houseNumber_124 (by decide) ?_
      exact hz_iret hC hr dX2_houseNumber_128
  refine hz_case (fun hk7 => ?_) (fun hk7 => ?_)
  · refine hz_tabIn (n := 129) hC hk7 dX2_houseNumber_1 (by decide +kernel) (by decide +kernel) (by rfl) (by decide +kernel) ?_
    refine hz_aload_n (a := 0) (n := 130) hC dX2_houseNumber_129 rfl rfl rfl ?_
    refine fg_X2_44 (n := 133) hC hg hI dX2_houseNumber_130 rfl ?_
    refine fg_X2_71 (n := 136) hC hg hI dX2_houseNumber_133 rfl ?_
    exact hz_iret hC hr dX2_houseNumber_136
  refine hz_case (fun hk8 => ?_) (fun hk8 => ?_)
  · refine hz_tabIn (n := 137) hC hk8 dX2_houseNumber_1 (by decide +kernel) (by decide +kernel) (by rfl) (by decide +kernel) ?_
    refine hz_aload_n (a := 0) (n := 138) hC dX2_houseNumber_137 rfl rfl rfl ?_
    refine hz_iconst (v := (1 : Int32)) (n := 139) hC dX2_houseNumber_138 (by decide +kernel) rfl ?_
    refine hz_callV (k := 1) (As := [.int (1 : Int32)]) (st := []) (S1 := fun r => .int r :: []) (n := 142) hC (c_X2_flatsThatAre l g (1 : Int32) hg  M) kv_X2_flatsThatAre wd_2_224 hI dX2_houseNumber_139 rfl (hI.1 g 0 hg (by decide)) (he_X2 hg) rfl rfl rfl (Nat.le_of_ble_eq_true rfl) ⟨Nat.le_of_ble_eq_true rfl, Nat.le_of_ble_eq_true rfl⟩ ⟨Nat.zero_le _, Nat.zero_le _⟩ (fun _ => rfl) rfl (fun r1 M1 _ => ?_)
    refine hz_callS (k := 1) (As := [.int r1]) (st := []) (S1 := fun r => .int r :: []) (n := 145) hC (c_J6_bitCount_0f7a4 l r1   M1) ks_J6_bitCount_0f7a4 wd_5_61 trivial dX2_houseNumber_142 rfl rfl rfl (Nat.le_of_ble_eq_true rfl) ⟨Nat.le_of_ble_eq_true rfl, Nat.le_of_ble_eq_true rfl⟩ ⟨Nat.zero_le _, Nat.zero_le _⟩ (fun _ => rfl) rfl (fun r2 M2 _ => ?_)
    exact hz_iret hC hr dX2_houseNumber_145
  refine hz_case (fun hk9 => ?_) (fun hk9 => ?_)
  · refine hz_tabIn (n := 146) hC hk9 dX2_houseNumber_1 (by decide +kernel) (by decide +kernel) (by rfl) (by decide +kernel) ?_
    refine hz_aload_n (a := 0) (n := 147) hC dX2_houseNumber_146 rfl rfl rfl ?_
    refine fg_X2_51 (n := 150) hC hg hI dX2_houseNumber_147 rfl ?_
    refine fg_X2_74 (n := 153) hC hg hI dX2_houseNumber_150 rfl ?_
    exact hz_iret hC hr dX2_houseNumber_153
  refine hz_tabOut (n := 154) hC (hp_out 10 (by decide) (fun k hk => by
    rcases (show k = 0 ∨ k = 1 ∨ k = 2 ∨ k = 3 ∨ k = 4 ∨ k = 5 ∨ k = 6 ∨ k = 7 ∨ k = 8 ∨ k = 9 by omega) with rfl | rfl | rfl | rfl | rfl | rfl | rfl | rfl | rfl | rfl
    · exact fun e => hk0 (Int32.toInt_inj.mp (e.trans (by decide +kernel)))
    · exact fun e => hk1 (Int32.toInt_inj.mp (e.trans (by decide +kernel)))
    · exact fun e => hk2 (Int32.toInt_inj.mp (e.trans (by decide +kernel)))
    · exact fun e => hk3 (Int32.toInt_inj.mp (e.trans (by decide +kernel)))
    · exact fun e => hk4 (Int32.toInt_inj.mp (e.trans (by decide +kernel)))
    · exact fun e => hk5 (Int32.toInt_inj.mp (e.trans (by decide +kernel)))
    · exact fun e => hk6 (Int32.toInt_inj.mp (e.trans (by decide +kernel)))
    · exact fun e => hk7 (Int32.toInt_inj.mp (e.trans (by decide +kernel)))
    · exact fun e => hk8 (Int32.toInt_inj.mp (e.trans (by decide +kernel)))
    · exact fun e => hk9 (Int32.toInt_inj.mp (e.trans (by decide +kernel)))
    )) dX2_houseNumber_1 (by decide +kernel) ?_
  refine hz_aload_n (a := 0) (n := 155) hC dX2_houseNumber_154 rfl rfl rfl ?_
  refine hz_callV (k := 0) (As := []) (st := []) (S1 := fun r => .int r :: []) (n := 158) hC (c_X2_debtOfAll l g hg  M) kv_X2_debtOfAll wd_3_143 hI dX2_houseNumber_155 rfl (hI.1 g 0 hg (by decide)) (he_X2 hg) rfl rfl rfl (Nat.le_of_ble_eq_true rfl) ⟨Nat.le_of_ble_eq_true rfl, Nat.le_of_ble_eq_true rfl⟩ ⟨Nat.zero_le _, Nat.zero_le _⟩ (fun _ => rfl) rfl (fun r3 M3 _ => ?_)
  exact hz_iret hC hr dX2_houseNumber_158
def F_X2_flatNumber (g : Nat) (a0 : Int32) (a1 : Int32) (M : hp_M) : Option (Int32 × hp_M) := (if a1 = (5 : Int32) then (hp_b (F_X4_placeOf g a0 M) (fun r1 M1 => (some (r1, M1)))) else (if a1 = (9 : Int32) then (hp_b (F_X6_countFor g a0 M) (fun r2 M2 => (some (r2, M2)))) else (hp_b (F_X2_get g a0 a1 M) (fun r3 M3 => (some (r3, M3))))))
set_option maxRecDepth 20000 in
set_option maxHeartbeats 4000000 in
theorem c_X2_flatNumber (l : Launch) (g : Nat) (a0 : Int32) (a1 : Int32) (hg : g < 12) (M : hp_M) : hp_Ct l yX2_flatNumber cX2_flatNumber 3 (some .int) 2 hp_IC (fun adr adV => [.ref (adr g 0), .int a0, .int a1]) hp_oi M (F_X2_flatNumber g a0 a1 M) := by
  refine hp_start "HallPhone$House" (fun adr adV => [(0, .ref (adr g 0)), (1, .int a0), (2, .int a1)]) (by decide) rfl (fun _ _ => by simp only [lg_sl]; exact Nat.le_of_ble_eq_true rfl) (fun _ _ => rfl) ?_
  intro p e s m args below meth c A D ids adr adV cA rep G0 hI hC hr
  unfold F_X2_flatNumber
  refine hz_iload_n (a := 2) (n := 1) hC dX2_flatNumber_0 rfl rfl rfl ?_
  refine hz_case (fun hk5 => ?_) (fun hk5 => ?_)
  · refine hz_lookup (off := 27) (n := 28) hC dX2_flatNumber_1 (by decide +kernel) (hp_lk hk5 (by decide +kernel)) (by decide) ?_
    refine hz_aload_n (a := 0) (n := 29) hC dX2_flatNumber_28 rfl rfl rfl ?_
    refine fg_X2_44 (n := 32) hC hg hI dX2_flatNumber_29 rfl ?_
    refine hz_iload_n (a := 1) (n := 33) hC dX2_flatNumber_32 rfl rfl rfl ?_
    refine hz_callVN (k := 1) (As := [.int a0]) (st := []) (S1 := fun r => .int r :: []) (n := 36) hC (c_X4_placeOf l g a0 hg  M) kv_X4_placeOf wd_5_71 hI dX2_flatNumber_33 rfl (hI.1 g 6 hg (by decide)) (he_X4 hg) rfl rfl rfl (Nat.le_of_ble_eq_true rfl) ⟨Nat.le_of_ble_eq_true rfl, Nat.le_of_ble_eq_true rfl⟩ ⟨Nat.zero_le _, Nat.zero_le _⟩ (fun _ => rfl) rfl (fun r1 M1 _ => ?_)
    exact hz_iret hC hr dX2_flatNumber_36
  refine hz_case (fun hk9 => ?_) (fun hk9 => ?_)
  · refine hz_lookup (off := 36) (n := 37) hC dX2_flatNumber_1 (by decide +kernel) (hp_lk hk9 (by decide +kernel)) (by decide) ?_
    refine hz_aload_n (a := 0) (n := 38) hC dX2_flatNumber_37 rfl rfl rfl ?_
    refine fg_X2_51 (n := 41) hC hg hI dX2_flatNumber_38 rfl ?_
    refine hz_iload_n (a := 1) (n := 42) hC dX2_flatNumber_41 rfl rfl rfl ?_
    refine hz_callVN (k := 1) (As := [.int a0]) (st := []) (S1 := fun r => .int r :: []) (n := 45) hC (c_X6_countFor l g a0 hg  M) kv_X6_countFor wd_5_72 hI dX2_flatNumber_42 rfl (hI.1 g 8 hg (by decide)) (he_X6 hg) rfl rfl rfl (Nat.le_of_ble_eq_true rfl) ⟨Nat.le_of_ble_eq_true rfl, Nat.le_of_ble_eq_true rfl⟩ ⟨Nat.zero_le _, Nat.zero_le _⟩ (fun _ => rfl) rfl (fun r2 M2 _ => ?_)
    exact hz_iret hC hr dX2_flatNumber_45
  refine hz_lookup (off := 45) (n := 46) hC dX2_flatNumber_1 (by decide +kernel) (hp_lk2 hk5 hk9 (by decide +kernel)) (by decide) ?_
  refine hz_aload_n (a := 0) (n := 47) hC dX2_flatNumber_46 rfl rfl rfl ?_
  refine hz_iload_n (a := 1) (n := 48) hC dX2_flatNumber_47 rfl rfl rfl ?_
  refine hz_iload_n (a := 2) (n := 49) hC dX2_flatNumber_48 rfl rfl rfl ?_
  refine hz_callV (k := 2) (As := [.int a0, .int a1]) (st := []) (S1 := fun r => .int r :: []) (n := 52) hC (c_X2_get l g a0 a1 hg  M) kv_X2_get wd_2_148 hI dX2_flatNumber_49 rfl (hI.1 g 0 hg (by decide)) (he_X2 hg) rfl rfl rfl (Nat.le_of_ble_eq_true rfl) ⟨Nat.le_of_ble_eq_true rfl, Nat.le_of_ble_eq_true rfl⟩ ⟨Nat.zero_le _, Nat.zero_le _⟩ (fun _ => rfl) rfl (fun r3 M3 _ => ?_)
  exact hz_iret hC hr dX2_flatNumber_52
def F_X2_refusal (g : Nat) (v0 : Nat) (a1 : Int32) (a2 : Int32) (M : hp_M) : Option (Int32 × hp_M) := (hp_b (F_X2_get g a1 (2 : Int32) M) (fun r1 M1 => (hp_b (F_Jx29ce0_ordinal_8abf5 v0 M1) (fun r2 M2 => (if r2 < 0 ∨ 12 ≤ (r2).toNatClampNeg then none else (if (hp_sm.getD (r2).toNatClampNeg 0) = (1 : Int32) then (if r1 = 0 then (some ((0 : Int32), M2)) else (some ((2 : Int32), M2))) else (if (hp_sm.getD (r2).toNatClampNeg 0) = (2 : Int32) then (if r1 = (2 : Int32) then (some ((0 : Int32), M2)) else (if r1 = (1 : Int32) then (hp_b (F_X2_isCalled g a1 M2) (fun r3 M3 => (if r3 = 0 then (some ((0 : Int32), M3)) else (some ((3 : Int32), M3))))) else (some ((3 : Int32), M2)))) else (if (hp_sm.getD (r2).toNatClampNeg 0) = (3 : Int32) then (if r1 = (3 : Int32) then (some ((0 : Int32), M2)) else (some ((4 : Int32), M2))) else (if (hp_sm.getD (r2).toNatClampNeg 0) = (4 : Int32) then (if (M2 g 5 0) = 0 then (some ((0 : Int32), M2)) else (some ((5 : Int32), M2))) else (if (hp_sm.getD (r2).toNatClampNeg 0) = (5 : Int32) then (hp_b (F_X2_get g a1 (6 : Int32) M2) (fun r4 M4 => (if r4 < a2 then (some ((6 : Int32), M4)) else (some ((0 : Int32), M4))))) else (some ((0 : Int32), M2))))))))))))
set_option maxRecDepth 20000 in
set_option maxHeartbeats 4000000 in
theorem c_X2_refusal (l : Launch) (g : Nat) (v0 : Nat) (a1 : Int32) (a2 : Int32) (hg : g < 12) (hv0 : v0 < 12) (M : hp_M) : hp_Ct l yX2_refusal cX2_refusal 5 (some .int) 1 hp_IC (fun adr adV => [.ref (adr g 0), .ref (adV v0), .int a1, .int a2]) hp_oi M (F_X2_refusal g v0 a1 a2 M) := by
  refine hp_start "HallPhone$House" (fun adr adV => [(0, .ref (adr g 0)), (1, .ref (adV v0)), (2, .int a1), (3, .int a2)]) (by decide) rfl (fun _ _ => by simp only [lg_sl]; exact Nat.le_of_ble_eq_true rfl) (fun _ _ => rfl) ?_
  intro p e s m args below meth c A D ids adr adV cA rep G0 hI hC hr
  unfold F_X2_refusal
  refine hz_aload_n (a := 0) (n := 1) hC dX2_refusal_0 rfl rfl rfl ?_
  refine hz_iload_n (a := 2) (n := 2) hC dX2_refusal_1 rfl rfl rfl ?_
  refine hz_iconst (v := (2 : Int32)) (n := 3) hC dX2_refusal_2 (by decide +kernel) rfl ?_
  refine hz_callV (k := 2) (As := [.int a1, .int (2 : Int32)]) (st := []) (S1 := fun r => .int r :: []) (n := 6) hC (c_X2_get l g a1 (2 : Int32) hg  M) kv_X2_get wd_2_148 hI dX2_refusal_3 rfl (hI.1 g 0 hg (by decide)) (he_X2 hg) rfl rfl rfl (Nat.le_of_ble_eq_true rfl) ⟨Nat.le_of_ble_eq_true rfl, Nat.le_of_ble_eq_true rfl⟩ ⟨Nat.zero_le _, Nat.zero_le _⟩ (fun _ => rfl) rfl (fun r1 M1 _ => ?_)
  refine hz_istore (L' := [(4, .int r1), (0, .ref (adr g 0)), (1, .ref (adV v0)), (2, .int a1), (3, .int a2)]) (n := 8) hC dX2_refusal_6 (by decide) rfl rfl ?_
  refine hz_gets (k := 13) (n := 11) hC dX2_refusal_8 wd_2_153 wd_1_19.1 (by decide +kernel) wd_2_152 rfl ?_
  refine hz_aload_n (a := 2) (n := 12) hC dX2_refusal_11 rfl rfl rfl ?_
  refine hz_callOU (k := 0) (C := "HallPhone$Verb") (x := ⟨"HallPhone$Verb", "ordinal", "()I"⟩) (As := []) (st := [.ref (adV 13)]) (S1 := fun r => .int r :: [.ref (adV 13)]) (n := 15) hC (c_Jx29ce0_ordinal_8abf5 l v0 hv0  M1) rfl hp_ordw ⟨by decide, by decide, by decide +kernel⟩ (by decide) trivial dX2_refusal_12 rfl (hp_v_O hC.2.2.2.2.1 hv0) rfl rfl (Nat.le_of_ble_eq_true rfl) ⟨Nat.le_of_ble_eq_true rfl, Nat.le_of_ble_eq_true rfl⟩ ⟨Nat.zero_le _, Nat.zero_le _⟩ (fun _ => rfl) rfl (fun r2 M2 _ => ?_)
  refine hz_tald (n := 16) hC (hp_sm_T hC.2.2.2.2.1) dX2_refusal_15 rfl (fun _ => ?_)
  refine hz_case (fun hk1 => ?_) (fun hk1 => ?_)
  · refine hz_tabIn (n := 52) hC hk1 dX2_refusal_16 (by decide +kernel) (by decide +kernel) (by rfl) (by decide +kernel) ?_
    refine hz_iload (a := 0) (n := 54) hC dX2_refusal_52 rfl rfl ?_
    refine hz_if_ne (tgt := 61) (n := 57) hC dX2_refusal_54 (by decide) rfl (fun _ => ?_) (fun _ => ?_)
    · refine hz_iconst (v := (0 : Int32)) (n := 58) hC dX2_refusal_57 (by decide +kernel) rfl ?_
      refine hz_goto (n := 62) hC dX2_refusal_58 (by decide) ?_
      exact hz_iret hC hr dX2_refusal_62
    · refine hz_iconst (v := (2 : Int32)) (n := 62) hC dX2_refusal_61 (by decide +kernel) rfl ?_
      exact hz_iret hC hr dX2_refusal_62
  refine hz_case (fun hk2 => ?_) (fun hk2 => ?_)
  · refine hz_tabIn (n := 63) hC hk2 dX2_refusal_16 (by decide +kernel) (by decide +kernel) (by rfl) (by decide +kernel) ?_
    refine hz_iload (a := 0) (n := 65) hC dX2_refusal_63 rfl rfl ?_
    refine hz_iconst (v := (2 : Int32)) (n := 66) hC dX2_refusal_65 (by decide +kernel) rfl ?_
    refine hz_icmp_eq (tgt := 83) (n := 69) hC dX2_refusal_66 (by decide) rfl (fun _ => ?_) (fun _ => ?_)
    · refine hz_iconst (v := (0 : Int32)) (n := 84) hC dX2_refusal_83 (by decide +kernel) rfl ?_
      refine hz_goto (n := 88) hC dX2_refusal_84 (by decide) ?_
      exact hz_iret hC hr dX2_refusal_88
    · refine hz_iload (a := 0) (n := 71) hC dX2_refusal_69 rfl rfl ?_
      refine hz_iconst (v := (1 : Int32)) (n := 72) hC dX2_refusal_71 (by decide +kernel) rfl ?_
      refine hz_icmp_ne (tgt := 87) (n := 75) hC dX2_refusal_72 (by decide) rfl (fun _ => ?_) (fun _ => ?_)
      · refine hz_aload_n (a := 1) (n := 76) hC dX2_refusal_75 rfl rfl rfl ?_
        refine hz_iload_n (a := 3) (n := 77) hC dX2_refusal_76 rfl rfl rfl ?_
        refine hz_callV (k := 1) (As := [.int a1]) (st := []) (S1 := fun r => .int r :: []) (n := 80) hC (c_X2_isCalled l g a1 hg  M2) kv_X2_isCalled wd_2_160 hI dX2_refusal_77 rfl (hI.1 g 0 hg (by decide)) (he_X2 hg) rfl rfl rfl (Nat.le_of_ble_eq_true rfl) ⟨Nat.le_of_ble_eq_true rfl, Nat.le_of_ble_eq_true rfl⟩ ⟨Nat.zero_le _, Nat.zero_le _⟩ (fun _ => rfl) rfl (fun r3 M3 _ => ?_)
        refine hz_if_ne (tgt := 87) (n := 83) hC dX2_refusal_80 (by decide) rfl (fun _ => ?_) (fun _ => ?_)
        · refine hz_iconst (v := (0 : Int32)) (n := 84) hC dX2_refusal_83 (by decide +kernel) rfl ?_
          refine hz_goto (n := 88) hC dX2_refusal_84 (by decide) ?_
          exact hz_iret hC hr dX2_refusal_88
        · refine hz_iconst (v := (3 : Int32)) (n := 88) hC dX2_refusal_87 (by decide +kernel) rfl ?_
          exact hz_iret hC hr dX2_refusal_88
      · refine hz_iconst (v := (3 : Int32)) (n := 88) hC dX2_refusal_87 (by decide +kernel) rfl ?_
        exact hz_iret hC hr dX2_refusal_88
  refine hz_case (fun hk3 => ?_) (fun hk3 => ?_)
  · refine hz_tabIn (n := 89) hC hk3 dX2_refusal_16 (by decide +kernel) (by decide +kernel) (by rfl) (by decide +kernel) ?_
    refine hz_iload (a := 0) (n := 91) hC dX2_refusal_89 rfl rfl ?_
    refine hz_iconst (v := (3 : Int32)) (n := 92) hC dX2_refusal_91 (by decide +kernel) rfl ?_
    refine hz_icmp_ne (tgt := 99) (n := 95) hC dX2_refusal_92 (by decide) rfl (fun _ => ?_) (fun _ => ?_)
    · refine hz_iconst (v := (0 : Int32)) (n := 96) hC dX2_refusal_95 (by decide +kernel) rfl ?_
      refine hz_goto (n := 100) hC dX2_refusal_96 (by decide) ?_
      exact hz_iret hC hr dX2_refusal_100
    · refine hz_iconst (v := (4 : Int32)) (n := 100) hC dX2_refusal_99 (by decide +kernel) rfl ?_
      exact hz_iret hC hr dX2_refusal_100
  refine hz_case (fun hk4 => ?_) (fun hk4 => ?_)
  · refine hz_tabIn (n := 101) hC hk4 dX2_refusal_16 (by decide +kernel) (by decide +kernel) (by rfl) (by decide +kernel) ?_
    refine hz_aload_n (a := 1) (n := 102) hC dX2_refusal_101 rfl rfl rfl ?_
    refine fg_X2_37 (n := 105) hC hg hI dX2_refusal_102 rfl ?_
    refine fg_X2_93 (n := 108) hC hg hI dX2_refusal_105 rfl ?_
    refine hz_if_ne (tgt := 115) (n := 111) hC dX2_refusal_108 (by decide) rfl (fun _ => ?_) (fun _ => ?_)
    · refine hz_iconst (v := (0 : Int32)) (n := 112) hC dX2_refusal_111 (by decide +kernel) rfl ?_
      refine hz_goto (n := 116) hC dX2_refusal_112 (by decide) ?_
      exact hz_iret hC hr dX2_refusal_116
    · refine hz_iconst (v := (5 : Int32)) (n := 116) hC dX2_refusal_115 (by decide +kernel) rfl ?_
      exact hz_iret hC hr dX2_refusal_116
  refine hz_case (fun hk5 => ?_) (fun hk5 => ?_)
  · refine hz_tabIn (n := 117) hC hk5 dX2_refusal_16 (by decide +kernel) (by decide +kernel) (by rfl) (by decide +kernel) ?_
    refine hz_iload_n (a := 4) (n := 118) hC dX2_refusal_117 rfl rfl rfl ?_
    refine hz_aload_n (a := 1) (n := 119) hC dX2_refusal_118 rfl rfl rfl ?_
    refine hz_iload_n (a := 3) (n := 120) hC dX2_refusal_119 rfl rfl rfl ?_
    refine hz_bipush (v := (6 : Int32)) (n := 122) hC dX2_refusal_120 (by decide +kernel) rfl ?_
    refine hz_callV (k := 2) (As := [.int a1, .int (6 : Int32)]) (st := [.int a2]) (S1 := fun r => .int r :: [.int a2]) (n := 125) hC (c_X2_get l g a1 (6 : Int32) hg  M2) kv_X2_get wd_2_148 hI dX2_refusal_122 rfl (hI.1 g 0 hg (by decide)) (he_X2 hg) rfl rfl rfl (Nat.le_of_ble_eq_true rfl) ⟨Nat.le_of_ble_eq_true rfl, Nat.le_of_ble_eq_true rfl⟩ ⟨Nat.zero_le _, Nat.zero_le _⟩ (fun _ => rfl) rfl (fun r4 M4 _ => ?_)
    refine hz_icmp_gt (tgt := 132) (n := 128) hC dX2_refusal_125 (by decide) rfl (fun _ => ?_) (fun _ => ?_)
    · refine hz_bipush (v := (6 : Int32)) (n := 134) hC dX2_refusal_132 (by decide +kernel) rfl ?_
      exact hz_iret hC hr dX2_refusal_134
    · refine hz_iconst (v := (0 : Int32)) (n := 129) hC dX2_refusal_128 (by decide +kernel) rfl ?_
      refine hz_goto (n := 134) hC dX2_refusal_129 (by decide) ?_
      exact hz_iret hC hr dX2_refusal_134
  refine hz_tabOut (n := 135) hC (hp_out 5 (by decide) (fun k hk => by
    rcases (show k = 0 ∨ k = 1 ∨ k = 2 ∨ k = 3 ∨ k = 4 by omega) with rfl | rfl | rfl | rfl | rfl
    · exact fun e => hk1 (Int32.toInt_inj.mp (e.trans (by decide +kernel)))
    · exact fun e => hk2 (Int32.toInt_inj.mp (e.trans (by decide +kernel)))
    · exact fun e => hk3 (Int32.toInt_inj.mp (e.trans (by decide +kernel)))
    · exact fun e => hk4 (Int32.toInt_inj.mp (e.trans (by decide +kernel)))
    · exact fun e => hk5 (Int32.toInt_inj.mp (e.trans (by decide +kernel)))
    )) dX2_refusal_16 (by decide +kernel) ?_
  refine hz_iconst (v := (0 : Int32)) (n := 136) hC dX2_refusal_135 (by decide +kernel) rfl ?_
  exact hz_iret hC hr dX2_refusal_136
def F_X2_perform (g : Nat) (v0 : Nat) (a1 : Int32) (a2 : Int32) (M : hp_M) : Option (Int32 × hp_M) := (hp_b (F_Jx29ce0_ordinal_8abf5 v0 M) (fun r1 M1 => (if r1 < 0 ∨ 12 ≤ (r1).toNatClampNeg then none else (if (hp_sm.getD (r1).toNatClampNeg 0) = (1 : Int32) then (hp_b (F_X2_setOut g a1 a2 M1) (fun r2 M2 => (some (r2, M2)))) else (if (hp_sm.getD (r1).toNatClampNeg 0) = (2 : Int32) then (hp_b (F_X2_giveUp g a1 M1) (fun r3 M3 => (some (r3, M3)))) else (if (hp_sm.getD (r1).toNatClampNeg 0) = (3 : Int32) then (hp_b (F_X2_endCall g M1) (fun r4 M4 => (some (r4, M4)))) else (if (hp_sm.getD (r1).toNatClampNeg 0) = (4 : Int32) then (hp_b (F_X2_takeRing g a1 a2 M1) (fun r5 M5 => (some (r5, M5)))) else (if (hp_sm.getD (r1).toNatClampNeg 0) = (5 : Int32) then (hp_b (F_X2_takeMoney g a1 a2 M1) (fun r6 M6 => (some (r6, M6)))) else (if (hp_sm.getD (r1).toNatClampNeg 0) = (6 : Int32) then (hp_b (F_X2_letPass g a2 M1) (fun r7 M7 => (some (r7, M7)))) else (hp_b (F_X2_changeSetting g (hp_vset.getD v0 0) a2 M1) (fun r8 M8 => (some (r8, M8)))))))))))))
set_option maxRecDepth 20000 in
set_option maxHeartbeats 4000000 in
theorem c_X2_perform (l : Launch) (g : Nat) (v0 : Nat) (a1 : Int32) (a2 : Int32) (hg : g < 12) (hv0 : v0 < 12) (M : hp_M) : hp_Ct l yX2_perform cX2_perform 4 (some .int) 4 hp_IC (fun adr adV => [.ref (adr g 0), .ref (adV v0), .int a1, .int a2]) hp_oi M (F_X2_perform g v0 a1 a2 M) := by
  refine hp_start "HallPhone$House" (fun adr adV => [(0, .ref (adr g 0)), (1, .ref (adV v0)), (2, .int a1), (3, .int a2)]) (by decide) rfl (fun _ _ => by simp only [lg_sl]; exact Nat.le_of_ble_eq_true rfl) (fun _ _ => rfl) ?_
  intro p e s m args below meth c A D ids adr adV cA rep G0 hI hC hr
  unfold F_X2_perform
  refine hz_gets (k := 13) (n := 3) hC dX2_perform_0 wd_2_153 wd_1_19.1 (by decide +kernel) wd_2_152 rfl ?_
  refine hz_aload_n (a := 1) (n := 4) hC dX2_perform_3 rfl rfl rfl ?_
  refine hz_callOU (k := 0) (C := "HallPhone$Verb") (x := ⟨"HallPhone$Verb", "ordinal", "()I"⟩) (As := []) (st := [.ref (adV 13)]) (S1 := fun r => .int r :: [.ref (adV 13)]) (n := 7) hC (c_Jx29ce0_ordinal_8abf5 l v0 hv0  M) rfl hp_ordw ⟨by decide, by decide, by decide +kernel⟩ (by decide) trivial dX2_perform_4 rfl (hp_v_O hC.2.2.2.2.1 hv0) rfl rfl (Nat.le_of_ble_eq_true rfl) ⟨Nat.le_of_ble_eq_true rfl, Nat.le_of_ble_eq_true rfl⟩ ⟨Nat.zero_le _, Nat.zero_le _⟩ (fun _ => rfl) rfl (fun r1 M1 _ => ?_)
  refine hz_tald (n := 8) hC (hp_sm_T hC.2.2.2.2.1) dX2_perform_7 rfl (fun _ => ?_)
  refine hz_case (fun hk1 => ?_) (fun hk1 => ?_)
  · refine hz_tabIn (n := 48) hC hk1 dX2_perform_8 (by decide +kernel) (by decide +kernel) (by rfl) (by decide +kernel) ?_
    refine hz_aload_n (a := 0) (n := 49) hC dX2_perform_48 rfl rfl rfl ?_
    refine hz_iload_n (a := 2) (n := 50) hC dX2_perform_49 rfl rfl rfl ?_
    refine hz_iload_n (a := 3) (n := 51) hC dX2_perform_50 rfl rfl rfl ?_
    refine hz_callV (k := 2) (As := [.int a1, .int a2]) (st := []) (S1 := fun r => .int r :: []) (n := 54) hC (c_X2_setOut l g a1 a2 hg  M1) kv_X2_setOut wd_2_168 hI dX2_perform_51 rfl (hI.1 g 0 hg (by decide)) (he_X2 hg) rfl rfl rfl (Nat.le_of_ble_eq_true rfl) ⟨Nat.le_of_ble_eq_true rfl, Nat.le_of_ble_eq_true rfl⟩ ⟨Nat.zero_le _, Nat.zero_le _⟩ (fun _ => rfl) rfl (fun r2 M2 _ => ?_)
    exact hz_iret hC hr dX2_perform_54
  refine hz_case (fun hk2 => ?_) (fun hk2 => ?_)
  · refine hz_tabIn (n := 55) hC hk2 dX2_perform_8 (by decide +kernel) (by decide +kernel) (by rfl) (by decide +kernel) ?_
    refine hz_aload_n (a := 0) (n := 56) hC dX2_perform_55 rfl rfl rfl ?_
    refine hz_iload_n (a := 2) (n := 57) hC dX2_perform_56 rfl rfl rfl ?_
    refine hz_callV (k := 1) (As := [.int a1]) (st := []) (S1 := fun r => .int r :: []) (n := 60) hC (c_X2_giveUp l g a1 hg  M1) kv_X2_giveUp wd_2_172 hI dX2_perform_57 rfl (hI.1 g 0 hg (by decide)) (he_X2 hg) rfl rfl rfl (Nat.le_of_ble_eq_true rfl) ⟨Nat.le_of_ble_eq_true rfl, Nat.le_of_ble_eq_true rfl⟩ ⟨Nat.zero_le _, Nat.zero_le _⟩ (fun _ => rfl) rfl (fun r3 M3 _ => ?_)
    exact hz_iret hC hr dX2_perform_60
  refine hz_case (fun hk3 => ?_) (fun hk3 => ?_)
  · refine hz_tabIn (n := 61) hC hk3 dX2_perform_8 (by decide +kernel) (by decide +kernel) (by rfl) (by decide +kernel) ?_
    refine hz_aload_n (a := 0) (n := 62) hC dX2_perform_61 rfl rfl rfl ?_
    refine hz_callV (k := 0) (As := []) (st := []) (S1 := fun r => .int r :: []) (n := 65) hC (c_X2_endCall l g hg  M1) kv_X2_endCall wd_2_180 hI dX2_perform_62 rfl (hI.1 g 0 hg (by decide)) (he_X2 hg) rfl rfl rfl (Nat.le_of_ble_eq_true rfl) ⟨Nat.le_of_ble_eq_true rfl, Nat.le_of_ble_eq_true rfl⟩ ⟨Nat.zero_le _, Nat.zero_le _⟩ (fun _ => rfl) rfl (fun r4 M4 _ => ?_)
    exact hz_iret hC hr dX2_perform_65
  refine hz_case (fun hk4 => ?_) (fun hk4 => ?_)
  · refine hz_tabIn (n := 66) hC hk4 dX2_perform_8 (by decide +kernel) (by decide +kernel) (by rfl) (by decide +kernel) ?_
    refine hz_aload_n (a := 0) (n := 67) hC dX2_perform_66 rfl rfl rfl ?_
    refine hz_iload_n (a := 2) (n := 68) hC dX2_perform_67 rfl rfl rfl ?_
    refine hz_iload_n (a := 3) (n := 69) hC dX2_perform_68 rfl rfl rfl ?_
    refine hz_callV (k := 2) (As := [.int a1, .int a2]) (st := []) (S1 := fun r => .int r :: []) (n := 72) hC (c_X2_takeRing l g a1 a2 hg  M1) kv_X2_takeRing wd_2_188 hI dX2_perform_69 rfl (hI.1 g 0 hg (by decide)) (he_X2 hg) rfl rfl rfl (Nat.le_of_ble_eq_true rfl) ⟨Nat.le_of_ble_eq_true rfl, Nat.le_of_ble_eq_true rfl⟩ ⟨Nat.zero_le _, Nat.zero_le _⟩ (fun _ => rfl) rfl (fun r5 M5 _ => ?_)
    exact hz_iret hC hr dX2_perform_72
  refine hz_case (fun hk5 => ?_) (fun hk5 => ?_)
  · refine hz_tabIn (n := 73) hC hk5 dX2_perform_8 (by decide +kernel) (by decide +kernel) (by rfl) (by decide +kernel) ?_
    refine hz_aload_n (a := 0) (n := 74) hC dX2_perform_73 rfl rfl rfl ?_
    refine hz_iload_n (a := 2) (n := 75) hC dX2_perform_74 rfl rfl rfl ?_
    refine hz_iload_n (a := 3) (n := 76) hC dX2_perform_75 rfl rfl rfl ?_
    refine hz_callV (k := 2) (As := [.int a1, .int a2]) (st := []) (S1 := fun r => .int r :: []) (n := 79) hC (c_X2_takeMoney l g a1 a2 hg  M1) kv_X2_takeMoney wd_2_212 hI dX2_perform_76 rfl (hI.1 g 0 hg (by decide)) (he_X2 hg) rfl rfl rfl (Nat.le_of_ble_eq_true rfl) ⟨Nat.le_of_ble_eq_true rfl, Nat.le_of_ble_eq_true rfl⟩ ⟨Nat.zero_le _, Nat.zero_le _⟩ (fun _ => rfl) rfl (fun r6 M6 _ => ?_)
    exact hz_iret hC hr dX2_perform_79
  refine hz_case (fun hk6 => ?_) (fun hk6 => ?_)
  · refine hz_tabIn (n := 80) hC hk6 dX2_perform_8 (by decide +kernel) (by decide +kernel) (by rfl) (by decide +kernel) ?_
    refine hz_aload_n (a := 0) (n := 81) hC dX2_perform_80 rfl rfl rfl ?_
    refine hz_iload_n (a := 3) (n := 82) hC dX2_perform_81 rfl rfl rfl ?_
    refine hz_callV (k := 1) (As := [.int a2]) (st := []) (S1 := fun r => .int r :: []) (n := 85) hC (c_X2_letPass l g a2 hg  M1) kv_X2_letPass wd_2_216 hI dX2_perform_82 rfl (hI.1 g 0 hg (by decide)) (he_X2 hg) rfl rfl rfl (Nat.le_of_ble_eq_true rfl) ⟨Nat.le_of_ble_eq_true rfl, Nat.le_of_ble_eq_true rfl⟩ ⟨Nat.zero_le _, Nat.zero_le _⟩ (fun _ => rfl) rfl (fun r7 M7 _ => ?_)
    exact hz_iret hC hr dX2_perform_85
  refine hz_tabOut (n := 86) hC (hp_out 6 (by decide) (fun k hk => by
    rcases (show k = 0 ∨ k = 1 ∨ k = 2 ∨ k = 3 ∨ k = 4 ∨ k = 5 by omega) with rfl | rfl | rfl | rfl | rfl | rfl
    · exact fun e => hk1 (Int32.toInt_inj.mp (e.trans (by decide +kernel)))
    · exact fun e => hk2 (Int32.toInt_inj.mp (e.trans (by decide +kernel)))
    · exact fun e => hk3 (Int32.toInt_inj.mp (e.trans (by decide +kernel)))
    · exact fun e => hk4 (Int32.toInt_inj.mp (e.trans (by decide +kernel)))
    · exact fun e => hk5 (Int32.toInt_inj.mp (e.trans (by decide +kernel)))
    · exact fun e => hk6 (Int32.toInt_inj.mp (e.trans (by decide +kernel)))
    )) dX2_perform_8 (by decide +kernel) ?_
  refine hz_aload_n (a := 0) (n := 87) hC dX2_perform_86 rfl rfl rfl ?_
  refine hz_aload_n (a := 1) (n := 88) hC dX2_perform_87 rfl rfl rfl ?_
  refine hz_vgetN (n := 91) hC dX2_perform_88 (hp_vset_OF hC.2.2.2.2.1 hv0) wd_8_232 rfl ?_
  refine hz_iload_n (a := 3) (n := 92) hC dX2_perform_91 rfl rfl rfl ?_
  refine hz_callV (k := 2) (As := [.int (hp_vset.getD v0 0), .int a2]) (st := []) (S1 := fun r => .int r :: []) (n := 95) hC (c_X2_changeSetting l g (hp_vset.getD v0 0) a2 hg  M1) kv_X2_changeSetting wd_3_24 hI dX2_perform_92 rfl (hI.1 g 0 hg (by decide)) (he_X2 hg) rfl rfl rfl (Nat.le_of_ble_eq_true rfl) ⟨Nat.le_of_ble_eq_true rfl, Nat.le_of_ble_eq_true rfl⟩ ⟨Nat.zero_le _, Nat.zero_le _⟩ (fun _ => rfl) rfl (fun r8 M8 _ => ?_)
  exact hz_iret hC hr dX2_perform_95
