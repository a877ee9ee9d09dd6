def L_X9_says_28 (t0 : Nat)   : Nat → Int32 → hp_M → Option (Int32 × hp_M)
  | 0, _, _ => none
  | n28 + 1, x2, M => (hp_b (F_J0_length_8abf5 t0 M) (fun r2 M2 => (if r2 ≤ x2 then (some ((1 : Int32), M2)) else (if ((M2 13 0 15) + x2) < 0 ∨ 700 ≤ (((M2 13 0 15) + x2)).toNatClampNeg then none else (hp_b (F_J0_charAt_5068e t0 x2 M2) (fun r3 M3 => (if (M2 13 7 (((M2 13 0 15) + x2)).toNatClampNeg) = r3 then (L_X9_says_28 t0 n28 (x2 + (1 : Int32)) M3) else (some ((0 : Int32), M3)))))))))
def F_X9_says (t0 : Nat) (M : hp_M) : Option (Int32 × hp_M) := (if (M 13 0 14) = (2 : Int32) then (hp_b (F_J0_length_8abf5 t0 M) (fun r1 M1 => (if ((M 13 0 16) - (M 13 0 15)) = r1 then (L_X9_says_28 t0 hp_fu (0 : Int32) M1) else (some ((0 : Int32), M1))))) else (some ((0 : Int32), M)))
set_option maxRecDepth 20000 in
set_option maxHeartbeats 4000000 in
theorem c_X9_says (l : Launch) (t0 : Nat) (ht0 : hp_tb t0) (M : hp_M) : hp_Ct l yX9_says cX9_says 3 (some .boolean) 4 hp_IR (fun adr adV => [.ref (adr 13 0), .ref (adV t0)]) hp_oi M (F_X9_says t0 M) := by
  refine hp_start "HallPhoneModel" (fun adr adV => [(0, .ref (adr 13 0)), (1, .ref (adV t0))]) (by decide) rfl (fun _ _ => by simp only [lg_sl]; exact Nat.le_of_ble_eq_true rfl) (fun _ _ => rfl) ?_
  intro p e s m args below meth c A D ids adr adV cA rep G0 hI hC hr
  unfold F_X9_says
  have l28 : ∀  (n28 : Nat) (x2 : Int32) (M : hp_M), hp_Z p l e (hp_rm 4) s m args below meth c 3 A D ids adr adV cA 0 0 (MQ below (hp_Q A D ids adr adV cA rep hp_oi G0) args s 0 0 A) G0 rep 28 [(0, .ref (adr 13 0)), (1, .ref (adV t0)), (2, .int x2)] [] M (L_X9_says_28 t0 n28 x2 M) := by
    intro  n28
    induction n28 with
    | zero => intro x2 M; exact hz_none hC
    | succ n28 ih28 =>
      intro x2 M
      rw [L_X9_says_28.eq_2]
      refine hz_iload_n (a := 2) (n := 29) hC dX9_says_28 rfl rfl rfl ?_
      refine hz_aload_n (a := 1) (n := 30) hC dX9_says_29 rfl rfl rfl ?_
      refine hz_callO (k := 0) (As := []) (st := [.int x2]) (S1 := fun r => .int r :: [.int x2]) (n := 33) hC (c_J0_length_8abf5 l t0 ht0  M) kv_J0_length_8abf5 wd_6_161 trivial dX9_says_30 rfl (hp_s_O hC.2.2.2.2.1 ht0) rfl rfl (Nat.le_of_ble_eq_true rfl) ⟨Nat.le_of_ble_eq_true rfl, Nat.le_of_ble_eq_true rfl⟩ ⟨Nat.zero_le _, Nat.zero_le _⟩ (fun _ => rfl) rfl (fun r2 M2 _ => ?_)
      refine hz_icmp_ge (tgt := 63) (n := 36) hC dX9_says_33 (by decide) rfl (fun _ => ?_) (fun _ => ?_)
      · refine hz_iconst (v := (1 : Int32)) (n := 64) hC dX9_says_63 (by decide +kernel) rfl ?_
        exact hz_zret hC hr nz_1 dX9_says_64
      · refine hz_aload_n (a := 0) (n := 37) hC dX9_says_36 rfl rfl rfl ?_
        refine fg_X9_28 (n := 40) hC hI dX9_says_37 rfl ?_
        refine hz_aload_n (a := 0) (n := 41) hC dX9_says_40 rfl rfl rfl ?_
        refine fg_X9_140 (n := 44) hC hI dX9_says_41 rfl ?_
        refine hz_iload_n (a := 2) (n := 45) hC dX9_says_44 rfl rfl rfl ?_
        refine hz_iadd (n := 46) hC dX9_says_45 rfl ?_
        refine hz_iald (n := 47) hC dX9_says_46 (hI 7 (by decide)) ha_m7 rfl (fun _ => ?_)
        refine hz_aload_n (a := 1) (n := 48) hC dX9_says_47 rfl rfl rfl ?_
        refine hz_iload_n (a := 2) (n := 49) hC dX9_says_48 rfl rfl rfl ?_
        refine hz_callO (k := 1) (As := [.int x2]) (st := [.int (M2 13 7 (((M2 13 0 15) + x2)).toNatClampNeg)]) (S1 := fun r => .int r :: [.int (M2 13 7 (((M2 13 0 15) + x2)).toNatClampNeg)]) (n := 52) hC (c_J0_charAt_5068e l t0 x2 ht0  M2) kv_J0_charAt_5068e wd_6_162 trivial dX9_says_49 rfl (hp_s_O hC.2.2.2.2.1 ht0) rfl rfl (Nat.le_of_ble_eq_true rfl) ⟨Nat.le_of_ble_eq_true rfl, Nat.le_of_ble_eq_true rfl⟩ ⟨Nat.zero_le _, Nat.zero_le _⟩ (fun _ => rfl) rfl (fun r3 M3 _ => ?_)
        refine hz_icmp_eq (tgt := 57) (n := 55) hC dX9_says_52 (by decide) rfl (fun _ => ?_) (fun _ => ?_)
        · refine hz_iinc (a := 2) (v := (x2 + (1 : Int32))) (L' := [(2, .int (x2 + (1 : Int32))), (0, .ref (adr 13 0)), (1, .ref (adV t0))]) (n := 60) hC dX9_says_57 rfl rfl (by decide) rfl rfl ?_
          refine hz_goto (n := 28) hC dX9_says_60 (by decide) ?_
          refine hz_L (L' := [(0, .ref (adr 13 0)), (1, .ref (adV t0)), (2, .int (x2 + (1 : Int32)))]) [1, 2, 0] rfl ?_
          exact ih28 _ _
        · refine hz_iconst (v := (0 : Int32)) (n := 56) hC dX9_says_55 (by decide +kernel) rfl ?_
          exact hz_zret hC hr nz_0 dX9_says_56
  refine hz_aload_n (a := 0) (n := 1) hC dX9_says_0 rfl rfl rfl ?_
  refine fg_X9_143 (n := 4) hC hI dX9_says_1 rfl ?_
  refine hz_iconst (v := (2 : Int32)) (n := 5) hC dX9_says_4 (by decide +kernel) rfl ?_
  refine hz_icmp_ne (tgt := 24) (n := 8) hC dX9_says_5 (by decide) rfl (fun _ => ?_) (fun _ => ?_)
  · refine hz_aload_n (a := 0) (n := 9) hC dX9_says_8 rfl rfl rfl ?_
    refine fg_X9_137 (n := 12) hC hI dX9_says_9 rfl ?_
    refine hz_aload_n (a := 0) (n := 13) hC dX9_says_12 rfl rfl rfl ?_
    refine fg_X9_140 (n := 16) hC hI dX9_says_13 rfl ?_
    refine hz_isub (n := 17) hC dX9_says_16 rfl ?_
    refine hz_aload_n (a := 1) (n := 18) hC dX9_says_17 rfl rfl rfl ?_
    refine hz_callO (k := 0) (As := []) (st := [.int ((M 13 0 16) - (M 13 0 15))]) (S1 := fun r => .int r :: [.int ((M 13 0 16) - (M 13 0 15))]) (n := 21) hC (c_J0_length_8abf5 l t0 ht0  M) kv_J0_length_8abf5 wd_6_161 trivial dX9_says_18 rfl (hp_s_O hC.2.2.2.2.1 ht0) rfl rfl (Nat.le_of_ble_eq_true rfl) ⟨Nat.le_of_ble_eq_true rfl, Nat.le_of_ble_eq_true rfl⟩ ⟨Nat.zero_le _, Nat.zero_le _⟩ (fun _ => rfl) rfl (fun r1 M1 _ => ?_)
    refine hz_icmp_eq (tgt := 26) (n := 24) hC dX9_says_21 (by decide) rfl (fun _ => ?_) (fun _ => ?_)
    · refine hz_iconst (v := (0 : Int32)) (n := 27) hC dX9_says_26 (by decide +kernel) rfl ?_
      refine hz_istore_n (L' := [(2, .int (0 : Int32)), (0, .ref (adr 13 0)), (1, .ref (adV t0))]) (n := 28) hC dX9_says_27 rfl (by decide) rfl rfl ?_
      refine hz_L (L' := [(0, .ref (adr 13 0)), (1, .ref (adV t0)), (2, .int (0 : Int32))]) [1, 2, 0] rfl ?_
      exact l28 hp_fu _ _
    · refine hz_iconst (v := (0 : Int32)) (n := 25) hC dX9_says_24 (by decide +kernel) rfl ?_
      exact hz_zret hC hr nz_0 dX9_says_25
  · refine hz_iconst (v := (0 : Int32)) (n := 25) hC dX9_says_24 (by decide +kernel) rfl ?_
    exact hz_zret hC hr nz_0 dX9_says_25
def A_X9_readsHouse_98  (rec21 : Int32 → hp_M → Option (Int32 × hp_M))  (M : hp_M) : Option (Int32 × hp_M) := (if ((hp_p M 13 1 0 ((M 13 1 0) + (1 : Int32))) 13 0 14) = (3 : Int32) then (rec21 (1 : Int32) (hp_p M 13 1 0 ((M 13 1 0) + (1 : Int32)))) else (rec21 (0 : Int32) (hp_p M 13 1 0 ((M 13 1 0) + (1 : Int32)))))
def L_X9_readsHouse_21    : Nat → Int32 → hp_M → Option (Int32 × hp_M)
  | 0, _, _ => none
  | n21 + 1, x1, M => (if x1 = 0 then (some ((1 : Int32), M)) else (hp_b (F_X9_isNumber (0 : Int32) (9 : Int32) M) (fun r4 M4 => (if r4 = 0 then (some ((0 : Int32), M4)) else (if (M4 13 1 0) = (10 : Int32) then (hp_b (F_X9_fail (3 : Int32) M4) (fun r5 M5 => (if r5 = 0 ∨ r5 = 1 then some (r5, M5) else none))) else (hp_b (F_X9_to (M4 13 1 0) (0 : Int32) (M4 13 0 19) M4) (fun _ M6 => (hp_b (F_X9_next M6) (fun _ M7 => (hp_b (F_X9_says 47 M7) (fun r8 M8 => (if r8 = 0 then (A_X9_readsHouse_98 (L_X9_readsHouse_21  n21) M8) else (hp_b (F_X9_to (M8 13 1 0) (1 : Int32) (1 : Int32) M8) (fun _ M9 => (hp_b (F_X9_next M9) (fun _ M10 => (A_X9_readsHouse_98 (L_X9_readsHouse_21  n21) M10)))))))))))))))))
def F_X9_readsHouse  (M : hp_M) : Option (Int32 × hp_M) := (hp_b (F_X9_says 46 M) (fun r1 M1 => (if r1 = 0 then (hp_b (F_X9_fail (1 : Int32) M1) (fun r2 M2 => (if r2 = 0 ∨ r2 = 1 then some (r2, M2) else none))) else (hp_b (F_X9_next M1) (fun _ M3 => (L_X9_readsHouse_21 hp_fu (1 : Int32) M3))))))
set_option maxRecDepth 20000 in
set_option maxHeartbeats 4000000 in
theorem c_X9_readsHouse (l : Launch)   (M : hp_M) : hp_Ct l yX9_readsHouse cX9_readsHouse 2 (some .boolean) 5 hp_IR (fun adr adV => [.ref (adr 13 0)]) hp_oi M (F_X9_readsHouse  M) := by
  refine hp_start "HallPhoneModel" (fun adr adV => [(0, .ref (adr 13 0))]) (by decide) rfl (fun _ _ => by simp only [lg_sl]; exact Nat.le_of_ble_eq_true rfl) (fun _ _ => rfl) ?_
  intro p e s m args below meth c A D ids adr adV cA rep G0 hI hC hr
  unfold F_X9_readsHouse
  have l21 : ∀  (n21 : Nat) (x1 : Int32) (M : hp_M), hp_Z p l e (hp_rm 5) s m args below meth c 2 A D ids adr adV cA 0 0 (MQ below (hp_Q A D ids adr adV cA rep hp_oi G0) args s 0 0 A) G0 rep 21 [(0, .ref (adr 13 0)), (1, .int x1)] [] M (L_X9_readsHouse_21  n21 x1 M) := by
    intro  n21
    induction n21 with
    | zero => intro x1 M; exact hz_none hC
    | succ n21 ih21 =>
      intro x1 M
      rw [L_X9_readsHouse_21.eq_2]
      have j98 : ∀  (M : hp_M), hp_Z p l e (hp_rm 5) s m args below meth c 2 A D ids adr adV cA 0 0 (MQ below (hp_Q A D ids adr adV cA rep hp_oi G0) args s 0 0 A) G0 rep 98 [(0, .ref (adr 13 0))] [] M (A_X9_readsHouse_98  (L_X9_readsHouse_21  n21)  M) := by
        intro  M
        unfold A_X9_readsHouse_98
        refine hz_aload_n (a := 0) (n := 99) hC dX9_readsHouse_98 rfl rfl rfl ?_
        refine fg_X9_7 (n := 102) hC hI dX9_readsHouse_99 rfl ?_
        refine hz_iconst (v := (0 : Int32)) (n := 103) hC dX9_readsHouse_102 (by decide +kernel) rfl ?_
        refine hz_dup2 (n := 104) hC dX9_readsHouse_103 rfl rfl rfl ?_
        refine hz_ialdc (k := 0) (n := 105) hC (by decide +kernel) (by decide) dX9_readsHouse_104 (hI 1 (by decide)) ha_m1 rfl ?_
        refine hz_iconst (v := (1 : Int32)) (n := 106) hC dX9_readsHouse_105 (by decide +kernel) rfl ?_
        refine hz_iadd (n := 107) hC dX9_readsHouse_106 rfl ?_
        refine hz_iastc (k := 0) (n := 108) hC (by decide +kernel) (by decide) dX9_readsHouse_107 (hI 1 (by decide)) ha_m1 rfl ?_
        refine hz_aload_n (a := 0) (n := 109) hC dX9_readsHouse_108 rfl rfl rfl ?_
        refine fg_X9_143 (n := 112) hC hI dX9_readsHouse_109 rfl ?_
        refine hz_iconst (v := (3 : Int32)) (n := 113) hC dX9_readsHouse_112 (by decide +kernel) rfl ?_
        refine hz_icmp_ne (tgt := 120) (n := 116) hC dX9_readsHouse_113 (by decide) rfl (fun _ => ?_) (fun _ => ?_)
        · refine hz_iconst (v := (1 : Int32)) (n := 117) hC dX9_readsHouse_116 (by decide +kernel) rfl ?_
          refine hz_goto (n := 121) hC dX9_readsHouse_117 (by decide) ?_
          refine hz_istore_n (L' := [(1, .int (1 : Int32)), (0, .ref (adr 13 0))]) (n := 122) hC dX9_readsHouse_121 rfl (by decide) rfl rfl ?_
          refine hz_goto (n := 21) hC dX9_readsHouse_122 (by decide) ?_
          refine hz_L (L' := [(0, .ref (adr 13 0)), (1, .int (1 : Int32))]) [1, 0] rfl ?_
          exact ih21 _ _
        · refine hz_iconst (v := (0 : Int32)) (n := 121) hC dX9_readsHouse_120 (by decide +kernel) rfl ?_
          refine hz_istore_n (L' := [(1, .int (0 : Int32)), (0, .ref (adr 13 0))]) (n := 122) hC dX9_readsHouse_121 rfl (by decide) rfl rfl ?_
          refine hz_goto (n := 21) hC dX9_readsHouse_122 (by decide) ?_
          refine hz_L (L' := [(0, .ref (adr 13 0)), (1, .int (0 : Int32))]) [1, 0] rfl ?_
          exact ih21 _ _
      refine hz_iload_n (a := 1) (n := 22) hC dX9_readsHouse_21 rfl rfl rfl ?_
      refine hz_if_eq (tgt := 125) (n := 25) hC dX9_readsHouse_22 (by decide) rfl (fun _ => ?_) (fun _ => ?_)
      · refine hz_iconst (v := (1 : Int32)) (n := 126) hC dX9_readsHouse_125 (by decide +kernel) rfl ?_
        exact hz_zret hC hr nz_1 dX9_readsHouse_126
      · refine hz_aload_n (a := 0) (n := 26) hC dX9_readsHouse_25 rfl rfl rfl ?_
        refine hz_iconst (v := (0 : Int32)) (n := 27) hC dX9_readsHouse_26 (by decide +kernel) rfl ?_
        refine hz_bipush (v := (9 : Int32)) (n := 29) hC dX9_readsHouse_27 (by decide +kernel) rfl ?_
        refine hz_callV (k := 2) (As := [.int (0 : Int32), .int (9 : Int32)]) (st := []) (S1 := fun r => .int r :: []) (n := 32) hC (c_X9_isNumber l (0 : Int32) (9 : Int32)   M) kv_X9_isNumber wd_6_194 hI dX9_readsHouse_29 rfl (hI 0 (by decide)) he_X9 rfl rfl rfl (Nat.le_of_ble_eq_true rfl) ⟨Nat.le_of_ble_eq_true rfl, Nat.le_of_ble_eq_true rfl⟩ ⟨Nat.zero_le _, Nat.zero_le _⟩ (fun _ => rfl) rfl (fun r4 M4 _ => ?_)
        refine hz_if_ne (tgt := 37) (n := 35) hC dX9_readsHouse_32 (by decide) rfl (fun _ => ?_) (fun _ => ?_)
        · refine hz_iconst (v := (0 : Int32)) (n := 36) hC dX9_readsHouse_35 (by decide +kernel) rfl ?_
          exact hz_zret hC hr nz_0 dX9_readsHouse_36
        · refine hz_aload_n (a := 0) (n := 38) hC dX9_readsHouse_37 rfl rfl rfl ?_
          refine fg_X9_7 (n := 41) hC hI dX9_readsHouse_38 rfl ?_
          refine hz_iconst (v := (0 : Int32)) (n := 42) hC dX9_readsHouse_41 (by decide +kernel) rfl ?_
          refine hz_ialdc (k := 0) (n := 43) hC (by decide +kernel) (by decide) dX9_readsHouse_42 (hI 1 (by decide)) ha_m1 rfl ?_
          refine hz_bipush (v := (10 : Int32)) (n := 45) hC dX9_readsHouse_43 (by decide +kernel) rfl ?_
          refine hz_icmp_ne (tgt := 54) (n := 48) hC dX9_readsHouse_45 (by decide) rfl (fun _ => ?_) (fun _ => ?_)
          · refine hz_aload_n (a := 0) (n := 49) hC dX9_readsHouse_48 rfl rfl rfl ?_
            refine hz_iconst (v := (3 : Int32)) (n := 50) hC dX9_readsHouse_49 (by decide +kernel) rfl ?_
            refine hz_callV (k := 1) (As := [.int (3 : Int32)]) (st := []) (S1 := fun r => .int r :: []) (n := 53) hC (c_X9_fail l (3 : Int32)   M4) kv_X9_fail wd_6_190 hI dX9_readsHouse_50 rfl (hI 0 (by decide)) he_X9 rfl rfl rfl (Nat.le_of_ble_eq_true rfl) ⟨Nat.le_of_ble_eq_true rfl, Nat.le_of_ble_eq_true rfl⟩ ⟨Nat.zero_le _, Nat.zero_le _⟩ (fun _ => rfl) rfl (fun r5 M5 _ => ?_)
            exact hz_bret hC hr dX9_readsHouse_53
          · refine hz_aload_n (a := 0) (n := 55) hC dX9_readsHouse_54 rfl rfl rfl ?_
            refine hz_aload_n (a := 0) (n := 56) hC dX9_readsHouse_55 rfl rfl rfl ?_
            refine fg_X9_7 (n := 59) hC hI dX9_readsHouse_56 rfl ?_
            refine hz_iconst (v := (0 : Int32)) (n := 60) hC dX9_readsHouse_59 (by decide +kernel) rfl ?_
            refine hz_ialdc (k := 0) (n := 61) hC (by decide +kernel) (by decide) dX9_readsHouse_60 (hI 1 (by decide)) ha_m1 rfl ?_
            refine hz_iconst (v := (0 : Int32)) (n := 62) hC dX9_readsHouse_61 (by decide +kernel) rfl ?_
            refine hz_aload_n (a := 0) (n := 63) hC dX9_readsHouse_62 rfl rfl rfl ?_
            refine fg_X9_158 (n := 66) hC hI dX9_readsHouse_63 rfl ?_
            refine hz_callV (k := 3) (As := [.int (M4 13 1 0), .int (0 : Int32), .int (M4 13 0 19)]) (st := []) (S1 := fun _ => []) (n := 69) hC (c_X9_to l (M4 13 1 0) (0 : Int32) (M4 13 0 19)   M4) kv_X9_to wd_6_201 hI dX9_readsHouse_66 rfl (hI 0 (by decide)) he_X9 rfl rfl rfl (Nat.le_of_ble_eq_true rfl) ⟨Nat.le_of_ble_eq_true rfl, Nat.le_of_ble_eq_true rfl⟩ ⟨Nat.zero_le _, Nat.zero_le _⟩ (fun _ => rfl) rfl (fun r6 M6 _ => ?_)
            refine hz_aload_n (a := 0) (n := 70) hC dX9_readsHouse_69 rfl rfl rfl ?_
            refine hz_callV (k := 0) (As := []) (st := []) (S1 := fun _ => []) (n := 73) hC (c_X9_next l    M6) kv_X9_next wd_6_170 hI dX9_readsHouse_70 rfl (hI 0 (by decide)) he_X9 rfl rfl rfl (Nat.le_of_ble_eq_true rfl) ⟨Nat.le_of_ble_eq_true rfl, Nat.le_of_ble_eq_true rfl⟩ ⟨Nat.zero_le _, Nat.zero_le _⟩ (fun _ => rfl) rfl (fun r7 M7 _ => ?_)
            refine hz_aload_n (a := 0) (n := 74) hC dX9_readsHouse_73 rfl rfl rfl ?_
            refine hz_ldcS (k := 47) (n := 76) hC dX9_readsHouse_74 wd_6_205 (hp_st_s 27 (by decide)) rfl ?_
            refine hz_callV (k := 1) (As := [.ref (adV 47)]) (st := []) (S1 := fun r => .int r :: []) (n := 79) hC (c_X9_says l 47 (by decide)  M7) kv_X9_says wd_6_186 hI dX9_readsHouse_76 rfl (hI 0 (by decide)) he_X9 rfl rfl rfl (Nat.le_of_ble_eq_true rfl) ⟨Nat.le_of_ble_eq_true rfl, Nat.le_of_ble_eq_true rfl⟩ ⟨Nat.zero_le _, Nat.zero_le _⟩ (fun _ => rfl) rfl (fun r8 M8 _ => ?_)
            refine hz_if_eq (tgt := 98) (n := 82) hC dX9_readsHouse_79 (by decide) rfl (fun _ => ?_) (fun _ => ?_)
            · refine hz_L (L' := [(0, .ref (adr 13 0))]) [0] rfl ?_
              exact j98 _
            · refine hz_aload_n (a := 0) (n := 83) hC dX9_readsHouse_82 rfl rfl rfl ?_
              refine hz_aload_n (a := 0) (n := 84) hC dX9_readsHouse_83 rfl rfl rfl ?_
              refine fg_X9_7 (n := 87) hC hI dX9_readsHouse_84 rfl ?_
              refine hz_iconst (v := (0 : Int32)) (n := 88) hC dX9_readsHouse_87 (by decide +kernel) rfl ?_
              refine hz_ialdc (k := 0) (n := 89) hC (by decide +kernel) (by decide) dX9_readsHouse_88 (hI 1 (by decide)) ha_m1 rfl ?_
              refine hz_iconst (v := (1 : Int32)) (n := 90) hC dX9_readsHouse_89 (by decide +kernel) rfl ?_
              refine hz_iconst (v := (1 : Int32)) (n := 91) hC dX9_readsHouse_90 (by decide +kernel) rfl ?_
              refine hz_callV (k := 3) (As := [.int (M8 13 1 0), .int (1 : Int32), .int (1 : Int32)]) (st := []) (S1 := fun _ => []) (n := 94) hC (c_X9_to l (M8 13 1 0) (1 : Int32) (1 : Int32)   M8) kv_X9_to wd_6_201 hI dX9_readsHouse_91 rfl (hI 0 (by decide)) he_X9 rfl rfl rfl (Nat.le_of_ble_eq_true rfl) ⟨Nat.le_of_ble_eq_true rfl, Nat.le_of_ble_eq_true rfl⟩ ⟨Nat.zero_le _, Nat.zero_le _⟩ (fun _ => rfl) rfl (fun r9 M9 _ => ?_)
              refine hz_aload_n (a := 0) (n := 95) hC dX9_readsHouse_94 rfl rfl rfl ?_
              refine hz_callV (k := 0) (As := []) (st := []) (S1 := fun _ => []) (n := 98) hC (c_X9_next l    M9) kv_X9_next wd_6_170 hI dX9_readsHouse_95 rfl (hI 0 (by decide)) he_X9 rfl rfl rfl (Nat.le_of_ble_eq_true rfl) ⟨Nat.le_of_ble_eq_true rfl, Nat.le_of_ble_eq_true rfl⟩ ⟨Nat.zero_le _, Nat.zero_le _⟩ (fun _ => rfl) rfl (fun r10 M10 _ => ?_)
              refine hz_L (L' := [(0, .ref (adr 13 0))]) [0] rfl ?_
              exact j98 _
  refine hz_aload_n (a := 0) (n := 1) hC dX9_readsHouse_0 rfl rfl rfl ?_
  refine hz_ldcS (k := 46) (n := 3) hC dX9_readsHouse_1 wd_6_185 (hp_st_s 26 (by decide)) rfl ?_
  refine hz_callV (k := 1) (As := [.ref (adV 46)]) (st := []) (S1 := fun r => .int r :: []) (n := 6) hC (c_X9_says l 46 (by decide)  M) kv_X9_says wd_6_186 hI dX9_readsHouse_3 rfl (hI 0 (by decide)) he_X9 rfl rfl rfl (Nat.le_of_ble_eq_true rfl) ⟨Nat.le_of_ble_eq_true rfl, Nat.le_of_ble_eq_true rfl⟩ ⟨Nat.zero_le _, Nat.zero_le _⟩ (fun _ => rfl) rfl (fun r1 M1 _ => ?_)
  refine hz_if_ne (tgt := 15) (n := 9) hC dX9_readsHouse_6 (by decide) rfl (fun _ => ?_) (fun _ => ?_)
  · refine hz_aload_n (a := 0) (n := 10) hC dX9_readsHouse_9 rfl rfl rfl ?_
    refine hz_iconst (v := (1 : Int32)) (n := 11) hC dX9_readsHouse_10 (by decide +kernel) rfl ?_
    refine hz_callV (k := 1) (As := [.int (1 : Int32)]) (st := []) (S1 := fun r => .int r :: []) (n := 14) hC (c_X9_fail l (1 : Int32)   M1) kv_X9_fail wd_6_190 hI dX9_readsHouse_11 rfl (hI 0 (by decide)) he_X9 rfl rfl rfl (Nat.le_of_ble_eq_true rfl) ⟨Nat.le_of_ble_eq_true rfl, Nat.le_of_ble_eq_true rfl⟩ ⟨Nat.zero_le _, Nat.zero_le _⟩ (fun _ => rfl) rfl (fun r2 M2 _ => ?_)
    exact hz_bret hC hr dX9_readsHouse_14
  · refine hz_aload_n (a := 0) (n := 16) hC dX9_readsHouse_15 rfl rfl rfl ?_
    refine hz_callV (k := 0) (As := []) (st := []) (S1 := fun _ => []) (n := 19) hC (c_X9_next l    M1) kv_X9_next wd_6_170 hI dX9_readsHouse_16 rfl (hI 0 (by decide)) he_X9 rfl rfl rfl (Nat.le_of_ble_eq_true rfl) ⟨Nat.le_of_ble_eq_true rfl, Nat.le_of_ble_eq_true rfl⟩ ⟨Nat.zero_le _, Nat.zero_le _⟩ (fun _ => rfl) rfl (fun r3 M3 _ => ?_)
    refine hz_iconst (v := (1 : Int32)) (n := 20) hC dX9_readsHouse_19 (by decide +kernel) rfl ?_
    refine hz_istore_n (L' := [(1, .int (1 : Int32)), (0, .ref (adr 13 0))]) (n := 21) hC dX9_readsHouse_20 rfl (by decide) rfl rfl ?_
    refine hz_L (L' := [(0, .ref (adr 13 0)), (1, .int (1 : Int32))]) [1, 0] rfl ?_
    exact l21 hp_fu _ _
def F_X9_settingAhead  (M : hp_M) : Option (Int32 × hp_M) := (hp_b (F_X9_says 48 M) (fun r1 M1 => (if r1 = 0 then (hp_b (F_X9_says 49 M1) (fun r2 M2 => (if r2 = 0 then (hp_b (F_X9_says 50 M2) (fun r3 M3 => (if r3 = 0 then (hp_b (F_X9_says 51 M3) (fun r4 M4 => (if r4 = 0 then (hp_b (F_X9_says 52 M4) (fun r5 M5 => (if r5 = 0 then (hp_b (F_X9_says 53 M5) (fun r6 M6 => (if r6 = 0 then (some ((-1 : Int32), M6)) else (some ((5 : Int32), M6))))) else (some ((4 : Int32), M5))))) else (some ((3 : Int32), M4))))) else (some ((2 : Int32), M3))))) else (some ((1 : Int32), M2))))) else (some ((0 : Int32), M1)))))
set_option maxRecDepth 20000 in
set_option maxHeartbeats 4000000 in
theorem c_X9_settingAhead (l : Launch)   (M : hp_M) : hp_Ct l yX9_settingAhead cX9_settingAhead 1 (some .int) 5 hp_IR (fun adr adV => [.ref (adr 13 0)]) hp_oi M (F_X9_settingAhead  M) := by
  refine hp_start "HallPhoneModel" (fun adr adV => [(0, .ref (adr 13 0))]) (by decide) rfl (fun _ _ => by simp only [lg_sl]; exact Nat.le_of_ble_eq_true rfl) (fun _ _ => rfl) ?_
  intro p e s m args below meth c A D ids adr adV cA rep G0 hI hC hr
  unfold F_X9_settingAhead
  refine hz_aload_n (a := 0) (n := 1) hC dX9_settingAhead_0 rfl rfl rfl ?_
  refine hz_ldcS (k := 48) (n := 3) hC dX9_settingAhead_1 wd_6_214 (hp_st_s 28 (by decide)) rfl ?_
  refine hz_callV (k := 1) (As := [.ref (adV 48)]) (st := []) (S1 := fun r => .int r :: []) (n := 6) hC (c_X9_says l 48 (by decide)  M) kv_X9_says wd_6_186 hI dX9_settingAhead_3 rfl (hI 0 (by decide)) he_X9 rfl rfl rfl (Nat.le_of_ble_eq_true rfl) ⟨Nat.le_of_ble_eq_true rfl, Nat.le_of_ble_eq_true rfl⟩ ⟨Nat.zero_le _, Nat.zero_le _⟩ (fun _ => rfl) rfl (fun r1 M1 _ => ?_)
  refine hz_if_eq (tgt := 13) (n := 9) hC dX9_settingAhead_6 (by decide) rfl (fun _ => ?_) (fun _ => ?_)
  · refine hz_aload_n (a := 0) (n := 14) hC dX9_settingAhead_13 rfl rfl rfl ?_
    refine hz_ldcS (k := 49) (n := 16) hC dX9_settingAhead_14 wd_6_215 (hp_st_s 29 (by decide)) rfl ?_
    refine hz_callV (k := 1) (As := [.ref (adV 49)]) (st := []) (S1 := fun r => .int r :: []) (n := 19) hC (c_X9_says l 49 (by decide)  M1) kv_X9_says wd_6_186 hI dX9_settingAhead_16 rfl (hI 0 (by decide)) he_X9 rfl rfl rfl (Nat.le_of_ble_eq_true rfl) ⟨Nat.le_of_ble_eq_true rfl, Nat.le_of_ble_eq_true rfl⟩ ⟨Nat.zero_le _, Nat.zero_le _⟩ (fun _ => rfl) rfl (fun r2 M2 _ => ?_)
    refine hz_if_eq (tgt := 26) (n := 22) hC dX9_settingAhead_19 (by decide) rfl (fun _ => ?_) (fun _ => ?_)
    · refine hz_aload_n (a := 0) (n := 27) hC dX9_settingAhead_26 rfl rfl rfl ?_
      refine hz_ldcS (k := 50) (n := 29) hC dX9_settingAhead_27 wd_6_216 (hp_st_s 30 (by decide)) rfl ?_
      refine hz_callV (k := 1) (As := [.ref (adV 50)]) (st := []) (S1 := fun r => .int r :: []) (n := 32) hC (c_X9_says l 50 (by decide)  M2) kv_X9_says wd_6_186 hI dX9_settingAhead_29 rfl (hI 0 (by decide)) he_X9 rfl rfl rfl (Nat.le_of_ble_eq_true rfl) ⟨Nat.le_of_ble_eq_true rfl, Nat.le_of_ble_eq_true rfl⟩ ⟨Nat.zero_le _, Nat.zero_le _⟩ (fun _ => rfl) rfl (fun r3 M3 _ => ?_)
      refine hz_if_eq (tgt := 39) (n := 35) hC dX9_settingAhead_32 (by decide) rfl (fun _ => ?_) (fun _ => ?_)
      · refine hz_aload_n (a := 0) (n := 40) hC dX9_settingAhead_39 rfl rfl rfl ?_
        refine hz_ldcS (k := 51) (n := 42) hC dX9_settingAhead_40 wd_6_217 (hp_st_s 31 (by decide)) rfl ?_
        refine hz_callV (k := 1) (As := [.ref (adV 51)]) (st := []) (S1 := fun r => .int r :: []) (n := 45) hC (c_X9_says l 51 (by decide)  M3) kv_X9_says wd_6_186 hI dX9_settingAhead_42 rfl (hI 0 (by decide)) he_X9 rfl rfl rfl (Nat.le_of_ble_eq_true rfl) ⟨Nat.le_of_ble_eq_true rfl, Nat.le_of_ble_eq_true rfl⟩ ⟨Nat.zero_le _, Nat.zero_le _⟩ (fun _ => rfl) rfl (fun r4 M4 _ => ?_)
        refine hz_if_eq (tgt := 52) (n := 48) hC dX9_settingAhead_45 (by decide) rfl (fun _ => ?_) (fun _ => ?_)
        · refine hz_aload_n (a := 0) (n := 53) hC dX9_settingAhead_52 rfl rfl rfl ?_
          refine hz_ldcS (k := 52) (n := 55) hC dX9_settingAhead_53 wd_6_218 (hp_st_s 32 (by decide)) rfl ?_
          refine hz_callV (k := 1) (As := [.ref (adV 52)]) (st := []) (S1 := fun r => .int r :: []) (n := 58) hC (c_X9_says l 52 (by decide)  M4) kv_X9_says wd_6_186 hI dX9_settingAhead_55 rfl (hI 0 (by decide)) he_X9 rfl rfl rfl (Nat.le_of_ble_eq_true rfl) ⟨Nat.le_of_ble_eq_true rfl, Nat.le_of_ble_eq_true rfl⟩ ⟨Nat.zero_le _, Nat.zero_le _⟩ (fun _ => rfl) rfl (fun r5 M5 _ => ?_)
          refine hz_if_eq (tgt := 65) (n := 61) hC dX9_settingAhead_58 (by decide) rfl (fun _ => ?_) (fun _ => ?_)
          · refine hz_aload_n (a := 0) (n := 66) hC dX9_settingAhead_65 rfl rfl rfl ?_
            refine hz_ldcS (k := 53) (n := 68) hC dX9_settingAhead_66 wd_6_219 (hp_st_s 33 (by decide)) rfl ?_
            refine hz_callV (k := 1) (As := [.ref (adV 53)]) (st := []) (S1 := fun r => .int r :: []) (n := 71) hC (c_X9_says l 53 (by decide)  M5) kv_X9_says wd_6_186 hI dX9_settingAhead_68 rfl (hI 0 (by decide)) he_X9 rfl rfl rfl (Nat.le_of_ble_eq_true rfl) ⟨Nat.le_of_ble_eq_true rfl, Nat.le_of_ble_eq_true rfl⟩ ⟨Nat.zero_le _, Nat.zero_le _⟩ (fun _ => rfl) rfl (fun r6 M6 _ => ?_)
            refine hz_if_eq (tgt := 78) (n := 74) hC dX9_settingAhead_71 (by decide) rfl (fun _ => ?_) (fun _ => ?_)
            · refine hz_iconst (v := (-1 : Int32)) (n := 79) hC dX9_settingAhead_78 (by decide +kernel) rfl ?_
              exact hz_iret hC hr dX9_settingAhead_79
            · refine hz_iconst (v := (5 : Int32)) (n := 75) hC dX9_settingAhead_74 (by decide +kernel) rfl ?_
              refine hz_goto (n := 79) hC dX9_settingAhead_75 (by decide) ?_
              exact hz_iret hC hr dX9_settingAhead_79
          · refine hz_iconst (v := (4 : Int32)) (n := 62) hC dX9_settingAhead_61 (by decide +kernel) rfl ?_
            refine hz_goto (n := 79) hC dX9_settingAhead_62 (by decide) ?_
            exact hz_iret hC hr dX9_settingAhead_79
        · refine hz_iconst (v := (3 : Int32)) (n := 49) hC dX9_settingAhead_48 (by decide +kernel) rfl ?_
          refine hz_goto (n := 79) hC dX9_settingAhead_49 (by decide) ?_
          exact hz_iret hC hr dX9_settingAhead_79
      · refine hz_iconst (v := (2 : Int32)) (n := 36) hC dX9_settingAhead_35 (by decide +kernel) rfl ?_
        refine hz_goto (n := 79) hC dX9_settingAhead_36 (by decide) ?_
        exact hz_iret hC hr dX9_settingAhead_79
    · refine hz_iconst (v := (1 : Int32)) (n := 23) hC dX9_settingAhead_22 (by decide +kernel) rfl ?_
      refine hz_goto (n := 79) hC dX9_settingAhead_23 (by decide) ?_
      exact hz_iret hC hr dX9_settingAhead_79
  · refine hz_iconst (v := (0 : Int32)) (n := 10) hC dX9_settingAhead_9 (by decide +kernel) rfl ?_
    refine hz_goto (n := 79) hC dX9_settingAhead_10 (by decide) ?_
    exact hz_iret hC hr dX9_settingAhead_79
def F_X9_readsStatement  (M : hp_M) : Option (Int32 × hp_M) := (hp_b (F_X9_settingAhead M) (fun r1 M1 => (if r1 = (-1 : Int32) then (hp_b (F_X9_says 54 M1) (fun r2 M2 => (if r2 = 0 then (hp_b (F_X9_says 55 M2) (fun r3 M3 => (if r3 = 0 then (hp_b (F_X9_says 56 M3) (fun r4 M4 => (if r4 = 0 then (hp_b (F_X9_says 57 M4) (fun r5 M5 => (if r5 = 0 then (hp_b (F_X9_says 58 M5) (fun r6 M6 => (if r6 = 0 then (hp_b (F_X9_says 59 M6) (fun r7 M7 => (if r7 = 0 then (hp_b (F_X9_fail (1 : Int32) M7) (fun r8 M8 => (if r8 = 0 ∨ r8 = 1 then some (r8, M8) else none))) else (hp_b (F_X9_next M7) (fun _ M9 => (hp_b (F_X9_number (0 : Int32) (1 : Int32) (999 : Int32) M9) (fun r10 M10 => (if r10 = 0 then (some ((0 : Int32), M10)) else (hp_b (F_X9_isSemicolon M10) (fun r11 M11 => (if r11 = 0 then (some ((0 : Int32), M11)) else (hp_b (F_X9_minutes (M11 13 9 0) M11) (fun r12 M12 => (if r12 < 0 then (some ((0 : Int32), M12)) else (some ((1 : Int32), M12)))))))))))))))) else (hp_b (F_X9_next M6) (fun _ M13 => (hp_b (F_X9_flatAt M13) (fun r14 M14 => (if r14 = 0 then (some ((0 : Int32), M14)) else (hp_b (F_X9_number (1 : Int32) (1 : Int32) (9999 : Int32) M14) (fun r15 M15 => (if r15 = 0 then (some ((0 : Int32), M15)) else (hp_b (F_X9_isSemicolon M15) (fun r16 M16 => (if r16 = 0 then (some ((0 : Int32), M16)) else (hp_b (F_X9_pays (M16 13 9 0) (M16 13 9 1) M16) (fun r17 M17 => (hp_b (F_X9_isDone r17 M17) (fun r18 M18 => (if r18 = 0 then (some ((0 : Int32), M18)) else (some ((1 : Int32), M18))))))))))))))))))))) else (hp_b (F_X9_next M5) (fun _ M19 => (hp_b (F_X9_flatAt M19) (fun r20 M20 => (if r20 = 0 then (some ((0 : Int32), M20)) else (hp_b (F_X9_number (1 : Int32) (1 : Int32) (99 : Int32) M20) (fun r21 M21 => (if r21 = 0 then (some ((0 : Int32), M21)) else (hp_b (F_X9_isSemicolon M21) (fun r22 M22 => (if r22 = 0 then (some ((0 : Int32), M22)) else (hp_b (F_X9_rings (M22 13 9 0) (M22 13 9 1) M22) (fun r23 M23 => (hp_b (F_X9_isDone r23 M23) (fun r24 M24 => (if r24 = 0 then (some ((0 : Int32), M24)) else (some ((1 : Int32), M24))))))))))))))))))))) else (hp_b (F_X9_next M4) (fun _ M25 => (hp_b (F_X9_flatAt M25) (fun r26 M26 => (if r26 = 0 then (some ((0 : Int32), M26)) else (hp_b (F_X9_isSemicolon M26) (fun r27 M27 => (if r27 = 0 then (some ((0 : Int32), M27)) else (hp_b (F_X9_hangs (M27 13 9 0) M27) (fun r28 M28 => (hp_b (F_X9_isDone r28 M28) (fun r29 M29 => (if r29 = 0 then (some ((0 : Int32), M29)) else (some ((1 : Int32), M29)))))))))))))))))) else (hp_b (F_X9_next M3) (fun _ M30 => (hp_b (F_X9_flatAt M30) (fun r31 M31 => (if r31 = 0 then (some ((0 : Int32), M31)) else (hp_b (F_X9_isSemicolon M31) (fun r32 M32 => (if r32 = 0 then (some ((0 : Int32), M32)) else (hp_b (F_X9_gives (M32 13 9 0) M32) (fun r33 M33 => (hp_b (F_X9_isDone r33 M33) (fun r34 M34 => (if r34 = 0 then (some ((0 : Int32), M34)) else (some ((1 : Int32), M34)))))))))))))))))) else (hp_b (F_X9_next M2) (fun _ M35 => (hp_b (F_X9_flatAt M35) (fun r36 M36 => (if r36 = 0 then (some ((0 : Int32), M36)) else (hp_b (F_X9_number (1 : Int32) (1 : Int32) (99 : Int32) M36) (fun r37 M37 => (if r37 = 0 then (some ((0 : Int32), M37)) else (hp_b (F_X9_isSemicolon M37) (fun r38 M38 => (if r38 = 0 then (some ((0 : Int32), M38)) else (hp_b (F_X9_wants (M38 13 9 0) (M38 13 9 1) M38) (fun r39 M39 => (hp_b (F_X9_isDone r39 M39) (fun r40 M40 => (if r40 = 0 then (some ((0 : Int32), M40)) else (some ((1 : Int32), M40))))))))))))))))))))) else (hp_b (F_X9_readsSetting r1 M1) (fun r41 M41 => (if r41 = 0 ∨ r41 = 1 then some (r41, M41) else none))))))
set_option maxRecDepth 20000 in
set_option maxHeartbeats 4000000 in
theorem c_X9_readsStatement (l : Launch)   (M : hp_M) : hp_Ct l yX9_readsStatement cX9_readsStatement 2 (some .boolean) 6 hp_IR (fun adr adV => [.ref (adr 13 0)]) hp_oi M (F_X9_readsStatement  M) := by
  refine hp_start "HallPhoneModel" (fun adr adV => [(0, .ref (adr 13 0))]) (by decide) rfl (fun _ _ => by simp only [lg_sl]; exact Nat.le_of_ble_eq_true rfl) (fun _ _ => rfl) ?_
  intro p e s m args below meth c A D ids adr adV cA rep G0 hI hC hr
  unfold F_X9_readsStatement
  refine hz_aload_n (a := 0) (n := 1) hC dX9_readsStatement_0 rfl rfl rfl ?_
  refine hz_callV (k := 0) (As := []) (st := []) (S1 := fun r => .int r :: []) (n := 4) hC (c_X9_settingAhead l    M) kv_X9_settingAhead wd_6_210 hI dX9_readsStatement_1 rfl (hI 0 (by decide)) he_X9 rfl rfl rfl (Nat.le_of_ble_eq_true rfl) ⟨Nat.le_of_ble_eq_true rfl, Nat.le_of_ble_eq_true rfl⟩ ⟨Nat.zero_le _, Nat.zero_le _⟩ (fun _ => rfl) rfl (fun r1 M1 _ => ?_)
  refine hz_istore_n (L' := [(1, .int r1), (0, .ref (adr 13 0))]) (n := 5) hC dX9_readsStatement_4 rfl (by decide) rfl rfl ?_
  refine hz_iload_n (a := 0) (n := 6) hC dX9_readsStatement_5 rfl rfl rfl ?_
  refine hz_iconst (v := (-1 : Int32)) (n := 7) hC dX9_readsStatement_6 (by decide +kernel) rfl ?_
  refine hz_icmp_eq (tgt := 16) (n := 10) hC dX9_readsStatement_7 (by decide) rfl (fun _ => ?_) (fun _ => ?_)
  · refine hz_aload_n (a := 1) (n := 17) hC dX9_readsStatement_16 rfl rfl rfl ?_
    refine hz_ldcS (k := 54) (n := 19) hC dX9_readsStatement_17 wd_6_234 (hp_st_s 34 (by decide)) rfl ?_
    refine hz_callV (k := 1) (As := [.ref (adV 54)]) (st := []) (S1 := fun r => .int r :: []) (n := 22) hC (c_X9_says l 54 (by decide)  M1) kv_X9_says wd_6_186 hI dX9_readsStatement_19 rfl (hI 0 (by decide)) he_X9 rfl rfl rfl (Nat.le_of_ble_eq_true rfl) ⟨Nat.le_of_ble_eq_true rfl, Nat.le_of_ble_eq_true rfl⟩ ⟨Nat.zero_le _, Nat.zero_le _⟩ (fun _ => rfl) rfl (fun r2 M2 _ => ?_)
    refine hz_if_eq (tgt := 83) (n := 25) hC dX9_readsStatement_22 (by decide) rfl (fun _ => ?_) (fun _ => ?_)
    · refine hz_aload_n (a := 1) (n := 84) hC dX9_readsStatement_83 rfl rfl rfl ?_
      refine hz_ldcS (k := 55) (n := 86) hC dX9_readsStatement_84 wd_7_15 (hp_st_s 35 (by decide)) rfl ?_
      refine hz_callV (k := 1) (As := [.ref (adV 55)]) (st := []) (S1 := fun r => .int r :: []) (n := 89) hC (c_X9_says l 55 (by decide)  M2) kv_X9_says wd_6_186 hI dX9_readsStatement_86 rfl (hI 0 (by decide)) he_X9 rfl rfl rfl (Nat.le_of_ble_eq_true rfl) ⟨Nat.le_of_ble_eq_true rfl, Nat.le_of_ble_eq_true rfl⟩ ⟨Nat.zero_le _, Nat.zero_le _⟩ (fun _ => rfl) rfl (fun r3 M3 _ => ?_)
      refine hz_if_eq (tgt := 133) (n := 92) hC dX9_readsStatement_89 (by decide) rfl (fun _ => ?_) (fun _ => ?_)
      · refine hz_aload_n (a := 1) (n := 134) hC dX9_readsStatement_133 rfl rfl rfl ?_
        refine hz_ldcS (k := 56) (n := 136) hC dX9_readsStatement_134 wd_7_32 (hp_st_s 36 (by decide)) rfl ?_
        refine hz_callV (k := 1) (As := [.ref (adV 56)]) (st := []) (S1 := fun r => .int r :: []) (n := 139) hC (c_X9_says l 56 (by decide)  M3) kv_X9_says wd_6_186 hI dX9_readsStatement_136 rfl (hI 0 (by decide)) he_X9 rfl rfl rfl (Nat.le_of_ble_eq_true rfl) ⟨Nat.le_of_ble_eq_true rfl, Nat.le_of_ble_eq_true rfl⟩ ⟨Nat.zero_le _, Nat.zero_le _⟩ (fun _ => rfl) rfl (fun r4 M4 _ => ?_)
        refine hz_if_eq (tgt := 183) (n := 142) hC dX9_readsStatement_139 (by decide) rfl (fun _ => ?_) (fun _ => ?_)
        · refine hz_aload_n (a := 1) (n := 184) hC dX9_readsStatement_183 rfl rfl rfl ?_
          refine hz_ldcS (k := 57) (n := 186) hC dX9_readsStatement_184 wd_7_57 (hp_st_s 37 (by decide)) rfl ?_
          refine hz_callV (k := 1) (As := [.ref (adV 57)]) (st := []) (S1 := fun r => .int r :: []) (n := 189) hC (c_X9_says l 57 (by decide)  M4) kv_X9_says wd_6_186 hI dX9_readsStatement_186 rfl (hI 0 (by decide)) he_X9 rfl rfl rfl (Nat.le_of_ble_eq_true rfl) ⟨Nat.le_of_ble_eq_true rfl, Nat.le_of_ble_eq_true rfl⟩ ⟨Nat.zero_le _, Nat.zero_le _⟩ (fun _ => rfl) rfl (fun r5 M5 _ => ?_)
          refine hz_if_eq (tgt := 250) (n := 192) hC dX9_readsStatement_189 (by decide) rfl (fun _ => ?_) (fun _ => ?_)
          · refine hz_aload_n (a := 1) (n := 251) hC dX9_readsStatement_250 rfl rfl rfl ?_
            refine hz_ldcS (k := 58) (n := 253) hC dX9_readsStatement_251 wd_7_70 (hp_st_s 38 (by decide)) rfl ?_
            refine hz_callV (k := 1) (As := [.ref (adV 58)]) (st := []) (S1 := fun r => .int r :: []) (n := 256) hC (c_X9_says l 58 (by decide)  M5) kv_X9_says wd_6_186 hI dX9_readsStatement_253 rfl (hI 0 (by decide)) he_X9 rfl rfl rfl (Nat.le_of_ble_eq_true rfl) ⟨Nat.le_of_ble_eq_true rfl, Nat.le_of_ble_eq_true rfl⟩ ⟨Nat.zero_le _, Nat.zero_le _⟩ (fun _ => rfl) rfl (fun r6 M6 _ => ?_)
            refine hz_if_eq (tgt := 318) (n := 259) hC dX9_readsStatement_256 (by decide) rfl (fun _ => ?_) (fun _ => ?_)
            · refine hz_aload_n (a := 1) (n := 319) hC dX9_readsStatement_318 rfl rfl rfl ?_
              refine hz_ldcS (k := 59) (n := 321) hC dX9_readsStatement_319 wd_7_75 (hp_st_s 39 (by decide)) rfl ?_
              refine hz_callV (k := 1) (As := [.ref (adV 59)]) (st := []) (S1 := fun r => .int r :: []) (n := 324) hC (c_X9_says l 59 (by decide)  M6) kv_X9_says wd_6_186 hI dX9_readsStatement_321 rfl (hI 0 (by decide)) he_X9 rfl rfl rfl (Nat.le_of_ble_eq_true rfl) ⟨Nat.le_of_ble_eq_true rfl, Nat.le_of_ble_eq_true rfl⟩ ⟨Nat.zero_le _, Nat.zero_le _⟩ (fun _ => rfl) rfl (fun r7 M7 _ => ?_)
              refine hz_if_eq (tgt := 369) (n := 327) hC dX9_readsStatement_324 (by decide) rfl (fun _ => ?_) (fun _ => ?_)
              · refine hz_aload_n (a := 1) (n := 370) hC dX9_readsStatement_369 rfl rfl rfl ?_
                refine hz_iconst (v := (1 : Int32)) (n := 371) hC dX9_readsStatement_370 (by decide +kernel) rfl ?_
                refine hz_callV (k := 1) (As := [.int (1 : Int32)]) (st := []) (S1 := fun r => .int r :: []) (n := 374) hC (c_X9_fail l (1 : Int32)   M7) kv_X9_fail wd_6_190 hI dX9_readsStatement_371 rfl (hI 0 (by decide)) he_X9 rfl rfl rfl (Nat.le_of_ble_eq_true rfl) ⟨Nat.le_of_ble_eq_true rfl, Nat.le_of_ble_eq_true rfl⟩ ⟨Nat.zero_le _, Nat.zero_le _⟩ (fun _ => rfl) rfl (fun r8 M8 _ => ?_)
                exact hz_bret hC hr dX9_readsStatement_374
              · refine hz_aload_n (a := 1) (n := 328) hC dX9_readsStatement_327 rfl rfl rfl ?_
                refine hz_callV (k := 0) (As := []) (st := []) (S1 := fun _ => []) (n := 331) hC (c_X9_next l    M7) kv_X9_next wd_6_170 hI dX9_readsStatement_328 rfl (hI 0 (by decide)) he_X9 rfl rfl rfl (Nat.le_of_ble_eq_true rfl) ⟨Nat.le_of_ble_eq_true rfl, Nat.le_of_ble_eq_true rfl⟩ ⟨Nat.zero_le _, Nat.zero_le _⟩ (fun _ => rfl) rfl (fun r9 M9 _ => ?_)
                refine hz_aload_n (a := 1) (n := 332) hC dX9_readsStatement_331 rfl rfl rfl ?_
                refine hz_iconst (v := (0 : Int32)) (n := 333) hC dX9_readsStatement_332 (by decide +kernel) rfl ?_
                refine hz_iconst (v := (1 : Int32)) (n := 334) hC dX9_readsStatement_333 (by decide +kernel) rfl ?_
                refine hz_sipush (v := (999 : Int32)) (n := 337) hC dX9_readsStatement_334 (by decide +kernel) rfl ?_
                refine hz_callV (k := 3) (As := [.int (0 : Int32), .int (1 : Int32), .int (999 : Int32)]) (st := []) (S1 := fun r => .int r :: []) (n := 340) hC (c_X9_number l (0 : Int32) (1 : Int32) (999 : Int32)   M9) kv_X9_number wd_6_230 hI dX9_readsStatement_337 rfl (hI 0 (by decide)) he_X9 rfl rfl rfl (Nat.le_of_ble_eq_true rfl) ⟨Nat.le_of_ble_eq_true rfl, Nat.le_of_ble_eq_true rfl⟩ ⟨Nat.zero_le _, Nat.zero_le _⟩ (fun _ => rfl) rfl (fun r10 M10 _ => ?_)
                refine hz_if_eq (tgt := 367) (n := 343) hC dX9_readsStatement_340 (by decide) rfl (fun _ => ?_) (fun _ => ?_)
                · refine hz_iconst (v := (0 : Int32)) (n := 368) hC dX9_readsStatement_367 (by decide +kernel) rfl ?_
                  exact hz_zret hC hr nz_0 dX9_readsStatement_368
                · refine hz_aload_n (a := 1) (n := 344) hC dX9_readsStatement_343 rfl rfl rfl ?_
                  refine hz_callV (k := 0) (As := []) (st := []) (S1 := fun r => .int r :: []) (n := 347) hC (c_X9_isSemicolon l    M10) kv_X9_isSemicolon wd_6_239 hI dX9_readsStatement_344 rfl (hI 0 (by decide)) he_X9 rfl rfl rfl (Nat.le_of_ble_eq_true rfl) ⟨Nat.le_of_ble_eq_true rfl, Nat.le_of_ble_eq_true rfl⟩ ⟨Nat.zero_le _, Nat.zero_le _⟩ (fun _ => rfl) rfl (fun r11 M11 _ => ?_)
                  refine hz_if_eq (tgt := 367) (n := 350) hC dX9_readsStatement_347 (by decide) rfl (fun _ => ?_) (fun _ => ?_)
                  · refine hz_iconst (v := (0 : Int32)) (n := 368) hC dX9_readsStatement_367 (by decide +kernel) rfl ?_
                    exact hz_zret hC hr nz_0 dX9_readsStatement_368
                  · refine hz_aload_n (a := 1) (n := 351) hC dX9_readsStatement_350 rfl rfl rfl ?_
                    refine hz_aload_n (a := 1) (n := 352) hC dX9_readsStatement_351 rfl rfl rfl ?_
                    refine fg_X9_35 (n := 355) hC hI dX9_readsStatement_352 rfl ?_
                    refine hz_iconst (v := (0 : Int32)) (n := 356) hC dX9_readsStatement_355 (by decide +kernel) rfl ?_
                    refine hz_ialdc (k := 0) (n := 357) hC (by decide +kernel) (by decide) dX9_readsStatement_356 (hI 9 (by decide)) ha_m9 rfl ?_
                    refine hz_callV (k := 1) (As := [.int (M11 13 9 0)]) (st := []) (S1 := fun r => .int r :: []) (n := 360) hC (c_X9_minutes l (M11 13 9 0)   M11) kv_X9_minutes wd_7_76 hI dX9_readsStatement_357 rfl (hI 0 (by decide)) he_X9 rfl rfl rfl (Nat.le_of_ble_eq_true rfl) ⟨Nat.le_of_ble_eq_true rfl, Nat.le_of_ble_eq_true rfl⟩ ⟨Nat.zero_le _, Nat.zero_le _⟩ (fun _ => rfl) rfl (fun r12 M12 _ => ?_)
                    refine hz_if_lt (tgt := 367) (n := 363) hC dX9_readsStatement_360 (by decide) rfl (fun _ => ?_) (fun _ => ?_)
                    · refine hz_iconst (v := (0 : Int32)) (n := 368) hC dX9_readsStatement_367 (by decide +kernel) rfl ?_
                      exact hz_zret hC hr nz_0 dX9_readsStatement_368
                    · refine hz_iconst (v := (1 : Int32)) (n := 364) hC dX9_readsStatement_363 (by decide +kernel) rfl ?_
                      refine hz_goto (n := 368) hC dX9_readsStatement_364 (by decide) ?_
                      exact hz_zret hC hr nz_1 dX9_readsStatement_368
            · refine hz_aload_n (a := 1) (n := 260) hC dX9_readsStatement_259 rfl rfl rfl ?_
              refine hz_callV (k := 0) (As := []) (st := []) (S1 := fun _ => []) (n := 263) hC (c_X9_next l    M6) kv_X9_next wd_6_170 hI dX9_readsStatement_260 rfl (hI 0 (by decide)) he_X9 rfl rfl rfl (Nat.le_of_ble_eq_true rfl) ⟨Nat.le_of_ble_eq_true rfl, Nat.le_of_ble_eq_true rfl⟩ ⟨Nat.zero_le _, Nat.zero_le _⟩ (fun _ => rfl) rfl (fun r13 M13 _ => ?_)
              refine hz_aload_n (a := 1) (n := 264) hC dX9_readsStatement_263 rfl rfl rfl ?_
              refine hz_callV (k := 0) (As := []) (st := []) (S1 := fun r => .int r :: []) (n := 267) hC (c_X9_flatAt l    M13) kv_X9_flatAt wd_6_235 hI dX9_readsStatement_264 rfl (hI 0 (by decide)) he_X9 rfl rfl rfl (Nat.le_of_ble_eq_true rfl) ⟨Nat.le_of_ble_eq_true rfl, Nat.le_of_ble_eq_true rfl⟩ ⟨Nat.zero_le _, Nat.zero_le _⟩ (fun _ => rfl) rfl (fun r14 M14 _ => ?_)
              refine hz_if_eq (tgt := 316) (n := 270) hC dX9_readsStatement_267 (by decide) rfl (fun _ => ?_) (fun _ => ?_)
              · refine hz_iconst (v := (0 : Int32)) (n := 317) hC dX9_readsStatement_316 (by decide +kernel) rfl ?_
                exact hz_zret hC hr nz_0 dX9_readsStatement_317
              · refine hz_aload_n (a := 1) (n := 271) hC dX9_readsStatement_270 rfl rfl rfl ?_
                refine hz_iconst (v := (1 : Int32)) (n := 272) hC dX9_readsStatement_271 (by decide +kernel) rfl ?_
                refine hz_iconst (v := (1 : Int32)) (n := 273) hC dX9_readsStatement_272 (by decide +kernel) rfl ?_
                refine hz_sipush (v := (9999 : Int32)) (n := 276) hC dX9_readsStatement_273 (by decide +kernel) rfl ?_
                refine hz_callV (k := 3) (As := [.int (1 : Int32), .int (1 : Int32), .int (9999 : Int32)]) (st := []) (S1 := fun r => .int r :: []) (n := 279) hC (c_X9_number l (1 : Int32) (1 : Int32) (9999 : Int32)   M14) kv_X9_number wd_6_230 hI dX9_readsStatement_276 rfl (hI 0 (by decide)) he_X9 rfl rfl rfl (Nat.le_of_ble_eq_true rfl) ⟨Nat.le_of_ble_eq_true rfl, Nat.le_of_ble_eq_true rfl⟩ ⟨Nat.zero_le _, Nat.zero_le _⟩ (fun _ => rfl) rfl (fun r15 M15 _ => ?_)
                refine hz_if_eq (tgt := 316) (n := 282) hC dX9_readsStatement_279 (by decide) rfl (fun _ => ?_) (fun _ => ?_)
                · refine hz_iconst (v := (0 : Int32)) (n := 317) hC dX9_readsStatement_316 (by decide +kernel) rfl ?_
                  exact hz_zret hC hr nz_0 dX9_readsStatement_317
                · refine hz_aload_n (a := 1) (n := 283) hC dX9_readsStatement_282 rfl rfl rfl ?_
                  refine hz_callV (k := 0) (As := []) (st := []) (S1 := fun r => .int r :: []) (n := 286) hC (c_X9_isSemicolon l    M15) kv_X9_isSemicolon wd_6_239 hI dX9_readsStatement_283 rfl (hI 0 (by decide)) he_X9 rfl rfl rfl (Nat.le_of_ble_eq_true rfl) ⟨Nat.le_of_ble_eq_true rfl, Nat.le_of_ble_eq_true rfl⟩ ⟨Nat.zero_le _, Nat.zero_le _⟩ (fun _ => rfl) rfl (fun r16 M16 _ => ?_)
                  refine hz_if_eq (tgt := 316) (n := 289) hC dX9_readsStatement_286 (by decide) rfl (fun _ => ?_) (fun _ => ?_)
                  · refine hz_iconst (v := (0 : Int32)) (n := 317) hC dX9_readsStatement_316 (by decide +kernel) rfl ?_
                    exact hz_zret hC hr nz_0 dX9_readsStatement_317
                  · refine hz_aload_n (a := 1) (n := 290) hC dX9_readsStatement_289 rfl rfl rfl ?_
                    refine hz_aload_n (a := 1) (n := 291) hC dX9_readsStatement_290 rfl rfl rfl ?_
                    refine hz_aload_n (a := 1) (n := 292) hC dX9_readsStatement_291 rfl rfl rfl ?_
                    refine fg_X9_35 (n := 295) hC hI dX9_readsStatement_292 rfl ?_
                    refine hz_iconst (v := (0 : Int32)) (n := 296) hC dX9_readsStatement_295 (by decide +kernel) rfl ?_
                    refine hz_ialdc (k := 0) (n := 297) hC (by decide +kernel) (by decide) dX9_readsStatement_296 (hI 9 (by decide)) ha_m9 rfl ?_
                    refine hz_aload_n (a := 1) (n := 298) hC dX9_readsStatement_297 rfl rfl rfl ?_
                    refine fg_X9_35 (n := 301) hC hI dX9_readsStatement_298 rfl ?_
                    refine hz_iconst (v := (1 : Int32)) (n := 302) hC dX9_readsStatement_301 (by decide +kernel) rfl ?_
                    refine hz_ialdc (k := 1) (n := 303) hC (by decide +kernel) (by decide) dX9_readsStatement_302 (hI 9 (by decide)) ha_m9 rfl ?_
                    refine hz_callV (k := 2) (As := [.int (M16 13 9 0), .int (M16 13 9 1)]) (st := [.ref (adr 13 0)]) (S1 := fun r => .int r :: [.ref (adr 13 0)]) (n := 306) hC (c_X9_pays l (M16 13 9 0) (M16 13 9 1)   M16) kv_X9_pays wd_7_71 hI dX9_readsStatement_303 rfl (hI 0 (by decide)) he_X9 rfl rfl rfl (Nat.le_of_ble_eq_true rfl) ⟨Nat.le_of_ble_eq_true rfl, Nat.le_of_ble_eq_true rfl⟩ ⟨Nat.zero_le _, Nat.zero_le _⟩ (fun _ => rfl) rfl (fun r17 M17 _ => ?_)
                    refine hz_callV (k := 1) (As := [.int r17]) (st := []) (S1 := fun r => .int r :: []) (n := 309) hC (c_X9_isDone l r17   M17) kv_X9_isDone wd_7_11 hI dX9_readsStatement_306 rfl (hI 0 (by decide)) he_X9 rfl rfl rfl (Nat.le_of_ble_eq_true rfl) ⟨Nat.le_of_ble_eq_true rfl, Nat.le_of_ble_eq_true rfl⟩ ⟨Nat.zero_le _, Nat.zero_le _⟩ (fun _ => rfl) rfl (fun r18 M18 _ => ?_)
                    refine hz_if_eq (tgt := 316) (n := 312) hC dX9_readsStatement_309 (by decide) rfl (fun _ => ?_) (fun _ => ?_)
                    · refine hz_iconst (v := (0 : Int32)) (n := 317) hC dX9_readsStatement_316 (by decide +kernel) rfl ?_
                      exact hz_zret hC hr nz_0 dX9_readsStatement_317
                    · refine hz_iconst (v := (1 : Int32)) (n := 313) hC dX9_readsStatement_312 (by decide +kernel) rfl ?_
                      refine hz_goto (n := 317) hC dX9_readsStatement_313 (by decide) ?_
                      exact hz_zret hC hr nz_1 dX9_readsStatement_317
          · refine hz_aload_n (a := 1) (n := 193) hC dX9_readsStatement_192 rfl rfl rfl ?_
            refine hz_callV (k := 0) (As := []) (st := []) (S1 := fun _ => []) (n := 196) hC (c_X9_next l    M5) kv_X9_next wd_6_170 hI dX9_readsStatement_193 rfl (hI 0 (by decide)) he_X9 rfl rfl rfl (Nat.le_of_ble_eq_true rfl) ⟨Nat.le_of_ble_eq_true rfl, Nat.le_of_ble_eq_true rfl⟩ ⟨Nat.zero_le _, Nat.zero_le _⟩ (fun _ => rfl) rfl (fun r19 M19 _ => ?_)
            refine hz_aload_n (a := 1) (n := 197) hC dX9_readsStatement_196 rfl rfl rfl ?_
            refine hz_callV (k := 0) (As := []) (st := []) (S1 := fun r => .int r :: []) (n := 200) hC (c_X9_flatAt l    M19) kv_X9_flatAt wd_6_235 hI dX9_readsStatement_197 rfl (hI 0 (by decide)) he_X9 rfl rfl rfl (Nat.le_of_ble_eq_true rfl) ⟨Nat.le_of_ble_eq_true rfl, Nat.le_of_ble_eq_true rfl⟩ ⟨Nat.zero_le _, Nat.zero_le _⟩ (fun _ => rfl) rfl (fun r20 M20 _ => ?_)
            refine hz_if_eq (tgt := 248) (n := 203) hC dX9_readsStatement_200 (by decide) rfl (fun _ => ?_) (fun _ => ?_)
            · refine hz_iconst (v := (0 : Int32)) (n := 249) hC dX9_readsStatement_248 (by decide +kernel) rfl ?_
              exact hz_zret hC hr nz_0 dX9_readsStatement_249
            · refine hz_aload_n (a := 1) (n := 204) hC dX9_readsStatement_203 rfl rfl rfl ?_
              refine hz_iconst (v := (1 : Int32)) (n := 205) hC dX9_readsStatement_204 (by decide +kernel) rfl ?_
              refine hz_iconst (v := (1 : Int32)) (n := 206) hC dX9_readsStatement_205 (by decide +kernel) rfl ?_
              refine hz_bipush (v := (99 : Int32)) (n := 208) hC dX9_readsStatement_206 (by decide +kernel) rfl ?_
              refine hz_callV (k := 3) (As := [.int (1 : Int32), .int (1 : Int32), .int (99 : Int32)]) (st := []) (S1 := fun r => .int r :: []) (n := 211) hC (c_X9_number l (1 : Int32) (1 : Int32) (99 : Int32)   M20) kv_X9_number wd_6_230 hI dX9_readsStatement_208 rfl (hI 0 (by decide)) he_X9 rfl rfl rfl (Nat.le_of_ble_eq_true rfl) ⟨Nat.le_of_ble_eq_true rfl, Nat.le_of_ble_eq_true rfl⟩ ⟨Nat.zero_le _, Nat.zero_le _⟩ (fun _ => rfl) rfl (fun r21 M21 _ => ?_)
              refine hz_if_eq (tgt := 248) (n := 214) hC dX9_readsStatement_211 (by decide) rfl (fun _ => ?_) (fun _ => ?_)
              · refine hz_iconst (v := (0 : Int32)) (n := 249) hC dX9_readsStatement_248 (by decide +kernel) rfl ?_
                exact hz_zret hC hr nz_0 dX9_readsStatement_249
              · refine hz_aload_n (a := 1) (n := 215) hC dX9_readsStatement_214 rfl rfl rfl ?_
                refine hz_callV (k := 0) (As := []) (st := []) (S1 := fun r => .int r :: []) (n := 218) hC (c_X9_isSemicolon l    M21) kv_X9_isSemicolon wd_6_239 hI dX9_readsStatement_215 rfl (hI 0 (by decide)) he_X9 rfl rfl rfl (Nat.le_of_ble_eq_true rfl) ⟨Nat.le_of_ble_eq_true rfl, Nat.le_of_ble_eq_true rfl⟩ ⟨Nat.zero_le _, Nat.zero_le _⟩ (fun _ => rfl) rfl (fun r22 M22 _ => ?_)
                refine hz_if_eq (tgt := 248) (n := 221) hC dX9_readsStatement_218 (by decide) rfl (fun _ => ?_) (fun _ => ?_)
                · refine hz_iconst (v := (0 : Int32)) (n := 249) hC dX9_readsStatement_248 (by decide +kernel) rfl ?_
                  exact hz_zret hC hr nz_0 dX9_readsStatement_249
                · refine hz_aload_n (a := 1) (n := 222) hC dX9_readsStatement_221 rfl rfl rfl ?_
                  refine hz_aload_n (a := 1) (n := 223) hC dX9_readsStatement_222 rfl rfl rfl ?_
                  refine hz_aload_n (a := 1) (n := 224) hC dX9_readsStatement_223 rfl rfl rfl ?_
                  refine fg_X9_35 (n := 227) hC hI dX9_readsStatement_224 rfl ?_
                  refine hz_iconst (v := (0 : Int32)) (n := 228) hC dX9_readsStatement_227 (by decide +kernel) rfl ?_
                  refine hz_ialdc (k := 0) (n := 229) hC (by decide +kernel) (by decide) dX9_readsStatement_228 (hI 9 (by decide)) ha_m9 rfl ?_
                  refine hz_aload_n (a := 1) (n := 230) hC dX9_readsStatement_229 rfl rfl rfl ?_
                  refine fg_X9_35 (n := 233) hC hI dX9_readsStatement_230 rfl ?_
                  refine hz_iconst (v := (1 : Int32)) (n := 234) hC dX9_readsStatement_233 (by decide +kernel) rfl ?_
                  refine hz_ialdc (k := 1) (n := 235) hC (by decide +kernel) (by decide) dX9_readsStatement_234 (hI 9 (by decide)) ha_m9 rfl ?_
                  refine hz_callV (k := 2) (As := [.int (M22 13 9 0), .int (M22 13 9 1)]) (st := [.ref (adr 13 0)]) (S1 := fun r => .int r :: [.ref (adr 13 0)]) (n := 238) hC (c_X9_rings l (M22 13 9 0) (M22 13 9 1)   M22) kv_X9_rings wd_7_58 hI dX9_readsStatement_235 rfl (hI 0 (by decide)) he_X9 rfl rfl rfl (Nat.le_of_ble_eq_true rfl) ⟨Nat.le_of_ble_eq_true rfl, Nat.le_of_ble_eq_true rfl⟩ ⟨Nat.zero_le _, Nat.zero_le _⟩ (fun _ => rfl) rfl (fun r23 M23 _ => ?_)
                  refine hz_callV (k := 1) (As := [.int r23]) (st := []) (S1 := fun r => .int r :: []) (n := 241) hC (c_X9_isDone l r23   M23) kv_X9_isDone wd_7_11 hI dX9_readsStatement_238 rfl (hI 0 (by decide)) he_X9 rfl rfl rfl (Nat.le_of_ble_eq_true rfl) ⟨Nat.le_of_ble_eq_true rfl, Nat.le_of_ble_eq_true rfl⟩ ⟨Nat.zero_le _, Nat.zero_le _⟩ (fun _ => rfl) rfl (fun r24 M24 _ => ?_)
                  refine hz_if_eq (tgt := 248) (n := 244) hC dX9_readsStatement_241 (by decide) rfl (fun _ => ?_) (fun _ => ?_)
                  · refine hz_iconst (v := (0 : Int32)) (n := 249) hC dX9_readsStatement_248 (by decide +kernel) rfl ?_
                    exact hz_zret hC hr nz_0 dX9_readsStatement_249
                  · refine hz_iconst (v := (1 : Int32)) (n := 245) hC dX9_readsStatement_244 (by decide +kernel) rfl ?_
                    refine hz_goto (n := 249) hC dX9_readsStatement_245 (by decide) ?_
                    exact hz_zret hC hr nz_1 dX9_readsStatement_249
        · refine hz_aload_n (a := 1) (n := 143) hC dX9_readsStatement_142 rfl rfl rfl ?_
          refine hz_callV (k := 0) (As := []) (st := []) (S1 := fun _ => []) (n := 146) hC (c_X9_next l    M4) kv_X9_next wd_6_170 hI dX9_readsStatement_143 rfl (hI 0 (by decide)) he_X9 rfl rfl rfl (Nat.le_of_ble_eq_true rfl) ⟨Nat.le_of_ble_eq_true rfl, Nat.le_of_ble_eq_true rfl⟩ ⟨Nat.zero_le _, Nat.zero_le _⟩ (fun _ => rfl) rfl (fun r25 M25 _ => ?_)
          refine hz_aload_n (a := 1) (n := 147) hC dX9_readsStatement_146 rfl rfl rfl ?_
          refine hz_callV (k := 0) (As := []) (st := []) (S1 := fun r => .int r :: []) (n := 150) hC (c_X9_flatAt l    M25) kv_X9_flatAt wd_6_235 hI dX9_readsStatement_147 rfl (hI 0 (by decide)) he_X9 rfl rfl rfl (Nat.le_of_ble_eq_true rfl) ⟨Nat.le_of_ble_eq_true rfl, Nat.le_of_ble_eq_true rfl⟩ ⟨Nat.zero_le _, Nat.zero_le _⟩ (fun _ => rfl) rfl (fun r26 M26 _ => ?_)
          refine hz_if_eq (tgt := 181) (n := 153) hC dX9_readsStatement_150 (by decide) rfl (fun _ => ?_) (fun _ => ?_)
          · refine hz_iconst (v := (0 : Int32)) (n := 182) hC dX9_readsStatement_181 (by decide +kernel) rfl ?_
            exact hz_zret hC hr nz_0 dX9_readsStatement_182
          · refine hz_aload_n (a := 1) (n := 154) hC dX9_readsStatement_153 rfl rfl rfl ?_
            refine hz_callV (k := 0) (As := []) (st := []) (S1 := fun r => .int r :: []) (n := 157) hC (c_X9_isSemicolon l    M26) kv_X9_isSemicolon wd_6_239 hI dX9_readsStatement_154 rfl (hI 0 (by decide)) he_X9 rfl rfl rfl (Nat.le_of_ble_eq_true rfl) ⟨Nat.le_of_ble_eq_true rfl, Nat.le_of_ble_eq_true rfl⟩ ⟨Nat.zero_le _, Nat.zero_le _⟩ (fun _ => rfl) rfl (fun r27 M27 _ => ?_)
            refine hz_if_eq (tgt := 181) (n := 160) hC dX9_readsStatement_157 (by decide) rfl (fun _ => ?_) (fun _ => ?_)
            · refine hz_iconst (v := (0 : Int32)) (n := 182) hC dX9_readsStatement_181 (by decide +kernel) rfl ?_
              exact hz_zret hC hr nz_0 dX9_readsStatement_182
            · refine hz_aload_n (a := 1) (n := 161) hC dX9_readsStatement_160 rfl rfl rfl ?_
              refine hz_aload_n (a := 1) (n := 162) hC dX9_readsStatement_161 rfl rfl rfl ?_
              refine hz_aload_n (a := 1) (n := 163) hC dX9_readsStatement_162 rfl rfl rfl ?_
              refine fg_X9_35 (n := 166) hC hI dX9_readsStatement_163 rfl ?_
              refine hz_iconst (v := (0 : Int32)) (n := 167) hC dX9_readsStatement_166 (by decide +kernel) rfl ?_
              refine hz_ialdc (k := 0) (n := 168) hC (by decide +kernel) (by decide) dX9_readsStatement_167 (hI 9 (by decide)) ha_m9 rfl ?_
              refine hz_callV (k := 1) (As := [.int (M27 13 9 0)]) (st := [.ref (adr 13 0)]) (S1 := fun r => .int r :: [.ref (adr 13 0)]) (n := 171) hC (c_X9_hangs l (M27 13 9 0)   M27) kv_X9_hangs wd_7_33 hI dX9_readsStatement_168 rfl (hI 0 (by decide)) he_X9 rfl rfl rfl (Nat.le_of_ble_eq_true rfl) ⟨Nat.le_of_ble_eq_true rfl, Nat.le_of_ble_eq_true rfl⟩ ⟨Nat.zero_le _, Nat.zero_le _⟩ (fun _ => rfl) rfl (fun r28 M28 _ => ?_)
              refine hz_callV (k := 1) (As := [.int r28]) (st := []) (S1 := fun r => .int r :: []) (n := 174) hC (c_X9_isDone l r28   M28) kv_X9_isDone wd_7_11 hI dX9_readsStatement_171 rfl (hI 0 (by decide)) he_X9 rfl rfl rfl (Nat.le_of_ble_eq_true rfl) ⟨Nat.le_of_ble_eq_true rfl, Nat.le_of_ble_eq_true rfl⟩ ⟨Nat.zero_le _, Nat.zero_le _⟩ (fun _ => rfl) rfl (fun r29 M29 _ => ?_)
              refine hz_if_eq (tgt := 181) (n := 177) hC dX9_readsStatement_174 (by decide) rfl (fun _ => ?_) (fun _ => ?_)
              · refine hz_iconst (v := (0 : Int32)) (n := 182) hC dX9_readsStatement_181 (by decide +kernel) rfl ?_
                exact hz_zret hC hr nz_0 dX9_readsStatement_182
              · refine hz_iconst (v := (1 : Int32)) (n := 178) hC dX9_readsStatement_177 (by decide +kernel) rfl ?_
                refine hz_goto (n := 182) hC dX9_readsStatement_178 (by decide) ?_
                exact hz_zret hC hr nz_1 dX9_readsStatement_182
      · refine hz_aload_n (a := 1) (n := 93) hC dX9_readsStatement_92 rfl rfl rfl ?_
        refine hz_callV (k := 0) (As := []) (st := []) (S1 := fun _ => []) (n := 96) hC (c_X9_next l    M3) kv_X9_next wd_6_170 hI dX9_readsStatement_93 rfl (hI 0 (by decide)) he_X9 rfl rfl rfl (Nat.le_of_ble_eq_true rfl) ⟨Nat.le_of_ble_eq_true rfl, Nat.le_of_ble_eq_true rfl⟩ ⟨Nat.zero_le _, Nat.zero_le _⟩ (fun _ => rfl) rfl (fun r30 M30 _ => ?_)
        refine hz_aload_n (a := 1) (n := 97) hC dX9_readsStatement_96 rfl rfl rfl ?_
        refine hz_callV (k := 0) (As := []) (st := []) (S1 := fun r => .int r :: []) (n := 100) hC (c_X9_flatAt l    M30) kv_X9_flatAt wd_6_235 hI dX9_readsStatement_97 rfl (hI 0 (by decide)) he_X9 rfl rfl rfl (Nat.le_of_ble_eq_true rfl) ⟨Nat.le_of_ble_eq_true rfl, Nat.le_of_ble_eq_true rfl⟩ ⟨Nat.zero_le _, Nat.zero_le _⟩ (fun _ => rfl) rfl (fun r31 M31 _ => ?_)
        refine hz_if_eq (tgt := 131) (n := 103) hC dX9_readsStatement_100 (by decide) rfl (fun _ => ?_) (fun _ => ?_)
        · refine hz_iconst (v := (0 : Int32)) (n := 132) hC dX9_readsStatement_131 (by decide +kernel) rfl ?_
          exact hz_zret hC hr nz_0 dX9_readsStatement_132
        · refine hz_aload_n (a := 1) (n := 104) hC dX9_readsStatement_103 rfl rfl rfl ?_
          refine hz_callV (k := 0) (As := []) (st := []) (S1 := fun r => .int r :: []) (n := 107) hC (c_X9_isSemicolon l    M31) kv_X9_isSemicolon wd_6_239 hI dX9_readsStatement_104 rfl (hI 0 (by decide)) he_X9 rfl rfl rfl (Nat.le_of_ble_eq_true rfl) ⟨Nat.le_of_ble_eq_true rfl, Nat.le_of_ble_eq_true rfl⟩ ⟨Nat.zero_le _, Nat.zero_le _⟩ (fun _ => rfl) rfl (fun r32 M32 _ => ?_)
          refine hz_if_eq (tgt := 131) (n := 110) hC dX9_readsStatement_107 (by decide) rfl (fun _ => ?_) (fun _ => ?_)
          · refine hz_iconst (v := (0 : Int32)) (n := 132) hC dX9_readsStatement_131 (by decide +kernel) rfl ?_
            exact hz_zret hC hr nz_0 dX9_readsStatement_132
          · refine hz_aload_n (a := 1) (n := 111) hC dX9_readsStatement_110 rfl rfl rfl ?_
            refine hz_aload_n (a := 1) (n := 112) hC dX9_readsStatement_111 rfl rfl rfl ?_
            refine hz_aload_n (a := 1) (n := 113) hC dX9_readsStatement_112 rfl rfl rfl ?_
            refine fg_X9_35 (n := 116) hC hI dX9_readsStatement_113 rfl ?_
            refine hz_iconst (v := (0 : Int32)) (n := 117) hC dX9_readsStatement_116 (by decide +kernel) rfl ?_
            refine hz_ialdc (k := 0) (n := 118) hC (by decide +kernel) (by decide) dX9_readsStatement_117 (hI 9 (by decide)) ha_m9 rfl ?_
            refine hz_callV (k := 1) (As := [.int (M32 13 9 0)]) (st := [.ref (adr 13 0)]) (S1 := fun r => .int r :: [.ref (adr 13 0)]) (n := 121) hC (c_X9_gives l (M32 13 9 0)   M32) kv_X9_gives wd_7_16 hI dX9_readsStatement_118 rfl (hI 0 (by decide)) he_X9 rfl rfl rfl (Nat.le_of_ble_eq_true rfl) ⟨Nat.le_of_ble_eq_true rfl, Nat.le_of_ble_eq_true rfl⟩ ⟨Nat.zero_le _, Nat.zero_le _⟩ (fun _ => rfl) rfl (fun r33 M33 _ => ?_)
            refine hz_callV (k := 1) (As := [.int r33]) (st := []) (S1 := fun r => .int r :: []) (n := 124) hC (c_X9_isDone l r33   M33) kv_X9_isDone wd_7_11 hI dX9_readsStatement_121 rfl (hI 0 (by decide)) he_X9 rfl rfl rfl (Nat.le_of_ble_eq_true rfl) ⟨Nat.le_of_ble_eq_true rfl, Nat.le_of_ble_eq_true rfl⟩ ⟨Nat.zero_le _, Nat.zero_le _⟩ (fun _ => rfl) rfl (fun r34 M34 _ => ?_)
            refine hz_if_eq (tgt := 131) (n := 127) hC dX9_readsStatement_124 (by decide) rfl (fun _ => ?_) (fun _ => ?_)
            · refine hz_iconst (v := (0 : Int32)) (n := 132) hC dX9_readsStatement_131 (by decide +kernel) rfl ?_
              exact hz_zret hC hr nz_0 dX9_readsStatement_132
            · refine hz_iconst (v := (1 : Int32)) (n := 128) hC dX9_readsStatement_127 (by decide +kernel) rfl ?_
              refine hz_goto (n := 132) hC dX9_readsStatement_128 (by decide) ?_
              exact hz_zret hC hr nz_1 dX9_readsStatement_132
    · refine hz_aload_n (a := 1) (n := 26) hC dX9_readsStatement_25 rfl rfl rfl ?_
      refine hz_callV (k := 0) (As := []) (st := []) (S1 := fun _ => []) (n := 29) hC (c_X9_next l    M2) kv_X9_next wd_6_170 hI dX9_readsStatement_26 rfl (hI 0 (by decide)) he_X9 rfl rfl rfl (Nat.le_of_ble_eq_true rfl) ⟨Nat.le_of_ble_eq_true rfl, Nat.le_of_ble_eq_true rfl⟩ ⟨Nat.zero_le _, Nat.zero_le _⟩ (fun _ => rfl) rfl (fun r35 M35 _ => ?_)
      refine hz_aload_n (a := 1) (n := 30) hC dX9_readsStatement_29 rfl rfl rfl ?_
      refine hz_callV (k := 0) (As := []) (st := []) (S1 := fun r => .int r :: []) (n := 33) hC (c_X9_flatAt l    M35) kv_X9_flatAt wd_6_235 hI dX9_readsStatement_30 rfl (hI 0 (by decide)) he_X9 rfl rfl rfl (Nat.le_of_ble_eq_true rfl) ⟨Nat.le_of_ble_eq_true rfl, Nat.le_of_ble_eq_true rfl⟩ ⟨Nat.zero_le _, Nat.zero_le _⟩ (fun _ => rfl) rfl (fun r36 M36 _ => ?_)
      refine hz_if_eq (tgt := 81) (n := 36) hC dX9_readsStatement_33 (by decide) rfl (fun _ => ?_) (fun _ => ?_)
      · refine hz_iconst (v := (0 : Int32)) (n := 82) hC dX9_readsStatement_81 (by decide +kernel) rfl ?_
        exact hz_zret hC hr nz_0 dX9_readsStatement_82
      · refine hz_aload_n (a := 1) (n := 37) hC dX9_readsStatement_36 rfl rfl rfl ?_
        refine hz_iconst (v := (1 : Int32)) (n := 38) hC dX9_readsStatement_37 (by decide +kernel) rfl ?_
        refine hz_iconst (v := (1 : Int32)) (n := 39) hC dX9_readsStatement_38 (by decide +kernel) rfl ?_
        refine hz_bipush (v := (99 : Int32)) (n := 41) hC dX9_readsStatement_39 (by decide +kernel) rfl ?_
        refine hz_callV (k := 3) (As := [.int (1 : Int32), .int (1 : Int32), .int (99 : Int32)]) (st := []) (S1 := fun r => .int r :: []) (n := 44) hC (c_X9_number l (1 : Int32) (1 : Int32) (99 : Int32)   M36) kv_X9_number wd_6_230 hI dX9_readsStatement_41 rfl (hI 0 (by decide)) he_X9 rfl rfl rfl (Nat.le_of_ble_eq_true rfl) ⟨Nat.le_of_ble_eq_true rfl, Nat.le_of_ble_eq_true rfl⟩ ⟨Nat.zero_le _, Nat.zero_le _⟩ (fun _ => rfl) rfl (fun r37 M37 _ => ?_)
        refine hz_if_eq (tgt := 81) (n := 47) hC dX9_readsStatement_44 (by decide) rfl (fun _ => ?_) (fun _ => ?_)
        · refine hz_iconst (v := (0 : Int32)) (n := 82) hC dX9_readsStatement_81 (by decide +kernel) rfl ?_
          exact hz_zret hC hr nz_0 dX9_readsStatement_82
        · refine hz_aload_n (a := 1) (n := 48) hC dX9_readsStatement_47 rfl rfl rfl ?_
          refine hz_callV (k := 0) (As := []) (st := []) (S1 := fun r => .int r :: []) (n := 51) hC (c_X9_isSemicolon l    M37) kv_X9_isSemicolon wd_6_239 hI dX9_readsStatement_48 rfl (hI 0 (by decide)) he_X9 rfl rfl rfl (Nat.le_of_ble_eq_true rfl) ⟨Nat.le_of_ble_eq_true rfl, Nat.le_of_ble_eq_true rfl⟩ ⟨Nat.zero_le _, Nat.zero_le _⟩ (fun _ => rfl) rfl (fun r38 M38 _ => ?_)
          refine hz_if_eq (tgt := 81) (n := 54) hC dX9_readsStatement_51 (by decide) rfl (fun _ => ?_) (fun _ => ?_)
          · refine hz_iconst (v := (0 : Int32)) (n := 82) hC dX9_readsStatement_81 (by decide +kernel) rfl ?_
            exact hz_zret hC hr nz_0 dX9_readsStatement_82
          · refine hz_aload_n (a := 1) (n := 55) hC dX9_readsStatement_54 rfl rfl rfl ?_
            refine hz_aload_n (a := 1) (n := 56) hC dX9_readsStatement_55 rfl rfl rfl ?_
            refine hz_aload_n (a := 1) (n := 57) hC dX9_readsStatement_56 rfl rfl rfl ?_
            refine fg_X9_35 (n := 60) hC hI dX9_readsStatement_57 rfl ?_
            refine hz_iconst (v := (0 : Int32)) (n := 61) hC dX9_readsStatement_60 (by decide +kernel) rfl ?_
            refine hz_ialdc (k := 0) (n := 62) hC (by decide +kernel) (by decide) dX9_readsStatement_61 (hI 9 (by decide)) ha_m9 rfl ?_
            refine hz_aload_n (a := 1) (n := 63) hC dX9_readsStatement_62 rfl rfl rfl ?_
            refine fg_X9_35 (n := 66) hC hI dX9_readsStatement_63 rfl ?_
            refine hz_iconst (v := (1 : Int32)) (n := 67) hC dX9_readsStatement_66 (by decide +kernel) rfl ?_
            refine hz_ialdc (k := 1) (n := 68) hC (by decide +kernel) (by decide) dX9_readsStatement_67 (hI 9 (by decide)) ha_m9 rfl ?_
            refine hz_callV (k := 2) (As := [.int (M38 13 9 0), .int (M38 13 9 1)]) (st := [.ref (adr 13 0)]) (S1 := fun r => .int r :: [.ref (adr 13 0)]) (n := 71) hC (c_X9_wants l (M38 13 9 0) (M38 13 9 1)   M38) kv_X9_wants wd_7_3 hI dX9_readsStatement_68 rfl (hI 0 (by decide)) he_X9 rfl rfl rfl (Nat.le_of_ble_eq_true rfl) ⟨Nat.le_of_ble_eq_true rfl, Nat.le_of_ble_eq_true rfl⟩ ⟨Nat.zero_le _, Nat.zero_le _⟩ (fun _ => rfl) rfl (fun r39 M39 _ => ?_)
            refine hz_callV (k := 1) (As := [.int r39]) (st := []) (S1 := fun r => .int r :: []) (n := 74) hC (c_X9_isDone l r39   M39) kv_X9_isDone wd_7_11 hI dX9_readsStatement_71 rfl (hI 0 (by decide)) he_X9 rfl rfl rfl (Nat.le_of_ble_eq_true rfl) ⟨Nat.le_of_ble_eq_true rfl, Nat.le_of_ble_eq_true rfl⟩ ⟨Nat.zero_le _, Nat.zero_le _⟩ (fun _ => rfl) rfl (fun r40 M40 _ => ?_)
            refine hz_if_eq (tgt := 81) (n := 77) hC dX9_readsStatement_74 (by decide) rfl (fun _ => ?_) (fun _ => ?_)
            · refine hz_iconst (v := (0 : Int32)) (n := 82) hC dX9_readsStatement_81 (by decide +kernel) rfl ?_
              exact hz_zret hC hr nz_0 dX9_readsStatement_82
            · refine hz_iconst (v := (1 : Int32)) (n := 78) hC dX9_readsStatement_77 (by decide +kernel) rfl ?_
              refine hz_goto (n := 82) hC dX9_readsStatement_78 (by decide) ?_
              exact hz_zret hC hr nz_1 dX9_readsStatement_82
  · refine hz_aload_n (a := 1) (n := 11) hC dX9_readsStatement_10 rfl rfl rfl ?_
    refine hz_iload_n (a := 0) (n := 12) hC dX9_readsStatement_11 rfl rfl rfl ?_
    refine hz_callV (k := 1) (As := [.int r1]) (st := []) (S1 := fun r => .int r :: []) (n := 15) hC (c_X9_readsSetting l r1   M1) kv_X9_readsSetting wd_6_220 hI dX9_readsStatement_12 rfl (hI 0 (by decide)) he_X9 rfl rfl rfl (Nat.le_of_ble_eq_true rfl) ⟨Nat.le_of_ble_eq_true rfl, Nat.le_of_ble_eq_true rfl⟩ ⟨Nat.zero_le _, Nat.zero_le _⟩ (fun _ => rfl) rfl (fun r41 M41 _ => ?_)
    exact hz_bret hC hr dX9_readsStatement_15
def A_X9_readsAll_36  (rec2 : Int32 → hp_M → Option (Int32 × hp_M))  (M : hp_M) : Option (Int32 × hp_M) := (if (M 13 0 14) = (1 : Int32) then (hp_b (F_X9_next M) (fun _ M2 => (rec2 (0 : Int32) M2))) else (hp_b (F_X9_fail (1 : Int32) M) (fun r3 M3 => (if r3 = 0 ∨ r3 = 1 then some (r3, M3) else none))))
def A_X9_readsAll_13  (rec2 : Int32 → hp_M → Option (Int32 × hp_M)) (y13_1 : Int32) (M : hp_M) : Option (Int32 × hp_M) := (if y13_1 = 0 then (hp_b (F_X9_readsStatement M) (fun r1 M1 => (if r1 = 0 then (some ((0 : Int32), M1)) else (A_X9_readsAll_36 rec2 M1)))) else (hp_b (F_X9_readsHouse M) (fun r4 M4 => (if r4 = 0 then (some ((0 : Int32), M4)) else (A_X9_readsAll_36 rec2 M4)))))
def L_X9_readsAll_2    : Nat → Int32 → hp_M → Option (Int32 × hp_M)
  | 0, _, _ => none
  | n2 + 1, x1, M => (if x1 = 0 then (if (M 13 0 14) = 0 then (some ((1 : Int32), M)) else (A_X9_readsAll_13 (L_X9_readsAll_2  n2) x1 M)) else (A_X9_readsAll_13 (L_X9_readsAll_2  n2) x1 M))
def F_X9_readsAll  (M : hp_M) : Option (Int32 × hp_M) := (L_X9_readsAll_2 hp_fu (1 : Int32) M)
set_option maxRecDepth 20000 in
set_option maxHeartbeats 4000000 in
theorem c_X9_readsAll (l : Launch)   (M : hp_M) : hp_Ct l yX9_readsAll cX9_readsAll 2 (some .boolean) 7 hp_IR (fun adr adV => [.ref (adr 13 0)]) hp_oi M (F_X9_readsAll  M) := by
  refine hp_start "HallPhoneModel" (fun adr adV => [(0, .ref (adr 13 0))]) (by decide) rfl (fun _ _ => by simp only [lg_sl]; exact Nat.le_of_ble_eq_true rfl) (fun _ _ => rfl) ?_
  intro p e s m args below meth c A D ids adr adV cA rep G0 hI hC hr
  unfold F_X9_readsAll
  have l2 : ∀  (n2 : Nat) (x1 : Int32) (M : hp_M), hp_Z p l e (hp_rm 7) s m args below meth c 2 A D ids adr adV cA 0 0 (MQ below (hp_Q A D ids adr adV cA rep hp_oi G0) args s 0 0 A) G0 rep 2 [(0, .ref (adr 13 0)), (1, .int x1)] [] M (L_X9_readsAll_2  n2 x1 M) := by
    intro  n2
    induction n2 with
    | zero => intro x1 M; exact hz_none hC
    | succ n2 ih2 =>
      intro x1 M
      rw [L_X9_readsAll_2.eq_2]
      have j36 : ∀  (M : hp_M), hp_Z p l e (hp_rm 7) s m args below meth c 2 A D ids adr adV cA 0 0 (MQ below (hp_Q A D ids adr adV cA rep hp_oi G0) args s 0 0 A) G0 rep 36 [(0, .ref (adr 13 0))] [] M (A_X9_readsAll_36  (L_X9_readsAll_2  n2)  M) := by
        intro  M
        unfold A_X9_readsAll_36
        refine hz_aload_n (a := 0) (n := 37) hC dX9_readsAll_36 rfl rfl rfl ?_
        refine fg_X9_143 (n := 40) hC hI dX9_readsAll_37 rfl ?_
        refine hz_iconst (v := (1 : Int32)) (n := 41) hC dX9_readsAll_40 (by decide +kernel) rfl ?_
        refine hz_icmp_eq (tgt := 50) (n := 44) hC dX9_readsAll_41 (by decide) rfl (fun _ => ?_) (fun _ => ?_)
        · refine hz_aload_n (a := 0) (n := 51) hC dX9_readsAll_50 rfl rfl rfl ?_
          refine hz_callV (k := 0) (As := []) (st := []) (S1 := fun _ => []) (n := 54) hC (c_X9_next l    M) kv_X9_next wd_6_170 hI dX9_readsAll_51 rfl (hI 0 (by decide)) he_X9 rfl rfl rfl (Nat.le_of_ble_eq_true rfl) ⟨Nat.le_of_ble_eq_true rfl, Nat.le_of_ble_eq_true rfl⟩ ⟨Nat.zero_le _, Nat.zero_le _⟩ (fun _ => rfl) rfl (fun r2 M2 _ => ?_)
          refine hz_iconst (v := (0 : Int32)) (n := 55) hC dX9_readsAll_54 (by decide +kernel) rfl ?_
          refine hz_istore_n (L' := [(1, .int (0 : Int32)), (0, .ref (adr 13 0))]) (n := 56) hC dX9_readsAll_55 rfl (by decide) rfl rfl ?_
          refine hz_goto (n := 2) hC dX9_readsAll_56 (by decide) ?_
          refine hz_L (L' := [(0, .ref (adr 13 0)), (1, .int (0 : Int32))]) [1, 0] rfl ?_
          exact ih2 _ _
        · refine hz_aload_n (a := 0) (n := 45) hC dX9_readsAll_44 rfl rfl rfl ?_
          refine hz_iconst (v := (1 : Int32)) (n := 46) hC dX9_readsAll_45 (by decide +kernel) rfl ?_
          refine hz_callV (k := 1) (As := [.int (1 : Int32)]) (st := []) (S1 := fun r => .int r :: []) (n := 49) hC (c_X9_fail l (1 : Int32)   M) kv_X9_fail wd_6_190 hI dX9_readsAll_46 rfl (hI 0 (by decide)) he_X9 rfl rfl rfl (Nat.le_of_ble_eq_true rfl) ⟨Nat.le_of_ble_eq_true rfl, Nat.le_of_ble_eq_true rfl⟩ ⟨Nat.zero_le _, Nat.zero_le _⟩ (fun _ => rfl) rfl (fun r3 M3 _ => ?_)
          exact hz_bret hC hr dX9_readsAll_49
      have j13 : ∀ (y13_1 : Int32) (M : hp_M), hp_Z p l e (hp_rm 7) s m args below meth c 2 A D ids adr adV cA 0 0 (MQ below (hp_Q A D ids adr adV cA rep hp_oi G0) args s 0 0 A) G0 rep 13 [(0, .ref (adr 13 0)), (1, .int y13_1)] [] M (A_X9_readsAll_13  (L_X9_readsAll_2  n2) y13_1 M) := by
        intro y13_1 M
        unfold A_X9_readsAll_13
        refine hz_iload_n (a := 1) (n := 14) hC dX9_readsAll_13 rfl rfl rfl ?_
        refine hz_if_eq (tgt := 27) (n := 17) hC dX9_readsAll_14 (by decide) rfl (fun _ => ?_) (fun _ => ?_)
        · refine hz_aload_n (a := 0) (n := 28) hC dX9_readsAll_27 rfl rfl rfl ?_
          refine hz_callV (k := 0) (As := []) (st := []) (S1 := fun r => .int r :: []) (n := 31) hC (c_X9_readsStatement l    M) kv_X9_readsStatement wd_6_206 hI dX9_readsAll_28 rfl (hI 0 (by decide)) he_X9 rfl rfl rfl (Nat.le_of_ble_eq_true rfl) ⟨Nat.le_of_ble_eq_true rfl, Nat.le_of_ble_eq_true rfl⟩ ⟨Nat.zero_le _, Nat.zero_le _⟩ (fun _ => rfl) rfl (fun r1 M1 _ => ?_)
          refine hz_if_ne (tgt := 36) (n := 34) hC dX9_readsAll_31 (by decide) rfl (fun _ => ?_) (fun _ => ?_)
          · refine hz_iconst (v := (0 : Int32)) (n := 35) hC dX9_readsAll_34 (by decide +kernel) rfl ?_
            exact hz_zret hC hr nz_0 dX9_readsAll_35
          · refine hz_L (L' := [(0, .ref (adr 13 0))]) [0] rfl ?_
            exact j36 _
        · refine hz_aload_n (a := 0) (n := 18) hC dX9_readsAll_17 rfl rfl rfl ?_
          refine hz_callV (k := 0) (As := []) (st := []) (S1 := fun r => .int r :: []) (n := 21) hC (c_X9_readsHouse l    M) kv_X9_readsHouse wd_6_181 hI dX9_readsAll_18 rfl (hI 0 (by decide)) he_X9 rfl rfl rfl (Nat.le_of_ble_eq_true rfl) ⟨Nat.le_of_ble_eq_true rfl, Nat.le_of_ble_eq_true rfl⟩ ⟨Nat.zero_le _, Nat.zero_le _⟩ (fun _ => rfl) rfl (fun r4 M4 _ => ?_)
          refine hz_if_eq (tgt := 34) (n := 24) hC dX9_readsAll_21 (by decide) rfl (fun _ => ?_) (fun _ => ?_)
          · refine hz_iconst (v := (0 : Int32)) (n := 35) hC dX9_readsAll_34 (by decide +kernel) rfl ?_
            exact hz_zret hC hr nz_0 dX9_readsAll_35
          · refine hz_goto (n := 36) hC dX9_readsAll_24 (by decide) ?_
            refine hz_L (L' := [(0, .ref (adr 13 0))]) [0] rfl ?_
            exact j36 _
      refine hz_iload_n (a := 1) (n := 3) hC dX9_readsAll_2 rfl rfl rfl ?_
      refine hz_if_ne (tgt := 13) (n := 6) hC dX9_readsAll_3 (by decide) rfl (fun _ => ?_) (fun _ => ?_)
      · refine hz_aload_n (a := 0) (n := 7) hC dX9_readsAll_6 rfl rfl rfl ?_
        refine fg_X9_143 (n := 10) hC hI dX9_readsAll_7 rfl ?_
        refine hz_if_eq (tgt := 59) (n := 13) hC dX9_readsAll_10 (by decide) rfl (fun _ => ?_) (fun _ => ?_)
        · refine hz_iconst (v := (1 : Int32)) (n := 60) hC dX9_readsAll_59 (by decide +kernel) rfl ?_
          exact hz_zret hC hr nz_1 dX9_readsAll_60
        · exact j13 _ _
      · exact j13 _ _
  refine hz_iconst (v := (1 : Int32)) (n := 1) hC dX9_readsAll_0 (by decide +kernel) rfl ?_
  refine hz_istore_n (L' := [(1, .int (1 : Int32)), (0, .ref (adr 13 0))]) (n := 2) hC dX9_readsAll_1 rfl (by decide) rfl rfl ?_
  refine hz_L (L' := [(0, .ref (adr 13 0)), (1, .int (1 : Int32))]) [1, 0] rfl ?_
  exact l2 hp_fu _ _
def L_X9_parseAll_97    : Nat → Int32 → hp_M → Option (Int32 × hp_M)
  | 0, _, _ => none
  | n97 + 1, x1, M => (if (242 : Int32) ≤ x1 then (some ((0 : Int32), M)) else (if x1 < 0 ∨ 242 ≤ (x1).toNatClampNeg then none else (if x1 < 0 ∨ 242 ≤ (x1).toNatClampNeg then none else (L_X9_parseAll_97  n97 (x1 + (1 : Int32)) (hp_p M 13 1 (x1).toNatClampNeg (M 13 2 (x1).toNatClampNeg))))))
def L_X9_parseAll_2    : Nat → Int32 → hp_M → Option (Int32 × hp_M)
  | 0, _, _ => none
  | n2 + 1, x1, M => (if (242 : Int32) ≤ x1 then (hp_b (F_X9_next (hp_p (hp_p (hp_p (hp_p (hp_p (hp_p (hp_p M 13 1 8 (3 : Int32)) 13 1 9 (4 : Int32)) 13 1 10 (1 : Int32)) 13 1 11 (5 : Int32)) 13 1 12 (3 : Int32)) 13 0 18 (0 : Int32)) 13 0 16 (0 : Int32))) (fun _ M1 => (hp_b (F_X9_readsAll M1) (fun r2 M2 => (if r2 = 0 then (L_X9_parseAll_97 hp_fu (0 : Int32) M2) else (some ((1 : Int32), (hp_p (hp_p M2 13 0 5 (0 : Int32)) 13 0 6 (0 : Int32))))))))) else (if x1 < 0 ∨ 242 ≤ (x1).toNatClampNeg then none else (if x1 < 0 ∨ 242 ≤ (x1).toNatClampNeg then none else (if x1 < 0 ∨ 242 ≤ (x1).toNatClampNeg then none else (L_X9_parseAll_2  n2 (x1 + (1 : Int32)) (hp_p (hp_p M 13 2 (x1).toNatClampNeg (M 13 1 (x1).toNatClampNeg)) 13 1 (x1).toNatClampNeg (0 : Int32)))))))
def F_X9_parseAll  (M : hp_M) : Option (Int32 × hp_M) := (L_X9_parseAll_2 hp_fu (0 : Int32) M)
set_option maxRecDepth 20000 in
set_option maxHeartbeats 4000000 in
theorem c_X9_parseAll (l : Launch)   (M : hp_M) : hp_Ct l yX9_parseAll cX9_parseAll 2 (some .boolean) 8 hp_IR (fun adr adV => [.ref (adr 13 0)]) hp_oi M (F_X9_parseAll  M) := by
  refine hp_start "HallPhoneModel" (fun adr adV => [(0, .ref (adr 13 0))]) (by decide) rfl (fun _ _ => by simp only [lg_sl]; exact Nat.le_of_ble_eq_true rfl) (fun _ _ => rfl) ?_
  intro p e s m args below meth c A D ids adr adV cA rep G0 hI hC hr
  unfold F_X9_parseAll
  have l97 : ∀  (n97 : Nat) (x1 : Int32) (M : hp_M), hp_Z p l e (hp_rm 8) s m args below meth c 2 A D ids adr adV cA 0 0 (MQ below (hp_Q A D ids adr adV cA rep hp_oi G0) args s 0 0 A) G0 rep 97 [(0, .ref (adr 13 0)), (1, .int x1)] [] M (L_X9_parseAll_97  n97 x1 M) := by
    intro  n97
    induction n97 with
    | zero => intro x1 M; exact hz_none hC
    | succ n97 ih97 =>
      intro x1 M
      rw [L_X9_parseAll_97.eq_2]
      refine hz_iload_n (a := 1) (n := 98) hC dX9_parseAll_97 rfl rfl rfl ?_
      refine hz_sipush (v := (242 : Int32)) (n := 101) hC dX9_parseAll_98 (by decide +kernel) rfl ?_
      refine hz_icmp_ge (tgt := 122) (n := 104) hC dX9_parseAll_101 (by decide) rfl (fun _ => ?_) (fun _ => ?_)
      · refine hz_iconst (v := (0 : Int32)) (n := 123) hC dX9_parseAll_122 (by decide +kernel) rfl ?_
        exact hz_zret hC hr nz_0 dX9_parseAll_123
      · refine hz_aload_n (a := 0) (n := 105) hC dX9_parseAll_104 rfl rfl rfl ?_
        refine fg_X9_7 (n := 108) hC hI dX9_parseAll_105 rfl ?_
        refine hz_iload_n (a := 1) (n := 109) hC dX9_parseAll_108 rfl rfl rfl ?_
        refine hz_aload_n (a := 0) (n := 110) hC dX9_parseAll_109 rfl rfl rfl ?_
        refine fg_X9_13 (n := 113) hC hI dX9_parseAll_110 rfl ?_
        refine hz_iload_n (a := 1) (n := 114) hC dX9_parseAll_113 rfl rfl rfl ?_
        refine hz_iald (n := 115) hC dX9_parseAll_114 (hI 2 (by decide)) ha_m2 rfl (fun _ => ?_)
        refine hz_iast (n := 116) hC dX9_parseAll_115 (hI 1 (by decide)) ha_m1 rfl (fun _ => ?_)
        refine hz_iinc (a := 1) (v := (x1 + (1 : Int32))) (L' := [(1, .int (x1 + (1 : Int32))), (0, .ref (adr 13 0))]) (n := 119) hC dX9_parseAll_116 rfl rfl (by decide) rfl rfl ?_
        refine hz_goto (n := 97) hC dX9_parseAll_119 (by decide) ?_
        refine hz_L (L' := [(0, .ref (adr 13 0)), (1, .int (x1 + (1 : Int32)))]) [1, 0] rfl ?_
        exact ih97 _ _
  have l2 : ∀  (n2 : Nat) (x1 : Int32) (M : hp_M), hp_Z p l e (hp_rm 8) s m args below meth c 2 A D ids adr adV cA 0 0 (MQ below (hp_Q A D ids adr adV cA rep hp_oi G0) args s 0 0 A) G0 rep 2 [(0, .ref (adr 13 0)), (1, .int x1)] [] M (L_X9_parseAll_2  n2 x1 M) := by
    intro  n2
    induction n2 with
    | zero => intro x1 M; exact hz_none hC
    | succ n2 ih2 =>
      intro x1 M
      rw [L_X9_parseAll_2.eq_2]
      refine hz_iload_n (a := 1) (n := 3) hC dX9_parseAll_2 rfl rfl rfl ?_
      refine hz_sipush (v := (242 : Int32)) (n := 6) hC dX9_parseAll_3 (by decide +kernel) rfl ?_
      refine hz_icmp_ge (tgt := 34) (n := 9) hC dX9_parseAll_6 (by decide) rfl (fun _ => ?_) (fun _ => ?_)
      · refine hz_aload_n (a := 0) (n := 35) hC dX9_parseAll_34 rfl rfl rfl ?_
        refine fg_X9_7 (n := 38) hC hI dX9_parseAll_35 rfl ?_
        refine hz_bipush (v := (8 : Int32)) (n := 40) hC dX9_parseAll_38 (by decide +kernel) rfl ?_
        refine hz_iconst (v := (3 : Int32)) (n := 41) hC dX9_parseAll_40 (by decide +kernel) rfl ?_
        refine hz_iastc (k := 8) (n := 42) hC (by decide +kernel) (by decide) dX9_parseAll_41 (hI 1 (by decide)) ha_m1 rfl ?_
        refine hz_aload_n (a := 0) (n := 43) hC dX9_parseAll_42 rfl rfl rfl ?_
        refine fg_X9_7 (n := 46) hC hI dX9_parseAll_43 rfl ?_
        refine hz_bipush (v := (9 : Int32)) (n := 48) hC dX9_parseAll_46 (by decide +kernel) rfl ?_
        refine hz_iconst (v := (4 : Int32)) (n := 49) hC dX9_parseAll_48 (by decide +kernel) rfl ?_
        refine hz_iastc (k := 9) (n := 50) hC (by decide +kernel) (by decide) dX9_parseAll_49 (hI 1 (by decide)) ha_m1 rfl ?_
        refine hz_aload_n (a := 0) (n := 51) hC dX9_parseAll_50 rfl rfl rfl ?_
        refine fg_X9_7 (n := 54) hC hI dX9_parseAll_51 rfl ?_
        refine hz_bipush (v := (10 : Int32)) (n := 56) hC dX9_parseAll_54 (by decide +kernel) rfl ?_
        refine hz_iconst (v := (1 : Int32)) (n := 57) hC dX9_parseAll_56 (by decide +kernel) rfl ?_
        refine hz_iastc (k := 10) (n := 58) hC (by decide +kernel) (by decide) dX9_parseAll_57 (hI 1 (by decide)) ha_m1 rfl ?_
        refine hz_aload_n (a := 0) (n := 59) hC dX9_parseAll_58 rfl rfl rfl ?_
        refine fg_X9_7 (n := 62) hC hI dX9_parseAll_59 rfl ?_
        refine hz_bipush (v := (11 : Int32)) (n := 64) hC dX9_parseAll_62 (by decide +kernel) rfl ?_
        refine hz_iconst (v := (5 : Int32)) (n := 65) hC dX9_parseAll_64 (by decide +kernel) rfl ?_
        refine hz_iastc (k := 11) (n := 66) hC (by decide +kernel) (by decide) dX9_parseAll_65 (hI 1 (by decide)) ha_m1 rfl ?_
        refine hz_aload_n (a := 0) (n := 67) hC dX9_parseAll_66 rfl rfl rfl ?_
        refine fg_X9_7 (n := 70) hC hI dX9_parseAll_67 rfl ?_
        refine hz_bipush (v := (12 : Int32)) (n := 72) hC dX9_parseAll_70 (by decide +kernel) rfl ?_
        refine hz_iconst (v := (3 : Int32)) (n := 73) hC dX9_parseAll_72 (by decide +kernel) rfl ?_
        refine hz_iastc (k := 12) (n := 74) hC (by decide +kernel) (by decide) dX9_parseAll_73 (hI 1 (by decide)) ha_m1 rfl ?_
        refine hz_aload_n (a := 0) (n := 75) hC dX9_parseAll_74 rfl rfl rfl ?_
        refine hz_iconst (v := (0 : Int32)) (n := 76) hC dX9_parseAll_75 (by decide +kernel) rfl ?_
        refine fp_X9_152 (n := 79) hC hI (0 : Int32) dX9_parseAll_76 rfl ?_
        refine hz_aload_n (a := 0) (n := 80) hC dX9_parseAll_79 rfl rfl rfl ?_
        refine hz_iconst (v := (0 : Int32)) (n := 81) hC dX9_parseAll_80 (by decide +kernel) rfl ?_
        refine fp_X9_137 (n := 84) hC hI (0 : Int32) dX9_parseAll_81 rfl ?_
        refine hz_aload_n (a := 0) (n := 85) hC dX9_parseAll_84 rfl rfl rfl ?_
        refine hz_callV (k := 0) (As := []) (st := []) (S1 := fun _ => []) (n := 88) hC (c_X9_next l    (hp_p (hp_p (hp_p (hp_p (hp_p (hp_p (hp_p M 13 1 8 (3 : Int32)) 13 1 9 (4 : Int32)) 13 1 10 (1 : Int32)) 13 1 11 (5 : Int32)) 13 1 12 (3 : Int32)) 13 0 18 (0 : Int32)) 13 0 16 (0 : Int32))) kv_X9_next wd_6_170 hI dX9_parseAll_85 rfl (hI 0 (by decide)) he_X9 rfl rfl rfl (Nat.le_of_ble_eq_true rfl) ⟨Nat.le_of_ble_eq_true rfl, Nat.le_of_ble_eq_true rfl⟩ ⟨Nat.zero_le _, Nat.zero_le _⟩ (fun _ => rfl) rfl (fun r1 M1 _ => ?_)
        refine hz_aload_n (a := 0) (n := 89) hC dX9_parseAll_88 rfl rfl rfl ?_
        refine hz_callV (k := 0) (As := []) (st := []) (S1 := fun r => .int r :: []) (n := 92) hC (c_X9_readsAll l    M1) kv_X9_readsAll wd_6_177 hI dX9_parseAll_89 rfl (hI 0 (by decide)) he_X9 rfl rfl rfl (Nat.le_of_ble_eq_true rfl) ⟨Nat.le_of_ble_eq_true rfl, Nat.le_of_ble_eq_true rfl⟩ ⟨Nat.zero_le _, Nat.zero_le _⟩ (fun _ => rfl) rfl (fun r2 M2 _ => ?_)
        refine hz_if_ne (tgt := 124) (n := 95) hC dX9_parseAll_92 (by decide) rfl (fun _ => ?_) (fun _ => ?_)
        · refine hz_iconst (v := (0 : Int32)) (n := 96) hC dX9_parseAll_95 (by decide +kernel) rfl ?_
          refine hz_istore_n (L' := [(1, .int (0 : Int32)), (0, .ref (adr 13 0))]) (n := 97) hC dX9_parseAll_96 rfl (by decide) rfl rfl ?_
          refine hz_L (L' := [(0, .ref (adr 13 0)), (1, .int (0 : Int32))]) [1, 0] rfl ?_
          exact l97 hp_fu _ _
        · refine hz_aload_n (a := 0) (n := 125) hC dX9_parseAll_124 rfl rfl rfl ?_
          refine hz_iconst (v := (0 : Int32)) (n := 126) hC dX9_parseAll_125 (by decide +kernel) rfl ?_
          refine fp_X9_250 (n := 129) hC hI (0 : Int32) dX9_parseAll_126 rfl ?_
          refine hz_aload_n (a := 0) (n := 130) hC dX9_parseAll_129 rfl rfl rfl ?_
          refine hz_iconst (v := (0 : Int32)) (n := 131) hC dX9_parseAll_130 (by decide +kernel) rfl ?_
          refine fp_X9_253 (n := 134) hC hI (0 : Int32) dX9_parseAll_131 rfl ?_
          refine hz_iconst (v := (1 : Int32)) (n := 135) hC dX9_parseAll_134 (by decide +kernel) rfl ?_
          exact hz_zret hC hr nz_1 dX9_parseAll_135
      · refine hz_aload_n (a := 0) (n := 10) hC dX9_parseAll_9 rfl rfl rfl ?_
        refine fg_X9_13 (n := 13) hC hI dX9_parseAll_10 rfl ?_
        refine hz_iload_n (a := 1) (n := 14) hC dX9_parseAll_13 rfl rfl rfl ?_
        refine hz_aload_n (a := 0) (n := 15) hC dX9_parseAll_14 rfl rfl rfl ?_
        refine fg_X9_7 (n := 18) hC hI dX9_parseAll_15 rfl ?_
        refine hz_iload_n (a := 1) (n := 19) hC dX9_parseAll_18 rfl rfl rfl ?_
        refine hz_iald (n := 20) hC dX9_parseAll_19 (hI 1 (by decide)) ha_m1 rfl (fun _ => ?_)
        refine hz_iast (n := 21) hC dX9_parseAll_20 (hI 2 (by decide)) ha_m2 rfl (fun _ => ?_)
        refine hz_aload_n (a := 0) (n := 22) hC dX9_parseAll_21 rfl rfl rfl ?_
        refine fg_X9_7 (n := 25) hC hI dX9_parseAll_22 rfl ?_
        refine hz_iload_n (a := 1) (n := 26) hC dX9_parseAll_25 rfl rfl rfl ?_
        refine hz_iconst (v := (0 : Int32)) (n := 27) hC dX9_parseAll_26 (by decide +kernel) rfl ?_
        refine hz_iast (n := 28) hC dX9_parseAll_27 (hI 1 (by decide)) ha_m1 rfl (fun _ => ?_)
        refine hz_iinc (a := 1) (v := (x1 + (1 : Int32))) (L' := [(1, .int (x1 + (1 : Int32))), (0, .ref (adr 13 0))]) (n := 31) hC dX9_parseAll_28 rfl rfl (by decide) rfl rfl ?_
        refine hz_goto (n := 2) hC dX9_parseAll_31 (by decide) ?_
        refine hz_L (L' := [(0, .ref (adr 13 0)), (1, .int (x1 + (1 : Int32)))]) [1, 0] rfl ?_
        exact ih2 _ _
  refine hz_iconst (v := (0 : Int32)) (n := 1) hC dX9_parseAll_0 (by decide +kernel) rfl ?_
  refine hz_istore_n (L' := [(1, .int (0 : Int32)), (0, .ref (adr 13 0))]) (n := 2) hC dX9_parseAll_1 rfl (by decide) rfl rfl ?_
  refine hz_L (L' := [(0, .ref (adr 13 0)), (1, .int (0 : Int32))]) [1, 0] rfl ?_
  exact l2 hp_fu _ _
def L_X9_tell_2 (t0 : Nat)   : Nat → Int32 → hp_M → Option (Unit × hp_M)
  | 0, _, _ => none
  | n2 + 1, x2, M => (hp_b (F_J0_length_8abf5 t0 M) (fun r1 M1 => (if r1 ≤ x2 then (some ((), M1)) else (hp_b (F_J0_charAt_5068e t0 x2 M1) (fun r2 M2 => (if (M1 13 0 10) < 0 ∨ 700 ≤ ((M1 13 0 10)).toNatClampNeg then none else (L_X9_tell_2 t0 n2 (x2 + (1 : Int32)) (hp_p (hp_p M2 13 7 ((M1 13 0 10)).toNatClampNeg r2) 13 0 10 (((hp_p M2 13 7 ((M1 13 0 10)).toNatClampNeg r2) 13 0 10) + (1 : Int32))))))))))
def F_X9_tell (t0 : Nat) (M : hp_M) : Option (Unit × hp_M) := (L_X9_tell_2 t0 hp_fu (0 : Int32) M)
set_option maxRecDepth 20000 in
set_option maxHeartbeats 4000000 in
theorem c_X9_tell (l : Launch) (t0 : Nat) (ht0 : hp_tb t0) (M : hp_M) : hp_Ct l yX9_tell cX9_tell 3 none 4 hp_IR (fun adr adV => [.ref (adr 13 0), .ref (adV t0)]) hp_oo M (F_X9_tell t0 M) := by
  refine hp_start "HallPhoneModel" (fun adr adV => [(0, .ref (adr 13 0)), (1, .ref (adV t0))]) (by decide) rfl (fun _ _ => by simp only [lg_sl]; exact Nat.le_of_ble_eq_true rfl) (fun _ _ => rfl) ?_
  intro p e s m args below meth c A D ids adr adV cA rep G0 hI hC hr
  unfold F_X9_tell
  have l2 : ∀  (n2 : Nat) (x2 : Int32) (M : hp_M), hp_Z p l e (hp_rm 4) s m args below meth c 3 A D ids adr adV cA 0 0 (MQ below (hp_Q A D ids adr adV cA rep hp_oo G0) args s 0 0 A) G0 rep 2 [(0, .ref (adr 13 0)), (1, .ref (adV t0)), (2, .int x2)] [] M (L_X9_tell_2 t0 n2 x2 M) := by
    intro  n2
    induction n2 with
    | zero => intro x2 M; exact hz_none hC
    | succ n2 ih2 =>
      intro x2 M
      rw [L_X9_tell_2.eq_2]
      refine hz_iload_n (a := 2) (n := 3) hC dX9_tell_2 rfl rfl rfl ?_
      refine hz_aload_n (a := 1) (n := 4) hC dX9_tell_3 rfl rfl rfl ?_
      refine hz_callO (k := 0) (As := []) (st := [.int x2]) (S1 := fun r => .int r :: [.int x2]) (n := 7) hC (c_J0_length_8abf5 l t0 ht0  M) kv_J0_length_8abf5 wd_6_161 trivial dX9_tell_4 rfl (hp_s_O hC.2.2.2.2.1 ht0) rfl rfl (Nat.le_of_ble_eq_true rfl) ⟨Nat.le_of_ble_eq_true rfl, Nat.le_of_ble_eq_true rfl⟩ ⟨Nat.zero_le _, Nat.zero_le _⟩ (fun _ => rfl) rfl (fun r1 M1 _ => ?_)
      refine hz_icmp_ge (tgt := 40) (n := 10) hC dX9_tell_7 (by decide) rfl (fun _ => ?_) (fun _ => ?_)
      · exact hz_vret hC hr dX9_tell_40
      · refine hz_aload_n (a := 0) (n := 11) hC dX9_tell_10 rfl rfl rfl ?_
        refine fg_X9_28 (n := 14) hC hI dX9_tell_11 rfl ?_
        refine hz_aload_n (a := 0) (n := 15) hC dX9_tell_14 rfl rfl rfl ?_
        refine fg_X9_114 (n := 18) hC hI dX9_tell_15 rfl ?_
        refine hz_aload_n (a := 1) (n := 19) hC dX9_tell_18 rfl rfl rfl ?_
        refine hz_iload_n (a := 2) (n := 20) hC dX9_tell_19 rfl rfl rfl ?_
        refine hz_callO (k := 1) (As := [.int x2]) (st := [.int (M1 13 0 10), .ref (adr 13 7)]) (S1 := fun r => .int r :: [.int (M1 13 0 10), .ref (adr 13 7)]) (n := 23) hC (c_J0_charAt_5068e l t0 x2 ht0  M1) kv_J0_charAt_5068e wd_6_162 trivial dX9_tell_20 rfl (hp_s_O hC.2.2.2.2.1 ht0) rfl rfl (Nat.le_of_ble_eq_true rfl) ⟨Nat.le_of_ble_eq_true rfl, Nat.le_of_ble_eq_true rfl⟩ ⟨Nat.zero_le _, Nat.zero_le _⟩ (fun _ => rfl) rfl (fun r2 M2 _ => ?_)
        refine hz_iast (n := 24) hC dX9_tell_23 (hI 7 (by decide)) ha_m7 rfl (fun _ => ?_)
        refine hz_aload_n (a := 0) (n := 25) hC dX9_tell_24 rfl rfl rfl ?_
        refine hz_dup (n := 26) hC dX9_tell_25 rfl rfl ?_
        refine fg_X9_114 (n := 29) hC hI dX9_tell_26 rfl ?_
        refine hz_iconst (v := (1 : Int32)) (n := 30) hC dX9_tell_29 (by decide +kernel) rfl ?_
        refine hz_iadd (n := 31) hC dX9_tell_30 rfl ?_
        refine fp_X9_114 (n := 34) hC hI (((hp_p M2 13 7 ((M1 13 0 10)).toNatClampNeg r2) 13 0 10) + (1 : Int32)) dX9_tell_31 rfl ?_
        refine hz_iinc (a := 2) (v := (x2 + (1 : Int32))) (L' := [(2, .int (x2 + (1 : Int32))), (0, .ref (adr 13 0)), (1, .ref (adV t0))]) (n := 37) hC dX9_tell_34 rfl rfl (by decide) rfl rfl ?_
        refine hz_goto (n := 2) hC dX9_tell_37 (by decide) ?_
        refine hz_L (L' := [(0, .ref (adr 13 0)), (1, .ref (adV t0)), (2, .int (x2 + (1 : Int32)))]) [1, 2, 0] rfl ?_
        exact ih2 _ _
  refine hz_iconst (v := (0 : Int32)) (n := 1) hC dX9_tell_0 (by decide +kernel) rfl ?_
  refine hz_istore_n (L' := [(2, .int (0 : Int32)), (0, .ref (adr 13 0)), (1, .ref (adV t0))]) (n := 2) hC dX9_tell_1 rfl (by decide) rfl rfl ?_
  refine hz_L (L' := [(0, .ref (adr 13 0)), (1, .ref (adV t0)), (2, .int (0 : Int32))]) [1, 2, 0] rfl ?_
  exact l2 hp_fu _ _
def F_X9_lay (a0 : Int32) (M : hp_M) : Option (Unit × hp_M) := (if a0 = (0 : Int32) then (hp_b (F_X9_tell 42 (hp_p M 13 0 10 (0 : Int32))) (fun _ M1 => (hp_b (F_X9_parseAll M1) (fun r2 M2 => (some ((), M2)))))) else (if a0 = (1 : Int32) then (hp_b (F_X9_tell 43 (hp_p M 13 0 10 (0 : Int32))) (fun _ M3 => (hp_b (F_X9_tell 44 M3) (fun _ M4 => (hp_b (F_X9_parseAll M4) (fun r5 M5 => (some ((), M5)))))))) else (hp_b (F_X9_tell 45 (hp_p M 13 0 10 (0 : Int32))) (fun _ M6 => (hp_b (F_X9_parseAll M6) (fun r7 M7 => (some ((), M7))))))))
set_option maxRecDepth 20000 in
set_option maxHeartbeats 4000000 in
theorem c_X9_lay (l : Launch) (a0 : Int32)  (M : hp_M) : hp_Ct l yX9_lay cX9_lay 2 none 9 hp_IR (fun adr adV => [.ref (adr 13 0), .int a0]) hp_oo M (F_X9_lay a0 M) := by
  refine hp_start "HallPhoneModel" (fun adr adV => [(0, .ref (adr 13 0)), (1, .int a0)]) (by decide) rfl (fun _ _ => by simp only [lg_sl]; exact Nat.le_of_ble_eq_true rfl) (fun _ _ => rfl) ?_
  intro p e s m args below meth c A D ids adr adV cA rep G0 hI hC hr
  unfold F_X9_lay
  refine hz_aload_n (a := 0) (n := 1) hC dX9_lay_0 rfl rfl rfl ?_
  refine hz_iconst (v := (0 : Int32)) (n := 2) hC dX9_lay_1 (by decide +kernel) rfl ?_
  refine fp_X9_114 (n := 5) hC hI (0 : Int32) dX9_lay_2 rfl ?_
  refine hz_iload_n (a := 1) (n := 6) hC dX9_lay_5 rfl rfl rfl ?_
  refine hz_case (fun hk0 => ?_) (fun hk0 => ?_)
  · refine hz_lookup (off := 26) (n := 32) hC dX9_lay_6 (by decide +kernel) (hp_lk hk0 (by decide +kernel)) (by decide) ?_
    refine hz_aload_n (a := 0) (n := 33) hC dX9_lay_32 rfl rfl rfl ?_
    refine hz_ldcS (k := 42) (n := 35) hC dX9_lay_33 wd_6_156 (hp_st_s 22 (by decide)) rfl ?_
    refine hz_callV (k := 1) (As := [.ref (adV 42)]) (st := []) (S1 := fun _ => []) (n := 38) hC (c_X9_tell l 42 (by decide)  (hp_p M 13 0 10 (0 : Int32))) kv_X9_tell wd_6_157 hI dX9_lay_35 rfl (hI 0 (by decide)) he_X9 rfl rfl rfl (Nat.le_of_ble_eq_true rfl) ⟨Nat.le_of_ble_eq_true rfl, Nat.le_of_ble_eq_true rfl⟩ ⟨Nat.zero_le _, Nat.zero_le _⟩ (fun _ => rfl) rfl (fun r1 M1 _ => ?_)
    refine hz_goto (n := 62) hC dX9_lay_38 (by decide) ?_
    refine hz_aload_n (a := 0) (n := 63) hC dX9_lay_62 rfl rfl rfl ?_
    refine hz_callV (k := 0) (As := []) (st := []) (S1 := fun r => .int r :: []) (n := 66) hC (c_X9_parseAll l    M1) kv_X9_parseAll wd_6_166 hI dX9_lay_63 rfl (hI 0 (by decide)) he_X9 rfl rfl rfl (Nat.le_of_ble_eq_true rfl) ⟨Nat.le_of_ble_eq_true rfl, Nat.le_of_ble_eq_true rfl⟩ ⟨Nat.zero_le _, Nat.zero_le _⟩ (fun _ => rfl) rfl (fun r2 M2 _ => ?_)
    refine hz_pop (n := 67) hC dX9_lay_66 rfl rfl ?_
    exact hz_vret hC hr dX9_lay_67
  refine hz_case (fun hk1 => ?_) (fun hk1 => ?_)
  · refine hz_lookup (off := 35) (n := 41) hC dX9_lay_6 (by decide +kernel) (hp_lk hk1 (by decide +kernel)) (by decide) ?_
    refine hz_aload_n (a := 0) (n := 42) hC dX9_lay_41 rfl rfl rfl ?_
    refine hz_ldcS (k := 43) (n := 44) hC dX9_lay_42 wd_6_163 (hp_st_s 23 (by decide)) rfl ?_
    refine hz_callV (k := 1) (As := [.ref (adV 43)]) (st := []) (S1 := fun _ => []) (n := 47) hC (c_X9_tell l 43 (by decide)  (hp_p M 13 0 10 (0 : Int32))) kv_X9_tell wd_6_157 hI dX9_lay_44 rfl (hI 0 (by decide)) he_X9 rfl rfl rfl (Nat.le_of_ble_eq_true rfl) ⟨Nat.le_of_ble_eq_true rfl, Nat.le_of_ble_eq_true rfl⟩ ⟨Nat.zero_le _, Nat.zero_le _⟩ (fun _ => rfl) rfl (fun r3 M3 _ => ?_)
    refine hz_aload_n (a := 0) (n := 48) hC dX9_lay_47 rfl rfl rfl ?_
    refine hz_ldcS (k := 44) (n := 50) hC dX9_lay_48 wd_6_164 (hp_st_s 24 (by decide)) rfl ?_
    refine hz_callV (k := 1) (As := [.ref (adV 44)]) (st := []) (S1 := fun _ => []) (n := 53) hC (c_X9_tell l 44 (by decide)  M3) kv_X9_tell wd_6_157 hI dX9_lay_50 rfl (hI 0 (by decide)) he_X9 rfl rfl rfl (Nat.le_of_ble_eq_true rfl) ⟨Nat.le_of_ble_eq_true rfl, Nat.le_of_ble_eq_true rfl⟩ ⟨Nat.zero_le _, Nat.zero_le _⟩ (fun _ => rfl) rfl (fun r4 M4 _ => ?_)
    refine hz_goto (n := 62) hC dX9_lay_53 (by decide) ?_
    refine hz_aload_n (a := 0) (n := 63) hC dX9_lay_62 rfl rfl rfl ?_
    refine hz_callV (k := 0) (As := []) (st := []) (S1 := fun r => .int r :: []) (n := 66) hC (c_X9_parseAll l    M4) kv_X9_parseAll wd_6_166 hI dX9_lay_63 rfl (hI 0 (by decide)) he_X9 rfl rfl rfl (Nat.le_of_ble_eq_true rfl) ⟨Nat.le_of_ble_eq_true rfl, Nat.le_of_ble_eq_true rfl⟩ ⟨Nat.zero_le _, Nat.zero_le _⟩ (fun _ => rfl) rfl (fun r5 M5 _ => ?_)
    refine hz_pop (n := 67) hC dX9_lay_66 rfl rfl ?_
    exact hz_vret hC hr dX9_lay_67
  refine hz_lookup (off := 50) (n := 56) hC dX9_lay_6 (by decide +kernel) (hp_lk2 hk0 hk1 (by decide +kernel)) (by decide) ?_
  refine hz_aload_n (a := 0) (n := 57) hC dX9_lay_56 rfl rfl rfl ?_
  refine hz_ldcS (k := 45) (n := 59) hC dX9_lay_57 wd_6_165 (hp_st_s 25 (by decide)) rfl ?_
  refine hz_callV (k := 1) (As := [.ref (adV 45)]) (st := []) (S1 := fun _ => []) (n := 62) hC (c_X9_tell l 45 (by decide)  (hp_p M 13 0 10 (0 : Int32))) kv_X9_tell wd_6_157 hI dX9_lay_59 rfl (hI 0 (by decide)) he_X9 rfl rfl rfl (Nat.le_of_ble_eq_true rfl) ⟨Nat.le_of_ble_eq_true rfl, Nat.le_of_ble_eq_true rfl⟩ ⟨Nat.zero_le _, Nat.zero_le _⟩ (fun _ => rfl) rfl (fun r6 M6 _ => ?_)
  refine hz_aload_n (a := 0) (n := 63) hC dX9_lay_62 rfl rfl rfl ?_
  refine hz_callV (k := 0) (As := []) (st := []) (S1 := fun r => .int r :: []) (n := 66) hC (c_X9_parseAll l    M6) kv_X9_parseAll wd_6_166 hI dX9_lay_63 rfl (hI 0 (by decide)) he_X9 rfl rfl rfl (Nat.le_of_ble_eq_true rfl) ⟨Nat.le_of_ble_eq_true rfl, Nat.le_of_ble_eq_true rfl⟩ ⟨Nat.zero_le _, Nat.zero_le _⟩ (fun _ => rfl) rfl (fun r7 M7 _ => ?_)
  refine hz_pop (n := 67) hC dX9_lay_66 rfl rfl ?_
  exact hz_vret hC hr dX9_lay_67
def L_X9_parse_28 (a0 : Int32)   : Nat → Int32 → hp_M → Option (Int32 × hp_M)
  | 0, _, _ => none
  | n28 + 1, x2, M => (if a0 ≤ x2 then (hp_b (F_X9_parseAll (hp_p (hp_p M 13 0 10 a0) 13 0 9 (0 : Int32))) (fun r3 M3 => (if r3 = 0 then (some (((-2 : Int32) - (M3 13 0 18)), M3)) else (some ((M3 13 1 0), M3))))) else (if x2 < 0 ∨ 700 ≤ (x2).toNatClampNeg then none else (if x2 < 0 ∨ 700 ≤ (x2).toNatClampNeg then none else (L_X9_parse_28 a0 n28 (x2 + (1 : Int32)) (hp_p M 13 7 (x2).toNatClampNeg (M 13 6 (x2).toNatClampNeg))))))
def A_X9_parse_18 (a0 : Int32)  (z18_0 : Int32) (M : hp_M) : Option (Int32 × hp_M) := (hp_b (F_X9_throwsOne z18_0 M) (fun r2 M2 => (if r2 = 0 then (L_X9_parse_28 a0 hp_fu (0 : Int32) M2) else (some ((0 : Int32), M2)))))
def F_X9_parse (a0 : Int32) (M : hp_M) : Option (Int32 × hp_M) := (hp_b (F_X9_in a0 (0 : Int32) (M 13 0 9) M) (fun r1 M1 => (if r1 = 0 then (A_X9_parse_18 a0 (1 : Int32) M1) else (A_X9_parse_18 a0 (0 : Int32) M1))))
set_option maxRecDepth 20000 in
set_option maxHeartbeats 4000000 in
theorem c_X9_parse (l : Launch) (a0 : Int32)  (M : hp_M) : hp_Ct l yX9_parse cX9_parse 3 (some .int) 9 hp_IR (fun adr adV => [.ref (adr 13 0), .int a0]) hp_oi M (F_X9_parse a0 M) := by
  refine hp_start "HallPhoneModel" (fun adr adV => [(0, .ref (adr 13 0)), (1, .int a0)]) (by decide) rfl (fun _ _ => by simp only [lg_sl]; exact Nat.le_of_ble_eq_true rfl) (fun _ _ => rfl) ?_
  intro p e s m args below meth c A D ids adr adV cA rep G0 hI hC hr
  unfold F_X9_parse
  have l28 : ∀  (n28 : Nat) (x2 : Int32) (M : hp_M), hp_Z p l e (hp_rm 9) s m args below meth c 3 A D ids adr adV cA 0 0 (MQ below (hp_Q A D ids adr adV cA rep hp_oi G0) args s 0 0 A) G0 rep 28 [(0, .ref (adr 13 0)), (1, .int a0), (2, .int x2)] [] M (L_X9_parse_28 a0 n28 x2 M) := by
    intro  n28
    induction n28 with
    | zero => intro x2 M; exact hz_none hC
    | succ n28 ih28 =>
      intro x2 M
      rw [L_X9_parse_28.eq_2]
      refine hz_iload_n (a := 2) (n := 29) hC dX9_parse_28 rfl rfl rfl ?_
      refine hz_iload_n (a := 1) (n := 30) hC dX9_parse_29 rfl rfl rfl ?_
      refine hz_icmp_ge (tgt := 51) (n := 33) hC dX9_parse_30 (by decide) rfl (fun _ => ?_) (fun _ => ?_)
      · refine hz_aload_n (a := 0) (n := 52) hC dX9_parse_51 rfl rfl rfl ?_
        refine hz_iload_n (a := 1) (n := 53) hC dX9_parse_52 rfl rfl rfl ?_
        refine fp_X9_114 (n := 56) hC hI a0 dX9_parse_53 rfl ?_
        refine hz_aload_n (a := 0) (n := 57) hC dX9_parse_56 rfl rfl rfl ?_
        refine hz_iconst (v := (0 : Int32)) (n := 58) hC dX9_parse_57 (by decide +kernel) rfl ?_
        refine fp_X9_256 (n := 61) hC hI (0 : Int32) dX9_parse_58 rfl ?_
        refine hz_aload_n (a := 0) (n := 62) hC dX9_parse_61 rfl rfl rfl ?_
        refine hz_callV (k := 0) (As := []) (st := []) (S1 := fun r => .int r :: []) (n := 65) hC (c_X9_parseAll l    (hp_p (hp_p M 13 0 10 a0) 13 0 9 (0 : Int32))) kv_X9_parseAll wd_6_166 hI dX9_parse_62 rfl (hI 0 (by decide)) he_X9 rfl rfl rfl (Nat.le_of_ble_eq_true rfl) ⟨Nat.le_of_ble_eq_true rfl, Nat.le_of_ble_eq_true rfl⟩ ⟨Nat.zero_le _, Nat.zero_le _⟩ (fun _ => rfl) rfl (fun r3 M3 _ => ?_)
        refine hz_if_eq (tgt := 77) (n := 68) hC dX9_parse_65 (by decide) rfl (fun _ => ?_) (fun _ => ?_)
        · refine hz_bipush (v := (-2 : Int32)) (n := 79) hC dX9_parse_77 (by decide +kernel) rfl ?_
          refine hz_aload_n (a := 0) (n := 80) hC dX9_parse_79 rfl rfl rfl ?_
          refine fg_X9_152 (n := 83) hC hI dX9_parse_80 rfl ?_
          refine hz_isub (n := 84) hC dX9_parse_83 rfl ?_
          exact hz_iret hC hr dX9_parse_84
        · refine hz_aload_n (a := 0) (n := 69) hC dX9_parse_68 rfl rfl rfl ?_
          refine fg_X9_7 (n := 72) hC hI dX9_parse_69 rfl ?_
          refine hz_iconst (v := (0 : Int32)) (n := 73) hC dX9_parse_72 (by decide +kernel) rfl ?_
          refine hz_ialdc (k := 0) (n := 74) hC (by decide +kernel) (by decide) dX9_parse_73 (hI 1 (by decide)) ha_m1 rfl ?_
          refine hz_goto (n := 84) hC dX9_parse_74 (by decide) ?_
          exact hz_iret hC hr dX9_parse_84
      · refine hz_aload_n (a := 0) (n := 34) hC dX9_parse_33 rfl rfl rfl ?_
        refine fg_X9_28 (n := 37) hC hI dX9_parse_34 rfl ?_
        refine hz_iload_n (a := 2) (n := 38) hC dX9_parse_37 rfl rfl rfl ?_
        refine hz_aload_n (a := 0) (n := 39) hC dX9_parse_38 rfl rfl rfl ?_
        refine fg_X9_25 (n := 42) hC hI dX9_parse_39 rfl ?_
        refine hz_iload_n (a := 2) (n := 43) hC dX9_parse_42 rfl rfl rfl ?_
        refine hz_iald (n := 44) hC dX9_parse_43 (hI 6 (by decide)) ha_m6 rfl (fun _ => ?_)
        refine hz_iast (n := 45) hC dX9_parse_44 (hI 7 (by decide)) ha_m7 rfl (fun _ => ?_)
        refine hz_iinc (a := 2) (v := (x2 + (1 : Int32))) (L' := [(2, .int (x2 + (1 : Int32))), (0, .ref (adr 13 0)), (1, .int a0)]) (n := 48) hC dX9_parse_45 rfl rfl (by decide) rfl rfl ?_
        refine hz_goto (n := 28) hC dX9_parse_48 (by decide) ?_
        refine hz_L (L' := [(0, .ref (adr 13 0)), (1, .int a0), (2, .int (x2 + (1 : Int32)))]) [1, 2, 0] rfl ?_
        exact ih28 _ _
  have j18 : ∀ (z18_0 : Int32) (M : hp_M), hp_Z p l e (hp_rm 9) s m args below meth c 3 A D ids adr adV cA 0 0 (MQ below (hp_Q A D ids adr adV cA rep hp_oi G0) args s 0 0 A) G0 rep 18 [(0, .ref (adr 13 0)), (1, .int a0)] [.int z18_0, .ref (adr 13 0)] M (A_X9_parse_18 a0 z18_0 M) := by
    intro z18_0 M
    unfold A_X9_parse_18
    refine hz_callV (k := 1) (As := [.int z18_0]) (st := []) (S1 := fun r => .int r :: []) (n := 21) hC (c_X9_throwsOne l z18_0   M) kv_X9_throwsOne wd_7_181 hI dX9_parse_18 rfl (hI 0 (by decide)) he_X9 rfl rfl rfl (Nat.le_of_ble_eq_true rfl) ⟨Nat.le_of_ble_eq_true rfl, Nat.le_of_ble_eq_true rfl⟩ ⟨Nat.zero_le _, Nat.zero_le _⟩ (fun _ => rfl) rfl (fun r2 M2 _ => ?_)
    refine hz_if_eq (tgt := 26) (n := 24) hC dX9_parse_21 (by decide) rfl (fun _ => ?_) (fun _ => ?_)
    · refine hz_iconst (v := (0 : Int32)) (n := 27) hC dX9_parse_26 (by decide +kernel) rfl ?_
      refine hz_istore_n (L' := [(2, .int (0 : Int32)), (0, .ref (adr 13 0)), (1, .int a0)]) (n := 28) hC dX9_parse_27 rfl (by decide) rfl rfl ?_
      refine hz_L (L' := [(0, .ref (adr 13 0)), (1, .int a0), (2, .int (0 : Int32))]) [1, 2, 0] rfl ?_
      exact l28 hp_fu _ _
    · refine hz_iconst (v := (0 : Int32)) (n := 25) hC dX9_parse_24 (by decide +kernel) rfl ?_
      exact hz_iret hC hr dX9_parse_25
  refine hz_aload_n (a := 0) (n := 1) hC dX9_parse_0 rfl rfl rfl ?_
  refine hz_iload_n (a := 1) (n := 2) hC dX9_parse_1 rfl rfl rfl ?_
  refine hz_iconst (v := (0 : Int32)) (n := 3) hC dX9_parse_2 (by decide +kernel) rfl ?_
  refine hz_aload_n (a := 0) (n := 4) hC dX9_parse_3 rfl rfl rfl ?_
  refine fg_X9_256 (n := 7) hC hI dX9_parse_4 rfl ?_
  refine hz_callS (k := 3) (As := [.int a0, .int (0 : Int32), .int (M 13 0 9)]) (st := [.ref (adr 13 0)]) (S1 := fun r => .int r :: [.ref (adr 13 0)]) (n := 10) hC (c_X9_in l a0 (0 : Int32) (M 13 0 9)   M) ks_X9_in wd_6_198 hI dX9_parse_7 rfl rfl rfl (Nat.le_of_ble_eq_true rfl) ⟨Nat.le_of_ble_eq_true rfl, Nat.le_of_ble_eq_true rfl⟩ ⟨Nat.zero_le _, Nat.zero_le _⟩ (fun _ => rfl) rfl (fun r1 M1 _ => ?_)
  refine hz_if_ne (tgt := 17) (n := 13) hC dX9_parse_10 (by decide) rfl (fun _ => ?_) (fun _ => ?_)
  · refine hz_iconst (v := (1 : Int32)) (n := 14) hC dX9_parse_13 (by decide +kernel) rfl ?_
    refine hz_goto (n := 18) hC dX9_parse_14 (by decide) ?_
    exact j18 _ _
  · refine hz_iconst (v := (0 : Int32)) (n := 18) hC dX9_parse_17 (by decide +kernel) rfl ?_
    exact j18 _ _
def A_X9_load_15 (a0 : Int32)  (z15_0 : Int32) (M : hp_M) : Option (Int32 × hp_M) := (hp_b (F_X9_throwsOne z15_0 M) (fun r2 M2 => (if r2 = 0 then (hp_b (F_X9_lay a0 M2) (fun _ M3 => (some ((M3 13 1 0), M3)))) else (some ((0 : Int32), M2)))))
def F_X9_load (a0 : Int32) (M : hp_M) : Option (Int32 × hp_M) := (hp_b (F_X9_in a0 (0 : Int32) (2 : Int32) M) (fun r1 M1 => (if r1 = 0 then (A_X9_load_15 a0 (1 : Int32) M1) else (A_X9_load_15 a0 (0 : Int32) M1))))
set_option maxRecDepth 20000 in
set_option maxHeartbeats 4000000 in
theorem c_X9_load (l : Launch) (a0 : Int32)  (M : hp_M) : hp_Ct l yX9_load cX9_load 2 (some .int) 10 hp_IR (fun adr adV => [.ref (adr 13 0), .int a0]) hp_oi M (F_X9_load a0 M) := by
  refine hp_start "HallPhoneModel" (fun adr adV => [(0, .ref (adr 13 0)), (1, .int a0)]) (by decide) rfl (fun _ _ => by simp only [lg_sl]; exact Nat.le_of_ble_eq_true rfl) (fun _ _ => rfl) ?_
  intro p e s m args below meth c A D ids adr adV cA rep G0 hI hC hr
  unfold F_X9_load
  have j15 : ∀ (z15_0 : Int32) (M : hp_M), hp_Z p l e (hp_rm 10) s m args below meth c 2 A D ids adr adV cA 0 0 (MQ below (hp_Q A D ids adr adV cA rep hp_oi G0) args s 0 0 A) G0 rep 15 [(0, .ref (adr 13 0)), (1, .int a0)] [.int z15_0, .ref (adr 13 0)] M (A_X9_load_15 a0 z15_0 M) := by
    intro z15_0 M
    unfold A_X9_load_15
    refine hz_callV (k := 1) (As := [.int z15_0]) (st := []) (S1 := fun r => .int r :: []) (n := 18) hC (c_X9_throwsOne l z15_0   M) kv_X9_throwsOne wd_7_181 hI dX9_load_15 rfl (hI 0 (by decide)) he_X9 rfl rfl rfl (Nat.le_of_ble_eq_true rfl) ⟨Nat.le_of_ble_eq_true rfl, Nat.le_of_ble_eq_true rfl⟩ ⟨Nat.zero_le _, Nat.zero_le _⟩ (fun _ => rfl) rfl (fun r2 M2 _ => ?_)
    refine hz_if_eq (tgt := 23) (n := 21) hC dX9_load_18 (by decide) rfl (fun _ => ?_) (fun _ => ?_)
    · refine hz_aload_n (a := 0) (n := 24) hC dX9_load_23 rfl rfl rfl ?_
      refine hz_iload_n (a := 1) (n := 25) hC dX9_load_24 rfl rfl rfl ?_
      refine hz_callV (k := 1) (As := [.int a0]) (st := []) (S1 := fun _ => []) (n := 28) hC (c_X9_lay l a0   M2) kv_X9_lay wd_6_152 hI dX9_load_25 rfl (hI 0 (by decide)) he_X9 rfl rfl rfl (Nat.le_of_ble_eq_true rfl) ⟨Nat.le_of_ble_eq_true rfl, Nat.le_of_ble_eq_true rfl⟩ ⟨Nat.zero_le _, Nat.zero_le _⟩ (fun _ => rfl) rfl (fun r3 M3 _ => ?_)
      refine hz_aload_n (a := 0) (n := 29) hC dX9_load_28 rfl rfl rfl ?_
      refine fg_X9_7 (n := 32) hC hI dX9_load_29 rfl ?_
      refine hz_iconst (v := (0 : Int32)) (n := 33) hC dX9_load_32 (by decide +kernel) rfl ?_
      refine hz_ialdc (k := 0) (n := 34) hC (by decide +kernel) (by decide) dX9_load_33 (hI 1 (by decide)) ha_m1 rfl ?_
      exact hz_iret hC hr dX9_load_34
    · refine hz_iconst (v := (0 : Int32)) (n := 22) hC dX9_load_21 (by decide +kernel) rfl ?_
      exact hz_iret hC hr dX9_load_22
  refine hz_aload_n (a := 0) (n := 1) hC dX9_load_0 rfl rfl rfl ?_
  refine hz_iload_n (a := 1) (n := 2) hC dX9_load_1 rfl rfl rfl ?_
  refine hz_iconst (v := (0 : Int32)) (n := 3) hC dX9_load_2 (by decide +kernel) rfl ?_
  refine hz_iconst (v := (2 : Int32)) (n := 4) hC dX9_load_3 (by decide +kernel) rfl ?_
  refine hz_callS (k := 3) (As := [.int a0, .int (0 : Int32), .int (2 : Int32)]) (st := [.ref (adr 13 0)]) (S1 := fun r => .int r :: [.ref (adr 13 0)]) (n := 7) hC (c_X9_in l a0 (0 : Int32) (2 : Int32)   M) ks_X9_in wd_6_198 hI dX9_load_4 rfl rfl rfl (Nat.le_of_ble_eq_true rfl) ⟨Nat.le_of_ble_eq_true rfl, Nat.le_of_ble_eq_true rfl⟩ ⟨Nat.zero_le _, Nat.zero_le _⟩ (fun _ => rfl) rfl (fun r1 M1 _ => ?_)
  refine hz_if_ne (tgt := 14) (n := 10) hC dX9_load_7 (by decide) rfl (fun _ => ?_) (fun _ => ?_)
  · refine hz_iconst (v := (1 : Int32)) (n := 11) hC dX9_load_10 (by decide +kernel) rfl ?_
    refine hz_goto (n := 15) hC dX9_load_11 (by decide) ?_
    exact j15 _ _
  · refine hz_iconst (v := (0 : Int32)) (n := 15) hC dX9_load_14 (by decide +kernel) rfl ?_
    exact j15 _ _
