def F_X3_putDown (g : Nat) (M : hp_M) : Option (Unit × hp_M) := (some ((), (hp_p (hp_p (hp_p (hp_p (hp_p M g 5 0 (0 : Int32)) g 5 1 (-1 : Int32)) g 5 2 (0 : Int32)) g 5 3 (0 : Int32)) g 5 4 (0 : Int32))))
set_option maxRecDepth 20000 in
set_option maxHeartbeats 4000000 in
theorem c_X3_putDown (l : Launch) (g : Nat) (hg : g < 12) (M : hp_M) : hp_Ct l yX3_putDown cX3_putDown 1 none 0 hp_IC (fun adr adV => [.ref (adr g 5)]) hp_oo M (F_X3_putDown g M) := by
  refine hp_start "HallPhone$Phone" (fun adr adV => [(0, .ref (adr g 5))]) (by decide) rfl (fun _ _ => by simp only [lg_sl]; exact Nat.le_of_ble_eq_true rfl) (fun _ _ => rfl) ?_
  intro p e s m args below meth c A D ids adr adV cA rep G0 hI hC hr
  unfold F_X3_putDown
  refine hz_aload_n (a := 0) (n := 1) hC dX3_putDown_0 rfl rfl rfl ?_
  refine hz_iconst (v := (0 : Int32)) (n := 2) hC dX3_putDown_1 (by decide +kernel) rfl ?_
  refine fp_X3_9 (n := 5) hC hg hI (0 : Int32) dX3_putDown_2 rfl ?_
  refine hz_aload_n (a := 0) (n := 6) hC dX3_putDown_5 rfl rfl rfl ?_
  refine hz_iconst (v := (-1 : Int32)) (n := 7) hC dX3_putDown_6 (by decide +kernel) rfl ?_
  refine fp_X3_15 (n := 10) hC hg hI (-1 : Int32) dX3_putDown_7 rfl ?_
  refine hz_aload_n (a := 0) (n := 11) hC dX3_putDown_10 rfl rfl rfl ?_
  refine hz_iconst (v := (0 : Int32)) (n := 12) hC dX3_putDown_11 (by decide +kernel) rfl ?_
  refine fp_X3_18 (n := 15) hC hg hI (0 : Int32) dX3_putDown_12 rfl ?_
  refine hz_aload_n (a := 0) (n := 16) hC dX3_putDown_15 rfl rfl rfl ?_
  refine hz_iconst (v := (0 : Int32)) (n := 17) hC dX3_putDown_16 (by decide +kernel) rfl ?_
  refine fp_X3_21 (n := 20) hC hg hI (0 : Int32) dX3_putDown_17 rfl ?_
  refine hz_aload_n (a := 0) (n := 21) hC dX3_putDown_20 rfl rfl rfl ?_
  refine hz_iconst (v := (0 : Int32)) (n := 22) hC dX3_putDown_21 (by decide +kernel) rfl ?_
  refine fp_X3_24 (n := 25) hC hg hI (0 : Int32) (by decide) dX3_putDown_22 rfl ?_
  exact hz_vret hC hr dX3_putDown_25
def F_X4_at (g : Nat) (a0 : Int32) (M : hp_M) : Option (Int32 × hp_M) := (if a0 < 0 then (some ((-1 : Int32), M)) else (if (M g 6 1) ≤ a0 then (some ((-1 : Int32), M)) else (if (10 : Int32) ≤ a0 then (some ((-1 : Int32), M)) else (if a0 < 0 ∨ 10 ≤ (a0).toNatClampNeg then none else (some ((M g 7 (a0).toNatClampNeg), M))))))
set_option maxRecDepth 20000 in
set_option maxHeartbeats 4000000 in
theorem c_X4_at (l : Launch) (g : Nat) (a0 : Int32) (hg : g < 12) (M : hp_M) : hp_Ct l yX4_at cX4_at 2 (some .int) 0 hp_IC (fun adr adV => [.ref (adr g 6), .int a0]) hp_oi M (F_X4_at g a0 M) := by
  refine hp_start "HallPhone$Queue" (fun adr adV => [(0, .ref (adr g 6)), (1, .int a0)]) (by decide) rfl (fun _ _ => by simp only [lg_sl]; exact Nat.le_of_ble_eq_true rfl) (fun _ _ => rfl) ?_
  intro p e s m args below meth c A D ids adr adV cA rep G0 hI hC hr
  unfold F_X4_at
  refine hz_iload_n (a := 1) (n := 1) hC dX4_at_0 rfl rfl rfl ?_
  refine hz_if_lt (tgt := 30) (n := 4) hC dX4_at_1 (by decide) rfl (fun _ => ?_) (fun _ => ?_)
  · refine hz_iconst (v := (-1 : Int32)) (n := 31) hC dX4_at_30 (by decide +kernel) rfl ?_
    exact hz_iret hC hr dX4_at_31
  · refine hz_iload_n (a := 1) (n := 5) hC dX4_at_4 rfl rfl rfl ?_
    refine hz_aload_n (a := 0) (n := 6) hC dX4_at_5 rfl rfl rfl ?_
    refine fg_X4_15 (n := 9) hC hg hI dX4_at_6 rfl ?_
    refine hz_icmp_ge (tgt := 30) (n := 12) hC dX4_at_9 (by decide) rfl (fun _ => ?_) (fun _ => ?_)
    · refine hz_iconst (v := (-1 : Int32)) (n := 31) hC dX4_at_30 (by decide +kernel) rfl ?_
      exact hz_iret hC hr dX4_at_31
    · refine hz_iload_n (a := 1) (n := 13) hC dX4_at_12 rfl rfl rfl ?_
      refine hz_aload_n (a := 0) (n := 14) hC dX4_at_13 rfl rfl rfl ?_
      refine fg_X4_9 (n := 17) hC hg hI dX4_at_14 rfl ?_
      refine hz_alen (v := (10 : Int32)) (t := 0) (n := 18) hC dX4_at_17 (hI.1 g 7 hg (by decide)) (ha_h7 hg) rfl (by decide +kernel) rfl ?_
      refine hz_icmp_ge (tgt := 30) (n := 21) hC dX4_at_18 (by decide) rfl (fun _ => ?_) (fun _ => ?_)
      · refine hz_iconst (v := (-1 : Int32)) (n := 31) hC dX4_at_30 (by decide +kernel) rfl ?_
        exact hz_iret hC hr dX4_at_31
      · refine hz_aload_n (a := 0) (n := 22) hC dX4_at_21 rfl rfl rfl ?_
        refine fg_X4_9 (n := 25) hC hg hI dX4_at_22 rfl ?_
        refine hz_iload_n (a := 1) (n := 26) hC dX4_at_25 rfl rfl rfl ?_
        refine hz_iald (n := 27) hC dX4_at_26 (hI.1 g 7 hg (by decide)) (ha_h7 hg) rfl (fun _ => ?_)
        refine hz_goto (n := 31) hC dX4_at_27 (by decide) ?_
        exact hz_iret hC hr dX4_at_31
def F_X6_flatAt (g : Nat) (a0 : Int32) (M : hp_M) : Option (Int32 × hp_M) := (if a0 < 0 then (some ((-1 : Int32), M)) else (if (8 : Int32) ≤ a0 then (some ((-1 : Int32), M)) else (if a0 < 0 ∨ 8 ≤ (a0).toNatClampNeg then none else (some ((M g 9 (a0).toNatClampNeg), M)))))
set_option maxRecDepth 20000 in
set_option maxHeartbeats 4000000 in
theorem c_X6_flatAt (l : Launch) (g : Nat) (a0 : Int32) (hg : g < 12) (M : hp_M) : hp_Ct l yX6_flatAt cX6_flatAt 2 (some .int) 0 hp_IC (fun adr adV => [.ref (adr g 8), .int a0]) hp_oi M (F_X6_flatAt g a0 M) := by
  refine hp_start "HallPhone$Slate" (fun adr adV => [(0, .ref (adr g 8)), (1, .int a0)]) (by decide) rfl (fun _ _ => by simp only [lg_sl]; exact Nat.le_of_ble_eq_true rfl) (fun _ _ => rfl) ?_
  intro p e s m args below meth c A D ids adr adV cA rep G0 hI hC hr
  unfold F_X6_flatAt
  refine hz_iload_n (a := 1) (n := 1) hC dX6_flatAt_0 rfl rfl rfl ?_
  refine hz_if_lt (tgt := 22) (n := 4) hC dX6_flatAt_1 (by decide) rfl (fun _ => ?_) (fun _ => ?_)
  · refine hz_iconst (v := (-1 : Int32)) (n := 23) hC dX6_flatAt_22 (by decide +kernel) rfl ?_
    exact hz_iret hC hr dX6_flatAt_23
  · refine hz_iload_n (a := 1) (n := 5) hC dX6_flatAt_4 rfl rfl rfl ?_
    refine hz_aload_n (a := 0) (n := 6) hC dX6_flatAt_5 rfl rfl rfl ?_
    refine fg_X6_9 (n := 9) hC hg hI dX6_flatAt_6 rfl ?_
    refine hz_alen (v := (8 : Int32)) (t := 0) (n := 10) hC dX6_flatAt_9 (hI.1 g 9 hg (by decide)) (ha_h9 hg) rfl (by decide +kernel) rfl ?_
    refine hz_icmp_ge (tgt := 22) (n := 13) hC dX6_flatAt_10 (by decide) rfl (fun _ => ?_) (fun _ => ?_)
    · refine hz_iconst (v := (-1 : Int32)) (n := 23) hC dX6_flatAt_22 (by decide +kernel) rfl ?_
      exact hz_iret hC hr dX6_flatAt_23
    · refine hz_aload_n (a := 0) (n := 14) hC dX6_flatAt_13 rfl rfl rfl ?_
      refine fg_X6_9 (n := 17) hC hg hI dX6_flatAt_14 rfl ?_
      refine hz_iload_n (a := 1) (n := 18) hC dX6_flatAt_17 rfl rfl rfl ?_
      refine hz_iald (n := 19) hC dX6_flatAt_18 (hI.1 g 9 hg (by decide)) (ha_h9 hg) rfl (fun _ => ?_)
      refine hz_goto (n := 23) hC dX6_flatAt_19 (by decide) ?_
      exact hz_iret hC hr dX6_flatAt_23
def F_X3_holdFor (g : Nat) (a0 : Int32) (a1 : Int32) (M : hp_M) : Option (Unit × hp_M) := (some ((), (hp_p (hp_p (hp_p (hp_p (hp_p M g 5 0 (1 : Int32)) g 5 1 a0) g 5 2 (0 : Int32)) g 5 3 a1) g 5 4 (1 : Int32))))
set_option maxRecDepth 20000 in
set_option maxHeartbeats 4000000 in
theorem c_X3_holdFor (l : Launch) (g : Nat) (a0 : Int32) (a1 : Int32) (hg : g < 12) (M : hp_M) : hp_Ct l yX3_holdFor cX3_holdFor 3 none 0 hp_IC (fun adr adV => [.ref (adr g 5), .int a0, .int a1]) hp_oo M (F_X3_holdFor g a0 a1 M) := by
  refine hp_start "HallPhone$Phone" (fun adr adV => [(0, .ref (adr g 5)), (1, .int a0), (2, .int a1)]) (by decide) rfl (fun _ _ => by simp only [lg_sl]; exact Nat.le_of_ble_eq_true rfl) (fun _ _ => rfl) ?_
  intro p e s m args below meth c A D ids adr adV cA rep G0 hI hC hr
  unfold F_X3_holdFor
  refine hz_aload_n (a := 0) (n := 1) hC dX3_holdFor_0 rfl rfl rfl ?_
  refine hz_iconst (v := (1 : Int32)) (n := 2) hC dX3_holdFor_1 (by decide +kernel) rfl ?_
  refine fp_X3_9 (n := 5) hC hg hI (1 : Int32) dX3_holdFor_2 rfl ?_
  refine hz_aload_n (a := 0) (n := 6) hC dX3_holdFor_5 rfl rfl rfl ?_
  refine hz_iload_n (a := 1) (n := 7) hC dX3_holdFor_6 rfl rfl rfl ?_
  refine fp_X3_15 (n := 10) hC hg hI a0 dX3_holdFor_7 rfl ?_
  refine hz_aload_n (a := 0) (n := 11) hC dX3_holdFor_10 rfl rfl rfl ?_
  refine hz_iconst (v := (0 : Int32)) (n := 12) hC dX3_holdFor_11 (by decide +kernel) rfl ?_
  refine fp_X3_18 (n := 15) hC hg hI (0 : Int32) dX3_holdFor_12 rfl ?_
  refine hz_aload_n (a := 0) (n := 16) hC dX3_holdFor_15 rfl rfl rfl ?_
  refine hz_iload_n (a := 2) (n := 17) hC dX3_holdFor_16 rfl rfl rfl ?_
  refine fp_X3_21 (n := 20) hC hg hI a1 dX3_holdFor_17 rfl ?_
  refine hz_aload_n (a := 0) (n := 21) hC dX3_holdFor_20 rfl rfl rfl ?_
  refine hz_iconst (v := (1 : Int32)) (n := 22) hC dX3_holdFor_21 (by decide +kernel) rfl ?_
  refine fp_X3_24 (n := 25) hC hg hI (1 : Int32) (by decide) dX3_holdFor_22 rfl ?_
  exact hz_vret hC hr dX3_holdFor_25
def L_X4_placeOf_2 (g : Nat) (a0 : Int32)   : Nat → Int32 → hp_M → Option (Int32 × hp_M)
  | 0, _, _ => none
  | n2 + 1, x2, M => (if (M g 6 1) ≤ x2 then (some ((-1 : Int32), M)) else (if (10 : Int32) ≤ x2 then (some ((-1 : Int32), M)) else (if x2 < 0 ∨ 10 ≤ (x2).toNatClampNeg then none else (if (M g 7 (x2).toNatClampNeg) = a0 then (some (x2, M)) else (L_X4_placeOf_2 g a0 n2 (x2 + (1 : Int32)) M)))))
def F_X4_placeOf (g : Nat) (a0 : Int32) (M : hp_M) : Option (Int32 × hp_M) := (L_X4_placeOf_2 g a0 hp_fu (0 : Int32) M)
set_option maxRecDepth 20000 in
set_option maxHeartbeats 4000000 in
theorem c_X4_placeOf (l : Launch) (g : Nat) (a0 : Int32) (hg : g < 12) (M : hp_M) : hp_Ct l yX4_placeOf cX4_placeOf 3 (some .int) 0 hp_IC (fun adr adV => [.ref (adr g 6), .int a0]) hp_oi M (F_X4_placeOf g a0 M) := by
  refine hp_start "HallPhone$Queue" (fun adr adV => [(0, .ref (adr g 6)), (1, .int a0)]) (by decide) rfl (fun _ _ => by simp only [lg_sl]; exact Nat.le_of_ble_eq_true rfl) (fun _ _ => rfl) ?_
  intro p e s m args below meth c A D ids adr adV cA rep G0 hI hC hr
  unfold F_X4_placeOf
  have l2 : ∀  (n2 : Nat) (x2 : Int32) (M : hp_M), hp_Z p l e (hp_rm 0) s m args below meth c 3 A D ids adr adV cA 0 0 (MQ below (hp_Q A D ids adr adV cA rep hp_oi G0) args s 0 0 A) G0 rep 2 [(0, .ref (adr g 6)), (1, .int a0), (2, .int x2)] [] M (L_X4_placeOf_2 g a0 n2 x2 M) := by
    intro  n2
    induction n2 with
    | zero => intro x2 M; exact hz_none hC
    | succ n2 ih2 =>
      intro x2 M
      rw [L_X4_placeOf_2.eq_2]
      refine hz_iload_n (a := 2) (n := 3) hC dX4_placeOf_2 rfl rfl rfl ?_
      refine hz_aload_n (a := 0) (n := 4) hC dX4_placeOf_3 rfl rfl rfl ?_
      refine fg_X4_15 (n := 7) hC hg hI dX4_placeOf_4 rfl ?_
      refine hz_icmp_ge (tgt := 37) (n := 10) hC dX4_placeOf_7 (by decide) rfl (fun _ => ?_) (fun _ => ?_)
      · refine hz_iconst (v := (-1 : Int32)) (n := 38) hC dX4_placeOf_37 (by decide +kernel) rfl ?_
        exact hz_iret hC hr dX4_placeOf_38
      · refine hz_iload_n (a := 2) (n := 11) hC dX4_placeOf_10 rfl rfl rfl ?_
        refine hz_aload_n (a := 0) (n := 12) hC dX4_placeOf_11 rfl rfl rfl ?_
        refine fg_X4_9 (n := 15) hC hg hI dX4_placeOf_12 rfl ?_
        refine hz_alen (v := (10 : Int32)) (t := 0) (n := 16) hC dX4_placeOf_15 (hI.1 g 7 hg (by decide)) (ha_h7 hg) rfl (by decide +kernel) rfl ?_
        refine hz_icmp_ge (tgt := 37) (n := 19) hC dX4_placeOf_16 (by decide) rfl (fun _ => ?_) (fun _ => ?_)
        · refine hz_iconst (v := (-1 : Int32)) (n := 38) hC dX4_placeOf_37 (by decide +kernel) rfl ?_
          exact hz_iret hC hr dX4_placeOf_38
        · refine hz_aload_n (a := 0) (n := 20) hC dX4_placeOf_19 rfl rfl rfl ?_
          refine fg_X4_9 (n := 23) hC hg hI dX4_placeOf_20 rfl ?_
          refine hz_iload_n (a := 2) (n := 24) hC dX4_placeOf_23 rfl rfl rfl ?_
          refine hz_iald (n := 25) hC dX4_placeOf_24 (hI.1 g 7 hg (by decide)) (ha_h7 hg) rfl (fun _ => ?_)
          refine hz_iload_n (a := 1) (n := 26) hC dX4_placeOf_25 rfl rfl rfl ?_
          refine hz_icmp_ne (tgt := 31) (n := 29) hC dX4_placeOf_26 (by decide) rfl (fun _ => ?_) (fun _ => ?_)
          · refine hz_iload_n (a := 2) (n := 30) hC dX4_placeOf_29 rfl rfl rfl ?_
            exact hz_iret hC hr dX4_placeOf_30
          · refine hz_iinc (a := 2) (v := (x2 + (1 : Int32))) (L' := [(2, .int (x2 + (1 : Int32))), (0, .ref (adr g 6)), (1, .int a0)]) (n := 34) hC dX4_placeOf_31 rfl rfl (by decide) rfl rfl ?_
            refine hz_goto (n := 2) hC dX4_placeOf_34 (by decide) ?_
            refine hz_L (L' := [(0, .ref (adr g 6)), (1, .int a0), (2, .int (x2 + (1 : Int32)))]) [1, 2, 0] rfl ?_
            exact ih2 _ _
  refine hz_iconst (v := (0 : Int32)) (n := 1) hC dX4_placeOf_0 (by decide +kernel) rfl ?_
  refine hz_istore_n (L' := [(2, .int (0 : Int32)), (0, .ref (adr g 6)), (1, .int a0)]) (n := 2) hC dX4_placeOf_1 rfl (by decide) rfl rfl ?_
  refine hz_L (L' := [(0, .ref (adr g 6)), (1, .int a0), (2, .int (0 : Int32))]) [1, 2, 0] rfl ?_
  exact l2 hp_fu _ _
def F_X6_minuteAt (g : Nat) (a0 : Int32) (M : hp_M) : Option (Int32 × hp_M) := (if a0 < 0 then (some ((-1 : Int32), M)) else (if (8 : Int32) ≤ a0 then (some ((-1 : Int32), M)) else (if a0 < 0 ∨ 8 ≤ (a0).toNatClampNeg then none else (some ((M g 10 (a0).toNatClampNeg), M)))))
set_option maxRecDepth 20000 in
set_option maxHeartbeats 4000000 in
theorem c_X6_minuteAt (l : Launch) (g : Nat) (a0 : Int32) (hg : g < 12) (M : hp_M) : hp_Ct l yX6_minuteAt cX6_minuteAt 2 (some .int) 0 hp_IC (fun adr adV => [.ref (adr g 8), .int a0]) hp_oi M (F_X6_minuteAt g a0 M) := by
  refine hp_start "HallPhone$Slate" (fun adr adV => [(0, .ref (adr g 8)), (1, .int a0)]) (by decide) rfl (fun _ _ => by simp only [lg_sl]; exact Nat.le_of_ble_eq_true rfl) (fun _ _ => rfl) ?_
  intro p e s m args below meth c A D ids adr adV cA rep G0 hI hC hr
  unfold F_X6_minuteAt
  refine hz_iload_n (a := 1) (n := 1) hC dX6_minuteAt_0 rfl rfl rfl ?_
  refine hz_if_lt (tgt := 22) (n := 4) hC dX6_minuteAt_1 (by decide) rfl (fun _ => ?_) (fun _ => ?_)
  · refine hz_iconst (v := (-1 : Int32)) (n := 23) hC dX6_minuteAt_22 (by decide +kernel) rfl ?_
    exact hz_iret hC hr dX6_minuteAt_23
  · refine hz_iload_n (a := 1) (n := 5) hC dX6_minuteAt_4 rfl rfl rfl ?_
    refine hz_aload_n (a := 0) (n := 6) hC dX6_minuteAt_5 rfl rfl rfl ?_
    refine fg_X6_15 (n := 9) hC hg hI dX6_minuteAt_6 rfl ?_
    refine hz_alen (v := (8 : Int32)) (t := 0) (n := 10) hC dX6_minuteAt_9 (hI.1 g 10 hg (by decide)) (ha_h10 hg) rfl (by decide +kernel) rfl ?_
    refine hz_icmp_ge (tgt := 22) (n := 13) hC dX6_minuteAt_10 (by decide) rfl (fun _ => ?_) (fun _ => ?_)
    · refine hz_iconst (v := (-1 : Int32)) (n := 23) hC dX6_minuteAt_22 (by decide +kernel) rfl ?_
      exact hz_iret hC hr dX6_minuteAt_23
    · refine hz_aload_n (a := 0) (n := 14) hC dX6_minuteAt_13 rfl rfl rfl ?_
      refine fg_X6_15 (n := 17) hC hg hI dX6_minuteAt_14 rfl ?_
      refine hz_iload_n (a := 1) (n := 18) hC dX6_minuteAt_17 rfl rfl rfl ?_
      refine hz_iald (n := 19) hC dX6_minuteAt_18 (hI.1 g 10 hg (by decide)) (ha_h10 hg) rfl (fun _ => ?_)
      refine hz_goto (n := 23) hC dX6_minuteAt_19 (by decide) ?_
      exact hz_iret hC hr dX6_minuteAt_23
def F_X3_connect (g : Nat) (a0 : Int32) (a1 : Int32) (a2 : Int32) (M : hp_M) : Option (Unit × hp_M) := (if a2 = 0 ∨ a2 = 1 then (some ((), (hp_p (hp_p (hp_p (hp_p (hp_p M g 5 0 (2 : Int32)) g 5 1 a0) g 5 2 (0 : Int32)) g 5 3 a1) g 5 4 a2))) else none)
set_option maxRecDepth 20000 in
set_option maxHeartbeats 4000000 in
theorem c_X3_connect (l : Launch) (g : Nat) (a0 : Int32) (a1 : Int32) (a2 : Int32) (hg : g < 12) (M : hp_M) : hp_Ct l yX3_connect cX3_connect 4 none 0 hp_IC (fun adr adV => [.ref (adr g 5), .int a0, .int a1, .int a2]) hp_oo M (F_X3_connect g a0 a1 a2 M) := by
  refine hp_start "HallPhone$Phone" (fun adr adV => [(0, .ref (adr g 5)), (1, .int a0), (2, .int a1), (3, .int a2)]) (by decide) rfl (fun _ _ => by simp only [lg_sl]; exact Nat.le_of_ble_eq_true rfl) (fun _ _ => rfl) ?_
  intro p e s m args below meth c A D ids adr adV cA rep G0 hI hC hr
  unfold F_X3_connect
  refine hz_aload_n (a := 0) (n := 1) hC dX3_connect_0 rfl rfl rfl ?_
  refine hz_iconst (v := (2 : Int32)) (n := 2) hC dX3_connect_1 (by decide +kernel) rfl ?_
  refine fp_X3_9 (n := 5) hC hg hI (2 : Int32) dX3_connect_2 rfl ?_
  refine hz_aload_n (a := 0) (n := 6) hC dX3_connect_5 rfl rfl rfl ?_
  refine hz_iload_n (a := 1) (n := 7) hC dX3_connect_6 rfl rfl rfl ?_
  refine fp_X3_15 (n := 10) hC hg hI a0 dX3_connect_7 rfl ?_
  refine hz_aload_n (a := 0) (n := 11) hC dX3_connect_10 rfl rfl rfl ?_
  refine hz_iconst (v := (0 : Int32)) (n := 12) hC dX3_connect_11 (by decide +kernel) rfl ?_
  refine fp_X3_18 (n := 15) hC hg hI (0 : Int32) dX3_connect_12 rfl ?_
  refine hz_aload_n (a := 0) (n := 16) hC dX3_connect_15 rfl rfl rfl ?_
  refine hz_iload_n (a := 2) (n := 17) hC dX3_connect_16 rfl rfl rfl ?_
  refine fp_X3_21 (n := 20) hC hg hI a1 dX3_connect_17 rfl ?_
  refine hz_aload_n (a := 0) (n := 21) hC dX3_connect_20 rfl rfl rfl ?_
  refine hz_iload_n (a := 3) (n := 22) hC dX3_connect_21 rfl rfl rfl ?_
  refine hz_case (fun hb => ?_) (fun _ => hz_none hC)
  refine fp_X3_24 (n := 25) hC hg hI a2 hb dX3_connect_22 rfl ?_
  exact hz_vret hC hr dX3_connect_25
def F_X4_join (g : Nat) (a0 : Int32) (M : hp_M) : Option (Unit × hp_M) := (if (M g 6 1) < 0 then (some ((), M)) else (if (10 : Int32) ≤ (M g 6 1) then (some ((), M)) else (if (M g 6 1) < 0 ∨ 10 ≤ ((M g 6 1)).toNatClampNeg then none else (some ((), (hp_p (hp_p M g 7 ((M g 6 1)).toNatClampNeg a0) g 6 1 (((hp_p M g 7 ((M g 6 1)).toNatClampNeg a0) g 6 1) + (1 : Int32))))))))
set_option maxRecDepth 20000 in
set_option maxHeartbeats 4000000 in
theorem c_X4_join (l : Launch) (g : Nat) (a0 : Int32) (hg : g < 12) (M : hp_M) : hp_Ct l yX4_join cX4_join 2 none 0 hp_IC (fun adr adV => [.ref (adr g 6), .int a0]) hp_oo M (F_X4_join g a0 M) := by
  refine hp_start "HallPhone$Queue" (fun adr adV => [(0, .ref (adr g 6)), (1, .int a0)]) (by decide) rfl (fun _ _ => by simp only [lg_sl]; exact Nat.le_of_ble_eq_true rfl) (fun _ _ => rfl) ?_
  intro p e s m args below meth c A D ids adr adV cA rep G0 hI hC hr
  unfold F_X4_join
  refine hz_aload_n (a := 0) (n := 1) hC dX4_join_0 rfl rfl rfl ?_
  refine fg_X4_15 (n := 4) hC hg hI dX4_join_1 rfl ?_
  refine hz_if_lt (tgt := 39) (n := 7) hC dX4_join_4 (by decide) rfl (fun _ => ?_) (fun _ => ?_)
  · exact hz_vret hC hr dX4_join_39
  · refine hz_aload_n (a := 0) (n := 8) hC dX4_join_7 rfl rfl rfl ?_
    refine fg_X4_15 (n := 11) hC hg hI dX4_join_8 rfl ?_
    refine hz_aload_n (a := 0) (n := 12) hC dX4_join_11 rfl rfl rfl ?_
    refine fg_X4_9 (n := 15) hC hg hI dX4_join_12 rfl ?_
    refine hz_alen (v := (10 : Int32)) (t := 0) (n := 16) hC dX4_join_15 (hI.1 g 7 hg (by decide)) (ha_h7 hg) rfl (by decide +kernel) rfl ?_
    refine hz_icmp_ge (tgt := 39) (n := 19) hC dX4_join_16 (by decide) rfl (fun _ => ?_) (fun _ => ?_)
    · exact hz_vret hC hr dX4_join_39
    · refine hz_aload_n (a := 0) (n := 20) hC dX4_join_19 rfl rfl rfl ?_
      refine fg_X4_9 (n := 23) hC hg hI dX4_join_20 rfl ?_
      refine hz_aload_n (a := 0) (n := 24) hC dX4_join_23 rfl rfl rfl ?_
      refine fg_X4_15 (n := 27) hC hg hI dX4_join_24 rfl ?_
      refine hz_iload_n (a := 1) (n := 28) hC dX4_join_27 rfl rfl rfl ?_
      refine hz_iast (n := 29) hC dX4_join_28 (hI.1 g 7 hg (by decide)) (ha_h7 hg) rfl (fun _ => ?_)
      refine hz_aload_n (a := 0) (n := 30) hC dX4_join_29 rfl rfl rfl ?_
      refine hz_dup (n := 31) hC dX4_join_30 rfl rfl ?_
      refine fg_X4_15 (n := 34) hC hg hI dX4_join_31 rfl ?_
      refine hz_iconst (v := (1 : Int32)) (n := 35) hC dX4_join_34 (by decide +kernel) rfl ?_
      refine hz_iadd (n := 36) hC dX4_join_35 rfl ?_
      refine fp_X4_15 (n := 39) hC hg hI (((hp_p M g 7 ((M g 6 1)).toNatClampNeg a0) g 6 1) + (1 : Int32)) dX4_join_36 rfl ?_
      exact hz_vret hC hr dX4_join_39
def L_X6_countFor_4 (g : Nat) (a0 : Int32)   : Nat → Int32 → Int32 → hp_M → Option (Int32 × hp_M)
  | 0, _, _, _ => none
  | n4 + 1, x2, x3, M => (if (M g 8 2) ≤ x3 then (some (x2, M)) else (hp_b (F_X6_flatAt g x3 M) (fun r1 M1 => (if r1 = a0 then (L_X6_countFor_4 g a0 n4 (x2 + (1 : Int32)) (x3 + (1 : Int32)) M1) else (L_X6_countFor_4 g a0 n4 x2 (x3 + (1 : Int32)) M1)))))
def F_X6_countFor (g : Nat) (a0 : Int32) (M : hp_M) : Option (Int32 × hp_M) := (L_X6_countFor_4 g a0 hp_fu (0 : Int32) (0 : Int32) M)
set_option maxRecDepth 20000 in
set_option maxHeartbeats 4000000 in
theorem c_X6_countFor (l : Launch) (g : Nat) (a0 : Int32) (hg : g < 12) (M : hp_M) : hp_Ct l yX6_countFor cX6_countFor 4 (some .int) 1 hp_IC (fun adr adV => [.ref (adr g 8), .int a0]) hp_oi M (F_X6_countFor g a0 M) := by
  refine hp_start "HallPhone$Slate" (fun adr adV => [(0, .ref (adr g 8)), (1, .int a0)]) (by decide) rfl (fun _ _ => by simp only [lg_sl]; exact Nat.le_of_ble_eq_true rfl) (fun _ _ => rfl) ?_
  intro p e s m args below meth c A D ids adr adV cA rep G0 hI hC hr
  unfold F_X6_countFor
  have l4 : ∀  (n4 : Nat) (x2 : Int32) (x3 : Int32) (M : hp_M), hp_Z p l e (hp_rm 1) s m args below meth c 4 A D ids adr adV cA 0 0 (MQ below (hp_Q A D ids adr adV cA rep hp_oi G0) args s 0 0 A) G0 rep 4 [(0, .ref (adr g 8)), (1, .int a0), (2, .int x2), (3, .int x3)] [] M (L_X6_countFor_4 g a0 n4 x2 x3 M) := by
    intro  n4
    induction n4 with
    | zero => intro x2 x3 M; exact hz_none hC
    | succ n4 ih4 =>
      intro x2 x3 M
      rw [L_X6_countFor_4.eq_2]
      refine hz_iload_n (a := 3) (n := 5) hC dX6_countFor_4 rfl rfl rfl ?_
      refine hz_aload_n (a := 0) (n := 6) hC dX6_countFor_5 rfl rfl rfl ?_
      refine fg_X6_18 (n := 9) hC hg hI dX6_countFor_6 rfl ?_
      refine hz_icmp_ge (tgt := 30) (n := 12) hC dX6_countFor_9 (by decide) rfl (fun _ => ?_) (fun _ => ?_)
      · refine hz_iload_n (a := 2) (n := 31) hC dX6_countFor_30 rfl rfl rfl ?_
        exact hz_iret hC hr dX6_countFor_31
      · refine hz_aload_n (a := 0) (n := 13) hC dX6_countFor_12 rfl rfl rfl ?_
        refine hz_iload_n (a := 3) (n := 14) hC dX6_countFor_13 rfl rfl rfl ?_
        refine hz_callV (k := 1) (As := [.int x3]) (st := []) (S1 := fun r => .int r :: []) (n := 17) hC (c_X6_flatAt l g x3 hg  M) kv_X6_flatAt wd_5_76 hI dX6_countFor_14 rfl (hI.1 g 8 hg (by decide)) (he_X6 hg) rfl rfl rfl (Nat.le_of_ble_eq_true rfl) ⟨Nat.le_of_ble_eq_true rfl, Nat.le_of_ble_eq_true rfl⟩ ⟨Nat.zero_le _, Nat.zero_le _⟩ (fun _ => rfl) rfl (fun r1 M1 _ => ?_)
        refine hz_iload_n (a := 1) (n := 18) hC dX6_countFor_17 rfl rfl rfl ?_
        refine hz_icmp_ne (tgt := 24) (n := 21) hC dX6_countFor_18 (by decide) rfl (fun _ => ?_) (fun _ => ?_)
        · refine hz_iinc (a := 2) (v := (x2 + (1 : Int32))) (L' := [(2, .int (x2 + (1 : Int32))), (0, .ref (adr g 8)), (1, .int a0), (3, .int x3)]) (n := 24) hC dX6_countFor_21 rfl rfl (by decide) rfl rfl ?_
          refine hz_iinc (a := 3) (v := (x3 + (1 : Int32))) (L' := [(3, .int (x3 + (1 : Int32))), (2, .int (x2 + (1 : Int32))), (0, .ref (adr g 8)), (1, .int a0)]) (n := 27) hC dX6_countFor_24 rfl rfl (by decide) rfl rfl ?_
          refine hz_goto (n := 4) hC dX6_countFor_27 (by decide) ?_
          refine hz_L (L' := [(0, .ref (adr g 8)), (1, .int a0), (2, .int (x2 + (1 : Int32))), (3, .int (x3 + (1 : Int32)))]) [2, 3, 1, 0] rfl ?_
          exact ih4 _ _ _
        · refine hz_iinc (a := 3) (v := (x3 + (1 : Int32))) (L' := [(3, .int (x3 + (1 : Int32))), (0, .ref (adr g 8)), (1, .int a0), (2, .int x2)]) (n := 27) hC dX6_countFor_24 rfl rfl (by decide) rfl rfl ?_
          refine hz_goto (n := 4) hC dX6_countFor_27 (by decide) ?_
          refine hz_L (L' := [(0, .ref (adr g 8)), (1, .int a0), (2, .int x2), (3, .int (x3 + (1 : Int32)))]) [1, 2, 3, 0] rfl ?_
          exact ih4 _ _ _
  refine hz_iconst (v := (0 : Int32)) (n := 1) hC dX6_countFor_0 (by decide +kernel) rfl ?_
  refine hz_istore_n (L' := [(2, .int (0 : Int32)), (0, .ref (adr g 8)), (1, .int a0)]) (n := 2) hC dX6_countFor_1 rfl (by decide) rfl rfl ?_
  refine hz_iconst (v := (0 : Int32)) (n := 3) hC dX6_countFor_2 (by decide +kernel) rfl ?_
  refine hz_istore_n (L' := [(3, .int (0 : Int32)), (2, .int (0 : Int32)), (0, .ref (adr g 8)), (1, .int a0)]) (n := 4) hC dX6_countFor_3 rfl (by decide) rfl rfl ?_
  refine hz_L (L' := [(0, .ref (adr g 8)), (1, .int a0), (2, .int (0 : Int32)), (3, .int (0 : Int32))]) [2, 3, 1, 0] rfl ?_
  exact l4 hp_fu _ _ _
def L_X4_leave_4 (g : Nat) (a0 : Int32)   : Nat → Int32 → Int32 → hp_M → Option (Unit × hp_M)
  | 0, _, _, _ => none
  | n4 + 1, x2, x3, M => (if (M g 6 1) ≤ x3 then (some ((), (hp_p M g 6 1 x2))) else (if (10 : Int32) ≤ x3 then (some ((), (hp_p M g 6 1 x2))) else (if x3 < 0 ∨ 10 ≤ (x3).toNatClampNeg then none else (if (M g 7 (x3).toNatClampNeg) = a0 then (L_X4_leave_4 g a0 n4 x2 (x3 + (1 : Int32)) M) else (if x3 < x2 then (L_X4_leave_4 g a0 n4 x2 (x3 + (1 : Int32)) M) else (if x3 < 0 ∨ 10 ≤ (x3).toNatClampNeg then none else (if x2 < 0 ∨ 10 ≤ (x2).toNatClampNeg then none else (L_X4_leave_4 g a0 n4 (x2 + (1 : Int32)) (x3 + (1 : Int32)) (hp_p M g 7 (x2).toNatClampNeg (M g 7 (x3).toNatClampNeg))))))))))
def F_X4_leave (g : Nat) (a0 : Int32) (M : hp_M) : Option (Unit × hp_M) := (L_X4_leave_4 g a0 hp_fu (0 : Int32) (0 : Int32) M)
set_option maxRecDepth 20000 in
set_option maxHeartbeats 4000000 in
theorem c_X4_leave (l : Launch) (g : Nat) (a0 : Int32) (hg : g < 12) (M : hp_M) : hp_Ct l yX4_leave cX4_leave 4 none 0 hp_IC (fun adr adV => [.ref (adr g 6), .int a0]) hp_oo M (F_X4_leave g a0 M) := by
  refine hp_start "HallPhone$Queue" (fun adr adV => [(0, .ref (adr g 6)), (1, .int a0)]) (by decide) rfl (fun _ _ => by simp only [lg_sl]; exact Nat.le_of_ble_eq_true rfl) (fun _ _ => rfl) ?_
  intro p e s m args below meth c A D ids adr adV cA rep G0 hI hC hr
  unfold F_X4_leave
  have l4 : ∀  (n4 : Nat) (x2 : Int32) (x3 : Int32) (M : hp_M), hp_Z p l e (hp_rm 0) s m args below meth c 4 A D ids adr adV cA 0 0 (MQ below (hp_Q A D ids adr adV cA rep hp_oo G0) args s 0 0 A) G0 rep 4 [(0, .ref (adr g 6)), (1, .int a0), (2, .int x2), (3, .int x3)] [] M (L_X4_leave_4 g a0 n4 x2 x3 M) := by
    intro  n4
    induction n4 with
    | zero => intro x2 x3 M; exact hz_none hC
    | succ n4 ih4 =>
      intro x2 x3 M
      rw [L_X4_leave_4.eq_2]
      refine hz_iload_n (a := 3) (n := 5) hC dX4_leave_4 rfl rfl rfl ?_
      refine hz_aload_n (a := 0) (n := 6) hC dX4_leave_5 rfl rfl rfl ?_
      refine fg_X4_15 (n := 9) hC hg hI dX4_leave_6 rfl ?_
      refine hz_icmp_ge (tgt := 57) (n := 12) hC dX4_leave_9 (by decide) rfl (fun _ => ?_) (fun _ => ?_)
      · refine hz_aload_n (a := 0) (n := 58) hC dX4_leave_57 rfl rfl rfl ?_
        refine hz_iload_n (a := 2) (n := 59) hC dX4_leave_58 rfl rfl rfl ?_
        refine fp_X4_15 (n := 62) hC hg hI x2 dX4_leave_59 rfl ?_
        exact hz_vret hC hr dX4_leave_62
      · refine hz_iload_n (a := 3) (n := 13) hC dX4_leave_12 rfl rfl rfl ?_
        refine hz_aload_n (a := 0) (n := 14) hC dX4_leave_13 rfl rfl rfl ?_
        refine fg_X4_9 (n := 17) hC hg hI dX4_leave_14 rfl ?_
        refine hz_alen (v := (10 : Int32)) (t := 0) (n := 18) hC dX4_leave_17 (hI.1 g 7 hg (by decide)) (ha_h7 hg) rfl (by decide +kernel) rfl ?_
        refine hz_icmp_ge (tgt := 57) (n := 21) hC dX4_leave_18 (by decide) rfl (fun _ => ?_) (fun _ => ?_)
        · refine hz_aload_n (a := 0) (n := 58) hC dX4_leave_57 rfl rfl rfl ?_
          refine hz_iload_n (a := 2) (n := 59) hC dX4_leave_58 rfl rfl rfl ?_
          refine fp_X4_15 (n := 62) hC hg hI x2 dX4_leave_59 rfl ?_
          exact hz_vret hC hr dX4_leave_62
        · refine hz_aload_n (a := 0) (n := 22) hC dX4_leave_21 rfl rfl rfl ?_
          refine fg_X4_9 (n := 25) hC hg hI dX4_leave_22 rfl ?_
          refine hz_iload_n (a := 3) (n := 26) hC dX4_leave_25 rfl rfl rfl ?_
          refine hz_iald (n := 27) hC dX4_leave_26 (hI.1 g 7 hg (by decide)) (ha_h7 hg) rfl (fun _ => ?_)
          refine hz_iload_n (a := 1) (n := 28) hC dX4_leave_27 rfl rfl rfl ?_
          refine hz_icmp_eq (tgt := 51) (n := 31) hC dX4_leave_28 (by decide) rfl (fun _ => ?_) (fun _ => ?_)
          · refine hz_iinc (a := 3) (v := (x3 + (1 : Int32))) (L' := [(3, .int (x3 + (1 : Int32))), (0, .ref (adr g 6)), (1, .int a0), (2, .int x2)]) (n := 54) hC dX4_leave_51 rfl rfl (by decide) rfl rfl ?_
            refine hz_goto (n := 4) hC dX4_leave_54 (by decide) ?_
            refine hz_L (L' := [(0, .ref (adr g 6)), (1, .int a0), (2, .int x2), (3, .int (x3 + (1 : Int32)))]) [1, 2, 3, 0] rfl ?_
            exact ih4 _ _ _
          · refine hz_iload_n (a := 2) (n := 32) hC dX4_leave_31 rfl rfl rfl ?_
            refine hz_iload_n (a := 3) (n := 33) hC dX4_leave_32 rfl rfl rfl ?_
            refine hz_icmp_gt (tgt := 51) (n := 36) hC dX4_leave_33 (by decide) rfl (fun _ => ?_) (fun _ => ?_)
            · refine hz_iinc (a := 3) (v := (x3 + (1 : Int32))) (L' := [(3, .int (x3 + (1 : Int32))), (0, .ref (adr g 6)), (1, .int a0), (2, .int x2)]) (n := 54) hC dX4_leave_51 rfl rfl (by decide) rfl rfl ?_
              refine hz_goto (n := 4) hC dX4_leave_54 (by decide) ?_
              refine hz_L (L' := [(0, .ref (adr g 6)), (1, .int a0), (2, .int x2), (3, .int (x3 + (1 : Int32)))]) [1, 2, 3, 0] rfl ?_
              exact ih4 _ _ _
            · refine hz_aload_n (a := 0) (n := 37) hC dX4_leave_36 rfl rfl rfl ?_
              refine fg_X4_9 (n := 40) hC hg hI dX4_leave_37 rfl ?_
              refine hz_iload_n (a := 2) (n := 41) hC dX4_leave_40 rfl rfl rfl ?_
              refine hz_aload_n (a := 0) (n := 42) hC dX4_leave_41 rfl rfl rfl ?_
              refine fg_X4_9 (n := 45) hC hg hI dX4_leave_42 rfl ?_
              refine hz_iload_n (a := 3) (n := 46) hC dX4_leave_45 rfl rfl rfl ?_
              refine hz_iald (n := 47) hC dX4_leave_46 (hI.1 g 7 hg (by decide)) (ha_h7 hg) rfl (fun _ => ?_)
              refine hz_iast (n := 48) hC dX4_leave_47 (hI.1 g 7 hg (by decide)) (ha_h7 hg) rfl (fun _ => ?_)
              refine hz_iinc (a := 2) (v := (x2 + (1 : Int32))) (L' := [(2, .int (x2 + (1 : Int32))), (0, .ref (adr g 6)), (1, .int a0), (3, .int x3)]) (n := 51) hC dX4_leave_48 rfl rfl (by decide) rfl rfl ?_
              refine hz_iinc (a := 3) (v := (x3 + (1 : Int32))) (L' := [(3, .int (x3 + (1 : Int32))), (2, .int (x2 + (1 : Int32))), (0, .ref (adr g 6)), (1, .int a0)]) (n := 54) hC dX4_leave_51 rfl rfl (by decide) rfl rfl ?_
              refine hz_goto (n := 4) hC dX4_leave_54 (by decide) ?_
              refine hz_L (L' := [(0, .ref (adr g 6)), (1, .int a0), (2, .int (x2 + (1 : Int32))), (3, .int (x3 + (1 : Int32)))]) [2, 3, 1, 0] rfl ?_
              exact ih4 _ _ _
  refine hz_iconst (v := (0 : Int32)) (n := 1) hC dX4_leave_0 (by decide +kernel) rfl ?_
  refine hz_istore_n (L' := [(2, .int (0 : Int32)), (0, .ref (adr g 6)), (1, .int a0)]) (n := 2) hC dX4_leave_1 rfl (by decide) rfl rfl ?_
  refine hz_iconst (v := (0 : Int32)) (n := 3) hC dX4_leave_2 (by decide +kernel) rfl ?_
  refine hz_istore_n (L' := [(3, .int (0 : Int32)), (2, .int (0 : Int32)), (0, .ref (adr g 6)), (1, .int a0)]) (n := 4) hC dX4_leave_3 rfl (by decide) rfl rfl ?_
  refine hz_L (L' := [(0, .ref (adr g 6)), (1, .int a0), (2, .int (0 : Int32)), (3, .int (0 : Int32))]) [2, 3, 1, 0] rfl ?_
  exact l4 hp_fu _ _ _
def F_X6_write (g : Nat) (a0 : Int32) (a1 : Int32) (M : hp_M) : Option (Unit × hp_M) := (if (M g 8 2) < 0 then (some ((), M)) else (if (8 : Int32) ≤ (M g 8 2) then (some ((), M)) else (if (8 : Int32) ≤ (M g 8 2) then (some ((), M)) else (if (M g 8 2) < 0 ∨ 8 ≤ ((M g 8 2)).toNatClampNeg then none else (if ((hp_p M g 9 ((M g 8 2)).toNatClampNeg a0) g 8 2) < 0 ∨ 8 ≤ (((hp_p M g 9 ((M g 8 2)).toNatClampNeg a0) g 8 2)).toNatClampNeg then none else (some ((), (hp_p (hp_p (hp_p M g 9 ((M g 8 2)).toNatClampNeg a0) g 10 (((hp_p M g 9 ((M g 8 2)).toNatClampNeg a0) g 8 2)).toNatClampNeg a1) g 8 2 (((hp_p (hp_p M g 9 ((M g 8 2)).toNatClampNeg a0) g 10 (((hp_p M g 9 ((M g 8 2)).toNatClampNeg a0) g 8 2)).toNatClampNeg a1) g 8 2) + (1 : Int32))))))))))
set_option maxRecDepth 20000 in
set_option maxHeartbeats 4000000 in
theorem c_X6_write (l : Launch) (g : Nat) (a0 : Int32) (a1 : Int32) (hg : g < 12) (M : hp_M) : hp_Ct l yX6_write cX6_write 3 none 0 hp_IC (fun adr adV => [.ref (adr g 8), .int a0, .int a1]) hp_oo M (F_X6_write g a0 a1 M) := by
  refine hp_start "HallPhone$Slate" (fun adr adV => [(0, .ref (adr g 8)), (1, .int a0), (2, .int a1)]) (by decide) rfl (fun _ _ => by simp only [lg_sl]; exact Nat.le_of_ble_eq_true rfl) (fun _ _ => rfl) ?_
  intro p e s m args below meth c A D ids adr adV cA rep G0 hI hC hr
  unfold F_X6_write
  refine hz_aload_n (a := 0) (n := 1) hC dX6_write_0 rfl rfl rfl ?_
  refine fg_X6_18 (n := 4) hC hg hI dX6_write_1 rfl ?_
  refine hz_if_lt (tgt := 61) (n := 7) hC dX6_write_4 (by decide) rfl (fun _ => ?_) (fun _ => ?_)
  · exact hz_vret hC hr dX6_write_61
  · refine hz_aload_n (a := 0) (n := 8) hC dX6_write_7 rfl rfl rfl ?_
    refine fg_X6_18 (n := 11) hC hg hI dX6_write_8 rfl ?_
    refine hz_aload_n (a := 0) (n := 12) hC dX6_write_11 rfl rfl rfl ?_
    refine fg_X6_9 (n := 15) hC hg hI dX6_write_12 rfl ?_
    refine hz_alen (v := (8 : Int32)) (t := 0) (n := 16) hC dX6_write_15 (hI.1 g 9 hg (by decide)) (ha_h9 hg) rfl (by decide +kernel) rfl ?_
    refine hz_icmp_ge (tgt := 61) (n := 19) hC dX6_write_16 (by decide) rfl (fun _ => ?_) (fun _ => ?_)
    · exact hz_vret hC hr dX6_write_61
    · refine hz_aload_n (a := 0) (n := 20) hC dX6_write_19 rfl rfl rfl ?_
      refine fg_X6_18 (n := 23) hC hg hI dX6_write_20 rfl ?_
      refine hz_aload_n (a := 0) (n := 24) hC dX6_write_23 rfl rfl rfl ?_
      refine fg_X6_15 (n := 27) hC hg hI dX6_write_24 rfl ?_
      refine hz_alen (v := (8 : Int32)) (t := 0) (n := 28) hC dX6_write_27 (hI.1 g 10 hg (by decide)) (ha_h10 hg) rfl (by decide +kernel) rfl ?_
      refine hz_icmp_ge (tgt := 61) (n := 31) hC dX6_write_28 (by decide) rfl (fun _ => ?_) (fun _ => ?_)
      · exact hz_vret hC hr dX6_write_61
      · refine hz_aload_n (a := 0) (n := 32) hC dX6_write_31 rfl rfl rfl ?_
        refine fg_X6_9 (n := 35) hC hg hI dX6_write_32 rfl ?_
        refine hz_aload_n (a := 0) (n := 36) hC dX6_write_35 rfl rfl rfl ?_
        refine fg_X6_18 (n := 39) hC hg hI dX6_write_36 rfl ?_
        refine hz_iload_n (a := 1) (n := 40) hC dX6_write_39 rfl rfl rfl ?_
        refine hz_iast (n := 41) hC dX6_write_40 (hI.1 g 9 hg (by decide)) (ha_h9 hg) rfl (fun _ => ?_)
        refine hz_aload_n (a := 0) (n := 42) hC dX6_write_41 rfl rfl rfl ?_
        refine fg_X6_15 (n := 45) hC hg hI dX6_write_42 rfl ?_
        refine hz_aload_n (a := 0) (n := 46) hC dX6_write_45 rfl rfl rfl ?_
        refine fg_X6_18 (n := 49) hC hg hI dX6_write_46 rfl ?_
        refine hz_iload_n (a := 2) (n := 50) hC dX6_write_49 rfl rfl rfl ?_
        refine hz_iast (n := 51) hC dX6_write_50 (hI.1 g 10 hg (by decide)) (ha_h10 hg) rfl (fun _ => ?_)
        refine hz_aload_n (a := 0) (n := 52) hC dX6_write_51 rfl rfl rfl ?_
        refine hz_dup (n := 53) hC dX6_write_52 rfl rfl ?_
        refine fg_X6_18 (n := 56) hC hg hI dX6_write_53 rfl ?_
        refine hz_iconst (v := (1 : Int32)) (n := 57) hC dX6_write_56 (by decide +kernel) rfl ?_
        refine hz_iadd (n := 58) hC dX6_write_57 rfl ?_
        refine fp_X6_18 (n := 61) hC hg hI (((hp_p (hp_p M g 9 ((M g 8 2)).toNatClampNeg a0) g 10 (((hp_p M g 9 ((M g 8 2)).toNatClampNeg a0) g 8 2)).toNatClampNeg a1) g 8 2) + (1 : Int32)) dX6_write_58 rfl ?_
        exact hz_vret hC hr dX6_write_61
def L_X6_wipeFor_10 (g : Nat) (a0 : Int32)  (k10_3 : Int32) : Nat → Int32 → Int32 → hp_M → Option (Int32 × hp_M)
  | 0, _, _, _ => none
  | n10 + 1, x2, x4, M => (if k10_3 ≤ x4 then (some ((k10_3 - x2), (hp_p M g 8 2 x2))) else (if (8 : Int32) ≤ x4 then (some ((k10_3 - x2), (hp_p M g 8 2 x2))) else (if (8 : Int32) ≤ x4 then (some ((k10_3 - x2), (hp_p M g 8 2 x2))) else (if x4 < 0 ∨ 8 ≤ (x4).toNatClampNeg then none else (if (M g 9 (x4).toNatClampNeg) = a0 then (L_X6_wipeFor_10 g a0 k10_3 n10 x2 (x4 + (1 : Int32)) M) else (if x4 < x2 then (L_X6_wipeFor_10 g a0 k10_3 n10 x2 (x4 + (1 : Int32)) M) else (if x4 < 0 ∨ 8 ≤ (x4).toNatClampNeg then none else (if x2 < 0 ∨ 8 ≤ (x2).toNatClampNeg then none else (if x4 < 0 ∨ 8 ≤ (x4).toNatClampNeg then none else (if x2 < 0 ∨ 8 ≤ (x2).toNatClampNeg then none else (L_X6_wipeFor_10 g a0 k10_3 n10 (x2 + (1 : Int32)) (x4 + (1 : Int32)) (hp_p (hp_p M g 9 (x2).toNatClampNeg (M g 9 (x4).toNatClampNeg)) g 10 (x2).toNatClampNeg ((hp_p M g 9 (x2).toNatClampNeg (M g 9 (x4).toNatClampNeg)) g 10 (x4).toNatClampNeg)))))))))))))
def F_X6_wipeFor (g : Nat) (a0 : Int32) (M : hp_M) : Option (Int32 × hp_M) := (L_X6_wipeFor_10 g a0 (M g 8 2) hp_fu (0 : Int32) (0 : Int32) M)
set_option maxRecDepth 20000 in
set_option maxHeartbeats 4000000 in
theorem c_X6_wipeFor (l : Launch) (g : Nat) (a0 : Int32) (hg : g < 12) (M : hp_M) : hp_Ct l yX6_wipeFor cX6_wipeFor 5 (some .int) 0 hp_IC (fun adr adV => [.ref (adr g 8), .int a0]) hp_oi M (F_X6_wipeFor g a0 M) := by
  refine hp_start "HallPhone$Slate" (fun adr adV => [(0, .ref (adr g 8)), (1, .int a0)]) (by decide) rfl (fun _ _ => by simp only [lg_sl]; exact Nat.le_of_ble_eq_true rfl) (fun _ _ => rfl) ?_
  intro p e s m args below meth c A D ids adr adV cA rep G0 hI hC hr
  unfold F_X6_wipeFor
  have l10 : ∀ (k10_3 : Int32) (n10 : Nat) (x2 : Int32) (x4 : Int32) (M : hp_M), hp_Z p l e (hp_rm 0) s m args below meth c 5 A D ids adr adV cA 0 0 (MQ below (hp_Q A D ids adr adV cA rep hp_oi G0) args s 0 0 A) G0 rep 10 [(0, .ref (adr g 8)), (1, .int a0), (2, .int x2), (3, .int k10_3), (4, .int x4)] [] M (L_X6_wipeFor_10 g a0 k10_3 n10 x2 x4 M) := by
    intro k10_3 n10
    induction n10 with
    | zero => intro x2 x4 M; exact hz_none hC
    | succ n10 ih10 =>
      intro x2 x4 M
      rw [L_X6_wipeFor_10.eq_2]
      refine hz_iload (a := 4) (n := 12) hC dX6_wipeFor_10 rfl rfl ?_
      refine hz_iload_n (a := 3) (n := 13) hC dX6_wipeFor_12 rfl rfl rfl ?_
      refine hz_icmp_ge (tgt := 88) (n := 16) hC dX6_wipeFor_13 (by decide) rfl (fun _ => ?_) (fun _ => ?_)
      · refine hz_aload_n (a := 0) (n := 89) hC dX6_wipeFor_88 rfl rfl rfl ?_
        refine hz_iload_n (a := 2) (n := 90) hC dX6_wipeFor_89 rfl rfl rfl ?_
        refine fp_X6_18 (n := 93) hC hg hI x2 dX6_wipeFor_90 rfl ?_
        refine hz_iload_n (a := 3) (n := 94) hC dX6_wipeFor_93 rfl rfl rfl ?_
        refine hz_iload_n (a := 2) (n := 95) hC dX6_wipeFor_94 rfl rfl rfl ?_
        refine hz_isub (n := 96) hC dX6_wipeFor_95 rfl ?_
        exact hz_iret hC hr dX6_wipeFor_96
      · refine hz_iload (a := 4) (n := 18) hC dX6_wipeFor_16 rfl rfl ?_
        refine hz_aload_n (a := 0) (n := 19) hC dX6_wipeFor_18 rfl rfl rfl ?_
        refine fg_X6_9 (n := 22) hC hg hI dX6_wipeFor_19 rfl ?_
        refine hz_alen (v := (8 : Int32)) (t := 0) (n := 23) hC dX6_wipeFor_22 (hI.1 g 9 hg (by decide)) (ha_h9 hg) rfl (by decide +kernel) rfl ?_
        refine hz_icmp_ge (tgt := 88) (n := 26) hC dX6_wipeFor_23 (by decide) rfl (fun _ => ?_) (fun _ => ?_)
        · refine hz_aload_n (a := 0) (n := 89) hC dX6_wipeFor_88 rfl rfl rfl ?_
          refine hz_iload_n (a := 2) (n := 90) hC dX6_wipeFor_89 rfl rfl rfl ?_
          refine fp_X6_18 (n := 93) hC hg hI x2 dX6_wipeFor_90 rfl ?_
          refine hz_iload_n (a := 3) (n := 94) hC dX6_wipeFor_93 rfl rfl rfl ?_
          refine hz_iload_n (a := 2) (n := 95) hC dX6_wipeFor_94 rfl rfl rfl ?_
          refine hz_isub (n := 96) hC dX6_wipeFor_95 rfl ?_
          exact hz_iret hC hr dX6_wipeFor_96
        · refine hz_iload (a := 4) (n := 28) hC dX6_wipeFor_26 rfl rfl ?_
          refine hz_aload_n (a := 0) (n := 29) hC dX6_wipeFor_28 rfl rfl rfl ?_
          refine fg_X6_15 (n := 32) hC hg hI dX6_wipeFor_29 rfl ?_
          refine hz_alen (v := (8 : Int32)) (t := 0) (n := 33) hC dX6_wipeFor_32 (hI.1 g 10 hg (by decide)) (ha_h10 hg) rfl (by decide +kernel) rfl ?_
          refine hz_icmp_ge (tgt := 88) (n := 36) hC dX6_wipeFor_33 (by decide) rfl (fun _ => ?_) (fun _ => ?_)
          · refine hz_aload_n (a := 0) (n := 89) hC dX6_wipeFor_88 rfl rfl rfl ?_
            refine hz_iload_n (a := 2) (n := 90) hC dX6_wipeFor_89 rfl rfl rfl ?_
            refine fp_X6_18 (n := 93) hC hg hI x2 dX6_wipeFor_90 rfl ?_
            refine hz_iload_n (a := 3) (n := 94) hC dX6_wipeFor_93 rfl rfl rfl ?_
            refine hz_iload_n (a := 2) (n := 95) hC dX6_wipeFor_94 rfl rfl rfl ?_
            refine hz_isub (n := 96) hC dX6_wipeFor_95 rfl ?_
            exact hz_iret hC hr dX6_wipeFor_96
          · refine hz_aload_n (a := 0) (n := 37) hC dX6_wipeFor_36 rfl rfl rfl ?_
            refine fg_X6_9 (n := 40) hC hg hI dX6_wipeFor_37 rfl ?_
            refine hz_iload (a := 4) (n := 42) hC dX6_wipeFor_40 rfl rfl ?_
            refine hz_iald (n := 43) hC dX6_wipeFor_42 (hI.1 g 9 hg (by decide)) (ha_h9 hg) rfl (fun _ => ?_)
            refine hz_iload_n (a := 1) (n := 44) hC dX6_wipeFor_43 rfl rfl rfl ?_
            refine hz_icmp_eq (tgt := 82) (n := 47) hC dX6_wipeFor_44 (by decide) rfl (fun _ => ?_) (fun _ => ?_)
            · refine hz_iinc (a := 4) (v := (x4 + (1 : Int32))) (L' := [(4, .int (x4 + (1 : Int32))), (0, .ref (adr g 8)), (1, .int a0), (2, .int x2), (3, .int k10_3)]) (n := 85) hC dX6_wipeFor_82 rfl rfl (by decide) rfl rfl ?_
              refine hz_goto (n := 10) hC dX6_wipeFor_85 (by decide) ?_
              refine hz_L (L' := [(0, .ref (adr g 8)), (1, .int a0), (2, .int x2), (3, .int k10_3), (4, .int (x4 + (1 : Int32)))]) [1, 2, 3, 4, 0] rfl ?_
              exact ih10 _ _ _
            · refine hz_iload_n (a := 2) (n := 48) hC dX6_wipeFor_47 rfl rfl rfl ?_
              refine hz_iload (a := 4) (n := 50) hC dX6_wipeFor_48 rfl rfl ?_
              refine hz_icmp_gt (tgt := 82) (n := 53) hC dX6_wipeFor_50 (by decide) rfl (fun _ => ?_) (fun _ => ?_)
              · refine hz_iinc (a := 4) (v := (x4 + (1 : Int32))) (L' := [(4, .int (x4 + (1 : Int32))), (0, .ref (adr g 8)), (1, .int a0), (2, .int x2), (3, .int k10_3)]) (n := 85) hC dX6_wipeFor_82 rfl rfl (by decide) rfl rfl ?_
                refine hz_goto (n := 10) hC dX6_wipeFor_85 (by decide) ?_
                refine hz_L (L' := [(0, .ref (adr g 8)), (1, .int a0), (2, .int x2), (3, .int k10_3), (4, .int (x4 + (1 : Int32)))]) [1, 2, 3, 4, 0] rfl ?_
                exact ih10 _ _ _
              · refine hz_aload_n (a := 0) (n := 54) hC dX6_wipeFor_53 rfl rfl rfl ?_
                refine fg_X6_9 (n := 57) hC hg hI dX6_wipeFor_54 rfl ?_
                refine hz_iload_n (a := 2) (n := 58) hC dX6_wipeFor_57 rfl rfl rfl ?_
                refine hz_aload_n (a := 0) (n := 59) hC dX6_wipeFor_58 rfl rfl rfl ?_
                refine fg_X6_9 (n := 62) hC hg hI dX6_wipeFor_59 rfl ?_
                refine hz_iload (a := 4) (n := 64) hC dX6_wipeFor_62 rfl rfl ?_
                refine hz_iald (n := 65) hC dX6_wipeFor_64 (hI.1 g 9 hg (by decide)) (ha_h9 hg) rfl (fun _ => ?_)
                refine hz_iast (n := 66) hC dX6_wipeFor_65 (hI.1 g 9 hg (by decide)) (ha_h9 hg) rfl (fun _ => ?_)
                refine hz_aload_n (a := 0) (n := 67) hC dX6_wipeFor_66 rfl rfl rfl ?_
                refine fg_X6_15 (n := 70) hC hg hI dX6_wipeFor_67 rfl ?_
                refine hz_iload_n (a := 2) (n := 71) hC dX6_wipeFor_70 rfl rfl rfl ?_
                refine hz_aload_n (a := 0) (n := 72) hC dX6_wipeFor_71 rfl rfl rfl ?_
                refine fg_X6_15 (n := 75) hC hg hI dX6_wipeFor_72 rfl ?_
                refine hz_iload (a := 4) (n := 77) hC dX6_wipeFor_75 rfl rfl ?_
                refine hz_iald (n := 78) hC dX6_wipeFor_77 (hI.1 g 10 hg (by decide)) (ha_h10 hg) rfl (fun _ => ?_)
                refine hz_iast (n := 79) hC dX6_wipeFor_78 (hI.1 g 10 hg (by decide)) (ha_h10 hg) rfl (fun _ => ?_)
                refine hz_iinc (a := 2) (v := (x2 + (1 : Int32))) (L' := [(2, .int (x2 + (1 : Int32))), (0, .ref (adr g 8)), (1, .int a0), (3, .int k10_3), (4, .int x4)]) (n := 82) hC dX6_wipeFor_79 rfl rfl (by decide) rfl rfl ?_
                refine hz_iinc (a := 4) (v := (x4 + (1 : Int32))) (L' := [(4, .int (x4 + (1 : Int32))), (2, .int (x2 + (1 : Int32))), (0, .ref (adr g 8)), (1, .int a0), (3, .int k10_3)]) (n := 85) hC dX6_wipeFor_82 rfl rfl (by decide) rfl rfl ?_
                refine hz_goto (n := 10) hC dX6_wipeFor_85 (by decide) ?_
                refine hz_L (L' := [(0, .ref (adr g 8)), (1, .int a0), (2, .int (x2 + (1 : Int32))), (3, .int k10_3), (4, .int (x4 + (1 : Int32)))]) [2, 3, 1, 4, 0] rfl ?_
                exact ih10 _ _ _
  refine hz_iconst (v := (0 : Int32)) (n := 1) hC dX6_wipeFor_0 (by decide +kernel) rfl ?_
  refine hz_istore_n (L' := [(2, .int (0 : Int32)), (0, .ref (adr g 8)), (1, .int a0)]) (n := 2) hC dX6_wipeFor_1 rfl (by decide) rfl rfl ?_
  refine hz_aload_n (a := 1) (n := 3) hC dX6_wipeFor_2 rfl rfl rfl ?_
  refine fg_X6_18 (n := 6) hC hg hI dX6_wipeFor_3 rfl ?_
  refine hz_istore_n (L' := [(3, .int (M g 8 2)), (2, .int (0 : Int32)), (0, .ref (adr g 8)), (1, .int a0)]) (n := 7) hC dX6_wipeFor_6 rfl (by decide) rfl rfl ?_
  refine hz_iconst (v := (0 : Int32)) (n := 8) hC dX6_wipeFor_7 (by decide +kernel) rfl ?_
  refine hz_istore (L' := [(4, .int (0 : Int32)), (3, .int (M g 8 2)), (2, .int (0 : Int32)), (0, .ref (adr g 8)), (1, .int a0)]) (n := 10) hC dX6_wipeFor_8 (by decide) rfl rfl ?_
  refine hz_L (L' := [(0, .ref (adr g 8)), (1, .int a0), (2, .int (0 : Int32)), (3, .int (M g 8 2)), (4, .int (0 : Int32))]) [3, 4, 2, 1, 0] rfl ?_
  exact l10 _ hp_fu _ _ _
