theorem in_J4 : ∀ w ∈ u_ws RJ4 TJ4 4, hp_ok w := fun w h => ⟨(by decide +kernel : ∀ w ∈ u_ws RJ4 TJ4 4, w ∈ lw_tbl) w h, (by decide +kernel : ∀ w ∈ u_ws RJ4 TJ4 4, goodWord w = true) w h⟩
theorem hp_vr_m1 (adV : Nat → Nat) : hp_vr adV (-1) = .null := if_pos (by decide)
def WLX3 : hp_WLt := fun a _ _ => [(a 0 0, .inr (3, [.int 0, .int (-1), .int 0, .int 0, .int 0]))]
def WLX4 : hp_WLt := fun a _ cA => [(a 0 0, .inr (4, [.ref (a 0 1), .int 0])), (a 0 1, .inl (cA 0, 10, .inl fun _ => 0))]
def WLX6 : hp_WLt := fun a _ cA => [(a 0 0, .inr (6, [.ref (a 0 1), .ref (a 0 2), .int 0])), (a 0 1, .inl (cA 0, 8, .inl fun _ => 0)), (a 0 2, .inl (cA 0, 8, .inl fun _ => 0))]
def WLX2 : hp_WLt := fun a _ cA => [(a 0 0, .inr (2, [.int 0, .int 0, .int 0, .ref (a 0 1), .ref (a 0 2), .ref (a 0 3), .ref (a 0 4), .ref (a 0 5), .ref (a 0 6), .ref (a 0 8)])), (a 0 1, .inl (cA 0, 6, .inl fun _ => 0)), (a 0 2, .inl (cA 0, 10, .inl fun _ => 0)), (a 0 3, .inl (cA 0, 110, .inl fun _ => 0)), (a 0 4, .inl (cA 0, 100, .inl fun _ => 0)), (a 0 5, .inr (3, [.int 0, .int (-1), .int 0, .int 0, .int 0])), (a 0 6, .inr (4, [.ref (a 0 7), .int 0])), (a 0 7, .inl (cA 0, 10, .inl fun _ => 0)), (a 0 8, .inr (6, [.ref (a 0 9), .ref (a 0 10), .int 0])), (a 0 9, .inl (cA 0, 8, .inl fun _ => 0)), (a 0 10, .inl (cA 0, 8, .inl fun _ => 0))]
def WLX5 : hp_WLt := fun a adV cA => [(a 0 0, .inr (5, [.ref (a 0 1), .int 0, .int 0, .int 0, .int 0, .int 0, hp_vr adV (-1), .int (-1), .int 0, .int 0])), (a 0 1, .inl (cA 0, 700, .inl fun _ => 0))]
def WLJ4 : hp_WLt := fun a _ cA => [(a 0 0, .inr (0, [.ref (a 0 1), .int 0, .int 0, .int 0])), (a 0 1, .inl (cA 2, 16, .inl fun _ => 0))]
def WLX1 : hp_WLt := fun a adV cA => (((((((([(a 0 0, .inr (1, [.ref (a 0 1), .int 0, .int 0])), (a 0 1, .inl (cA 3, 8, .inr (.inr (.inr (.inr (va_up (va_up (va_up (va_up (va_up (va_up (va_up (va_up (fun _ => none) 0 (some (a 2 0))) 1 (some (a 3 0))) 2 (some (a 4 0))) 3 (some (a 5 0))) 4 (some (a 6 0))) 5 (some (a 7 0))) 6 (some (a 8 0))) 7 (some (a 9 0))))))))]) ++ WLX2 (fun _ j => a 2 j) adV cA) ++ WLX2 (fun _ j => a 3 j) adV cA) ++ WLX2 (fun _ j => a 4 j) adV cA) ++ WLX2 (fun _ j => a 5 j) adV cA) ++ WLX2 (fun _ j => a 6 j) adV cA) ++ WLX2 (fun _ j => a 7 j) adV cA) ++ WLX2 (fun _ j => a 8 j) adV cA) ++ WLX2 (fun _ j => a 9 j) adV cA
theorem dJ5_init_d00df_0 : decode cJ5_init_d00df 0 = .ok (.aload_n 0, 1) := by decide +kernel
theorem dJ5_init_d00df_1 : decode cJ5_init_d00df 1 = .ok (.invokespecial 3, 3) := by decide +kernel
theorem dJ5_init_d00df_4 : decode cJ5_init_d00df 4 = .ok (.getstatic 18, 3) := by decide +kernel
theorem dJ5_init_d00df_7 : decode cJ5_init_d00df 7 = .ok (.ifCond .eq 18, 3) := by decide +kernel
theorem dJ5_init_d00df_10 : decode cJ5_init_d00df 10 = .ok (.aload_n 0, 1) := by decide +kernel
theorem dJ5_init_d00df_11 : decode cJ5_init_d00df 11 = .ok (.iload_n 1, 1) := by decide +kernel
theorem dJ5_init_d00df_12 : decode cJ5_init_d00df 12 = .ok (.newarray .byte, 2) := by decide +kernel
theorem dJ5_init_d00df_14 : decode cJ5_init_d00df 14 = .ok (.putfield 15, 3) := by decide +kernel
theorem dJ5_init_d00df_17 : decode cJ5_init_d00df 17 = .ok (.aload_n 0, 1) := by decide +kernel
theorem dJ5_init_d00df_18 : decode cJ5_init_d00df 18 = .ok (.iconst 0, 1) := by decide +kernel
theorem dJ5_init_d00df_19 : decode cJ5_init_d00df 19 = .ok (.putfield 22, 3) := by decide +kernel
theorem dJ5_init_d00df_22 : decode cJ5_init_d00df 22 = .ok (.goto 16, 3) := by decide +kernel
theorem dJ5_init_d00df_25 : decode cJ5_init_d00df 25 = .ok (.aload_n 0, 1) := by decide +kernel
theorem dJ5_init_d00df_26 : decode cJ5_init_d00df 26 = .ok (.iload_n 1, 1) := by decide +kernel
theorem dJ5_init_d00df_27 : decode cJ5_init_d00df 27 = .ok (.invokestatic 26, 3) := by decide +kernel
theorem dJ5_init_d00df_30 : decode cJ5_init_d00df 30 = .ok (.putfield 15, 3) := by decide +kernel
theorem dJ5_init_d00df_33 : decode cJ5_init_d00df 33 = .ok (.aload_n 0, 1) := by decide +kernel
theorem dJ5_init_d00df_34 : decode cJ5_init_d00df 34 = .ok (.iconst 1, 1) := by decide +kernel
theorem dJ5_init_d00df_35 : decode cJ5_init_d00df 35 = .ok (.putfield 22, 3) := by decide +kernel
theorem dJ5_init_d00df_38 : decode cJ5_init_d00df 38 = .ok (.return_, 1) := by decide +kernel
theorem dJ4_init_da8c8_0 : decode cJ4_init_da8c8 0 = .ok (.aload_n 0, 1) := by decide +kernel
theorem dJ4_init_da8c8_1 : decode cJ4_init_da8c8 1 = .ok (.bipush 16, 2) := by decide +kernel
theorem dJ4_init_da8c8_3 : decode cJ4_init_da8c8 3 = .ok (.invokespecial 1, 3) := by decide +kernel
theorem dJ4_init_da8c8_6 : decode cJ4_init_da8c8 6 = .ok (.return_, 1) := by decide +kernel
theorem wd_1_44 : hp_ok (Cond.instanceMethod ⟨"HallPhone$Phone", "<init>", "()V"⟩) := ⟨hp_m1 (List.mem_of_getElem? (i := 44) (by decide +kernel)), rfl⟩
theorem ki_X3_init : hp_Ki yX3_init cX3_init 1 0 := ⟨rfl, wd_1_44, wd_1_3, wd_1_45, ⟨by decide, by decide, by decide +kernel⟩, by decide⟩
theorem wd_1_72 : hp_ok (Cond.instanceMethod ⟨"HallPhone$Queue", "<init>", "()V"⟩) := ⟨hp_m1 (List.mem_of_getElem? (i := 72) (by decide +kernel)), rfl⟩
theorem ki_X4_init : hp_Ki yX4_init cX4_init 1 0 := ⟨rfl, wd_1_72, wd_1_4, wd_1_73, ⟨by decide, by decide, by decide +kernel⟩, by decide⟩
theorem wd_1_86 : hp_ok (Cond.instanceMethod ⟨"HallPhone$Slate", "<init>", "()V"⟩) := ⟨hp_m1 (List.mem_of_getElem? (i := 86) (by decide +kernel)), rfl⟩
theorem ki_X6_init : hp_Ki yX6_init cX6_init 1 0 := ⟨rfl, wd_1_86, wd_1_5, wd_1_87, ⟨by decide, by decide, by decide +kernel⟩, by decide⟩
theorem wd_1_41 : hp_ok (Cond.classLink "HallPhone$House" 34 "HallPhone$Phone") := ⟨hp_m1 (List.mem_of_getElem? (i := 41) (by decide +kernel)), rfl⟩
theorem wd_1_42 : hp_ok (Cond.instantiable "HallPhone$Phone" 5) := ⟨hp_m1 (List.mem_of_getElem? (i := 42) (by decide +kernel)), rfl⟩
theorem wd_1_69 : hp_ok (Cond.classLink "HallPhone$House" 41 "HallPhone$Queue") := ⟨hp_m1 (List.mem_of_getElem? (i := 69) (by decide +kernel)), rfl⟩
theorem wd_1_70 : hp_ok (Cond.instantiable "HallPhone$Queue" 2) := ⟨hp_m1 (List.mem_of_getElem? (i := 70) (by decide +kernel)), rfl⟩
theorem wd_1_83 : hp_ok (Cond.classLink "HallPhone$House" 48 "HallPhone$Slate") := ⟨hp_m1 (List.mem_of_getElem? (i := 83) (by decide +kernel)), rfl⟩
theorem wd_1_84 : hp_ok (Cond.instantiable "HallPhone$Slate" 3) := ⟨hp_m1 (List.mem_of_getElem? (i := 84) (by decide +kernel)), rfl⟩
theorem wd_1_38 : hp_ok (Cond.instanceMethod ⟨"HallPhone$House", "<init>", "()V"⟩) := ⟨hp_m1 (List.mem_of_getElem? (i := 38) (by decide +kernel)), rfl⟩
theorem ki_X2_init : hp_Ki yX2_init cX2_init 1 0 := ⟨rfl, wd_1_38, wd_1_2, wd_1_39, ⟨by decide, by decide, by decide +kernel⟩, by decide⟩
theorem wd_1_158 : hp_ok (Cond.instanceMethod ⟨"HallPhone$Reader", "<init>", "()V"⟩) := ⟨hp_m1 (List.mem_of_getElem? (i := 158) (by decide +kernel)), rfl⟩
theorem ki_X5_init : hp_Ki yX5_init cX5_init 1 0 := ⟨rfl, wd_1_158, wd_1_7, wd_1_159, ⟨by decide, by decide, by decide +kernel⟩, by decide⟩
theorem wd_1_202 : hp_ok (Cond.instanceMethod ⟨"java/lang/AbstractStringBuilder", "<init>", "(I)V"⟩) := ⟨hp_m1 (List.mem_of_getElem? (i := 202) (by decide +kernel)), rfl⟩
theorem wd_1_203 : hp_ok (Cond.code ⟨"java/lang/AbstractStringBuilder", "<init>", "(I)V"⟩ prog_13_method_2_code 2 none) := ⟨hp_m1 (List.mem_of_getElem? (i := 203) (by decide +kernel)), rfl⟩
theorem ki_J5_init : hp_Ki yJ5_init_d00df cJ5_init_d00df 2 1 := ⟨rfl, wd_1_202, wd_1_8, wd_1_203, ⟨by decide, by decide, by decide +kernel⟩, by decide⟩
theorem wd_1_199 : hp_ok (Cond.instanceMethod ⟨"java/lang/StringBuilder", "<init>", "()V"⟩) := ⟨hp_m1 (List.mem_of_getElem? (i := 199) (by decide +kernel)), rfl⟩
theorem wd_1_200 : hp_ok (Cond.code ⟨"java/lang/StringBuilder", "<init>", "()V"⟩ prog_25_method_1_code 1 none) := ⟨hp_m1 (List.mem_of_getElem? (i := 200) (by decide +kernel)), rfl⟩
theorem ki_J4_init : hp_Ki yJ4_init_da8c8 cJ4_init_da8c8 1 0 := ⟨rfl, wd_1_199, wd_1_9, wd_1_200, ⟨by decide, by decide, by decide +kernel⟩, by decide⟩
theorem wd_1_141 : hp_ok (Cond.classLink "HallPhone$History" 9 "HallPhone$House") := ⟨hp_m1 (List.mem_of_getElem? (i := 141) (by decide +kernel)), rfl⟩
theorem wd_1_36 : hp_ok (Cond.instantiable "HallPhone$House" 10) := ⟨hp_m1 (List.mem_of_getElem? (i := 36) (by decide +kernel)), rfl⟩
theorem wd_1_138 : hp_ok (Cond.instanceMethod ⟨"HallPhone$History", "<init>", "()V"⟩) := ⟨hp_m1 (List.mem_of_getElem? (i := 138) (by decide +kernel)), rfl⟩
theorem ki_X1_init : hp_Ki yX1_init cX1_init 2 0 := ⟨rfl, wd_1_138, wd_1_6, wd_1_139, ⟨by decide, by decide, by decide +kernel⟩, by decide⟩
set_option maxRecDepth 20000 in
set_option maxHeartbeats 4000000 in
theorem c_X3_init (l : Launch) : hp_Ni l yX3_init cX3_init 1 1 0 0 [] (.inr (3, [.int 0, .int 0, .int 0, .int 0, .int 0])) (fun a => a 0 0) WLX3 := by
  refine hp_startN "HallPhone$Phone" (by decide) rfl rfl (fun _ => by simp only [lg_sl]; exact Nat.le_of_ble_eq_true rfl) ?_
  intro p e s m args below meth c A D adV cA ws h0 hC hr hni
  refine hy_aload_n (a := 0) (n := 1) hC dX3_init_0 rfl rfl rfl ?_
  refine hy_obj (n := 4) hC dX3_init_1 wd_1_46 (Nat.le_of_ble_eq_true rfl) ⟨Nat.le_of_ble_eq_true rfl, Nat.le_of_ble_eq_true rfl⟩ rfl ?_
  refine hy_aload_n (a := 0) (n := 5) hC dX3_init_4 rfl rfl rfl ?_
  refine hy_iconst (v := (0 : Int32)) (n := 6) hC dX3_init_5 (by decide +kernel) rfl ?_
  refine hy_put (T := TX3) (ty := tyX3) (i := 0) (k := 0) (t' := [(h0, .inr (3, [.int 0, .int 0, .int 0, .int 0, .int 0]))]) (n := 9) hC dX3_init_6 rfl in_X3 tyX3_ok nmX3 rfl (by decide) wd_1_47 rfl rfl rfl rfl (Nat.le_of_ble_eq_true rfl) rfl rfl ?_
  refine hy_aload_n (a := 0) (n := 10) hC dX3_init_9 rfl rfl rfl ?_
  refine hy_iconst (v := (-1 : Int32)) (n := 11) hC dX3_init_10 (by decide +kernel) rfl ?_
  refine hy_put (T := TX3) (ty := tyX3) (i := 0) (k := 1) (t' := [(h0, .inr (3, [.int 0, .int (-1), .int 0, .int 0, .int 0]))]) (n := 14) hC dX3_init_11 rfl in_X3 tyX3_ok nmX3 rfl (by decide) wd_1_49 rfl rfl rfl rfl (Nat.le_of_ble_eq_true rfl) rfl rfl ?_
  refine hy_aload_n (a := 0) (n := 15) hC dX3_init_14 rfl rfl rfl ?_
  refine hy_iconst (v := (0 : Int32)) (n := 16) hC dX3_init_15 (by decide +kernel) rfl ?_
  refine hy_put (T := TX3) (ty := tyX3) (i := 0) (k := 2) (t' := [(h0, .inr (3, [.int 0, .int (-1), .int 0, .int 0, .int 0]))]) (n := 19) hC dX3_init_16 rfl in_X3 tyX3_ok nmX3 rfl (by decide) wd_1_51 rfl rfl rfl rfl (Nat.le_of_ble_eq_true rfl) rfl rfl ?_
  refine hy_aload_n (a := 0) (n := 20) hC dX3_init_19 rfl rfl rfl ?_
  refine hy_iconst (v := (0 : Int32)) (n := 21) hC dX3_init_20 (by decide +kernel) rfl ?_
  refine hy_put (T := TX3) (ty := tyX3) (i := 0) (k := 3) (t' := [(h0, .inr (3, [.int 0, .int (-1), .int 0, .int 0, .int 0]))]) (n := 24) hC dX3_init_21 rfl in_X3 tyX3_ok nmX3 rfl (by decide) wd_1_53 rfl rfl rfl rfl (Nat.le_of_ble_eq_true rfl) rfl rfl ?_
  refine hy_aload_n (a := 0) (n := 25) hC dX3_init_24 rfl rfl rfl ?_
  refine hy_iconst (v := (0 : Int32)) (n := 26) hC dX3_init_25 (by decide +kernel) rfl ?_
  refine hy_put (T := TX3) (ty := tyX3) (i := 0) (k := 4) (t' := [(h0, .inr (3, [.int 0, .int (-1), .int 0, .int 0, .int 0]))]) (n := 29) hC dX3_init_26 rfl in_X3 tyX3_ok nmX3 rfl (by decide) wd_1_55 rfl rfl rfl rfl (Nat.le_of_ble_eq_true rfl) rfl rfl ?_
  exact hy_ret hC hr dX3_init_29 (fun _ _ => h0) rfl rfl ⟨Nat.le_of_ble_eq_true rfl, Nat.le_of_ble_eq_true rfl⟩
set_option maxRecDepth 20000 in
set_option maxHeartbeats 4000000 in
theorem c_X4_init (l : Launch) : hp_Ni l yX4_init cX4_init 1 1 1 10 [] (.inr (4, [.null, .int 0])) (fun a => a 0 0) WLX4 := by
  refine hp_startN "HallPhone$Queue" (by decide) rfl rfl (fun _ => by simp only [lg_sl]; exact Nat.le_of_ble_eq_true rfl) ?_
  intro p e s m args below meth c A D adV cA ws h0 hC hr hni
  refine hy_aload_n (a := 0) (n := 1) hC dX4_init_0 rfl rfl rfl ?_
  refine hy_obj (n := 4) hC dX4_init_1 wd_1_74 (Nat.le_of_ble_eq_true rfl) ⟨Nat.le_of_ble_eq_true rfl, Nat.le_of_ble_eq_true rfl⟩ rfl ?_
  refine hy_aload_n (a := 0) (n := 5) hC dX4_init_4 rfl rfl rfl ?_
  refine hy_bipush (v := (10 : Int32)) (n := 7) hC dX4_init_5 (by decide +kernel) rfl ?_
  refine hy_newa (ty := .int) (N' := 10) (a0 := (10, .inl fun _ => 0)) (j := 0) (n := 9) hC dX4_init_7 rfl hp_acs.1 rfl (fun _ _ _ h1 h2 => Option.some.inj (h1.symm.trans h2)) (fun _ => rfl) (by decide +kernel) (by decide +kernel) (Nat.le_of_ble_eq_true rfl) ⟨Nat.le_of_ble_eq_true rfl, Nat.le_of_ble_eq_true rfl⟩ rfl (fun q1 => ?_)
  refine hy_putF (T := TX4) (ty := tyX4) (i := 0) (k := 0) (t' := [(h0, .inr (4, [.ref q1, .int 0]))] ++ [(q1, .inl (cA 0, 10, .inl fun _ => 0))]) (n := 12) hC hni dX4_init_9 rfl in_X4 tyX4_ok nmX4 rfl (by decide) wd_1_75 rfl rfl rfl rfl rfl (Nat.le_of_ble_eq_true rfl) rfl rfl ?_
  refine hy_aload_n (a := 0) (n := 13) hC dX4_init_12 rfl rfl rfl ?_
  refine hy_iconst (v := (0 : Int32)) (n := 14) hC dX4_init_13 (by decide +kernel) rfl ?_
  refine hy_put (T := TX4) (ty := tyX4) (i := 0) (k := 1) (t' := [(h0, .inr (4, [.ref q1, .int 0]))] ++ [(q1, .inl (cA 0, 10, .inl fun _ => 0))]) (n := 17) hC dX4_init_14 rfl in_X4 tyX4_ok nmX4 rfl (by decide) wd_1_76 rfl rfl rfl rfl (Nat.le_of_ble_eq_true rfl) rfl rfl ?_
  exact hy_ret hC hr dX4_init_17 (fun _ j => match j with | 0 => h0 | _ => q1) rfl rfl ⟨Nat.le_of_ble_eq_true rfl, Nat.le_of_ble_eq_true rfl⟩
set_option maxRecDepth 20000 in
set_option maxHeartbeats 4000000 in
theorem c_X6_init (l : Launch) : hp_Ni l yX6_init cX6_init 1 1 2 16 [] (.inr (6, [.null, .null, .int 0])) (fun a => a 0 0) WLX6 := by
  refine hp_startN "HallPhone$Slate" (by decide) rfl rfl (fun _ => by simp only [lg_sl]; exact Nat.le_of_ble_eq_true rfl) ?_
  intro p e s m args below meth c A D adV cA ws h0 hC hr hni
  refine hy_aload_n (a := 0) (n := 1) hC dX6_init_0 rfl rfl rfl ?_
  refine hy_obj (n := 4) hC dX6_init_1 wd_1_88 (Nat.le_of_ble_eq_true rfl) ⟨Nat.le_of_ble_eq_true rfl, Nat.le_of_ble_eq_true rfl⟩ rfl ?_
  refine hy_aload_n (a := 0) (n := 5) hC dX6_init_4 rfl rfl rfl ?_
  refine hy_bipush (v := (8 : Int32)) (n := 7) hC dX6_init_5 (by decide +kernel) rfl ?_
  refine hy_newa (ty := .int) (N' := 8) (a0 := (8, .inl fun _ => 0)) (j := 0) (n := 9) hC dX6_init_7 rfl hp_acs.1 rfl (fun _ _ _ h1 h2 => Option.some.inj (h1.symm.trans h2)) (fun _ => rfl) (by decide +kernel) (by decide +kernel) (Nat.le_of_ble_eq_true rfl) ⟨Nat.le_of_ble_eq_true rfl, Nat.le_of_ble_eq_true rfl⟩ rfl (fun q1 => ?_)
  refine hy_putF (T := TX6) (ty := tyX6) (i := 0) (k := 0) (t' := [(h0, .inr (6, [.ref q1, .null, .int 0]))] ++ [(q1, .inl (cA 0, 8, .inl fun _ => 0))]) (n := 12) hC hni dX6_init_9 rfl in_X6 tyX6_ok nmX6 rfl (by decide) wd_1_89 rfl rfl rfl rfl rfl (Nat.le_of_ble_eq_true rfl) rfl rfl ?_
  refine hy_aload_n (a := 0) (n := 13) hC dX6_init_12 rfl rfl rfl ?_
  refine hy_bipush (v := (8 : Int32)) (n := 15) hC dX6_init_13 (by decide +kernel) rfl ?_
  refine hy_newa (ty := .int) (N' := 8) (a0 := (8, .inl fun _ => 0)) (j := 0) (n := 17) hC dX6_init_15 rfl hp_acs.1 rfl (fun _ _ _ h1 h2 => Option.some.inj (h1.symm.trans h2)) (fun _ => rfl) (by decide +kernel) (by decide +kernel) (Nat.le_of_ble_eq_true rfl) ⟨Nat.le_of_ble_eq_true rfl, Nat.le_of_ble_eq_true rfl⟩ rfl (fun q2 => ?_)
  refine hy_putF (T := TX6) (ty := tyX6) (i := 0) (k := 1) (t' := ([(h0, .inr (6, [.ref q1, .ref q2, .int 0]))] ++ [(q1, .inl (cA 0, 8, .inl fun _ => 0))]) ++ [(q2, .inl (cA 0, 8, .inl fun _ => 0))]) (n := 20) hC hni dX6_init_17 rfl in_X6 tyX6_ok nmX6 rfl (by decide) wd_1_90 rfl rfl rfl rfl rfl (Nat.le_of_ble_eq_true rfl) rfl rfl ?_
  refine hy_aload_n (a := 0) (n := 21) hC dX6_init_20 rfl rfl rfl ?_
  refine hy_iconst (v := (0 : Int32)) (n := 22) hC dX6_init_21 (by decide +kernel) rfl ?_
  refine hy_put (T := TX6) (ty := tyX6) (i := 0) (k := 2) (t' := ([(h0, .inr (6, [.ref q1, .ref q2, .int 0]))] ++ [(q1, .inl (cA 0, 8, .inl fun _ => 0))]) ++ [(q2, .inl (cA 0, 8, .inl fun _ => 0))]) (n := 25) hC dX6_init_22 rfl in_X6 tyX6_ok nmX6 rfl (by decide) wd_1_91 rfl rfl rfl rfl (Nat.le_of_ble_eq_true rfl) rfl rfl ?_
  exact hy_ret hC hr dX6_init_25 (fun _ j => match j with | 0 => h0 | 1 => q1 | _ => q2) rfl rfl ⟨Nat.le_of_ble_eq_true rfl, Nat.le_of_ble_eq_true rfl⟩
set_option maxRecDepth 20000 in
set_option maxHeartbeats 4000000 in
theorem c_X2_init (l : Launch) : hp_Ni l yX2_init cX2_init 1 2 10 262 [] (.inr (2, [.int 0, .int 0, .int 0, .null, .null, .null, .null, .null, .null, .null])) (fun a => a 0 0) WLX2 := by
  refine hp_startN "HallPhone$House" (by decide) rfl rfl (fun _ => by simp only [lg_sl]; exact Nat.le_of_ble_eq_true rfl) ?_
  intro p e s m args below meth c A D adV cA ws h0 hC hr hni
  refine hy_aload_n (a := 0) (n := 1) hC dX2_init_0 rfl rfl rfl ?_
  refine hy_obj (n := 4) hC dX2_init_1 wd_1_40 (Nat.le_of_ble_eq_true rfl) ⟨Nat.le_of_ble_eq_true rfl, Nat.le_of_ble_eq_true rfl⟩ rfl ?_
  refine hy_aload_n (a := 0) (n := 5) hC dX2_init_4 rfl rfl rfl ?_
  refine hy_iconst (v := (0 : Int32)) (n := 6) hC dX2_init_5 (by decide +kernel) rfl ?_
  refine hy_put (T := TX2) (ty := tyX2) (i := 0) (k := 0) (t' := [(h0, .inr (2, [.int 0, .int 0, .int 0, .null, .null, .null, .null, .null, .null, .null]))]) (n := 9) hC dX2_init_6 rfl in_X2 tyX2_ok nmX2 rfl (by decide) wd_1_101 rfl rfl rfl rfl (Nat.le_of_ble_eq_true rfl) rfl rfl ?_
  refine hy_aload_n (a := 0) (n := 10) hC dX2_init_9 rfl rfl rfl ?_
  refine hy_iconst (v := (0 : Int32)) (n := 11) hC dX2_init_10 (by decide +kernel) rfl ?_
  refine hy_put (T := TX2) (ty := tyX2) (i := 0) (k := 1) (t' := [(h0, .inr (2, [.int 0, .int 0, .int 0, .null, .null, .null, .null, .null, .null, .null]))]) (n := 14) hC dX2_init_11 rfl in_X2 tyX2_ok nmX2 rfl (by decide) wd_1_103 rfl rfl rfl rfl (Nat.le_of_ble_eq_true rfl) rfl rfl ?_
  refine hy_aload_n (a := 0) (n := 15) hC dX2_init_14 rfl rfl rfl ?_
  refine hy_iconst (v := (0 : Int32)) (n := 16) hC dX2_init_15 (by decide +kernel) rfl ?_
  refine hy_put (T := TX2) (ty := tyX2) (i := 0) (k := 2) (t' := [(h0, .inr (2, [.int 0, .int 0, .int 0, .null, .null, .null, .null, .null, .null, .null]))]) (n := 19) hC dX2_init_16 rfl in_X2 tyX2_ok nmX2 rfl (by decide) wd_1_104 rfl rfl rfl rfl (Nat.le_of_ble_eq_true rfl) rfl rfl ?_
  refine hy_aload_n (a := 0) (n := 20) hC dX2_init_19 rfl rfl rfl ?_
  refine hy_bipush (v := (6 : Int32)) (n := 22) hC dX2_init_20 (by decide +kernel) rfl ?_
  refine hy_newa (ty := .int) (N' := 6) (a0 := (6, .inl fun _ => 0)) (j := 0) (n := 24) hC dX2_init_22 rfl hp_acs.1 rfl (fun _ _ _ h1 h2 => Option.some.inj (h1.symm.trans h2)) (fun _ => rfl) (by decide +kernel) (by decide +kernel) (Nat.le_of_ble_eq_true rfl) ⟨Nat.le_of_ble_eq_true rfl, Nat.le_of_ble_eq_true rfl⟩ rfl (fun q1 => ?_)
  refine hy_putF (T := TX2) (ty := tyX2) (i := 0) (k := 3) (t' := [(h0, .inr (2, [.int 0, .int 0, .int 0, .ref q1, .null, .null, .null, .null, .null, .null]))] ++ [(q1, .inl (cA 0, 6, .inl fun _ => 0))]) (n := 27) hC hni dX2_init_24 rfl in_X2 tyX2_ok nmX2 rfl (by decide) wd_1_105 rfl rfl rfl rfl rfl (Nat.le_of_ble_eq_true rfl) rfl rfl ?_
  refine hy_aload_n (a := 0) (n := 28) hC dX2_init_27 rfl rfl rfl ?_
  refine hy_bipush (v := (10 : Int32)) (n := 30) hC dX2_init_28 (by decide +kernel) rfl ?_
  refine hy_newa (ty := .int) (N' := 10) (a0 := (10, .inl fun _ => 0)) (j := 0) (n := 32) hC dX2_init_30 rfl hp_acs.1 rfl (fun _ _ _ h1 h2 => Option.some.inj (h1.symm.trans h2)) (fun _ => rfl) (by decide +kernel) (by decide +kernel) (Nat.le_of_ble_eq_true rfl) ⟨Nat.le_of_ble_eq_true rfl, Nat.le_of_ble_eq_true rfl⟩ rfl (fun q2 => ?_)
  refine hy_putF (T := TX2) (ty := tyX2) (i := 0) (k := 4) (t' := ([(h0, .inr (2, [.int 0, .int 0, .int 0, .ref q1, .ref q2, .null, .null, .null, .null, .null]))] ++ [(q1, .inl (cA 0, 6, .inl fun _ => 0))]) ++ [(q2, .inl (cA 0, 10, .inl fun _ => 0))]) (n := 35) hC hni dX2_init_32 rfl in_X2 tyX2_ok nmX2 rfl (by decide) wd_1_106 rfl rfl rfl rfl rfl (Nat.le_of_ble_eq_true rfl) rfl rfl ?_
  refine hy_aload_n (a := 0) (n := 36) hC dX2_init_35 rfl rfl rfl ?_
  refine hy_bipush (v := (110 : Int32)) (n := 38) hC dX2_init_36 (by decide +kernel) rfl ?_
  refine hy_newa (ty := .int) (N' := 110) (a0 := (110, .inl fun _ => 0)) (j := 0) (n := 40) hC dX2_init_38 rfl hp_acs.1 rfl (fun _ _ _ h1 h2 => Option.some.inj (h1.symm.trans h2)) (fun _ => rfl) (by decide +kernel) (by decide +kernel) (Nat.le_of_ble_eq_true rfl) ⟨Nat.le_of_ble_eq_true rfl, Nat.le_of_ble_eq_true rfl⟩ rfl (fun q3 => ?_)
  refine hy_putF (T := TX2) (ty := tyX2) (i := 0) (k := 5) (t' := (([(h0, .inr (2, [.int 0, .int 0, .int 0, .ref q1, .ref q2, .ref q3, .null, .null, .null, .null]))] ++ [(q1, .inl (cA 0, 6, .inl fun _ => 0))]) ++ [(q2, .inl (cA 0, 10, .inl fun _ => 0))]) ++ [(q3, .inl (cA 0, 110, .inl fun _ => 0))]) (n := 43) hC hni dX2_init_40 rfl in_X2 tyX2_ok nmX2 rfl (by decide) wd_1_107 rfl rfl rfl rfl rfl (Nat.le_of_ble_eq_true rfl) rfl rfl ?_
  refine hy_aload_n (a := 0) (n := 44) hC dX2_init_43 rfl rfl rfl ?_
  refine hy_bipush (v := (100 : Int32)) (n := 46) hC dX2_init_44 (by decide +kernel) rfl ?_
  refine hy_newa (ty := .int) (N' := 100) (a0 := (100, .inl fun _ => 0)) (j := 0) (n := 48) hC dX2_init_46 rfl hp_acs.1 rfl (fun _ _ _ h1 h2 => Option.some.inj (h1.symm.trans h2)) (fun _ => rfl) (by decide +kernel) (by decide +kernel) (Nat.le_of_ble_eq_true rfl) ⟨Nat.le_of_ble_eq_true rfl, Nat.le_of_ble_eq_true rfl⟩ rfl (fun q4 => ?_)
  refine hy_putF (T := TX2) (ty := tyX2) (i := 0) (k := 6) (t' := ((([(h0, .inr (2, [.int 0, .int 0, .int 0, .ref q1, .ref q2, .ref q3, .ref q4, .null, .null, .null]))] ++ [(q1, .inl (cA 0, 6, .inl fun _ => 0))]) ++ [(q2, .inl (cA 0, 10, .inl fun _ => 0))]) ++ [(q3, .inl (cA 0, 110, .inl fun _ => 0))]) ++ [(q4, .inl (cA 0, 100, .inl fun _ => 0))]) (n := 51) hC hni dX2_init_48 rfl in_X2 tyX2_ok nmX2 rfl (by decide) wd_1_108 rfl rfl rfl rfl rfl (Nat.le_of_ble_eq_true rfl) rfl rfl ?_
  refine hy_aload_n (a := 0) (n := 52) hC dX2_init_51 rfl rfl rfl ?_
  refine hy_new (ci := 3) (C := RX3) (T := TX3) (ty := tyX3) (N := 5) (fs := [.int 0, .int 0, .int 0, .int 0, .int 0]) (n := 55) hC dX2_init_52 wd_1_41 wd_1_42 wd_1_3 in_X3 tyX3_ok rfl (fun j hj => by match j, hj with | 0, _ => rfl | 1, _ => rfl | 2, _ => rfl | 3, _ => rfl | 4, _ => rfl | j + 5, h => exact absurd h (by omega)) ⟨Nat.le_of_ble_eq_true rfl, Nat.le_of_ble_eq_true rfl⟩ rfl (fun q5 => ?_)
  refine hy_dup (n := 56) hC dX2_init_55 rfl rfl ?_
  refine hy_ctorN (As := []) (t1 := ((([(h0, .inr (2, [.int 0, .int 0, .int 0, .ref q1, .ref q2, .ref q3, .ref q4, .null, .null, .null]))] ++ [(q1, .inl (cA 0, 6, .inl fun _ => 0))]) ++ [(q2, .inl (cA 0, 10, .inl fun _ => 0))]) ++ [(q3, .inl (cA 0, 110, .inl fun _ => 0))]) ++ [(q4, .inl (cA 0, 100, .inl fun _ => 0))]) (n := 59) hC (c_X3_init l) ki_X3_init wd_1_43 dX2_init_56 rfl rfl rfl (Nat.le_of_ble_eq_true rfl) ⟨Nat.le_of_ble_eq_true rfl, Nat.le_of_ble_eq_true rfl⟩ ⟨Nat.le_of_ble_eq_true rfl, Nat.le_of_ble_eq_true rfl⟩ rfl (fun a1 ha1 => ?_)
  subst ha1
  refine hy_putF (T := TX2) (ty := tyX2) (i := 0) (k := 7) (t' := (((([(h0, .inr (2, [.int 0, .int 0, .int 0, .ref q1, .ref q2, .ref q3, .ref q4, .ref (a1 0 0), .null, .null]))] ++ [(q1, .inl (cA 0, 6, .inl fun _ => 0))]) ++ [(q2, .inl (cA 0, 10, .inl fun _ => 0))]) ++ [(q3, .inl (cA 0, 110, .inl fun _ => 0))]) ++ [(q4, .inl (cA 0, 100, .inl fun _ => 0))]) ++ WLX3 a1 adV cA) (n := 62) hC hni dX2_init_59 rfl in_X2 tyX2_ok nmX2 rfl (by decide) wd_1_109 rfl rfl rfl rfl rfl (Nat.le_of_ble_eq_true rfl) rfl rfl ?_
  refine hy_aload_n (a := 0) (n := 63) hC dX2_init_62 rfl rfl rfl ?_
  refine hy_new (ci := 4) (C := RX4) (T := TX4) (ty := tyX4) (N := 2) (fs := [.null, .int 0]) (n := 66) hC dX2_init_63 wd_1_69 wd_1_70 wd_1_4 in_X4 tyX4_ok rfl (fun j hj => by match j, hj with | 0, _ => rfl | 1, _ => rfl | j + 2, h => exact absurd h (by omega)) ⟨Nat.le_of_ble_eq_true rfl, Nat.le_of_ble_eq_true rfl⟩ rfl (fun q6 => ?_)
  refine hy_dup (n := 67) hC dX2_init_66 rfl rfl ?_
  refine hy_ctorN (As := []) (t1 := (((([(h0, .inr (2, [.int 0, .int 0, .int 0, .ref q1, .ref q2, .ref q3, .ref q4, .ref (a1 0 0), .null, .null]))] ++ [(q1, .inl (cA 0, 6, .inl fun _ => 0))]) ++ [(q2, .inl (cA 0, 10, .inl fun _ => 0))]) ++ [(q3, .inl (cA 0, 110, .inl fun _ => 0))]) ++ [(q4, .inl (cA 0, 100, .inl fun _ => 0))]) ++ WLX3 a1 adV cA) (n := 70) hC (c_X4_init l) ki_X4_init wd_1_71 dX2_init_67 rfl rfl rfl (Nat.le_of_ble_eq_true rfl) ⟨Nat.le_of_ble_eq_true rfl, Nat.le_of_ble_eq_true rfl⟩ ⟨Nat.le_of_ble_eq_true rfl, Nat.le_of_ble_eq_true rfl⟩ rfl (fun a2 ha2 => ?_)
  subst ha2
  refine hy_putF (T := TX2) (ty := tyX2) (i := 0) (k := 8) (t' := ((((([(h0, .inr (2, [.int 0, .int 0, .int 0, .ref q1, .ref q2, .ref q3, .ref q4, .ref (a1 0 0), .ref (a2 0 0), .null]))] ++ [(q1, .inl (cA 0, 6, .inl fun _ => 0))]) ++ [(q2, .inl (cA 0, 10, .inl fun _ => 0))]) ++ [(q3, .inl (cA 0, 110, .inl fun _ => 0))]) ++ [(q4, .inl (cA 0, 100, .inl fun _ => 0))]) ++ WLX3 a1 adV cA) ++ WLX4 a2 adV cA) (n := 73) hC hni dX2_init_70 rfl in_X2 tyX2_ok nmX2 rfl (by decide) wd_1_110 rfl rfl rfl rfl rfl (Nat.le_of_ble_eq_true rfl) rfl rfl ?_
  refine hy_aload_n (a := 0) (n := 74) hC dX2_init_73 rfl rfl rfl ?_
  refine hy_new (ci := 6) (C := RX6) (T := TX6) (ty := tyX6) (N := 3) (fs := [.null, .null, .int 0]) (n := 77) hC dX2_init_74 wd_1_83 wd_1_84 wd_1_5 in_X6 tyX6_ok rfl (fun j hj => by match j, hj with | 0, _ => rfl | 1, _ => rfl | 2, _ => rfl | j + 3, h => exact absurd h (by omega)) ⟨Nat.le_of_ble_eq_true rfl, Nat.le_of_ble_eq_true rfl⟩ rfl (fun q7 => ?_)
  refine hy_dup (n := 78) hC dX2_init_77 rfl rfl ?_
  refine hy_ctorN (As := []) (t1 := ((((([(h0, .inr (2, [.int 0, .int 0, .int 0, .ref q1, .ref q2, .ref q3, .ref q4, .ref (a1 0 0), .ref (a2 0 0), .null]))] ++ [(q1, .inl (cA 0, 6, .inl fun _ => 0))]) ++ [(q2, .inl (cA 0, 10, .inl fun _ => 0))]) ++ [(q3, .inl (cA 0, 110, .inl fun _ => 0))]) ++ [(q4, .inl (cA 0, 100, .inl fun _ => 0))]) ++ WLX3 a1 adV cA) ++ WLX4 a2 adV cA) (n := 81) hC (c_X6_init l) ki_X6_init wd_1_85 dX2_init_78 rfl rfl rfl (Nat.le_of_ble_eq_true rfl) ⟨Nat.le_of_ble_eq_true rfl, Nat.le_of_ble_eq_true rfl⟩ ⟨Nat.le_of_ble_eq_true rfl, Nat.le_of_ble_eq_true rfl⟩ rfl (fun a3 ha3 => ?_)
  subst ha3
  refine hy_putF (T := TX2) (ty := tyX2) (i := 0) (k := 9) (t' := (((((([(h0, .inr (2, [.int 0, .int 0, .int 0, .ref q1, .ref q2, .ref q3, .ref q4, .ref (a1 0 0), .ref (a2 0 0), .ref (a3 0 0)]))] ++ [(q1, .inl (cA 0, 6, .inl fun _ => 0))]) ++ [(q2, .inl (cA 0, 10, .inl fun _ => 0))]) ++ [(q3, .inl (cA 0, 110, .inl fun _ => 0))]) ++ [(q4, .inl (cA 0, 100, .inl fun _ => 0))]) ++ WLX3 a1 adV cA) ++ WLX4 a2 adV cA) ++ WLX6 a3 adV cA) (n := 84) hC hni dX2_init_81 rfl in_X2 tyX2_ok nmX2 rfl (by decide) wd_1_112 rfl rfl rfl rfl rfl (Nat.le_of_ble_eq_true rfl) rfl rfl ?_
  exact hy_ret hC hr dX2_init_84 (fun _ j => match j with | 0 => h0 | 1 => q1 | 2 => q2 | 3 => q3 | 4 => q4 | 5 => a1 0 0 | 6 => a2 0 0 | 7 => a2 0 1 | 8 => a3 0 0 | 9 => a3 0 1 | _ => a3 0 2) rfl rfl ⟨Nat.le_of_ble_eq_true rfl, Nat.le_of_ble_eq_true rfl⟩
set_option maxRecDepth 20000 in
set_option maxHeartbeats 4000000 in
theorem c_X5_init (l : Launch) : hp_Ni l yX5_init cX5_init 1 1 1 700 [] (.inr (5, [.null, .int 0, .int 0, .int 0, .int 0, .int 0, .null, .int 0, .int 0, .int 0])) (fun a => a 0 0) WLX5 := by
  refine hp_startN "HallPhone$Reader" (by decide) rfl rfl (fun _ => by simp only [lg_sl]; exact Nat.le_of_ble_eq_true rfl) ?_
  intro p e s m args below meth c A D adV cA ws h0 hC hr hni
  refine hy_aload_n (a := 0) (n := 1) hC dX5_init_0 rfl rfl rfl ?_
  refine hy_obj (n := 4) hC dX5_init_1 wd_1_160 (Nat.le_of_ble_eq_true rfl) ⟨Nat.le_of_ble_eq_true rfl, Nat.le_of_ble_eq_true rfl⟩ rfl ?_
  refine hy_aload_n (a := 0) (n := 5) hC dX5_init_4 rfl rfl rfl ?_
  refine hy_sipush (v := (700 : Int32)) (n := 8) hC dX5_init_5 (by decide +kernel) rfl ?_
  refine hy_newa (ty := .int) (N' := 700) (a0 := (700, .inl fun _ => 0)) (j := 0) (n := 10) hC dX5_init_8 rfl hp_acs.1 rfl (fun _ _ _ h1 h2 => Option.some.inj (h1.symm.trans h2)) (fun _ => rfl) (by decide +kernel) (by decide +kernel) (Nat.le_of_ble_eq_true rfl) ⟨Nat.le_of_ble_eq_true rfl, Nat.le_of_ble_eq_true rfl⟩ rfl (fun q1 => ?_)
  refine hy_putF (T := TX5) (ty := tyX5) (i := 0) (k := 0) (t' := [(h0, .inr (5, [.ref q1, .int 0, .int 0, .int 0, .int 0, .int 0, .null, .int 0, .int 0, .int 0]))] ++ [(q1, .inl (cA 0, 700, .inl fun _ => 0))]) (n := 13) hC hni dX5_init_10 rfl in_X5 tyX5_ok nmX5 rfl (by decide) wd_1_161 rfl rfl rfl rfl rfl (Nat.le_of_ble_eq_true rfl) rfl rfl ?_
  refine hy_aload_n (a := 0) (n := 14) hC dX5_init_13 rfl rfl rfl ?_
  refine hy_iconst (v := (0 : Int32)) (n := 15) hC dX5_init_14 (by decide +kernel) rfl ?_
  refine hy_put (T := TX5) (ty := tyX5) (i := 0) (k := 1) (t' := [(h0, .inr (5, [.ref q1, .int 0, .int 0, .int 0, .int 0, .int 0, .null, .int 0, .int 0, .int 0]))] ++ [(q1, .inl (cA 0, 700, .inl fun _ => 0))]) (n := 18) hC dX5_init_15 rfl in_X5 tyX5_ok nmX5 rfl (by decide) wd_1_162 rfl rfl rfl rfl (Nat.le_of_ble_eq_true rfl) rfl rfl ?_
  refine hy_aload_n (a := 0) (n := 19) hC dX5_init_18 rfl rfl rfl ?_
  refine hy_iconst (v := (0 : Int32)) (n := 20) hC dX5_init_19 (by decide +kernel) rfl ?_
  refine hy_put (T := TX5) (ty := tyX5) (i := 0) (k := 2) (t' := [(h0, .inr (5, [.ref q1, .int 0, .int 0, .int 0, .int 0, .int 0, .null, .int 0, .int 0, .int 0]))] ++ [(q1, .inl (cA 0, 700, .inl fun _ => 0))]) (n := 23) hC dX5_init_20 rfl in_X5 tyX5_ok nmX5 rfl (by decide) wd_1_163 rfl rfl rfl rfl (Nat.le_of_ble_eq_true rfl) rfl rfl ?_
  refine hy_aload_n (a := 0) (n := 24) hC dX5_init_23 rfl rfl rfl ?_
  refine hy_iconst (v := (0 : Int32)) (n := 25) hC dX5_init_24 (by decide +kernel) rfl ?_
  refine hy_put (T := TX5) (ty := tyX5) (i := 0) (k := 3) (t' := [(h0, .inr (5, [.ref q1, .int 0, .int 0, .int 0, .int 0, .int 0, .null, .int 0, .int 0, .int 0]))] ++ [(q1, .inl (cA 0, 700, .inl fun _ => 0))]) (n := 28) hC dX5_init_25 rfl in_X5 tyX5_ok nmX5 rfl (by decide) wd_1_164 rfl rfl rfl rfl (Nat.le_of_ble_eq_true rfl) rfl rfl ?_
  refine hy_aload_n (a := 0) (n := 29) hC dX5_init_28 rfl rfl rfl ?_
  refine hy_iconst (v := (0 : Int32)) (n := 30) hC dX5_init_29 (by decide +kernel) rfl ?_
  refine hy_put (T := TX5) (ty := tyX5) (i := 0) (k := 4) (t' := [(h0, .inr (5, [.ref q1, .int 0, .int 0, .int 0, .int 0, .int 0, .null, .int 0, .int 0, .int 0]))] ++ [(q1, .inl (cA 0, 700, .inl fun _ => 0))]) (n := 33) hC dX5_init_30 rfl in_X5 tyX5_ok nmX5 rfl (by decide) wd_1_165 rfl rfl rfl rfl (Nat.le_of_ble_eq_true rfl) rfl rfl ?_
  refine hy_aload_n (a := 0) (n := 34) hC dX5_init_33 rfl rfl rfl ?_
  refine hy_iconst (v := (0 : Int32)) (n := 35) hC dX5_init_34 (by decide +kernel) rfl ?_
  refine hy_put (T := TX5) (ty := tyX5) (i := 0) (k := 5) (t' := [(h0, .inr (5, [.ref q1, .int 0, .int 0, .int 0, .int 0, .int 0, .null, .int 0, .int 0, .int 0]))] ++ [(q1, .inl (cA 0, 700, .inl fun _ => 0))]) (n := 38) hC dX5_init_35 rfl in_X5 tyX5_ok nmX5 rfl (by decide) wd_1_166 rfl rfl rfl rfl (Nat.le_of_ble_eq_true rfl) rfl rfl ?_
  refine hy_aload_n (a := 0) (n := 39) hC dX5_init_38 rfl rfl rfl ?_
  refine hy_null (n := 40) hC dX5_init_39 rfl ?_
  refine hy_put (T := TX5) (ty := tyX5) (i := 0) (k := 6) (t' := [(h0, .inr (5, [.ref q1, .int 0, .int 0, .int 0, .int 0, .int 0, .null, .int 0, .int 0, .int 0]))] ++ [(q1, .inl (cA 0, 700, .inl fun _ => 0))]) (n := 43) hC dX5_init_40 rfl in_X5 tyX5_ok nmX5 rfl (by decide) wd_1_167 rfl rfl rfl rfl (Nat.le_of_ble_eq_true rfl) rfl rfl ?_
  refine hy_aload_n (a := 0) (n := 44) hC dX5_init_43 rfl rfl rfl ?_
  refine hy_iconst (v := (-1 : Int32)) (n := 45) hC dX5_init_44 (by decide +kernel) rfl ?_
  refine hy_put (T := TX5) (ty := tyX5) (i := 0) (k := 7) (t' := [(h0, .inr (5, [.ref q1, .int 0, .int 0, .int 0, .int 0, .int 0, .null, .int (-1), .int 0, .int 0]))] ++ [(q1, .inl (cA 0, 700, .inl fun _ => 0))]) (n := 48) hC dX5_init_45 rfl in_X5 tyX5_ok nmX5 rfl (by decide) wd_1_169 rfl rfl rfl rfl (Nat.le_of_ble_eq_true rfl) rfl rfl ?_
  refine hy_aload_n (a := 0) (n := 49) hC dX5_init_48 rfl rfl rfl ?_
  refine hy_iconst (v := (0 : Int32)) (n := 50) hC dX5_init_49 (by decide +kernel) rfl ?_
  refine hy_put (T := TX5) (ty := tyX5) (i := 0) (k := 8) (t' := [(h0, .inr (5, [.ref q1, .int 0, .int 0, .int 0, .int 0, .int 0, .null, .int (-1), .int 0, .int 0]))] ++ [(q1, .inl (cA 0, 700, .inl fun _ => 0))]) (n := 53) hC dX5_init_50 rfl in_X5 tyX5_ok nmX5 rfl (by decide) wd_1_171 rfl rfl rfl rfl (Nat.le_of_ble_eq_true rfl) rfl rfl ?_
  refine hy_aload_n (a := 0) (n := 54) hC dX5_init_53 rfl rfl rfl ?_
  refine hy_iconst (v := (0 : Int32)) (n := 55) hC dX5_init_54 (by decide +kernel) rfl ?_
  refine hy_put (T := TX5) (ty := tyX5) (i := 0) (k := 9) (t' := [(h0, .inr (5, [.ref q1, .int 0, .int 0, .int 0, .int 0, .int 0, .null, .int (-1), .int 0, .int 0]))] ++ [(q1, .inl (cA 0, 700, .inl fun _ => 0))]) (n := 58) hC dX5_init_55 rfl in_X5 tyX5_ok nmX5 rfl (by decide) wd_1_173 rfl rfl rfl rfl (Nat.le_of_ble_eq_true rfl) rfl rfl ?_
  exact hy_ret hC hr dX5_init_58 (fun _ j => match j with | 0 => h0 | _ => q1) rfl (by simp only [WLX5, hp_vr_m1]; rfl) ⟨Nat.le_of_ble_eq_true rfl, Nat.le_of_ble_eq_true rfl⟩
set_option maxRecDepth 20000 in
set_option maxHeartbeats 4000000 in
theorem c_J5_init (l : Launch) : hp_Ni l yJ5_init_d00df cJ5_init_d00df 2 1 1 16 [.int 16] (.inr (0, [.null, .int 0, .int 0, .int 0])) (fun a => a 0 0) WLJ4 := by
  refine hp_startN "java/lang/AbstractStringBuilder" (by decide) rfl rfl (fun _ => by simp only [lg_sl]; exact Nat.le_of_ble_eq_true rfl) ?_
  intro p e s m args below meth c A D adV cA ws h0 hC hr hni
  refine hy_aload_n (a := 0) (n := 1) hC dJ5_init_d00df_0 rfl rfl rfl ?_
  refine hy_obj (n := 4) hC dJ5_init_d00df_1 wd_1_204 (Nat.le_of_ble_eq_true rfl) ⟨Nat.le_of_ble_eq_true rfl, Nat.le_of_ble_eq_true rfl⟩ rfl ?_
  refine hy_getsi (z := 1) (n := 7) hC dJ5_init_d00df_4 wd_1_206 wd_1_10.1 hp_cs wd_1_205 rfl ?_
  refine hy_eq_f (tgt := 25) (n := 10) hC dJ5_init_d00df_7 (by decide) (by decide) rfl ?_
  refine hy_aload_n (a := 0) (n := 11) hC dJ5_init_d00df_10 rfl rfl rfl ?_
  refine hy_iload_n (a := 1) (n := 12) hC dJ5_init_d00df_11 rfl rfl rfl ?_
  refine hy_newa (ty := .byte) (N' := 16) (a0 := (16, .inl fun _ => 0)) (j := 2) (n := 14) hC dJ5_init_d00df_12 rfl hp_acs.2 rfl (fun _ _ _ h1 h2 => Option.some.inj (h1.symm.trans h2)) (fun _ => rfl) (by decide +kernel) (by decide +kernel) (Nat.le_of_ble_eq_true rfl) ⟨Nat.le_of_ble_eq_true rfl, Nat.le_of_ble_eq_true rfl⟩ rfl (fun q1 => ?_)
  refine hy_put (T := TJ4) (ty := tyJ4) (i := 0) (k := 0) (t' := [(h0, .inr (0, [.ref q1, .int 0, .int 0, .int 0]))] ++ [(q1, .inl (cA 2, 16, .inl fun _ => 0))]) (n := 17) hC dJ5_init_d00df_14 rfl in_J4 tyJ4_ok nmJ4 rfl (by decide) wd_1_214 rfl rfl rfl rfl (Nat.le_of_ble_eq_true rfl) rfl rfl ?_
  refine hy_aload_n (a := 0) (n := 18) hC dJ5_init_d00df_17 rfl rfl rfl ?_
  refine hy_iconst (v := (0 : Int32)) (n := 19) hC dJ5_init_d00df_18 (by decide +kernel) rfl ?_
  refine hy_put (T := TJ4) (ty := tyJ4) (i := 0) (k := 1) (t' := [(h0, .inr (0, [.ref q1, .int 0, .int 0, .int 0]))] ++ [(q1, .inl (cA 2, 16, .inl fun _ => 0))]) (n := 22) hC dJ5_init_d00df_19 rfl in_J4 tyJ4_ok nmJ4 rfl (by decide) wd_1_215 rfl rfl rfl rfl (Nat.le_of_ble_eq_true rfl) rfl rfl ?_
  refine hy_goto (n := 38) hC dJ5_init_d00df_22 (by decide) ?_
  exact hy_ret hC hr dJ5_init_d00df_38 (fun _ j => match j with | 0 => h0 | _ => q1) rfl rfl ⟨Nat.le_of_ble_eq_true rfl, Nat.le_of_ble_eq_true rfl⟩
set_option maxRecDepth 20000 in
set_option maxHeartbeats 4000000 in
theorem c_J4_init (l : Launch) : hp_Ni l yJ4_init_da8c8 cJ4_init_da8c8 1 2 1 16 [] (.inr (0, [.null, .int 0, .int 0, .int 0])) (fun a => a 0 0) WLJ4 := by
  refine hp_startN "java/lang/StringBuilder" (by decide) rfl rfl (fun _ => by simp only [lg_sl]; exact Nat.le_of_ble_eq_true rfl) ?_
  intro p e s m args below meth c A D adV cA ws h0 hC hr hni
  refine hy_aload_n (a := 0) (n := 1) hC dJ4_init_da8c8_0 rfl rfl rfl ?_
  refine hy_bipush (v := (16 : Int32)) (n := 3) hC dJ4_init_da8c8_1 (by decide +kernel) rfl ?_
  refine hy_ctor (As := [.int 16]) (t1 := []) (n := 6) hC (c_J5_init l) ki_J5_init wd_1_201 dJ4_init_da8c8_3 rfl rfl rfl (Nat.le_of_ble_eq_true rfl) ⟨Nat.le_of_ble_eq_true rfl, Nat.le_of_ble_eq_true rfl⟩ ⟨Nat.le_of_ble_eq_true rfl, Nat.le_of_ble_eq_true rfl⟩ rfl (fun a1 ha1 => ?_)
  obtain rfl := ha1
  exact hy_ret hC hr dJ4_init_da8c8_6 (fun _ j => match j with | 0 => a1 0 0 | _ => a1 0 1) rfl rfl ⟨Nat.le_of_ble_eq_true rfl, Nat.le_of_ble_eq_true rfl⟩
set_option maxRecDepth 20000 in
set_option maxHeartbeats 4000000 in
theorem c_X1_init (l : Launch) : hp_Ni l yX1_init cX1_init 2 3 89 2184 [] (.inr (1, [.null, .int 0, .int 0])) (fun a => a 0 0) WLX1 := by
  refine hp_startN "HallPhone$History" (by decide) rfl rfl (fun _ => by simp only [lg_sl]; exact Nat.le_of_ble_eq_true rfl) ?_
  intro p e s m args below meth c A D adV cA ws h0 hC hr hni
  refine hy_aload_n (a := 0) (n := 1) hC dX1_init_0 rfl rfl rfl ?_
  refine hy_obj (n := 4) hC dX1_init_1 wd_1_140 (Nat.le_of_ble_eq_true rfl) ⟨Nat.le_of_ble_eq_true rfl, Nat.le_of_ble_eq_true rfl⟩ rfl ?_
  refine hy_aload_n (a := 0) (n := 5) hC dX1_init_4 rfl rfl rfl ?_
  refine hy_bipush (v := (8 : Int32)) (n := 7) hC dX1_init_5 (by decide +kernel) rfl ?_
  refine hy_newq (N' := 8) (n := 10) hC dX1_init_7 wd_1_141 (by decide +kernel) (by decide +kernel) (Nat.le_of_ble_eq_true rfl) ⟨Nat.le_of_ble_eq_true rfl, Nat.le_of_ble_eq_true rfl⟩ rfl (fun q1 => ?_)
  refine hy_putF (T := TX1) (ty := tyX1) (i := 0) (k := 0) (t' := [(h0, .inr (1, [.ref q1, .int 0, .int 0]))] ++ [(q1, .inl (cA 3, 8, .inr (.inr (.inr (.inr (fun _ => none))))))]) (n := 13) hC hni dX1_init_10 rfl in_X1 tyX1_ok nmX1 rfl (by decide) wd_1_144 rfl rfl rfl rfl rfl (Nat.le_of_ble_eq_true rfl) rfl rfl ?_
  refine hy_aload_n (a := 0) (n := 14) hC dX1_init_13 rfl rfl rfl ?_
  refine hy_iconst (v := (0 : Int32)) (n := 15) hC dX1_init_14 (by decide +kernel) rfl ?_
  refine hy_put (T := TX1) (ty := tyX1) (i := 0) (k := 1) (t' := [(h0, .inr (1, [.ref q1, .int 0, .int 0]))] ++ [(q1, .inl (cA 3, 8, .inr (.inr (.inr (.inr (fun _ => none))))))]) (n := 18) hC dX1_init_15 rfl in_X1 tyX1_ok nmX1 rfl (by decide) wd_1_145 rfl rfl rfl rfl (Nat.le_of_ble_eq_true rfl) rfl rfl ?_
  refine hy_aload_n (a := 0) (n := 19) hC dX1_init_18 rfl rfl rfl ?_
  refine hy_iconst (v := (0 : Int32)) (n := 20) hC dX1_init_19 (by decide +kernel) rfl ?_
  refine hy_put (T := TX1) (ty := tyX1) (i := 0) (k := 2) (t' := [(h0, .inr (1, [.ref q1, .int 0, .int 0]))] ++ [(q1, .inl (cA 3, 8, .inr (.inr (.inr (.inr (fun _ => none))))))]) (n := 23) hC dX1_init_20 rfl in_X1 tyX1_ok nmX1 rfl (by decide) wd_1_146 rfl rfl rfl rfl (Nat.le_of_ble_eq_true rfl) rfl rfl ?_
  refine hy_iconst (v := (0 : Int32)) (n := 24) hC dX1_init_23 (by decide +kernel) rfl ?_
  refine hy_istore_n (L' := [(1, .int 0), (0, .ref h0)]) (n := 25) hC dX1_init_24 rfl (by decide) rfl rfl ?_
  refine hy_iload_n (a := 0) (n := 26) hC dX1_init_25 rfl rfl rfl ?_
  refine hy_aload_n (a := 1) (n := 27) hC dX1_init_26 rfl rfl rfl ?_
  refine hy_get (T := TX1) (i := 0) (k := 0) (n := 30) hC dX1_init_27 rfl in_X1 rfl (by decide) wd_1_144 rfl rfl rfl ?_
  refine hy_alen (i := 1) (j := 3) (v := (8 : Int32)) (n := 31) hC dX1_init_30 rfl (by decide) rfl rfl ?_
  refine hy_ge_f (tgt := 53) (n := 34) hC dX1_init_31 (by decide) (by decide +kernel) rfl ?_
  refine hy_aload_n (a := 1) (n := 35) hC dX1_init_34 rfl rfl rfl ?_
  refine hy_get (T := TX1) (i := 0) (k := 0) (n := 38) hC dX1_init_35 rfl in_X1 rfl (by decide) wd_1_144 rfl rfl rfl ?_
  refine hy_iload_n (a := 0) (n := 39) hC dX1_init_38 rfl rfl rfl ?_
  refine hy_new (ci := 2) (C := RX2) (T := TX2) (ty := tyX2) (N := 10) (fs := [.int 0, .int 0, .int 0, .null, .null, .null, .null, .null, .null, .null]) (n := 42) hC dX1_init_39 wd_1_141 wd_1_36 wd_1_2 in_X2 tyX2_ok rfl (fun j hj => by match j, hj with | 0, _ => rfl | 1, _ => rfl | 2, _ => rfl | 3, _ => rfl | 4, _ => rfl | 5, _ => rfl | 6, _ => rfl | 7, _ => rfl | 8, _ => rfl | 9, _ => rfl | j + 10, h => exact absurd h (by omega)) ⟨Nat.le_of_ble_eq_true rfl, Nat.le_of_ble_eq_true rfl⟩ rfl (fun q2 => ?_)
  refine hy_dup (n := 43) hC dX1_init_42 rfl rfl ?_
  refine hy_ctorN (As := []) (t1 := [(h0, .inr (1, [.ref q1, .int 0, .int 0]))] ++ [(q1, .inl (cA 3, 8, .inr (.inr (.inr (.inr (fun _ => none))))))]) (n := 46) hC (c_X2_init l) ki_X2_init wd_1_143 dX1_init_43 rfl rfl rfl (Nat.le_of_ble_eq_true rfl) ⟨Nat.le_of_ble_eq_true rfl, Nat.le_of_ble_eq_true rfl⟩ ⟨Nat.le_of_ble_eq_true rfl, Nat.le_of_ble_eq_true rfl⟩ rfl (fun a1 ha1 => ?_)
  subst ha1
  refine hy_aast (i0 := 1) (k0 := 2) (i := (0 : Int32)) (t' := ([(h0, .inr (1, [.ref q1, .int 0, .int 0]))] ++ [(q1, .inl (cA 3, 8, .inr (.inr (.inr (.inr (va_up (fun _ => none) 0 (some (a1 0 0))))))))]) ++ WLX2 a1 adV cA) (n := 47) hC dX1_init_46 rfl rfl (by show ¬ _; decide +kernel) rfl rfl ?_
  refine hy_iinc (a := 0) (v := (1 : Int32)) (L' := [(1, .int 1), (0, .ref h0)]) (n := 50) hC dX1_init_47 rfl (by decide +kernel) (by decide) rfl rfl ?_
  refine hy_goto (n := 25) hC dX1_init_50 (by decide) ?_
  refine hy_iload_n (a := 0) (n := 26) hC dX1_init_25 rfl rfl rfl ?_
  refine hy_aload_n (a := 1) (n := 27) hC dX1_init_26 rfl rfl rfl ?_
  refine hy_get (T := TX1) (i := 0) (k := 0) (n := 30) hC dX1_init_27 rfl in_X1 rfl (by decide) wd_1_144 rfl rfl rfl ?_
  refine hy_alen (i := 1) (j := 3) (v := (8 : Int32)) (n := 31) hC dX1_init_30 rfl (by decide) rfl rfl ?_
  refine hy_ge_f (tgt := 53) (n := 34) hC dX1_init_31 (by decide) (by decide +kernel) rfl ?_
  refine hy_aload_n (a := 1) (n := 35) hC dX1_init_34 rfl rfl rfl ?_
  refine hy_get (T := TX1) (i := 0) (k := 0) (n := 38) hC dX1_init_35 rfl in_X1 rfl (by decide) wd_1_144 rfl rfl rfl ?_
  refine hy_iload_n (a := 0) (n := 39) hC dX1_init_38 rfl rfl rfl ?_
  refine hy_new (ci := 2) (C := RX2) (T := TX2) (ty := tyX2) (N := 10) (fs := [.int 0, .int 0, .int 0, .null, .null, .null, .null, .null, .null, .null]) (n := 42) hC dX1_init_39 wd_1_141 wd_1_36 wd_1_2 in_X2 tyX2_ok rfl (fun j hj => by match j, hj with | 0, _ => rfl | 1, _ => rfl | 2, _ => rfl | 3, _ => rfl | 4, _ => rfl | 5, _ => rfl | 6, _ => rfl | 7, _ => rfl | 8, _ => rfl | 9, _ => rfl | j + 10, h => exact absurd h (by omega)) ⟨Nat.le_of_ble_eq_true rfl, Nat.le_of_ble_eq_true rfl⟩ rfl (fun q3 => ?_)
  refine hy_dup (n := 43) hC dX1_init_42 rfl rfl ?_
  refine hy_ctorN (As := []) (t1 := ([(h0, .inr (1, [.ref q1, .int 0, .int 0]))] ++ [(q1, .inl (cA 3, 8, .inr (.inr (.inr (.inr (va_up (fun _ => none) 0 (some (a1 0 0))))))))]) ++ WLX2 a1 adV cA) (n := 46) hC (c_X2_init l) ki_X2_init wd_1_143 dX1_init_43 rfl rfl rfl (Nat.le_of_ble_eq_true rfl) ⟨Nat.le_of_ble_eq_true rfl, Nat.le_of_ble_eq_true rfl⟩ ⟨Nat.le_of_ble_eq_true rfl, Nat.le_of_ble_eq_true rfl⟩ rfl (fun a2 ha2 => ?_)
  subst ha2
  refine hy_aast (i0 := 1) (k0 := 13) (i := (1 : Int32)) (t' := (([(h0, .inr (1, [.ref q1, .int 0, .int 0]))] ++ [(q1, .inl (cA 3, 8, .inr (.inr (.inr (.inr (va_up (va_up (fun _ => none) 0 (some (a1 0 0))) 1 (some (a2 0 0))))))))]) ++ WLX2 a1 adV cA) ++ WLX2 a2 adV cA) (n := 47) hC dX1_init_46 rfl rfl (by show ¬ _; decide +kernel) rfl rfl ?_
  refine hy_iinc (a := 0) (v := (2 : Int32)) (L' := [(1, .int 2), (0, .ref h0)]) (n := 50) hC dX1_init_47 rfl (by decide +kernel) (by decide) rfl rfl ?_
  refine hy_goto (n := 25) hC dX1_init_50 (by decide) ?_
  refine hy_iload_n (a := 0) (n := 26) hC dX1_init_25 rfl rfl rfl ?_
  refine hy_aload_n (a := 1) (n := 27) hC dX1_init_26 rfl rfl rfl ?_
  refine hy_get (T := TX1) (i := 0) (k := 0) (n := 30) hC dX1_init_27 rfl in_X1 rfl (by decide) wd_1_144 rfl rfl rfl ?_
  refine hy_alen (i := 1) (j := 3) (v := (8 : Int32)) (n := 31) hC dX1_init_30 rfl (by decide) rfl rfl ?_
  refine hy_ge_f (tgt := 53) (n := 34) hC dX1_init_31 (by decide) (by decide +kernel) rfl ?_
  refine hy_aload_n (a := 1) (n := 35) hC dX1_init_34 rfl rfl rfl ?_
  refine hy_get (T := TX1) (i := 0) (k := 0) (n := 38) hC dX1_init_35 rfl in_X1 rfl (by decide) wd_1_144 rfl rfl rfl ?_
  refine hy_iload_n (a := 0) (n := 39) hC dX1_init_38 rfl rfl rfl ?_
  refine hy_new (ci := 2) (C := RX2) (T := TX2) (ty := tyX2) (N := 10) (fs := [.int 0, .int 0, .int 0, .null, .null, .null, .null, .null, .null, .null]) (n := 42) hC dX1_init_39 wd_1_141 wd_1_36 wd_1_2 in_X2 tyX2_ok rfl (fun j hj => by match j, hj with | 0, _ => rfl | 1, _ => rfl | 2, _ => rfl | 3, _ => rfl | 4, _ => rfl | 5, _ => rfl | 6, _ => rfl | 7, _ => rfl | 8, _ => rfl | 9, _ => rfl | j + 10, h => exact absurd h (by omega)) ⟨Nat.le_of_ble_eq_true rfl, Nat.le_of_ble_eq_true rfl⟩ rfl (fun q4 => ?_)
  refine hy_dup (n := 43) hC dX1_init_42 rfl rfl ?_
  refine hy_ctorN (As := []) (t1 := (([(h0, .inr (1, [.ref q1, .int 0, .int 0]))] ++ [(q1, .inl (cA 3, 8, .inr (.inr (.inr (.inr (va_up (va_up (fun _ => none) 0 (some (a1 0 0))) 1 (some (a2 0 0))))))))]) ++ WLX2 a1 adV cA) ++ WLX2 a2 adV cA) (n := 46) hC (c_X2_init l) ki_X2_init wd_1_143 dX1_init_43 rfl rfl rfl (Nat.le_of_ble_eq_true rfl) ⟨Nat.le_of_ble_eq_true rfl, Nat.le_of_ble_eq_true rfl⟩ ⟨Nat.le_of_ble_eq_true rfl, Nat.le_of_ble_eq_true rfl⟩ rfl (fun a3 ha3 => ?_)
  subst ha3
  refine hy_aast (i0 := 1) (k0 := 24) (i := (2 : Int32)) (t' := ((([(h0, .inr (1, [.ref q1, .int 0, .int 0]))] ++ [(q1, .inl (cA 3, 8, .inr (.inr (.inr (.inr (va_up (va_up (va_up (fun _ => none) 0 (some (a1 0 0))) 1 (some (a2 0 0))) 2 (some (a3 0 0))))))))]) ++ WLX2 a1 adV cA) ++ WLX2 a2 adV cA) ++ WLX2 a3 adV cA) (n := 47) hC dX1_init_46 rfl rfl (by show ¬ _; decide +kernel) rfl rfl ?_
  refine hy_iinc (a := 0) (v := (3 : Int32)) (L' := [(1, .int 3), (0, .ref h0)]) (n := 50) hC dX1_init_47 rfl (by decide +kernel) (by decide) rfl rfl ?_
  refine hy_goto (n := 25) hC dX1_init_50 (by decide) ?_
  refine hy_iload_n (a := 0) (n := 26) hC dX1_init_25 rfl rfl rfl ?_
  refine hy_aload_n (a := 1) (n := 27) hC dX1_init_26 rfl rfl rfl ?_
  refine hy_get (T := TX1) (i := 0) (k := 0) (n := 30) hC dX1_init_27 rfl in_X1 rfl (by decide) wd_1_144 rfl rfl rfl ?_
  refine hy_alen (i := 1) (j := 3) (v := (8 : Int32)) (n := 31) hC dX1_init_30 rfl (by decide) rfl rfl ?_
  refine hy_ge_f (tgt := 53) (n := 34) hC dX1_init_31 (by decide) (by decide +kernel) rfl ?_
  refine hy_aload_n (a := 1) (n := 35) hC dX1_init_34 rfl rfl rfl ?_
  refine hy_get (T := TX1) (i := 0) (k := 0) (n := 38) hC dX1_init_35 rfl in_X1 rfl (by decide) wd_1_144 rfl rfl rfl ?_
  refine hy_iload_n (a := 0) (n := 39) hC dX1_init_38 rfl rfl rfl ?_
  refine hy_new (ci := 2) (C := RX2) (T := TX2) (ty := tyX2) (N := 10) (fs := [.int 0, .int 0, .int 0, .null, .null, .null, .null, .null, .null, .null]) (n := 42) hC dX1_init_39 wd_1_141 wd_1_36 wd_1_2 in_X2 tyX2_ok rfl (fun j hj => by match j, hj with | 0, _ => rfl | 1, _ => rfl | 2, _ => rfl | 3, _ => rfl | 4, _ => rfl | 5, _ => rfl | 6, _ => rfl | 7, _ => rfl | 8, _ => rfl | 9, _ => rfl | j + 10, h => exact absurd h (by omega)) ⟨Nat.le_of_ble_eq_true rfl, Nat.le_of_ble_eq_true rfl⟩ rfl (fun q5 => ?_)
  refine hy_dup (n := 43) hC dX1_init_42 rfl rfl ?_
  refine hy_ctorN (As := []) (t1 := ((([(h0, .inr (1, [.ref q1, .int 0, .int 0]))] ++ [(q1, .inl (cA 3, 8, .inr (.inr (.inr (.inr (va_up (va_up (va_up (fun _ => none) 0 (some (a1 0 0))) 1 (some (a2 0 0))) 2 (some (a3 0 0))))))))]) ++ WLX2 a1 adV cA) ++ WLX2 a2 adV cA) ++ WLX2 a3 adV cA) (n := 46) hC (c_X2_init l) ki_X2_init wd_1_143 dX1_init_43 rfl rfl rfl (Nat.le_of_ble_eq_true rfl) ⟨Nat.le_of_ble_eq_true rfl, Nat.le_of_ble_eq_true rfl⟩ ⟨Nat.le_of_ble_eq_true rfl, Nat.le_of_ble_eq_true rfl⟩ rfl (fun a4 ha4 => ?_)
  subst ha4
  refine hy_aast (i0 := 1) (k0 := 35) (i := (3 : Int32)) (t' := (((([(h0, .inr (1, [.ref q1, .int 0, .int 0]))] ++ [(q1, .inl (cA 3, 8, .inr (.inr (.inr (.inr (va_up (va_up (va_up (va_up (fun _ => none) 0 (some (a1 0 0))) 1 (some (a2 0 0))) 2 (some (a3 0 0))) 3 (some (a4 0 0))))))))]) ++ WLX2 a1 adV cA) ++ WLX2 a2 adV cA) ++ WLX2 a3 adV cA) ++ WLX2 a4 adV cA) (n := 47) hC dX1_init_46 rfl rfl (by show ¬ _; decide +kernel) rfl rfl ?_
  refine hy_iinc (a := 0) (v := (4 : Int32)) (L' := [(1, .int 4), (0, .ref h0)]) (n := 50) hC dX1_init_47 rfl (by decide +kernel) (by decide) rfl rfl ?_
  refine hy_goto (n := 25) hC dX1_init_50 (by decide) ?_
  refine hy_iload_n (a := 0) (n := 26) hC dX1_init_25 rfl rfl rfl ?_
  refine hy_aload_n (a := 1) (n := 27) hC dX1_init_26 rfl rfl rfl ?_
  refine hy_get (T := TX1) (i := 0) (k := 0) (n := 30) hC dX1_init_27 rfl in_X1 rfl (by decide) wd_1_144 rfl rfl rfl ?_
  refine hy_alen (i := 1) (j := 3) (v := (8 : Int32)) (n := 31) hC dX1_init_30 rfl (by decide) rfl rfl ?_
  refine hy_ge_f (tgt := 53) (n := 34) hC dX1_init_31 (by decide) (by decide +kernel) rfl ?_
  refine hy_aload_n (a := 1) (n := 35) hC dX1_init_34 rfl rfl rfl ?_
  refine hy_get (T := TX1) (i := 0) (k := 0) (n := 38) hC dX1_init_35 rfl in_X1 rfl (by decide) wd_1_144 rfl rfl rfl ?_
  refine hy_iload_n (a := 0) (n := 39) hC dX1_init_38 rfl rfl rfl ?_
  refine hy_new (ci := 2) (C := RX2) (T := TX2) (ty := tyX2) (N := 10) (fs := [.int 0, .int 0, .int 0, .null, .null, .null, .null, .null, .null, .null]) (n := 42) hC dX1_init_39 wd_1_141 wd_1_36 wd_1_2 in_X2 tyX2_ok rfl (fun j hj => by match j, hj with | 0, _ => rfl | 1, _ => rfl | 2, _ => rfl | 3, _ => rfl | 4, _ => rfl | 5, _ => rfl | 6, _ => rfl | 7, _ => rfl | 8, _ => rfl | 9, _ => rfl | j + 10, h => exact absurd h (by omega)) ⟨Nat.le_of_ble_eq_true rfl, Nat.le_of_ble_eq_true rfl⟩ rfl (fun q6 => ?_)
  refine hy_dup (n := 43) hC dX1_init_42 rfl rfl ?_
  refine hy_ctorN (As := []) (t1 := (((([(h0, .inr (1, [.ref q1, .int 0, .int 0]))] ++ [(q1, .inl (cA 3, 8, .inr (.inr (.inr (.inr (va_up (va_up (va_up (va_up (fun _ => none) 0 (some (a1 0 0))) 1 (some (a2 0 0))) 2 (some (a3 0 0))) 3 (some (a4 0 0))))))))]) ++ WLX2 a1 adV cA) ++ WLX2 a2 adV cA) ++ WLX2 a3 adV cA) ++ WLX2 a4 adV cA) (n := 46) hC (c_X2_init l) ki_X2_init wd_1_143 dX1_init_43 rfl rfl rfl (Nat.le_of_ble_eq_true rfl) ⟨Nat.le_of_ble_eq_true rfl, Nat.le_of_ble_eq_true rfl⟩ ⟨Nat.le_of_ble_eq_true rfl, Nat.le_of_ble_eq_true rfl⟩ rfl (fun a5 ha5 => ?_)
  subst ha5
  refine hy_aast (i0 := 1) (k0 := 46) (i := (4 : Int32)) (t' := ((((([(h0, .inr (1, [.ref q1, .int 0, .int 0]))] ++ [(q1, .inl (cA 3, 8, .inr (.inr (.inr (.inr (va_up (va_up (va_up (va_up (va_up (fun _ => none) 0 (some (a1 0 0))) 1 (some (a2 0 0))) 2 (some (a3 0 0))) 3 (some (a4 0 0))) 4 (some (a5 0 0))))))))]) ++ WLX2 a1 adV cA) ++ WLX2 a2 adV cA) ++ WLX2 a3 adV cA) ++ WLX2 a4 adV cA) ++ WLX2 a5 adV cA) (n := 47) hC dX1_init_46 rfl rfl (by show ¬ _; decide +kernel) rfl rfl ?_
  refine hy_iinc (a := 0) (v := (5 : Int32)) (L' := [(1, .int 5), (0, .ref h0)]) (n := 50) hC dX1_init_47 rfl (by decide +kernel) (by decide) rfl rfl ?_
  refine hy_goto (n := 25) hC dX1_init_50 (by decide) ?_
  refine hy_iload_n (a := 0) (n := 26) hC dX1_init_25 rfl rfl rfl ?_
  refine hy_aload_n (a := 1) (n := 27) hC dX1_init_26 rfl rfl rfl ?_
  refine hy_get (T := TX1) (i := 0) (k := 0) (n := 30) hC dX1_init_27 rfl in_X1 rfl (by decide) wd_1_144 rfl rfl rfl ?_
  refine hy_alen (i := 1) (j := 3) (v := (8 : Int32)) (n := 31) hC dX1_init_30 rfl (by decide) rfl rfl ?_
  refine hy_ge_f (tgt := 53) (n := 34) hC dX1_init_31 (by decide) (by decide +kernel) rfl ?_
  refine hy_aload_n (a := 1) (n := 35) hC dX1_init_34 rfl rfl rfl ?_
  refine hy_get (T := TX1) (i := 0) (k := 0) (n := 38) hC dX1_init_35 rfl in_X1 rfl (by decide) wd_1_144 rfl rfl rfl ?_
  refine hy_iload_n (a := 0) (n := 39) hC dX1_init_38 rfl rfl rfl ?_
  refine hy_new (ci := 2) (C := RX2) (T := TX2) (ty := tyX2) (N := 10) (fs := [.int 0, .int 0, .int 0, .null, .null, .null, .null, .null, .null, .null]) (n := 42) hC dX1_init_39 wd_1_141 wd_1_36 wd_1_2 in_X2 tyX2_ok rfl (fun j hj => by match j, hj with | 0, _ => rfl | 1, _ => rfl | 2, _ => rfl | 3, _ => rfl | 4, _ => rfl | 5, _ => rfl | 6, _ => rfl | 7, _ => rfl | 8, _ => rfl | 9, _ => rfl | j + 10, h => exact absurd h (by omega)) ⟨Nat.le_of_ble_eq_true rfl, Nat.le_of_ble_eq_true rfl⟩ rfl (fun q7 => ?_)
  refine hy_dup (n := 43) hC dX1_init_42 rfl rfl ?_
  refine hy_ctorN (As := []) (t1 := ((((([(h0, .inr (1, [.ref q1, .int 0, .int 0]))] ++ [(q1, .inl (cA 3, 8, .inr (.inr (.inr (.inr (va_up (va_up (va_up (va_up (va_up (fun _ => none) 0 (some (a1 0 0))) 1 (some (a2 0 0))) 2 (some (a3 0 0))) 3 (some (a4 0 0))) 4 (some (a5 0 0))))))))]) ++ WLX2 a1 adV cA) ++ WLX2 a2 adV cA) ++ WLX2 a3 adV cA) ++ WLX2 a4 adV cA) ++ WLX2 a5 adV cA) (n := 46) hC (c_X2_init l) ki_X2_init wd_1_143 dX1_init_43 rfl rfl rfl (Nat.le_of_ble_eq_true rfl) ⟨Nat.le_of_ble_eq_true rfl, Nat.le_of_ble_eq_true rfl⟩ ⟨Nat.le_of_ble_eq_true rfl, Nat.le_of_ble_eq_true rfl⟩ rfl (fun a6 ha6 => ?_)
  subst ha6
  refine hy_aast (i0 := 1) (k0 := 57) (i := (5 : Int32)) (t' := (((((([(h0, .inr (1, [.ref q1, .int 0, .int 0]))] ++ [(q1, .inl (cA 3, 8, .inr (.inr (.inr (.inr (va_up (va_up (va_up (va_up (va_up (va_up (fun _ => none) 0 (some (a1 0 0))) 1 (some (a2 0 0))) 2 (some (a3 0 0))) 3 (some (a4 0 0))) 4 (some (a5 0 0))) 5 (some (a6 0 0))))))))]) ++ WLX2 a1 adV cA) ++ WLX2 a2 adV cA) ++ WLX2 a3 adV cA) ++ WLX2 a4 adV cA) ++ WLX2 a5 adV cA) ++ WLX2 a6 adV cA) (n := 47) hC dX1_init_46 rfl rfl (by show ¬ _; decide +kernel) rfl rfl ?_
  refine hy_iinc (a := 0) (v := (6 : Int32)) (L' := [(1, .int 6), (0, .ref h0)]) (n := 50) hC dX1_init_47 rfl (by decide +kernel) (by decide) rfl rfl ?_
  refine hy_goto (n := 25) hC dX1_init_50 (by decide) ?_
  refine hy_iload_n (a := 0) (n := 26) hC dX1_init_25 rfl rfl rfl ?_
  refine hy_aload_n (a := 1) (n := 27) hC dX1_init_26 rfl rfl rfl ?_
  refine hy_get (T := TX1) (i := 0) (k := 0) (n := 30) hC dX1_init_27 rfl in_X1 rfl (by decide) wd_1_144 rfl rfl rfl ?_
  refine hy_alen (i := 1) (j := 3) (v := (8 : Int32)) (n := 31) hC dX1_init_30 rfl (by decide) rfl rfl ?_
  refine hy_ge_f (tgt := 53) (n := 34) hC dX1_init_31 (by decide) (by decide +kernel) rfl ?_
  refine hy_aload_n (a := 1) (n := 35) hC dX1_init_34 rfl rfl rfl ?_
  refine hy_get (T := TX1) (i := 0) (k := 0) (n := 38) hC dX1_init_35 rfl in_X1 rfl (by decide) wd_1_144 rfl rfl rfl ?_
  refine hy_iload_n (a := 0) (n := 39) hC dX1_init_38 rfl rfl rfl ?_
  refine hy_new (ci := 2) (C := RX2) (T := TX2) (ty := tyX2) (N := 10) (fs := [.int 0, .int 0, .int 0, .null, .null, .null, .null, .null, .null, .null]) (n := 42) hC dX1_init_39 wd_1_141 wd_1_36 wd_1_2 in_X2 tyX2_ok rfl (fun j hj => by match j, hj with | 0, _ => rfl | 1, _ => rfl | 2, _ => rfl | 3, _ => rfl | 4, _ => rfl | 5, _ => rfl | 6, _ => rfl | 7, _ => rfl | 8, _ => rfl | 9, _ => rfl | j + 10, h => exact absurd h (by omega)) ⟨Nat.le_of_ble_eq_true rfl, Nat.le_of_ble_eq_true rfl⟩ rfl (fun q8 => ?_)
  refine hy_dup (n := 43) hC dX1_init_42 rfl rfl ?_
  refine hy_ctorN (As := []) (t1 := (((((([(h0, .inr (1, [.ref q1, .int 0, .int 0]))] ++ [(q1, .inl (cA 3, 8, .inr (.inr (.inr (.inr (va_up (va_up (va_up (va_up (va_up (va_up (fun _ => none) 0 (some (a1 0 0))) 1 (some (a2 0 0))) 2 (some (a3 0 0))) 3 (some (a4 0 0))) 4 (some (a5 0 0))) 5 (some (a6 0 0))))))))]) ++ WLX2 a1 adV cA) ++ WLX2 a2 adV cA) ++ WLX2 a3 adV cA) ++ WLX2 a4 adV cA) ++ WLX2 a5 adV cA) ++ WLX2 a6 adV cA) (n := 46) hC (c_X2_init l) ki_X2_init wd_1_143 dX1_init_43 rfl rfl rfl (Nat.le_of_ble_eq_true rfl) ⟨Nat.le_of_ble_eq_true rfl, Nat.le_of_ble_eq_true rfl⟩ ⟨Nat.le_of_ble_eq_true rfl, Nat.le_of_ble_eq_true rfl⟩ rfl (fun a7 ha7 => ?_)
  subst ha7
  refine hy_aast (i0 := 1) (k0 := 68) (i := (6 : Int32)) (t' := ((((((([(h0, .inr (1, [.ref q1, .int 0, .int 0]))] ++ [(q1, .inl (cA 3, 8, .inr (.inr (.inr (.inr (va_up (va_up (va_up (va_up (va_up (va_up (va_up (fun _ => none) 0 (some (a1 0 0))) 1 (some (a2 0 0))) 2 (some (a3 0 0))) 3 (some (a4 0 0))) 4 (some (a5 0 0))) 5 (some (a6 0 0))) 6 (some (a7 0 0))))))))]) ++ WLX2 a1 adV cA) ++ WLX2 a2 adV cA) ++ WLX2 a3 adV cA) ++ WLX2 a4 adV cA) ++ WLX2 a5 adV cA) ++ WLX2 a6 adV cA) ++ WLX2 a7 adV cA) (n := 47) hC dX1_init_46 rfl rfl (by show ¬ _; decide +kernel) rfl rfl ?_
  refine hy_iinc (a := 0) (v := (7 : Int32)) (L' := [(1, .int 7), (0, .ref h0)]) (n := 50) hC dX1_init_47 rfl (by decide +kernel) (by decide) rfl rfl ?_
  refine hy_goto (n := 25) hC dX1_init_50 (by decide) ?_
  refine hy_iload_n (a := 0) (n := 26) hC dX1_init_25 rfl rfl rfl ?_
  refine hy_aload_n (a := 1) (n := 27) hC dX1_init_26 rfl rfl rfl ?_
  refine hy_get (T := TX1) (i := 0) (k := 0) (n := 30) hC dX1_init_27 rfl in_X1 rfl (by decide) wd_1_144 rfl rfl rfl ?_
  refine hy_alen (i := 1) (j := 3) (v := (8 : Int32)) (n := 31) hC dX1_init_30 rfl (by decide) rfl rfl ?_
  refine hy_ge_f (tgt := 53) (n := 34) hC dX1_init_31 (by decide) (by decide +kernel) rfl ?_
  refine hy_aload_n (a := 1) (n := 35) hC dX1_init_34 rfl rfl rfl ?_
  refine hy_get (T := TX1) (i := 0) (k := 0) (n := 38) hC dX1_init_35 rfl in_X1 rfl (by decide) wd_1_144 rfl rfl rfl ?_
  refine hy_iload_n (a := 0) (n := 39) hC dX1_init_38 rfl rfl rfl ?_
  refine hy_new (ci := 2) (C := RX2) (T := TX2) (ty := tyX2) (N := 10) (fs := [.int 0, .int 0, .int 0, .null, .null, .null, .null, .null, .null, .null]) (n := 42) hC dX1_init_39 wd_1_141 wd_1_36 wd_1_2 in_X2 tyX2_ok rfl (fun j hj => by match j, hj with | 0, _ => rfl | 1, _ => rfl | 2, _ => rfl | 3, _ => rfl | 4, _ => rfl | 5, _ => rfl | 6, _ => rfl | 7, _ => rfl | 8, _ => rfl | 9, _ => rfl | j + 10, h => exact absurd h (by omega)) ⟨Nat.le_of_ble_eq_true rfl, Nat.le_of_ble_eq_true rfl⟩ rfl (fun q9 => ?_)
  refine hy_dup (n := 43) hC dX1_init_42 rfl rfl ?_
  refine hy_ctorN (As := []) (t1 := ((((((([(h0, .inr (1, [.ref q1, .int 0, .int 0]))] ++ [(q1, .inl (cA 3, 8, .inr (.inr (.inr (.inr (va_up (va_up (va_up (va_up (va_up (va_up (va_up (fun _ => none) 0 (some (a1 0 0))) 1 (some (a2 0 0))) 2 (some (a3 0 0))) 3 (some (a4 0 0))) 4 (some (a5 0 0))) 5 (some (a6 0 0))) 6 (some (a7 0 0))))))))]) ++ WLX2 a1 adV cA) ++ WLX2 a2 adV cA) ++ WLX2 a3 adV cA) ++ WLX2 a4 adV cA) ++ WLX2 a5 adV cA) ++ WLX2 a6 adV cA) ++ WLX2 a7 adV cA) (n := 46) hC (c_X2_init l) ki_X2_init wd_1_143 dX1_init_43 rfl rfl rfl (Nat.le_of_ble_eq_true rfl) ⟨Nat.le_of_ble_eq_true rfl, Nat.le_of_ble_eq_true rfl⟩ ⟨Nat.le_of_ble_eq_true rfl, Nat.le_of_ble_eq_true rfl⟩ rfl (fun a8 ha8 => ?_)
  subst ha8
  refine hy_aast (i0 := 1) (k0 := 79) (i := (7 : Int32)) (t' := (((((((([(h0, .inr (1, [.ref q1, .int 0, .int 0]))] ++ [(q1, .inl (cA 3, 8, .inr (.inr (.inr (.inr (va_up (va_up (va_up (va_up (va_up (va_up (va_up (va_up (fun _ => none) 0 (some (a1 0 0))) 1 (some (a2 0 0))) 2 (some (a3 0 0))) 3 (some (a4 0 0))) 4 (some (a5 0 0))) 5 (some (a6 0 0))) 6 (some (a7 0 0))) 7 (some (a8 0 0))))))))]) ++ WLX2 a1 adV cA) ++ WLX2 a2 adV cA) ++ WLX2 a3 adV cA) ++ WLX2 a4 adV cA) ++ WLX2 a5 adV cA) ++ WLX2 a6 adV cA) ++ WLX2 a7 adV cA) ++ WLX2 a8 adV cA) (n := 47) hC dX1_init_46 rfl rfl (by show ¬ _; decide +kernel) rfl rfl ?_
  refine hy_iinc (a := 0) (v := (8 : Int32)) (L' := [(1, .int 8), (0, .ref h0)]) (n := 50) hC dX1_init_47 rfl (by decide +kernel) (by decide) rfl rfl ?_
  refine hy_goto (n := 25) hC dX1_init_50 (by decide) ?_
  refine hy_iload_n (a := 0) (n := 26) hC dX1_init_25 rfl rfl rfl ?_
  refine hy_aload_n (a := 1) (n := 27) hC dX1_init_26 rfl rfl rfl ?_
  refine hy_get (T := TX1) (i := 0) (k := 0) (n := 30) hC dX1_init_27 rfl in_X1 rfl (by decide) wd_1_144 rfl rfl rfl ?_
  refine hy_alen (i := 1) (j := 3) (v := (8 : Int32)) (n := 31) hC dX1_init_30 rfl (by decide) rfl rfl ?_
  refine hy_ge_t (n := 53) hC dX1_init_31 (by decide) (by decide +kernel) ?_
  exact hy_ret hC hr dX1_init_53 (fun g j => match g with | 0 => (match j with | 0 => h0 | _ => q1) | 2 => a1 0 j | 3 => a2 0 j | 4 => a3 0 j | 5 => a4 0 j | 6 => a5 0 j | 7 => a6 0 j | 8 => a7 0 j | _ => a8 0 j) rfl rfl ⟨Nat.le_of_ble_eq_true rfl, Nat.le_of_ble_eq_true rfl⟩
