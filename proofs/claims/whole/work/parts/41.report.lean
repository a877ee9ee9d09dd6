def F_X8_writeState (a0 : Int32) (M : hp_M) : Option (Unit × hp_M) := (hp_b (F_X2_get 0 a0 (2 : Int32) M) (fun r1 M1 => (if r1 = (0 : Int32) then (hp_b (F_J4_append_cf468 (46 : Int32) M1) (fun _ M2 => (some ((), M2)))) else (if r1 = (1 : Int32) then (hp_b (F_J4_append_cf468 (60 : Int32) M1) (fun _ M3 => (hp_b (F_X2_get 0 a0 (3 : Int32) M3) (fun r4 M4 => (hp_b (F_J4_append_bf812 r4 M4) (fun _ M5 => (some ((), M5)))))))) else (if r1 = (2 : Int32) then (hp_b (F_J4_append_cf468 (35 : Int32) M1) (fun _ M6 => (hp_b (F_X4_placeOf 0 a0 M6) (fun r7 M7 => (hp_b (F_J4_append_bf812 r7 M7) (fun _ M8 => (some ((), M8)))))))) else (hp_b (F_J4_append_cf468 (33 : Int32) M1) (fun _ M9 => (hp_b (F_J4_append_bf812 (M9 0 5 3) M9) (fun _ M10 => (some ((), M10)))))))))))
set_option maxRecDepth 20000 in
set_option maxHeartbeats 4000000 in
theorem c_X8_writeState (l : Launch) (a0 : Int32)  (M : hp_M) : hp_CtG l yX8_writeState cX8_writeState 2 none 6 2 hp_IB (fun adr adV => [.ref (adr 12 0), .int a0]) hp_oo M (F_X8_writeState a0 M) := by
  refine hp_startG "HallPhone" (fun adr adV => [(0, .ref (adr 12 0)), (1, .int a0)]) (by decide) rfl (fun _ _ => by simp only [lg_sl]; exact Nat.le_of_ble_eq_true rfl) (fun _ _ => rfl) ?_
  intro p e s m args below meth c A D ids adr adV cA G0 hIB hC hr
  have hI := hIB.1
  unfold F_X8_writeState
  refine hz_aload_n (a := 0) (n := 1) hC dX8_writeState_0 rfl rfl rfl ?_
  refine fg_X8_10 (n := 4) hC hI dX8_writeState_1 rfl ?_
  refine hz_iload_n (a := 1) (n := 5) hC dX8_writeState_4 rfl rfl rfl ?_
  refine hz_iconst (v := (2 : Int32)) (n := 6) hC dX8_writeState_5 (by decide +kernel) rfl ?_
  refine hz_callVN (k := 2) (As := [.int a0, .int (2 : Int32)]) (st := []) (S1 := fun r => .int r :: []) (n := 9) hC (c_X2_get l 0 a0 (2 : Int32) (by decide)  M) kv_X2_get wd_5_11 hI dX8_writeState_6 rfl (hI.1 0 0 (by decide) (by decide)) (he_X2 (by decide)) rfl rfl rfl (Nat.le_of_ble_eq_true rfl) ⟨Nat.le_of_ble_eq_true rfl, Nat.le_of_ble_eq_true rfl⟩ ⟨Nat.le_of_ble_eq_true rfl, Nat.le_of_ble_eq_true rfl⟩ (fun _ => rfl) rfl (fun r1 M1 _ => ?_)
  refine hz_case (fun hk0 => ?_) (fun hk0 => ?_)
  · refine hz_tabIn (n := 36) hC hk0 dX8_writeState_9 (by decide +kernel) (by decide +kernel) (by rfl) (by decide +kernel) ?_
    refine hz_aload_n (a := 0) (n := 37) hC dX8_writeState_36 rfl rfl rfl ?_
    refine fg_X8_53 (n := 40) hC hI dX8_writeState_37 rfl ?_
    refine hz_bipush (v := (46 : Int32)) (n := 42) hC dX8_writeState_40 (by decide +kernel) rfl ?_
    refine hz_callVG (k := 1) (As := [.int (46 : Int32)]) (st := []) (S1 := fun adr2 _ => .ref (adr2 14 0) :: []) (LF := fun adr2 => [(0, .ref (adr2 12 0)), (1, .int a0)]) (n := 45) hC (c_J4_append_cf468 l (46 : Int32)   M1) kv_J4_append_cf468 wd_4_233 hIB.2 dX8_writeState_42 rfl hIB.2.1 he_J4 rfl rfl rfl (Nat.le_of_ble_eq_true rfl) ⟨Nat.le_of_ble_eq_true rfl, Nat.le_of_ble_eq_true rfl⟩ ⟨Nat.le_of_ble_eq_true rfl, Nat.le_of_ble_eq_true rfl⟩ (fun a h => by first | rfl | simp only [h 12 0 (by decide), h 14 0 (by decide)] | simp only [h 12 0 (by decide)] | simp only [h 14 0 (by decide)]) (fun a r h => by first | rfl | simp only [h 12 0 (by decide), h 14 0 (by decide)] | simp only [h 12 0 (by decide)] | simp only [h 14 0 (by decide)]) rfl (fun r2 M2 adr2 _ hs2 => ?_)
    refine hz_pop (n := 46) hC dX8_writeState_45 rfl rfl ?_
    refine hz_goto (n := 124) hC dX8_writeState_46 (by decide) ?_
    exact hz_vretG hC (hp_sim.tr hp_sim.rf hs2) hr dX8_writeState_124 ⟨Nat.le_of_ble_eq_true rfl, Nat.le_of_ble_eq_true rfl⟩
  refine hz_case (fun hk1 => ?_) (fun hk1 => ?_)
  · refine hz_tabIn (n := 49) hC hk1 dX8_writeState_9 (by decide +kernel) (by decide +kernel) (by rfl) (by decide +kernel) ?_
    refine hz_aload_n (a := 0) (n := 50) hC dX8_writeState_49 rfl rfl rfl ?_
    refine fg_X8_53 (n := 53) hC hI dX8_writeState_50 rfl ?_
    refine hz_bipush (v := (60 : Int32)) (n := 55) hC dX8_writeState_53 (by decide +kernel) rfl ?_
    refine hz_callVG (k := 1) (As := [.int (60 : Int32)]) (st := []) (S1 := fun adr3 _ => .ref (adr3 14 0) :: []) (LF := fun adr3 => [(0, .ref (adr3 12 0)), (1, .int a0)]) (n := 58) hC (c_J4_append_cf468 l (60 : Int32)   M1) kv_J4_append_cf468 wd_4_233 hIB.2 dX8_writeState_55 rfl hIB.2.1 he_J4 rfl rfl rfl (Nat.le_of_ble_eq_true rfl) ⟨Nat.le_of_ble_eq_true rfl, Nat.le_of_ble_eq_true rfl⟩ ⟨Nat.le_of_ble_eq_true rfl, Nat.le_of_ble_eq_true rfl⟩ (fun a h => by first | rfl | simp only [h 12 0 (by decide), h 14 0 (by decide)] | simp only [h 12 0 (by decide)] | simp only [h 14 0 (by decide)]) (fun a r h => by first | rfl | simp only [h 12 0 (by decide), h 14 0 (by decide)] | simp only [h 12 0 (by decide)] | simp only [h 14 0 (by decide)]) rfl (fun r3 M3 adr3 _ hs3 => ?_)
    refine hz_aload_n (a := 0) (n := 59) hC dX8_writeState_58 rfl rfl rfl ?_
    refine fg_X8_10 (n := 62) hC hI dX8_writeState_59 rfl ?_
    refine hz_iload_n (a := 1) (n := 63) hC dX8_writeState_62 rfl rfl rfl ?_
    refine hz_iconst (v := (3 : Int32)) (n := 64) hC dX8_writeState_63 (by decide +kernel) rfl ?_
    refine hz_callVN (k := 2) (As := [.int a0, .int (3 : Int32)]) (st := [.ref (adr3 14 0)]) (S1 := fun r => .int r :: [.ref (adr3 14 0)]) (n := 67) hC (c_X2_get l 0 a0 (3 : Int32) (by decide)  M3) kv_X2_get wd_5_11 hI dX8_writeState_64 rfl (hI.1 0 0 (by decide) (by decide)) (he_X2 (by decide)) rfl rfl rfl (Nat.le_of_ble_eq_true rfl) ⟨Nat.le_of_ble_eq_true rfl, Nat.le_of_ble_eq_true rfl⟩ ⟨Nat.le_of_ble_eq_true rfl, Nat.le_of_ble_eq_true rfl⟩ (fun _ => rfl) rfl (fun r4 M4 _ => ?_)
    refine hz_callVG (k := 1) (As := [.int r4]) (st := []) (S1 := fun adr5 _ => .ref (adr5 14 0) :: []) (LF := fun adr5 => [(0, .ref (adr5 12 0)), (1, .int a0)]) (n := 70) hC (c_J4_append_bf812 l r4   M4) kv_J4_append_bf812 wd_5_6 hIB.2 dX8_writeState_67 rfl hIB.2.1 he_J4 rfl rfl rfl (Nat.le_of_ble_eq_true rfl) ⟨Nat.le_of_ble_eq_true rfl, Nat.le_of_ble_eq_true rfl⟩ ⟨Nat.le_of_ble_eq_true rfl, Nat.le_of_ble_eq_true rfl⟩ (fun a h => by first | rfl | simp only [h 12 0 (by decide), h 14 0 (by decide)] | simp only [h 12 0 (by decide)] | simp only [h 14 0 (by decide)]) (fun a r h => by first | rfl | simp only [h 12 0 (by decide), h 14 0 (by decide)] | simp only [h 12 0 (by decide)] | simp only [h 14 0 (by decide)]) rfl (fun r5 M5 adr5 _ hs5 => ?_)
    refine hz_pop (n := 71) hC dX8_writeState_70 rfl rfl ?_
    refine hz_goto (n := 124) hC dX8_writeState_71 (by decide) ?_
    exact hz_vretG hC (hp_sim.tr (hp_sim.tr hp_sim.rf hs3) hs5) hr dX8_writeState_124 ⟨Nat.le_of_ble_eq_true rfl, Nat.le_of_ble_eq_true rfl⟩
  refine hz_case (fun hk2 => ?_) (fun hk2 => ?_)
  · refine hz_tabIn (n := 74) hC hk2 dX8_writeState_9 (by decide +kernel) (by decide +kernel) (by rfl) (by decide +kernel) ?_
    refine hz_aload_n (a := 0) (n := 75) hC dX8_writeState_74 rfl rfl rfl ?_
    refine fg_X8_53 (n := 78) hC hI dX8_writeState_75 rfl ?_
    refine hz_bipush (v := (35 : Int32)) (n := 80) hC dX8_writeState_78 (by decide +kernel) rfl ?_
    refine hz_callVG (k := 1) (As := [.int (35 : Int32)]) (st := []) (S1 := fun adr6 _ => .ref (adr6 14 0) :: []) (LF := fun adr6 => [(0, .ref (adr6 12 0)), (1, .int a0)]) (n := 83) hC (c_J4_append_cf468 l (35 : Int32)   M1) kv_J4_append_cf468 wd_4_233 hIB.2 dX8_writeState_80 rfl hIB.2.1 he_J4 rfl rfl rfl (Nat.le_of_ble_eq_true rfl) ⟨Nat.le_of_ble_eq_true rfl, Nat.le_of_ble_eq_true rfl⟩ ⟨Nat.le_of_ble_eq_true rfl, Nat.le_of_ble_eq_true rfl⟩ (fun a h => by first | rfl | simp only [h 12 0 (by decide), h 14 0 (by decide)] | simp only [h 12 0 (by decide)] | simp only [h 14 0 (by decide)]) (fun a r h => by first | rfl | simp only [h 12 0 (by decide), h 14 0 (by decide)] | simp only [h 12 0 (by decide)] | simp only [h 14 0 (by decide)]) rfl (fun r6 M6 adr6 _ hs6 => ?_)
    refine hz_aload_n (a := 0) (n := 84) hC dX8_writeState_83 rfl rfl rfl ?_
    refine fg_X8_10 (n := 87) hC hI dX8_writeState_84 rfl ?_
    refine fg_X8_103 (n := 90) hC (by decide) hI dX8_writeState_87 rfl ?_
    refine hz_iload_n (a := 1) (n := 91) hC dX8_writeState_90 rfl rfl rfl ?_
    refine hz_callVN (k := 1) (As := [.int a0]) (st := [.ref (adr6 14 0)]) (S1 := fun r => .int r :: [.ref (adr6 14 0)]) (n := 94) hC (c_X4_placeOf l 0 a0 (by decide)  M6) kv_X4_placeOf wd_5_12 hI dX8_writeState_91 rfl (hI.1 0 6 (by decide) (by decide)) (he_X4 (by decide)) rfl rfl rfl (Nat.le_of_ble_eq_true rfl) ⟨Nat.le_of_ble_eq_true rfl, Nat.le_of_ble_eq_true rfl⟩ ⟨Nat.le_of_ble_eq_true rfl, Nat.le_of_ble_eq_true rfl⟩ (fun _ => rfl) rfl (fun r7 M7 _ => ?_)
    refine hz_callVG (k := 1) (As := [.int r7]) (st := []) (S1 := fun adr8 _ => .ref (adr8 14 0) :: []) (LF := fun adr8 => [(0, .ref (adr8 12 0)), (1, .int a0)]) (n := 97) hC (c_J4_append_bf812 l r7   M7) kv_J4_append_bf812 wd_5_6 hIB.2 dX8_writeState_94 rfl hIB.2.1 he_J4 rfl rfl rfl (Nat.le_of_ble_eq_true rfl) ⟨Nat.le_of_ble_eq_true rfl, Nat.le_of_ble_eq_true rfl⟩ ⟨Nat.le_of_ble_eq_true rfl, Nat.le_of_ble_eq_true rfl⟩ (fun a h => by first | rfl | simp only [h 12 0 (by decide), h 14 0 (by decide)] | simp only [h 12 0 (by decide)] | simp only [h 14 0 (by decide)]) (fun a r h => by first | rfl | simp only [h 12 0 (by decide), h 14 0 (by decide)] | simp only [h 12 0 (by decide)] | simp only [h 14 0 (by decide)]) rfl (fun r8 M8 adr8 _ hs8 => ?_)
    refine hz_pop (n := 98) hC dX8_writeState_97 rfl rfl ?_
    refine hz_goto (n := 124) hC dX8_writeState_98 (by decide) ?_
    exact hz_vretG hC (hp_sim.tr (hp_sim.tr hp_sim.rf hs6) hs8) hr dX8_writeState_124 ⟨Nat.le_of_ble_eq_true rfl, Nat.le_of_ble_eq_true rfl⟩
  refine hz_tabOut (n := 101) hC (hp_out 3 (by decide) (fun k hk => by
    rcases (show k = 0 ∨ k = 1 ∨ k = 2 by omega) with rfl | rfl | rfl
    · exact fun e => hk0 (Int32.toInt_inj.mp (e.trans (by decide +kernel)))
    · exact fun e => hk1 (Int32.toInt_inj.mp (e.trans (by decide +kernel)))
    · exact fun e => hk2 (Int32.toInt_inj.mp (e.trans (by decide +kernel)))
    )) dX8_writeState_9 (by decide +kernel) ?_
  refine hz_aload_n (a := 0) (n := 102) hC dX8_writeState_101 rfl rfl rfl ?_
  refine fg_X8_53 (n := 105) hC hI dX8_writeState_102 rfl ?_
  refine hz_bipush (v := (33 : Int32)) (n := 107) hC dX8_writeState_105 (by decide +kernel) rfl ?_
  refine hz_callVG (k := 1) (As := [.int (33 : Int32)]) (st := []) (S1 := fun adr9 _ => .ref (adr9 14 0) :: []) (LF := fun adr9 => [(0, .ref (adr9 12 0)), (1, .int a0)]) (n := 110) hC (c_J4_append_cf468 l (33 : Int32)   M1) kv_J4_append_cf468 wd_4_233 hIB.2 dX8_writeState_107 rfl hIB.2.1 he_J4 rfl rfl rfl (Nat.le_of_ble_eq_true rfl) ⟨Nat.le_of_ble_eq_true rfl, Nat.le_of_ble_eq_true rfl⟩ ⟨Nat.le_of_ble_eq_true rfl, Nat.le_of_ble_eq_true rfl⟩ (fun a h => by first | rfl | simp only [h 12 0 (by decide), h 14 0 (by decide)] | simp only [h 12 0 (by decide)] | simp only [h 14 0 (by decide)]) (fun a r h => by first | rfl | simp only [h 12 0 (by decide), h 14 0 (by decide)] | simp only [h 12 0 (by decide)] | simp only [h 14 0 (by decide)]) rfl (fun r9 M9 adr9 _ hs9 => ?_)
  refine hz_aload_n (a := 0) (n := 111) hC dX8_writeState_110 rfl rfl rfl ?_
  refine fg_X8_10 (n := 114) hC hI dX8_writeState_111 rfl ?_
  refine fg_X8_327 (n := 117) hC (by decide) hI dX8_writeState_114 rfl ?_
  refine fg_X8_331 (n := 120) hC (by decide) hI dX8_writeState_117 rfl ?_
  refine hz_callVG (k := 1) (As := [.int (M9 0 5 3)]) (st := []) (S1 := fun adr10 _ => .ref (adr10 14 0) :: []) (LF := fun adr10 => [(0, .ref (adr10 12 0)), (1, .int a0)]) (n := 123) hC (c_J4_append_bf812 l (M9 0 5 3)   M9) kv_J4_append_bf812 wd_5_6 hIB.2 dX8_writeState_120 rfl hIB.2.1 he_J4 rfl rfl rfl (Nat.le_of_ble_eq_true rfl) ⟨Nat.le_of_ble_eq_true rfl, Nat.le_of_ble_eq_true rfl⟩ ⟨Nat.le_of_ble_eq_true rfl, Nat.le_of_ble_eq_true rfl⟩ (fun a h => by first | rfl | simp only [h 12 0 (by decide), h 14 0 (by decide)] | simp only [h 12 0 (by decide)] | simp only [h 14 0 (by decide)]) (fun a r h => by first | rfl | simp only [h 12 0 (by decide), h 14 0 (by decide)] | simp only [h 12 0 (by decide)] | simp only [h 14 0 (by decide)]) rfl (fun r10 M10 adr10 _ hs10 => ?_)
  refine hz_pop (n := 124) hC dX8_writeState_123 rfl rfl ?_
  exact hz_vretG hC (hp_sim.tr (hp_sim.tr hp_sim.rf hs9) hs10) hr dX8_writeState_124 ⟨Nat.le_of_ble_eq_true rfl, Nat.le_of_ble_eq_true rfl⟩
def L_X8_writeHouse_10    : Nat → Int32 → hp_M → Option (Int32 × hp_M)
  | 0, _, _ => none
  | n10 + 1, x1, M => (if (M 0 0 0) ≤ x1 then (hp_b (F_J4_length_8abf5 M) (fun r2 M2 => (some (r2, M2)))) else (if x1 ≤ 0 then (hp_b (F_J4_append_bf812 x1 M) (fun _ M3 => (hp_b (F_X8_writeState x1 M3) (fun _ M4 => (L_X8_writeHouse_10  n10 (x1 + (1 : Int32)) M4))))) else (hp_b (F_J4_append_cf468 (32 : Int32) M) (fun _ M5 => (hp_b (F_J4_append_bf812 x1 M5) (fun _ M6 => (hp_b (F_X8_writeState x1 M6) (fun _ M7 => (L_X8_writeHouse_10  n10 (x1 + (1 : Int32)) M7)))))))))
def F_X8_writeHouse  (M : hp_M) : Option (Int32 × hp_M) := (hp_b (F_J4_setLength_d00df (0 : Int32) M) (fun _ M1 => (L_X8_writeHouse_10 11 (0 : Int32) M1)))
set_option maxRecDepth 20000 in
set_option maxHeartbeats 4000000 in
theorem c_X8_writeHouse (l : Launch)   (M : hp_M) : hp_CtG l yX8_writeHouse cX8_writeHouse 2 (some .int) 7 45 hp_IB (fun adr adV => [.ref (adr 12 0)]) hp_oi M (F_X8_writeHouse  M) := by
  refine hp_startG "HallPhone" (fun adr adV => [(0, .ref (adr 12 0))]) (by decide) rfl (fun _ _ => by simp only [lg_sl]; exact Nat.le_of_ble_eq_true rfl) (fun _ _ => rfl) ?_
  intro p e s m args below meth c A D ids adr adV cA G0 hIB hC hr
  have hI := hIB.1
  unfold F_X8_writeHouse
  have l10 : ∀  (n10 : Nat), n10 ≤ 11 → ∀ (adrL10 : Nat → Nat → Nat), hp_sim adr adrL10 → ∀ (x1 : Int32) (M : hp_M), hp_Z p l e (hp_rmG 7 45) s m args below meth c 2 A D ids adrL10 adV cA (1 + 4 * (11 - n10)) (200 * (1 + 4 * (11 - n10))) (MQ below (hp_QG A D ids adr adV cA hp_oi G0) args s 45 (200 * 45) A) G0 none 10 [(0, .ref (adrL10 12 0)), (1, .int x1)] [] M (L_X8_writeHouse_10  n10 x1 M) := by
    intro  n10
    induction n10 with
    | zero => intro _ adrL10 hsL10 x1 M; exact hz_none hC
    | succ n10 ih10 =>
      intro hn10 adrL10 hsL10 x1 M
      rw [L_X8_writeHouse_10.eq_2]
      refine hz_iload_n (a := 1) (n := 11) hC dX8_writeHouse_10 rfl rfl rfl ?_
      refine hz_aload_n (a := 0) (n := 12) hC dX8_writeHouse_11 rfl rfl rfl ?_
      refine fg_X8_10 (n := 15) hC hI dX8_writeHouse_12 rfl ?_
      refine fg_X8_141 (n := 18) hC (by decide) hI dX8_writeHouse_15 rfl ?_
      refine hz_icmp_ge (tgt := 55) (n := 21) hC dX8_writeHouse_18 (by decide) rfl (fun _ => ?_) (fun _ => ?_)
      · refine hz_aload_n (a := 0) (n := 56) hC dX8_writeHouse_55 rfl rfl rfl ?_
        refine fg_X8_53 (n := 59) hC hI dX8_writeHouse_56 rfl ?_
        refine hz_callV (k := 0) (As := []) (st := []) (S1 := fun r => .int r :: []) (n := 62) hC (c_J4_length_8abf5 l    M) kv_J4_length_8abf5 wd_5_16 hIB.2 dX8_writeHouse_59 rfl hIB.2.1 he_J4 rfl rfl rfl (Nat.le_of_ble_eq_true rfl) ⟨Nat.le_of_ble_eq_true rfl, Nat.le_of_ble_eq_true rfl⟩ ⟨by (try simp only [hp_rmG]); omega, by (try simp only [hp_rmG]); omega⟩ (fun _ => rfl) rfl (fun r2 M2 _ => ?_)
        exact hz_iretG hC hsL10 hr dX8_writeHouse_62 ⟨by (try simp only [hp_rmG]); omega, by (try simp only [hp_rmG]); omega⟩
      · refine hz_iload_n (a := 1) (n := 22) hC dX8_writeHouse_21 rfl rfl rfl ?_
        refine hz_if_le (tgt := 35) (n := 25) hC dX8_writeHouse_22 (by decide) rfl (fun _ => ?_) (fun _ => ?_)
        · refine hz_aload_n (a := 0) (n := 36) hC dX8_writeHouse_35 rfl rfl rfl ?_
          refine fg_X8_53 (n := 39) hC hI dX8_writeHouse_36 rfl ?_
          refine hz_iload_n (a := 1) (n := 40) hC dX8_writeHouse_39 rfl rfl rfl ?_
          refine hz_callVG (k := 1) (As := [.int x1]) (st := []) (S1 := fun adr3 _ => .ref (adr3 14 0) :: []) (LF := fun adr3 => [(0, .ref (adr3 12 0)), (1, .int x1)]) (n := 43) hC (c_J4_append_bf812 l x1   M) kv_J4_append_bf812 wd_5_6 hIB.2 dX8_writeHouse_40 rfl hIB.2.1 he_J4 rfl rfl rfl (Nat.le_of_ble_eq_true rfl) ⟨Nat.le_of_ble_eq_true rfl, Nat.le_of_ble_eq_true rfl⟩ ⟨by (try simp only [hp_rmG]); omega, by (try simp only [hp_rmG]); omega⟩ (fun a h => by first | rfl | simp only [h 12 0 (by decide), h 14 0 (by decide)] | simp only [h 12 0 (by decide)] | simp only [h 14 0 (by decide)]) (fun a r h => by first | rfl | simp only [h 12 0 (by decide), h 14 0 (by decide)] | simp only [h 12 0 (by decide)] | simp only [h 14 0 (by decide)]) rfl (fun r3 M3 adr3 _ hs3 => ?_)
          refine hz_pop (n := 44) hC dX8_writeHouse_43 rfl rfl ?_
          refine hz_aload_n (a := 0) (n := 45) hC dX8_writeHouse_44 rfl rfl rfl ?_
          refine hz_iload_n (a := 1) (n := 46) hC dX8_writeHouse_45 rfl rfl rfl ?_
          refine hz_callVG (k := 1) (As := [.int x1]) (st := []) (S1 := fun adr4 _ => []) (LF := fun adr4 => [(0, .ref (adr4 12 0)), (1, .int x1)]) (n := 49) hC (c_X8_writeState l x1   M3) kv_X8_writeState wd_5_7 hIB dX8_writeHouse_46 rfl (hI.2 0 (by decide)) he_X8 rfl rfl rfl (Nat.le_of_ble_eq_true rfl) ⟨Nat.le_of_ble_eq_true rfl, Nat.le_of_ble_eq_true rfl⟩ ⟨by (try simp only [hp_rmG]); omega, by (try simp only [hp_rmG]); omega⟩ (fun a h => by first | rfl | simp only [h 12 0 (by decide), h 14 0 (by decide)] | simp only [h 12 0 (by decide)] | simp only [h 14 0 (by decide)]) (fun a r h => by first | rfl | simp only [h 12 0 (by decide), h 14 0 (by decide)] | simp only [h 12 0 (by decide)] | simp only [h 14 0 (by decide)]) rfl (fun r4 M4 adr4 _ hs4 => ?_)
          refine hz_iinc (a := 1) (v := (x1 + (1 : Int32))) (L' := [(1, .int (x1 + (1 : Int32))), (0, .ref (adr4 12 0))]) (n := 52) hC dX8_writeHouse_49 rfl rfl (by decide) rfl rfl ?_
          refine hz_goto (n := 10) hC dX8_writeHouse_52 (by decide) ?_
          refine hz_L (L' := [(0, .ref (adr4 12 0)), (1, .int (x1 + (1 : Int32)))]) [1, 0] rfl ?_
          exact hz_widen (k0 := (1 + 4 * (11 - n10))) (s0 := 200 * (1 + 4 * (11 - n10))) ⟨by omega, by omega⟩ (ih10 (by omega) adr4 (hp_sim.tr (hp_sim.tr hsL10 hs3) hs4) _ _)
        · refine hz_aload_n (a := 0) (n := 26) hC dX8_writeHouse_25 rfl rfl rfl ?_
          refine fg_X8_53 (n := 29) hC hI dX8_writeHouse_26 rfl ?_
          refine hz_bipush (v := (32 : Int32)) (n := 31) hC dX8_writeHouse_29 (by decide +kernel) rfl ?_
          refine hz_callVG (k := 1) (As := [.int (32 : Int32)]) (st := []) (S1 := fun adr5 _ => .ref (adr5 14 0) :: []) (LF := fun adr5 => [(0, .ref (adr5 12 0)), (1, .int x1)]) (n := 34) hC (c_J4_append_cf468 l (32 : Int32)   M) kv_J4_append_cf468 wd_4_233 hIB.2 dX8_writeHouse_31 rfl hIB.2.1 he_J4 rfl rfl rfl (Nat.le_of_ble_eq_true rfl) ⟨Nat.le_of_ble_eq_true rfl, Nat.le_of_ble_eq_true rfl⟩ ⟨by (try simp only [hp_rmG]); omega, by (try simp only [hp_rmG]); omega⟩ (fun a h => by first | rfl | simp only [h 12 0 (by decide), h 14 0 (by decide)] | simp only [h 12 0 (by decide)] | simp only [h 14 0 (by decide)]) (fun a r h => by first | rfl | simp only [h 12 0 (by decide), h 14 0 (by decide)] | simp only [h 12 0 (by decide)] | simp only [h 14 0 (by decide)]) rfl (fun r5 M5 adr5 _ hs5 => ?_)
          refine hz_pop (n := 35) hC dX8_writeHouse_34 rfl rfl ?_
          refine hz_aload_n (a := 0) (n := 36) hC dX8_writeHouse_35 rfl rfl rfl ?_
          refine fg_X8_53 (n := 39) hC hI dX8_writeHouse_36 rfl ?_
          refine hz_iload_n (a := 1) (n := 40) hC dX8_writeHouse_39 rfl rfl rfl ?_
          refine hz_callVG (k := 1) (As := [.int x1]) (st := []) (S1 := fun adr6 _ => .ref (adr6 14 0) :: []) (LF := fun adr6 => [(0, .ref (adr6 12 0)), (1, .int x1)]) (n := 43) hC (c_J4_append_bf812 l x1   M5) kv_J4_append_bf812 wd_5_6 hIB.2 dX8_writeHouse_40 rfl hIB.2.1 he_J4 rfl rfl rfl (Nat.le_of_ble_eq_true rfl) ⟨Nat.le_of_ble_eq_true rfl, Nat.le_of_ble_eq_true rfl⟩ ⟨by (try simp only [hp_rmG]); omega, by (try simp only [hp_rmG]); omega⟩ (fun a h => by first | rfl | simp only [h 12 0 (by decide), h 14 0 (by decide)] | simp only [h 12 0 (by decide)] | simp only [h 14 0 (by decide)]) (fun a r h => by first | rfl | simp only [h 12 0 (by decide), h 14 0 (by decide)] | simp only [h 12 0 (by decide)] | simp only [h 14 0 (by decide)]) rfl (fun r6 M6 adr6 _ hs6 => ?_)
          refine hz_pop (n := 44) hC dX8_writeHouse_43 rfl rfl ?_
          refine hz_aload_n (a := 0) (n := 45) hC dX8_writeHouse_44 rfl rfl rfl ?_
          refine hz_iload_n (a := 1) (n := 46) hC dX8_writeHouse_45 rfl rfl rfl ?_
          refine hz_callVG (k := 1) (As := [.int x1]) (st := []) (S1 := fun adr7 _ => []) (LF := fun adr7 => [(0, .ref (adr7 12 0)), (1, .int x1)]) (n := 49) hC (c_X8_writeState l x1   M6) kv_X8_writeState wd_5_7 hIB dX8_writeHouse_46 rfl (hI.2 0 (by decide)) he_X8 rfl rfl rfl (Nat.le_of_ble_eq_true rfl) ⟨Nat.le_of_ble_eq_true rfl, Nat.le_of_ble_eq_true rfl⟩ ⟨by (try simp only [hp_rmG]); omega, by (try simp only [hp_rmG]); omega⟩ (fun a h => by first | rfl | simp only [h 12 0 (by decide), h 14 0 (by decide)] | simp only [h 12 0 (by decide)] | simp only [h 14 0 (by decide)]) (fun a r h => by first | rfl | simp only [h 12 0 (by decide), h 14 0 (by decide)] | simp only [h 12 0 (by decide)] | simp only [h 14 0 (by decide)]) rfl (fun r7 M7 adr7 _ hs7 => ?_)
          refine hz_iinc (a := 1) (v := (x1 + (1 : Int32))) (L' := [(1, .int (x1 + (1 : Int32))), (0, .ref (adr7 12 0))]) (n := 52) hC dX8_writeHouse_49 rfl rfl (by decide) rfl rfl ?_
          refine hz_goto (n := 10) hC dX8_writeHouse_52 (by decide) ?_
          refine hz_L (L' := [(0, .ref (adr7 12 0)), (1, .int (x1 + (1 : Int32)))]) [1, 0] rfl ?_
          exact hz_widen (k0 := (1 + 4 * (11 - n10))) (s0 := 200 * (1 + 4 * (11 - n10))) ⟨by omega, by omega⟩ (ih10 (by omega) adr7 (hp_sim.tr (hp_sim.tr (hp_sim.tr hsL10 hs5) hs6) hs7) _ _)
  refine hz_aload_n (a := 0) (n := 1) hC dX8_writeHouse_0 rfl rfl rfl ?_
  refine fg_X8_53 (n := 4) hC hI dX8_writeHouse_1 rfl ?_
  refine hz_iconst (v := (0 : Int32)) (n := 5) hC dX8_writeHouse_4 (by decide +kernel) rfl ?_
  refine hz_callVG (k := 1) (As := [.int (0 : Int32)]) (st := []) (S1 := fun adr1 _ => []) (LF := fun adr1 => [(0, .ref (adr1 12 0))]) (n := 8) hC (c_J4_setLength_d00df l (0 : Int32)   M) kv_J4_setLength_d00df wd_3_155 hIB.2 dX8_writeHouse_5 rfl hIB.2.1 he_J4 rfl rfl rfl (Nat.le_of_ble_eq_true rfl) ⟨Nat.le_of_ble_eq_true rfl, Nat.le_of_ble_eq_true rfl⟩ ⟨Nat.le_of_ble_eq_true rfl, Nat.le_of_ble_eq_true rfl⟩ (fun a h => by first | rfl | simp only [h 12 0 (by decide), h 14 0 (by decide)] | simp only [h 12 0 (by decide)] | simp only [h 14 0 (by decide)]) (fun a r h => by first | rfl | simp only [h 12 0 (by decide), h 14 0 (by decide)] | simp only [h 12 0 (by decide)] | simp only [h 14 0 (by decide)]) rfl (fun r1 M1 adr1 _ hs1 => ?_)
  refine hz_iconst (v := (0 : Int32)) (n := 9) hC dX8_writeHouse_8 (by decide +kernel) rfl ?_
  refine hz_istore_n (L' := [(1, .int (0 : Int32)), (0, .ref (adr1 12 0))]) (n := 10) hC dX8_writeHouse_9 rfl (by decide) rfl rfl ?_
  refine hz_L (L' := [(0, .ref (adr1 12 0)), (1, .int (0 : Int32))]) [1, 0] rfl ?_
  exact hz_widen (k0 := (1 + 4 * (11 - 11))) (s0 := 200 * (1 + 4 * (11 - 11))) ⟨Nat.le_of_ble_eq_true rfl, Nat.le_of_ble_eq_true rfl⟩ (l10 11 (Nat.le_refl _) adr1 (hp_sim.tr hp_sim.rf hs1) _ _)
def L_X8_writeSlate_10    : Nat → Int32 → hp_M → Option (Int32 × hp_M)
  | 0, _, _ => none
  | n10 + 1, x1, M => (if (M 0 8 2) ≤ x1 then (hp_b (F_J4_length_8abf5 M) (fun r2 M2 => (if r2 = 0 then (hp_b (F_J4_append_cf468 (45 : Int32) M2) (fun _ M3 => (hp_b (F_J4_length_8abf5 M3) (fun r4 M4 => (some (r4, M4)))))) else (hp_b (F_J4_length_8abf5 M2) (fun r5 M5 => (some (r5, M5))))))) else (if x1 ≤ 0 then (hp_b (F_X6_flatAt 0 x1 M) (fun r6 M6 => (hp_b (F_J4_append_bf812 r6 M6) (fun _ M7 => (hp_b (F_J4_append_cf468 (64 : Int32) M7) (fun _ M8 => (hp_b (F_X6_minuteAt 0 x1 M8) (fun r9 M9 => (hp_b (F_J4_append_bf812 r9 M9) (fun _ M10 => (L_X8_writeSlate_10  n10 (x1 + (1 : Int32)) M10))))))))))) else (hp_b (F_J4_append_cf468 (32 : Int32) M) (fun _ M11 => (hp_b (F_X6_flatAt 0 x1 M11) (fun r12 M12 => (hp_b (F_J4_append_bf812 r12 M12) (fun _ M13 => (hp_b (F_J4_append_cf468 (64 : Int32) M13) (fun _ M14 => (hp_b (F_X6_minuteAt 0 x1 M14) (fun r15 M15 => (hp_b (F_J4_append_bf812 r15 M15) (fun _ M16 => (L_X8_writeSlate_10  n10 (x1 + (1 : Int32)) M16)))))))))))))))
def F_X8_writeSlate  (M : hp_M) : Option (Int32 × hp_M) := (hp_b (F_J4_setLength_d00df (0 : Int32) M) (fun _ M1 => (L_X8_writeSlate_10 9 (0 : Int32) M1)))
set_option maxRecDepth 20000 in
set_option maxHeartbeats 4000000 in
theorem c_X8_writeSlate (l : Launch)   (M : hp_M) : hp_CtG l yX8_writeSlate cX8_writeSlate 2 (some .int) 6 38 hp_IB (fun adr adV => [.ref (adr 12 0)]) hp_oi M (F_X8_writeSlate  M) := by
  refine hp_startG "HallPhone" (fun adr adV => [(0, .ref (adr 12 0))]) (by decide) rfl (fun _ _ => by simp only [lg_sl]; exact Nat.le_of_ble_eq_true rfl) (fun _ _ => rfl) ?_
  intro p e s m args below meth c A D ids adr adV cA G0 hIB hC hr
  have hI := hIB.1
  unfold F_X8_writeSlate
  have l10 : ∀  (n10 : Nat), n10 ≤ 9 → ∀ (adrL10 : Nat → Nat → Nat), hp_sim adr adrL10 → ∀ (x1 : Int32) (M : hp_M), hp_Z p l e (hp_rmG 6 38) s m args below meth c 2 A D ids adrL10 adV cA (1 + 4 * (9 - n10)) (200 * (1 + 4 * (9 - n10))) (MQ below (hp_QG A D ids adr adV cA hp_oi G0) args s 38 (200 * 38) A) G0 none 10 [(0, .ref (adrL10 12 0)), (1, .int x1)] [] M (L_X8_writeSlate_10  n10 x1 M) := by
    intro  n10
    induction n10 with
    | zero => intro _ adrL10 hsL10 x1 M; exact hz_none hC
    | succ n10 ih10 =>
      intro hn10 adrL10 hsL10 x1 M
      rw [L_X8_writeSlate_10.eq_2]
      refine hz_iload_n (a := 1) (n := 11) hC dX8_writeSlate_10 rfl rfl rfl ?_
      refine hz_aload_n (a := 0) (n := 12) hC dX8_writeSlate_11 rfl rfl rfl ?_
      refine fg_X8_10 (n := 15) hC hI dX8_writeSlate_12 rfl ?_
      refine fg_X8_112 (n := 18) hC (by decide) hI dX8_writeSlate_15 rfl ?_
      refine fg_X8_116 (n := 21) hC (by decide) hI dX8_writeSlate_18 rfl ?_
      refine hz_icmp_ge (tgt := 82) (n := 24) hC dX8_writeSlate_21 (by decide) rfl (fun _ => ?_) (fun _ => ?_)
      · refine hz_aload_n (a := 0) (n := 83) hC dX8_writeSlate_82 rfl rfl rfl ?_
        refine fg_X8_53 (n := 86) hC hI dX8_writeSlate_83 rfl ?_
        refine hz_callV (k := 0) (As := []) (st := []) (S1 := fun r => .int r :: []) (n := 89) hC (c_J4_length_8abf5 l    M) kv_J4_length_8abf5 wd_5_16 hIB.2 dX8_writeSlate_86 rfl hIB.2.1 he_J4 rfl rfl rfl (Nat.le_of_ble_eq_true rfl) ⟨Nat.le_of_ble_eq_true rfl, Nat.le_of_ble_eq_true rfl⟩ ⟨by (try simp only [hp_rmG]); omega, by (try simp only [hp_rmG]); omega⟩ (fun _ => rfl) rfl (fun r2 M2 _ => ?_)
        refine hz_if_ne (tgt := 102) (n := 92) hC dX8_writeSlate_89 (by decide) rfl (fun _ => ?_) (fun _ => ?_)
        · refine hz_aload_n (a := 0) (n := 93) hC dX8_writeSlate_92 rfl rfl rfl ?_
          refine fg_X8_53 (n := 96) hC hI dX8_writeSlate_93 rfl ?_
          refine hz_bipush (v := (45 : Int32)) (n := 98) hC dX8_writeSlate_96 (by decide +kernel) rfl ?_
          refine hz_callVG (k := 1) (As := [.int (45 : Int32)]) (st := []) (S1 := fun adr3 _ => .ref (adr3 14 0) :: []) (LF := fun adr3 => [(0, .ref (adr3 12 0)), (1, .int x1)]) (n := 101) hC (c_J4_append_cf468 l (45 : Int32)   M2) kv_J4_append_cf468 wd_4_233 hIB.2 dX8_writeSlate_98 rfl hIB.2.1 he_J4 rfl rfl rfl (Nat.le_of_ble_eq_true rfl) ⟨Nat.le_of_ble_eq_true rfl, Nat.le_of_ble_eq_true rfl⟩ ⟨by (try simp only [hp_rmG]); omega, by (try simp only [hp_rmG]); omega⟩ (fun a h => by first | rfl | simp only [h 12 0 (by decide), h 14 0 (by decide)] | simp only [h 12 0 (by decide)] | simp only [h 14 0 (by decide)]) (fun a r h => by first | rfl | simp only [h 12 0 (by decide), h 14 0 (by decide)] | simp only [h 12 0 (by decide)] | simp only [h 14 0 (by decide)]) rfl (fun r3 M3 adr3 _ hs3 => ?_)
          refine hz_pop (n := 102) hC dX8_writeSlate_101 rfl rfl ?_
          refine hz_aload_n (a := 0) (n := 103) hC dX8_writeSlate_102 rfl rfl rfl ?_
          refine fg_X8_53 (n := 106) hC hI dX8_writeSlate_103 rfl ?_
          refine hz_callV (k := 0) (As := []) (st := []) (S1 := fun r => .int r :: []) (n := 109) hC (c_J4_length_8abf5 l    M3) kv_J4_length_8abf5 wd_5_16 hIB.2 dX8_writeSlate_106 rfl hIB.2.1 he_J4 rfl rfl rfl (Nat.le_of_ble_eq_true rfl) ⟨Nat.le_of_ble_eq_true rfl, Nat.le_of_ble_eq_true rfl⟩ ⟨by (try simp only [hp_rmG]); omega, by (try simp only [hp_rmG]); omega⟩ (fun _ => rfl) rfl (fun r4 M4 _ => ?_)
          exact hz_iretG hC (hp_sim.tr hsL10 hs3) hr dX8_writeSlate_109 ⟨by (try simp only [hp_rmG]); omega, by (try simp only [hp_rmG]); omega⟩
        · refine hz_aload_n (a := 0) (n := 103) hC dX8_writeSlate_102 rfl rfl rfl ?_
          refine fg_X8_53 (n := 106) hC hI dX8_writeSlate_103 rfl ?_
          refine hz_callV (k := 0) (As := []) (st := []) (S1 := fun r => .int r :: []) (n := 109) hC (c_J4_length_8abf5 l    M2) kv_J4_length_8abf5 wd_5_16 hIB.2 dX8_writeSlate_106 rfl hIB.2.1 he_J4 rfl rfl rfl (Nat.le_of_ble_eq_true rfl) ⟨Nat.le_of_ble_eq_true rfl, Nat.le_of_ble_eq_true rfl⟩ ⟨by (try simp only [hp_rmG]); omega, by (try simp only [hp_rmG]); omega⟩ (fun _ => rfl) rfl (fun r5 M5 _ => ?_)
          exact hz_iretG hC hsL10 hr dX8_writeSlate_109 ⟨by (try simp only [hp_rmG]); omega, by (try simp only [hp_rmG]); omega⟩
      · refine hz_iload_n (a := 1) (n := 25) hC dX8_writeSlate_24 rfl rfl rfl ?_
        refine hz_if_le (tgt := 38) (n := 28) hC dX8_writeSlate_25 (by decide) rfl (fun _ => ?_) (fun _ => ?_)
        · refine hz_aload_n (a := 0) (n := 39) hC dX8_writeSlate_38 rfl rfl rfl ?_
          refine fg_X8_53 (n := 42) hC hI dX8_writeSlate_39 rfl ?_
          refine hz_aload_n (a := 0) (n := 43) hC dX8_writeSlate_42 rfl rfl rfl ?_
          refine fg_X8_10 (n := 46) hC hI dX8_writeSlate_43 rfl ?_
          refine fg_X8_112 (n := 49) hC (by decide) hI dX8_writeSlate_46 rfl ?_
          refine hz_iload_n (a := 1) (n := 50) hC dX8_writeSlate_49 rfl rfl rfl ?_
          refine hz_callVN (k := 1) (As := [.int x1]) (st := [.ref (adrL10 14 0)]) (S1 := fun r => .int r :: [.ref (adrL10 14 0)]) (n := 53) hC (c_X6_flatAt l 0 x1 (by decide)  M) kv_X6_flatAt wd_5_21 hI dX8_writeSlate_50 rfl (hI.1 0 8 (by decide) (by decide)) (he_X6 (by decide)) rfl rfl rfl (Nat.le_of_ble_eq_true rfl) ⟨Nat.le_of_ble_eq_true rfl, Nat.le_of_ble_eq_true rfl⟩ ⟨by (try simp only [hp_rmG]); omega, by (try simp only [hp_rmG]); omega⟩ (fun _ => rfl) rfl (fun r6 M6 _ => ?_)
          refine hz_callVG (k := 1) (As := [.int r6]) (st := []) (S1 := fun adr7 _ => .ref (adr7 14 0) :: []) (LF := fun adr7 => [(0, .ref (adr7 12 0)), (1, .int x1)]) (n := 56) hC (c_J4_append_bf812 l r6   M6) kv_J4_append_bf812 wd_5_6 hIB.2 dX8_writeSlate_53 rfl hIB.2.1 he_J4 rfl rfl rfl (Nat.le_of_ble_eq_true rfl) ⟨Nat.le_of_ble_eq_true rfl, Nat.le_of_ble_eq_true rfl⟩ ⟨by (try simp only [hp_rmG]); omega, by (try simp only [hp_rmG]); omega⟩ (fun a h => by first | rfl | simp only [h 12 0 (by decide), h 14 0 (by decide)] | simp only [h 12 0 (by decide)] | simp only [h 14 0 (by decide)]) (fun a r h => by first | rfl | simp only [h 12 0 (by decide), h 14 0 (by decide)] | simp only [h 12 0 (by decide)] | simp only [h 14 0 (by decide)]) rfl (fun r7 M7 adr7 _ hs7 => ?_)
          refine hz_bipush (v := (64 : Int32)) (n := 58) hC dX8_writeSlate_56 (by decide +kernel) rfl ?_
          refine hz_callVG (k := 1) (As := [.int (64 : Int32)]) (st := []) (S1 := fun adr8 _ => .ref (adr8 14 0) :: []) (LF := fun adr8 => [(0, .ref (adr8 12 0)), (1, .int x1)]) (n := 61) hC (c_J4_append_cf468 l (64 : Int32)   M7) kv_J4_append_cf468 wd_4_233 hIB.2 dX8_writeSlate_58 rfl hIB.2.1 he_J4 rfl rfl rfl (Nat.le_of_ble_eq_true rfl) ⟨Nat.le_of_ble_eq_true rfl, Nat.le_of_ble_eq_true rfl⟩ ⟨by (try simp only [hp_rmG]); omega, by (try simp only [hp_rmG]); omega⟩ (fun a h => by first | rfl | simp only [h 12 0 (by decide), h 14 0 (by decide)] | simp only [h 12 0 (by decide)] | simp only [h 14 0 (by decide)]) (fun a r h => by first | rfl | simp only [h 12 0 (by decide), h 14 0 (by decide)] | simp only [h 12 0 (by decide)] | simp only [h 14 0 (by decide)]) rfl (fun r8 M8 adr8 _ hs8 => ?_)
          refine hz_aload_n (a := 0) (n := 62) hC dX8_writeSlate_61 rfl rfl rfl ?_
          refine fg_X8_10 (n := 65) hC hI dX8_writeSlate_62 rfl ?_
          refine fg_X8_112 (n := 68) hC (by decide) hI dX8_writeSlate_65 rfl ?_
          refine hz_iload_n (a := 1) (n := 69) hC dX8_writeSlate_68 rfl rfl rfl ?_
          refine hz_callVN (k := 1) (As := [.int x1]) (st := [.ref (adr8 14 0)]) (S1 := fun r => .int r :: [.ref (adr8 14 0)]) (n := 72) hC (c_X6_minuteAt l 0 x1 (by decide)  M8) kv_X6_minuteAt wd_5_25 hI dX8_writeSlate_69 rfl (hI.1 0 8 (by decide) (by decide)) (he_X6 (by decide)) rfl rfl rfl (Nat.le_of_ble_eq_true rfl) ⟨Nat.le_of_ble_eq_true rfl, Nat.le_of_ble_eq_true rfl⟩ ⟨by (try simp only [hp_rmG]); omega, by (try simp only [hp_rmG]); omega⟩ (fun _ => rfl) rfl (fun r9 M9 _ => ?_)
          refine hz_callVG (k := 1) (As := [.int r9]) (st := []) (S1 := fun adr10 _ => .ref (adr10 14 0) :: []) (LF := fun adr10 => [(0, .ref (adr10 12 0)), (1, .int x1)]) (n := 75) hC (c_J4_append_bf812 l r9   M9) kv_J4_append_bf812 wd_5_6 hIB.2 dX8_writeSlate_72 rfl hIB.2.1 he_J4 rfl rfl rfl (Nat.le_of_ble_eq_true rfl) ⟨Nat.le_of_ble_eq_true rfl, Nat.le_of_ble_eq_true rfl⟩ ⟨by (try simp only [hp_rmG]); omega, by (try simp only [hp_rmG]); omega⟩ (fun a h => by first | rfl | simp only [h 12 0 (by decide), h 14 0 (by decide)] | simp only [h 12 0 (by decide)] | simp only [h 14 0 (by decide)]) (fun a r h => by first | rfl | simp only [h 12 0 (by decide), h 14 0 (by decide)] | simp only [h 12 0 (by decide)] | simp only [h 14 0 (by decide)]) rfl (fun r10 M10 adr10 _ hs10 => ?_)
          refine hz_pop (n := 76) hC dX8_writeSlate_75 rfl rfl ?_
          refine hz_iinc (a := 1) (v := (x1 + (1 : Int32))) (L' := [(1, .int (x1 + (1 : Int32))), (0, .ref (adr10 12 0))]) (n := 79) hC dX8_writeSlate_76 rfl rfl (by decide) rfl rfl ?_
          refine hz_goto (n := 10) hC dX8_writeSlate_79 (by decide) ?_
          refine hz_L (L' := [(0, .ref (adr10 12 0)), (1, .int (x1 + (1 : Int32)))]) [1, 0] rfl ?_
          exact hz_widen (k0 := (1 + 4 * (9 - n10))) (s0 := 200 * (1 + 4 * (9 - n10))) ⟨by omega, by omega⟩ (ih10 (by omega) adr10 (hp_sim.tr (hp_sim.tr (hp_sim.tr hsL10 hs7) hs8) hs10) _ _)
        · refine hz_aload_n (a := 0) (n := 29) hC dX8_writeSlate_28 rfl rfl rfl ?_
          refine fg_X8_53 (n := 32) hC hI dX8_writeSlate_29 rfl ?_
          refine hz_bipush (v := (32 : Int32)) (n := 34) hC dX8_writeSlate_32 (by decide +kernel) rfl ?_
          refine hz_callVG (k := 1) (As := [.int (32 : Int32)]) (st := []) (S1 := fun adr11 _ => .ref (adr11 14 0) :: []) (LF := fun adr11 => [(0, .ref (adr11 12 0)), (1, .int x1)]) (n := 37) hC (c_J4_append_cf468 l (32 : Int32)   M) kv_J4_append_cf468 wd_4_233 hIB.2 dX8_writeSlate_34 rfl hIB.2.1 he_J4 rfl rfl rfl (Nat.le_of_ble_eq_true rfl) ⟨Nat.le_of_ble_eq_true rfl, Nat.le_of_ble_eq_true rfl⟩ ⟨by (try simp only [hp_rmG]); omega, by (try simp only [hp_rmG]); omega⟩ (fun a h => by first | rfl | simp only [h 12 0 (by decide), h 14 0 (by decide)] | simp only [h 12 0 (by decide)] | simp only [h 14 0 (by decide)]) (fun a r h => by first | rfl | simp only [h 12 0 (by decide), h 14 0 (by decide)] | simp only [h 12 0 (by decide)] | simp only [h 14 0 (by decide)]) rfl (fun r11 M11 adr11 _ hs11 => ?_)
          refine hz_pop (n := 38) hC dX8_writeSlate_37 rfl rfl ?_
          refine hz_aload_n (a := 0) (n := 39) hC dX8_writeSlate_38 rfl rfl rfl ?_
          refine fg_X8_53 (n := 42) hC hI dX8_writeSlate_39 rfl ?_
          refine hz_aload_n (a := 0) (n := 43) hC dX8_writeSlate_42 rfl rfl rfl ?_
          refine fg_X8_10 (n := 46) hC hI dX8_writeSlate_43 rfl ?_
          refine fg_X8_112 (n := 49) hC (by decide) hI dX8_writeSlate_46 rfl ?_
          refine hz_iload_n (a := 1) (n := 50) hC dX8_writeSlate_49 rfl rfl rfl ?_
          refine hz_callVN (k := 1) (As := [.int x1]) (st := [.ref (adr11 14 0)]) (S1 := fun r => .int r :: [.ref (adr11 14 0)]) (n := 53) hC (c_X6_flatAt l 0 x1 (by decide)  M11) kv_X6_flatAt wd_5_21 hI dX8_writeSlate_50 rfl (hI.1 0 8 (by decide) (by decide)) (he_X6 (by decide)) rfl rfl rfl (Nat.le_of_ble_eq_true rfl) ⟨Nat.le_of_ble_eq_true rfl, Nat.le_of_ble_eq_true rfl⟩ ⟨by (try simp only [hp_rmG]); omega, by (try simp only [hp_rmG]); omega⟩ (fun _ => rfl) rfl (fun r12 M12 _ => ?_)
          refine hz_callVG (k := 1) (As := [.int r12]) (st := []) (S1 := fun adr13 _ => .ref (adr13 14 0) :: []) (LF := fun adr13 => [(0, .ref (adr13 12 0)), (1, .int x1)]) (n := 56) hC (c_J4_append_bf812 l r12   M12) kv_J4_append_bf812 wd_5_6 hIB.2 dX8_writeSlate_53 rfl hIB.2.1 he_J4 rfl rfl rfl (Nat.le_of_ble_eq_true rfl) ⟨Nat.le_of_ble_eq_true rfl, Nat.le_of_ble_eq_true rfl⟩ ⟨by (try simp only [hp_rmG]); omega, by (try simp only [hp_rmG]); omega⟩ (fun a h => by first | rfl | simp only [h 12 0 (by decide), h 14 0 (by decide)] | simp only [h 12 0 (by decide)] | simp only [h 14 0 (by decide)]) (fun a r h => by first | rfl | simp only [h 12 0 (by decide), h 14 0 (by decide)] | simp only [h 12 0 (by decide)] | simp only [h 14 0 (by decide)]) rfl (fun r13 M13 adr13 _ hs13 => ?_)
          refine hz_bipush (v := (64 : Int32)) (n := 58) hC dX8_writeSlate_56 (by decide +kernel) rfl ?_
          refine hz_callVG (k := 1) (As := [.int (64 : Int32)]) (st := []) (S1 := fun adr14 _ => .ref (adr14 14 0) :: []) (LF := fun adr14 => [(0, .ref (adr14 12 0)), (1, .int x1)]) (n := 61) hC (c_J4_append_cf468 l (64 : Int32)   M13) kv_J4_append_cf468 wd_4_233 hIB.2 dX8_writeSlate_58 rfl hIB.2.1 he_J4 rfl rfl rfl (Nat.le_of_ble_eq_true rfl) ⟨Nat.le_of_ble_eq_true rfl, Nat.le_of_ble_eq_true rfl⟩ ⟨by (try simp only [hp_rmG]); omega, by (try simp only [hp_rmG]); omega⟩ (fun a h => by first | rfl | simp only [h 12 0 (by decide), h 14 0 (by decide)] | simp only [h 12 0 (by decide)] | simp only [h 14 0 (by decide)]) (fun a r h => by first | rfl | simp only [h 12 0 (by decide), h 14 0 (by decide)] | simp only [h 12 0 (by decide)] | simp only [h 14 0 (by decide)]) rfl (fun r14 M14 adr14 _ hs14 => ?_)
          refine hz_aload_n (a := 0) (n := 62) hC dX8_writeSlate_61 rfl rfl rfl ?_
          refine fg_X8_10 (n := 65) hC hI dX8_writeSlate_62 rfl ?_
          refine fg_X8_112 (n := 68) hC (by decide) hI dX8_writeSlate_65 rfl ?_
          refine hz_iload_n (a := 1) (n := 69) hC dX8_writeSlate_68 rfl rfl rfl ?_
          refine hz_callVN (k := 1) (As := [.int x1]) (st := [.ref (adr14 14 0)]) (S1 := fun r => .int r :: [.ref (adr14 14 0)]) (n := 72) hC (c_X6_minuteAt l 0 x1 (by decide)  M14) kv_X6_minuteAt wd_5_25 hI dX8_writeSlate_69 rfl (hI.1 0 8 (by decide) (by decide)) (he_X6 (by decide)) rfl rfl rfl (Nat.le_of_ble_eq_true rfl) ⟨Nat.le_of_ble_eq_true rfl, Nat.le_of_ble_eq_true rfl⟩ ⟨by (try simp only [hp_rmG]); omega, by (try simp only [hp_rmG]); omega⟩ (fun _ => rfl) rfl (fun r15 M15 _ => ?_)
          refine hz_callVG (k := 1) (As := [.int r15]) (st := []) (S1 := fun adr16 _ => .ref (adr16 14 0) :: []) (LF := fun adr16 => [(0, .ref (adr16 12 0)), (1, .int x1)]) (n := 75) hC (c_J4_append_bf812 l r15   M15) kv_J4_append_bf812 wd_5_6 hIB.2 dX8_writeSlate_72 rfl hIB.2.1 he_J4 rfl rfl rfl (Nat.le_of_ble_eq_true rfl) ⟨Nat.le_of_ble_eq_true rfl, Nat.le_of_ble_eq_true rfl⟩ ⟨by (try simp only [hp_rmG]); omega, by (try simp only [hp_rmG]); omega⟩ (fun a h => by first | rfl | simp only [h 12 0 (by decide), h 14 0 (by decide)] | simp only [h 12 0 (by decide)] | simp only [h 14 0 (by decide)]) (fun a r h => by first | rfl | simp only [h 12 0 (by decide), h 14 0 (by decide)] | simp only [h 12 0 (by decide)] | simp only [h 14 0 (by decide)]) rfl (fun r16 M16 adr16 _ hs16 => ?_)
          refine hz_pop (n := 76) hC dX8_writeSlate_75 rfl rfl ?_
          refine hz_iinc (a := 1) (v := (x1 + (1 : Int32))) (L' := [(1, .int (x1 + (1 : Int32))), (0, .ref (adr16 12 0))]) (n := 79) hC dX8_writeSlate_76 rfl rfl (by decide) rfl rfl ?_
          refine hz_goto (n := 10) hC dX8_writeSlate_79 (by decide) ?_
          refine hz_L (L' := [(0, .ref (adr16 12 0)), (1, .int (x1 + (1 : Int32)))]) [1, 0] rfl ?_
          exact hz_widen (k0 := (1 + 4 * (9 - n10))) (s0 := 200 * (1 + 4 * (9 - n10))) ⟨by omega, by omega⟩ (ih10 (by omega) adr16 (hp_sim.tr (hp_sim.tr (hp_sim.tr (hp_sim.tr hsL10 hs11) hs13) hs14) hs16) _ _)
  refine hz_aload_n (a := 0) (n := 1) hC dX8_writeSlate_0 rfl rfl rfl ?_
  refine fg_X8_53 (n := 4) hC hI dX8_writeSlate_1 rfl ?_
  refine hz_iconst (v := (0 : Int32)) (n := 5) hC dX8_writeSlate_4 (by decide +kernel) rfl ?_
  refine hz_callVG (k := 1) (As := [.int (0 : Int32)]) (st := []) (S1 := fun adr1 _ => []) (LF := fun adr1 => [(0, .ref (adr1 12 0))]) (n := 8) hC (c_J4_setLength_d00df l (0 : Int32)   M) kv_J4_setLength_d00df wd_3_155 hIB.2 dX8_writeSlate_5 rfl hIB.2.1 he_J4 rfl rfl rfl (Nat.le_of_ble_eq_true rfl) ⟨Nat.le_of_ble_eq_true rfl, Nat.le_of_ble_eq_true rfl⟩ ⟨Nat.le_of_ble_eq_true rfl, Nat.le_of_ble_eq_true rfl⟩ (fun a h => by first | rfl | simp only [h 12 0 (by decide), h 14 0 (by decide)] | simp only [h 12 0 (by decide)] | simp only [h 14 0 (by decide)]) (fun a r h => by first | rfl | simp only [h 12 0 (by decide), h 14 0 (by decide)] | simp only [h 12 0 (by decide)] | simp only [h 14 0 (by decide)]) rfl (fun r1 M1 adr1 _ hs1 => ?_)
  refine hz_iconst (v := (0 : Int32)) (n := 9) hC dX8_writeSlate_8 (by decide +kernel) rfl ?_
  refine hz_istore_n (L' := [(1, .int (0 : Int32)), (0, .ref (adr1 12 0))]) (n := 10) hC dX8_writeSlate_9 rfl (by decide) rfl rfl ?_
  refine hz_L (L' := [(0, .ref (adr1 12 0)), (1, .int (0 : Int32))]) [1, 0] rfl ?_
  exact hz_widen (k0 := (1 + 4 * (9 - 9))) (s0 := 200 * (1 + 4 * (9 - 9))) ⟨Nat.le_of_ble_eq_true rfl, Nat.le_of_ble_eq_true rfl⟩ (l10 9 (Nat.le_refl _) adr1 (hp_sim.tr hp_sim.rf hs1) _ _)
def F_X8_reportAt (a0 : Int32) (M : hp_M) : Option (Int32 × hp_M) := (if a0 < 0 then (if vp_nar .char (0 : Int32) = (0 : Int32) then some ((0 : Int32), M) else none) else (hp_b (F_J4_length_8abf5 M) (fun r1 M1 => (if r1 ≤ a0 then (if vp_nar .char (0 : Int32) = (0 : Int32) then some ((0 : Int32), M1) else none) else (hp_b (F_J4_charAt_5068e a0 M1) (fun r2 M2 => (if vp_nar .char r2 = r2 then some (r2, M2) else none)))))))
set_option maxRecDepth 20000 in
set_option maxHeartbeats 4000000 in
theorem c_X8_reportAt (l : Launch) (a0 : Int32)  (M : hp_M) : hp_Ct l yX8_reportAt cX8_reportAt 2 (some .char) 4 hp_IB (fun adr adV => [.ref (adr 12 0), .int a0]) hp_oi M (F_X8_reportAt a0 M) := by
  refine hp_start "HallPhone" (fun adr adV => [(0, .ref (adr 12 0)), (1, .int a0)]) (by decide) rfl (fun _ _ => by simp only [lg_sl]; exact Nat.le_of_ble_eq_true rfl) (fun _ _ => rfl) ?_
  intro p e s m args below meth c A D ids adr adV cA rep G0 hIB hC hr
  have hI := hIB.1
  unfold F_X8_reportAt
  refine hz_iload_n (a := 1) (n := 1) hC dX8_reportAt_0 rfl rfl rfl ?_
  refine hz_if_lt (tgt := 26) (n := 4) hC dX8_reportAt_1 (by decide) rfl (fun _ => ?_) (fun _ => ?_)
  · refine hz_iconst (v := (0 : Int32)) (n := 27) hC dX8_reportAt_26 (by decide +kernel) rfl ?_
    exact hz_cret hC hr dX8_reportAt_27
  · refine hz_iload_n (a := 1) (n := 5) hC dX8_reportAt_4 rfl rfl rfl ?_
    refine hz_aload_n (a := 0) (n := 6) hC dX8_reportAt_5 rfl rfl rfl ?_
    refine fg_X8_53 (n := 9) hC hI dX8_reportAt_6 rfl ?_
    refine hz_callV (k := 0) (As := []) (st := [.int a0]) (S1 := fun r => .int r :: [.int a0]) (n := 12) hC (c_J4_length_8abf5 l    M) kv_J4_length_8abf5 wd_5_16 hIB.2 dX8_reportAt_9 rfl hIB.2.1 he_J4 rfl rfl rfl (Nat.le_of_ble_eq_true rfl) ⟨Nat.le_of_ble_eq_true rfl, Nat.le_of_ble_eq_true rfl⟩ ⟨Nat.zero_le _, Nat.zero_le _⟩ (fun _ => rfl) rfl (fun r1 M1 _ => ?_)
    refine hz_icmp_ge (tgt := 26) (n := 15) hC dX8_reportAt_12 (by decide) rfl (fun _ => ?_) (fun _ => ?_)
    · refine hz_iconst (v := (0 : Int32)) (n := 27) hC dX8_reportAt_26 (by decide +kernel) rfl ?_
      exact hz_cret hC hr dX8_reportAt_27
    · refine hz_aload_n (a := 0) (n := 16) hC dX8_reportAt_15 rfl rfl rfl ?_
      refine fg_X8_53 (n := 19) hC hI dX8_reportAt_16 rfl ?_
      refine hz_iload_n (a := 1) (n := 20) hC dX8_reportAt_19 rfl rfl rfl ?_
      refine hz_callV (k := 1) (As := [.int a0]) (st := []) (S1 := fun r => .int r :: []) (n := 23) hC (c_J4_charAt_5068e l a0   M1) kv_J4_charAt_5068e wd_5_33 hIB.2 dX8_reportAt_20 rfl hIB.2.1 he_J4 rfl rfl rfl (Nat.le_of_ble_eq_true rfl) ⟨Nat.le_of_ble_eq_true rfl, Nat.le_of_ble_eq_true rfl⟩ ⟨Nat.zero_le _, Nat.zero_le _⟩ (fun _ => rfl) rfl (fun r2 M2 _ => ?_)
      refine hz_goto (n := 27) hC dX8_reportAt_23 (by decide) ?_
      exact hz_cret hC hr dX8_reportAt_27
def F_X8_size (a0 : Int32) (M : hp_M) : Option ((Int32 ⊕ Nat) × hp_M) := (hp_bx (F_X8_checkRange a0 (0 : Int32) (13 : Int32) M) (fun _ M1 => (if a0 = (11 : Int32) then (some (.inl (M1 12 4 2), M1)) else (if a0 = (12 : Int32) then (some (.inl (M1 12 0 8), M1)) else (if a0 = (13 : Int32) then (hp_b (F_J4_length_8abf5 M1) (fun r2 M2 => (some (.inl r2, M2)))) else (hp_b (F_X2_houseNumber 0 a0 M1) (fun r3 M3 => (some (.inl r3, M3)))))))))
set_option maxRecDepth 20000 in
set_option maxHeartbeats 4000000 in
theorem c_X8_size (l : Launch) (hl0 : l.stackTraces = false) (a0 : Int32)  (M : hp_M) : hp_CtX l yX8_size cX8_size 2 (some .int) 7 2 hp_IB (fun adr adV => [.ref (adr 12 0), .int a0]) hp_oi M (F_X8_size a0 M) := by
  refine hp_startX "HallPhone" (fun adr adV => [(0, .ref (adr 12 0)), (1, .int a0)]) (by decide) rfl (fun _ _ => by simp only [lg_sl]; exact Nat.le_of_ble_eq_true rfl) (fun _ _ => rfl) ?_
  intro p e s m args below meth c A D ids adr adV cA rep G0 hIB hC hr hE
  have hI := hIB.1
  unfold F_X8_size
  refine hz_iload_n (a := 1) (n := 1) hC dX8_size_0 rfl rfl rfl ?_
  refine hz_iconst (v := (0 : Int32)) (n := 2) hC dX8_size_1 (by decide +kernel) rfl ?_
  refine hz_bipush (v := (13 : Int32)) (n := 4) hC dX8_size_2 (by decide +kernel) rfl ?_
  refine hz_callSX (k := 3) (As := [.int a0, .int (0 : Int32), .int (13 : Int32)]) (st := []) (S1 := fun _ => []) (n := 7) hC hE (c_X8_checkRange l hl0 a0 (0 : Int32) (13 : Int32)   M) ks_X8_checkRange wd_5_86 hI dX8_size_4 rfl rfl rfl (Nat.le_of_ble_eq_true rfl) ⟨Nat.le_of_ble_eq_true rfl, Nat.le_of_ble_eq_true rfl⟩ ⟨Nat.le_of_ble_eq_true rfl, Nat.le_of_ble_eq_true rfl⟩ ⟨Nat.le_of_ble_eq_true rfl, Nat.le_of_ble_eq_true rfl⟩ (fun _ => rfl) rfl (fun r1 M1 _ => ?_)
  refine hz_iload_n (a := 1) (n := 8) hC dX8_size_7 rfl rfl rfl ?_
  refine hz_case (fun hk11 => ?_) (fun hk11 => ?_)
  · refine hz_tabIn (n := 36) hC hk11 dX8_size_8 (by decide +kernel) (by decide +kernel) (by rfl) (by decide +kernel) ?_
    refine hz_aload_n (a := 0) (n := 37) hC dX8_size_36 rfl rfl rfl ?_
    refine fg_X8_22 (n := 40) hC hI dX8_size_37 rfl ?_
    refine fg_X8_83 (n := 43) hC hI dX8_size_40 rfl ?_
    exact hz_iretX hC hr dX8_size_43 ⟨Nat.le_of_ble_eq_true rfl, Nat.le_of_ble_eq_true rfl⟩
  refine hz_case (fun hk12 => ?_) (fun hk12 => ?_)
  · refine hz_tabIn (n := 44) hC hk12 dX8_size_8 (by decide +kernel) (by decide +kernel) (by rfl) (by decide +kernel) ?_
    refine hz_aload_n (a := 0) (n := 45) hC dX8_size_44 rfl rfl rfl ?_
    refine fg_X8_47 (n := 48) hC hI dX8_size_45 rfl ?_
    exact hz_iretX hC hr dX8_size_48 ⟨Nat.le_of_ble_eq_true rfl, Nat.le_of_ble_eq_true rfl⟩
  refine hz_case (fun hk13 => ?_) (fun hk13 => ?_)
  · refine hz_tabIn (n := 49) hC hk13 dX8_size_8 (by decide +kernel) (by decide +kernel) (by rfl) (by decide +kernel) ?_
    refine hz_aload_n (a := 0) (n := 50) hC dX8_size_49 rfl rfl rfl ?_
    refine fg_X8_53 (n := 53) hC hI dX8_size_50 rfl ?_
    refine hz_callV (k := 0) (As := []) (st := []) (S1 := fun r => .int r :: []) (n := 56) hC (c_J4_length_8abf5 l    M1) kv_J4_length_8abf5 wd_5_16 hIB.2 dX8_size_53 rfl hIB.2.1 he_J4 rfl rfl rfl (Nat.le_of_ble_eq_true rfl) ⟨Nat.le_of_ble_eq_true rfl, Nat.le_of_ble_eq_true rfl⟩ ⟨Nat.le_of_ble_eq_true rfl, Nat.le_of_ble_eq_true rfl⟩ (fun _ => rfl) rfl (fun r2 M2 _ => ?_)
    exact hz_iretX hC hr dX8_size_56 ⟨Nat.le_of_ble_eq_true rfl, Nat.le_of_ble_eq_true rfl⟩
  refine hz_tabOut (n := 57) hC (hp_out 3 (by decide) (fun k hk => by
    rcases (show k = 0 ∨ k = 1 ∨ k = 2 by omega) with rfl | rfl | rfl
    · exact fun e => hk11 (Int32.toInt_inj.mp (e.trans (by decide +kernel)))
    · exact fun e => hk12 (Int32.toInt_inj.mp (e.trans (by decide +kernel)))
    · exact fun e => hk13 (Int32.toInt_inj.mp (e.trans (by decide +kernel)))
    )) dX8_size_8 (by decide +kernel) ?_
  refine hz_aload_n (a := 0) (n := 58) hC dX8_size_57 rfl rfl rfl ?_
  refine fg_X8_10 (n := 61) hC hI dX8_size_58 rfl ?_
  refine hz_iload_n (a := 1) (n := 62) hC dX8_size_61 rfl rfl rfl ?_
  refine hz_callVN (k := 1) (As := [.int a0]) (st := []) (S1 := fun r => .int r :: []) (n := 65) hC (c_X2_houseNumber l 0 a0 (by decide)  M1) kv_X2_houseNumber wd_5_57 hI dX8_size_62 rfl (hI.1 0 0 (by decide) (by decide)) (he_X2 (by decide)) rfl rfl rfl (Nat.le_of_ble_eq_true rfl) ⟨Nat.le_of_ble_eq_true rfl, Nat.le_of_ble_eq_true rfl⟩ ⟨Nat.le_of_ble_eq_true rfl, Nat.le_of_ble_eq_true rfl⟩ (fun _ => rfl) rfl (fun r3 M3 _ => ?_)
  exact hz_iretX hC hr dX8_size_65 ⟨Nat.le_of_ble_eq_true rfl, Nat.le_of_ble_eq_true rfl⟩
