def F_L_parse (a1 : Int32) (M : hp_M) : Option (Int32 × hp_M) := (hp_bc (F_X8_parse a1 M) (fun r1 M1 => (some ((0 : Int32), (hp_p M1 13 10 0 r1)))) (fun kx M1 => (if kx = 0 then (some ((1 : Int32), M1)) else none)))
set_option maxRecDepth 20000 in
set_option maxHeartbeats 4000000 in
theorem c_L_parse (l : Launch) (hl0 : l.stackTraces = false) (a1 : Int32)  (M : hp_M) : hp_CtW l yL_parse cL_parse 4 (some .int) [(0, 9, 12, 13)] 9 2 hp_IL (fun adr adV => [.ref (adr 12 0), .int a1, .ref (adr 13 10)]) hp_oi M (F_L_parse a1 M) := by
  refine hp_startW "HallPhoneLaw" (fun adr adV => [(0, .ref (adr 12 0)), (1, .int a1), (2, .ref (adr 13 10))]) (by decide) rfl (fun _ _ => by simp only [lg_sl]; exact Nat.le_of_ble_eq_true rfl) (fun _ _ => rfl) ?_
  intro p e s m args below meth c A D ids adr adV cA rep G0 hIL hC hr hT9
  have hIB := hIL.1
  have hI := hIB.1
  unfold F_L_parse
  refine hz_aload_n (a := 2) (n := 1) hC dL_parse_0 rfl rfl rfl ?_
  refine hz_iconst (v := (0 : Int32)) (n := 2) hC dL_parse_1 (by decide +kernel) rfl ?_
  refine hz_aload_n (a := 0) (n := 3) hC dL_parse_2 rfl rfl rfl ?_
  refine hz_iload_n (a := 1) (n := 4) hC dL_parse_3 rfl rfl rfl ?_
  refine hz_callVC1 (k := 1) (As := [.int a1]) (st := [.int (0 : Int32), .ref (adr 13 10)]) (S1 := fun r1 => .int r1 :: [.int (0 : Int32), .ref (adr 13 10)]) (n := 7) hC (e1 := 0) hT9 (by decide) (by decide) wd_5_81 hp_ca0 (c_X8_parse l hl0 a1   M) kv_X8_parse wd_5_82 hI dL_parse_4 rfl (hI.2 0 (by decide)) he_X8 rfl rfl rfl (Nat.le_of_ble_eq_true rfl) ⟨Nat.le_of_ble_eq_true rfl, Nat.le_of_ble_eq_true rfl⟩ ⟨Nat.le_of_ble_eq_true rfl, Nat.le_of_ble_eq_true rfl⟩ (fun _ => rfl) rfl (fun r1 M1 _ => ?_) (fun q M1 => ?_)
  · refine hz_i2l (n := 8) hC dL_parse_7 rfl ?_
    refine hz_last13 (x := r1) (n := 9) hC (by first | rfl | decide) dL_parse_8 hIL.2.2 rfl ?_
    refine hz_goto (n := 15) hC dL_parse_9 (by decide) ?_
    refine hz_iconst (v := (0 : Int32)) (n := 16) hC dL_parse_15 (by decide +kernel) rfl ?_
    exact hz_widen (k0 := 2) (s0 := 6 * 2) ⟨Nat.le_of_ble_eq_true rfl, Nat.le_of_ble_eq_true rfl⟩ (hz_iret hC hr dL_parse_16)
  · refine hz_astore_n (L' := [(3, .ref q), (0, .ref (adr 12 0)), (1, .int a1), (2, .ref (adr 13 10))]) (n := 13) hC dL_parse_12 rfl (by decide) rfl rfl ?_
    refine hz_iconst (v := (1 : Int32)) (n := 14) hC dL_parse_13 (by decide +kernel) rfl ?_
    exact hz_widen (k0 := 2) (s0 := 6 * 2) ⟨Nat.le_of_ble_eq_true rfl, Nat.le_of_ble_eq_true rfl⟩ (hz_iret hC hr dL_parse_14)
def F_L_load (a1 : Int32) (M : hp_M) : Option (Int32 × hp_M) := (hp_bc (F_X8_load a1 M) (fun r1 M1 => (some ((0 : Int32), (hp_p M1 13 10 0 r1)))) (fun kx M1 => (if kx = 0 then (some ((1 : Int32), M1)) else none)))
set_option maxRecDepth 20000 in
set_option maxHeartbeats 4000000 in
theorem c_L_load (l : Launch) (hl0 : l.stackTraces = false) (a1 : Int32)  (M : hp_M) : hp_CtW l yL_load cL_load 4 (some .int) [(0, 9, 12, 13)] 9 2 hp_IL (fun adr adV => [.ref (adr 12 0), .int a1, .ref (adr 13 10)]) hp_oi M (F_L_load a1 M) := by
  refine hp_startW "HallPhoneLaw" (fun adr adV => [(0, .ref (adr 12 0)), (1, .int a1), (2, .ref (adr 13 10))]) (by decide) rfl (fun _ _ => by simp only [lg_sl]; exact Nat.le_of_ble_eq_true rfl) (fun _ _ => rfl) ?_
  intro p e s m args below meth c A D ids adr adV cA rep G0 hIL hC hr hT9
  have hIB := hIL.1
  have hI := hIB.1
  unfold F_L_load
  refine hz_aload_n (a := 2) (n := 1) hC dL_load_0 rfl rfl rfl ?_
  refine hz_iconst (v := (0 : Int32)) (n := 2) hC dL_load_1 (by decide +kernel) rfl ?_
  refine hz_aload_n (a := 0) (n := 3) hC dL_load_2 rfl rfl rfl ?_
  refine hz_iload_n (a := 1) (n := 4) hC dL_load_3 rfl rfl rfl ?_
  refine hz_callVC1 (k := 1) (As := [.int a1]) (st := [.int (0 : Int32), .ref (adr 13 10)]) (S1 := fun r1 => .int r1 :: [.int (0 : Int32), .ref (adr 13 10)]) (n := 7) hC (e1 := 0) hT9 (by decide) (by decide) wd_5_81 hp_ca0 (c_X8_load l hl0 a1   M) kv_X8_load wd_5_100 hI dL_load_4 rfl (hI.2 0 (by decide)) he_X8 rfl rfl rfl (Nat.le_of_ble_eq_true rfl) ⟨Nat.le_of_ble_eq_true rfl, Nat.le_of_ble_eq_true rfl⟩ ⟨Nat.le_of_ble_eq_true rfl, Nat.le_of_ble_eq_true rfl⟩ (fun _ => rfl) rfl (fun r1 M1 _ => ?_) (fun q M1 => ?_)
  · refine hz_i2l (n := 8) hC dL_load_7 rfl ?_
    refine hz_last13 (x := r1) (n := 9) hC (by first | rfl | decide) dL_load_8 hIL.2.2 rfl ?_
    refine hz_goto (n := 15) hC dL_load_9 (by decide) ?_
    refine hz_iconst (v := (0 : Int32)) (n := 16) hC dL_load_15 (by decide +kernel) rfl ?_
    exact hz_widen (k0 := 2) (s0 := 6 * 2) ⟨Nat.le_of_ble_eq_true rfl, Nat.le_of_ble_eq_true rfl⟩ (hz_iret hC hr dL_load_16)
  · refine hz_astore_n (L' := [(3, .ref q), (0, .ref (adr 12 0)), (1, .int a1), (2, .ref (adr 13 10))]) (n := 13) hC dL_load_12 rfl (by decide) rfl rfl ?_
    refine hz_iconst (v := (1 : Int32)) (n := 14) hC dL_load_13 (by decide +kernel) rfl ?_
    exact hz_widen (k0 := 2) (s0 := 6 * 2) ⟨Nat.le_of_ble_eq_true rfl, Nat.le_of_ble_eq_true rfl⟩ (hz_iret hC hr dL_load_14)
def F_L_size (a1 : Int32) (M : hp_M) : Option (Int32 × hp_M) := (hp_bc (F_X8_size a1 M) (fun r1 M1 => (some ((0 : Int32), (hp_p M1 13 10 0 r1)))) (fun kx M1 => (if kx = 0 then (some ((1 : Int32), M1)) else none)))
set_option maxRecDepth 20000 in
set_option maxHeartbeats 4000000 in
theorem c_L_size (l : Launch) (hl0 : l.stackTraces = false) (a1 : Int32)  (M : hp_M) : hp_CtW l yL_size cL_size 4 (some .int) [(0, 9, 12, 13)] 8 2 hp_IL (fun adr adV => [.ref (adr 12 0), .int a1, .ref (adr 13 10)]) hp_oi M (F_L_size a1 M) := by
  refine hp_startW "HallPhoneLaw" (fun adr adV => [(0, .ref (adr 12 0)), (1, .int a1), (2, .ref (adr 13 10))]) (by decide) rfl (fun _ _ => by simp only [lg_sl]; exact Nat.le_of_ble_eq_true rfl) (fun _ _ => rfl) ?_
  intro p e s m args below meth c A D ids adr adV cA rep G0 hIL hC hr hT9
  have hIB := hIL.1
  have hI := hIB.1
  unfold F_L_size
  refine hz_aload_n (a := 2) (n := 1) hC dL_size_0 rfl rfl rfl ?_
  refine hz_iconst (v := (0 : Int32)) (n := 2) hC dL_size_1 (by decide +kernel) rfl ?_
  refine hz_aload_n (a := 0) (n := 3) hC dL_size_2 rfl rfl rfl ?_
  refine hz_iload_n (a := 1) (n := 4) hC dL_size_3 rfl rfl rfl ?_
  refine hz_callVC1 (k := 1) (As := [.int a1]) (st := [.int (0 : Int32), .ref (adr 13 10)]) (S1 := fun r1 => .int r1 :: [.int (0 : Int32), .ref (adr 13 10)]) (n := 7) hC (e1 := 0) hT9 (by decide) (by decide) wd_5_81 hp_ca0 (c_X8_size l hl0 a1   M) kv_X8_size wd_5_109 hIB dL_size_4 rfl (hI.2 0 (by decide)) he_X8 rfl rfl rfl (Nat.le_of_ble_eq_true rfl) ⟨Nat.le_of_ble_eq_true rfl, Nat.le_of_ble_eq_true rfl⟩ ⟨Nat.le_of_ble_eq_true rfl, Nat.le_of_ble_eq_true rfl⟩ (fun _ => rfl) rfl (fun r1 M1 _ => ?_) (fun q M1 => ?_)
  · refine hz_i2l (n := 8) hC dL_size_7 rfl ?_
    refine hz_last13 (x := r1) (n := 9) hC (by first | rfl | decide) dL_size_8 hIL.2.2 rfl ?_
    refine hz_goto (n := 15) hC dL_size_9 (by decide) ?_
    refine hz_iconst (v := (0 : Int32)) (n := 16) hC dL_size_15 (by decide +kernel) rfl ?_
    exact hz_widen (k0 := 2) (s0 := 6 * 2) ⟨Nat.le_of_ble_eq_true rfl, Nat.le_of_ble_eq_true rfl⟩ (hz_iret hC hr dL_size_16)
  · refine hz_astore_n (L' := [(3, .ref q), (0, .ref (adr 12 0)), (1, .int a1), (2, .ref (adr 13 10))]) (n := 13) hC dL_size_12 rfl (by decide) rfl rfl ?_
    refine hz_iconst (v := (1 : Int32)) (n := 14) hC dL_size_13 (by decide +kernel) rfl ?_
    exact hz_widen (k0 := 2) (s0 := 6 * 2) ⟨Nat.le_of_ble_eq_true rfl, Nat.le_of_ble_eq_true rfl⟩ (hz_iret hC hr dL_size_14)
def F_L_setting (a1 : Int32) (M : hp_M) : Option (Int32 × hp_M) := (hp_bc (F_X8_setting a1 M) (fun r1 M1 => (some ((0 : Int32), (hp_p M1 13 10 0 r1)))) (fun kx M1 => (if kx = 0 then (some ((1 : Int32), M1)) else none)))
set_option maxRecDepth 20000 in
set_option maxHeartbeats 4000000 in
theorem c_L_setting (l : Launch) (hl0 : l.stackTraces = false) (a1 : Int32)  (M : hp_M) : hp_CtW l yL_setting cL_setting 4 (some .int) [(0, 9, 12, 13)] 8 2 hp_IL (fun adr adV => [.ref (adr 12 0), .int a1, .ref (adr 13 10)]) hp_oi M (F_L_setting a1 M) := by
  refine hp_startW "HallPhoneLaw" (fun adr adV => [(0, .ref (adr 12 0)), (1, .int a1), (2, .ref (adr 13 10))]) (by decide) rfl (fun _ _ => by simp only [lg_sl]; exact Nat.le_of_ble_eq_true rfl) (fun _ _ => rfl) ?_
  intro p e s m args below meth c A D ids adr adV cA rep G0 hIL hC hr hT9
  have hIB := hIL.1
  have hI := hIB.1
  unfold F_L_setting
  refine hz_aload_n (a := 2) (n := 1) hC dL_setting_0 rfl rfl rfl ?_
  refine hz_iconst (v := (0 : Int32)) (n := 2) hC dL_setting_1 (by decide +kernel) rfl ?_
  refine hz_aload_n (a := 0) (n := 3) hC dL_setting_2 rfl rfl rfl ?_
  refine hz_iload_n (a := 1) (n := 4) hC dL_setting_3 rfl rfl rfl ?_
  refine hz_callVC1 (k := 1) (As := [.int a1]) (st := [.int (0 : Int32), .ref (adr 13 10)]) (S1 := fun r1 => .int r1 :: [.int (0 : Int32), .ref (adr 13 10)]) (n := 7) hC (e1 := 0) hT9 (by decide) (by decide) wd_5_81 hp_ca0 (c_X8_setting l hl0 a1   M) kv_X8_setting wd_5_116 hI dL_setting_4 rfl (hI.2 0 (by decide)) he_X8 rfl rfl rfl (Nat.le_of_ble_eq_true rfl) ⟨Nat.le_of_ble_eq_true rfl, Nat.le_of_ble_eq_true rfl⟩ ⟨Nat.le_of_ble_eq_true rfl, Nat.le_of_ble_eq_true rfl⟩ (fun _ => rfl) rfl (fun r1 M1 _ => ?_) (fun q M1 => ?_)
  · refine hz_i2l (n := 8) hC dL_setting_7 rfl ?_
    refine hz_last13 (x := r1) (n := 9) hC (by first | rfl | decide) dL_setting_8 hIL.2.2 rfl ?_
    refine hz_goto (n := 15) hC dL_setting_9 (by decide) ?_
    refine hz_iconst (v := (0 : Int32)) (n := 16) hC dL_setting_15 (by decide +kernel) rfl ?_
    exact hz_widen (k0 := 2) (s0 := 6 * 2) ⟨Nat.le_of_ble_eq_true rfl, Nat.le_of_ble_eq_true rfl⟩ (hz_iret hC hr dL_setting_16)
  · refine hz_astore_n (L' := [(3, .ref q), (0, .ref (adr 12 0)), (1, .int a1), (2, .ref (adr 13 10))]) (n := 13) hC dL_setting_12 rfl (by decide) rfl rfl ?_
    refine hz_iconst (v := (1 : Int32)) (n := 14) hC dL_setting_13 (by decide +kernel) rfl ?_
    exact hz_widen (k0 := 2) (s0 := 6 * 2) ⟨Nat.le_of_ble_eq_true rfl, Nat.le_of_ble_eq_true rfl⟩ (hz_iret hC hr dL_setting_14)
def F_L_flat (a1 : Int32) (a2 : Int32) (M : hp_M) : Option (Int32 × hp_M) := (hp_bc (F_X8_flat a1 a2 M) (fun r1 M1 => (some ((0 : Int32), (hp_p M1 13 10 0 r1)))) (fun kx M1 => (if kx = 1 then (some ((1 : Int32), M1)) else (if kx = 0 then (some ((2 : Int32), M1)) else none))))
set_option maxRecDepth 20000 in
set_option maxHeartbeats 4000000 in
theorem c_L_flat (l : Launch) (hl0 : l.stackTraces = false) (a1 : Int32) (a2 : Int32)  (M : hp_M) : hp_CtW l yL_flat cL_flat 5 (some .int) [(0, 10, 13, 28), (0, 10, 17, 13)] 8 4 hp_IL (fun adr adV => [.ref (adr 12 0), .int a1, .int a2, .ref (adr 13 10)]) hp_oi M (F_L_flat a1 a2 M) := by
  refine hp_startW "HallPhoneLaw" (fun adr adV => [(0, .ref (adr 12 0)), (1, .int a1), (2, .int a2), (3, .ref (adr 13 10))]) (by decide) rfl (fun _ _ => by simp only [lg_sl]; exact Nat.le_of_ble_eq_true rfl) (fun _ _ => rfl) ?_
  intro p e s m args below meth c A D ids adr adV cA rep G0 hIL hC hr hT9
  have hIB := hIL.1
  have hI := hIB.1
  unfold F_L_flat
  refine hz_aload_n (a := 3) (n := 1) hC dL_flat_0 rfl rfl rfl ?_
  refine hz_iconst (v := (0 : Int32)) (n := 2) hC dL_flat_1 (by decide +kernel) rfl ?_
  refine hz_aload_n (a := 0) (n := 3) hC dL_flat_2 rfl rfl rfl ?_
  refine hz_iload_n (a := 1) (n := 4) hC dL_flat_3 rfl rfl rfl ?_
  refine hz_iload_n (a := 2) (n := 5) hC dL_flat_4 rfl rfl rfl ?_
  refine hz_callVC2 (k := 2) (As := [.int a1, .int a2]) (st := [.int (0 : Int32), .ref (adr 13 10)]) (S1 := fun r1 => .int r1 :: [.int (0 : Int32), .ref (adr 13 10)]) (n := 8) hC (e1 := 1) (e2 := 0) hT9 ⟨by decide, by decide⟩ ⟨by decide, by decide⟩ wd_5_123 wd_5_81 hp_ca1 hp_ca0 hp_nc01 (c_X8_flat l hl0 a1 a2   M) kv_X8_flat wd_5_124 hI dL_flat_5 rfl (hI.2 0 (by decide)) he_X8 rfl rfl rfl (Nat.le_of_ble_eq_true rfl) ⟨Nat.le_of_ble_eq_true rfl, Nat.le_of_ble_eq_true rfl⟩ ⟨Nat.le_of_ble_eq_true rfl, Nat.le_of_ble_eq_true rfl⟩ (fun _ => rfl) rfl (fun r1 M1 _ => ?_) (fun q M1 => ?_) (fun q M1 => ?_)
  · refine hz_i2l (n := 9) hC dL_flat_8 rfl ?_
    refine hz_last13 (x := r1) (n := 10) hC (by first | rfl | decide) dL_flat_9 hIL.2.2 rfl ?_
    refine hz_goto (n := 21) hC dL_flat_10 (by decide) ?_
    refine hz_iconst (v := (0 : Int32)) (n := 22) hC dL_flat_21 (by decide +kernel) rfl ?_
    exact hz_widen (k0 := 4) (s0 := 6 * 4) ⟨Nat.le_of_ble_eq_true rfl, Nat.le_of_ble_eq_true rfl⟩ (hz_iret hC hr dL_flat_22)
  · refine hz_astore (L' := [(4, .ref q), (0, .ref (adr 12 0)), (1, .int a1), (2, .int a2), (3, .ref (adr 13 10))]) (n := 15) hC dL_flat_13 (by decide) rfl rfl ?_
    refine hz_iconst (v := (1 : Int32)) (n := 16) hC dL_flat_15 (by decide +kernel) rfl ?_
    exact hz_widen (k0 := 4) (s0 := 6 * 4) ⟨Nat.le_of_ble_eq_true rfl, Nat.le_of_ble_eq_true rfl⟩ (hz_iret hC hr dL_flat_16)
  · refine hz_astore (L' := [(4, .ref q), (0, .ref (adr 12 0)), (1, .int a1), (2, .int a2), (3, .ref (adr 13 10))]) (n := 19) hC dL_flat_17 (by decide) rfl rfl ?_
    refine hz_iconst (v := (2 : Int32)) (n := 20) hC dL_flat_19 (by decide +kernel) rfl ?_
    exact hz_widen (k0 := 4) (s0 := 6 * 4) ⟨Nat.le_of_ble_eq_true rfl, Nat.le_of_ble_eq_true rfl⟩ (hz_iret hC hr dL_flat_20)
def F_L_message (a1 : Int32) (a2 : Int32) (M : hp_M) : Option (Int32 × hp_M) := (hp_bc (F_X8_message a1 a2 M) (fun r1 M1 => (some ((0 : Int32), (hp_p M1 13 10 0 r1)))) (fun kx M1 => (if kx = 2 then (some ((1 : Int32), M1)) else (if kx = 0 then (some ((2 : Int32), M1)) else none))))
set_option maxRecDepth 20000 in
set_option maxHeartbeats 4000000 in
theorem c_L_message (l : Launch) (hl0 : l.stackTraces = false) (a1 : Int32) (a2 : Int32)  (M : hp_M) : hp_CtW l yL_message cL_message 5 (some .int) [(0, 10, 13, 33), (0, 10, 17, 13)] 8 4 hp_IL (fun adr adV => [.ref (adr 12 0), .int a1, .int a2, .ref (adr 13 10)]) hp_oi M (F_L_message a1 a2 M) := by
  refine hp_startW "HallPhoneLaw" (fun adr adV => [(0, .ref (adr 12 0)), (1, .int a1), (2, .int a2), (3, .ref (adr 13 10))]) (by decide) rfl (fun _ _ => by simp only [lg_sl]; exact Nat.le_of_ble_eq_true rfl) (fun _ _ => rfl) ?_
  intro p e s m args below meth c A D ids adr adV cA rep G0 hIL hC hr hT9
  have hIB := hIL.1
  have hI := hIB.1
  unfold F_L_message
  refine hz_aload_n (a := 3) (n := 1) hC dL_message_0 rfl rfl rfl ?_
  refine hz_iconst (v := (0 : Int32)) (n := 2) hC dL_message_1 (by decide +kernel) rfl ?_
  refine hz_aload_n (a := 0) (n := 3) hC dL_message_2 rfl rfl rfl ?_
  refine hz_iload_n (a := 1) (n := 4) hC dL_message_3 rfl rfl rfl ?_
  refine hz_iload_n (a := 2) (n := 5) hC dL_message_4 rfl rfl rfl ?_
  refine hz_callVC2 (k := 2) (As := [.int a1, .int a2]) (st := [.int (0 : Int32), .ref (adr 13 10)]) (S1 := fun r1 => .int r1 :: [.int (0 : Int32), .ref (adr 13 10)]) (n := 8) hC (e1 := 2) (e2 := 0) hT9 ⟨by decide, by decide⟩ ⟨by decide, by decide⟩ wd_5_148 wd_5_81 hp_ca2 hp_ca0 hp_nc02 (c_X8_message l hl0 a1 a2   M) kv_X8_message wd_5_149 hI dL_message_5 rfl (hI.2 0 (by decide)) he_X8 rfl rfl rfl (Nat.le_of_ble_eq_true rfl) ⟨Nat.le_of_ble_eq_true rfl, Nat.le_of_ble_eq_true rfl⟩ ⟨Nat.le_of_ble_eq_true rfl, Nat.le_of_ble_eq_true rfl⟩ (fun _ => rfl) rfl (fun r1 M1 _ => ?_) (fun q M1 => ?_) (fun q M1 => ?_)
  · refine hz_i2l (n := 9) hC dL_message_8 rfl ?_
    refine hz_last13 (x := r1) (n := 10) hC (by first | rfl | decide) dL_message_9 hIL.2.2 rfl ?_
    refine hz_goto (n := 21) hC dL_message_10 (by decide) ?_
    refine hz_iconst (v := (0 : Int32)) (n := 22) hC dL_message_21 (by decide +kernel) rfl ?_
    exact hz_widen (k0 := 4) (s0 := 6 * 4) ⟨Nat.le_of_ble_eq_true rfl, Nat.le_of_ble_eq_true rfl⟩ (hz_iret hC hr dL_message_22)
  · refine hz_astore (L' := [(4, .ref q), (0, .ref (adr 12 0)), (1, .int a1), (2, .int a2), (3, .ref (adr 13 10))]) (n := 15) hC dL_message_13 (by decide) rfl rfl ?_
    refine hz_iconst (v := (1 : Int32)) (n := 16) hC dL_message_15 (by decide +kernel) rfl ?_
    exact hz_widen (k0 := 4) (s0 := 6 * 4) ⟨Nat.le_of_ble_eq_true rfl, Nat.le_of_ble_eq_true rfl⟩ (hz_iret hC hr dL_message_16)
  · refine hz_astore (L' := [(4, .ref q), (0, .ref (adr 12 0)), (1, .int a1), (2, .int a2), (3, .ref (adr 13 10))]) (n := 19) hC dL_message_17 (by decide) rfl rfl ?_
    refine hz_iconst (v := (2 : Int32)) (n := 20) hC dL_message_19 (by decide +kernel) rfl ?_
    exact hz_widen (k0 := 4) (s0 := 6 * 4) ⟨Nat.le_of_ble_eq_true rfl, Nat.le_of_ble_eq_true rfl⟩ (hz_iret hC hr dL_message_20)
def F_L_heard (a1 : Int32) (a2 : Int32) (M : hp_M) : Option (Int32 × hp_M) := (hp_bc (F_X8_heard a1 a2 M) (fun r1 M1 => (some ((0 : Int32), (hp_p M1 13 10 0 r1)))) (fun kx M1 => (if kx = 1 then (some ((1 : Int32), M1)) else none)))
set_option maxRecDepth 20000 in
set_option maxHeartbeats 4000000 in
theorem c_L_heard (l : Launch) (hl0 : l.stackTraces = false) (a1 : Int32) (a2 : Int32)  (M : hp_M) : hp_CtW l yL_heard cL_heard 5 (some .int) [(0, 10, 13, 28)] 8 4 hp_IL (fun adr adV => [.ref (adr 12 0), .int a1, .int a2, .ref (adr 13 10)]) hp_oi M (F_L_heard a1 a2 M) := by
  refine hp_startW "HallPhoneLaw" (fun adr adV => [(0, .ref (adr 12 0)), (1, .int a1), (2, .int a2), (3, .ref (adr 13 10))]) (by decide) rfl (fun _ _ => by simp only [lg_sl]; exact Nat.le_of_ble_eq_true rfl) (fun _ _ => rfl) ?_
  intro p e s m args below meth c A D ids adr adV cA rep G0 hIL hC hr hT9
  have hIB := hIL.1
  have hI := hIB.1
  unfold F_L_heard
  refine hz_aload_n (a := 3) (n := 1) hC dL_heard_0 rfl rfl rfl ?_
  refine hz_iconst (v := (0 : Int32)) (n := 2) hC dL_heard_1 (by decide +kernel) rfl ?_
  refine hz_aload_n (a := 0) (n := 3) hC dL_heard_2 rfl rfl rfl ?_
  refine hz_iload_n (a := 1) (n := 4) hC dL_heard_3 rfl rfl rfl ?_
  refine hz_iload_n (a := 2) (n := 5) hC dL_heard_4 rfl rfl rfl ?_
  refine hz_callVC1 (k := 2) (As := [.int a1, .int a2]) (st := [.int (0 : Int32), .ref (adr 13 10)]) (S1 := fun r1 => .int r1 :: [.int (0 : Int32), .ref (adr 13 10)]) (n := 8) hC (e1 := 1) hT9 (by decide) (by decide) wd_5_123 hp_ca1 (c_X8_heard l hl0 a1 a2   M) kv_X8_heard wd_5_172 hI dL_heard_5 rfl (hI.2 0 (by decide)) he_X8 rfl rfl rfl (Nat.le_of_ble_eq_true rfl) ⟨Nat.le_of_ble_eq_true rfl, Nat.le_of_ble_eq_true rfl⟩ ⟨Nat.le_of_ble_eq_true rfl, Nat.le_of_ble_eq_true rfl⟩ (fun _ => rfl) rfl (fun r1 M1 _ => ?_) (fun q M1 => ?_)
  · refine hz_i2l (n := 9) hC dL_heard_8 rfl ?_
    refine hz_last13 (x := r1) (n := 10) hC (by first | rfl | decide) dL_heard_9 hIL.2.2 rfl ?_
    refine hz_goto (n := 17) hC dL_heard_10 (by decide) ?_
    refine hz_iconst (v := (0 : Int32)) (n := 18) hC dL_heard_17 (by decide +kernel) rfl ?_
    exact hz_widen (k0 := 4) (s0 := 6 * 4) ⟨Nat.le_of_ble_eq_true rfl, Nat.le_of_ble_eq_true rfl⟩ (hz_iret hC hr dL_heard_18)
  · refine hz_astore (L' := [(4, .ref q), (0, .ref (adr 12 0)), (1, .int a1), (2, .int a2), (3, .ref (adr 13 10))]) (n := 15) hC dL_heard_13 (by decide) rfl rfl ?_
    refine hz_iconst (v := (1 : Int32)) (n := 16) hC dL_heard_15 (by decide +kernel) rfl ?_
    exact hz_widen (k0 := 4) (s0 := 6 * 4) ⟨Nat.le_of_ble_eq_true rfl, Nat.le_of_ble_eq_true rfl⟩ (hz_iret hC hr dL_heard_16)
def F_L_knowing (a1 : Int32) (M : hp_M) : Option (Int32 × hp_M) := (hp_bc (F_X8_knowing a1 M) (fun r1 M1 => (some ((0 : Int32), (hp_p M1 13 10 0 r1)))) (fun kx M1 => (if kx = 1 then (some ((1 : Int32), M1)) else none)))
set_option maxRecDepth 20000 in
set_option maxHeartbeats 4000000 in
theorem c_L_knowing (l : Launch) (hl0 : l.stackTraces = false) (a1 : Int32)  (M : hp_M) : hp_CtW l yL_knowing cL_knowing 4 (some .int) [(0, 9, 12, 28)] 8 2 hp_IL (fun adr adV => [.ref (adr 12 0), .int a1, .ref (adr 13 10)]) hp_oi M (F_L_knowing a1 M) := by
  refine hp_startW "HallPhoneLaw" (fun adr adV => [(0, .ref (adr 12 0)), (1, .int a1), (2, .ref (adr 13 10))]) (by decide) rfl (fun _ _ => by simp only [lg_sl]; exact Nat.le_of_ble_eq_true rfl) (fun _ _ => rfl) ?_
  intro p e s m args below meth c A D ids adr adV cA rep G0 hIL hC hr hT9
  have hIB := hIL.1
  have hI := hIB.1
  unfold F_L_knowing
  refine hz_aload_n (a := 2) (n := 1) hC dL_knowing_0 rfl rfl rfl ?_
  refine hz_iconst (v := (0 : Int32)) (n := 2) hC dL_knowing_1 (by decide +kernel) rfl ?_
  refine hz_aload_n (a := 0) (n := 3) hC dL_knowing_2 rfl rfl rfl ?_
  refine hz_iload_n (a := 1) (n := 4) hC dL_knowing_3 rfl rfl rfl ?_
  refine hz_callVC1 (k := 1) (As := [.int a1]) (st := [.int (0 : Int32), .ref (adr 13 10)]) (S1 := fun r1 => .int r1 :: [.int (0 : Int32), .ref (adr 13 10)]) (n := 7) hC (e1 := 1) hT9 (by decide) (by decide) wd_5_123 hp_ca1 (c_X8_knowing l hl0 a1   M) kv_X8_knowing wd_5_179 hI dL_knowing_4 rfl (hI.2 0 (by decide)) he_X8 rfl rfl rfl (Nat.le_of_ble_eq_true rfl) ⟨Nat.le_of_ble_eq_true rfl, Nat.le_of_ble_eq_true rfl⟩ ⟨Nat.le_of_ble_eq_true rfl, Nat.le_of_ble_eq_true rfl⟩ (fun _ => rfl) rfl (fun r1 M1 _ => ?_) (fun q M1 => ?_)
  · refine hz_i2l (n := 8) hC dL_knowing_7 rfl ?_
    refine hz_last13 (x := r1) (n := 9) hC (by first | rfl | decide) dL_knowing_8 hIL.2.2 rfl ?_
    refine hz_goto (n := 15) hC dL_knowing_9 (by decide) ?_
    refine hz_iconst (v := (0 : Int32)) (n := 16) hC dL_knowing_15 (by decide +kernel) rfl ?_
    exact hz_widen (k0 := 2) (s0 := 6 * 2) ⟨Nat.le_of_ble_eq_true rfl, Nat.le_of_ble_eq_true rfl⟩ (hz_iret hC hr dL_knowing_16)
  · refine hz_astore_n (L' := [(3, .ref q), (0, .ref (adr 12 0)), (1, .int a1), (2, .ref (adr 13 10))]) (n := 13) hC dL_knowing_12 rfl (by decide) rfl rfl ?_
    refine hz_iconst (v := (1 : Int32)) (n := 14) hC dL_knowing_13 (by decide +kernel) rfl ?_
    exact hz_widen (k0 := 2) (s0 := 6 * 2) ⟨Nat.le_of_ble_eq_true rfl, Nat.le_of_ble_eq_true rfl⟩ (hz_iret hC hr dL_knowing_14)
def F_L_listening (a1 : Int32) (M : hp_M) : Option (Int32 × hp_M) := (hp_bc (F_X8_listening a1 M) (fun r1 M1 => (some ((0 : Int32), (hp_p M1 13 10 0 r1)))) (fun kx M1 => (if kx = 1 then (some ((1 : Int32), M1)) else none)))
set_option maxRecDepth 20000 in
set_option maxHeartbeats 4000000 in
theorem c_L_listening (l : Launch) (hl0 : l.stackTraces = false) (a1 : Int32)  (M : hp_M) : hp_CtW l yL_listening cL_listening 4 (some .int) [(0, 9, 12, 28)] 8 2 hp_IL (fun adr adV => [.ref (adr 12 0), .int a1, .ref (adr 13 10)]) hp_oi M (F_L_listening a1 M) := by
  refine hp_startW "HallPhoneLaw" (fun adr adV => [(0, .ref (adr 12 0)), (1, .int a1), (2, .ref (adr 13 10))]) (by decide) rfl (fun _ _ => by simp only [lg_sl]; exact Nat.le_of_ble_eq_true rfl) (fun _ _ => rfl) ?_
  intro p e s m args below meth c A D ids adr adV cA rep G0 hIL hC hr hT9
  have hIB := hIL.1
  have hI := hIB.1
  unfold F_L_listening
  refine hz_aload_n (a := 2) (n := 1) hC dL_listening_0 rfl rfl rfl ?_
  refine hz_iconst (v := (0 : Int32)) (n := 2) hC dL_listening_1 (by decide +kernel) rfl ?_
  refine hz_aload_n (a := 0) (n := 3) hC dL_listening_2 rfl rfl rfl ?_
  refine hz_iload_n (a := 1) (n := 4) hC dL_listening_3 rfl rfl rfl ?_
  refine hz_callVC1 (k := 1) (As := [.int a1]) (st := [.int (0 : Int32), .ref (adr 13 10)]) (S1 := fun r1 => .int r1 :: [.int (0 : Int32), .ref (adr 13 10)]) (n := 7) hC (e1 := 1) hT9 (by decide) (by decide) wd_5_123 hp_ca1 (c_X8_listening l hl0 a1   M) kv_X8_listening wd_5_186 hI dL_listening_4 rfl (hI.2 0 (by decide)) he_X8 rfl rfl rfl (Nat.le_of_ble_eq_true rfl) ⟨Nat.le_of_ble_eq_true rfl, Nat.le_of_ble_eq_true rfl⟩ ⟨Nat.le_of_ble_eq_true rfl, Nat.le_of_ble_eq_true rfl⟩ (fun _ => rfl) rfl (fun r1 M1 _ => ?_) (fun q M1 => ?_)
  · refine hz_i2l (n := 8) hC dL_listening_7 rfl ?_
    refine hz_last13 (x := r1) (n := 9) hC (by first | rfl | decide) dL_listening_8 hIL.2.2 rfl ?_
    refine hz_goto (n := 15) hC dL_listening_9 (by decide) ?_
    refine hz_iconst (v := (0 : Int32)) (n := 16) hC dL_listening_15 (by decide +kernel) rfl ?_
    exact hz_widen (k0 := 2) (s0 := 6 * 2) ⟨Nat.le_of_ble_eq_true rfl, Nat.le_of_ble_eq_true rfl⟩ (hz_iret hC hr dL_listening_16)
  · refine hz_astore_n (L' := [(3, .ref q), (0, .ref (adr 12 0)), (1, .int a1), (2, .ref (adr 13 10))]) (n := 13) hC dL_listening_12 rfl (by decide) rfl rfl ?_
    refine hz_iconst (v := (1 : Int32)) (n := 14) hC dL_listening_13 (by decide +kernel) rfl ?_
    exact hz_widen (k0 := 2) (s0 := 6 * 2) ⟨Nat.le_of_ble_eq_true rfl, Nat.le_of_ble_eq_true rfl⟩ (hz_iret hC hr dL_listening_14)
def F_L_cost (a1 : Int32) (M : hp_M) : Option (Int32 × hp_M) := (hp_bc (F_X8_cost a1 M) (fun r1 M1 => (some ((0 : Int32), (hp_p M1 13 10 0 r1)))) (fun kx M1 => (if kx = 0 then (some ((1 : Int32), M1)) else none)))
set_option maxRecDepth 20000 in
set_option maxHeartbeats 4000000 in
theorem c_L_cost (l : Launch) (hl0 : l.stackTraces = false) (a1 : Int32)  (M : hp_M) : hp_CtW l yL_cost cL_cost 4 (some .int) [(0, 9, 12, 13)] 8 2 hp_IL (fun adr adV => [.ref (adr 12 0), .int a1, .ref (adr 13 10)]) hp_oi M (F_L_cost a1 M) := by
  refine hp_startW "HallPhoneLaw" (fun adr adV => [(0, .ref (adr 12 0)), (1, .int a1), (2, .ref (adr 13 10))]) (by decide) rfl (fun _ _ => by simp only [lg_sl]; exact Nat.le_of_ble_eq_true rfl) (fun _ _ => rfl) ?_
  intro p e s m args below meth c A D ids adr adV cA rep G0 hIL hC hr hT9
  have hIB := hIL.1
  have hI := hIB.1
  unfold F_L_cost
  refine hz_aload_n (a := 2) (n := 1) hC dL_cost_0 rfl rfl rfl ?_
  refine hz_iconst (v := (0 : Int32)) (n := 2) hC dL_cost_1 (by decide +kernel) rfl ?_
  refine hz_aload_n (a := 0) (n := 3) hC dL_cost_2 rfl rfl rfl ?_
  refine hz_iload_n (a := 1) (n := 4) hC dL_cost_3 rfl rfl rfl ?_
  refine hz_callVC1 (k := 1) (As := [.int a1]) (st := [.int (0 : Int32), .ref (adr 13 10)]) (S1 := fun r1 => .int r1 :: [.int (0 : Int32), .ref (adr 13 10)]) (n := 7) hC (e1 := 0) hT9 (by decide) (by decide) wd_5_81 hp_ca0 (c_X8_cost l hl0 a1   M) kv_X8_cost wd_5_197 hI dL_cost_4 rfl (hI.2 0 (by decide)) he_X8 rfl rfl rfl (Nat.le_of_ble_eq_true rfl) ⟨Nat.le_of_ble_eq_true rfl, Nat.le_of_ble_eq_true rfl⟩ ⟨Nat.le_of_ble_eq_true rfl, Nat.le_of_ble_eq_true rfl⟩ (fun _ => rfl) rfl (fun r1 M1 _ => ?_) (fun q M1 => ?_)
  · refine hz_i2l (n := 8) hC dL_cost_7 rfl ?_
    refine hz_last13 (x := r1) (n := 9) hC (by first | rfl | decide) dL_cost_8 hIL.2.2 rfl ?_
    refine hz_goto (n := 15) hC dL_cost_9 (by decide) ?_
    refine hz_iconst (v := (0 : Int32)) (n := 16) hC dL_cost_15 (by decide +kernel) rfl ?_
    exact hz_widen (k0 := 2) (s0 := 6 * 2) ⟨Nat.le_of_ble_eq_true rfl, Nat.le_of_ble_eq_true rfl⟩ (hz_iret hC hr dL_cost_16)
  · refine hz_astore_n (L' := [(3, .ref q), (0, .ref (adr 12 0)), (1, .int a1), (2, .ref (adr 13 10))]) (n := 13) hC dL_cost_12 rfl (by decide) rfl rfl ?_
    refine hz_iconst (v := (1 : Int32)) (n := 14) hC dL_cost_13 (by decide +kernel) rfl ?_
    exact hz_widen (k0 := 2) (s0 := 6 * 2) ⟨Nat.le_of_ble_eq_true rfl, Nat.le_of_ble_eq_true rfl⟩ (hz_iret hC hr dL_cost_14)
def F_L_why (a1 : Int32) (a2 : Int32) (M : hp_M) : Option (Int32 × hp_M) := (hp_bc (F_X8_why a1 a2 M) (fun r1 M1 => (some ((0 : Int32), (hp_p M1 13 10 0 r1)))) (fun kx M1 => (if kx = 1 then (some ((1 : Int32), M1)) else (if kx = 0 then (some ((2 : Int32), M1)) else none))))
set_option maxRecDepth 20000 in
set_option maxHeartbeats 4000000 in
theorem c_L_why (l : Launch) (hl0 : l.stackTraces = false) (a1 : Int32) (a2 : Int32)  (M : hp_M) : hp_CtW l yL_why cL_why 5 (some .int) [(0, 10, 13, 28), (0, 10, 17, 13)] 8 4 hp_IL (fun adr adV => [.ref (adr 12 0), .int a1, .int a2, .ref (adr 13 10)]) hp_oi M (F_L_why a1 a2 M) := by
  refine hp_startW "HallPhoneLaw" (fun adr adV => [(0, .ref (adr 12 0)), (1, .int a1), (2, .int a2), (3, .ref (adr 13 10))]) (by decide) rfl (fun _ _ => by simp only [lg_sl]; exact Nat.le_of_ble_eq_true rfl) (fun _ _ => rfl) ?_
  intro p e s m args below meth c A D ids adr adV cA rep G0 hIL hC hr hT9
  have hIB := hIL.1
  have hI := hIB.1
  unfold F_L_why
  refine hz_aload_n (a := 3) (n := 1) hC dL_why_0 rfl rfl rfl ?_
  refine hz_iconst (v := (0 : Int32)) (n := 2) hC dL_why_1 (by decide +kernel) rfl ?_
  refine hz_aload_n (a := 0) (n := 3) hC dL_why_2 rfl rfl rfl ?_
  refine hz_iload_n (a := 1) (n := 4) hC dL_why_3 rfl rfl rfl ?_
  refine hz_iload_n (a := 2) (n := 5) hC dL_why_4 rfl rfl rfl ?_
  refine hz_callVC2 (k := 2) (As := [.int a1, .int a2]) (st := [.int (0 : Int32), .ref (adr 13 10)]) (S1 := fun r1 => .int r1 :: [.int (0 : Int32), .ref (adr 13 10)]) (n := 8) hC (e1 := 1) (e2 := 0) hT9 ⟨by decide, by decide⟩ ⟨by decide, by decide⟩ wd_5_123 wd_5_81 hp_ca1 hp_ca0 hp_nc01 (c_X8_why l hl0 a1 a2   M) kv_X8_why wd_5_205 hI dL_why_5 rfl (hI.2 0 (by decide)) he_X8 rfl rfl rfl (Nat.le_of_ble_eq_true rfl) ⟨Nat.le_of_ble_eq_true rfl, Nat.le_of_ble_eq_true rfl⟩ ⟨Nat.le_of_ble_eq_true rfl, Nat.le_of_ble_eq_true rfl⟩ (fun _ => rfl) rfl (fun r1 M1 _ => ?_) (fun q M1 => ?_) (fun q M1 => ?_)
  · refine hz_i2l (n := 9) hC dL_why_8 rfl ?_
    refine hz_last13 (x := r1) (n := 10) hC (by first | rfl | decide) dL_why_9 hIL.2.2 rfl ?_
    refine hz_goto (n := 21) hC dL_why_10 (by decide) ?_
    refine hz_iconst (v := (0 : Int32)) (n := 22) hC dL_why_21 (by decide +kernel) rfl ?_
    exact hz_widen (k0 := 4) (s0 := 6 * 4) ⟨Nat.le_of_ble_eq_true rfl, Nat.le_of_ble_eq_true rfl⟩ (hz_iret hC hr dL_why_22)
  · refine hz_astore (L' := [(4, .ref q), (0, .ref (adr 12 0)), (1, .int a1), (2, .int a2), (3, .ref (adr 13 10))]) (n := 15) hC dL_why_13 (by decide) rfl rfl ?_
    refine hz_iconst (v := (1 : Int32)) (n := 16) hC dL_why_15 (by decide +kernel) rfl ?_
    exact hz_widen (k0 := 4) (s0 := 6 * 4) ⟨Nat.le_of_ble_eq_true rfl, Nat.le_of_ble_eq_true rfl⟩ (hz_iret hC hr dL_why_16)
  · refine hz_astore (L' := [(4, .ref q), (0, .ref (adr 12 0)), (1, .int a1), (2, .int a2), (3, .ref (adr 13 10))]) (n := 19) hC dL_why_17 (by decide) rfl rfl ?_
    refine hz_iconst (v := (2 : Int32)) (n := 20) hC dL_why_19 (by decide +kernel) rfl ?_
    exact hz_widen (k0 := 4) (s0 := 6 * 4) ⟨Nat.le_of_ble_eq_true rfl, Nat.le_of_ble_eq_true rfl⟩ (hz_iret hC hr dL_why_20)
def F_L_speaksIn (a1 : Int32) (M : hp_M) : Option (Int32 × hp_M) := (hp_bc (F_X8_speaksIn a1 M) (fun r1 M1 => (some ((0 : Int32), (hp_p M1 13 10 0 r1)))) (fun kx M1 => (if kx = 1 then (some ((1 : Int32), M1)) else none)))
set_option maxRecDepth 20000 in
set_option maxHeartbeats 4000000 in
theorem c_L_speaksIn (l : Launch) (hl0 : l.stackTraces = false) (a1 : Int32)  (M : hp_M) : hp_CtW l yL_speaksIn cL_speaksIn 4 (some .int) [(0, 9, 12, 28)] 8 2 hp_IL (fun adr adV => [.ref (adr 12 0), .int a1, .ref (adr 13 10)]) hp_oi M (F_L_speaksIn a1 M) := by
  refine hp_startW "HallPhoneLaw" (fun adr adV => [(0, .ref (adr 12 0)), (1, .int a1), (2, .ref (adr 13 10))]) (by decide) rfl (fun _ _ => by simp only [lg_sl]; exact Nat.le_of_ble_eq_true rfl) (fun _ _ => rfl) ?_
  intro p e s m args below meth c A D ids adr adV cA rep G0 hIL hC hr hT9
  have hIB := hIL.1
  have hI := hIB.1
  unfold F_L_speaksIn
  refine hz_aload_n (a := 2) (n := 1) hC dL_speaksIn_0 rfl rfl rfl ?_
  refine hz_iconst (v := (0 : Int32)) (n := 2) hC dL_speaksIn_1 (by decide +kernel) rfl ?_
  refine hz_aload_n (a := 0) (n := 3) hC dL_speaksIn_2 rfl rfl rfl ?_
  refine hz_iload_n (a := 1) (n := 4) hC dL_speaksIn_3 rfl rfl rfl ?_
  refine hz_callVC1 (k := 1) (As := [.int a1]) (st := [.int (0 : Int32), .ref (adr 13 10)]) (S1 := fun r1 => .int r1 :: [.int (0 : Int32), .ref (adr 13 10)]) (n := 7) hC (e1 := 1) hT9 (by decide) (by decide) wd_5_123 hp_ca1 (c_X8_speaksIn l hl0 a1   M) kv_X8_speaksIn wd_5_220 hI dL_speaksIn_4 rfl (hI.2 0 (by decide)) he_X8 rfl rfl rfl (Nat.le_of_ble_eq_true rfl) ⟨Nat.le_of_ble_eq_true rfl, Nat.le_of_ble_eq_true rfl⟩ ⟨Nat.le_of_ble_eq_true rfl, Nat.le_of_ble_eq_true rfl⟩ (fun _ => rfl) rfl (fun r1 M1 _ => ?_) (fun q M1 => ?_)
  · refine hz_i2l (n := 8) hC dL_speaksIn_7 rfl ?_
    refine hz_last13 (x := r1) (n := 9) hC (by first | rfl | decide) dL_speaksIn_8 hIL.2.2 rfl ?_
    refine hz_goto (n := 15) hC dL_speaksIn_9 (by decide) ?_
    refine hz_iconst (v := (0 : Int32)) (n := 16) hC dL_speaksIn_15 (by decide +kernel) rfl ?_
    exact hz_widen (k0 := 2) (s0 := 6 * 2) ⟨Nat.le_of_ble_eq_true rfl, Nat.le_of_ble_eq_true rfl⟩ (hz_iret hC hr dL_speaksIn_16)
  · refine hz_astore_n (L' := [(3, .ref q), (0, .ref (adr 12 0)), (1, .int a1), (2, .ref (adr 13 10))]) (n := 13) hC dL_speaksIn_12 rfl (by decide) rfl rfl ?_
    refine hz_iconst (v := (1 : Int32)) (n := 14) hC dL_speaksIn_13 (by decide +kernel) rfl ?_
    exact hz_widen (k0 := 2) (s0 := 6 * 2) ⟨Nat.le_of_ble_eq_true rfl, Nat.le_of_ble_eq_true rfl⟩ (hz_iret hC hr dL_speaksIn_14)
def F_L_flatIn (a1 : Int32) (a2 : Int32) (M : hp_M) : Option (Int32 × hp_M) := (hp_bc (F_X8_flatIn a1 a2 M) (fun r1 M1 => (some ((0 : Int32), (hp_p M1 13 10 0 r1)))) (fun kx M1 => (if kx = 1 then (some ((1 : Int32), M1)) else (if kx = 0 then (some ((2 : Int32), M1)) else none))))
set_option maxRecDepth 20000 in
set_option maxHeartbeats 4000000 in
theorem c_L_flatIn (l : Launch) (hl0 : l.stackTraces = false) (a1 : Int32) (a2 : Int32)  (M : hp_M) : hp_CtW l yL_flatIn cL_flatIn 5 (some .int) [(0, 10, 13, 28), (0, 10, 17, 13)] 9 4 hp_IL (fun adr adV => [.ref (adr 12 0), .int a1, .int a2, .ref (adr 13 10)]) hp_oi M (F_L_flatIn a1 a2 M) := by
  refine hp_startW "HallPhoneLaw" (fun adr adV => [(0, .ref (adr 12 0)), (1, .int a1), (2, .int a2), (3, .ref (adr 13 10))]) (by decide) rfl (fun _ _ => by simp only [lg_sl]; exact Nat.le_of_ble_eq_true rfl) (fun _ _ => rfl) ?_
  intro p e s m args below meth c A D ids adr adV cA rep G0 hIL hC hr hT9
  have hIB := hIL.1
  have hI := hIB.1
  unfold F_L_flatIn
  refine hz_aload_n (a := 3) (n := 1) hC dL_flatIn_0 rfl rfl rfl ?_
  refine hz_iconst (v := (0 : Int32)) (n := 2) hC dL_flatIn_1 (by decide +kernel) rfl ?_
  refine hz_aload_n (a := 0) (n := 3) hC dL_flatIn_2 rfl rfl rfl ?_
  refine hz_iload_n (a := 1) (n := 4) hC dL_flatIn_3 rfl rfl rfl ?_
  refine hz_iload_n (a := 2) (n := 5) hC dL_flatIn_4 rfl rfl rfl ?_
  refine hz_callVC2 (k := 2) (As := [.int a1, .int a2]) (st := [.int (0 : Int32), .ref (adr 13 10)]) (S1 := fun r1 => .int r1 :: [.int (0 : Int32), .ref (adr 13 10)]) (n := 8) hC (e1 := 1) (e2 := 0) hT9 ⟨by decide, by decide⟩ ⟨by decide, by decide⟩ wd_5_123 wd_5_81 hp_ca1 hp_ca0 hp_nc01 (c_X8_flatIn l hl0 a1 a2   M) kv_X8_flatIn wd_5_231 hI dL_flatIn_5 rfl (hI.2 0 (by decide)) he_X8 rfl rfl rfl (Nat.le_of_ble_eq_true rfl) ⟨Nat.le_of_ble_eq_true rfl, Nat.le_of_ble_eq_true rfl⟩ ⟨Nat.le_of_ble_eq_true rfl, Nat.le_of_ble_eq_true rfl⟩ (fun _ => rfl) rfl (fun r1 M1 _ => ?_) (fun q M1 => ?_) (fun q M1 => ?_)
  · refine hz_i2l (n := 9) hC dL_flatIn_8 rfl ?_
    refine hz_last13 (x := r1) (n := 10) hC (by first | rfl | decide) dL_flatIn_9 hIL.2.2 rfl ?_
    refine hz_goto (n := 21) hC dL_flatIn_10 (by decide) ?_
    refine hz_iconst (v := (0 : Int32)) (n := 22) hC dL_flatIn_21 (by decide +kernel) rfl ?_
    exact hz_widen (k0 := 4) (s0 := 6 * 4) ⟨Nat.le_of_ble_eq_true rfl, Nat.le_of_ble_eq_true rfl⟩ (hz_iret hC hr dL_flatIn_22)
  · refine hz_astore (L' := [(4, .ref q), (0, .ref (adr 12 0)), (1, .int a1), (2, .int a2), (3, .ref (adr 13 10))]) (n := 15) hC dL_flatIn_13 (by decide) rfl rfl ?_
    refine hz_iconst (v := (1 : Int32)) (n := 16) hC dL_flatIn_15 (by decide +kernel) rfl ?_
    exact hz_widen (k0 := 4) (s0 := 6 * 4) ⟨Nat.le_of_ble_eq_true rfl, Nat.le_of_ble_eq_true rfl⟩ (hz_iret hC hr dL_flatIn_16)
  · refine hz_astore (L' := [(4, .ref q), (0, .ref (adr 12 0)), (1, .int a1), (2, .int a2), (3, .ref (adr 13 10))]) (n := 19) hC dL_flatIn_17 (by decide) rfl rfl ?_
    refine hz_iconst (v := (2 : Int32)) (n := 20) hC dL_flatIn_19 (by decide +kernel) rfl ?_
    exact hz_widen (k0 := 4) (s0 := 6 * 4) ⟨Nat.le_of_ble_eq_true rfl, Nat.le_of_ble_eq_true rfl⟩ (hz_iret hC hr dL_flatIn_20)
def F_L_debtIn (a1 : Int32) (a2 : Int32) (M : hp_M) : Option (Int32 × hp_M) := (hp_bc (F_X8_debtIn a1 a2 M) (fun r1 M1 => (some ((0 : Int32), (hp_p M1 13 10 0 r1)))) (fun kx M1 => (if kx = 1 then (some ((1 : Int32), M1)) else (if kx = 0 then (some ((2 : Int32), M1)) else none))))
set_option maxRecDepth 20000 in
set_option maxHeartbeats 4000000 in
theorem c_L_debtIn (l : Launch) (hl0 : l.stackTraces = false) (a1 : Int32) (a2 : Int32)  (M : hp_M) : hp_CtW l yL_debtIn cL_debtIn 5 (some .int) [(0, 10, 13, 28), (0, 10, 17, 13)] 9 4 hp_IL (fun adr adV => [.ref (adr 12 0), .int a1, .int a2, .ref (adr 13 10)]) hp_oi M (F_L_debtIn a1 a2 M) := by
  refine hp_startW "HallPhoneLaw" (fun adr adV => [(0, .ref (adr 12 0)), (1, .int a1), (2, .int a2), (3, .ref (adr 13 10))]) (by decide) rfl (fun _ _ => by simp only [lg_sl]; exact Nat.le_of_ble_eq_true rfl) (fun _ _ => rfl) ?_
  intro p e s m args below meth c A D ids adr adV cA rep G0 hIL hC hr hT9
  have hIB := hIL.1
  have hI := hIB.1
  unfold F_L_debtIn
  refine hz_aload_n (a := 3) (n := 1) hC dL_debtIn_0 rfl rfl rfl ?_
  refine hz_iconst (v := (0 : Int32)) (n := 2) hC dL_debtIn_1 (by decide +kernel) rfl ?_
  refine hz_aload_n (a := 0) (n := 3) hC dL_debtIn_2 rfl rfl rfl ?_
  refine hz_iload_n (a := 1) (n := 4) hC dL_debtIn_3 rfl rfl rfl ?_
  refine hz_iload_n (a := 2) (n := 5) hC dL_debtIn_4 rfl rfl rfl ?_
  refine hz_callVC2 (k := 2) (As := [.int a1, .int a2]) (st := [.int (0 : Int32), .ref (adr 13 10)]) (S1 := fun r1 => .int r1 :: [.int (0 : Int32), .ref (adr 13 10)]) (n := 8) hC (e1 := 1) (e2 := 0) hT9 ⟨by decide, by decide⟩ ⟨by decide, by decide⟩ wd_5_123 wd_5_81 hp_ca1 hp_ca0 hp_nc01 (c_X8_debtIn l hl0 a1 a2   M) kv_X8_debtIn wd_6_3 hI dL_debtIn_5 rfl (hI.2 0 (by decide)) he_X8 rfl rfl rfl (Nat.le_of_ble_eq_true rfl) ⟨Nat.le_of_ble_eq_true rfl, Nat.le_of_ble_eq_true rfl⟩ ⟨Nat.le_of_ble_eq_true rfl, Nat.le_of_ble_eq_true rfl⟩ (fun _ => rfl) rfl (fun r1 M1 _ => ?_) (fun q M1 => ?_) (fun q M1 => ?_)
  · refine hz_i2l (n := 9) hC dL_debtIn_8 rfl ?_
    refine hz_last13 (x := r1) (n := 10) hC (by first | rfl | decide) dL_debtIn_9 hIL.2.2 rfl ?_
    refine hz_goto (n := 21) hC dL_debtIn_10 (by decide) ?_
    refine hz_iconst (v := (0 : Int32)) (n := 22) hC dL_debtIn_21 (by decide +kernel) rfl ?_
    exact hz_widen (k0 := 4) (s0 := 6 * 4) ⟨Nat.le_of_ble_eq_true rfl, Nat.le_of_ble_eq_true rfl⟩ (hz_iret hC hr dL_debtIn_22)
  · refine hz_astore (L' := [(4, .ref q), (0, .ref (adr 12 0)), (1, .int a1), (2, .int a2), (3, .ref (adr 13 10))]) (n := 15) hC dL_debtIn_13 (by decide) rfl rfl ?_
    refine hz_iconst (v := (1 : Int32)) (n := 16) hC dL_debtIn_15 (by decide +kernel) rfl ?_
    exact hz_widen (k0 := 4) (s0 := 6 * 4) ⟨Nat.le_of_ble_eq_true rfl, Nat.le_of_ble_eq_true rfl⟩ (hz_iret hC hr dL_debtIn_16)
  · refine hz_astore (L' := [(4, .ref q), (0, .ref (adr 12 0)), (1, .int a1), (2, .int a2), (3, .ref (adr 13 10))]) (n := 19) hC dL_debtIn_17 (by decide) rfl rfl ?_
    refine hz_iconst (v := (2 : Int32)) (n := 20) hC dL_debtIn_19 (by decide +kernel) rfl ?_
    exact hz_widen (k0 := 4) (s0 := 6 * 4) ⟨Nat.le_of_ble_eq_true rfl, Nat.le_of_ble_eq_true rfl⟩ (hz_iret hC hr dL_debtIn_20)
def F_L_waitIf (a1 : Int32) (M : hp_M) : Option (Int32 × hp_M) := (hp_bc (F_X8_waitIf a1 M) (fun r1 M1 => (some ((0 : Int32), (hp_p M1 13 10 0 r1)))) (fun kx M1 => (if kx = 1 then (some ((1 : Int32), M1)) else none)))
set_option maxRecDepth 20000 in
set_option maxHeartbeats 4000000 in
theorem c_L_waitIf (l : Launch) (hl0 : l.stackTraces = false) (a1 : Int32)  (M : hp_M) : hp_CtW l yL_waitIf cL_waitIf 4 (some .int) [(0, 9, 12, 28)] 8 2 hp_IL (fun adr adV => [.ref (adr 12 0), .int a1, .ref (adr 13 10)]) hp_oi M (F_L_waitIf a1 M) := by
  refine hp_startW "HallPhoneLaw" (fun adr adV => [(0, .ref (adr 12 0)), (1, .int a1), (2, .ref (adr 13 10))]) (by decide) rfl (fun _ _ => by simp only [lg_sl]; exact Nat.le_of_ble_eq_true rfl) (fun _ _ => rfl) ?_
  intro p e s m args below meth c A D ids adr adV cA rep G0 hIL hC hr hT9
  have hIB := hIL.1
  have hI := hIB.1
  unfold F_L_waitIf
  refine hz_aload_n (a := 2) (n := 1) hC dL_waitIf_0 rfl rfl rfl ?_
  refine hz_iconst (v := (0 : Int32)) (n := 2) hC dL_waitIf_1 (by decide +kernel) rfl ?_
  refine hz_aload_n (a := 0) (n := 3) hC dL_waitIf_2 rfl rfl rfl ?_
  refine hz_iload_n (a := 1) (n := 4) hC dL_waitIf_3 rfl rfl rfl ?_
  refine hz_callVC1 (k := 1) (As := [.int a1]) (st := [.int (0 : Int32), .ref (adr 13 10)]) (S1 := fun r1 => .int r1 :: [.int (0 : Int32), .ref (adr 13 10)]) (n := 7) hC (e1 := 1) hT9 (by decide) (by decide) wd_5_123 hp_ca1 (c_X8_waitIf l hl0 a1   M) kv_X8_waitIf wd_6_10 hI dL_waitIf_4 rfl (hI.2 0 (by decide)) he_X8 rfl rfl rfl (Nat.le_of_ble_eq_true rfl) ⟨Nat.le_of_ble_eq_true rfl, Nat.le_of_ble_eq_true rfl⟩ ⟨Nat.le_of_ble_eq_true rfl, Nat.le_of_ble_eq_true rfl⟩ (fun _ => rfl) rfl (fun r1 M1 _ => ?_) (fun q M1 => ?_)
  · refine hz_i2l (n := 8) hC dL_waitIf_7 rfl ?_
    refine hz_last13 (x := r1) (n := 9) hC (by first | rfl | decide) dL_waitIf_8 hIL.2.2 rfl ?_
    refine hz_goto (n := 15) hC dL_waitIf_9 (by decide) ?_
    refine hz_iconst (v := (0 : Int32)) (n := 16) hC dL_waitIf_15 (by decide +kernel) rfl ?_
    exact hz_widen (k0 := 2) (s0 := 6 * 2) ⟨Nat.le_of_ble_eq_true rfl, Nat.le_of_ble_eq_true rfl⟩ (hz_iret hC hr dL_waitIf_16)
  · refine hz_astore_n (L' := [(3, .ref q), (0, .ref (adr 12 0)), (1, .int a1), (2, .ref (adr 13 10))]) (n := 13) hC dL_waitIf_12 rfl (by decide) rfl rfl ?_
    refine hz_iconst (v := (1 : Int32)) (n := 14) hC dL_waitIf_13 (by decide +kernel) rfl ?_
    exact hz_widen (k0 := 2) (s0 := 6 * 2) ⟨Nat.le_of_ble_eq_true rfl, Nat.le_of_ble_eq_true rfl⟩ (hz_iret hC hr dL_waitIf_14)
def F_L_learnsIn (a1 : Int32) (a2 : Int32) (M : hp_M) : Option (Int32 × hp_M) := (hp_bc (F_X8_learnsIn a1 a2 M) (fun r1 M1 => (some ((0 : Int32), (hp_p M1 13 10 0 r1)))) (fun kx M1 => (if kx = 1 then (some ((1 : Int32), M1)) else (if kx = 0 then (some ((2 : Int32), M1)) else none))))
set_option maxRecDepth 20000 in
set_option maxHeartbeats 4000000 in
theorem c_L_learnsIn (l : Launch) (hl0 : l.stackTraces = false) (a1 : Int32) (a2 : Int32)  (M : hp_M) : hp_CtW l yL_learnsIn cL_learnsIn 5 (some .int) [(0, 10, 13, 28), (0, 10, 17, 13)] 9 4 hp_IL (fun adr adV => [.ref (adr 12 0), .int a1, .int a2, .ref (adr 13 10)]) hp_oi M (F_L_learnsIn a1 a2 M) := by
  refine hp_startW "HallPhoneLaw" (fun adr adV => [(0, .ref (adr 12 0)), (1, .int a1), (2, .int a2), (3, .ref (adr 13 10))]) (by decide) rfl (fun _ _ => by simp only [lg_sl]; exact Nat.le_of_ble_eq_true rfl) (fun _ _ => rfl) ?_
  intro p e s m args below meth c A D ids adr adV cA rep G0 hIL hC hr hT9
  have hIB := hIL.1
  have hI := hIB.1
  unfold F_L_learnsIn
  refine hz_aload_n (a := 3) (n := 1) hC dL_learnsIn_0 rfl rfl rfl ?_
  refine hz_iconst (v := (0 : Int32)) (n := 2) hC dL_learnsIn_1 (by decide +kernel) rfl ?_
  refine hz_aload_n (a := 0) (n := 3) hC dL_learnsIn_2 rfl rfl rfl ?_
  refine hz_iload_n (a := 1) (n := 4) hC dL_learnsIn_3 rfl rfl rfl ?_
  refine hz_iload_n (a := 2) (n := 5) hC dL_learnsIn_4 rfl rfl rfl ?_
  refine hz_callVC2 (k := 2) (As := [.int a1, .int a2]) (st := [.int (0 : Int32), .ref (adr 13 10)]) (S1 := fun r1 => .int r1 :: [.int (0 : Int32), .ref (adr 13 10)]) (n := 8) hC (e1 := 1) (e2 := 0) hT9 ⟨by decide, by decide⟩ ⟨by decide, by decide⟩ wd_5_123 wd_5_81 hp_ca1 hp_ca0 hp_nc01 (c_X8_learnsIn l hl0 a1 a2   M) kv_X8_learnsIn wd_6_19 hI dL_learnsIn_5 rfl (hI.2 0 (by decide)) he_X8 rfl rfl rfl (Nat.le_of_ble_eq_true rfl) ⟨Nat.le_of_ble_eq_true rfl, Nat.le_of_ble_eq_true rfl⟩ ⟨Nat.le_of_ble_eq_true rfl, Nat.le_of_ble_eq_true rfl⟩ (fun _ => rfl) rfl (fun r1 M1 _ => ?_) (fun q M1 => ?_) (fun q M1 => ?_)
  · refine hz_i2l (n := 9) hC dL_learnsIn_8 rfl ?_
    refine hz_last13 (x := r1) (n := 10) hC (by first | rfl | decide) dL_learnsIn_9 hIL.2.2 rfl ?_
    refine hz_goto (n := 21) hC dL_learnsIn_10 (by decide) ?_
    refine hz_iconst (v := (0 : Int32)) (n := 22) hC dL_learnsIn_21 (by decide +kernel) rfl ?_
    exact hz_widen (k0 := 4) (s0 := 6 * 4) ⟨Nat.le_of_ble_eq_true rfl, Nat.le_of_ble_eq_true rfl⟩ (hz_iret hC hr dL_learnsIn_22)
  · refine hz_astore (L' := [(4, .ref q), (0, .ref (adr 12 0)), (1, .int a1), (2, .int a2), (3, .ref (adr 13 10))]) (n := 15) hC dL_learnsIn_13 (by decide) rfl rfl ?_
    refine hz_iconst (v := (1 : Int32)) (n := 16) hC dL_learnsIn_15 (by decide +kernel) rfl ?_
    exact hz_widen (k0 := 4) (s0 := 6 * 4) ⟨Nat.le_of_ble_eq_true rfl, Nat.le_of_ble_eq_true rfl⟩ (hz_iret hC hr dL_learnsIn_16)
  · refine hz_astore (L' := [(4, .ref q), (0, .ref (adr 12 0)), (1, .int a1), (2, .int a2), (3, .ref (adr 13 10))]) (n := 19) hC dL_learnsIn_17 (by decide) rfl rfl ?_
    refine hz_iconst (v := (2 : Int32)) (n := 20) hC dL_learnsIn_19 (by decide +kernel) rfl ?_
    exact hz_widen (k0 := 4) (s0 := 6 * 4) ⟨Nat.le_of_ble_eq_true rfl, Nat.le_of_ble_eq_true rfl⟩ (hz_iret hC hr dL_learnsIn_20)
def F_L_ifRung (a1 : Int32) (M : hp_M) : Option (Int32 × hp_M) := (hp_bc (F_X8_ifRung a1 M) (fun r1 M1 => (some ((0 : Int32), (hp_p M1 13 10 0 r1)))) (fun kx M1 => (if kx = 1 then (some ((1 : Int32), M1)) else none)))
set_option maxRecDepth 20000 in
set_option maxHeartbeats 4000000 in
theorem c_L_ifRung (l : Launch) (hl0 : l.stackTraces = false) (a1 : Int32)  (M : hp_M) : hp_CtW l yL_ifRung cL_ifRung 4 (some .int) [(0, 9, 12, 28)] 8 2 hp_IL (fun adr adV => [.ref (adr 12 0), .int a1, .ref (adr 13 10)]) hp_oi M (F_L_ifRung a1 M) := by
  refine hp_startW "HallPhoneLaw" (fun adr adV => [(0, .ref (adr 12 0)), (1, .int a1), (2, .ref (adr 13 10))]) (by decide) rfl (fun _ _ => by simp only [lg_sl]; exact Nat.le_of_ble_eq_true rfl) (fun _ _ => rfl) ?_
  intro p e s m args below meth c A D ids adr adV cA rep G0 hIL hC hr hT9
  have hIB := hIL.1
  have hI := hIB.1
  unfold F_L_ifRung
  refine hz_aload_n (a := 2) (n := 1) hC dL_ifRung_0 rfl rfl rfl ?_
  refine hz_iconst (v := (0 : Int32)) (n := 2) hC dL_ifRung_1 (by decide +kernel) rfl ?_
  refine hz_aload_n (a := 0) (n := 3) hC dL_ifRung_2 rfl rfl rfl ?_
  refine hz_iload_n (a := 1) (n := 4) hC dL_ifRung_3 rfl rfl rfl ?_
  refine hz_callVC1 (k := 1) (As := [.int a1]) (st := [.int (0 : Int32), .ref (adr 13 10)]) (S1 := fun r1 => .int r1 :: [.int (0 : Int32), .ref (adr 13 10)]) (n := 7) hC (e1 := 1) hT9 (by decide) (by decide) wd_5_123 hp_ca1 (c_X8_ifRung l hl0 a1   M) kv_X8_ifRung wd_6_30 hI dL_ifRung_4 rfl (hI.2 0 (by decide)) he_X8 rfl rfl rfl (Nat.le_of_ble_eq_true rfl) ⟨Nat.le_of_ble_eq_true rfl, Nat.le_of_ble_eq_true rfl⟩ ⟨Nat.le_of_ble_eq_true rfl, Nat.le_of_ble_eq_true rfl⟩ (fun _ => rfl) rfl (fun r1 M1 _ => ?_) (fun q M1 => ?_)
  · refine hz_i2l (n := 8) hC dL_ifRung_7 rfl ?_
    refine hz_last13 (x := r1) (n := 9) hC (by first | rfl | decide) dL_ifRung_8 hIL.2.2 rfl ?_
    refine hz_goto (n := 15) hC dL_ifRung_9 (by decide) ?_
    refine hz_iconst (v := (0 : Int32)) (n := 16) hC dL_ifRung_15 (by decide +kernel) rfl ?_
    exact hz_widen (k0 := 2) (s0 := 6 * 2) ⟨Nat.le_of_ble_eq_true rfl, Nat.le_of_ble_eq_true rfl⟩ (hz_iret hC hr dL_ifRung_16)
  · refine hz_astore_n (L' := [(3, .ref q), (0, .ref (adr 12 0)), (1, .int a1), (2, .ref (adr 13 10))]) (n := 13) hC dL_ifRung_12 rfl (by decide) rfl rfl ?_
    refine hz_iconst (v := (1 : Int32)) (n := 14) hC dL_ifRung_13 (by decide +kernel) rfl ?_
    exact hz_widen (k0 := 2) (s0 := 6 * 2) ⟨Nat.le_of_ble_eq_true rfl, Nat.le_of_ble_eq_true rfl⟩ (hz_iret hC hr dL_ifRung_14)
def F_L_account (a1 : Int32) (M : hp_M) : Option (Int32 × hp_M) := (hp_bc (F_X8_account a1 M) (fun r1 M1 => (some ((0 : Int32), (hp_p M1 13 10 0 r1)))) (fun kx M1 => (if kx = 0 then (some ((1 : Int32), M1)) else none)))
set_option maxRecDepth 20000 in
set_option maxHeartbeats 4000000 in
theorem c_L_account (l : Launch) (hl0 : l.stackTraces = false) (a1 : Int32)  (M : hp_M) : hp_CtW l yL_account cL_account 4 (some .int) [(0, 9, 12, 13)] 8 2 hp_IL (fun adr adV => [.ref (adr 12 0), .int a1, .ref (adr 13 10)]) hp_oi M (F_L_account a1 M) := by
  refine hp_startW "HallPhoneLaw" (fun adr adV => [(0, .ref (adr 12 0)), (1, .int a1), (2, .ref (adr 13 10))]) (by decide) rfl (fun _ _ => by simp only [lg_sl]; exact Nat.le_of_ble_eq_true rfl) (fun _ _ => rfl) ?_
  intro p e s m args below meth c A D ids adr adV cA rep G0 hIL hC hr hT9
  have hIB := hIL.1
  have hI := hIB.1
  unfold F_L_account
  refine hz_aload_n (a := 2) (n := 1) hC dL_account_0 rfl rfl rfl ?_
  refine hz_iconst (v := (0 : Int32)) (n := 2) hC dL_account_1 (by decide +kernel) rfl ?_
  refine hz_aload_n (a := 0) (n := 3) hC dL_account_2 rfl rfl rfl ?_
  refine hz_iload_n (a := 1) (n := 4) hC dL_account_3 rfl rfl rfl ?_
  refine hz_callVC1 (k := 1) (As := [.int a1]) (st := [.int (0 : Int32), .ref (adr 13 10)]) (S1 := fun r1 => .int r1 :: [.int (0 : Int32), .ref (adr 13 10)]) (n := 7) hC (e1 := 0) hT9 (by decide) (by decide) wd_5_81 hp_ca0 (c_X8_account l hl0 a1   M) kv_X8_account wd_6_40 hI dL_account_4 rfl (hI.2 0 (by decide)) he_X8 rfl rfl rfl (Nat.le_of_ble_eq_true rfl) ⟨Nat.le_of_ble_eq_true rfl, Nat.le_of_ble_eq_true rfl⟩ ⟨Nat.le_of_ble_eq_true rfl, Nat.le_of_ble_eq_true rfl⟩ (fun _ => rfl) rfl (fun r1 M1 _ => ?_) (fun q M1 => ?_)
  · refine hz_i2l (n := 8) hC dL_account_7 rfl ?_
    refine hz_last13 (x := r1) (n := 9) hC (by first | rfl | decide) dL_account_8 hIL.2.2 rfl ?_
    refine hz_goto (n := 15) hC dL_account_9 (by decide) ?_
    refine hz_iconst (v := (0 : Int32)) (n := 16) hC dL_account_15 (by decide +kernel) rfl ?_
    exact hz_widen (k0 := 2) (s0 := 6 * 2) ⟨Nat.le_of_ble_eq_true rfl, Nat.le_of_ble_eq_true rfl⟩ (hz_iret hC hr dL_account_16)
  · refine hz_astore_n (L' := [(3, .ref q), (0, .ref (adr 12 0)), (1, .int a1), (2, .ref (adr 13 10))]) (n := 13) hC dL_account_12 rfl (by decide) rfl rfl ?_
    refine hz_iconst (v := (1 : Int32)) (n := 14) hC dL_account_13 (by decide +kernel) rfl ?_
    exact hz_widen (k0 := 2) (s0 := 6 * 2) ⟨Nat.le_of_ble_eq_true rfl, Nat.le_of_ble_eq_true rfl⟩ (hz_iret hC hr dL_account_14)
def F_L_want (a1 : Int32) (a2 : Int32) (M : hp_M) : Option (Int32 × hp_M) := (hp_bc (F_X8_want a1 a2 M) (fun r1 M1 => (some ((0 : Int32), (hp_p M1 13 10 0 r1)))) (fun kx M1 => (if kx = 1 then (some ((1 : Int32), M1)) else (if kx = 0 then (some ((2 : Int32), M1)) else none))))
set_option maxRecDepth 20000 in
set_option maxHeartbeats 4000000 in
theorem c_L_want (l : Launch) (hl0 : l.stackTraces = false) (a1 : Int32) (a2 : Int32)  (M : hp_M) : hp_CtW l yL_want cL_want 5 (some .int) [(0, 10, 13, 28), (0, 10, 17, 13)] 9 4 hp_IL (fun adr adV => [.ref (adr 12 0), .int a1, .int a2, .ref (adr 13 10)]) hp_oi M (F_L_want a1 a2 M) := by
  refine hp_startW "HallPhoneLaw" (fun adr adV => [(0, .ref (adr 12 0)), (1, .int a1), (2, .int a2), (3, .ref (adr 13 10))]) (by decide) rfl (fun _ _ => by simp only [lg_sl]; exact Nat.le_of_ble_eq_true rfl) (fun _ _ => rfl) ?_
  intro p e s m args below meth c A D ids adr adV cA rep G0 hIL hC hr hT9
  have hIB := hIL.1
  have hI := hIB.1
  unfold F_L_want
  refine hz_aload_n (a := 3) (n := 1) hC dL_want_0 rfl rfl rfl ?_
  refine hz_iconst (v := (0 : Int32)) (n := 2) hC dL_want_1 (by decide +kernel) rfl ?_
  refine hz_aload_n (a := 0) (n := 3) hC dL_want_2 rfl rfl rfl ?_
  refine hz_iload_n (a := 1) (n := 4) hC dL_want_3 rfl rfl rfl ?_
  refine hz_iload_n (a := 2) (n := 5) hC dL_want_4 rfl rfl rfl ?_
  refine hz_callVC2 (k := 2) (As := [.int a1, .int a2]) (st := [.int (0 : Int32), .ref (adr 13 10)]) (S1 := fun r1 => .int r1 :: [.int (0 : Int32), .ref (adr 13 10)]) (n := 8) hC (e1 := 1) (e2 := 0) hT9 ⟨by decide, by decide⟩ ⟨by decide, by decide⟩ wd_5_123 wd_5_81 hp_ca1 hp_ca0 hp_nc01 (c_X8_want l hl0 a1 a2   M) kv_X8_want wd_6_47 hI dL_want_5 rfl (hI.2 0 (by decide)) he_X8 rfl rfl rfl (Nat.le_of_ble_eq_true rfl) ⟨Nat.le_of_ble_eq_true rfl, Nat.le_of_ble_eq_true rfl⟩ ⟨Nat.le_of_ble_eq_true rfl, Nat.le_of_ble_eq_true rfl⟩ (fun _ => rfl) rfl (fun r1 M1 _ => ?_) (fun q M1 => ?_) (fun q M1 => ?_)
  · refine hz_i2l (n := 9) hC dL_want_8 rfl ?_
    refine hz_last13 (x := r1) (n := 10) hC (by first | rfl | decide) dL_want_9 hIL.2.2 rfl ?_
    refine hz_goto (n := 21) hC dL_want_10 (by decide) ?_
    refine hz_iconst (v := (0 : Int32)) (n := 22) hC dL_want_21 (by decide +kernel) rfl ?_
    exact hz_widen (k0 := 4) (s0 := 6 * 4) ⟨Nat.le_of_ble_eq_true rfl, Nat.le_of_ble_eq_true rfl⟩ (hz_iret hC hr dL_want_22)
  · refine hz_astore (L' := [(4, .ref q), (0, .ref (adr 12 0)), (1, .int a1), (2, .int a2), (3, .ref (adr 13 10))]) (n := 15) hC dL_want_13 (by decide) rfl rfl ?_
    refine hz_iconst (v := (1 : Int32)) (n := 16) hC dL_want_15 (by decide +kernel) rfl ?_
    exact hz_widen (k0 := 4) (s0 := 6 * 4) ⟨Nat.le_of_ble_eq_true rfl, Nat.le_of_ble_eq_true rfl⟩ (hz_iret hC hr dL_want_16)
  · refine hz_astore (L' := [(4, .ref q), (0, .ref (adr 12 0)), (1, .int a1), (2, .int a2), (3, .ref (adr 13 10))]) (n := 19) hC dL_want_17 (by decide) rfl rfl ?_
    refine hz_iconst (v := (2 : Int32)) (n := 20) hC dL_want_19 (by decide +kernel) rfl ?_
    exact hz_widen (k0 := 4) (s0 := 6 * 4) ⟨Nat.le_of_ble_eq_true rfl, Nat.le_of_ble_eq_true rfl⟩ (hz_iret hC hr dL_want_20)
def F_L_drop (a1 : Int32) (M : hp_M) : Option (Int32 × hp_M) := (hp_bc (F_X8_drop a1 M) (fun r1 M1 => (some ((0 : Int32), (hp_p M1 13 10 0 r1)))) (fun kx M1 => (if kx = 1 then (some ((1 : Int32), M1)) else none)))
set_option maxRecDepth 20000 in
set_option maxHeartbeats 4000000 in
theorem c_L_drop (l : Launch) (hl0 : l.stackTraces = false) (a1 : Int32)  (M : hp_M) : hp_CtW l yL_drop cL_drop 4 (some .int) [(0, 9, 12, 28)] 9 4 hp_IL (fun adr adV => [.ref (adr 12 0), .int a1, .ref (adr 13 10)]) hp_oi M (F_L_drop a1 M) := by
  refine hp_startW "HallPhoneLaw" (fun adr adV => [(0, .ref (adr 12 0)), (1, .int a1), (2, .ref (adr 13 10))]) (by decide) rfl (fun _ _ => by simp only [lg_sl]; exact Nat.le_of_ble_eq_true rfl) (fun _ _ => rfl) ?_
  intro p e s m args below meth c A D ids adr adV cA rep G0 hIL hC hr hT9
  have hIB := hIL.1
  have hI := hIB.1
  unfold F_L_drop
  refine hz_aload_n (a := 2) (n := 1) hC dL_drop_0 rfl rfl rfl ?_
  refine hz_iconst (v := (0 : Int32)) (n := 2) hC dL_drop_1 (by decide +kernel) rfl ?_
  refine hz_aload_n (a := 0) (n := 3) hC dL_drop_2 rfl rfl rfl ?_
  refine hz_iload_n (a := 1) (n := 4) hC dL_drop_3 rfl rfl rfl ?_
  refine hz_callVC1 (k := 1) (As := [.int a1]) (st := [.int (0 : Int32), .ref (adr 13 10)]) (S1 := fun r1 => .int r1 :: [.int (0 : Int32), .ref (adr 13 10)]) (n := 7) hC (e1 := 1) hT9 (by decide) (by decide) wd_5_123 hp_ca1 (c_X8_drop l hl0 a1   M) kv_X8_drop wd_6_63 hI dL_drop_4 rfl (hI.2 0 (by decide)) he_X8 rfl rfl rfl (Nat.le_of_ble_eq_true rfl) ⟨Nat.le_of_ble_eq_true rfl, Nat.le_of_ble_eq_true rfl⟩ ⟨Nat.le_of_ble_eq_true rfl, Nat.le_of_ble_eq_true rfl⟩ (fun _ => rfl) rfl (fun r1 M1 _ => ?_) (fun q M1 => ?_)
  · refine hz_i2l (n := 8) hC dL_drop_7 rfl ?_
    refine hz_last13 (x := r1) (n := 9) hC (by first | rfl | decide) dL_drop_8 hIL.2.2 rfl ?_
    refine hz_goto (n := 15) hC dL_drop_9 (by decide) ?_
    refine hz_iconst (v := (0 : Int32)) (n := 16) hC dL_drop_15 (by decide +kernel) rfl ?_
    exact hz_widen (k0 := 4) (s0 := 6 * 4) ⟨Nat.le_of_ble_eq_true rfl, Nat.le_of_ble_eq_true rfl⟩ (hz_iret hC hr dL_drop_16)
  · refine hz_astore_n (L' := [(3, .ref q), (0, .ref (adr 12 0)), (1, .int a1), (2, .ref (adr 13 10))]) (n := 13) hC dL_drop_12 rfl (by decide) rfl rfl ?_
    refine hz_iconst (v := (1 : Int32)) (n := 14) hC dL_drop_13 (by decide +kernel) rfl ?_
    exact hz_widen (k0 := 4) (s0 := 6 * 4) ⟨Nat.le_of_ble_eq_true rfl, Nat.le_of_ble_eq_true rfl⟩ (hz_iret hC hr dL_drop_14)
def F_L_hang (a1 : Int32) (M : hp_M) : Option (Int32 × hp_M) := (hp_bc (F_X8_hang a1 M) (fun r1 M1 => (some ((0 : Int32), (hp_p M1 13 10 0 r1)))) (fun kx M1 => (if kx = 1 then (some ((1 : Int32), M1)) else none)))
set_option maxRecDepth 20000 in
set_option maxHeartbeats 4000000 in
theorem c_L_hang (l : Launch) (hl0 : l.stackTraces = false) (a1 : Int32)  (M : hp_M) : hp_CtW l yL_hang cL_hang 4 (some .int) [(0, 9, 12, 28)] 9 4 hp_IL (fun adr adV => [.ref (adr 12 0), .int a1, .ref (adr 13 10)]) hp_oi M (F_L_hang a1 M) := by
  refine hp_startW "HallPhoneLaw" (fun adr adV => [(0, .ref (adr 12 0)), (1, .int a1), (2, .ref (adr 13 10))]) (by decide) rfl (fun _ _ => by simp only [lg_sl]; exact Nat.le_of_ble_eq_true rfl) (fun _ _ => rfl) ?_
  intro p e s m args below meth c A D ids adr adV cA rep G0 hIL hC hr hT9
  have hIB := hIL.1
  have hI := hIB.1
  unfold F_L_hang
  refine hz_aload_n (a := 2) (n := 1) hC dL_hang_0 rfl rfl rfl ?_
  refine hz_iconst (v := (0 : Int32)) (n := 2) hC dL_hang_1 (by decide +kernel) rfl ?_
  refine hz_aload_n (a := 0) (n := 3) hC dL_hang_2 rfl rfl rfl ?_
  refine hz_iload_n (a := 1) (n := 4) hC dL_hang_3 rfl rfl rfl ?_
  refine hz_callVC1 (k := 1) (As := [.int a1]) (st := [.int (0 : Int32), .ref (adr 13 10)]) (S1 := fun r1 => .int r1 :: [.int (0 : Int32), .ref (adr 13 10)]) (n := 7) hC (e1 := 1) hT9 (by decide) (by decide) wd_5_123 hp_ca1 (c_X8_hang l hl0 a1   M) kv_X8_hang wd_6_72 hI dL_hang_4 rfl (hI.2 0 (by decide)) he_X8 rfl rfl rfl (Nat.le_of_ble_eq_true rfl) ⟨Nat.le_of_ble_eq_true rfl, Nat.le_of_ble_eq_true rfl⟩ ⟨Nat.le_of_ble_eq_true rfl, Nat.le_of_ble_eq_true rfl⟩ (fun _ => rfl) rfl (fun r1 M1 _ => ?_) (fun q M1 => ?_)
  · refine hz_i2l (n := 8) hC dL_hang_7 rfl ?_
    refine hz_last13 (x := r1) (n := 9) hC (by first | rfl | decide) dL_hang_8 hIL.2.2 rfl ?_
    refine hz_goto (n := 15) hC dL_hang_9 (by decide) ?_
    refine hz_iconst (v := (0 : Int32)) (n := 16) hC dL_hang_15 (by decide +kernel) rfl ?_
    exact hz_widen (k0 := 4) (s0 := 6 * 4) ⟨Nat.le_of_ble_eq_true rfl, Nat.le_of_ble_eq_true rfl⟩ (hz_iret hC hr dL_hang_16)
  · refine hz_astore_n (L' := [(3, .ref q), (0, .ref (adr 12 0)), (1, .int a1), (2, .ref (adr 13 10))]) (n := 13) hC dL_hang_12 rfl (by decide) rfl rfl ?_
    refine hz_iconst (v := (1 : Int32)) (n := 14) hC dL_hang_13 (by decide +kernel) rfl ?_
    exact hz_widen (k0 := 4) (s0 := 6 * 4) ⟨Nat.le_of_ble_eq_true rfl, Nat.le_of_ble_eq_true rfl⟩ (hz_iret hC hr dL_hang_14)
def F_L_ring (a1 : Int32) (a2 : Int32) (M : hp_M) : Option (Int32 × hp_M) := (hp_bc (F_X8_ring a1 a2 M) (fun r1 M1 => (some ((0 : Int32), (hp_p M1 13 10 0 r1)))) (fun kx M1 => (if kx = 1 then (some ((1 : Int32), M1)) else (if kx = 0 then (some ((2 : Int32), M1)) else none))))
set_option maxRecDepth 20000 in
set_option maxHeartbeats 4000000 in
theorem c_L_ring (l : Launch) (hl0 : l.stackTraces = false) (a1 : Int32) (a2 : Int32)  (M : hp_M) : hp_CtW l yL_ring cL_ring 5 (some .int) [(0, 10, 13, 28), (0, 10, 17, 13)] 9 4 hp_IL (fun adr adV => [.ref (adr 12 0), .int a1, .int a2, .ref (adr 13 10)]) hp_oi M (F_L_ring a1 a2 M) := by
  refine hp_startW "HallPhoneLaw" (fun adr adV => [(0, .ref (adr 12 0)), (1, .int a1), (2, .int a2), (3, .ref (adr 13 10))]) (by decide) rfl (fun _ _ => by simp only [lg_sl]; exact Nat.le_of_ble_eq_true rfl) (fun _ _ => rfl) ?_
  intro p e s m args below meth c A D ids adr adV cA rep G0 hIL hC hr hT9
  have hIB := hIL.1
  have hI := hIB.1
  unfold F_L_ring
  refine hz_aload_n (a := 3) (n := 1) hC dL_ring_0 rfl rfl rfl ?_
  refine hz_iconst (v := (0 : Int32)) (n := 2) hC dL_ring_1 (by decide +kernel) rfl ?_
  refine hz_aload_n (a := 0) (n := 3) hC dL_ring_2 rfl rfl rfl ?_
  refine hz_iload_n (a := 1) (n := 4) hC dL_ring_3 rfl rfl rfl ?_
  refine hz_iload_n (a := 2) (n := 5) hC dL_ring_4 rfl rfl rfl ?_
  refine hz_callVC2 (k := 2) (As := [.int a1, .int a2]) (st := [.int (0 : Int32), .ref (adr 13 10)]) (S1 := fun r1 => .int r1 :: [.int (0 : Int32), .ref (adr 13 10)]) (n := 8) hC (e1 := 1) (e2 := 0) hT9 ⟨by decide, by decide⟩ ⟨by decide, by decide⟩ wd_5_123 wd_5_81 hp_ca1 hp_ca0 hp_nc01 (c_X8_ring l hl0 a1 a2   M) kv_X8_ring wd_6_81 hI dL_ring_5 rfl (hI.2 0 (by decide)) he_X8 rfl rfl rfl (Nat.le_of_ble_eq_true rfl) ⟨Nat.le_of_ble_eq_true rfl, Nat.le_of_ble_eq_true rfl⟩ ⟨Nat.le_of_ble_eq_true rfl, Nat.le_of_ble_eq_true rfl⟩ (fun _ => rfl) rfl (fun r1 M1 _ => ?_) (fun q M1 => ?_) (fun q M1 => ?_)
  · refine hz_i2l (n := 9) hC dL_ring_8 rfl ?_
    refine hz_last13 (x := r1) (n := 10) hC (by first | rfl | decide) dL_ring_9 hIL.2.2 rfl ?_
    refine hz_goto (n := 21) hC dL_ring_10 (by decide) ?_
    refine hz_iconst (v := (0 : Int32)) (n := 22) hC dL_ring_21 (by decide +kernel) rfl ?_
    exact hz_widen (k0 := 4) (s0 := 6 * 4) ⟨Nat.le_of_ble_eq_true rfl, Nat.le_of_ble_eq_true rfl⟩ (hz_iret hC hr dL_ring_22)
  · refine hz_astore (L' := [(4, .ref q), (0, .ref (adr 12 0)), (1, .int a1), (2, .int a2), (3, .ref (adr 13 10))]) (n := 15) hC dL_ring_13 (by decide) rfl rfl ?_
    refine hz_iconst (v := (1 : Int32)) (n := 16) hC dL_ring_15 (by decide +kernel) rfl ?_
    exact hz_widen (k0 := 4) (s0 := 6 * 4) ⟨Nat.le_of_ble_eq_true rfl, Nat.le_of_ble_eq_true rfl⟩ (hz_iret hC hr dL_ring_16)
  · refine hz_astore (L' := [(4, .ref q), (0, .ref (adr 12 0)), (1, .int a1), (2, .int a2), (3, .ref (adr 13 10))]) (n := 19) hC dL_ring_17 (by decide) rfl rfl ?_
    refine hz_iconst (v := (2 : Int32)) (n := 20) hC dL_ring_19 (by decide +kernel) rfl ?_
    exact hz_widen (k0 := 4) (s0 := 6 * 4) ⟨Nat.le_of_ble_eq_true rfl, Nat.le_of_ble_eq_true rfl⟩ (hz_iret hC hr dL_ring_20)
def F_L_pay (a1 : Int32) (a2 : Int32) (M : hp_M) : Option (Int32 × hp_M) := (hp_bc (F_X8_pay a1 a2 M) (fun r1 M1 => (some ((0 : Int32), (hp_p M1 13 10 0 r1)))) (fun kx M1 => (if kx = 1 then (some ((1 : Int32), M1)) else (if kx = 0 then (some ((2 : Int32), M1)) else none))))
set_option maxRecDepth 20000 in
set_option maxHeartbeats 4000000 in
theorem c_L_pay (l : Launch) (hl0 : l.stackTraces = false) (a1 : Int32) (a2 : Int32)  (M : hp_M) : hp_CtW l yL_pay cL_pay 5 (some .int) [(0, 10, 13, 28), (0, 10, 17, 13)] 9 4 hp_IL (fun adr adV => [.ref (adr 12 0), .int a1, .int a2, .ref (adr 13 10)]) hp_oi M (F_L_pay a1 a2 M) := by
  refine hp_startW "HallPhoneLaw" (fun adr adV => [(0, .ref (adr 12 0)), (1, .int a1), (2, .int a2), (3, .ref (adr 13 10))]) (by decide) rfl (fun _ _ => by simp only [lg_sl]; exact Nat.le_of_ble_eq_true rfl) (fun _ _ => rfl) ?_
  intro p e s m args below meth c A D ids adr adV cA rep G0 hIL hC hr hT9
  have hIB := hIL.1
  have hI := hIB.1
  unfold F_L_pay
  refine hz_aload_n (a := 3) (n := 1) hC dL_pay_0 rfl rfl rfl ?_
  refine hz_iconst (v := (0 : Int32)) (n := 2) hC dL_pay_1 (by decide +kernel) rfl ?_
  refine hz_aload_n (a := 0) (n := 3) hC dL_pay_2 rfl rfl rfl ?_
  refine hz_iload_n (a := 1) (n := 4) hC dL_pay_3 rfl rfl rfl ?_
  refine hz_iload_n (a := 2) (n := 5) hC dL_pay_4 rfl rfl rfl ?_
  refine hz_callVC2 (k := 2) (As := [.int a1, .int a2]) (st := [.int (0 : Int32), .ref (adr 13 10)]) (S1 := fun r1 => .int r1 :: [.int (0 : Int32), .ref (adr 13 10)]) (n := 8) hC (e1 := 1) (e2 := 0) hT9 ⟨by decide, by decide⟩ ⟨by decide, by decide⟩ wd_5_123 wd_5_81 hp_ca1 hp_ca0 hp_nc01 (c_X8_pay l hl0 a1 a2   M) kv_X8_pay wd_6_88 hI dL_pay_5 rfl (hI.2 0 (by decide)) he_X8 rfl rfl rfl (Nat.le_of_ble_eq_true rfl) ⟨Nat.le_of_ble_eq_true rfl, Nat.le_of_ble_eq_true rfl⟩ ⟨Nat.le_of_ble_eq_true rfl, Nat.le_of_ble_eq_true rfl⟩ (fun _ => rfl) rfl (fun r1 M1 _ => ?_) (fun q M1 => ?_) (fun q M1 => ?_)
  · refine hz_i2l (n := 9) hC dL_pay_8 rfl ?_
    refine hz_last13 (x := r1) (n := 10) hC (by first | rfl | decide) dL_pay_9 hIL.2.2 rfl ?_
    refine hz_goto (n := 21) hC dL_pay_10 (by decide) ?_
    refine hz_iconst (v := (0 : Int32)) (n := 22) hC dL_pay_21 (by decide +kernel) rfl ?_
    exact hz_widen (k0 := 4) (s0 := 6 * 4) ⟨Nat.le_of_ble_eq_true rfl, Nat.le_of_ble_eq_true rfl⟩ (hz_iret hC hr dL_pay_22)
  · refine hz_astore (L' := [(4, .ref q), (0, .ref (adr 12 0)), (1, .int a1), (2, .int a2), (3, .ref (adr 13 10))]) (n := 15) hC dL_pay_13 (by decide) rfl rfl ?_
    refine hz_iconst (v := (1 : Int32)) (n := 16) hC dL_pay_15 (by decide +kernel) rfl ?_
    exact hz_widen (k0 := 4) (s0 := 6 * 4) ⟨Nat.le_of_ble_eq_true rfl, Nat.le_of_ble_eq_true rfl⟩ (hz_iret hC hr dL_pay_16)
  · refine hz_astore (L' := [(4, .ref q), (0, .ref (adr 12 0)), (1, .int a1), (2, .int a2), (3, .ref (adr 13 10))]) (n := 19) hC dL_pay_17 (by decide) rfl rfl ?_
    refine hz_iconst (v := (2 : Int32)) (n := 20) hC dL_pay_19 (by decide +kernel) rfl ?_
    exact hz_widen (k0 := 4) (s0 := 6 * 4) ⟨Nat.le_of_ble_eq_true rfl, Nat.le_of_ble_eq_true rfl⟩ (hz_iret hC hr dL_pay_20)
def F_L_setCurious (a1 : Int32) (a2 : Int32) (M : hp_M) : Option (Int32 × hp_M) := (hp_bc (F_X8_setCurious a1 a2 M) (fun r1 M1 => (if r1 = 0 then (some ((0 : Int32), (hp_p M1 13 10 0 (0 : Int32)))) else (some ((0 : Int32), (hp_p M1 13 10 0 (1 : Int32)))))) (fun kx M1 => (if kx = 1 then (some ((1 : Int32), M1)) else none)))
set_option maxRecDepth 20000 in
set_option maxHeartbeats 4000000 in
theorem c_L_setCurious (l : Launch) (hl0 : l.stackTraces = false) (a1 : Int32) (a2 : Int32)  (M : hp_M) : hp_CtW l yL_setCurious cL_setCurious 5 (some .int) [(0, 17, 20, 28)] 8 2 hp_IL (fun adr adV => [.ref (adr 12 0), .int a1, .int a2, .ref (adr 13 10)]) hp_oi M (F_L_setCurious a1 a2 M) := by
  refine hp_startW "HallPhoneLaw" (fun adr adV => [(0, .ref (adr 12 0)), (1, .int a1), (2, .int a2), (3, .ref (adr 13 10))]) (by decide) rfl (fun _ _ => by simp only [lg_sl]; exact Nat.le_of_ble_eq_true rfl) (fun _ _ => rfl) ?_
  intro p e s m args below meth c A D ids adr adV cA rep G0 hIL hC hr hT9
  have hIB := hIL.1
  have hI := hIB.1
  unfold F_L_setCurious
  refine hz_aload_n (a := 3) (n := 1) hC dL_setCurious_0 rfl rfl rfl ?_
  refine hz_iconst (v := (0 : Int32)) (n := 2) hC dL_setCurious_1 (by decide +kernel) rfl ?_
  refine hz_aload_n (a := 0) (n := 3) hC dL_setCurious_2 rfl rfl rfl ?_
  refine hz_iload_n (a := 1) (n := 4) hC dL_setCurious_3 rfl rfl rfl ?_
  refine hz_iload_n (a := 2) (n := 5) hC dL_setCurious_4 rfl rfl rfl ?_
  refine hz_callVC1 (k := 2) (As := [.int a1, .int a2]) (st := [.int (0 : Int32), .ref (adr 13 10)]) (S1 := fun r1 => .int r1 :: [.int (0 : Int32), .ref (adr 13 10)]) (n := 8) hC (e1 := 1) hT9 (by decide) (by decide) wd_5_123 hp_ca1 (c_X8_setCurious l hl0 a1 a2   M) kv_X8_setCurious wd_6_97 hI dL_setCurious_5 rfl (hI.2 0 (by decide)) he_X8 rfl rfl rfl (Nat.le_of_ble_eq_true rfl) ⟨Nat.le_of_ble_eq_true rfl, Nat.le_of_ble_eq_true rfl⟩ ⟨Nat.le_of_ble_eq_true rfl, Nat.le_of_ble_eq_true rfl⟩ (fun _ => rfl) rfl (fun r1 M1 _ => ?_) (fun q M1 => ?_)
  · refine hz_if_eq (tgt := 15) (n := 11) hC dL_setCurious_8 (by decide) rfl (fun _ => ?_) (fun _ => ?_)
    · refine hz_lconst (v := (0 : Int64)) (n := 16) hC dL_setCurious_15 (by decide +kernel) rfl ?_
      refine hz_last13 (x := (0 : Int32)) (n := 17) hC (by first | rfl | decide) dL_setCurious_16 hIL.2.2 rfl ?_
      refine hz_goto (n := 24) hC dL_setCurious_17 (by decide) ?_
      refine hz_iconst (v := (0 : Int32)) (n := 25) hC dL_setCurious_24 (by decide +kernel) rfl ?_
      exact hz_widen (k0 := 2) (s0 := 6 * 2) ⟨Nat.le_of_ble_eq_true rfl, Nat.le_of_ble_eq_true rfl⟩ (hz_iret hC hr dL_setCurious_25)
    · refine hz_lconst (v := (1 : Int64)) (n := 12) hC dL_setCurious_11 (by decide +kernel) rfl ?_
      refine hz_goto (n := 16) hC dL_setCurious_12 (by decide) ?_
      refine hz_last13 (x := (1 : Int32)) (n := 17) hC (by first | rfl | decide) dL_setCurious_16 hIL.2.2 rfl ?_
      refine hz_goto (n := 24) hC dL_setCurious_17 (by decide) ?_
      refine hz_iconst (v := (0 : Int32)) (n := 25) hC dL_setCurious_24 (by decide +kernel) rfl ?_
      exact hz_widen (k0 := 2) (s0 := 6 * 2) ⟨Nat.le_of_ble_eq_true rfl, Nat.le_of_ble_eq_true rfl⟩ (hz_iret hC hr dL_setCurious_25)
  · refine hz_astore (L' := [(4, .ref q), (0, .ref (adr 12 0)), (1, .int a1), (2, .int a2), (3, .ref (adr 13 10))]) (n := 22) hC dL_setCurious_20 (by decide) rfl rfl ?_
    refine hz_iconst (v := (1 : Int32)) (n := 23) hC dL_setCurious_22 (by decide +kernel) rfl ?_
    exact hz_widen (k0 := 2) (s0 := 6 * 2) ⟨Nat.le_of_ble_eq_true rfl, Nat.le_of_ble_eq_true rfl⟩ (hz_iret hC hr dL_setCurious_23)
def F_L_set (a1 : Int32) (a2 : Int32) (M : hp_M) : Option (Int32 × hp_M) := (hp_bc (F_X8_set a1 a2 M) (fun r1 M1 => (some ((0 : Int32), (hp_p M1 13 10 0 r1)))) (fun kx M1 => (if kx = 0 then (some ((1 : Int32), M1)) else none)))
set_option maxRecDepth 20000 in
set_option maxHeartbeats 4000000 in
theorem c_L_set (l : Launch) (hl0 : l.stackTraces = false) (a1 : Int32) (a2 : Int32)  (M : hp_M) : hp_CtW l yL_set cL_set 5 (some .int) [(0, 10, 13, 13)] 8 3 hp_IL (fun adr adV => [.ref (adr 12 0), .int a1, .int a2, .ref (adr 13 10)]) hp_oi M (F_L_set a1 a2 M) := by
  refine hp_startW "HallPhoneLaw" (fun adr adV => [(0, .ref (adr 12 0)), (1, .int a1), (2, .int a2), (3, .ref (adr 13 10))]) (by decide) rfl (fun _ _ => by simp only [lg_sl]; exact Nat.le_of_ble_eq_true rfl) (fun _ _ => rfl) ?_
  intro p e s m args below meth c A D ids adr adV cA rep G0 hIL hC hr hT9
  have hIB := hIL.1
  have hI := hIB.1
  unfold F_L_set
  refine hz_aload_n (a := 3) (n := 1) hC dL_set_0 rfl rfl rfl ?_
  refine hz_iconst (v := (0 : Int32)) (n := 2) hC dL_set_1 (by decide +kernel) rfl ?_
  refine hz_aload_n (a := 0) (n := 3) hC dL_set_2 rfl rfl rfl ?_
  refine hz_iload_n (a := 1) (n := 4) hC dL_set_3 rfl rfl rfl ?_
  refine hz_iload_n (a := 2) (n := 5) hC dL_set_4 rfl rfl rfl ?_
  refine hz_callVC1 (k := 2) (As := [.int a1, .int a2]) (st := [.int (0 : Int32), .ref (adr 13 10)]) (S1 := fun r1 => .int r1 :: [.int (0 : Int32), .ref (adr 13 10)]) (n := 8) hC (e1 := 0) hT9 (by decide) (by decide) wd_5_81 hp_ca0 (c_X8_set l hl0 a1 a2   M) kv_X8_set wd_6_105 hI dL_set_5 rfl (hI.2 0 (by decide)) he_X8 rfl rfl rfl (Nat.le_of_ble_eq_true rfl) ⟨Nat.le_of_ble_eq_true rfl, Nat.le_of_ble_eq_true rfl⟩ ⟨Nat.le_of_ble_eq_true rfl, Nat.le_of_ble_eq_true rfl⟩ (fun _ => rfl) rfl (fun r1 M1 _ => ?_) (fun q M1 => ?_)
  · refine hz_i2l (n := 9) hC dL_set_8 rfl ?_
    refine hz_last13 (x := r1) (n := 10) hC (by first | rfl | decide) dL_set_9 hIL.2.2 rfl ?_
    refine hz_goto (n := 17) hC dL_set_10 (by decide) ?_
    refine hz_iconst (v := (0 : Int32)) (n := 18) hC dL_set_17 (by decide +kernel) rfl ?_
    exact hz_widen (k0 := 3) (s0 := 6 * 3) ⟨Nat.le_of_ble_eq_true rfl, Nat.le_of_ble_eq_true rfl⟩ (hz_iret hC hr dL_set_18)
  · refine hz_astore (L' := [(4, .ref q), (0, .ref (adr 12 0)), (1, .int a1), (2, .int a2), (3, .ref (adr 13 10))]) (n := 15) hC dL_set_13 (by decide) rfl rfl ?_
    refine hz_iconst (v := (1 : Int32)) (n := 16) hC dL_set_15 (by decide +kernel) rfl ?_
    exact hz_widen (k0 := 3) (s0 := 6 * 3) ⟨Nat.le_of_ble_eq_true rfl, Nat.le_of_ble_eq_true rfl⟩ (hz_iret hC hr dL_set_16)
def F_L_pass (a1 : Int32) (M : hp_M) : Option (Int32 × hp_M) := (hp_bc (F_X8_pass a1 M) (fun r1 M1 => (some ((0 : Int32), (hp_p M1 13 10 0 r1)))) (fun kx M1 => (if kx = 0 then (some ((1 : Int32), M1)) else none)))
set_option maxRecDepth 20000 in
set_option maxHeartbeats 4000000 in
theorem c_L_pass (l : Launch) (hl0 : l.stackTraces = false) (a1 : Int32)  (M : hp_M) : hp_CtW l yL_pass cL_pass 4 (some .int) [(0, 9, 12, 13)] 8 2 hp_IL (fun adr adV => [.ref (adr 12 0), .int a1, .ref (adr 13 10)]) hp_oi M (F_L_pass a1 M) := by
  refine hp_startW "HallPhoneLaw" (fun adr adV => [(0, .ref (adr 12 0)), (1, .int a1), (2, .ref (adr 13 10))]) (by decide) rfl (fun _ _ => by simp only [lg_sl]; exact Nat.le_of_ble_eq_true rfl) (fun _ _ => rfl) ?_
  intro p e s m args below meth c A D ids adr adV cA rep G0 hIL hC hr hT9
  have hIB := hIL.1
  have hI := hIB.1
  unfold F_L_pass
  refine hz_aload_n (a := 2) (n := 1) hC dL_pass_0 rfl rfl rfl ?_
  refine hz_iconst (v := (0 : Int32)) (n := 2) hC dL_pass_1 (by decide +kernel) rfl ?_
  refine hz_aload_n (a := 0) (n := 3) hC dL_pass_2 rfl rfl rfl ?_
  refine hz_iload_n (a := 1) (n := 4) hC dL_pass_3 rfl rfl rfl ?_
  refine hz_callVC1 (k := 1) (As := [.int a1]) (st := [.int (0 : Int32), .ref (adr 13 10)]) (S1 := fun r1 => .int r1 :: [.int (0 : Int32), .ref (adr 13 10)]) (n := 7) hC (e1 := 0) hT9 (by decide) (by decide) wd_5_81 hp_ca0 (c_X8_pass l hl0 a1   M) kv_X8_pass wd_6_117 hI dL_pass_4 rfl (hI.2 0 (by decide)) he_X8 rfl rfl rfl (Nat.le_of_ble_eq_true rfl) ⟨Nat.le_of_ble_eq_true rfl, Nat.le_of_ble_eq_true rfl⟩ ⟨Nat.le_of_ble_eq_true rfl, Nat.le_of_ble_eq_true rfl⟩ (fun _ => rfl) rfl (fun r1 M1 _ => ?_) (fun q M1 => ?_)
  · refine hz_i2l (n := 8) hC dL_pass_7 rfl ?_
    refine hz_last13 (x := r1) (n := 9) hC (by first | rfl | decide) dL_pass_8 hIL.2.2 rfl ?_
    refine hz_goto (n := 15) hC dL_pass_9 (by decide) ?_
    refine hz_iconst (v := (0 : Int32)) (n := 16) hC dL_pass_15 (by decide +kernel) rfl ?_
    exact hz_widen (k0 := 2) (s0 := 6 * 2) ⟨Nat.le_of_ble_eq_true rfl, Nat.le_of_ble_eq_true rfl⟩ (hz_iret hC hr dL_pass_16)
  · refine hz_astore_n (L' := [(3, .ref q), (0, .ref (adr 12 0)), (1, .int a1), (2, .ref (adr 13 10))]) (n := 13) hC dL_pass_12 rfl (by decide) rfl rfl ?_
    refine hz_iconst (v := (1 : Int32)) (n := 14) hC dL_pass_13 (by decide +kernel) rfl ?_
    exact hz_widen (k0 := 2) (s0 := 6 * 2) ⟨Nat.le_of_ble_eq_true rfl, Nat.le_of_ble_eq_true rfl⟩ (hz_iret hC hr dL_pass_14)
def F_L_saveSnapshot (a1 : Int32) (M : hp_M) : Option (Int32 × hp_M) := (hp_bc (F_X8_saveSnapshot a1 M) (fun r1 M1 => (if r1 = 0 then (some ((0 : Int32), (hp_p M1 13 10 0 (0 : Int32)))) else (some ((0 : Int32), (hp_p M1 13 10 0 (1 : Int32)))))) (fun kx M1 => (if kx = 0 then (some ((1 : Int32), M1)) else none)))
set_option maxRecDepth 20000 in
set_option maxHeartbeats 4000000 in
theorem c_L_saveSnapshot (l : Launch) (hl0 : l.stackTraces = false) (a1 : Int32)  (M : hp_M) : hp_CtW l yL_saveSnapshot cL_saveSnapshot 4 (some .int) [(0, 16, 19, 13)] 8 2 hp_IL (fun adr adV => [.ref (adr 12 0), .int a1, .ref (adr 13 10)]) hp_oi M (F_L_saveSnapshot a1 M) := by
  refine hp_startW "HallPhoneLaw" (fun adr adV => [(0, .ref (adr 12 0)), (1, .int a1), (2, .ref (adr 13 10))]) (by decide) rfl (fun _ _ => by simp only [lg_sl]; exact Nat.le_of_ble_eq_true rfl) (fun _ _ => rfl) ?_
  intro p e s m args below meth c A D ids adr adV cA rep G0 hIL hC hr hT9
  have hIB := hIL.1
  have hI := hIB.1
  unfold F_L_saveSnapshot
  refine hz_aload_n (a := 2) (n := 1) hC dL_saveSnapshot_0 rfl rfl rfl ?_
  refine hz_iconst (v := (0 : Int32)) (n := 2) hC dL_saveSnapshot_1 (by decide +kernel) rfl ?_
  refine hz_aload_n (a := 0) (n := 3) hC dL_saveSnapshot_2 rfl rfl rfl ?_
  refine hz_iload_n (a := 1) (n := 4) hC dL_saveSnapshot_3 rfl rfl rfl ?_
  refine hz_callVC1 (k := 1) (As := [.int a1]) (st := [.int (0 : Int32), .ref (adr 13 10)]) (S1 := fun r1 => .int r1 :: [.int (0 : Int32), .ref (adr 13 10)]) (n := 7) hC (e1 := 0) hT9 (by decide) (by decide) wd_5_81 hp_ca0 (c_X8_saveSnapshot l hl0 a1   M) kv_X8_saveSnapshot wd_6_126 hI dL_saveSnapshot_4 rfl (hI.2 0 (by decide)) he_X8 rfl rfl rfl (Nat.le_of_ble_eq_true rfl) ⟨Nat.le_of_ble_eq_true rfl, Nat.le_of_ble_eq_true rfl⟩ ⟨Nat.le_of_ble_eq_true rfl, Nat.le_of_ble_eq_true rfl⟩ (fun _ => rfl) rfl (fun r1 M1 _ => ?_) (fun q M1 => ?_)
  · refine hz_if_eq (tgt := 14) (n := 10) hC dL_saveSnapshot_7 (by decide) rfl (fun _ => ?_) (fun _ => ?_)
    · refine hz_lconst (v := (0 : Int64)) (n := 15) hC dL_saveSnapshot_14 (by decide +kernel) rfl ?_
      refine hz_last13 (x := (0 : Int32)) (n := 16) hC (by first | rfl | decide) dL_saveSnapshot_15 hIL.2.2 rfl ?_
      refine hz_goto (n := 22) hC dL_saveSnapshot_16 (by decide) ?_
      refine hz_iconst (v := (0 : Int32)) (n := 23) hC dL_saveSnapshot_22 (by decide +kernel) rfl ?_
      exact hz_widen (k0 := 2) (s0 := 6 * 2) ⟨Nat.le_of_ble_eq_true rfl, Nat.le_of_ble_eq_true rfl⟩ (hz_iret hC hr dL_saveSnapshot_23)
    · refine hz_lconst (v := (1 : Int64)) (n := 11) hC dL_saveSnapshot_10 (by decide +kernel) rfl ?_
      refine hz_goto (n := 15) hC dL_saveSnapshot_11 (by decide) ?_
      refine hz_last13 (x := (1 : Int32)) (n := 16) hC (by first | rfl | decide) dL_saveSnapshot_15 hIL.2.2 rfl ?_
      refine hz_goto (n := 22) hC dL_saveSnapshot_16 (by decide) ?_
      refine hz_iconst (v := (0 : Int32)) (n := 23) hC dL_saveSnapshot_22 (by decide +kernel) rfl ?_
      exact hz_widen (k0 := 2) (s0 := 6 * 2) ⟨Nat.le_of_ble_eq_true rfl, Nat.le_of_ble_eq_true rfl⟩ (hz_iret hC hr dL_saveSnapshot_23)
  · refine hz_astore_n (L' := [(3, .ref q), (0, .ref (adr 12 0)), (1, .int a1), (2, .ref (adr 13 10))]) (n := 20) hC dL_saveSnapshot_19 rfl (by decide) rfl rfl ?_
    refine hz_iconst (v := (1 : Int32)) (n := 21) hC dL_saveSnapshot_20 (by decide +kernel) rfl ?_
    exact hz_widen (k0 := 2) (s0 := 6 * 2) ⟨Nat.le_of_ble_eq_true rfl, Nat.le_of_ble_eq_true rfl⟩ (hz_iret hC hr dL_saveSnapshot_21)
def F_L_restoreSnapshot (a1 : Int32) (M : hp_M) : Option (Int32 × hp_M) := (hp_bc (F_X8_restoreSnapshot a1 M) (fun r1 M1 => (some ((0 : Int32), (hp_p M1 13 10 0 r1)))) (fun kx M1 => (if kx = 0 then (some ((1 : Int32), M1)) else (if kx = 2 then (some ((2 : Int32), M1)) else none))))
set_option maxRecDepth 20000 in
set_option maxHeartbeats 4000000 in
theorem c_L_restoreSnapshot (l : Launch) (hl0 : l.stackTraces = false) (a1 : Int32)  (M : hp_M) : hp_CtW l yL_restoreSnapshot cL_restoreSnapshot 4 (some .int) [(0, 9, 12, 13), (0, 9, 15, 33)] 8 3 hp_IL (fun adr adV => [.ref (adr 12 0), .int a1, .ref (adr 13 10)]) hp_oi M (F_L_restoreSnapshot a1 M) := by
  refine hp_startW "HallPhoneLaw" (fun adr adV => [(0, .ref (adr 12 0)), (1, .int a1), (2, .ref (adr 13 10))]) (by decide) rfl (fun _ _ => by simp only [lg_sl]; exact Nat.le_of_ble_eq_true rfl) (fun _ _ => rfl) ?_
  intro p e s m args below meth c A D ids adr adV cA rep G0 hIL hC hr hT9
  have hIB := hIL.1
  have hI := hIB.1
  unfold F_L_restoreSnapshot
  refine hz_aload_n (a := 2) (n := 1) hC dL_restoreSnapshot_0 rfl rfl rfl ?_
  refine hz_iconst (v := (0 : Int32)) (n := 2) hC dL_restoreSnapshot_1 (by decide +kernel) rfl ?_
  refine hz_aload_n (a := 0) (n := 3) hC dL_restoreSnapshot_2 rfl rfl rfl ?_
  refine hz_iload_n (a := 1) (n := 4) hC dL_restoreSnapshot_3 rfl rfl rfl ?_
  refine hz_callVC2 (k := 1) (As := [.int a1]) (st := [.int (0 : Int32), .ref (adr 13 10)]) (S1 := fun r1 => .int r1 :: [.int (0 : Int32), .ref (adr 13 10)]) (n := 7) hC (e1 := 0) (e2 := 2) hT9 ⟨by decide, by decide⟩ ⟨by decide, by decide⟩ wd_5_81 wd_5_148 hp_ca0 hp_ca2 hp_nc20 (c_X8_restoreSnapshot l hl0 a1   M) kv_X8_restoreSnapshot wd_6_141 hI dL_restoreSnapshot_4 rfl (hI.2 0 (by decide)) he_X8 rfl rfl rfl (Nat.le_of_ble_eq_true rfl) ⟨Nat.le_of_ble_eq_true rfl, Nat.le_of_ble_eq_true rfl⟩ ⟨Nat.le_of_ble_eq_true rfl, Nat.le_of_ble_eq_true rfl⟩ (fun _ => rfl) rfl (fun r1 M1 _ => ?_) (fun q M1 => ?_) (fun q M1 => ?_)
  · refine hz_i2l (n := 8) hC dL_restoreSnapshot_7 rfl ?_
    refine hz_last13 (x := r1) (n := 9) hC (by first | rfl | decide) dL_restoreSnapshot_8 hIL.2.2 rfl ?_
    refine hz_goto (n := 18) hC dL_restoreSnapshot_9 (by decide) ?_
    refine hz_iconst (v := (0 : Int32)) (n := 19) hC dL_restoreSnapshot_18 (by decide +kernel) rfl ?_
    exact hz_widen (k0 := 3) (s0 := 6 * 3) ⟨Nat.le_of_ble_eq_true rfl, Nat.le_of_ble_eq_true rfl⟩ (hz_iret hC hr dL_restoreSnapshot_19)
  · refine hz_astore_n (L' := [(3, .ref q), (0, .ref (adr 12 0)), (1, .int a1), (2, .ref (adr 13 10))]) (n := 13) hC dL_restoreSnapshot_12 rfl (by decide) rfl rfl ?_
    refine hz_iconst (v := (1 : Int32)) (n := 14) hC dL_restoreSnapshot_13 (by decide +kernel) rfl ?_
    exact hz_widen (k0 := 3) (s0 := 6 * 3) ⟨Nat.le_of_ble_eq_true rfl, Nat.le_of_ble_eq_true rfl⟩ (hz_iret hC hr dL_restoreSnapshot_14)
  · refine hz_astore_n (L' := [(3, .ref q), (0, .ref (adr 12 0)), (1, .int a1), (2, .ref (adr 13 10))]) (n := 16) hC dL_restoreSnapshot_15 rfl (by decide) rfl rfl ?_
    refine hz_iconst (v := (2 : Int32)) (n := 17) hC dL_restoreSnapshot_16 (by decide +kernel) rfl ?_
    exact hz_widen (k0 := 3) (s0 := 6 * 3) ⟨Nat.le_of_ble_eq_true rfl, Nat.le_of_ble_eq_true rfl⟩ (hz_iret hC hr dL_restoreSnapshot_17)
