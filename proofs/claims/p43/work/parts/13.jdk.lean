def F_X8_copyRow (g0 j0 g1 j1 n0 : Nat) (M : hp_M) : Option (Unit × hp_M) := some ((), hp_sr M g1 j1 (hp_cpy n0 (M g0 j0) (M g1 j1)))
theorem c_X8_copyRow (l : Launch) (g0 j0 g1 j1 n0 : Nat) (hn0 : n0 < 2 ^ 31) (hq0 : ∀ ids, hp_IC ids → (g0, j0) ∈ ids) (hq1 : ∀ ids, hp_IC ids → (g1, j1) ∈ ids) (he0 : ∀ (adr : Nat → Nat → Nat) (adV cA : Nat → Nat) (f : Nat → Int32), hp_c adr adV cA g0 j0 f = .inl (cA 0, n0, .inl f)) (he1 : ∀ (adr : Nat → Nat → Nat) (adV cA : Nat → Nat) (f : Nat → Int32), hp_c adr adV cA g1 j1 f = .inl (cA 0, n0, .inl f)) (M : hp_M) : hp_Ct l yX8_copyRow cX8_copyRow 2 none 1 hp_IC (fun adr adV => [.ref (adr g0 j0), .ref (adr g1 j1)]) hp_oo M (F_X8_copyRow g0 j0 g1 j1 n0 M) := by
  refine hp_start "HallPhone" (fun adr adV => [(0, .ref (adr g0 j0)), (1, .ref (adr g1 j1))]) (by decide) rfl (fun _ _ => by simp only [lg_sl]; exact Nat.le_of_ble_eq_true rfl) (fun _ _ => rfl) ?_
  intro p e s m args below meth c A D ids adr adV cA rep G0 hI hC hr
  unfold F_X8_copyRow
  refine hz_aload_n (a := 0) (n := 1) hC dX8_copyRow_0 rfl rfl rfl ?_
  refine hz_iconst (v := (0 : Int32)) (n := 2) hC dX8_copyRow_1 (by decide +kernel) rfl ?_
  refine hz_aload_n (a := 1) (n := 3) hC dX8_copyRow_2 rfl rfl rfl ?_
  refine hz_iconst (v := (0 : Int32)) (n := 4) hC dX8_copyRow_3 (by decide +kernel) rfl ?_
  refine hz_aload_n (a := 0) (n := 5) hC dX8_copyRow_4 rfl rfl rfl ?_
  refine hz_alen (v := nI n0) (t := 0) (n := 6) hC dX8_copyRow_5 (hq0 _ hI) (he0 _ _ _) rfl rfl rfl ?_
  refine hz_aload_n (a := 1) (n := 7) hC dX8_copyRow_6 rfl rfl rfl ?_
  refine hz_alen (v := nI n0) (t := 0) (n := 8) hC dX8_copyRow_7 (hq1 _ hI) (he1 _ _ _) rfl rfl rfl ?_
  refine hz_min (n := 11) hC dX8_copyRow_8 wd_2_59 hp_minw ⟨Nat.le_of_ble_eq_true rfl, Nat.le_of_ble_eq_true rfl, Nat.zero_le _, Nat.zero_le _⟩ rfl ?_
  refine hz_copyM (N := n0) (n := 14) hC (ite_self _) hn0 wd_2_60 hp_acwo ⟨Nat.le_of_ble_eq_true rfl, by decide⟩ dX8_copyRow_11 (hq0 _ hI) (hq1 _ hI) (he0 _ _ _) (he1 _ _ _) rfl ?_
  exact hz_vret hC hr dX8_copyRow_14
def F_X8_copyRowT (g1 j1 : Nat) (M : hp_M) : Option (Unit × hp_M) := some ((), hp_sr M g1 j1 (hp_cpy 6 (fun i => hp_fs.getD i 0) (M g1 j1)))
theorem c_X8_copyRowT (l : Launch) (g1 j1 : Nat) (hq1 : ∀ ids, hp_IC ids → (g1, j1) ∈ ids) (he1 : ∀ (adr : Nat → Nat → Nat) (adV cA : Nat → Nat) (f : Nat → Int32), hp_c adr adV cA g1 j1 f = .inl (cA 0, 6, .inl f)) (M : hp_M) : hp_Ct l yX8_copyRow cX8_copyRow 2 none 1 hp_IC (fun adr adV => [.ref (adV 12), .ref (adr g1 j1)]) hp_oo M (F_X8_copyRowT g1 j1 M) := by
  refine hp_start "HallPhone" (fun adr adV => [(0, .ref (adV 12)), (1, .ref (adr g1 j1))]) (by decide) rfl (fun _ _ => by simp only [lg_sl]; exact Nat.le_of_ble_eq_true rfl) (fun _ _ => rfl) ?_
  intro p e s m args below meth c A D ids adr adV cA rep G0 hI hC hr
  unfold F_X8_copyRowT
  refine hz_aload_n (a := 0) (n := 1) hC dX8_copyRow_0 rfl rfl rfl ?_
  refine hz_iconst (v := (0 : Int32)) (n := 2) hC dX8_copyRow_1 (by decide +kernel) rfl ?_
  refine hz_aload_n (a := 1) (n := 3) hC dX8_copyRow_2 rfl rfl rfl ?_
  refine hz_iconst (v := (0 : Int32)) (n := 4) hC dX8_copyRow_3 (by decide +kernel) rfl ?_
  refine hz_aload_n (a := 0) (n := 5) hC dX8_copyRow_4 rfl rfl rfl ?_
  refine hz_tlen (n := 6) hC dX8_copyRow_5 (hp_fs_T hC.2.2.2.2.1) rfl ?_
  refine hz_aload_n (a := 1) (n := 7) hC dX8_copyRow_6 rfl rfl rfl ?_
  refine hz_alen (v := nI 6) (t := 0) (n := 8) hC dX8_copyRow_7 (hq1 _ hI) (he1 _ _ _) rfl rfl rfl ?_
  refine hz_min (n := 11) hC dX8_copyRow_8 wd_2_59 hp_minw ⟨Nat.le_of_ble_eq_true rfl, Nat.le_of_ble_eq_true rfl, Nat.zero_le _, Nat.zero_le _⟩ rfl ?_
  refine hz_copyT (N := 6) (n := 14) hC (ite_self _) (by decide) wd_2_60 hp_acwo ⟨Nat.le_of_ble_eq_true rfl, by decide⟩ dX8_copyRow_11 (hp_fs_T hC.2.2.2.2.1) (hq1 _ hI) (he1 _ _ _) rfl ?_
  exact hz_vret hC hr dX8_copyRow_14
def F_J6_bitCount_0f7a4 (a0 : Int32) (M : hp_M) : Option (Int32 × hp_M) := (some (((((((((a0 - (((a0.toUInt32 >>> ((1 : Int32).toUInt32 &&& Int32.toUInt32 31)).toInt32) &&& (1431655765 : Int32))) &&& (858993459 : Int32)) + ((((a0 - (((a0.toUInt32 >>> ((1 : Int32).toUInt32 &&& Int32.toUInt32 31)).toInt32) &&& (1431655765 : Int32))).toUInt32 >>> ((2 : Int32).toUInt32 &&& Int32.toUInt32 31)).toInt32) &&& (858993459 : Int32))) + (((((a0 - (((a0.toUInt32 >>> ((1 : Int32).toUInt32 &&& Int32.toUInt32 31)).toInt32) &&& (1431655765 : Int32))) &&& (858993459 : Int32)) + ((((a0 - (((a0.toUInt32 >>> ((1 : Int32).toUInt32 &&& Int32.toUInt32 31)).toInt32) &&& (1431655765 : Int32))).toUInt32 >>> ((2 : Int32).toUInt32 &&& Int32.toUInt32 31)).toInt32) &&& (858993459 : Int32))).toUInt32 >>> ((4 : Int32).toUInt32 &&& Int32.toUInt32 31)).toInt32)) &&& (252645135 : Int32)) + (((((((a0 - (((a0.toUInt32 >>> ((1 : Int32).toUInt32 &&& Int32.toUInt32 31)).toInt32) &&& (1431655765 : Int32))) &&& (858993459 : Int32)) + ((((a0 - (((a0.toUInt32 >>> ((1 : Int32).toUInt32 &&& Int32.toUInt32 31)).toInt32) &&& (1431655765 : Int32))).toUInt32 >>> ((2 : Int32).toUInt32 &&& Int32.toUInt32 31)).toInt32) &&& (858993459 : Int32))) + (((((a0 - (((a0.toUInt32 >>> ((1 : Int32).toUInt32 &&& Int32.toUInt32 31)).toInt32) &&& (1431655765 : Int32))) &&& (858993459 : Int32)) + ((((a0 - (((a0.toUInt32 >>> ((1 : Int32).toUInt32 &&& Int32.toUInt32 31)).toInt32) &&& (1431655765 : Int32))).toUInt32 >>> ((2 : Int32).toUInt32 &&& Int32.toUInt32 31)).toInt32) &&& (858993459 : Int32))).toUInt32 >>> ((4 : Int32).toUInt32 &&& Int32.toUInt32 31)).toInt32)) &&& (252645135 : Int32)).toUInt32 >>> ((8 : Int32).toUInt32 &&& Int32.toUInt32 31)).toInt32)) + ((((((((a0 - (((a0.toUInt32 >>> ((1 : Int32).toUInt32 &&& Int32.toUInt32 31)).toInt32) &&& (1431655765 : Int32))) &&& (858993459 : Int32)) + ((((a0 - (((a0.toUInt32 >>> ((1 : Int32).toUInt32 &&& Int32.toUInt32 31)).toInt32) &&& (1431655765 : Int32))).toUInt32 >>> ((2 : Int32).toUInt32 &&& Int32.toUInt32 31)).toInt32) &&& (858993459 : Int32))) + (((((a0 - (((a0.toUInt32 >>> ((1 : Int32).toUInt32 &&& Int32.toUInt32 31)).toInt32) &&& (1431655765 : Int32))) &&& (858993459 : Int32)) + ((((a0 - (((a0.toUInt32 >>> ((1 : Int32).toUInt32 &&& Int32.toUInt32 31)).toInt32) &&& (1431655765 : Int32))).toUInt32 >>> ((2 : Int32).toUInt32 &&& Int32.toUInt32 31)).toInt32) &&& (858993459 : Int32))).toUInt32 >>> ((4 : Int32).toUInt32 &&& Int32.toUInt32 31)).toInt32)) &&& (252645135 : Int32)) + (((((((a0 - (((a0.toUInt32 >>> ((1 : Int32).toUInt32 &&& Int32.toUInt32 31)).toInt32) &&& (1431655765 : Int32))) &&& (858993459 : Int32)) + ((((a0 - (((a0.toUInt32 >>> ((1 : Int32).toUInt32 &&& Int32.toUInt32 31)).toInt32) &&& (1431655765 : Int32))).toUInt32 >>> ((2 : Int32).toUInt32 &&& Int32.toUInt32 31)).toInt32) &&& (858993459 : Int32))) + (((((a0 - (((a0.toUInt32 >>> ((1 : Int32).toUInt32 &&& Int32.toUInt32 31)).toInt32) &&& (1431655765 : Int32))) &&& (858993459 : Int32)) + ((((a0 - (((a0.toUInt32 >>> ((1 : Int32).toUInt32 &&& Int32.toUInt32 31)).toInt32) &&& (1431655765 : Int32))).toUInt32 >>> ((2 : Int32).toUInt32 &&& Int32.toUInt32 31)).toInt32) &&& (858993459 : Int32))).toUInt32 >>> ((4 : Int32).toUInt32 &&& Int32.toUInt32 31)).toInt32)) &&& (252645135 : Int32)).toUInt32 >>> ((8 : Int32).toUInt32 &&& Int32.toUInt32 31)).toInt32)).toUInt32 >>> ((16 : Int32).toUInt32 &&& Int32.toUInt32 31)).toInt32)) &&& (63 : Int32)), M))
set_option maxRecDepth 20000 in
set_option maxHeartbeats 4000000 in
theorem c_J6_bitCount_0f7a4 (l : Launch) (a0 : Int32)  (M : hp_M) : hp_Ct l yJ6_bitCount_0f7a4 cJ6_bitCount_0f7a4 1 (some .int) 0 hp_I0 (fun adr adV => [.int a0]) hp_oi M (F_J6_bitCount_0f7a4 a0 M) := by
  refine hp_start "java/lang/Integer" (fun adr adV => [(0, .int a0)]) (by decide) rfl (fun _ _ => by simp only [lg_sl]; exact Nat.le_of_ble_eq_true rfl) (fun _ _ => rfl) ?_
  intro p e s m args below meth c A D ids adr adV cA rep G0 hI hC hr
  unfold F_J6_bitCount_0f7a4
  refine hz_iload_n (a := 0) (n := 1) hC dJ6_bitCount_0f7a4_0 rfl rfl rfl ?_
  refine hz_iload_n (a := 0) (n := 2) hC dJ6_bitCount_0f7a4_1 rfl rfl rfl ?_
  refine hz_iconst (v := (1 : Int32)) (n := 3) hC dJ6_bitCount_0f7a4_2 (by decide +kernel) rfl ?_
  refine hz_iushr (n := 4) hC dJ6_bitCount_0f7a4_3 rfl rfl ?_
  refine hz_ldcw (n := 7) hC dJ6_bitCount_0f7a4_4 wd_3_169 rfl ?_
  refine hz_iand (n := 8) hC dJ6_bitCount_0f7a4_7 rfl ?_
  refine hz_isub (n := 9) hC dJ6_bitCount_0f7a4_8 rfl ?_
  refine hz_istore_n (L' := [(0, .int (a0 - (((a0.toUInt32 >>> ((1 : Int32).toUInt32 &&& Int32.toUInt32 31)).toInt32) &&& (1431655765 : Int32))))]) (n := 10) hC dJ6_bitCount_0f7a4_9 rfl (by decide) rfl rfl ?_
  refine hz_iload_n (a := 0) (n := 11) hC dJ6_bitCount_0f7a4_10 rfl rfl rfl ?_
  refine hz_ldcw (n := 14) hC dJ6_bitCount_0f7a4_11 wd_3_170 rfl ?_
  refine hz_iand (n := 15) hC dJ6_bitCount_0f7a4_14 rfl ?_
  refine hz_iload_n (a := 0) (n := 16) hC dJ6_bitCount_0f7a4_15 rfl rfl rfl ?_
  refine hz_iconst (v := (2 : Int32)) (n := 17) hC dJ6_bitCount_0f7a4_16 (by decide +kernel) rfl ?_
  refine hz_iushr (n := 18) hC dJ6_bitCount_0f7a4_17 rfl rfl ?_
  refine hz_ldcw (n := 21) hC dJ6_bitCount_0f7a4_18 wd_3_170 rfl ?_
  refine hz_iand (n := 22) hC dJ6_bitCount_0f7a4_21 rfl ?_
  refine hz_iadd (n := 23) hC dJ6_bitCount_0f7a4_22 rfl ?_
  refine hz_istore_n (L' := [(0, .int (((a0 - (((a0.toUInt32 >>> ((1 : Int32).toUInt32 &&& Int32.toUInt32 31)).toInt32) &&& (1431655765 : Int32))) &&& (858993459 : Int32)) + ((((a0 - (((a0.toUInt32 >>> ((1 : Int32).toUInt32 &&& Int32.toUInt32 31)).toInt32) &&& (1431655765 : Int32))).toUInt32 >>> ((2 : Int32).toUInt32 &&& Int32.toUInt32 31)).toInt32) &&& (858993459 : Int32))))]) (n := 24) hC dJ6_bitCount_0f7a4_23 rfl (by decide) rfl rfl ?_
  refine hz_iload_n (a := 0) (n := 25) hC dJ6_bitCount_0f7a4_24 rfl rfl rfl ?_
  refine hz_iload_n (a := 0) (n := 26) hC dJ6_bitCount_0f7a4_25 rfl rfl rfl ?_
  refine hz_iconst (v := (4 : Int32)) (n := 27) hC dJ6_bitCount_0f7a4_26 (by decide +kernel) rfl ?_
  refine hz_iushr (n := 28) hC dJ6_bitCount_0f7a4_27 rfl rfl ?_
  refine hz_iadd (n := 29) hC dJ6_bitCount_0f7a4_28 rfl ?_
  refine hz_ldcw (n := 32) hC dJ6_bitCount_0f7a4_29 wd_3_171 rfl ?_
  refine hz_iand (n := 33) hC dJ6_bitCount_0f7a4_32 rfl ?_
  refine hz_istore_n (L' := [(0, .int (((((a0 - (((a0.toUInt32 >>> ((1 : Int32).toUInt32 &&& Int32.toUInt32 31)).toInt32) &&& (1431655765 : Int32))) &&& (858993459 : Int32)) + ((((a0 - (((a0.toUInt32 >>> ((1 : Int32).toUInt32 &&& Int32.toUInt32 31)).toInt32) &&& (1431655765 : Int32))).toUInt32 >>> ((2 : Int32).toUInt32 &&& Int32.toUInt32 31)).toInt32) &&& (858993459 : Int32))) + (((((a0 - (((a0.toUInt32 >>> ((1 : Int32).toUInt32 &&& Int32.toUInt32 31)).toInt32) &&& (1431655765 : Int32))) &&& (858993459 : Int32)) + ((((a0 - (((a0.toUInt32 >>> ((1 : Int32).toUInt32 &&& Int32.toUInt32 31)).toInt32) &&& (1431655765 : Int32))).toUInt32 >>> ((2 : Int32).toUInt32 &&& Int32.toUInt32 31)).toInt32) &&& (858993459 : Int32))).toUInt32 >>> ((4 : Int32).toUInt32 &&& Int32.toUInt32 31)).toInt32)) &&& (252645135 : Int32)))]) (n := 34) hC dJ6_bitCount_0f7a4_33 rfl (by decide) rfl rfl ?_
  refine hz_iload_n (a := 0) (n := 35) hC dJ6_bitCount_0f7a4_34 rfl rfl rfl ?_
  refine hz_iload_n (a := 0) (n := 36) hC dJ6_bitCount_0f7a4_35 rfl rfl rfl ?_
  refine hz_bipush (v := (8 : Int32)) (n := 38) hC dJ6_bitCount_0f7a4_36 (by decide +kernel) rfl ?_
  refine hz_iushr (n := 39) hC dJ6_bitCount_0f7a4_38 rfl rfl ?_
  refine hz_iadd (n := 40) hC dJ6_bitCount_0f7a4_39 rfl ?_
  refine hz_istore_n (L' := [(0, .int ((((((a0 - (((a0.toUInt32 >>> ((1 : Int32).toUInt32 &&& Int32.toUInt32 31)).toInt32) &&& (1431655765 : Int32))) &&& (858993459 : Int32)) + ((((a0 - (((a0.toUInt32 >>> ((1 : Int32).toUInt32 &&& Int32.toUInt32 31)).toInt32) &&& (1431655765 : Int32))).toUInt32 >>> ((2 : Int32).toUInt32 &&& Int32.toUInt32 31)).toInt32) &&& (858993459 : Int32))) + (((((a0 - (((a0.toUInt32 >>> ((1 : Int32).toUInt32 &&& Int32.toUInt32 31)).toInt32) &&& (1431655765 : Int32))) &&& (858993459 : Int32)) + ((((a0 - (((a0.toUInt32 >>> ((1 : Int32).toUInt32 &&& Int32.toUInt32 31)).toInt32) &&& (1431655765 : Int32))).toUInt32 >>> ((2 : Int32).toUInt32 &&& Int32.toUInt32 31)).toInt32) &&& (858993459 : Int32))).toUInt32 >>> ((4 : Int32).toUInt32 &&& Int32.toUInt32 31)).toInt32)) &&& (252645135 : Int32)) + (((((((a0 - (((a0.toUInt32 >>> ((1 : Int32).toUInt32 &&& Int32.toUInt32 31)).toInt32) &&& (1431655765 : Int32))) &&& (858993459 : Int32)) + ((((a0 - (((a0.toUInt32 >>> ((1 : Int32).toUInt32 &&& Int32.toUInt32 31)).toInt32) &&& (1431655765 : Int32))).toUInt32 >>> ((2 : Int32).toUInt32 &&& Int32.toUInt32 31)).toInt32) &&& (858993459 : Int32))) + (((((a0 - (((a0.toUInt32 >>> ((1 : Int32).toUInt32 &&& Int32.toUInt32 31)).toInt32) &&& (1431655765 : Int32))) &&& (858993459 : Int32)) + ((((a0 - (((a0.toUInt32 >>> ((1 : Int32).toUInt32 &&& Int32.toUInt32 31)).toInt32) &&& (1431655765 : Int32))).toUInt32 >>> ((2 : Int32).toUInt32 &&& Int32.toUInt32 31)).toInt32) &&& (858993459 : Int32))).toUInt32 >>> ((4 : Int32).toUInt32 &&& Int32.toUInt32 31)).toInt32)) &&& (252645135 : Int32)).toUInt32 >>> ((8 : Int32).toUInt32 &&& Int32.toUInt32 31)).toInt32)))]) (n := 41) hC dJ6_bitCount_0f7a4_40 rfl (by decide) rfl rfl ?_
  refine hz_iload_n (a := 0) (n := 42) hC dJ6_bitCount_0f7a4_41 rfl rfl rfl ?_
  refine hz_iload_n (a := 0) (n := 43) hC dJ6_bitCount_0f7a4_42 rfl rfl rfl ?_
  refine hz_bipush (v := (16 : Int32)) (n := 45) hC dJ6_bitCount_0f7a4_43 (by decide +kernel) rfl ?_
  refine hz_iushr (n := 46) hC dJ6_bitCount_0f7a4_45 rfl rfl ?_
  refine hz_iadd (n := 47) hC dJ6_bitCount_0f7a4_46 rfl ?_
  refine hz_istore_n (L' := [(0, .int (((((((a0 - (((a0.toUInt32 >>> ((1 : Int32).toUInt32 &&& Int32.toUInt32 31)).toInt32) &&& (1431655765 : Int32))) &&& (858993459 : Int32)) + ((((a0 - (((a0.toUInt32 >>> ((1 : Int32).toUInt32 &&& Int32.toUInt32 31)).toInt32) &&& (1431655765 : Int32))).toUInt32 >>> ((2 : Int32).toUInt32 &&& Int32.toUInt32 31)).toInt32) &&& (858993459 : Int32))) + (((((a0 - (((a0.toUInt32 >>> ((1 : Int32).toUInt32 &&& Int32.toUInt32 31)).toInt32) &&& (1431655765 : Int32))) &&& (858993459 : Int32)) + ((((a0 - (((a0.toUInt32 >>> ((1 : Int32).toUInt32 &&& Int32.toUInt32 31)).toInt32) &&& (1431655765 : Int32))).toUInt32 >>> ((2 : Int32).toUInt32 &&& Int32.toUInt32 31)).toInt32) &&& (858993459 : Int32))).toUInt32 >>> ((4 : Int32).toUInt32 &&& Int32.toUInt32 31)).toInt32)) &&& (252645135 : Int32)) + (((((((a0 - (((a0.toUInt32 >>> ((1 : Int32).toUInt32 &&& Int32.toUInt32 31)).toInt32) &&& (1431655765 : Int32))) &&& (858993459 : Int32)) + ((((a0 - (((a0.toUInt32 >>> ((1 : Int32).toUInt32 &&& Int32.toUInt32 31)).toInt32) &&& (1431655765 : Int32))).toUInt32 >>> ((2 : Int32).toUInt32 &&& Int32.toUInt32 31)).toInt32) &&& (858993459 : Int32))) + (((((a0 - (((a0.toUInt32 >>> ((1 : Int32).toUInt32 &&& Int32.toUInt32 31)).toInt32) &&& (1431655765 : Int32))) &&& (858993459 : Int32)) + ((((a0 - (((a0.toUInt32 >>> ((1 : Int32).toUInt32 &&& Int32.toUInt32 31)).toInt32) &&& (1431655765 : Int32))).toUInt32 >>> ((2 : Int32).toUInt32 &&& Int32.toUInt32 31)).toInt32) &&& (858993459 : Int32))).toUInt32 >>> ((4 : Int32).toUInt32 &&& Int32.toUInt32 31)).toInt32)) &&& (252645135 : Int32)).toUInt32 >>> ((8 : Int32).toUInt32 &&& Int32.toUInt32 31)).toInt32)) + ((((((((a0 - (((a0.toUInt32 >>> ((1 : Int32).toUInt32 &&& Int32.toUInt32 31)).toInt32) &&& (1431655765 : Int32))) &&& (858993459 : Int32)) + ((((a0 - (((a0.toUInt32 >>> ((1 : Int32).toUInt32 &&& Int32.toUInt32 31)).toInt32) &&& (1431655765 : Int32))).toUInt32 >>> ((2 : Int32).toUInt32 &&& Int32.toUInt32 31)).toInt32) &&& (858993459 : Int32))) + (((((a0 - (((a0.toUInt32 >>> ((1 : Int32).toUInt32 &&& Int32.toUInt32 31)).toInt32) &&& (1431655765 : Int32))) &&& (858993459 : Int32)) + ((((a0 - (((a0.toUInt32 >>> ((1 : Int32).toUInt32 &&& Int32.toUInt32 31)).toInt32) &&& (1431655765 : Int32))).toUInt32 >>> ((2 : Int32).toUInt32 &&& Int32.toUInt32 31)).toInt32) &&& (858993459 : Int32))).toUInt32 >>> ((4 : Int32).toUInt32 &&& Int32.toUInt32 31)).toInt32)) &&& (252645135 : Int32)) + (((((((a0 - (((a0.toUInt32 >>> ((1 : Int32).toUInt32 &&& Int32.toUInt32 31)).toInt32) &&& (1431655765 : Int32))) &&& (858993459 : Int32)) + ((((a0 - (((a0.toUInt32 >>> ((1 : Int32).toUInt32 &&& Int32.toUInt32 31)).toInt32) &&& (1431655765 : Int32))).toUInt32 >>> ((2 : Int32).toUInt32 &&& Int32.toUInt32 31)).toInt32) &&& (858993459 : Int32))) + (((((a0 - (((a0.toUInt32 >>> ((1 : Int32).toUInt32 &&& Int32.toUInt32 31)).toInt32) &&& (1431655765 : Int32))) &&& (858993459 : Int32)) + ((((a0 - (((a0.toUInt32 >>> ((1 : Int32).toUInt32 &&& Int32.toUInt32 31)).toInt32) &&& (1431655765 : Int32))).toUInt32 >>> ((2 : Int32).toUInt32 &&& Int32.toUInt32 31)).toInt32) &&& (858993459 : Int32))).toUInt32 >>> ((4 : Int32).toUInt32 &&& Int32.toUInt32 31)).toInt32)) &&& (252645135 : Int32)).toUInt32 >>> ((8 : Int32).toUInt32 &&& Int32.toUInt32 31)).toInt32)).toUInt32 >>> ((16 : Int32).toUInt32 &&& Int32.toUInt32 31)).toInt32)))]) (n := 48) hC dJ6_bitCount_0f7a4_47 rfl (by decide) rfl rfl ?_
  refine hz_iload_n (a := 0) (n := 49) hC dJ6_bitCount_0f7a4_48 rfl rfl rfl ?_
  refine hz_bipush (v := (63 : Int32)) (n := 51) hC dJ6_bitCount_0f7a4_49 (by decide +kernel) rfl ?_
  refine hz_iand (n := 52) hC dJ6_bitCount_0f7a4_51 rfl ?_
  exact hz_iret hC hr dJ6_bitCount_0f7a4_52
def F_Jx29ce0_ordinal_8abf5 (v : Nat) (M : hp_M) : Option (Int32 × hp_M) := (some ((nI v), M))
set_option maxRecDepth 20000 in
set_option maxHeartbeats 4000000 in
theorem c_Jx29ce0_ordinal_8abf5 (l : Launch) (v : Nat) (hv : v < 12) (M : hp_M) : hp_Ct l yJx29ce0_ordinal_8abf5 cJx29ce0_ordinal_8abf5 1 (some .int) 0 hp_I0 (fun adr adV => [.ref (adV v)]) hp_oi M (F_Jx29ce0_ordinal_8abf5 v M) := by
  refine hp_start "java/lang/Enum" (fun adr adV => [(0, .ref (adV v))]) (by decide) rfl (fun _ _ => by simp only [lg_sl]; exact Nat.le_of_ble_eq_true rfl) (fun _ _ => rfl) ?_
  intro p e s m args below meth c A D ids adr adV cA rep G0 hI hC hr
  unfold F_Jx29ce0_ordinal_8abf5
  refine hz_aload_n (a := 0) (n := 1) hC dJx29ce0_ordinal_8abf5_0 rfl rfl rfl ?_
  refine hz_vget (n := 4) hC dJx29ce0_ordinal_8abf5_1 (hp_vord_OF hC.2.2.2.2.1 hv) wd_4_152 rfl ?_
  exact hz_iret hC hr dJx29ce0_ordinal_8abf5_4
def L_J7_fill_53178_5 (g0 : Nat) (j0 : Nat) (n0 : Nat) (a1 : Int32)  (k5_3 : Int32) : Nat → Int32 → hp_M → Option (Unit × hp_M)
  | 0, _, _ => none
  | n5 + 1, x2, M => (if k5_3 ≤ x2 then (some ((), M)) else (if x2 < 0 ∨ n0 ≤ (x2).toNatClampNeg then none else (L_J7_fill_53178_5 g0 j0 n0 a1 k5_3 n5 (x2 + (1 : Int32)) (hp_p M g0 j0 (x2).toNatClampNeg a1))))
def F_J7_fill_53178 (g0 : Nat) (j0 : Nat) (n0 : Nat) (a1 : Int32) (M : hp_M) : Option (Unit × hp_M) := (L_J7_fill_53178_5 g0 j0 n0 a1 (nI n0) hp_fu (0 : Int32) M)
set_option maxRecDepth 20000 in
set_option maxHeartbeats 4000000 in
theorem c_J7_fill_53178 (l : Launch) (g0 : Nat) (j0 : Nat) (n0 : Nat) (a1 : Int32) (hq0 : ∀ ids, hp_IC ids → (g0, j0) ∈ ids) (he0 : ∀ (adr : Nat → Nat → Nat) (adV cA : Nat → Nat) (f : Nat → Int32), hp_c adr adV cA g0 j0 f = .inl (cA 0, n0, .inl f)) (M : hp_M) : hp_Ct l yJ7_fill_53178 cJ7_fill_53178 4 none 0 hp_IC (fun adr adV => [.ref (adr g0 j0), .int a1]) hp_oo M (F_J7_fill_53178 g0 j0 n0 a1 M) := by
  refine hp_start "java/util/Arrays" (fun adr adV => [(0, .ref (adr g0 j0)), (1, .int a1)]) (by decide) rfl (fun _ _ => by simp only [lg_sl]; exact Nat.le_of_ble_eq_true rfl) (fun _ _ => rfl) ?_
  intro p e s m args below meth c A D ids adr adV cA rep G0 hI hC hr
  unfold F_J7_fill_53178
  have l5 : ∀ (k5_3 : Int32) (n5 : Nat) (x2 : Int32) (M : hp_M), hp_Z p l e (hp_rm 0) s m args below meth c 4 A D ids adr adV cA 0 0 (MQ below (hp_Q A D ids adr adV cA rep hp_oo G0) args s 0 0 A) G0 rep 5 [(0, .ref (adr g0 j0)), (1, .int a1), (2, .int x2), (3, .int k5_3)] [] M (L_J7_fill_53178_5 g0 j0 n0 a1 k5_3 n5 x2 M) := by
    intro k5_3 n5
    induction n5 with
    | zero => intro x2 M; exact hz_none hC
    | succ n5 ih5 =>
      intro x2 M
      rw [L_J7_fill_53178_5.eq_2]
      refine hz_iload_n (a := 2) (n := 6) hC dJ7_fill_53178_5 rfl rfl rfl ?_
      refine hz_iload_n (a := 3) (n := 7) hC dJ7_fill_53178_6 rfl rfl rfl ?_
      refine hz_icmp_ge (tgt := 20) (n := 10) hC dJ7_fill_53178_7 (by decide) rfl (fun _ => ?_) (fun _ => ?_)
      · exact hz_vret hC hr dJ7_fill_53178_20
      · refine hz_aload_n (a := 0) (n := 11) hC dJ7_fill_53178_10 rfl rfl rfl ?_
        refine hz_iload_n (a := 2) (n := 12) hC dJ7_fill_53178_11 rfl rfl rfl ?_
        refine hz_iload_n (a := 1) (n := 13) hC dJ7_fill_53178_12 rfl rfl rfl ?_
        refine hz_iast (n := 14) hC dJ7_fill_53178_13 (hq0 ids hI) (he0 adr adV cA) rfl (fun _ => ?_)
        refine hz_iinc (a := 2) (v := (x2 + (1 : Int32))) (L' := [(2, .int (x2 + (1 : Int32))), (0, .ref (adr g0 j0)), (1, .int a1), (3, .int k5_3)]) (n := 17) hC dJ7_fill_53178_14 rfl rfl (by decide) rfl rfl ?_
        refine hz_goto (n := 5) hC dJ7_fill_53178_17 (by decide) ?_
        refine hz_L (L' := [(0, .ref (adr g0 j0)), (1, .int a1), (2, .int (x2 + (1 : Int32))), (3, .int k5_3)]) [1, 2, 0, 3] rfl ?_
        exact ih5 _ _
  refine hz_iconst (v := (0 : Int32)) (n := 1) hC dJ7_fill_53178_0 (by decide +kernel) rfl ?_
  refine hz_istore_n (L' := [(2, .int (0 : Int32)), (0, .ref (adr g0 j0)), (1, .int a1)]) (n := 2) hC dJ7_fill_53178_1 rfl (by decide) rfl rfl ?_
  refine hz_aload_n (a := 1) (n := 3) hC dJ7_fill_53178_2 rfl rfl rfl ?_
  refine hz_alen (v := nI n0) (t := 0) (n := 4) hC dJ7_fill_53178_3 (hq0 ids hI) (he0 adr adV cA) rfl rfl rfl ?_
  refine hz_istore_n (L' := [(3, .int (nI n0)), (2, .int (0 : Int32)), (0, .ref (adr g0 j0)), (1, .int a1)]) (n := 5) hC dJ7_fill_53178_4 rfl (by decide) rfl rfl ?_
  refine hz_L (L' := [(0, .ref (adr g0 j0)), (1, .int a1), (2, .int (0 : Int32)), (3, .int (nI n0))]) [2, 3, 1, 0] rfl ?_
  exact l5 _ hp_fu _ _
def F_J0_coder_7d493 (t : Nat) (M : hp_M) : Option (Int32 × hp_M) := (if (1 : Int32) = 0 then (some ((1 : Int32), M)) else (some ((0 : Int32), M)))
set_option maxRecDepth 20000 in
set_option maxHeartbeats 4000000 in
theorem c_J0_coder_7d493 (l : Launch) (t : Nat) (ht : hp_tb t) (M : hp_M) : hp_Ct l yJ0_coder_7d493 cJ0_coder_7d493 1 (some .byte) 0 hp_I0 (fun adr adV => [.ref (adV t)]) hp_oi M (F_J0_coder_7d493 t M) := by
  refine hp_start "java/lang/String" (fun adr adV => [(0, .ref (adV t))]) (by decide) rfl (fun _ _ => by simp only [lg_sl]; exact Nat.le_of_ble_eq_true rfl) (fun _ _ => rfl) ?_
  intro p e s m args below meth c A D ids adr adV cA rep G0 hI hC hr
  unfold F_J0_coder_7d493
  refine hz_getsi (z := 1) (n := 3) hC dJ0_coder_7d493_0 wd_1_206 wd_1_10.1 hp_cs wd_2_0 rfl ?_
  refine hz_if_eq (tgt := 13) (n := 6) hC dJ0_coder_7d493_3 (by decide) rfl (fun _ => ?_) (fun _ => ?_)
  · refine hz_iconst (v := (1 : Int32)) (n := 14) hC dJ0_coder_7d493_13 (by decide +kernel) rfl ?_
    exact hz_zret hC hr rfl dJ0_coder_7d493_14
  · refine hz_aload_n (a := 0) (n := 7) hC dJ0_coder_7d493_6 rfl rfl rfl ?_
    refine hz_vget (n := 10) hC dJ0_coder_7d493_7 (hp_s_C hC.2.2.2.2.1 ht) wd_4_146 rfl ?_
    refine hz_goto (n := 14) hC dJ0_coder_7d493_10 (by decide) ?_
    exact hz_zret hC hr rfl dJ0_coder_7d493_14
def F_J0_isLatin1_aae02 (t : Nat) (M : hp_M) : Option (Int32 × hp_M) := (if (1 : Int32) = 0 then (some ((0 : Int32), M)) else (if (0 : Int32) = 0 then (some ((1 : Int32), M)) else (some ((0 : Int32), M))))
set_option maxRecDepth 20000 in
set_option maxHeartbeats 4000000 in
theorem c_J0_isLatin1_aae02 (l : Launch) (t : Nat) (ht : hp_tb t) (M : hp_M) : hp_Ct l yJ0_isLatin1_aae02 cJ0_isLatin1_aae02 1 (some .boolean) 0 hp_I0 (fun adr adV => [.ref (adV t)]) hp_oi M (F_J0_isLatin1_aae02 t M) := by
  refine hp_start "java/lang/String" (fun adr adV => [(0, .ref (adV t))]) (by decide) rfl (fun _ _ => by simp only [lg_sl]; exact Nat.le_of_ble_eq_true rfl) (fun _ _ => rfl) ?_
  intro p e s m args below meth c A D ids adr adV cA rep G0 hI hC hr
  unfold F_J0_isLatin1_aae02
  refine hz_getsi (z := 1) (n := 3) hC dJ0_isLatin1_aae02_0 wd_1_206 wd_1_10.1 hp_cs wd_2_0 rfl ?_
  refine hz_if_eq (tgt := 17) (n := 6) hC dJ0_isLatin1_aae02_3 (by decide) rfl (fun _ => ?_) (fun _ => ?_)
  · refine hz_iconst (v := (0 : Int32)) (n := 18) hC dJ0_isLatin1_aae02_17 (by decide +kernel) rfl ?_
    exact hz_zret hC hr nz_0 dJ0_isLatin1_aae02_18
  · refine hz_aload_n (a := 0) (n := 7) hC dJ0_isLatin1_aae02_6 rfl rfl rfl ?_
    refine hz_vget (n := 10) hC dJ0_isLatin1_aae02_7 (hp_s_C hC.2.2.2.2.1 ht) wd_4_146 rfl ?_
    refine hz_if_ne (tgt := 17) (n := 13) hC dJ0_isLatin1_aae02_10 (by decide) rfl (fun _ => ?_) (fun _ => ?_)
    · refine hz_iconst (v := (1 : Int32)) (n := 14) hC dJ0_isLatin1_aae02_13 (by decide +kernel) rfl ?_
      refine hz_goto (n := 18) hC dJ0_isLatin1_aae02_14 (by decide) ?_
      exact hz_zret hC hr nz_1 dJ0_isLatin1_aae02_18
    · refine hz_iconst (v := (0 : Int32)) (n := 18) hC dJ0_isLatin1_aae02_17 (by decide +kernel) rfl ?_
      exact hz_zret hC hr nz_0 dJ0_isLatin1_aae02_18
def F_J0_length_8abf5 (t : Nat) (M : hp_M) : Option (Int32 × hp_M) := (hp_b (F_J0_coder_7d493 t M) (fun r1 M1 => (some (((nI (hp_tx t).length) >>> (r1 &&& 31)), M1))))
set_option maxRecDepth 20000 in
set_option maxHeartbeats 4000000 in
theorem c_J0_length_8abf5 (l : Launch) (t : Nat) (ht : hp_tb t) (M : hp_M) : hp_Ct l yJ0_length_8abf5 cJ0_length_8abf5 1 (some .int) 1 hp_I0 (fun adr adV => [.ref (adV t)]) hp_oi M (F_J0_length_8abf5 t M) := by
  refine hp_start "java/lang/String" (fun adr adV => [(0, .ref (adV t))]) (by decide) rfl (fun _ _ => by simp only [lg_sl]; exact Nat.le_of_ble_eq_true rfl) (fun _ _ => rfl) ?_
  intro p e s m args below meth c A D ids adr adV cA rep G0 hI hC hr
  unfold F_J0_length_8abf5
  refine hz_aload_n (a := 0) (n := 1) hC dJ0_length_8abf5_0 rfl rfl rfl ?_
  refine hz_vget (n := 4) hC dJ0_length_8abf5_1 (hp_s_V hC.2.2.2.2.1 ht) wd_4_145 rfl ?_
  refine hz_tlen (n := 5) hC dJ0_length_8abf5_4 (hp_s_B hC.2.2.2.2.1 ht) rfl ?_
  refine hz_aload_n (a := 0) (n := 6) hC dJ0_length_8abf5_5 rfl rfl rfl ?_
  refine hz_callO (k := 0) (As := []) (st := [.int (nI (hp_tx t).length)]) (S1 := fun r => .int r :: [.int (nI (hp_tx t).length)]) (n := 9) hC (c_J0_coder_7d493 l t ht  M) kv_J0_coder_7d493 wd_1_236 trivial dJ0_length_8abf5_6 rfl (hp_s_O hC.2.2.2.2.1 ht) rfl rfl (Nat.le_of_ble_eq_true rfl) ⟨Nat.le_of_ble_eq_true rfl, Nat.le_of_ble_eq_true rfl⟩ ⟨Nat.zero_le _, Nat.zero_le _⟩ (fun _ => rfl) rfl (fun r1 M1 _ => ?_)
  refine hz_ishr (n := 10) hC dJ0_length_8abf5_9 rfl ?_
  exact hz_iret hC hr dJ0_length_8abf5_10
def F_J3_checkIndex_8e157 (a0 : Int32) (a1 : Int32) (M : hp_M) : Option (Int32 × hp_M) := (if a0 < 0 then none else (if a0 < a1 then (some (a0, M)) else none))
set_option maxRecDepth 20000 in
set_option maxHeartbeats 4000000 in
theorem c_J3_checkIndex_8e157 (l : Launch) (a0 : Int32) (a1 : Int32)  (M : hp_M) : hp_Ct l yJ3_checkIndex_8e157 cJ3_checkIndex_8e157 3 (some .int) 0 hp_I0 (fun adr adV => [.int a0, .int a1, .null]) hp_oi M (F_J3_checkIndex_8e157 a0 a1 M) := by
  refine hp_start "jdk/internal/util/Preconditions" (fun adr adV => [(0, .int a0), (1, .int a1), (2, .null)]) (by decide) rfl (fun _ _ => by simp only [lg_sl]; exact Nat.le_of_ble_eq_true rfl) (fun _ _ => rfl) ?_
  intro p e s m args below meth c A D ids adr adV cA rep G0 hI hC hr
  unfold F_J3_checkIndex_8e157
  refine hz_iload_n (a := 0) (n := 1) hC dJ3_checkIndex_8e157_0 rfl rfl rfl ?_
  refine hz_if_lt (tgt := 9) (n := 4) hC dJ3_checkIndex_8e157_1 (by decide) rfl (fun _ => ?_) (fun _ => ?_)
  · exact hz_none hC
  · refine hz_iload_n (a := 0) (n := 5) hC dJ3_checkIndex_8e157_4 rfl rfl rfl ?_
    refine hz_iload_n (a := 1) (n := 6) hC dJ3_checkIndex_8e157_5 rfl rfl rfl ?_
    refine hz_icmp_lt (tgt := 16) (n := 9) hC dJ3_checkIndex_8e157_6 (by decide) rfl (fun _ => ?_) (fun _ => ?_)
    · refine hz_iload_n (a := 0) (n := 17) hC dJ3_checkIndex_8e157_16 rfl rfl rfl ?_
      exact hz_iret hC hr dJ3_checkIndex_8e157_17
    · exact hz_none hC
set_option maxRecDepth 20000 in
set_option maxHeartbeats 4000000 in
theorem c_J3_checkIndex_8e157_r (l : Launch) (a0 : Int32) (a1 : Int32) (q : Nat)  (M : hp_M) : hp_Ct l yJ3_checkIndex_8e157 cJ3_checkIndex_8e157 3 (some .int) 0 hp_I0 (fun adr adV => [.int a0, .int a1, .ref q]) hp_oi M (F_J3_checkIndex_8e157 a0 a1 M) := by
  refine hp_start "jdk/internal/util/Preconditions" (fun adr adV => [(0, .int a0), (1, .int a1), (2, .ref q)]) (by decide) rfl (fun _ _ => by simp only [lg_sl]; exact Nat.le_of_ble_eq_true rfl) (fun _ _ => rfl) ?_
  intro p e s m args below meth c A D ids adr adV cA rep G0 hI hC hr
  unfold F_J3_checkIndex_8e157
  refine hz_iload_n (a := 0) (n := 1) hC dJ3_checkIndex_8e157_0 rfl rfl rfl ?_
  refine hz_if_lt (tgt := 9) (n := 4) hC dJ3_checkIndex_8e157_1 (by decide) rfl (fun _ => ?_) (fun _ => ?_)
  · exact hz_none hC
  · refine hz_iload_n (a := 0) (n := 5) hC dJ3_checkIndex_8e157_4 rfl rfl rfl ?_
    refine hz_iload_n (a := 1) (n := 6) hC dJ3_checkIndex_8e157_5 rfl rfl rfl ?_
    refine hz_icmp_lt (tgt := 16) (n := 9) hC dJ3_checkIndex_8e157_6 (by decide) rfl (fun _ => ?_) (fun _ => ?_)
    · refine hz_iload_n (a := 0) (n := 17) hC dJ3_checkIndex_8e157_16 rfl rfl rfl ?_
      exact hz_iret hC hr dJ3_checkIndex_8e157_17
    · exact hz_none hC
def F_J0_checkIndex_df160 (a0 : Int32) (a1 : Int32) (M : hp_M) : Option (Unit × hp_M) := (hp_b (F_J3_checkIndex_8e157 a0 a1 M) (fun r1 M1 => (some ((), M1))))
set_option maxRecDepth 20000 in
set_option maxHeartbeats 4000000 in
theorem c_J0_checkIndex_df160 (l : Launch) (a0 : Int32) (a1 : Int32)  (M : hp_M) : hp_Ct l yJ0_checkIndex_df160 cJ0_checkIndex_df160 2 none 1 hp_I0 (fun adr adV => [.int a0, .int a1]) hp_oo M (F_J0_checkIndex_df160 a0 a1 M) := by
  refine hp_start "java/lang/String" (fun adr adV => [(0, .int a0), (1, .int a1)]) (by decide) rfl (fun _ _ => by simp only [lg_sl]; exact Nat.le_of_ble_eq_true rfl) (fun _ _ => rfl) ?_
  intro p e s m args below meth c A D ids adr adV cA rep G0 hI hC hr
  unfold F_J0_checkIndex_df160
  refine hz_iload_n (a := 0) (n := 1) hC dJ0_checkIndex_df160_0 rfl rfl rfl ?_
  refine hz_iload_n (a := 1) (n := 2) hC dJ0_checkIndex_df160_1 rfl rfl rfl ?_
  refine hz_getsq (n := 5) hC dJ0_checkIndex_df160_2 wd_2_16 wd_1_13.1 hp_sioobe wd_2_15 rfl ?_ (fun q => ?_)
  · refine hz_callS (k := 3) (As := [.int a0, .int a1, .null]) (st := []) (S1 := fun r => .int r :: []) (n := 8) hC (c_J3_checkIndex_8e157 l a0 a1   M) ks_J3_checkIndex_8e157 wd_2_17 trivial dJ0_checkIndex_df160_5 rfl rfl rfl (Nat.le_of_ble_eq_true rfl) ⟨Nat.le_of_ble_eq_true rfl, Nat.le_of_ble_eq_true rfl⟩ ⟨Nat.zero_le _, Nat.zero_le _⟩ (fun _ => rfl) rfl (fun r1 M1 _ => ?_)
    refine hz_pop (n := 9) hC dJ0_checkIndex_df160_8 rfl rfl ?_
    exact hz_vret hC hr dJ0_checkIndex_df160_9
  · refine hz_callS (k := 3) (As := [.int a0, .int a1, .ref q]) (st := []) (S1 := fun r => .int r :: []) (n := 8) hC (c_J3_checkIndex_8e157_r l a0 a1 q   M) ks_J3_checkIndex_8e157 wd_2_17 trivial dJ0_checkIndex_df160_5 rfl rfl rfl (Nat.le_of_ble_eq_true rfl) ⟨Nat.le_of_ble_eq_true rfl, Nat.le_of_ble_eq_true rfl⟩ ⟨Nat.zero_le _, Nat.zero_le _⟩ (fun _ => rfl) rfl (fun r1 M1 _ => ?_)
    refine hz_pop (n := 9) hC dJ0_checkIndex_df160_8 rfl rfl ?_
    exact hz_vret hC hr dJ0_checkIndex_df160_9
def F_J1_charAt_3b067 (t0 : Nat) (a1 : Int32) (M : hp_M) : Option (Int32 × hp_M) := (hp_b (F_J0_checkIndex_df160 a1 (nI (hp_tx t0).length) M) (fun _ M1 => (if a1 < 0 ∨ (hp_tx t0).length ≤ (a1).toNatClampNeg then none else (if vp_nar .char ((((((hp_tx t0).getD (a1).toNatClampNeg 0) &&& (255 : Int32))).toUInt32 % 65536).toInt32) = ((((((hp_tx t0).getD (a1).toNatClampNeg 0) &&& (255 : Int32))).toUInt32 % 65536).toInt32) then some (((((((hp_tx t0).getD (a1).toNatClampNeg 0) &&& (255 : Int32))).toUInt32 % 65536).toInt32), M1) else none))))
set_option maxRecDepth 20000 in
set_option maxHeartbeats 4000000 in
theorem c_J1_charAt_3b067 (l : Launch) (t0 : Nat) (a1 : Int32) (ht0 : hp_tb t0) (M : hp_M) : hp_Ct l yJ1_charAt_3b067 cJ1_charAt_3b067 2 (some .char) 2 hp_I0 (fun adr adV => [.ref (adV (100 + t0)), .int a1]) hp_oi M (F_J1_charAt_3b067 t0 a1 M) := by
  refine hp_start "java/lang/StringLatin1" (fun adr adV => [(0, .ref (adV (100 + t0))), (1, .int a1)]) (by decide) rfl (fun _ _ => by simp only [lg_sl]; exact Nat.le_of_ble_eq_true rfl) (fun _ _ => rfl) ?_
  intro p e s m args below meth c A D ids adr adV cA rep G0 hI hC hr
  unfold F_J1_charAt_3b067
  refine hz_iload_n (a := 1) (n := 1) hC dJ1_charAt_3b067_0 rfl rfl rfl ?_
  refine hz_aload_n (a := 0) (n := 2) hC dJ1_charAt_3b067_1 rfl rfl rfl ?_
  refine hz_tlen (n := 3) hC dJ1_charAt_3b067_2 (hp_s_B hC.2.2.2.2.1 ht0) rfl ?_
  refine hz_callS (k := 2) (As := [.int a1, .int (nI (hp_tx t0).length)]) (st := []) (S1 := fun _ => []) (n := 6) hC (c_J0_checkIndex_df160 l a1 (nI (hp_tx t0).length)   M) ks_J0_checkIndex_df160 wd_2_12 trivial dJ1_charAt_3b067_3 rfl rfl rfl (Nat.le_of_ble_eq_true rfl) ⟨Nat.le_of_ble_eq_true rfl, Nat.le_of_ble_eq_true rfl⟩ ⟨Nat.zero_le _, Nat.zero_le _⟩ (fun _ => rfl) rfl (fun r1 M1 _ => ?_)
  refine hz_aload_n (a := 0) (n := 7) hC dJ1_charAt_3b067_6 rfl rfl rfl ?_
  refine hz_iload_n (a := 1) (n := 8) hC dJ1_charAt_3b067_7 rfl rfl rfl ?_
  refine hz_tbald (n := 9) hC (hp_s_B hC.2.2.2.2.1 ht0) dJ1_charAt_3b067_8 rfl (fun _ => ?_)
  refine hz_sipush (v := (255 : Int32)) (n := 12) hC dJ1_charAt_3b067_9 (by decide +kernel) rfl ?_
  refine hz_iand (n := 13) hC dJ1_charAt_3b067_12 rfl ?_
  refine hz_i2c (n := 14) hC dJ1_charAt_3b067_13 rfl ?_
  exact hz_cret hC hr dJ1_charAt_3b067_14
def F_J0_charAt_5068e (t : Nat) (a0 : Int32) (M : hp_M) : Option (Int32 × hp_M) := (hp_b (F_J0_isLatin1_aae02 t M) (fun r1 M1 => (if r1 = 0 then none else (hp_b (F_J1_charAt_3b067 t a0 M1) (fun r2 M2 => (if vp_nar .char r2 = r2 then some (r2, M2) else none))))))
set_option maxRecDepth 20000 in
set_option maxHeartbeats 4000000 in
theorem c_J0_charAt_5068e (l : Launch) (t : Nat) (a0 : Int32) (ht : hp_tb t) (M : hp_M) : hp_Ct l yJ0_charAt_5068e cJ0_charAt_5068e 2 (some .char) 3 hp_I0 (fun adr adV => [.ref (adV t), .int a0]) hp_oi M (F_J0_charAt_5068e t a0 M) := by
  refine hp_start "java/lang/String" (fun adr adV => [(0, .ref (adV t)), (1, .int a0)]) (by decide) rfl (fun _ _ => by simp only [lg_sl]; exact Nat.le_of_ble_eq_true rfl) (fun _ _ => rfl) ?_
  intro p e s m args below meth c A D ids adr adV cA rep G0 hI hC hr
  unfold F_J0_charAt_5068e
  refine hz_aload_n (a := 0) (n := 1) hC dJ0_charAt_5068e_0 rfl rfl rfl ?_
  refine hz_callO (k := 0) (As := []) (st := []) (S1 := fun r => .int r :: []) (n := 4) hC (c_J0_isLatin1_aae02 l t ht  M) kv_J0_isLatin1_aae02 wd_2_5 trivial dJ0_charAt_5068e_1 rfl (hp_s_O hC.2.2.2.2.1 ht) rfl rfl (Nat.le_of_ble_eq_true rfl) ⟨Nat.le_of_ble_eq_true rfl, Nat.le_of_ble_eq_true rfl⟩ ⟨Nat.zero_le _, Nat.zero_le _⟩ (fun _ => rfl) rfl (fun r1 M1 _ => ?_)
  refine hz_if_eq (tgt := 16) (n := 7) hC dJ0_charAt_5068e_4 (by decide) rfl (fun _ => ?_) (fun _ => ?_)
  · exact hz_none hC
  · refine hz_aload_n (a := 0) (n := 8) hC dJ0_charAt_5068e_7 rfl rfl rfl ?_
    refine hz_vget (n := 11) hC dJ0_charAt_5068e_8 (hp_s_V hC.2.2.2.2.1 ht) wd_4_145 rfl ?_
    refine hz_iload_n (a := 1) (n := 12) hC dJ0_charAt_5068e_11 rfl rfl rfl ?_
    refine hz_callS (k := 2) (As := [.ref (adV (100 + t)), .int a0]) (st := []) (S1 := fun r => .int r :: []) (n := 15) hC (c_J1_charAt_3b067 l t a0 ht  M1) ks_J1_charAt_3b067 wd_2_9 trivial dJ0_charAt_5068e_12 rfl rfl rfl (Nat.le_of_ble_eq_true rfl) ⟨Nat.le_of_ble_eq_true rfl, Nat.le_of_ble_eq_true rfl⟩ ⟨Nat.zero_le _, Nat.zero_le _⟩ (fun _ => rfl) rfl (fun r2 M2 _ => ?_)
    exact hz_cret hC hr dJ0_charAt_5068e_15
