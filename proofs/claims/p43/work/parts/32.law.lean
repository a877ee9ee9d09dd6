def A_L_law_1064 (N : Nat) (xs : Nat → Int32) (rec50 : Int32 → Int32 → hp_M → Option (Int32 × hp_M)) (y1064_2 : Int32) (k50_3 : Int32) (y1064_4 : Int32) (y1064_5 : Int32) (y1064_12 : Int64) (y1064_14 : Int32) (M : hp_M) : Option (Int32 × hp_M) := (if y1064_14 = 0 then (rec50 y1064_2 (y1064_4 + (1 : Int32)) M) else (if (((y1064_5.toUInt32 >>> ((29 : Int32).toUInt32 &&& Int32.toUInt32 31)).toInt32) &&& (3 : Int32)) = (1 : Int32) then (hp_b (F_X8_undo M) (fun r19 M19 => (if r19 = (y1064_2 + (-1 : Int32)) then (hp_b (F_X8_checksum M19) (fun r20 M20 => (if (lg_cmp r20 y1064_12) = 0 then (rec50 (y1064_2 + (-1 : Int32)) (y1064_4 + (1 : Int32)) M20) else none))) else none))) else (rec50 y1064_2 (y1064_4 + (1 : Int32)) M)))
def A_L_law_1025 (N : Nat) (xs : Nat → Int32) (rec50 : Int32 → Int32 → hp_M → Option (Int32 × hp_M)) (k50_3 : Int32) (y1025_4 : Int32) (y1025_5 : Int32) (y1025_12 : Int64) (y1025_14 : Int32) (z1025_0 : Int32) (z1025_1 : Int32) (z1025_2 : Int32) (M : hp_M) : Option (Int32 × hp_M) := (hp_b (F_X8_size (11 : Int32) M) (fun r16 M16 => (if r16 = (if (z1025_1 + z1025_0) < z1025_2 then (z1025_1 + z1025_0) else z1025_2) then (hp_b (F_L_holds M16) (fun r17 M17 => (if r17 = 0 then none else (if y1025_14 = 0 then (hp_b (F_X8_checksum M17) (fun r18 M18 => (if (lg_cmp r18 y1025_12) = 0 then (A_L_law_1064 N xs rec50 (if (z1025_1 + z1025_0) < z1025_2 then (z1025_1 + z1025_0) else z1025_2) k50_3 y1025_4 y1025_5 y1025_12 y1025_14 M18) else none))) else (A_L_law_1064 N xs rec50 (if (z1025_1 + z1025_0) < z1025_2 then (z1025_1 + z1025_0) else z1025_2) k50_3 y1025_4 y1025_5 y1025_12 y1025_14 M17))))) else none)))
def A_L_law_1010 (N : Nat) (xs : Nat → Int32) (rec50 : Int32 → Int32 → hp_M → Option (Int32 × hp_M)) (y1010_2 : Int32) (k50_3 : Int32) (y1010_4 : Int32) (y1010_5 : Int32) (y1010_12 : Int64) (z1010_0 : Int32) (M : hp_M) : Option (Int32 × hp_M) := (if z1010_0 = 0 then (A_L_law_1025 N xs rec50 k50_3 y1010_4 y1010_5 y1010_12 z1010_0 (0 : Int32) y1010_2 (8 : Int32) M) else (A_L_law_1025 N xs rec50 k50_3 y1010_4 y1010_5 y1010_12 z1010_0 (1 : Int32) y1010_2 (8 : Int32) M))
def A_L_law_1000 (N : Nat) (xs : Nat → Int32) (rec50 : Int32 → Int32 → hp_M → Option (Int32 × hp_M)) (y1000_2 : Int32) (k50_3 : Int32) (y1000_4 : Int32) (y1000_5 : Int32) (y1000_10 : Int32) (y1000_12 : Int64) (M : hp_M) : Option (Int32 × hp_M) := (if y1000_10 < 0 then (A_L_law_1010 N xs rec50 y1000_2 k50_3 y1000_4 y1000_5 y1000_12 (0 : Int32) M) else (A_L_law_1010 N xs rec50 y1000_2 k50_3 y1000_4 y1000_5 y1000_12 (1 : Int32) M))
def A_L_law_236 (N : Nat) (xs : Nat → Int32) (rec50 : Int32 → Int32 → hp_M → Option (Int32 × hp_M)) (y236_2 : Int32) (k50_3 : Int32) (y236_4 : Int32) (y236_5 : Int32) (y236_6 : Int32) (y236_7 : Int32) (y236_8 : Int32) (y236_10 : Int32) (y236_12 : Int64) (z236_0 : Int32) (z236_1 : Int32) (M : hp_M) : Option (Int32 × hp_M) := (if z236_1 = z236_0 then (if y236_8 = 0 then (hp_b (F_X8_flat y236_6 (2 : Int32) M) (fun r13 M13 => (if r13 = (1 : Int32) then (hp_b (F_X8_flat y236_6 (3 : Int32) M13) (fun r14 M14 => (if r14 = y236_10 then (hp_b (F_X8_flat y236_6 (4 : Int32) M14) (fun r15 M15 => (if (99 : Int32) = 0 then none else (if r15 = ((1 : Int32) + (y236_7 - y236_7 / (99 : Int32) * (99 : Int32))) then (A_L_law_1000 N xs rec50 y236_2 k50_3 y236_4 y236_5 y236_10 y236_12 M15) else none)))) else none))) else none))) else (A_L_law_1000 N xs rec50 y236_2 k50_3 y236_4 y236_5 y236_10 y236_12 M)) else none)
def A_L_law_329 (N : Nat) (xs : Nat → Int32) (rec50 : Int32 → Int32 → hp_M → Option (Int32 × hp_M)) (y329_2 : Int32) (k50_3 : Int32) (y329_4 : Int32) (y329_5 : Int32) (y329_6 : Int32) (y329_10 : Int32) (y329_12 : Int64) (z329_0 : Int32) (z329_1 : Int32) (M : hp_M) : Option (Int32 × hp_M) := (if z329_1 = z329_0 then (if y329_10 < 0 then (A_L_law_1000 N xs rec50 y329_2 k50_3 y329_4 y329_5 y329_10 y329_12 M) else (hp_b (F_X8_flat y329_6 (2 : Int32) M) (fun r27 M27 => (if r27 = 0 then (A_L_law_1000 N xs rec50 y329_2 k50_3 y329_4 y329_5 y329_10 y329_12 M27) else none)))) else none)
def A_L_law_322 (N : Nat) (xs : Nat → Int32) (rec50 : Int32 → Int32 → hp_M → Option (Int32 × hp_M)) (y322_2 : Int32) (k50_3 : Int32) (y322_4 : Int32) (y322_5 : Int32) (y322_6 : Int32) (y322_10 : Int32) (y322_12 : Int64) (y322_14 : Int32) (z322_0 : Int32) (M : hp_M) : Option (Int32 × hp_M) := (A_L_law_329 N xs rec50 y322_2 k50_3 y322_4 y322_5 y322_6 y322_10 y322_12 y322_14 z322_0 M)
def A_L_law_327 (N : Nat) (xs : Nat → Int32) (rec50 : Int32 → Int32 → hp_M → Option (Int32 × hp_M)) (y327_2 : Int32) (k50_3 : Int32) (y327_4 : Int32) (y327_5 : Int32) (y327_6 : Int32) (y327_10 : Int32) (y327_12 : Int64) (z327_0 : Int32) (M : hp_M) : Option (Int32 × hp_M) := (A_L_law_329 N xs rec50 y327_2 k50_3 y327_4 y327_5 y327_6 y327_10 y327_12 (-3 : Int32) z327_0 M)
def A_L_law_421 (N : Nat) (xs : Nat → Int32) (rec50 : Int32 → Int32 → hp_M → Option (Int32 × hp_M)) (y421_2 : Int32) (k50_3 : Int32) (y421_4 : Int32) (y421_5 : Int32) (y421_6 : Int32) (y421_8 : Int32) (y421_10 : Int32) (y421_12 : Int64) (y421_15 : Int32) (y421_16 : Int32) (z421_0 : Int32) (z421_1 : Int32) (M : hp_M) : Option (Int32 × hp_M) := (if z421_1 = z421_0 then (if y421_8 = (3 : Int32) then (hp_b (F_X8_size (2 : Int32) M) (fun r32 M32 => (if r32 = 0 then (hp_b (F_X8_flat y421_6 (2 : Int32) M32) (fun r33 M33 => (if r33 = 0 then (hp_b (F_X8_flat y421_6 (6 : Int32) M33) (fun r34 M34 => (if r34 = (y421_15 + y421_16) then (A_L_law_1000 N xs rec50 y421_2 k50_3 y421_4 y421_5 y421_10 y421_12 M34) else none))) else none))) else none))) else (A_L_law_1000 N xs rec50 y421_2 k50_3 y421_4 y421_5 y421_10 y421_12 M)) else none)
def A_L_law_396 (N : Nat) (xs : Nat → Int32) (rec50 : Int32 → Int32 → hp_M → Option (Int32 × hp_M)) (y396_2 : Int32) (k50_3 : Int32) (y396_4 : Int32) (y396_5 : Int32) (y396_6 : Int32) (y396_8 : Int32) (y396_12 : Int64) (y396_14 : Int32) (y396_15 : Int32) (z396_0 : Int32) (M : hp_M) : Option (Int32 × hp_M) := (hp_b (F_X8_hang y396_6 M) (fun r31 M31 => (if y396_8 = (3 : Int32) then (A_L_law_421 N xs rec50 y396_2 k50_3 y396_4 y396_5 y396_6 y396_8 r31 y396_12 y396_15 z396_0 y396_14 r31 M31) else (A_L_law_421 N xs rec50 y396_2 k50_3 y396_4 y396_5 y396_6 y396_8 r31 y396_12 y396_15 z396_0 (-4 : Int32) r31 M31))))
def A_L_law_395 (N : Nat) (xs : Nat → Int32) (rec50 : Int32 → Int32 → hp_M → Option (Int32 × hp_M)) (y395_2 : Int32) (k50_3 : Int32) (y395_4 : Int32) (y395_5 : Int32) (y395_6 : Int32) (y395_8 : Int32) (y395_12 : Int64) (y395_14 : Int32) (y395_15 : Int32) (M : hp_M) : Option (Int32 × hp_M) := (A_L_law_396 N xs rec50 y395_2 k50_3 y395_4 y395_5 y395_6 y395_8 y395_12 y395_14 y395_15 (0 : Int32) M)
def A_L_law_633 (N : Nat) (xs : Nat → Int32) (rec50 : Int32 → Int32 → hp_M → Option (Int32 × hp_M)) (y633_2 : Int32) (k50_3 : Int32) (y633_4 : Int32) (y633_5 : Int32) (y633_10 : Int32) (y633_12 : Int64) (y633_16 : Int32) (M : hp_M) : Option (Int32 × hp_M) := (if y633_10 = (3 : Int32) then (hp_b (F_X8_account (8 : Int32) M) (fun r46 M46 => (if r46 = (y633_16 + (1 : Int32)) then (A_L_law_1000 N xs rec50 y633_2 k50_3 y633_4 y633_5 y633_10 y633_12 M46) else none))) else (A_L_law_1000 N xs rec50 y633_2 k50_3 y633_4 y633_5 y633_10 y633_12 M))
def A_L_law_614 (N : Nat) (xs : Nat → Int32) (rec50 : Int32 → Int32 → hp_M → Option (Int32 × hp_M)) (y614_2 : Int32) (k50_3 : Int32) (y614_4 : Int32) (y614_5 : Int32) (y614_10 : Int32) (y614_12 : Int64) (y614_15 : Int32) (y614_16 : Int32) (M : hp_M) : Option (Int32 × hp_M) := (if y614_10 = (2 : Int32) then (hp_b (F_X8_size (9 : Int32) M) (fun r45 M45 => (if r45 = (y614_15 + (1 : Int32)) then (A_L_law_633 N xs rec50 y614_2 k50_3 y614_4 y614_5 y614_10 y614_12 y614_16 M45) else none))) else (A_L_law_633 N xs rec50 y614_2 k50_3 y614_4 y614_5 y614_10 y614_12 y614_16 M))
def A_L_law_574 (N : Nat) (xs : Nat → Int32) (rec50 : Int32 → Int32 → hp_M → Option (Int32 × hp_M)) (y574_2 : Int32) (k50_3 : Int32) (y574_4 : Int32) (y574_5 : Int32) (y574_6 : Int32) (y574_7 : Int32) (y574_10 : Int32) (y574_12 : Int64) (y574_15 : Int32) (y574_16 : Int32) (M : hp_M) : Option (Int32 × hp_M) := (if y574_10 = (1 : Int32) then (hp_b (F_X8_size (2 : Int32) M) (fun r42 M42 => (if r42 = (2 : Int32) then (hp_b (F_X8_size (3 : Int32) M42) (fun r43 M43 => (if r43 = y574_6 then (hp_b (F_X8_size (5 : Int32) M43) (fun r44 M44 => (if (99 : Int32) = 0 then none else (if r44 = ((1 : Int32) + (y574_7 - y574_7 / (99 : Int32) * (99 : Int32))) then (A_L_law_614 N xs rec50 y574_2 k50_3 y574_4 y574_5 y574_10 y574_12 y574_15 y574_16 M44) else none)))) else none))) else none))) else (A_L_law_614 N xs rec50 y574_2 k50_3 y574_4 y574_5 y574_10 y574_12 y574_15 y574_16 M))
def A_L_law_545 (N : Nat) (xs : Nat → Int32) (rec50 : Int32 → Int32 → hp_M → Option (Int32 × hp_M)) (y545_2 : Int32) (k50_3 : Int32) (y545_4 : Int32) (y545_5 : Int32) (y545_6 : Int32) (y545_7 : Int32) (y545_10 : Int32) (y545_12 : Int64) (y545_15 : Int32) (y545_16 : Int32) (z545_0 : Int32) (z545_1 : Int32) (M : hp_M) : Option (Int32 × hp_M) := (if z545_1 = z545_0 then (if y545_10 = 0 then (hp_b (F_X8_size (2 : Int32) M) (fun r40 M40 => (if r40 = (1 : Int32) then (hp_b (F_X8_size (3 : Int32) M40) (fun r41 M41 => (if r41 = y545_6 then (A_L_law_574 N xs rec50 y545_2 k50_3 y545_4 y545_5 y545_6 y545_7 y545_10 y545_12 y545_15 y545_16 M41) else none))) else none))) else (A_L_law_574 N xs rec50 y545_2 k50_3 y545_4 y545_5 y545_6 y545_7 y545_10 y545_12 y545_15 y545_16 M)) else none)
def A_L_law_534 (N : Nat) (xs : Nat → Int32) (rec50 : Int32 → Int32 → hp_M → Option (Int32 × hp_M)) (y534_2 : Int32) (k50_3 : Int32) (y534_4 : Int32) (y534_5 : Int32) (y534_6 : Int32) (y534_7 : Int32) (y534_9 : Int32) (y534_10 : Int32) (y534_12 : Int64) (y534_15 : Int32) (y534_16 : Int32) (z534_0 : Int32) (M : hp_M) : Option (Int32 × hp_M) := (if y534_9 = (-1 : Int32) then (A_L_law_545 N xs rec50 y534_2 k50_3 y534_4 y534_5 y534_6 y534_7 y534_10 y534_12 y534_15 y534_16 (0 : Int32) z534_0 M) else (A_L_law_545 N xs rec50 y534_2 k50_3 y534_4 y534_5 y534_6 y534_7 y534_10 y534_12 y534_15 y534_16 (1 : Int32) z534_0 M))
def A_L_law_520 (N : Nat) (xs : Nat → Int32) (rec50 : Int32 → Int32 → hp_M → Option (Int32 × hp_M)) (y520_2 : Int32) (k50_3 : Int32) (y520_4 : Int32) (y520_5 : Int32) (y520_6 : Int32) (y520_7 : Int32) (y520_9 : Int32) (y520_10 : Int32) (y520_12 : Int64) (y520_14 : Int32) (y520_15 : Int32) (y520_16 : Int32) (z520_0 : Int32) (z520_1 : Int32) (M : hp_M) : Option (Int32 × hp_M) := (if z520_1 = z520_0 then (if y520_14 = (5 : Int32) then (A_L_law_534 N xs rec50 y520_2 k50_3 y520_4 y520_5 y520_6 y520_7 y520_9 y520_10 y520_12 y520_15 y520_16 (1 : Int32) M) else (A_L_law_534 N xs rec50 y520_2 k50_3 y520_4 y520_5 y520_6 y520_7 y520_9 y520_10 y520_12 y520_15 y520_16 (0 : Int32) M)) else none)
def A_L_law_702 (N : Nat) (xs : Nat → Int32) (rec50 : Int32 → Int32 → hp_M → Option (Int32 × hp_M)) (y702_2 : Int32) (k50_3 : Int32) (y702_4 : Int32) (y702_5 : Int32) (y702_10 : Int32) (y702_12 : Int64) (z702_0 : Int32) (z702_1 : Int32) (M : hp_M) : Option (Int32 × hp_M) := (if z702_1 = z702_0 then (A_L_law_1000 N xs rec50 y702_2 k50_3 y702_4 y702_5 y702_10 y702_12 M) else none)
def A_L_law_776 (N : Nat) (xs : Nat → Int32) (rec50 : Int32 → Int32 → hp_M → Option (Int32 × hp_M)) (y776_2 : Int32) (k50_3 : Int32) (y776_4 : Int32) (y776_5 : Int32) (y776_10 : Int32) (y776_12 : Int64) (z776_0 : Int32) (z776_1 : Int32) (M : hp_M) : Option (Int32 × hp_M) := (if z776_1 = z776_0 then (A_L_law_1000 N xs rec50 y776_2 k50_3 y776_4 y776_5 y776_10 y776_12 M) else none)
def A_L_law_764 (N : Nat) (xs : Nat → Int32) (rec50 : Int32 → Int32 → hp_M → Option (Int32 × hp_M)) (y764_2 : Int32) (k50_3 : Int32) (y764_4 : Int32) (y764_5 : Int32) (y764_7 : Int32) (y764_10 : Int32) (y764_12 : Int64) (z764_0 : Int32) (M : hp_M) : Option (Int32 × hp_M) := (if (y764_7 &&& (1 : Int32)) = 0 then (A_L_law_776 N xs rec50 y764_2 k50_3 y764_4 y764_5 y764_10 y764_12 (1 : Int32) z764_0 M) else (A_L_law_776 N xs rec50 y764_2 k50_3 y764_4 y764_5 y764_10 y764_12 (0 : Int32) z764_0 M))
def A_L_law_740 (N : Nat) (xs : Nat → Int32) (rec50 : Int32 → Int32 → hp_M → Option (Int32 × hp_M)) (y740_2 : Int32) (k50_3 : Int32) (y740_4 : Int32) (y740_5 : Int32) (y740_6 : Int32) (y740_7 : Int32) (y740_10 : Int32) (y740_12 : Int64) (y740_14 : Int32) (z740_0 : Int32) (z740_1 : Int32) (M : hp_M) : Option (Int32 × hp_M) := (hp_b (F_X8_setCurious z740_1 z740_0 M) (fun r58 M58 => (if r58 = y740_14 then (hp_b (F_X8_flat y740_6 (1 : Int32) M58) (fun r59 M59 => (if r59 = (1 : Int32) then (A_L_law_764 N xs rec50 y740_2 k50_3 y740_4 y740_5 y740_7 y740_10 y740_12 (1 : Int32) M59) else (A_L_law_764 N xs rec50 y740_2 k50_3 y740_4 y740_5 y740_7 y740_10 y740_12 (0 : Int32) M59)))) else none)))
def A_L_law_723 (N : Nat) (xs : Nat → Int32) (rec50 : Int32 → Int32 → hp_M → Option (Int32 × hp_M)) (y723_2 : Int32) (k50_3 : Int32) (y723_4 : Int32) (y723_5 : Int32) (y723_6 : Int32) (y723_7 : Int32) (y723_10 : Int32) (y723_12 : Int64) (z723_0 : Int32) (M : hp_M) : Option (Int32 × hp_M) := (if (y723_7 &&& (1 : Int32)) = 0 then (A_L_law_740 N xs rec50 y723_2 k50_3 y723_4 y723_5 y723_6 y723_7 y723_10 y723_12 z723_0 (1 : Int32) y723_6 M) else (A_L_law_740 N xs rec50 y723_2 k50_3 y723_4 y723_5 y723_6 y723_7 y723_10 y723_12 z723_0 (0 : Int32) y723_6 M))
def A_L_law_884 (N : Nat) (xs : Nat → Int32) (rec50 : Int32 → Int32 → hp_M → Option (Int32 × hp_M)) (y884_2 : Int32) (k50_3 : Int32) (y884_4 : Int32) (y884_5 : Int32) (y884_12 : Int64) (y884_14 : Int32) (z884_0 : Int32) (M : hp_M) : Option (Int32 × hp_M) := (hp_b (F_X8_setting y884_14 M) (fun r60 M60 => (hp_b (F_X8_set y884_14 z884_0 M60) (fun r61 M61 => (if r61 = r60 then (hp_b (F_X8_setting y884_14 M61) (fun r62 M62 => (if r62 = z884_0 then (A_L_law_1000 N xs rec50 y884_2 k50_3 y884_4 y884_5 r61 y884_12 M62) else none))) else none)))))
def A_L_law_127 (N : Nat) (xs : Nat → Int32) (rec50 : Int32 → Int32 → hp_M → Option (Int32 × hp_M)) (y127_2 : Int32) (k50_3 : Int32) (y127_4 : Int32) (y127_5 : Int32) (y127_6 : Int32) (y127_7 : Int32) (y127_8 : Int32) (y127_9 : Int32) (y127_10 : Int32) (z127_0 : Int32) (M : hp_M) : Option (Int32 × hp_M) := (hp_b (F_X8_checksum M) (fun r10 M10 => (if (y127_5 &&& (15 : Int32)) = (0 : Int32) then (if (99 : Int32) = 0 then none else (hp_b (F_X8_want y127_6 ((1 : Int32) + (y127_7 - y127_7 / (99 : Int32) * (99 : Int32))) M10) (fun r11 M11 => (if y127_8 = 0 then (hp_b (F_X8_flat y127_6 (0 : Int32) M11) (fun r12 M12 => (A_L_law_236 N xs rec50 y127_2 k50_3 y127_4 y127_5 y127_6 y127_7 y127_8 r11 r10 ((1 : Int32) + r12) r11 M12))) else (A_L_law_236 N xs rec50 y127_2 k50_3 y127_4 y127_5 y127_6 y127_7 y127_8 r11 r10 (-2 : Int32) r11 M11))))) else (if (y127_5 &&& (15 : Int32)) = (1 : Int32) then (if (99 : Int32) = 0 then none else (hp_b (F_X8_want y127_6 ((1 : Int32) + (y127_7 - y127_7 / (99 : Int32) * (99 : Int32))) M10) (fun r21 M21 => (if y127_8 = 0 then (hp_b (F_X8_flat y127_6 (0 : Int32) M21) (fun r22 M22 => (A_L_law_236 N xs rec50 y127_2 k50_3 y127_4 y127_5 y127_6 y127_7 y127_8 r21 r10 ((1 : Int32) + r22) r21 M22))) else (A_L_law_236 N xs rec50 y127_2 k50_3 y127_4 y127_5 y127_6 y127_7 y127_8 r21 r10 (-2 : Int32) r21 M21))))) else (if (y127_5 &&& (15 : Int32)) = (2 : Int32) then (if (99 : Int32) = 0 then none else (hp_b (F_X8_want y127_6 ((1 : Int32) + (y127_7 - y127_7 / (99 : Int32) * (99 : Int32))) M10) (fun r23 M23 => (if y127_8 = 0 then (hp_b (F_X8_flat y127_6 (0 : Int32) M23) (fun r24 M24 => (A_L_law_236 N xs rec50 y127_2 k50_3 y127_4 y127_5 y127_6 y127_7 y127_8 r23 r10 ((1 : Int32) + r24) r23 M24))) else (A_L_law_236 N xs rec50 y127_2 k50_3 y127_4 y127_5 y127_6 y127_7 y127_8 r23 r10 (-2 : Int32) r23 M23))))) else (if (y127_5 &&& (15 : Int32)) = (3 : Int32) then (hp_b (F_X8_flat y127_6 (4 : Int32) M10) (fun r25 M25 => (hp_b (F_X8_drop y127_6 M25) (fun r26 M26 => (if y127_8 = (2 : Int32) then (A_L_law_322 N xs rec50 y127_2 k50_3 y127_4 y127_5 y127_6 r26 r10 r25 r26 M26) else (if y127_8 = (1 : Int32) then (if z127_0 = 0 then (A_L_law_322 N xs rec50 y127_2 k50_3 y127_4 y127_5 y127_6 r26 r10 r25 r26 M26) else (A_L_law_327 N xs rec50 y127_2 k50_3 y127_4 y127_5 y127_6 r26 r10 r26 M26)) else (A_L_law_327 N xs rec50 y127_2 k50_3 y127_4 y127_5 y127_6 r26 r10 r26 M26))))))) else (if (y127_5 &&& (15 : Int32)) = (4 : Int32) then (hp_b (F_X8_size (4 : Int32) M10) (fun r28 M28 => (hp_b (F_X8_flat y127_6 (6 : Int32) M28) (fun r29 M29 => (if y127_8 = (3 : Int32) then (hp_b (F_X8_size (6 : Int32) M29) (fun r30 M30 => (if r30 = 0 then (if r28 ≤ 0 then (A_L_law_395 N xs rec50 y127_2 k50_3 y127_4 y127_5 y127_6 y127_8 r10 r28 r29 M30) else (hp_b (F_X8_cost r28 M30) (fun r35 M35 => (A_L_law_396 N xs rec50 y127_2 k50_3 y127_4 y127_5 y127_6 y127_8 r10 r28 r29 r35 M35)))) else (A_L_law_395 N xs rec50 y127_2 k50_3 y127_4 y127_5 y127_6 y127_8 r10 r28 r29 M30)))) else (A_L_law_395 N xs rec50 y127_2 k50_3 y127_4 y127_5 y127_6 y127_8 r10 r28 r29 M29)))))) else (if (y127_5 &&& (15 : Int32)) = (5 : Int32) then (hp_b (F_X8_ifRung y127_6 M10) (fun r36 M36 => (hp_b (F_X8_size (9 : Int32) M36) (fun r37 M37 => (hp_b (F_X8_account (8 : Int32) M37) (fun r38 M38 => (if (99 : Int32) = 0 then none else (hp_b (F_X8_ring y127_6 ((1 : Int32) + (y127_7 - y127_7 / (99 : Int32) * (99 : Int32))) M38) (fun r39 M39 => (if r36 = (5 : Int32) then (A_L_law_520 N xs rec50 y127_2 k50_3 y127_4 y127_5 y127_6 y127_7 y127_9 r39 r10 r36 r37 r38 (-5 : Int32) r39 M39) else (A_L_law_520 N xs rec50 y127_2 k50_3 y127_4 y127_5 y127_6 y127_7 y127_9 r39 r10 r36 r37 r38 r36 r39 M39))))))))))) else (if (y127_5 &&& (15 : Int32)) = (6 : Int32) then (hp_b (F_X8_ifRung y127_6 M10) (fun r47 M47 => (hp_b (F_X8_size (9 : Int32) M47) (fun r48 M48 => (hp_b (F_X8_account (8 : Int32) M48) (fun r49 M49 => (if (99 : Int32) = 0 then none else (hp_b (F_X8_ring y127_6 ((1 : Int32) + (y127_7 - y127_7 / (99 : Int32) * (99 : Int32))) M49) (fun r50 M50 => (if r47 = (5 : Int32) then (A_L_law_520 N xs rec50 y127_2 k50_3 y127_4 y127_5 y127_6 y127_7 y127_9 r50 r10 r47 r48 r49 (-5 : Int32) r50 M50) else (A_L_law_520 N xs rec50 y127_2 k50_3 y127_4 y127_5 y127_6 y127_7 y127_9 r50 r10 r47 r48 r49 r47 r50 M50))))))))))) else (if (y127_5 &&& (15 : Int32)) = (7 : Int32) then (hp_b (F_X8_ifRung y127_6 M10) (fun r51 M51 => (hp_b (F_X8_size (9 : Int32) M51) (fun r52 M52 => (hp_b (F_X8_account (8 : Int32) M52) (fun r53 M53 => (if (99 : Int32) = 0 then none else (hp_b (F_X8_ring y127_6 ((1 : Int32) + (y127_7 - y127_7 / (99 : Int32) * (99 : Int32))) M53) (fun r54 M54 => (if r51 = (5 : Int32) then (A_L_law_520 N xs rec50 y127_2 k50_3 y127_4 y127_5 y127_6 y127_7 y127_9 r54 r10 r51 r52 r53 (-5 : Int32) r54 M54) else (A_L_law_520 N xs rec50 y127_2 k50_3 y127_4 y127_5 y127_6 y127_7 y127_9 r54 r10 r51 r52 r53 r51 r54 M54))))))))))) else (if (y127_5 &&& (15 : Int32)) = (8 : Int32) then (if (40 : Int32) = 0 then none else (hp_b (F_X8_flat y127_6 (6 : Int32) M10) (fun r55 M55 => (hp_b (F_X8_pay y127_6 ((1 : Int32) + (y127_7 - y127_7 / (40 : Int32) * (40 : Int32))) M55) (fun r56 M56 => (if ((1 : Int32) + (y127_7 - y127_7 / (40 : Int32) * (40 : Int32))) ≤ r55 then (A_L_law_702 N xs rec50 y127_2 k50_3 y127_4 y127_5 r56 r10 (r55 - ((1 : Int32) + (y127_7 - y127_7 / (40 : Int32) * (40 : Int32)))) r56 M56) else (A_L_law_702 N xs rec50 y127_2 k50_3 y127_4 y127_5 r56 r10 (-6 : Int32) r56 M56))))))) else (if (y127_5 &&& (15 : Int32)) = (9 : Int32) then (hp_b (F_X8_flat y127_6 (1 : Int32) M10) (fun r57 M57 => (if r57 = (1 : Int32) then (A_L_law_723 N xs rec50 y127_2 k50_3 y127_4 y127_5 y127_6 y127_7 y127_10 r10 (1 : Int32) M57) else (A_L_law_723 N xs rec50 y127_2 k50_3 y127_4 y127_5 y127_6 y127_7 y127_10 r10 (0 : Int32) M57)))) else (if (y127_5 &&& (15 : Int32)) = (10 : Int32) then (if (6 : Int32) = 0 then none else (if (y127_7 - y127_7 / (6 : Int32) * (6 : Int32)) = 0 then (if (6 : Int32) = 0 then none else (if (61 : Int32) = 0 then none else (A_L_law_884 N xs rec50 y127_2 k50_3 y127_4 y127_5 r10 (y127_7 - y127_7 / (6 : Int32) * (6 : Int32)) ((y127_7 / (6 : Int32)) - (y127_7 / (6 : Int32)) / (61 : Int32) * (61 : Int32)) M10))) else (if (y127_7 - y127_7 / (6 : Int32) * (6 : Int32)) = (1 : Int32) then (if (6 : Int32) = 0 then none else (if (30 : Int32) = 0 then none else (A_L_law_884 N xs rec50 y127_2 k50_3 y127_4 y127_5 r10 (y127_7 - y127_7 / (6 : Int32) * (6 : Int32)) ((1 : Int32) + ((y127_7 / (6 : Int32)) - (y127_7 / (6 : Int32)) / (30 : Int32) * (30 : Int32))) M10))) else (if (y127_7 - y127_7 / (6 : Int32) * (6 : Int32)) = (2 : Int32) then (if (6 : Int32) = 0 then none else (if (100 : Int32) = 0 then none else (A_L_law_884 N xs rec50 y127_2 k50_3 y127_4 y127_5 r10 (y127_7 - y127_7 / (6 : Int32) * (6 : Int32)) ((y127_7 / (6 : Int32)) - (y127_7 / (6 : Int32)) / (100 : Int32) * (100 : Int32)) M10))) else (if (y127_7 - y127_7 / (6 : Int32) * (6 : Int32)) = (3 : Int32) then (if (6 : Int32) = 0 then none else (if (10 : Int32) = 0 then none else (A_L_law_884 N xs rec50 y127_2 k50_3 y127_4 y127_5 r10 (y127_7 - y127_7 / (6 : Int32) * (6 : Int32)) ((y127_7 / (6 : Int32)) - (y127_7 / (6 : Int32)) / (10 : Int32) * (10 : Int32)) M10))) else (if (y127_7 - y127_7 / (6 : Int32) * (6 : Int32)) = (4 : Int32) then (if (6 : Int32) = 0 then none else (if (99 : Int32) = 0 then none else (A_L_law_884 N xs rec50 y127_2 k50_3 y127_4 y127_5 r10 (y127_7 - y127_7 / (6 : Int32) * (6 : Int32)) ((1 : Int32) + ((y127_7 / (6 : Int32)) - (y127_7 / (6 : Int32)) / (99 : Int32) * (99 : Int32))) M10))) else (if (6 : Int32) = 0 then none else (if (21 : Int32) = 0 then none else (A_L_law_884 N xs rec50 y127_2 k50_3 y127_4 y127_5 r10 (y127_7 - y127_7 / (6 : Int32) * (6 : Int32)) ((y127_7 / (6 : Int32)) - (y127_7 / (6 : Int32)) / (21 : Int32) * (21 : Int32)) M10))))))))) else (if (30 : Int32) = 0 then none else (hp_b (F_X8_size (1 : Int32) M10) (fun r63 M63 => (hp_b (F_X8_account (1 : Int32) M63) (fun r64 M64 => (hp_b (F_X8_pass ((1 : Int32) + (y127_7 - y127_7 / (30 : Int32) * (30 : Int32))) M64) (fun r65 M65 => (hp_b (F_X8_size (1 : Int32) M65) (fun r66 M66 => (if r66 = (r63 + ((1 : Int32) + (y127_7 - y127_7 / (30 : Int32) * (30 : Int32)))) then (hp_b (F_X8_account (1 : Int32) M66) (fun r67 M67 => (if r65 = (r67 - r64) then (hp_b (F_X8_size (2 : Int32) M67) (fun r68 M68 => (if r68 = 0 then (hp_b (F_X8_size (7 : Int32) M68) (fun r69 M69 => (if r69 ≤ 0 then (A_L_law_1000 N xs rec50 y127_2 k50_3 y127_4 y127_5 r65 r10 M69) else none))) else (A_L_law_1000 N xs rec50 y127_2 k50_3 y127_4 y127_5 r65 r10 M68)))) else none))) else none)))))))))))))))))))))))
def A_L_law_126 (N : Nat) (xs : Nat → Int32) (rec50 : Int32 → Int32 → hp_M → Option (Int32 × hp_M)) (y126_2 : Int32) (k50_3 : Int32) (y126_4 : Int32) (y126_5 : Int32) (y126_6 : Int32) (y126_7 : Int32) (y126_8 : Int32) (y126_9 : Int32) (y126_10 : Int32) (M : hp_M) : Option (Int32 × hp_M) := (A_L_law_127 N xs rec50 y126_2 k50_3 y126_4 y126_5 y126_6 y126_7 y126_8 y126_9 y126_10 (0 : Int32) M)
def L_L_law_50 (N : Nat) (xs : Nat → Int32)  (k50_3 : Int32) : Nat → Int32 → Int32 → hp_M → Option (Int32 × hp_M)
  | 0, _, _, _ => none
  | n50 + 1, x2, x4, M => (if (10 : Int32) < x4 then (some ((1 : Int32), M)) else (hp_b (F_L_cell N xs x4 M) (fun r6 M6 => (if k50_3 = 0 then none else (hp_b (F_X8_flat ((((r6.toUInt32 >>> ((4 : Int32).toUInt32 &&& Int32.toUInt32 31)).toInt32) &&& (15 : Int32)) - (((r6.toUInt32 >>> ((4 : Int32).toUInt32 &&& Int32.toUInt32 31)).toInt32) &&& (15 : Int32)) / k50_3 * k50_3) (2 : Int32) M6) (fun r7 M7 => (hp_b (F_X8_size (3 : Int32) M7) (fun r8 M8 => (if r7 = (1 : Int32) then (hp_b (F_X8_flat ((((r6.toUInt32 >>> ((4 : Int32).toUInt32 &&& Int32.toUInt32 31)).toInt32) &&& (15 : Int32)) - (((r6.toUInt32 >>> ((4 : Int32).toUInt32 &&& Int32.toUInt32 31)).toInt32) &&& (15 : Int32)) / k50_3 * k50_3) (4 : Int32) M8) (fun r9 M9 => (if r9 = 0 then (A_L_law_127 N xs (L_L_law_50 N xs k50_3 n50) x2 k50_3 x4 r6 ((((r6.toUInt32 >>> ((4 : Int32).toUInt32 &&& Int32.toUInt32 31)).toInt32) &&& (15 : Int32)) - (((r6.toUInt32 >>> ((4 : Int32).toUInt32 &&& Int32.toUInt32 31)).toInt32) &&& (15 : Int32)) / k50_3 * k50_3) (((r6.toUInt32 >>> ((8 : Int32).toUInt32 &&& Int32.toUInt32 31)).toInt32) &&& (1023 : Int32)) r7 r8 (0 : Int32) (1 : Int32) M9) else (A_L_law_126 N xs (L_L_law_50 N xs k50_3 n50) x2 k50_3 x4 r6 ((((r6.toUInt32 >>> ((4 : Int32).toUInt32 &&& Int32.toUInt32 31)).toInt32) &&& (15 : Int32)) - (((r6.toUInt32 >>> ((4 : Int32).toUInt32 &&& Int32.toUInt32 31)).toInt32) &&& (15 : Int32)) / k50_3 * k50_3) (((r6.toUInt32 >>> ((8 : Int32).toUInt32 &&& Int32.toUInt32 31)).toInt32) &&& (1023 : Int32)) r7 r8 (0 : Int32) M9)))) else (A_L_law_126 N xs (L_L_law_50 N xs k50_3 n50) x2 k50_3 x4 r6 ((((r6.toUInt32 >>> ((4 : Int32).toUInt32 &&& Int32.toUInt32 31)).toInt32) &&& (15 : Int32)) - (((r6.toUInt32 >>> ((4 : Int32).toUInt32 &&& Int32.toUInt32 31)).toInt32) &&& (15 : Int32)) / k50_3 * k50_3) (((r6.toUInt32 >>> ((8 : Int32).toUInt32 &&& Int32.toUInt32 31)).toInt32) &&& (1023 : Int32)) r7 r8 (0 : Int32) M8))))))))))
def F_L_law (N : Nat) (xs : Nat → Int32) (M : hp_M) : Option (Int32 × hp_M) := (hp_b (F_L_cell N xs (0 : Int32) M) (fun r1 M1 => (if (3 : Int32) = 0 then none else (hp_b (F_X8_load ((r1 &&& (2147483647 : Int32)) - (r1 &&& (2147483647 : Int32)) / (3 : Int32) * (3 : Int32)) M1) (fun r2 M2 => (hp_b (F_X8_size (0 : Int32) M2) (fun r3 M3 => (if r2 = r3 then (hp_b (F_L_holds M3) (fun r4 M4 => (if r4 = 0 then none else (hp_b (F_X8_size (0 : Int32) M4) (fun r5 M5 => (L_L_law_50 N xs r5 hp_fu (0 : Int32) (1 : Int32) M5)))))) else none))))))))
set_option maxRecDepth 20000 in
set_option maxHeartbeats 8000000 in
theorem zl_law {p : Program} {l : Launch} {e : Env} {s : State} {m : MethodId} {args : Array Value} {below : List Frame} {meth : Method} {c : Code} {A : Nat → Prop} {D : va_G} {ids : List (Nat × Nat)} {adr : Nat → Nat → Nat} {adV cA : Nat → Nat} {Q : State → Prop} {G0 : Option (Int32 × hp_M)} {b N : Nat} {xs : Nat → Int32} (hI : hp_IC ids) (hC : hp_Cx p s m meth c cL_law 17 "HallPhoneLaw" A D adV cA G0) (hX : va_X b N xs s s.heap) (hbl : b < s.heap.size) (hbA : ¬ A b) {cells slots : Nat} (hcs : cells ≤ 600086 ∧ slots ≤ 7301441) (hE : ∀ (H : Heap) (locs : List Loc) (ls : Array Slot), va_S A s.heap H locs → W p l e room_1 s m args below meth c H locs cells slots Q (F0 m 1110 ls [.int 1])) (M : hp_M) : hp_Z p l e room_1 s m args below meth c 17 A D ids adr adV cA cells slots Q G0 none 8 [(0, .ref b), (1, .ref (adr 12 0))] [] M (F_L_law N xs M) := by
  have hcs1 := hcs.1
  have hcs2 := hcs.2
  unfold F_L_law
  have l50 : ∀ (k50_3 : Int32) (n50 : Nat) (x2 : Int32) (x4 : Int32) (M : hp_M), hp_Z p l e room_1 s m args below meth c 17 A D ids adr adV cA cells slots Q G0 none 50 [(0, .ref b), (1, .ref (adr 12 0)), (2, .int x2), (3, .int k50_3), (4, .int x4)] [] M (L_L_law_50 N xs k50_3 n50 x2 x4 M) := by
    intro k50_3 n50
    induction n50 with
    | zero => intro x2 x4 M; exact hz_none hC
    | succ n50 ih50 =>
      intro x2 x4 M
      rw [L_L_law_50.eq_2]
      have j1064 : ∀ (y1064_2 : Int32) (y1064_4 : Int32) (y1064_5 : Int32) (y1064_12 : Int64) (y1064_14 : Int32) (M : hp_M), hp_Z p l e room_1 s m args below meth c 17 A D ids adr adV cA cells slots Q G0 none 1064 [(0, .ref b), (1, .ref (adr 12 0)), (2, .int y1064_2), (3, .int k50_3), (4, .int y1064_4), (5, .int y1064_5), (12, .long y1064_12), (14, .int y1064_14)] [] M (A_L_law_1064 N xs (L_L_law_50 N xs k50_3 n50) y1064_2 k50_3 y1064_4 y1064_5 y1064_12 y1064_14 M) := by
        intro y1064_2 y1064_4 y1064_5 y1064_12 y1064_14 M
        unfold A_L_law_1064
        refine hz_iload (a := 7) (n := 1066) hC dL_law_1064 rfl rfl ?_
        refine hz_if_eq (tgt := 1103) (n := 1069) hC dL_law_1066 (by decide) rfl (fun _ => ?_) (fun _ => ?_)
        · refine hz_iinc (a := 4) (v := (y1064_4 + (1 : Int32))) (L' := [(4, .int (y1064_4 + (1 : Int32))), (0, .ref b), (1, .ref (adr 12 0)), (2, .int y1064_2), (3, .int k50_3), (5, .int y1064_5), (12, .long y1064_12), (14, .int y1064_14)]) (n := 1106) hC dL_law_1103 rfl rfl (by decide) rfl rfl ?_
          refine hz_goto (n := 50) hC dL_law_1106 (by decide) ?_
          refine hz_L (L' := [(0, .ref b), (1, .ref (adr 12 0)), (2, .int y1064_2), (3, .int k50_3), (4, .int (y1064_4 + (1 : Int32)))]) [1, 2, 3, 4, 0] rfl ?_
          exact ih50 _ _ _
        · refine hz_iload (a := 5) (n := 1071) hC dL_law_1069 rfl rfl ?_
          refine hz_bipush (v := (29 : Int32)) (n := 1073) hC dL_law_1071 (by decide +kernel) rfl ?_
          refine hz_iushr (n := 1074) hC dL_law_1073 rfl rfl ?_
          refine hz_iconst (v := (3 : Int32)) (n := 1075) hC dL_law_1074 (by decide +kernel) rfl ?_
          refine hz_iand (n := 1076) hC dL_law_1075 rfl ?_
          refine hz_iconst (v := (1 : Int32)) (n := 1077) hC dL_law_1076 (by decide +kernel) rfl ?_
          refine hz_icmp_ne (tgt := 1103) (n := 1080) hC dL_law_1077 (by decide) rfl (fun _ => ?_) (fun _ => ?_)
          · refine hz_iinc (a := 2) (v := (y1064_2 + (-1 : Int32))) (L' := [(2, .int (y1064_2 + (-1 : Int32))), (0, .ref b), (1, .ref (adr 12 0)), (3, .int k50_3), (4, .int y1064_4), (5, .int y1064_5), (12, .long y1064_12), (14, .int y1064_14)]) (n := 1083) hC dL_law_1080 rfl rfl (by decide) rfl rfl ?_
            refine hz_aload_n (a := 2) (n := 1084) hC dL_law_1083 rfl rfl rfl ?_
            refine hz_callV (k := 0) (As := []) (st := []) (S1 := fun r => .int r :: []) (n := 1087) hC (c_X8_undo l    M) kv_X8_undo wd_4_60 hI dL_law_1084 rfl (hI.2 0 (by decide)) he_X8 rfl rfl rfl (Nat.le_of_ble_eq_true rfl) ⟨Nat.le_of_ble_eq_true rfl, Nat.le_of_ble_eq_true rfl⟩ ⟨by show _ ≤ (600086 : Nat); omega, by show _ ≤ (7301441 : Nat); omega⟩ (fun _ => rfl) rfl (fun r19 M19 _ => ?_)
            refine hz_iload_n (a := 0) (n := 1088) hC dL_law_1087 rfl rfl rfl ?_
            refine hz_icmp_ne (tgt := 1101) (n := 1091) hC dL_law_1088 (by decide) rfl (fun _ => ?_) (fun _ => ?_)
            · refine hz_aload_n (a := 2) (n := 1092) hC dL_law_1091 rfl rfl rfl ?_
              refine hz_callV (k := 0) (As := []) (st := []) (S1 := fun r => .long r :: []) (n := 1095) hC (c_X8_checksum l    M19) kv_X8_checksum wd_4_68 hI dL_law_1092 rfl (hI.2 0 (by decide)) he_X8 rfl rfl rfl (Nat.le_of_ble_eq_true rfl) ⟨Nat.le_of_ble_eq_true rfl, Nat.le_of_ble_eq_true rfl⟩ ⟨by show _ ≤ (600086 : Nat); omega, by show _ ≤ (7301441 : Nat); omega⟩ (fun _ => rfl) rfl (fun r20 M20 _ => ?_)
              refine hz_lload (a := 6) (n := 1097) hC dL_law_1095 rfl rfl ?_
              refine hz_lcmp (n := 1098) hC dL_law_1097 rfl ?_
              refine hz_if_eq (tgt := 1103) (n := 1101) hC dL_law_1098 (by decide) rfl (fun _ => ?_) (fun _ => ?_)
              · refine hz_iinc (a := 4) (v := (y1064_4 + (1 : Int32))) (L' := [(4, .int (y1064_4 + (1 : Int32))), (2, .int (y1064_2 + (-1 : Int32))), (0, .ref b), (1, .ref (adr 12 0)), (3, .int k50_3), (5, .int y1064_5), (12, .long y1064_12), (14, .int y1064_14)]) (n := 1106) hC dL_law_1103 rfl rfl (by decide) rfl rfl ?_
                refine hz_goto (n := 50) hC dL_law_1106 (by decide) ?_
                refine hz_L (L' := [(0, .ref b), (1, .ref (adr 12 0)), (2, .int (y1064_2 + (-1 : Int32))), (3, .int k50_3), (4, .int (y1064_4 + (1 : Int32)))]) [2, 3, 1, 4, 0] rfl ?_
                exact ih50 _ _ _
              · exact hz_none hC
            · exact hz_none hC
          · refine hz_iinc (a := 4) (v := (y1064_4 + (1 : Int32))) (L' := [(4, .int (y1064_4 + (1 : Int32))), (0, .ref b), (1, .ref (adr 12 0)), (2, .int y1064_2), (3, .int k50_3), (5, .int y1064_5), (12, .long y1064_12), (14, .int y1064_14)]) (n := 1106) hC dL_law_1103 rfl rfl (by decide) rfl rfl ?_
            refine hz_goto (n := 50) hC dL_law_1106 (by decide) ?_
            refine hz_L (L' := [(0, .ref b), (1, .ref (adr 12 0)), (2, .int y1064_2), (3, .int k50_3), (4, .int (y1064_4 + (1 : Int32)))]) [1, 2, 3, 4, 0] rfl ?_
            exact ih50 _ _ _
      have j1025 : ∀ (y1025_4 : Int32) (y1025_5 : Int32) (y1025_12 : Int64) (y1025_14 : Int32) (z1025_0 : Int32) (z1025_1 : Int32) (z1025_2 : Int32) (M : hp_M), hp_Z p l e room_1 s m args below meth c 17 A D ids adr adV cA cells slots Q G0 none 1025 [(0, .ref b), (1, .ref (adr 12 0)), (3, .int k50_3), (4, .int y1025_4), (5, .int y1025_5), (12, .long y1025_12), (14, .int y1025_14)] [.int z1025_0, .int z1025_1, .int z1025_2] M (A_L_law_1025 N xs (L_L_law_50 N xs k50_3 n50) k50_3 y1025_4 y1025_5 y1025_12 y1025_14 z1025_0 z1025_1 z1025_2 M) := by
        intro y1025_4 y1025_5 y1025_12 y1025_14 z1025_0 z1025_1 z1025_2 M
        unfold A_L_law_1025
        refine hz_iadd (n := 1026) hC dL_law_1025 rfl ?_
        refine hz_min (n := 1029) hC dL_law_1026 wd_4_127 hp_minw ⟨Nat.le_of_ble_eq_true rfl, Nat.le_of_ble_eq_true rfl, hcs.1, hcs.2⟩ rfl ?_
        refine hz_istore_n (L' := [(2, .int (if (z1025_1 + z1025_0) < z1025_2 then (z1025_1 + z1025_0) else z1025_2)), (0, .ref b), (1, .ref (adr 12 0)), (3, .int k50_3), (4, .int y1025_4), (5, .int y1025_5), (12, .long y1025_12), (14, .int y1025_14)]) (n := 1030) hC dL_law_1029 rfl (by decide) rfl rfl ?_
        refine hz_aload_n (a := 2) (n := 1031) hC dL_law_1030 rfl rfl rfl ?_
        refine hz_bipush (v := (11 : Int32)) (n := 1033) hC dL_law_1031 (by decide +kernel) rfl ?_
        refine hz_callV (k := 1) (As := [.int (11 : Int32)]) (st := []) (S1 := fun r => .int r :: []) (n := 1036) hC (c_X8_size l (11 : Int32)   M) kv_X8_size wd_3_151 hI dL_law_1033 rfl (hI.2 0 (by decide)) he_X8 rfl rfl rfl (Nat.le_of_ble_eq_true rfl) ⟨Nat.le_of_ble_eq_true rfl, Nat.le_of_ble_eq_true rfl⟩ ⟨by show _ ≤ (600086 : Nat); omega, by show _ ≤ (7301441 : Nat); omega⟩ (fun _ => rfl) rfl (fun r16 M16 _ => ?_)
        refine hz_iload_n (a := 0) (n := 1037) hC dL_law_1036 rfl rfl rfl ?_
        refine hz_icmp_ne (tgt := 1062) (n := 1040) hC dL_law_1037 (by decide) rfl (fun _ => ?_) (fun _ => ?_)
        · refine hz_aload_n (a := 2) (n := 1041) hC dL_law_1040 rfl rfl rfl ?_
          refine hz_callS (k := 1) (As := [.ref (adr 12 0)]) (st := []) (S1 := fun r => .int r :: []) (n := 1044) hC (c_L_holds l    M16) ks_L_holds wd_4_89 hI dL_law_1041 rfl rfl rfl (Nat.le_of_ble_eq_true rfl) ⟨Nat.le_of_ble_eq_true rfl, Nat.le_of_ble_eq_true rfl⟩ ⟨by show _ ≤ (600086 : Nat); omega, by show _ ≤ (7301441 : Nat); omega⟩ (fun _ => rfl) rfl (fun r17 M17 _ => ?_)
          refine hz_if_eq (tgt := 1062) (n := 1047) hC dL_law_1044 (by decide) rfl (fun _ => ?_) (fun _ => ?_)
          · exact hz_none hC
          · refine hz_iload (a := 7) (n := 1049) hC dL_law_1047 rfl rfl ?_
            refine hz_if_ne (tgt := 1064) (n := 1052) hC dL_law_1049 (by decide) rfl (fun _ => ?_) (fun _ => ?_)
            · refine hz_aload_n (a := 2) (n := 1053) hC dL_law_1052 rfl rfl rfl ?_
              refine hz_callV (k := 0) (As := []) (st := []) (S1 := fun r => .long r :: []) (n := 1056) hC (c_X8_checksum l    M17) kv_X8_checksum wd_4_68 hI dL_law_1053 rfl (hI.2 0 (by decide)) he_X8 rfl rfl rfl (Nat.le_of_ble_eq_true rfl) ⟨Nat.le_of_ble_eq_true rfl, Nat.le_of_ble_eq_true rfl⟩ ⟨by show _ ≤ (600086 : Nat); omega, by show _ ≤ (7301441 : Nat); omega⟩ (fun _ => rfl) rfl (fun r18 M18 _ => ?_)
              refine hz_lload (a := 6) (n := 1058) hC dL_law_1056 rfl rfl ?_
              refine hz_lcmp (n := 1059) hC dL_law_1058 rfl ?_
              refine hz_if_eq (tgt := 1064) (n := 1062) hC dL_law_1059 (by decide) rfl (fun _ => ?_) (fun _ => ?_)
              · refine hz_L (L' := [(0, .ref b), (1, .ref (adr 12 0)), (2, .int (if (z1025_1 + z1025_0) < z1025_2 then (z1025_1 + z1025_0) else z1025_2)), (3, .int k50_3), (4, .int y1025_4), (5, .int y1025_5), (12, .long y1025_12), (14, .int y1025_14)]) [1, 2, 0, 3, 4, 5, 6, 7] rfl ?_
                exact j1064 _ _ _ _ _ _
              · exact hz_none hC
            · refine hz_L (L' := [(0, .ref b), (1, .ref (adr 12 0)), (2, .int (if (z1025_1 + z1025_0) < z1025_2 then (z1025_1 + z1025_0) else z1025_2)), (3, .int k50_3), (4, .int y1025_4), (5, .int y1025_5), (12, .long y1025_12), (14, .int y1025_14)]) [1, 2, 0, 3, 4, 5, 6, 7] rfl ?_
              exact j1064 _ _ _ _ _ _
        · exact hz_none hC
      have j1010 : ∀ (y1010_2 : Int32) (y1010_4 : Int32) (y1010_5 : Int32) (y1010_12 : Int64) (z1010_0 : Int32) (M : hp_M), hp_Z p l e room_1 s m args below meth c 17 A D ids adr adV cA cells slots Q G0 none 1010 [(0, .ref b), (1, .ref (adr 12 0)), (2, .int y1010_2), (3, .int k50_3), (4, .int y1010_4), (5, .int y1010_5), (12, .long y1010_12)] [.int z1010_0] M (A_L_law_1010 N xs (L_L_law_50 N xs k50_3 n50) y1010_2 k50_3 y1010_4 y1010_5 y1010_12 z1010_0 M) := by
        intro y1010_2 y1010_4 y1010_5 y1010_12 z1010_0 M
        unfold A_L_law_1010
        refine hz_istore (L' := [(14, .int z1010_0), (0, .ref b), (1, .ref (adr 12 0)), (2, .int y1010_2), (3, .int k50_3), (4, .int y1010_4), (5, .int y1010_5), (12, .long y1010_12)]) (n := 1012) hC dL_law_1010 (by decide) rfl rfl ?_
        refine hz_bipush (v := (8 : Int32)) (n := 1014) hC dL_law_1012 (by decide +kernel) rfl ?_
        refine hz_iload_n (a := 3) (n := 1015) hC dL_law_1014 rfl rfl rfl ?_
        refine hz_iload (a := 0) (n := 1017) hC dL_law_1015 rfl rfl ?_
        refine hz_if_eq (tgt := 1024) (n := 1020) hC dL_law_1017 (by decide) rfl (fun _ => ?_) (fun _ => ?_)
        · refine hz_iconst (v := (0 : Int32)) (n := 1025) hC dL_law_1024 (by decide +kernel) rfl ?_
          refine hz_L (L' := [(0, .ref b), (1, .ref (adr 12 0)), (3, .int k50_3), (4, .int y1010_4), (5, .int y1010_5), (12, .long y1010_12), (14, .int z1010_0)]) [1, 2, 4, 5, 6, 7, 0] rfl ?_
          exact j1025 _ _ _ _ _ _ _ _
        · refine hz_iconst (v := (1 : Int32)) (n := 1021) hC dL_law_1020 (by decide +kernel) rfl ?_
          refine hz_goto (n := 1025) hC dL_law_1021 (by decide) ?_
          refine hz_L (L' := [(0, .ref b), (1, .ref (adr 12 0)), (3, .int k50_3), (4, .int y1010_4), (5, .int y1010_5), (12, .long y1010_12), (14, .int z1010_0)]) [1, 2, 4, 5, 6, 7, 0] rfl ?_
          exact j1025 _ _ _ _ _ _ _ _
      have j1000 : ∀ (y1000_2 : Int32) (y1000_4 : Int32) (y1000_5 : Int32) (y1000_10 : Int32) (y1000_12 : Int64) (M : hp_M), hp_Z p l e room_1 s m args below meth c 17 A D ids adr adV cA cells slots Q G0 none 1000 [(0, .ref b), (1, .ref (adr 12 0)), (2, .int y1000_2), (3, .int k50_3), (4, .int y1000_4), (5, .int y1000_5), (10, .int y1000_10), (12, .long y1000_12)] [] M (A_L_law_1000 N xs (L_L_law_50 N xs k50_3 n50) y1000_2 k50_3 y1000_4 y1000_5 y1000_10 y1000_12 M) := by
        intro y1000_2 y1000_4 y1000_5 y1000_10 y1000_12 M
        unfold A_L_law_1000
        refine hz_iload (a := 6) (n := 1002) hC dL_law_1000 rfl rfl ?_
        refine hz_if_lt (tgt := 1009) (n := 1005) hC dL_law_1002 (by decide) rfl (fun _ => ?_) (fun _ => ?_)
        · refine hz_iconst (v := (0 : Int32)) (n := 1010) hC dL_law_1009 (by decide +kernel) rfl ?_
          refine hz_L (L' := [(0, .ref b), (1, .ref (adr 12 0)), (2, .int y1000_2), (3, .int k50_3), (4, .int y1000_4), (5, .int y1000_5), (12, .long y1000_12)]) [0, 1, 2, 3, 4, 5, 7] rfl ?_
          exact j1010 _ _ _ _ _ _
        · refine hz_iconst (v := (1 : Int32)) (n := 1006) hC dL_law_1005 (by decide +kernel) rfl ?_
          refine hz_goto (n := 1010) hC dL_law_1006 (by decide) ?_
          refine hz_L (L' := [(0, .ref b), (1, .ref (adr 12 0)), (2, .int y1000_2), (3, .int k50_3), (4, .int y1000_4), (5, .int y1000_5), (12, .long y1000_12)]) [0, 1, 2, 3, 4, 5, 7] rfl ?_
          exact j1010 _ _ _ _ _ _
      have j236 : ∀ (y236_2 : Int32) (y236_4 : Int32) (y236_5 : Int32) (y236_6 : Int32) (y236_7 : Int32) (y236_8 : Int32) (y236_10 : Int32) (y236_12 : Int64) (z236_0 : Int32) (z236_1 : Int32) (M : hp_M), hp_Z p l e room_1 s m args below meth c 17 A D ids adr adV cA cells slots Q G0 none 236 [(0, .ref b), (1, .ref (adr 12 0)), (2, .int y236_2), (3, .int k50_3), (4, .int y236_4), (5, .int y236_5), (6, .int y236_6), (7, .int y236_7), (8, .int y236_8), (10, .int y236_10), (12, .long y236_12)] [.int z236_0, .int z236_1] M (A_L_law_236 N xs (L_L_law_50 N xs k50_3 n50) y236_2 k50_3 y236_4 y236_5 y236_6 y236_7 y236_8 y236_10 y236_12 z236_0 z236_1 M) := by
        intro y236_2 y236_4 y236_5 y236_6 y236_7 y236_8 y236_10 y236_12 z236_0 z236_1 M
        unfold A_L_law_236
        refine hz_icmp_ne (tgt := 284) (n := 239) hC dL_law_236 (by decide) rfl (fun _ => ?_) (fun _ => ?_)
        · refine hz_iload (a := 8) (n := 241) hC dL_law_239 rfl rfl ?_
          refine hz_if_ne (tgt := 1000) (n := 244) hC dL_law_241 (by decide) rfl (fun _ => ?_) (fun _ => ?_)
          · refine hz_aload_n (a := 1) (n := 245) hC dL_law_244 rfl rfl rfl ?_
            refine hz_iload (a := 6) (n := 247) hC dL_law_245 rfl rfl ?_
            refine hz_iconst (v := (2 : Int32)) (n := 248) hC dL_law_247 (by decide +kernel) rfl ?_
            refine hz_callV (k := 2) (As := [.int y236_6, .int (2 : Int32)]) (st := []) (S1 := fun r => .int r :: []) (n := 251) hC (c_X8_flat l y236_6 (2 : Int32)   M) kv_X8_flat wd_3_181 hI dL_law_248 rfl (hI.2 0 (by decide)) he_X8 rfl rfl rfl (Nat.le_of_ble_eq_true rfl) ⟨Nat.le_of_ble_eq_true rfl, Nat.le_of_ble_eq_true rfl⟩ ⟨by show _ ≤ (600086 : Nat); omega, by show _ ≤ (7301441 : Nat); omega⟩ (fun _ => rfl) rfl (fun r13 M13 _ => ?_)
            refine hz_iconst (v := (1 : Int32)) (n := 252) hC dL_law_251 (by decide +kernel) rfl ?_
            refine hz_icmp_ne (tgt := 284) (n := 255) hC dL_law_252 (by decide) rfl (fun _ => ?_) (fun _ => ?_)
            · refine hz_aload_n (a := 1) (n := 256) hC dL_law_255 rfl rfl rfl ?_
              refine hz_iload (a := 6) (n := 258) hC dL_law_256 rfl rfl ?_
              refine hz_iconst (v := (3 : Int32)) (n := 259) hC dL_law_258 (by decide +kernel) rfl ?_
              refine hz_callV (k := 2) (As := [.int y236_6, .int (3 : Int32)]) (st := []) (S1 := fun r => .int r :: []) (n := 262) hC (c_X8_flat l y236_6 (3 : Int32)   M13) kv_X8_flat wd_3_181 hI dL_law_259 rfl (hI.2 0 (by decide)) he_X8 rfl rfl rfl (Nat.le_of_ble_eq_true rfl) ⟨Nat.le_of_ble_eq_true rfl, Nat.le_of_ble_eq_true rfl⟩ ⟨by show _ ≤ (600086 : Nat); omega, by show _ ≤ (7301441 : Nat); omega⟩ (fun _ => rfl) rfl (fun r14 M14 _ => ?_)
              refine hz_iload (a := 9) (n := 264) hC dL_law_262 rfl rfl ?_
              refine hz_icmp_ne (tgt := 284) (n := 267) hC dL_law_264 (by decide) rfl (fun _ => ?_) (fun _ => ?_)
              · refine hz_aload_n (a := 1) (n := 268) hC dL_law_267 rfl rfl rfl ?_
                refine hz_iload (a := 6) (n := 270) hC dL_law_268 rfl rfl ?_
                refine hz_iconst (v := (4 : Int32)) (n := 271) hC dL_law_270 (by decide +kernel) rfl ?_
                refine hz_callV (k := 2) (As := [.int y236_6, .int (4 : Int32)]) (st := []) (S1 := fun r => .int r :: []) (n := 274) hC (c_X8_flat l y236_6 (4 : Int32)   M14) kv_X8_flat wd_3_181 hI dL_law_271 rfl (hI.2 0 (by decide)) he_X8 rfl rfl rfl (Nat.le_of_ble_eq_true rfl) ⟨Nat.le_of_ble_eq_true rfl, Nat.le_of_ble_eq_true rfl⟩ ⟨by show _ ≤ (600086 : Nat); omega, by show _ ≤ (7301441 : Nat); omega⟩ (fun _ => rfl) rfl (fun r15 M15 _ => ?_)
                refine hz_iconst (v := (1 : Int32)) (n := 275) hC dL_law_274 (by decide +kernel) rfl ?_
                refine hz_iload (a := 7) (n := 277) hC dL_law_275 rfl rfl ?_
                refine hz_bipush (v := (99 : Int32)) (n := 279) hC dL_law_277 (by decide +kernel) rfl ?_
                refine hz_irem (n := 280) hC dL_law_279 rfl (fun _ => ?_)
                refine hz_iadd (n := 281) hC dL_law_280 rfl ?_
                refine hz_icmp_eq (tgt := 1000) (n := 284) hC dL_law_281 (by decide) rfl (fun _ => ?_) (fun _ => ?_)
                · refine hz_L (L' := [(0, .ref b), (1, .ref (adr 12 0)), (2, .int y236_2), (3, .int k50_3), (4, .int y236_4), (5, .int y236_5), (10, .int y236_10), (12, .long y236_12)]) [0, 1, 2, 3, 4, 5, 9, 10] rfl ?_
                  exact j1000 _ _ _ _ _ _
                · exact hz_none hC
              · exact hz_none hC
            · exact hz_none hC
          · refine hz_L (L' := [(0, .ref b), (1, .ref (adr 12 0)), (2, .int y236_2), (3, .int k50_3), (4, .int y236_4), (5, .int y236_5), (10, .int y236_10), (12, .long y236_12)]) [0, 1, 2, 3, 4, 5, 9, 10] rfl ?_
            exact j1000 _ _ _ _ _ _
        · exact hz_none hC
      have j329 : ∀ (y329_2 : Int32) (y329_4 : Int32) (y329_5 : Int32) (y329_6 : Int32) (y329_10 : Int32) (y329_12 : Int64) (z329_0 : Int32) (z329_1 : Int32) (M : hp_M), hp_Z p l e room_1 s m args below meth c 17 A D ids adr adV cA cells slots Q G0 none 329 [(0, .ref b), (1, .ref (adr 12 0)), (2, .int y329_2), (3, .int k50_3), (4, .int y329_4), (5, .int y329_5), (6, .int y329_6), (10, .int y329_10), (12, .long y329_12)] [.int z329_0, .int z329_1] M (A_L_law_329 N xs (L_L_law_50 N xs k50_3 n50) y329_2 k50_3 y329_4 y329_5 y329_6 y329_10 y329_12 z329_0 z329_1 M) := by
        intro y329_2 y329_4 y329_5 y329_6 y329_10 y329_12 z329_0 z329_1 M
        unfold A_L_law_329
        refine hz_icmp_ne (tgt := 347) (n := 332) hC dL_law_329 (by decide) rfl (fun _ => ?_) (fun _ => ?_)
        · refine hz_iload (a := 7) (n := 334) hC dL_law_332 rfl rfl ?_
          refine hz_if_lt (tgt := 1000) (n := 337) hC dL_law_334 (by decide) rfl (fun _ => ?_) (fun _ => ?_)
          · refine hz_L (L' := [(0, .ref b), (1, .ref (adr 12 0)), (2, .int y329_2), (3, .int k50_3), (4, .int y329_4), (5, .int y329_5), (10, .int y329_10), (12, .long y329_12)]) [0, 1, 2, 3, 4, 5, 7, 8] rfl ?_
            exact j1000 _ _ _ _ _ _
          · refine hz_aload_n (a := 1) (n := 338) hC dL_law_337 rfl rfl rfl ?_
            refine hz_iload (a := 6) (n := 340) hC dL_law_338 rfl rfl ?_
            refine hz_iconst (v := (2 : Int32)) (n := 341) hC dL_law_340 (by decide +kernel) rfl ?_
            refine hz_callV (k := 2) (As := [.int y329_6, .int (2 : Int32)]) (st := []) (S1 := fun r => .int r :: []) (n := 344) hC (c_X8_flat l y329_6 (2 : Int32)   M) kv_X8_flat wd_3_181 hI dL_law_341 rfl (hI.2 0 (by decide)) he_X8 rfl rfl rfl (Nat.le_of_ble_eq_true rfl) ⟨Nat.le_of_ble_eq_true rfl, Nat.le_of_ble_eq_true rfl⟩ ⟨by show _ ≤ (600086 : Nat); omega, by show _ ≤ (7301441 : Nat); omega⟩ (fun _ => rfl) rfl (fun r27 M27 _ => ?_)
            refine hz_if_eq (tgt := 1000) (n := 347) hC dL_law_344 (by decide) rfl (fun _ => ?_) (fun _ => ?_)
            · refine hz_L (L' := [(0, .ref b), (1, .ref (adr 12 0)), (2, .int y329_2), (3, .int k50_3), (4, .int y329_4), (5, .int y329_5), (10, .int y329_10), (12, .long y329_12)]) [0, 1, 2, 3, 4, 5, 7, 8] rfl ?_
              exact j1000 _ _ _ _ _ _
            · exact hz_none hC
        · exact hz_none hC
      have j322 : ∀ (y322_2 : Int32) (y322_4 : Int32) (y322_5 : Int32) (y322_6 : Int32) (y322_10 : Int32) (y322_12 : Int64) (y322_14 : Int32) (z322_0 : Int32) (M : hp_M), hp_Z p l e room_1 s m args below meth c 17 A D ids adr adV cA cells slots Q G0 none 322 [(0, .ref b), (1, .ref (adr 12 0)), (2, .int y322_2), (3, .int k50_3), (4, .int y322_4), (5, .int y322_5), (6, .int y322_6), (10, .int y322_10), (12, .long y322_12), (14, .int y322_14)] [.int z322_0] M (A_L_law_322 N xs (L_L_law_50 N xs k50_3 n50) y322_2 k50_3 y322_4 y322_5 y322_6 y322_10 y322_12 y322_14 z322_0 M) := by
        intro y322_2 y322_4 y322_5 y322_6 y322_10 y322_12 y322_14 z322_0 M
        unfold A_L_law_322
        refine hz_iload (a := 9) (n := 324) hC dL_law_322 rfl rfl ?_
        refine hz_goto (n := 329) hC dL_law_324 (by decide) ?_
        refine hz_L (L' := [(0, .ref b), (1, .ref (adr 12 0)), (2, .int y322_2), (3, .int k50_3), (4, .int y322_4), (5, .int y322_5), (6, .int y322_6), (10, .int y322_10), (12, .long y322_12)]) [0, 1, 2, 3, 4, 5, 6, 7, 8] rfl ?_
        exact j329 _ _ _ _ _ _ _ _ _
      have j327 : ∀ (y327_2 : Int32) (y327_4 : Int32) (y327_5 : Int32) (y327_6 : Int32) (y327_10 : Int32) (y327_12 : Int64) (z327_0 : Int32) (M : hp_M), hp_Z p l e room_1 s m args below meth c 17 A D ids adr adV cA cells slots Q G0 none 327 [(0, .ref b), (1, .ref (adr 12 0)), (2, .int y327_2), (3, .int k50_3), (4, .int y327_4), (5, .int y327_5), (6, .int y327_6), (10, .int y327_10), (12, .long y327_12)] [.int z327_0] M (A_L_law_327 N xs (L_L_law_50 N xs k50_3 n50) y327_2 k50_3 y327_4 y327_5 y327_6 y327_10 y327_12 z327_0 M) := by
        intro y327_2 y327_4 y327_5 y327_6 y327_10 y327_12 z327_0 M
        unfold A_L_law_327
        refine hz_bipush (v := (-3 : Int32)) (n := 329) hC dL_law_327 (by decide +kernel) rfl ?_
        exact j329 _ _ _ _ _ _ _ _ _
      have j421 : ∀ (y421_2 : Int32) (y421_4 : Int32) (y421_5 : Int32) (y421_6 : Int32) (y421_8 : Int32) (y421_10 : Int32) (y421_12 : Int64) (y421_15 : Int32) (y421_16 : Int32) (z421_0 : Int32) (z421_1 : Int32) (M : hp_M), hp_Z p l e room_1 s m args below meth c 17 A D ids adr adV cA cells slots Q G0 none 421 [(0, .ref b), (1, .ref (adr 12 0)), (2, .int y421_2), (3, .int k50_3), (4, .int y421_4), (5, .int y421_5), (6, .int y421_6), (8, .int y421_8), (10, .int y421_10), (12, .long y421_12), (15, .int y421_15), (16, .int y421_16)] [.int z421_0, .int z421_1] M (A_L_law_421 N xs (L_L_law_50 N xs k50_3 n50) y421_2 k50_3 y421_4 y421_5 y421_6 y421_8 y421_10 y421_12 y421_15 y421_16 z421_0 z421_1 M) := by
        intro y421_2 y421_4 y421_5 y421_6 y421_8 y421_10 y421_12 y421_15 y421_16 z421_0 z421_1 M
        unfold A_L_law_421
        refine hz_icmp_ne (tgt := 464) (n := 424) hC dL_law_421 (by decide) rfl (fun _ => ?_) (fun _ => ?_)
        · refine hz_iload (a := 7) (n := 426) hC dL_law_424 rfl rfl ?_
          refine hz_iconst (v := (3 : Int32)) (n := 427) hC dL_law_426 (by decide +kernel) rfl ?_
          refine hz_icmp_ne (tgt := 1000) (n := 430) hC dL_law_427 (by decide) rfl (fun _ => ?_) (fun _ => ?_)
          · refine hz_aload_n (a := 1) (n := 431) hC dL_law_430 rfl rfl rfl ?_
            refine hz_iconst (v := (2 : Int32)) (n := 432) hC dL_law_431 (by decide +kernel) rfl ?_
            refine hz_callV (k := 1) (As := [.int (2 : Int32)]) (st := []) (S1 := fun r => .int r :: []) (n := 435) hC (c_X8_size l (2 : Int32)   M) kv_X8_size wd_3_151 hI dL_law_432 rfl (hI.2 0 (by decide)) he_X8 rfl rfl rfl (Nat.le_of_ble_eq_true rfl) ⟨Nat.le_of_ble_eq_true rfl, Nat.le_of_ble_eq_true rfl⟩ ⟨by show _ ≤ (600086 : Nat); omega, by show _ ≤ (7301441 : Nat); omega⟩ (fun _ => rfl) rfl (fun r32 M32 _ => ?_)
            refine hz_if_ne (tgt := 464) (n := 438) hC dL_law_435 (by decide) rfl (fun _ => ?_) (fun _ => ?_)
            · refine hz_aload_n (a := 1) (n := 439) hC dL_law_438 rfl rfl rfl ?_
              refine hz_iload (a := 6) (n := 441) hC dL_law_439 rfl rfl ?_
              refine hz_iconst (v := (2 : Int32)) (n := 442) hC dL_law_441 (by decide +kernel) rfl ?_
              refine hz_callV (k := 2) (As := [.int y421_6, .int (2 : Int32)]) (st := []) (S1 := fun r => .int r :: []) (n := 445) hC (c_X8_flat l y421_6 (2 : Int32)   M32) kv_X8_flat wd_3_181 hI dL_law_442 rfl (hI.2 0 (by decide)) he_X8 rfl rfl rfl (Nat.le_of_ble_eq_true rfl) ⟨Nat.le_of_ble_eq_true rfl, Nat.le_of_ble_eq_true rfl⟩ ⟨by show _ ≤ (600086 : Nat); omega, by show _ ≤ (7301441 : Nat); omega⟩ (fun _ => rfl) rfl (fun r33 M33 _ => ?_)
              refine hz_if_ne (tgt := 464) (n := 448) hC dL_law_445 (by decide) rfl (fun _ => ?_) (fun _ => ?_)
              · refine hz_aload_n (a := 1) (n := 449) hC dL_law_448 rfl rfl rfl ?_
                refine hz_iload (a := 6) (n := 451) hC dL_law_449 rfl rfl ?_
                refine hz_bipush (v := (6 : Int32)) (n := 453) hC dL_law_451 (by decide +kernel) rfl ?_
                refine hz_callV (k := 2) (As := [.int y421_6, .int (6 : Int32)]) (st := []) (S1 := fun r => .int r :: []) (n := 456) hC (c_X8_flat l y421_6 (6 : Int32)   M33) kv_X8_flat wd_3_181 hI dL_law_453 rfl (hI.2 0 (by decide)) he_X8 rfl rfl rfl (Nat.le_of_ble_eq_true rfl) ⟨Nat.le_of_ble_eq_true rfl, Nat.le_of_ble_eq_true rfl⟩ ⟨by show _ ≤ (600086 : Nat); omega, by show _ ≤ (7301441 : Nat); omega⟩ (fun _ => rfl) rfl (fun r34 M34 _ => ?_)
                refine hz_iload (a := 10) (n := 458) hC dL_law_456 rfl rfl ?_
                refine hz_iload (a := 11) (n := 460) hC dL_law_458 rfl rfl ?_
                refine hz_iadd (n := 461) hC dL_law_460 rfl ?_
                refine hz_icmp_eq (tgt := 1000) (n := 464) hC dL_law_461 (by decide) rfl (fun _ => ?_) (fun _ => ?_)
                · refine hz_L (L' := [(0, .ref b), (1, .ref (adr 12 0)), (2, .int y421_2), (3, .int k50_3), (4, .int y421_4), (5, .int y421_5), (10, .int y421_10), (12, .long y421_12)]) [0, 1, 2, 3, 4, 5, 8, 9] rfl ?_
                  exact j1000 _ _ _ _ _ _
                · exact hz_none hC
              · exact hz_none hC
            · exact hz_none hC
          · refine hz_L (L' := [(0, .ref b), (1, .ref (adr 12 0)), (2, .int y421_2), (3, .int k50_3), (4, .int y421_4), (5, .int y421_5), (10, .int y421_10), (12, .long y421_12)]) [0, 1, 2, 3, 4, 5, 8, 9] rfl ?_
            exact j1000 _ _ _ _ _ _
        · exact hz_none hC
      have j396 : ∀ (y396_2 : Int32) (y396_4 : Int32) (y396_5 : Int32) (y396_6 : Int32) (y396_8 : Int32) (y396_12 : Int64) (y396_14 : Int32) (y396_15 : Int32) (z396_0 : Int32) (M : hp_M), hp_Z p l e room_1 s m args below meth c 17 A D ids adr adV cA cells slots Q G0 none 396 [(0, .ref b), (1, .ref (adr 12 0)), (2, .int y396_2), (3, .int k50_3), (4, .int y396_4), (5, .int y396_5), (6, .int y396_6), (8, .int y396_8), (12, .long y396_12), (14, .int y396_14), (15, .int y396_15)] [.int z396_0] M (A_L_law_396 N xs (L_L_law_50 N xs k50_3 n50) y396_2 k50_3 y396_4 y396_5 y396_6 y396_8 y396_12 y396_14 y396_15 z396_0 M) := by
        intro y396_2 y396_4 y396_5 y396_6 y396_8 y396_12 y396_14 y396_15 z396_0 M
        unfold A_L_law_396
        refine hz_istore (L' := [(16, .int z396_0), (0, .ref b), (1, .ref (adr 12 0)), (2, .int y396_2), (3, .int k50_3), (4, .int y396_4), (5, .int y396_5), (6, .int y396_6), (8, .int y396_8), (12, .long y396_12), (14, .int y396_14), (15, .int y396_15)]) (n := 398) hC dL_law_396 (by decide) rfl rfl ?_
        refine hz_aload_n (a := 2) (n := 399) hC dL_law_398 rfl rfl rfl ?_
        refine hz_iload (a := 7) (n := 401) hC dL_law_399 rfl rfl ?_
        refine hz_callV (k := 1) (As := [.int y396_6]) (st := []) (S1 := fun r => .int r :: []) (n := 404) hC (c_X8_hang l y396_6   M) kv_X8_hang wd_4_23 hI dL_law_401 rfl (hI.2 0 (by decide)) he_X8 rfl rfl rfl (Nat.le_of_ble_eq_true rfl) ⟨Nat.le_of_ble_eq_true rfl, Nat.le_of_ble_eq_true rfl⟩ ⟨by show _ ≤ (600086 : Nat); omega, by show _ ≤ (7301441 : Nat); omega⟩ (fun _ => rfl) rfl (fun r31 M31 _ => ?_)
        refine hz_istore (L' := [(10, .int r31), (16, .int z396_0), (0, .ref b), (1, .ref (adr 12 0)), (2, .int y396_2), (3, .int k50_3), (4, .int y396_4), (5, .int y396_5), (6, .int y396_6), (8, .int y396_8), (12, .long y396_12), (14, .int y396_14), (15, .int y396_15)]) (n := 406) hC dL_law_404 (by decide) rfl rfl ?_
        refine hz_iload (a := 0) (n := 408) hC dL_law_406 rfl rfl ?_
        refine hz_iload (a := 9) (n := 410) hC dL_law_408 rfl rfl ?_
        refine hz_iconst (v := (3 : Int32)) (n := 411) hC dL_law_410 (by decide +kernel) rfl ?_
        refine hz_icmp_ne (tgt := 419) (n := 414) hC dL_law_411 (by decide) rfl (fun _ => ?_) (fun _ => ?_)
        · refine hz_iload (a := 11) (n := 416) hC dL_law_414 rfl rfl ?_
          refine hz_goto (n := 421) hC dL_law_416 (by decide) ?_
          refine hz_L (L' := [(0, .ref b), (1, .ref (adr 12 0)), (2, .int y396_2), (3, .int k50_3), (4, .int y396_4), (5, .int y396_5), (6, .int y396_6), (8, .int y396_8), (10, .int r31), (12, .long y396_12), (15, .int y396_15), (16, .int z396_0)]) [2, 3, 4, 5, 6, 7, 8, 9, 0, 10, 12, 1] rfl ?_
          exact j421 _ _ _ _ _ _ _ _ _ _ _ _
        · refine hz_bipush (v := (-4 : Int32)) (n := 421) hC dL_law_419 (by decide +kernel) rfl ?_
          refine hz_L (L' := [(0, .ref b), (1, .ref (adr 12 0)), (2, .int y396_2), (3, .int k50_3), (4, .int y396_4), (5, .int y396_5), (6, .int y396_6), (8, .int y396_8), (10, .int r31), (12, .long y396_12), (15, .int y396_15), (16, .int z396_0)]) [2, 3, 4, 5, 6, 7, 8, 9, 0, 10, 12, 1] rfl ?_
          exact j421 _ _ _ _ _ _ _ _ _ _ _ _
      have j395 : ∀ (y395_2 : Int32) (y395_4 : Int32) (y395_5 : Int32) (y395_6 : Int32) (y395_8 : Int32) (y395_12 : Int64) (y395_14 : Int32) (y395_15 : Int32) (M : hp_M), hp_Z p l e room_1 s m args below meth c 17 A D ids adr adV cA cells slots Q G0 none 395 [(0, .ref b), (1, .ref (adr 12 0)), (2, .int y395_2), (3, .int k50_3), (4, .int y395_4), (5, .int y395_5), (6, .int y395_6), (8, .int y395_8), (12, .long y395_12), (14, .int y395_14), (15, .int y395_15)] [] M (A_L_law_395 N xs (L_L_law_50 N xs k50_3 n50) y395_2 k50_3 y395_4 y395_5 y395_6 y395_8 y395_12 y395_14 y395_15 M) := by
        intro y395_2 y395_4 y395_5 y395_6 y395_8 y395_12 y395_14 y395_15 M
        unfold A_L_law_395
        refine hz_iconst (v := (0 : Int32)) (n := 396) hC dL_law_395 (by decide +kernel) rfl ?_
        exact j396 _ _ _ _ _ _ _ _ _ _
      have j633 : ∀ (y633_2 : Int32) (y633_4 : Int32) (y633_5 : Int32) (y633_10 : Int32) (y633_12 : Int64) (y633_16 : Int32) (M : hp_M), hp_Z p l e room_1 s m args below meth c 17 A D ids adr adV cA cells slots Q G0 none 633 [(0, .ref b), (1, .ref (adr 12 0)), (2, .int y633_2), (3, .int k50_3), (4, .int y633_4), (5, .int y633_5), (10, .int y633_10), (12, .long y633_12), (16, .int y633_16)] [] M (A_L_law_633 N xs (L_L_law_50 N xs k50_3 n50) y633_2 k50_3 y633_4 y633_5 y633_10 y633_12 y633_16 M) := by
        intro y633_2 y633_4 y633_5 y633_10 y633_12 y633_16 M
        unfold A_L_law_633
        refine hz_iload (a := 6) (n := 635) hC dL_law_633 rfl rfl ?_
        refine hz_iconst (v := (3 : Int32)) (n := 636) hC dL_law_635 (by decide +kernel) rfl ?_
        refine hz_icmp_ne (tgt := 1000) (n := 639) hC dL_law_636 (by decide) rfl (fun _ => ?_) (fun _ => ?_)
        · refine hz_aload_n (a := 1) (n := 640) hC dL_law_639 rfl rfl rfl ?_
          refine hz_bipush (v := (8 : Int32)) (n := 642) hC dL_law_640 (by decide +kernel) rfl ?_
          refine hz_callV (k := 1) (As := [.int (8 : Int32)]) (st := []) (S1 := fun r => .int r :: []) (n := 645) hC (c_X8_account l (8 : Int32)   M) kv_X8_account wd_3_233 hI dL_law_642 rfl (hI.2 0 (by decide)) he_X8 rfl rfl rfl (Nat.le_of_ble_eq_true rfl) ⟨Nat.le_of_ble_eq_true rfl, Nat.le_of_ble_eq_true rfl⟩ ⟨by show _ ≤ (600086 : Nat); omega, by show _ ≤ (7301441 : Nat); omega⟩ (fun _ => rfl) rfl (fun r46 M46 _ => ?_)
          refine hz_iload (a := 8) (n := 647) hC dL_law_645 rfl rfl ?_
          refine hz_iconst (v := (1 : Int32)) (n := 648) hC dL_law_647 (by decide +kernel) rfl ?_
          refine hz_iadd (n := 649) hC dL_law_648 rfl ?_
          refine hz_icmp_eq (tgt := 1000) (n := 652) hC dL_law_649 (by decide) rfl (fun _ => ?_) (fun _ => ?_)
          · refine hz_L (L' := [(0, .ref b), (1, .ref (adr 12 0)), (2, .int y633_2), (3, .int k50_3), (4, .int y633_4), (5, .int y633_5), (10, .int y633_10), (12, .long y633_12)]) [0, 1, 2, 3, 4, 5, 6, 7] rfl ?_
            exact j1000 _ _ _ _ _ _
          · exact hz_none hC
        · refine hz_L (L' := [(0, .ref b), (1, .ref (adr 12 0)), (2, .int y633_2), (3, .int k50_3), (4, .int y633_4), (5, .int y633_5), (10, .int y633_10), (12, .long y633_12)]) [0, 1, 2, 3, 4, 5, 6, 7] rfl ?_
          exact j1000 _ _ _ _ _ _
      have j614 : ∀ (y614_2 : Int32) (y614_4 : Int32) (y614_5 : Int32) (y614_10 : Int32) (y614_12 : Int64) (y614_15 : Int32) (y614_16 : Int32) (M : hp_M), hp_Z p l e room_1 s m args below meth c 17 A D ids adr adV cA cells slots Q G0 none 614 [(0, .ref b), (1, .ref (adr 12 0)), (2, .int y614_2), (3, .int k50_3), (4, .int y614_4), (5, .int y614_5), (10, .int y614_10), (12, .long y614_12), (15, .int y614_15), (16, .int y614_16)] [] M (A_L_law_614 N xs (L_L_law_50 N xs k50_3 n50) y614_2 k50_3 y614_4 y614_5 y614_10 y614_12 y614_15 y614_16 M) := by
        intro y614_2 y614_4 y614_5 y614_10 y614_12 y614_15 y614_16 M
        unfold A_L_law_614
        refine hz_iload (a := 6) (n := 616) hC dL_law_614 rfl rfl ?_
        refine hz_iconst (v := (2 : Int32)) (n := 617) hC dL_law_616 (by decide +kernel) rfl ?_
        refine hz_icmp_ne (tgt := 633) (n := 620) hC dL_law_617 (by decide) rfl (fun _ => ?_) (fun _ => ?_)
        · refine hz_aload_n (a := 1) (n := 621) hC dL_law_620 rfl rfl rfl ?_
          refine hz_bipush (v := (9 : Int32)) (n := 623) hC dL_law_621 (by decide +kernel) rfl ?_
          refine hz_callV (k := 1) (As := [.int (9 : Int32)]) (st := []) (S1 := fun r => .int r :: []) (n := 626) hC (c_X8_size l (9 : Int32)   M) kv_X8_size wd_3_151 hI dL_law_623 rfl (hI.2 0 (by decide)) he_X8 rfl rfl rfl (Nat.le_of_ble_eq_true rfl) ⟨Nat.le_of_ble_eq_true rfl, Nat.le_of_ble_eq_true rfl⟩ ⟨by show _ ≤ (600086 : Nat); omega, by show _ ≤ (7301441 : Nat); omega⟩ (fun _ => rfl) rfl (fun r45 M45 _ => ?_)
          refine hz_iload (a := 8) (n := 628) hC dL_law_626 rfl rfl ?_
          refine hz_iconst (v := (1 : Int32)) (n := 629) hC dL_law_628 (by decide +kernel) rfl ?_
          refine hz_iadd (n := 630) hC dL_law_629 rfl ?_
          refine hz_icmp_ne (tgt := 652) (n := 633) hC dL_law_630 (by decide) rfl (fun _ => ?_) (fun _ => ?_)
          · refine hz_L (L' := [(0, .ref b), (1, .ref (adr 12 0)), (2, .int y614_2), (3, .int k50_3), (4, .int y614_4), (5, .int y614_5), (10, .int y614_10), (12, .long y614_12), (16, .int y614_16)]) [0, 1, 2, 3, 4, 5, 6, 7, 9] rfl ?_
            exact j633 _ _ _ _ _ _ _
          · exact hz_none hC
        · refine hz_L (L' := [(0, .ref b), (1, .ref (adr 12 0)), (2, .int y614_2), (3, .int k50_3), (4, .int y614_4), (5, .int y614_5), (10, .int y614_10), (12, .long y614_12), (16, .int y614_16)]) [0, 1, 2, 3, 4, 5, 6, 7, 9] rfl ?_
          exact j633 _ _ _ _ _ _ _
      have j574 : ∀ (y574_2 : Int32) (y574_4 : Int32) (y574_5 : Int32) (y574_6 : Int32) (y574_7 : Int32) (y574_10 : Int32) (y574_12 : Int64) (y574_15 : Int32) (y574_16 : Int32) (M : hp_M), hp_Z p l e room_1 s m args below meth c 17 A D ids adr adV cA cells slots Q G0 none 574 [(0, .ref b), (1, .ref (adr 12 0)), (2, .int y574_2), (3, .int k50_3), (4, .int y574_4), (5, .int y574_5), (6, .int y574_6), (7, .int y574_7), (10, .int y574_10), (12, .long y574_12), (15, .int y574_15), (16, .int y574_16)] [] M (A_L_law_574 N xs (L_L_law_50 N xs k50_3 n50) y574_2 k50_3 y574_4 y574_5 y574_6 y574_7 y574_10 y574_12 y574_15 y574_16 M) := by
        intro y574_2 y574_4 y574_5 y574_6 y574_7 y574_10 y574_12 y574_15 y574_16 M
        unfold A_L_law_574
        refine hz_iload (a := 8) (n := 576) hC dL_law_574 rfl rfl ?_
        refine hz_iconst (v := (1 : Int32)) (n := 577) hC dL_law_576 (by decide +kernel) rfl ?_
        refine hz_icmp_ne (tgt := 614) (n := 580) hC dL_law_577 (by decide) rfl (fun _ => ?_) (fun _ => ?_)
        · refine hz_aload_n (a := 1) (n := 581) hC dL_law_580 rfl rfl rfl ?_
          refine hz_iconst (v := (2 : Int32)) (n := 582) hC dL_law_581 (by decide +kernel) rfl ?_
          refine hz_callV (k := 1) (As := [.int (2 : Int32)]) (st := []) (S1 := fun r => .int r :: []) (n := 585) hC (c_X8_size l (2 : Int32)   M) kv_X8_size wd_3_151 hI dL_law_582 rfl (hI.2 0 (by decide)) he_X8 rfl rfl rfl (Nat.le_of_ble_eq_true rfl) ⟨Nat.le_of_ble_eq_true rfl, Nat.le_of_ble_eq_true rfl⟩ ⟨by show _ ≤ (600086 : Nat); omega, by show _ ≤ (7301441 : Nat); omega⟩ (fun _ => rfl) rfl (fun r42 M42 _ => ?_)
          refine hz_iconst (v := (2 : Int32)) (n := 586) hC dL_law_585 (by decide +kernel) rfl ?_
          refine hz_icmp_ne (tgt := 652) (n := 589) hC dL_law_586 (by decide) rfl (fun _ => ?_) (fun _ => ?_)
          · refine hz_aload_n (a := 1) (n := 590) hC dL_law_589 rfl rfl rfl ?_
            refine hz_iconst (v := (3 : Int32)) (n := 591) hC dL_law_590 (by decide +kernel) rfl ?_
            refine hz_callV (k := 1) (As := [.int (3 : Int32)]) (st := []) (S1 := fun r => .int r :: []) (n := 594) hC (c_X8_size l (3 : Int32)   M42) kv_X8_size wd_3_151 hI dL_law_591 rfl (hI.2 0 (by decide)) he_X8 rfl rfl rfl (Nat.le_of_ble_eq_true rfl) ⟨Nat.le_of_ble_eq_true rfl, Nat.le_of_ble_eq_true rfl⟩ ⟨by show _ ≤ (600086 : Nat); omega, by show _ ≤ (7301441 : Nat); omega⟩ (fun _ => rfl) rfl (fun r43 M43 _ => ?_)
            refine hz_iload (a := 6) (n := 596) hC dL_law_594 rfl rfl ?_
            refine hz_icmp_ne (tgt := 652) (n := 599) hC dL_law_596 (by decide) rfl (fun _ => ?_) (fun _ => ?_)
            · refine hz_aload_n (a := 1) (n := 600) hC dL_law_599 rfl rfl rfl ?_
              refine hz_iconst (v := (5 : Int32)) (n := 601) hC dL_law_600 (by decide +kernel) rfl ?_
              refine hz_callV (k := 1) (As := [.int (5 : Int32)]) (st := []) (S1 := fun r => .int r :: []) (n := 604) hC (c_X8_size l (5 : Int32)   M43) kv_X8_size wd_3_151 hI dL_law_601 rfl (hI.2 0 (by decide)) he_X8 rfl rfl rfl (Nat.le_of_ble_eq_true rfl) ⟨Nat.le_of_ble_eq_true rfl, Nat.le_of_ble_eq_true rfl⟩ ⟨by show _ ≤ (600086 : Nat); omega, by show _ ≤ (7301441 : Nat); omega⟩ (fun _ => rfl) rfl (fun r44 M44 _ => ?_)
              refine hz_iconst (v := (1 : Int32)) (n := 605) hC dL_law_604 (by decide +kernel) rfl ?_
              refine hz_iload (a := 7) (n := 607) hC dL_law_605 rfl rfl ?_
              refine hz_bipush (v := (99 : Int32)) (n := 609) hC dL_law_607 (by decide +kernel) rfl ?_
              refine hz_irem (n := 610) hC dL_law_609 rfl (fun _ => ?_)
              refine hz_iadd (n := 611) hC dL_law_610 rfl ?_
              refine hz_icmp_ne (tgt := 652) (n := 614) hC dL_law_611 (by decide) rfl (fun _ => ?_) (fun _ => ?_)
              · refine hz_L (L' := [(0, .ref b), (1, .ref (adr 12 0)), (2, .int y574_2), (3, .int k50_3), (4, .int y574_4), (5, .int y574_5), (10, .int y574_10), (12, .long y574_12), (15, .int y574_15), (16, .int y574_16)]) [0, 1, 2, 3, 4, 5, 8, 9, 10, 11] rfl ?_
                exact j614 _ _ _ _ _ _ _ _
              · exact hz_none hC
            · exact hz_none hC
          · exact hz_none hC
        · refine hz_L (L' := [(0, .ref b), (1, .ref (adr 12 0)), (2, .int y574_2), (3, .int k50_3), (4, .int y574_4), (5, .int y574_5), (10, .int y574_10), (12, .long y574_12), (15, .int y574_15), (16, .int y574_16)]) [0, 1, 2, 3, 4, 5, 8, 9, 10, 11] rfl ?_
          exact j614 _ _ _ _ _ _ _ _
      have j545 : ∀ (y545_2 : Int32) (y545_4 : Int32) (y545_5 : Int32) (y545_6 : Int32) (y545_7 : Int32) (y545_10 : Int32) (y545_12 : Int64) (y545_15 : Int32) (y545_16 : Int32) (z545_0 : Int32) (z545_1 : Int32) (M : hp_M), hp_Z p l e room_1 s m args below meth c 17 A D ids adr adV cA cells slots Q G0 none 545 [(0, .ref b), (1, .ref (adr 12 0)), (2, .int y545_2), (3, .int k50_3), (4, .int y545_4), (5, .int y545_5), (6, .int y545_6), (7, .int y545_7), (10, .int y545_10), (12, .long y545_12), (15, .int y545_15), (16, .int y545_16)] [.int z545_0, .int z545_1] M (A_L_law_545 N xs (L_L_law_50 N xs k50_3 n50) y545_2 k50_3 y545_4 y545_5 y545_6 y545_7 y545_10 y545_12 y545_15 y545_16 z545_0 z545_1 M) := by
        intro y545_2 y545_4 y545_5 y545_6 y545_7 y545_10 y545_12 y545_15 y545_16 z545_0 z545_1 M
        unfold A_L_law_545
        refine hz_icmp_eq (tgt := 550) (n := 548) hC dL_law_545 (by decide) rfl (fun _ => ?_) (fun _ => ?_)
        · refine hz_iload (a := 8) (n := 552) hC dL_law_550 rfl rfl ?_
          refine hz_if_ne (tgt := 574) (n := 555) hC dL_law_552 (by decide) rfl (fun _ => ?_) (fun _ => ?_)
          · refine hz_aload_n (a := 1) (n := 556) hC dL_law_555 rfl rfl rfl ?_
            refine hz_iconst (v := (2 : Int32)) (n := 557) hC dL_law_556 (by decide +kernel) rfl ?_
            refine hz_callV (k := 1) (As := [.int (2 : Int32)]) (st := []) (S1 := fun r => .int r :: []) (n := 560) hC (c_X8_size l (2 : Int32)   M) kv_X8_size wd_3_151 hI dL_law_557 rfl (hI.2 0 (by decide)) he_X8 rfl rfl rfl (Nat.le_of_ble_eq_true rfl) ⟨Nat.le_of_ble_eq_true rfl, Nat.le_of_ble_eq_true rfl⟩ ⟨by show _ ≤ (600086 : Nat); omega, by show _ ≤ (7301441 : Nat); omega⟩ (fun _ => rfl) rfl (fun r40 M40 _ => ?_)
            refine hz_iconst (v := (1 : Int32)) (n := 561) hC dL_law_560 (by decide +kernel) rfl ?_
            refine hz_icmp_ne (tgt := 652) (n := 564) hC dL_law_561 (by decide) rfl (fun _ => ?_) (fun _ => ?_)
            · refine hz_aload_n (a := 1) (n := 565) hC dL_law_564 rfl rfl rfl ?_
              refine hz_iconst (v := (3 : Int32)) (n := 566) hC dL_law_565 (by decide +kernel) rfl ?_
              refine hz_callV (k := 1) (As := [.int (3 : Int32)]) (st := []) (S1 := fun r => .int r :: []) (n := 569) hC (c_X8_size l (3 : Int32)   M40) kv_X8_size wd_3_151 hI dL_law_566 rfl (hI.2 0 (by decide)) he_X8 rfl rfl rfl (Nat.le_of_ble_eq_true rfl) ⟨Nat.le_of_ble_eq_true rfl, Nat.le_of_ble_eq_true rfl⟩ ⟨by show _ ≤ (600086 : Nat); omega, by show _ ≤ (7301441 : Nat); omega⟩ (fun _ => rfl) rfl (fun r41 M41 _ => ?_)
              refine hz_iload (a := 6) (n := 571) hC dL_law_569 rfl rfl ?_
              refine hz_icmp_ne (tgt := 652) (n := 574) hC dL_law_571 (by decide) rfl (fun _ => ?_) (fun _ => ?_)
              · exact j574 _ _ _ _ _ _ _ _ _ _
              · exact hz_none hC
            · exact hz_none hC
          · exact j574 _ _ _ _ _ _ _ _ _ _
        · exact hz_none hC
      have j534 : ∀ (y534_2 : Int32) (y534_4 : Int32) (y534_5 : Int32) (y534_6 : Int32) (y534_7 : Int32) (y534_9 : Int32) (y534_10 : Int32) (y534_12 : Int64) (y534_15 : Int32) (y534_16 : Int32) (z534_0 : Int32) (M : hp_M), hp_Z p l e room_1 s m args below meth c 17 A D ids adr adV cA cells slots Q G0 none 534 [(0, .ref b), (1, .ref (adr 12 0)), (2, .int y534_2), (3, .int k50_3), (4, .int y534_4), (5, .int y534_5), (6, .int y534_6), (7, .int y534_7), (9, .int y534_9), (10, .int y534_10), (12, .long y534_12), (15, .int y534_15), (16, .int y534_16)] [.int z534_0] M (A_L_law_534 N xs (L_L_law_50 N xs k50_3 n50) y534_2 k50_3 y534_4 y534_5 y534_6 y534_7 y534_9 y534_10 y534_12 y534_15 y534_16 z534_0 M) := by
        intro y534_2 y534_4 y534_5 y534_6 y534_7 y534_9 y534_10 y534_12 y534_15 y534_16 z534_0 M
        unfold A_L_law_534
        refine hz_iload (a := 8) (n := 536) hC dL_law_534 rfl rfl ?_
        refine hz_iconst (v := (-1 : Int32)) (n := 537) hC dL_law_536 (by decide +kernel) rfl ?_
        refine hz_icmp_eq (tgt := 544) (n := 540) hC dL_law_537 (by decide) rfl (fun _ => ?_) (fun _ => ?_)
        · refine hz_iconst (v := (0 : Int32)) (n := 545) hC dL_law_544 (by decide +kernel) rfl ?_
          refine hz_L (L' := [(0, .ref b), (1, .ref (adr 12 0)), (2, .int y534_2), (3, .int k50_3), (4, .int y534_4), (5, .int y534_5), (6, .int y534_6), (7, .int y534_7), (10, .int y534_10), (12, .long y534_12), (15, .int y534_15), (16, .int y534_16)]) [0, 1, 2, 3, 4, 5, 6, 7, 9, 10, 11, 12] rfl ?_
          exact j545 _ _ _ _ _ _ _ _ _ _ _ _
        · refine hz_iconst (v := (1 : Int32)) (n := 541) hC dL_law_540 (by decide +kernel) rfl ?_
          refine hz_goto (n := 545) hC dL_law_541 (by decide) ?_
          refine hz_L (L' := [(0, .ref b), (1, .ref (adr 12 0)), (2, .int y534_2), (3, .int k50_3), (4, .int y534_4), (5, .int y534_5), (6, .int y534_6), (7, .int y534_7), (10, .int y534_10), (12, .long y534_12), (15, .int y534_15), (16, .int y534_16)]) [0, 1, 2, 3, 4, 5, 6, 7, 9, 10, 11, 12] rfl ?_
          exact j545 _ _ _ _ _ _ _ _ _ _ _ _
      have j520 : ∀ (y520_2 : Int32) (y520_4 : Int32) (y520_5 : Int32) (y520_6 : Int32) (y520_7 : Int32) (y520_9 : Int32) (y520_10 : Int32) (y520_12 : Int64) (y520_14 : Int32) (y520_15 : Int32) (y520_16 : Int32) (z520_0 : Int32) (z520_1 : Int32) (M : hp_M), hp_Z p l e room_1 s m args below meth c 17 A D ids adr adV cA cells slots Q G0 none 520 [(0, .ref b), (1, .ref (adr 12 0)), (2, .int y520_2), (3, .int k50_3), (4, .int y520_4), (5, .int y520_5), (6, .int y520_6), (7, .int y520_7), (9, .int y520_9), (10, .int y520_10), (12, .long y520_12), (14, .int y520_14), (15, .int y520_15), (16, .int y520_16)] [.int z520_0, .int z520_1] M (A_L_law_520 N xs (L_L_law_50 N xs k50_3 n50) y520_2 k50_3 y520_4 y520_5 y520_6 y520_7 y520_9 y520_10 y520_12 y520_14 y520_15 y520_16 z520_0 z520_1 M) := by
        intro y520_2 y520_4 y520_5 y520_6 y520_7 y520_9 y520_10 y520_12 y520_14 y520_15 y520_16 z520_0 z520_1 M
        unfold A_L_law_520
        refine hz_icmp_ne (tgt := 548) (n := 523) hC dL_law_520 (by decide) rfl (fun _ => ?_) (fun _ => ?_)
        · refine hz_iload (a := 11) (n := 525) hC dL_law_523 rfl rfl ?_
          refine hz_iconst (v := (5 : Int32)) (n := 526) hC dL_law_525 (by decide +kernel) rfl ?_
          refine hz_icmp_ne (tgt := 533) (n := 529) hC dL_law_526 (by decide) rfl (fun _ => ?_) (fun _ => ?_)
          · refine hz_iconst (v := (1 : Int32)) (n := 530) hC dL_law_529 (by decide +kernel) rfl ?_
            refine hz_goto (n := 534) hC dL_law_530 (by decide) ?_
            refine hz_L (L' := [(0, .ref b), (1, .ref (adr 12 0)), (2, .int y520_2), (3, .int k50_3), (4, .int y520_4), (5, .int y520_5), (6, .int y520_6), (7, .int y520_7), (9, .int y520_9), (10, .int y520_10), (12, .long y520_12), (15, .int y520_15), (16, .int y520_16)]) [0, 1, 2, 3, 4, 5, 6, 7, 8, 9, 10, 12, 13] rfl ?_
            exact j534 _ _ _ _ _ _ _ _ _ _ _ _
          · refine hz_iconst (v := (0 : Int32)) (n := 534) hC dL_law_533 (by decide +kernel) rfl ?_
            refine hz_L (L' := [(0, .ref b), (1, .ref (adr 12 0)), (2, .int y520_2), (3, .int k50_3), (4, .int y520_4), (5, .int y520_5), (6, .int y520_6), (7, .int y520_7), (9, .int y520_9), (10, .int y520_10), (12, .long y520_12), (15, .int y520_15), (16, .int y520_16)]) [0, 1, 2, 3, 4, 5, 6, 7, 8, 9, 10, 12, 13] rfl ?_
            exact j534 _ _ _ _ _ _ _ _ _ _ _ _
        · exact hz_none hC
      have j702 : ∀ (y702_2 : Int32) (y702_4 : Int32) (y702_5 : Int32) (y702_10 : Int32) (y702_12 : Int64) (z702_0 : Int32) (z702_1 : Int32) (M : hp_M), hp_Z p l e room_1 s m args below meth c 17 A D ids adr adV cA cells slots Q G0 none 702 [(0, .ref b), (1, .ref (adr 12 0)), (2, .int y702_2), (3, .int k50_3), (4, .int y702_4), (5, .int y702_5), (10, .int y702_10), (12, .long y702_12)] [.int z702_0, .int z702_1] M (A_L_law_702 N xs (L_L_law_50 N xs k50_3 n50) y702_2 k50_3 y702_4 y702_5 y702_10 y702_12 z702_0 z702_1 M) := by
        intro y702_2 y702_4 y702_5 y702_10 y702_12 z702_0 z702_1 M
        unfold A_L_law_702
        refine hz_icmp_eq (tgt := 1000) (n := 705) hC dL_law_702 (by decide) rfl (fun _ => ?_) (fun _ => ?_)
        · exact j1000 _ _ _ _ _ _
        · exact hz_none hC
      have j776 : ∀ (y776_2 : Int32) (y776_4 : Int32) (y776_5 : Int32) (y776_10 : Int32) (y776_12 : Int64) (z776_0 : Int32) (z776_1 : Int32) (M : hp_M), hp_Z p l e room_1 s m args below meth c 17 A D ids adr adV cA cells slots Q G0 none 776 [(0, .ref b), (1, .ref (adr 12 0)), (2, .int y776_2), (3, .int k50_3), (4, .int y776_4), (5, .int y776_5), (10, .int y776_10), (12, .long y776_12)] [.int z776_0, .int z776_1] M (A_L_law_776 N xs (L_L_law_50 N xs k50_3 n50) y776_2 k50_3 y776_4 y776_5 y776_10 y776_12 z776_0 z776_1 M) := by
        intro y776_2 y776_4 y776_5 y776_10 y776_12 z776_0 z776_1 M
        unfold A_L_law_776
        refine hz_icmp_eq (tgt := 1000) (n := 779) hC dL_law_776 (by decide) rfl (fun _ => ?_) (fun _ => ?_)
        · exact j1000 _ _ _ _ _ _
        · exact hz_none hC
      have j764 : ∀ (y764_2 : Int32) (y764_4 : Int32) (y764_5 : Int32) (y764_7 : Int32) (y764_10 : Int32) (y764_12 : Int64) (z764_0 : Int32) (M : hp_M), hp_Z p l e room_1 s m args below meth c 17 A D ids adr adV cA cells slots Q G0 none 764 [(0, .ref b), (1, .ref (adr 12 0)), (2, .int y764_2), (3, .int k50_3), (4, .int y764_4), (5, .int y764_5), (7, .int y764_7), (10, .int y764_10), (12, .long y764_12)] [.int z764_0] M (A_L_law_764 N xs (L_L_law_50 N xs k50_3 n50) y764_2 k50_3 y764_4 y764_5 y764_7 y764_10 y764_12 z764_0 M) := by
        intro y764_2 y764_4 y764_5 y764_7 y764_10 y764_12 z764_0 M
        unfold A_L_law_764
        refine hz_iload (a := 6) (n := 766) hC dL_law_764 rfl rfl ?_
        refine hz_iconst (v := (1 : Int32)) (n := 767) hC dL_law_766 (by decide +kernel) rfl ?_
        refine hz_iand (n := 768) hC dL_law_767 rfl ?_
        refine hz_if_ne (tgt := 775) (n := 771) hC dL_law_768 (by decide) rfl (fun _ => ?_) (fun _ => ?_)
        · refine hz_iconst (v := (1 : Int32)) (n := 772) hC dL_law_771 (by decide +kernel) rfl ?_
          refine hz_goto (n := 776) hC dL_law_772 (by decide) ?_
          refine hz_L (L' := [(0, .ref b), (1, .ref (adr 12 0)), (2, .int y764_2), (3, .int k50_3), (4, .int y764_4), (5, .int y764_5), (10, .int y764_10), (12, .long y764_12)]) [0, 1, 2, 3, 4, 5, 7, 8] rfl ?_
          exact j776 _ _ _ _ _ _ _ _
        · refine hz_iconst (v := (0 : Int32)) (n := 776) hC dL_law_775 (by decide +kernel) rfl ?_
          refine hz_L (L' := [(0, .ref b), (1, .ref (adr 12 0)), (2, .int y764_2), (3, .int k50_3), (4, .int y764_4), (5, .int y764_5), (10, .int y764_10), (12, .long y764_12)]) [0, 1, 2, 3, 4, 5, 7, 8] rfl ?_
          exact j776 _ _ _ _ _ _ _ _
      have j740 : ∀ (y740_2 : Int32) (y740_4 : Int32) (y740_5 : Int32) (y740_6 : Int32) (y740_7 : Int32) (y740_10 : Int32) (y740_12 : Int64) (y740_14 : Int32) (z740_0 : Int32) (z740_1 : Int32) (M : hp_M), hp_Z p l e room_1 s m args below meth c 17 A D ids adr adV cA cells slots Q G0 none 740 [(0, .ref b), (1, .ref (adr 12 0)), (2, .int y740_2), (3, .int k50_3), (4, .int y740_4), (5, .int y740_5), (6, .int y740_6), (7, .int y740_7), (10, .int y740_10), (12, .long y740_12), (14, .int y740_14)] [.int z740_0, .int z740_1, .ref (adr 12 0)] M (A_L_law_740 N xs (L_L_law_50 N xs k50_3 n50) y740_2 k50_3 y740_4 y740_5 y740_6 y740_7 y740_10 y740_12 y740_14 z740_0 z740_1 M) := by
        intro y740_2 y740_4 y740_5 y740_6 y740_7 y740_10 y740_12 y740_14 z740_0 z740_1 M
        unfold A_L_law_740
        refine hz_callV (k := 2) (As := [.int z740_1, .int z740_0]) (st := []) (S1 := fun r => .int r :: []) (n := 743) hC (c_X8_setCurious l z740_1 z740_0   M) kv_X8_setCurious wd_4_39 hI dL_law_740 rfl (hI.2 0 (by decide)) he_X8 rfl rfl rfl (Nat.le_of_ble_eq_true rfl) ⟨Nat.le_of_ble_eq_true rfl, Nat.le_of_ble_eq_true rfl⟩ ⟨by show _ ≤ (600086 : Nat); omega, by show _ ≤ (7301441 : Nat); omega⟩ (fun _ => rfl) rfl (fun r58 M58 _ => ?_)
        refine hz_iload (a := 10) (n := 745) hC dL_law_743 rfl rfl ?_
        refine hz_icmp_ne (tgt := 779) (n := 748) hC dL_law_745 (by decide) rfl (fun _ => ?_) (fun _ => ?_)
        · refine hz_aload_n (a := 1) (n := 749) hC dL_law_748 rfl rfl rfl ?_
          refine hz_iload (a := 6) (n := 751) hC dL_law_749 rfl rfl ?_
          refine hz_iconst (v := (1 : Int32)) (n := 752) hC dL_law_751 (by decide +kernel) rfl ?_
          refine hz_callV (k := 2) (As := [.int y740_6, .int (1 : Int32)]) (st := []) (S1 := fun r => .int r :: []) (n := 755) hC (c_X8_flat l y740_6 (1 : Int32)   M58) kv_X8_flat wd_3_181 hI dL_law_752 rfl (hI.2 0 (by decide)) he_X8 rfl rfl rfl (Nat.le_of_ble_eq_true rfl) ⟨Nat.le_of_ble_eq_true rfl, Nat.le_of_ble_eq_true rfl⟩ ⟨by show _ ≤ (600086 : Nat); omega, by show _ ≤ (7301441 : Nat); omega⟩ (fun _ => rfl) rfl (fun r59 M59 _ => ?_)
          refine hz_iconst (v := (1 : Int32)) (n := 756) hC dL_law_755 (by decide +kernel) rfl ?_
          refine hz_icmp_ne (tgt := 763) (n := 759) hC dL_law_756 (by decide) rfl (fun _ => ?_) (fun _ => ?_)
          · refine hz_iconst (v := (1 : Int32)) (n := 760) hC dL_law_759 (by decide +kernel) rfl ?_
            refine hz_goto (n := 764) hC dL_law_760 (by decide) ?_
            refine hz_L (L' := [(0, .ref b), (1, .ref (adr 12 0)), (2, .int y740_2), (3, .int k50_3), (4, .int y740_4), (5, .int y740_5), (7, .int y740_7), (10, .int y740_10), (12, .long y740_12)]) [0, 1, 2, 3, 4, 5, 7, 8, 9] rfl ?_
            exact j764 _ _ _ _ _ _ _ _
          · refine hz_iconst (v := (0 : Int32)) (n := 764) hC dL_law_763 (by decide +kernel) rfl ?_
            refine hz_L (L' := [(0, .ref b), (1, .ref (adr 12 0)), (2, .int y740_2), (3, .int k50_3), (4, .int y740_4), (5, .int y740_5), (7, .int y740_7), (10, .int y740_10), (12, .long y740_12)]) [0, 1, 2, 3, 4, 5, 7, 8, 9] rfl ?_
            exact j764 _ _ _ _ _ _ _ _
        · exact hz_none hC
      have j723 : ∀ (y723_2 : Int32) (y723_4 : Int32) (y723_5 : Int32) (y723_6 : Int32) (y723_7 : Int32) (y723_10 : Int32) (y723_12 : Int64) (z723_0 : Int32) (M : hp_M), hp_Z p l e room_1 s m args below meth c 17 A D ids adr adV cA cells slots Q G0 none 723 [(0, .ref b), (1, .ref (adr 12 0)), (2, .int y723_2), (3, .int k50_3), (4, .int y723_4), (5, .int y723_5), (6, .int y723_6), (7, .int y723_7), (10, .int y723_10), (12, .long y723_12)] [.int z723_0] M (A_L_law_723 N xs (L_L_law_50 N xs k50_3 n50) y723_2 k50_3 y723_4 y723_5 y723_6 y723_7 y723_10 y723_12 z723_0 M) := by
        intro y723_2 y723_4 y723_5 y723_6 y723_7 y723_10 y723_12 z723_0 M
        unfold A_L_law_723
        refine hz_istore (L' := [(14, .int z723_0), (0, .ref b), (1, .ref (adr 12 0)), (2, .int y723_2), (3, .int k50_3), (4, .int y723_4), (5, .int y723_5), (6, .int y723_6), (7, .int y723_7), (10, .int y723_10), (12, .long y723_12)]) (n := 725) hC dL_law_723 (by decide) rfl rfl ?_
        refine hz_aload_n (a := 2) (n := 726) hC dL_law_725 rfl rfl rfl ?_
        refine hz_iload (a := 7) (n := 728) hC dL_law_726 rfl rfl ?_
        refine hz_iload (a := 8) (n := 730) hC dL_law_728 rfl rfl ?_
        refine hz_iconst (v := (1 : Int32)) (n := 731) hC dL_law_730 (by decide +kernel) rfl ?_
        refine hz_iand (n := 732) hC dL_law_731 rfl ?_
        refine hz_if_ne (tgt := 739) (n := 735) hC dL_law_732 (by decide) rfl (fun _ => ?_) (fun _ => ?_)
        · refine hz_iconst (v := (1 : Int32)) (n := 736) hC dL_law_735 (by decide +kernel) rfl ?_
          refine hz_goto (n := 740) hC dL_law_736 (by decide) ?_
          refine hz_L (L' := [(0, .ref b), (1, .ref (adr 12 0)), (2, .int y723_2), (3, .int k50_3), (4, .int y723_4), (5, .int y723_5), (6, .int y723_6), (7, .int y723_7), (10, .int y723_10), (12, .long y723_12), (14, .int z723_0)]) [1, 2, 3, 4, 5, 6, 7, 8, 9, 10, 0] rfl ?_
          exact j740 _ _ _ _ _ _ _ _ _ _ _
        · refine hz_iconst (v := (0 : Int32)) (n := 740) hC dL_law_739 (by decide +kernel) rfl ?_
          refine hz_L (L' := [(0, .ref b), (1, .ref (adr 12 0)), (2, .int y723_2), (3, .int k50_3), (4, .int y723_4), (5, .int y723_5), (6, .int y723_6), (7, .int y723_7), (10, .int y723_10), (12, .long y723_12), (14, .int z723_0)]) [1, 2, 3, 4, 5, 6, 7, 8, 9, 10, 0] rfl ?_
          exact j740 _ _ _ _ _ _ _ _ _ _ _
      have j884 : ∀ (y884_2 : Int32) (y884_4 : Int32) (y884_5 : Int32) (y884_12 : Int64) (y884_14 : Int32) (z884_0 : Int32) (M : hp_M), hp_Z p l e room_1 s m args below meth c 17 A D ids adr adV cA cells slots Q G0 none 884 [(0, .ref b), (1, .ref (adr 12 0)), (2, .int y884_2), (3, .int k50_3), (4, .int y884_4), (5, .int y884_5), (12, .long y884_12), (14, .int y884_14)] [.int z884_0] M (A_L_law_884 N xs (L_L_law_50 N xs k50_3 n50) y884_2 k50_3 y884_4 y884_5 y884_12 y884_14 z884_0 M) := by
        intro y884_2 y884_4 y884_5 y884_12 y884_14 z884_0 M
        unfold A_L_law_884
        refine hz_istore (L' := [(15, .int z884_0), (0, .ref b), (1, .ref (adr 12 0)), (2, .int y884_2), (3, .int k50_3), (4, .int y884_4), (5, .int y884_5), (12, .long y884_12), (14, .int y884_14)]) (n := 886) hC dL_law_884 (by decide) rfl rfl ?_
        refine hz_aload_n (a := 2) (n := 887) hC dL_law_886 rfl rfl rfl ?_
        refine hz_iload (a := 8) (n := 889) hC dL_law_887 rfl rfl ?_
        refine hz_callV (k := 1) (As := [.int y884_14]) (st := []) (S1 := fun r => .int r :: []) (n := 892) hC (c_X8_setting l y884_14   M) kv_X8_setting wd_3_176 hI dL_law_889 rfl (hI.2 0 (by decide)) he_X8 rfl rfl rfl (Nat.le_of_ble_eq_true rfl) ⟨Nat.le_of_ble_eq_true rfl, Nat.le_of_ble_eq_true rfl⟩ ⟨by show _ ≤ (600086 : Nat); omega, by show _ ≤ (7301441 : Nat); omega⟩ (fun _ => rfl) rfl (fun r60 M60 _ => ?_)
        refine hz_istore (L' := [(16, .int r60), (15, .int z884_0), (0, .ref b), (1, .ref (adr 12 0)), (2, .int y884_2), (3, .int k50_3), (4, .int y884_4), (5, .int y884_5), (12, .long y884_12), (14, .int y884_14)]) (n := 894) hC dL_law_892 (by decide) rfl rfl ?_
        refine hz_aload_n (a := 3) (n := 895) hC dL_law_894 rfl rfl rfl ?_
        refine hz_iload (a := 9) (n := 897) hC dL_law_895 rfl rfl ?_
        refine hz_iload (a := 1) (n := 899) hC dL_law_897 rfl rfl ?_
        refine hz_callV (k := 2) (As := [.int y884_14, .int z884_0]) (st := []) (S1 := fun r => .int r :: []) (n := 902) hC (c_X8_set l y884_14 z884_0   M60) kv_X8_set wd_4_45 hI dL_law_899 rfl (hI.2 0 (by decide)) he_X8 rfl rfl rfl (Nat.le_of_ble_eq_true rfl) ⟨Nat.le_of_ble_eq_true rfl, Nat.le_of_ble_eq_true rfl⟩ ⟨by show _ ≤ (600086 : Nat); omega, by show _ ≤ (7301441 : Nat); omega⟩ (fun _ => rfl) rfl (fun r61 M61 _ => ?_)
        refine hz_istore (L' := [(10, .int r61), (16, .int r60), (15, .int z884_0), (0, .ref b), (1, .ref (adr 12 0)), (2, .int y884_2), (3, .int k50_3), (4, .int y884_4), (5, .int y884_5), (12, .long y884_12), (14, .int y884_14)]) (n := 904) hC dL_law_902 (by decide) rfl rfl ?_
        refine hz_iload (a := 0) (n := 906) hC dL_law_904 rfl rfl ?_
        refine hz_iload (a := 1) (n := 908) hC dL_law_906 rfl rfl ?_
        refine hz_icmp_ne (tgt := 922) (n := 911) hC dL_law_908 (by decide) rfl (fun _ => ?_) (fun _ => ?_)
        · refine hz_aload_n (a := 4) (n := 912) hC dL_law_911 rfl rfl rfl ?_
          refine hz_iload (a := 10) (n := 914) hC dL_law_912 rfl rfl ?_
          refine hz_callV (k := 1) (As := [.int y884_14]) (st := []) (S1 := fun r => .int r :: []) (n := 917) hC (c_X8_setting l y884_14   M61) kv_X8_setting wd_3_176 hI dL_law_914 rfl (hI.2 0 (by decide)) he_X8 rfl rfl rfl (Nat.le_of_ble_eq_true rfl) ⟨Nat.le_of_ble_eq_true rfl, Nat.le_of_ble_eq_true rfl⟩ ⟨by show _ ≤ (600086 : Nat); omega, by show _ ≤ (7301441 : Nat); omega⟩ (fun _ => rfl) rfl (fun r62 M62 _ => ?_)
          refine hz_iload (a := 2) (n := 919) hC dL_law_917 rfl rfl ?_
          refine hz_icmp_eq (tgt := 1000) (n := 922) hC dL_law_919 (by decide) rfl (fun _ => ?_) (fun _ => ?_)
          · refine hz_L (L' := [(0, .ref b), (1, .ref (adr 12 0)), (2, .int y884_2), (3, .int k50_3), (4, .int y884_4), (5, .int y884_5), (10, .int r61), (12, .long y884_12)]) [3, 4, 5, 6, 7, 8, 0, 9] rfl ?_
            exact j1000 _ _ _ _ _ _
          · exact hz_none hC
        · exact hz_none hC
      have j127 : ∀ (y127_2 : Int32) (y127_4 : Int32) (y127_5 : Int32) (y127_6 : Int32) (y127_7 : Int32) (y127_8 : Int32) (y127_9 : Int32) (y127_10 : Int32) (z127_0 : Int32) (M : hp_M), hp_Z p l e room_1 s m args below meth c 17 A D ids adr adV cA cells slots Q G0 none 127 [(0, .ref b), (1, .ref (adr 12 0)), (2, .int y127_2), (3, .int k50_3), (4, .int y127_4), (5, .int y127_5), (6, .int y127_6), (7, .int y127_7), (8, .int y127_8), (9, .int y127_9), (10, .int y127_10)] [.int z127_0] M (A_L_law_127 N xs (L_L_law_50 N xs k50_3 n50) y127_2 k50_3 y127_4 y127_5 y127_6 y127_7 y127_8 y127_9 y127_10 z127_0 M) := by
        intro y127_2 y127_4 y127_5 y127_6 y127_7 y127_8 y127_9 y127_10 z127_0 M
        unfold A_L_law_127
        refine hz_istore (L' := [(11, .int z127_0), (0, .ref b), (1, .ref (adr 12 0)), (2, .int y127_2), (3, .int k50_3), (4, .int y127_4), (5, .int y127_5), (6, .int y127_6), (7, .int y127_7), (8, .int y127_8), (9, .int y127_9), (10, .int y127_10)]) (n := 129) hC dL_law_127 (by decide) rfl rfl ?_
        refine hz_aload_n (a := 2) (n := 130) hC dL_law_129 rfl rfl rfl ?_
        refine hz_callV (k := 0) (As := []) (st := []) (S1 := fun r => .long r :: []) (n := 133) hC (c_X8_checksum l    M) kv_X8_checksum wd_4_68 hI dL_law_130 rfl (hI.2 0 (by decide)) he_X8 rfl rfl rfl (Nat.le_of_ble_eq_true rfl) ⟨Nat.le_of_ble_eq_true rfl, Nat.le_of_ble_eq_true rfl⟩ ⟨by show _ ≤ (600086 : Nat); omega, by show _ ≤ (7301441 : Nat); omega⟩ (fun _ => rfl) rfl (fun r10 M10 _ => ?_)
        refine hz_lstore (L' := [(12, .long r10), (11, .int z127_0), (0, .ref b), (1, .ref (adr 12 0)), (2, .int y127_2), (3, .int k50_3), (4, .int y127_4), (5, .int y127_5), (6, .int y127_6), (7, .int y127_7), (8, .int y127_8), (9, .int y127_9), (10, .int y127_10)]) (n := 135) hC dL_law_133 (by decide) rfl rfl ?_
        refine hz_iload (a := 7) (n := 137) hC dL_law_135 rfl rfl ?_
        refine hz_bipush (v := (15 : Int32)) (n := 139) hC dL_law_137 (by decide +kernel) rfl ?_
        refine hz_iand (n := 140) hC dL_law_139 rfl ?_
        refine hz_case (fun hk0 => ?_) (fun hk0 => ?_)
        · refine hz_tabIn (n := 200) hC hk0 dL_law_140 (by decide +kernel) (by decide +kernel) (by rfl) (by decide +kernel) ?_
          refine hz_aload_n (a := 3) (n := 201) hC dL_law_200 rfl rfl rfl ?_
          refine hz_iload (a := 8) (n := 203) hC dL_law_201 rfl rfl ?_
          refine hz_iconst (v := (1 : Int32)) (n := 204) hC dL_law_203 (by decide +kernel) rfl ?_
          refine hz_iload (a := 9) (n := 206) hC dL_law_204 rfl rfl ?_
          refine hz_bipush (v := (99 : Int32)) (n := 208) hC dL_law_206 (by decide +kernel) rfl ?_
          refine hz_irem (n := 209) hC dL_law_208 rfl (fun _ => ?_)
          refine hz_iadd (n := 210) hC dL_law_209 rfl ?_
          refine hz_callV (k := 2) (As := [.int y127_6, .int ((1 : Int32) + (y127_7 - y127_7 / (99 : Int32) * (99 : Int32)))]) (st := []) (S1 := fun r => .int r :: []) (n := 213) hC (c_X8_want l y127_6 ((1 : Int32) + (y127_7 - y127_7 / (99 : Int32) * (99 : Int32)))   M10) kv_X8_want wd_4_1 hI dL_law_210 rfl (hI.2 0 (by decide)) he_X8 rfl rfl rfl (Nat.le_of_ble_eq_true rfl) ⟨Nat.le_of_ble_eq_true rfl, Nat.le_of_ble_eq_true rfl⟩ ⟨by show _ ≤ (600086 : Nat); omega, by show _ ≤ (7301441 : Nat); omega⟩ (fun _ => rfl) rfl (fun r11 M11 _ => ?_)
          refine hz_istore (L' := [(10, .int r11), (12, .long r10), (11, .int z127_0), (0, .ref b), (1, .ref (adr 12 0)), (2, .int y127_2), (3, .int k50_3), (4, .int y127_4), (5, .int y127_5), (6, .int y127_6), (7, .int y127_7), (8, .int y127_8), (9, .int y127_9)]) (n := 215) hC dL_law_213 (by decide) rfl rfl ?_
          refine hz_iload (a := 0) (n := 217) hC dL_law_215 rfl rfl ?_
          refine hz_iload (a := 11) (n := 219) hC dL_law_217 rfl rfl ?_
          refine hz_if_eq (tgt := 227) (n := 222) hC dL_law_219 (by decide) rfl (fun _ => ?_) (fun _ => ?_)
          · refine hz_iconst (v := (1 : Int32)) (n := 228) hC dL_law_227 (by decide +kernel) rfl ?_
            refine hz_aload_n (a := 4) (n := 229) hC dL_law_228 rfl rfl rfl ?_
            refine hz_iload (a := 9) (n := 231) hC dL_law_229 rfl rfl ?_
            refine hz_iconst (v := (0 : Int32)) (n := 232) hC dL_law_231 (by decide +kernel) rfl ?_
            refine hz_callV (k := 2) (As := [.int y127_6, .int (0 : Int32)]) (st := [.int (1 : Int32), .int r11]) (S1 := fun r => .int r :: [.int (1 : Int32), .int r11]) (n := 235) hC (c_X8_flat l y127_6 (0 : Int32)   M11) kv_X8_flat wd_3_181 hI dL_law_232 rfl (hI.2 0 (by decide)) he_X8 rfl rfl rfl (Nat.le_of_ble_eq_true rfl) ⟨Nat.le_of_ble_eq_true rfl, Nat.le_of_ble_eq_true rfl⟩ ⟨by show _ ≤ (600086 : Nat); omega, by show _ ≤ (7301441 : Nat); omega⟩ (fun _ => rfl) rfl (fun r12 M12 _ => ?_)
            refine hz_iadd (n := 236) hC dL_law_235 rfl ?_
            refine hz_L (L' := [(0, .ref b), (1, .ref (adr 12 0)), (2, .int y127_2), (3, .int k50_3), (4, .int y127_4), (5, .int y127_5), (6, .int y127_6), (7, .int y127_7), (8, .int y127_8), (10, .int r11), (12, .long r10)]) [3, 4, 5, 6, 7, 8, 9, 10, 11, 0, 1] rfl ?_
            exact j236 _ _ _ _ _ _ _ _ _ _ _
          · refine hz_bipush (v := (-2 : Int32)) (n := 224) hC dL_law_222 (by decide +kernel) rfl ?_
            refine hz_goto (n := 236) hC dL_law_224 (by decide) ?_
            refine hz_L (L' := [(0, .ref b), (1, .ref (adr 12 0)), (2, .int y127_2), (3, .int k50_3), (4, .int y127_4), (5, .int y127_5), (6, .int y127_6), (7, .int y127_7), (8, .int y127_8), (10, .int r11), (12, .long r10)]) [3, 4, 5, 6, 7, 8, 9, 10, 11, 0, 1] rfl ?_
            exact j236 _ _ _ _ _ _ _ _ _ _ _
        refine hz_case (fun hk1 => ?_) (fun hk1 => ?_)
        · refine hz_tabIn (n := 200) hC hk1 dL_law_140 (by decide +kernel) (by decide +kernel) (by rfl) (by decide +kernel) ?_
          refine hz_aload_n (a := 3) (n := 201) hC dL_law_200 rfl rfl rfl ?_
          refine hz_iload (a := 8) (n := 203) hC dL_law_201 rfl rfl ?_
          refine hz_iconst (v := (1 : Int32)) (n := 204) hC dL_law_203 (by decide +kernel) rfl ?_
          refine hz_iload (a := 9) (n := 206) hC dL_law_204 rfl rfl ?_
          refine hz_bipush (v := (99 : Int32)) (n := 208) hC dL_law_206 (by decide +kernel) rfl ?_
          refine hz_irem (n := 209) hC dL_law_208 rfl (fun _ => ?_)
          refine hz_iadd (n := 210) hC dL_law_209 rfl ?_
          refine hz_callV (k := 2) (As := [.int y127_6, .int ((1 : Int32) + (y127_7 - y127_7 / (99 : Int32) * (99 : Int32)))]) (st := []) (S1 := fun r => .int r :: []) (n := 213) hC (c_X8_want l y127_6 ((1 : Int32) + (y127_7 - y127_7 / (99 : Int32) * (99 : Int32)))   M10) kv_X8_want wd_4_1 hI dL_law_210 rfl (hI.2 0 (by decide)) he_X8 rfl rfl rfl (Nat.le_of_ble_eq_true rfl) ⟨Nat.le_of_ble_eq_true rfl, Nat.le_of_ble_eq_true rfl⟩ ⟨by show _ ≤ (600086 : Nat); omega, by show _ ≤ (7301441 : Nat); omega⟩ (fun _ => rfl) rfl (fun r21 M21 _ => ?_)
          refine hz_istore (L' := [(10, .int r21), (12, .long r10), (11, .int z127_0), (0, .ref b), (1, .ref (adr 12 0)), (2, .int y127_2), (3, .int k50_3), (4, .int y127_4), (5, .int y127_5), (6, .int y127_6), (7, .int y127_7), (8, .int y127_8), (9, .int y127_9)]) (n := 215) hC dL_law_213 (by decide) rfl rfl ?_
          refine hz_iload (a := 0) (n := 217) hC dL_law_215 rfl rfl ?_
          refine hz_iload (a := 11) (n := 219) hC dL_law_217 rfl rfl ?_
          refine hz_if_eq (tgt := 227) (n := 222) hC dL_law_219 (by decide) rfl (fun _ => ?_) (fun _ => ?_)
          · refine hz_iconst (v := (1 : Int32)) (n := 228) hC dL_law_227 (by decide +kernel) rfl ?_
            refine hz_aload_n (a := 4) (n := 229) hC dL_law_228 rfl rfl rfl ?_
            refine hz_iload (a := 9) (n := 231) hC dL_law_229 rfl rfl ?_
            refine hz_iconst (v := (0 : Int32)) (n := 232) hC dL_law_231 (by decide +kernel) rfl ?_
            refine hz_callV (k := 2) (As := [.int y127_6, .int (0 : Int32)]) (st := [.int (1 : Int32), .int r21]) (S1 := fun r => .int r :: [.int (1 : Int32), .int r21]) (n := 235) hC (c_X8_flat l y127_6 (0 : Int32)   M21) kv_X8_flat wd_3_181 hI dL_law_232 rfl (hI.2 0 (by decide)) he_X8 rfl rfl rfl (Nat.le_of_ble_eq_true rfl) ⟨Nat.le_of_ble_eq_true rfl, Nat.le_of_ble_eq_true rfl⟩ ⟨by show _ ≤ (600086 : Nat); omega, by show _ ≤ (7301441 : Nat); omega⟩ (fun _ => rfl) rfl (fun r22 M22 _ => ?_)
            refine hz_iadd (n := 236) hC dL_law_235 rfl ?_
            refine hz_L (L' := [(0, .ref b), (1, .ref (adr 12 0)), (2, .int y127_2), (3, .int k50_3), (4, .int y127_4), (5, .int y127_5), (6, .int y127_6), (7, .int y127_7), (8, .int y127_8), (10, .int r21), (12, .long r10)]) [3, 4, 5, 6, 7, 8, 9, 10, 11, 0, 1] rfl ?_
            exact j236 _ _ _ _ _ _ _ _ _ _ _
          · refine hz_bipush (v := (-2 : Int32)) (n := 224) hC dL_law_222 (by decide +kernel) rfl ?_
            refine hz_goto (n := 236) hC dL_law_224 (by decide) ?_
            refine hz_L (L' := [(0, .ref b), (1, .ref (adr 12 0)), (2, .int y127_2), (3, .int k50_3), (4, .int y127_4), (5, .int y127_5), (6, .int y127_6), (7, .int y127_7), (8, .int y127_8), (10, .int r21), (12, .long r10)]) [3, 4, 5, 6, 7, 8, 9, 10, 11, 0, 1] rfl ?_
            exact j236 _ _ _ _ _ _ _ _ _ _ _
        refine hz_case (fun hk2 => ?_) (fun hk2 => ?_)
        · refine hz_tabIn (n := 200) hC hk2 dL_law_140 (by decide +kernel) (by decide +kernel) (by rfl) (by decide +kernel) ?_
          refine hz_aload_n (a := 3) (n := 201) hC dL_law_200 rfl rfl rfl ?_
          refine hz_iload (a := 8) (n := 203) hC dL_law_201 rfl rfl ?_
          refine hz_iconst (v := (1 : Int32)) (n := 204) hC dL_law_203 (by decide +kernel) rfl ?_
          refine hz_iload (a := 9) (n := 206) hC dL_law_204 rfl rfl ?_
          refine hz_bipush (v := (99 : Int32)) (n := 208) hC dL_law_206 (by decide +kernel) rfl ?_
          refine hz_irem (n := 209) hC dL_law_208 rfl (fun _ => ?_)
          refine hz_iadd (n := 210) hC dL_law_209 rfl ?_
          refine hz_callV (k := 2) (As := [.int y127_6, .int ((1 : Int32) + (y127_7 - y127_7 / (99 : Int32) * (99 : Int32)))]) (st := []) (S1 := fun r => .int r :: []) (n := 213) hC (c_X8_want l y127_6 ((1 : Int32) + (y127_7 - y127_7 / (99 : Int32) * (99 : Int32)))   M10) kv_X8_want wd_4_1 hI dL_law_210 rfl (hI.2 0 (by decide)) he_X8 rfl rfl rfl (Nat.le_of_ble_eq_true rfl) ⟨Nat.le_of_ble_eq_true rfl, Nat.le_of_ble_eq_true rfl⟩ ⟨by show _ ≤ (600086 : Nat); omega, by show _ ≤ (7301441 : Nat); omega⟩ (fun _ => rfl) rfl (fun r23 M23 _ => ?_)
          refine hz_istore (L' := [(10, .int r23), (12, .long r10), (11, .int z127_0), (0, .ref b), (1, .ref (adr 12 0)), (2, .int y127_2), (3, .int k50_3), (4, .int y127_4), (5, .int y127_5), (6, .int y127_6), (7, .int y127_7), (8, .int y127_8), (9, .int y127_9)]) (n := 215) hC dL_law_213 (by decide) rfl rfl ?_
          refine hz_iload (a := 0) (n := 217) hC dL_law_215 rfl rfl ?_
          refine hz_iload (a := 11) (n := 219) hC dL_law_217 rfl rfl ?_
          refine hz_if_eq (tgt := 227) (n := 222) hC dL_law_219 (by decide) rfl (fun _ => ?_) (fun _ => ?_)
          · refine hz_iconst (v := (1 : Int32)) (n := 228) hC dL_law_227 (by decide +kernel) rfl ?_
            refine hz_aload_n (a := 4) (n := 229) hC dL_law_228 rfl rfl rfl ?_
            refine hz_iload (a := 9) (n := 231) hC dL_law_229 rfl rfl ?_
            refine hz_iconst (v := (0 : Int32)) (n := 232) hC dL_law_231 (by decide +kernel) rfl ?_
            refine hz_callV (k := 2) (As := [.int y127_6, .int (0 : Int32)]) (st := [.int (1 : Int32), .int r23]) (S1 := fun r => .int r :: [.int (1 : Int32), .int r23]) (n := 235) hC (c_X8_flat l y127_6 (0 : Int32)   M23) kv_X8_flat wd_3_181 hI dL_law_232 rfl (hI.2 0 (by decide)) he_X8 rfl rfl rfl (Nat.le_of_ble_eq_true rfl) ⟨Nat.le_of_ble_eq_true rfl, Nat.le_of_ble_eq_true rfl⟩ ⟨by show _ ≤ (600086 : Nat); omega, by show _ ≤ (7301441 : Nat); omega⟩ (fun _ => rfl) rfl (fun r24 M24 _ => ?_)
            refine hz_iadd (n := 236) hC dL_law_235 rfl ?_
            refine hz_L (L' := [(0, .ref b), (1, .ref (adr 12 0)), (2, .int y127_2), (3, .int k50_3), (4, .int y127_4), (5, .int y127_5), (6, .int y127_6), (7, .int y127_7), (8, .int y127_8), (10, .int r23), (12, .long r10)]) [3, 4, 5, 6, 7, 8, 9, 10, 11, 0, 1] rfl ?_
            exact j236 _ _ _ _ _ _ _ _ _ _ _
          · refine hz_bipush (v := (-2 : Int32)) (n := 224) hC dL_law_222 (by decide +kernel) rfl ?_
            refine hz_goto (n := 236) hC dL_law_224 (by decide) ?_
            refine hz_L (L' := [(0, .ref b), (1, .ref (adr 12 0)), (2, .int y127_2), (3, .int k50_3), (4, .int y127_4), (5, .int y127_5), (6, .int y127_6), (7, .int y127_7), (8, .int y127_8), (10, .int r23), (12, .long r10)]) [3, 4, 5, 6, 7, 8, 9, 10, 11, 0, 1] rfl ?_
            exact j236 _ _ _ _ _ _ _ _ _ _ _
        refine hz_case (fun hk3 => ?_) (fun hk3 => ?_)
        · refine hz_tabIn (n := 286) hC hk3 dL_law_140 (by decide +kernel) (by decide +kernel) (by rfl) (by decide +kernel) ?_
          refine hz_aload_n (a := 3) (n := 287) hC dL_law_286 rfl rfl rfl ?_
          refine hz_iload (a := 8) (n := 289) hC dL_law_287 rfl rfl ?_
          refine hz_iconst (v := (4 : Int32)) (n := 290) hC dL_law_289 (by decide +kernel) rfl ?_
          refine hz_callV (k := 2) (As := [.int y127_6, .int (4 : Int32)]) (st := []) (S1 := fun r => .int r :: []) (n := 293) hC (c_X8_flat l y127_6 (4 : Int32)   M10) kv_X8_flat wd_3_181 hI dL_law_290 rfl (hI.2 0 (by decide)) he_X8 rfl rfl rfl (Nat.le_of_ble_eq_true rfl) ⟨Nat.le_of_ble_eq_true rfl, Nat.le_of_ble_eq_true rfl⟩ ⟨by show _ ≤ (600086 : Nat); omega, by show _ ≤ (7301441 : Nat); omega⟩ (fun _ => rfl) rfl (fun r25 M25 _ => ?_)
          refine hz_istore (L' := [(14, .int r25), (12, .long r10), (11, .int z127_0), (0, .ref b), (1, .ref (adr 12 0)), (2, .int y127_2), (3, .int k50_3), (4, .int y127_4), (5, .int y127_5), (6, .int y127_6), (7, .int y127_7), (8, .int y127_8), (9, .int y127_9), (10, .int y127_10)]) (n := 295) hC dL_law_293 (by decide) rfl rfl ?_
          refine hz_aload_n (a := 4) (n := 296) hC dL_law_295 rfl rfl rfl ?_
          refine hz_iload (a := 9) (n := 298) hC dL_law_296 rfl rfl ?_
          refine hz_callV (k := 1) (As := [.int y127_6]) (st := []) (S1 := fun r => .int r :: []) (n := 301) hC (c_X8_drop l y127_6   M25) kv_X8_drop wd_4_17 hI dL_law_298 rfl (hI.2 0 (by decide)) he_X8 rfl rfl rfl (Nat.le_of_ble_eq_true rfl) ⟨Nat.le_of_ble_eq_true rfl, Nat.le_of_ble_eq_true rfl⟩ ⟨by show _ ≤ (600086 : Nat); omega, by show _ ≤ (7301441 : Nat); omega⟩ (fun _ => rfl) rfl (fun r26 M26 _ => ?_)
          refine hz_istore (L' := [(10, .int r26), (14, .int r25), (12, .long r10), (11, .int z127_0), (0, .ref b), (1, .ref (adr 12 0)), (2, .int y127_2), (3, .int k50_3), (4, .int y127_4), (5, .int y127_5), (6, .int y127_6), (7, .int y127_7), (8, .int y127_8), (9, .int y127_9)]) (n := 303) hC dL_law_301 (by decide) rfl rfl ?_
          refine hz_iload (a := 0) (n := 305) hC dL_law_303 rfl rfl ?_
          refine hz_iload (a := 12) (n := 307) hC dL_law_305 rfl rfl ?_
          refine hz_iconst (v := (2 : Int32)) (n := 308) hC dL_law_307 (by decide +kernel) rfl ?_
          refine hz_icmp_eq (tgt := 322) (n := 311) hC dL_law_308 (by decide) rfl (fun _ => ?_) (fun _ => ?_)
          · refine hz_L (L' := [(0, .ref b), (1, .ref (adr 12 0)), (2, .int y127_2), (3, .int k50_3), (4, .int y127_4), (5, .int y127_5), (6, .int y127_6), (10, .int r26), (12, .long r10), (14, .int r25)]) [4, 5, 6, 7, 8, 9, 10, 0, 2, 1] rfl ?_
            exact j322 _ _ _ _ _ _ _ _ _
          · refine hz_iload (a := 12) (n := 313) hC dL_law_311 rfl rfl ?_
            refine hz_iconst (v := (1 : Int32)) (n := 314) hC dL_law_313 (by decide +kernel) rfl ?_
            refine hz_icmp_ne (tgt := 327) (n := 317) hC dL_law_314 (by decide) rfl (fun _ => ?_) (fun _ => ?_)
            · refine hz_iload (a := 3) (n := 319) hC dL_law_317 rfl rfl ?_
              refine hz_if_ne (tgt := 327) (n := 322) hC dL_law_319 (by decide) rfl (fun _ => ?_) (fun _ => ?_)
              · refine hz_L (L' := [(0, .ref b), (1, .ref (adr 12 0)), (2, .int y127_2), (3, .int k50_3), (4, .int y127_4), (5, .int y127_5), (6, .int y127_6), (10, .int r26), (12, .long r10), (14, .int r25)]) [4, 5, 6, 7, 8, 9, 10, 0, 2, 1] rfl ?_
                exact j322 _ _ _ _ _ _ _ _ _
              · refine hz_L (L' := [(0, .ref b), (1, .ref (adr 12 0)), (2, .int y127_2), (3, .int k50_3), (4, .int y127_4), (5, .int y127_5), (6, .int y127_6), (10, .int r26), (12, .long r10)]) [4, 5, 6, 7, 8, 9, 10, 0, 2] rfl ?_
                exact j327 _ _ _ _ _ _ _ _
            · refine hz_L (L' := [(0, .ref b), (1, .ref (adr 12 0)), (2, .int y127_2), (3, .int k50_3), (4, .int y127_4), (5, .int y127_5), (6, .int y127_6), (10, .int r26), (12, .long r10)]) [4, 5, 6, 7, 8, 9, 10, 0, 2] rfl ?_
              exact j327 _ _ _ _ _ _ _ _
        refine hz_case (fun hk4 => ?_) (fun hk4 => ?_)
        · refine hz_tabIn (n := 349) hC hk4 dL_law_140 (by decide +kernel) (by decide +kernel) (by rfl) (by decide +kernel) ?_
          refine hz_aload_n (a := 3) (n := 350) hC dL_law_349 rfl rfl rfl ?_
          refine hz_iconst (v := (4 : Int32)) (n := 351) hC dL_law_350 (by decide +kernel) rfl ?_
          refine hz_callV (k := 1) (As := [.int (4 : Int32)]) (st := []) (S1 := fun r => .int r :: []) (n := 354) hC (c_X8_size l (4 : Int32)   M10) kv_X8_size wd_3_151 hI dL_law_351 rfl (hI.2 0 (by decide)) he_X8 rfl rfl rfl (Nat.le_of_ble_eq_true rfl) ⟨Nat.le_of_ble_eq_true rfl, Nat.le_of_ble_eq_true rfl⟩ ⟨by show _ ≤ (600086 : Nat); omega, by show _ ≤ (7301441 : Nat); omega⟩ (fun _ => rfl) rfl (fun r28 M28 _ => ?_)
          refine hz_istore (L' := [(14, .int r28), (12, .long r10), (11, .int z127_0), (0, .ref b), (1, .ref (adr 12 0)), (2, .int y127_2), (3, .int k50_3), (4, .int y127_4), (5, .int y127_5), (6, .int y127_6), (7, .int y127_7), (8, .int y127_8), (9, .int y127_9), (10, .int y127_10)]) (n := 356) hC dL_law_354 (by decide) rfl rfl ?_
          refine hz_aload_n (a := 4) (n := 357) hC dL_law_356 rfl rfl rfl ?_
          refine hz_iload (a := 9) (n := 359) hC dL_law_357 rfl rfl ?_
          refine hz_bipush (v := (6 : Int32)) (n := 361) hC dL_law_359 (by decide +kernel) rfl ?_
          refine hz_callV (k := 2) (As := [.int y127_6, .int (6 : Int32)]) (st := []) (S1 := fun r => .int r :: []) (n := 364) hC (c_X8_flat l y127_6 (6 : Int32)   M28) kv_X8_flat wd_3_181 hI dL_law_361 rfl (hI.2 0 (by decide)) he_X8 rfl rfl rfl (Nat.le_of_ble_eq_true rfl) ⟨Nat.le_of_ble_eq_true rfl, Nat.le_of_ble_eq_true rfl⟩ ⟨by show _ ≤ (600086 : Nat); omega, by show _ ≤ (7301441 : Nat); omega⟩ (fun _ => rfl) rfl (fun r29 M29 _ => ?_)
          refine hz_istore (L' := [(15, .int r29), (14, .int r28), (12, .long r10), (11, .int z127_0), (0, .ref b), (1, .ref (adr 12 0)), (2, .int y127_2), (3, .int k50_3), (4, .int y127_4), (5, .int y127_5), (6, .int y127_6), (7, .int y127_7), (8, .int y127_8), (9, .int y127_9), (10, .int y127_10)]) (n := 366) hC dL_law_364 (by decide) rfl rfl ?_
          refine hz_iload (a := 12) (n := 368) hC dL_law_366 rfl rfl ?_
          refine hz_iconst (v := (3 : Int32)) (n := 369) hC dL_law_368 (by decide +kernel) rfl ?_
          refine hz_icmp_ne (tgt := 395) (n := 372) hC dL_law_369 (by decide) rfl (fun _ => ?_) (fun _ => ?_)
          · refine hz_aload_n (a := 5) (n := 373) hC dL_law_372 rfl rfl rfl ?_
            refine hz_bipush (v := (6 : Int32)) (n := 375) hC dL_law_373 (by decide +kernel) rfl ?_
            refine hz_callV (k := 1) (As := [.int (6 : Int32)]) (st := []) (S1 := fun r => .int r :: []) (n := 378) hC (c_X8_size l (6 : Int32)   M29) kv_X8_size wd_3_151 hI dL_law_375 rfl (hI.2 0 (by decide)) he_X8 rfl rfl rfl (Nat.le_of_ble_eq_true rfl) ⟨Nat.le_of_ble_eq_true rfl, Nat.le_of_ble_eq_true rfl⟩ ⟨by show _ ≤ (600086 : Nat); omega, by show _ ≤ (7301441 : Nat); omega⟩ (fun _ => rfl) rfl (fun r30 M30 _ => ?_)
            refine hz_if_ne (tgt := 395) (n := 381) hC dL_law_378 (by decide) rfl (fun _ => ?_) (fun _ => ?_)
            · refine hz_iload (a := 1) (n := 383) hC dL_law_381 rfl rfl ?_
              refine hz_if_le (tgt := 395) (n := 386) hC dL_law_383 (by decide) rfl (fun _ => ?_) (fun _ => ?_)
              · refine hz_L (L' := [(0, .ref b), (1, .ref (adr 12 0)), (2, .int y127_2), (3, .int k50_3), (4, .int y127_4), (5, .int y127_5), (6, .int y127_6), (8, .int y127_8), (12, .long r10), (14, .int r28), (15, .int r29)]) [4, 5, 6, 7, 8, 9, 10, 12, 2, 1, 0] rfl ?_
                exact j395 _ _ _ _ _ _ _ _ _
              · refine hz_aload_n (a := 5) (n := 387) hC dL_law_386 rfl rfl rfl ?_
                refine hz_iload (a := 1) (n := 389) hC dL_law_387 rfl rfl ?_
                refine hz_callV (k := 1) (As := [.int r28]) (st := []) (S1 := fun r => .int r :: []) (n := 392) hC (c_X8_cost l r28   M30) kv_X8_cost wd_3_221 hI dL_law_389 rfl (hI.2 0 (by decide)) he_X8 rfl rfl rfl (Nat.le_of_ble_eq_true rfl) ⟨Nat.le_of_ble_eq_true rfl, Nat.le_of_ble_eq_true rfl⟩ ⟨by show _ ≤ (600086 : Nat); omega, by show _ ≤ (7301441 : Nat); omega⟩ (fun _ => rfl) rfl (fun r35 M35 _ => ?_)
                refine hz_goto (n := 396) hC dL_law_392 (by decide) ?_
                refine hz_L (L' := [(0, .ref b), (1, .ref (adr 12 0)), (2, .int y127_2), (3, .int k50_3), (4, .int y127_4), (5, .int y127_5), (6, .int y127_6), (8, .int y127_8), (12, .long r10), (14, .int r28), (15, .int r29)]) [4, 5, 6, 7, 8, 9, 10, 12, 2, 1, 0] rfl ?_
                exact j396 _ _ _ _ _ _ _ _ _ _
            · refine hz_L (L' := [(0, .ref b), (1, .ref (adr 12 0)), (2, .int y127_2), (3, .int k50_3), (4, .int y127_4), (5, .int y127_5), (6, .int y127_6), (8, .int y127_8), (12, .long r10), (14, .int r28), (15, .int r29)]) [4, 5, 6, 7, 8, 9, 10, 12, 2, 1, 0] rfl ?_
              exact j395 _ _ _ _ _ _ _ _ _
          · refine hz_L (L' := [(0, .ref b), (1, .ref (adr 12 0)), (2, .int y127_2), (3, .int k50_3), (4, .int y127_4), (5, .int y127_5), (6, .int y127_6), (8, .int y127_8), (12, .long r10), (14, .int r28), (15, .int r29)]) [4, 5, 6, 7, 8, 9, 10, 12, 2, 1, 0] rfl ?_
            exact j395 _ _ _ _ _ _ _ _ _
        refine hz_case (fun hk5 => ?_) (fun hk5 => ?_)
        · refine hz_tabIn (n := 466) hC hk5 dL_law_140 (by decide +kernel) (by decide +kernel) (by rfl) (by decide +kernel) ?_
          refine hz_aload_n (a := 3) (n := 467) hC dL_law_466 rfl rfl rfl ?_
          refine hz_iload (a := 8) (n := 469) hC dL_law_467 rfl rfl ?_
          refine hz_callV (k := 1) (As := [.int y127_6]) (st := []) (S1 := fun r => .int r :: []) (n := 472) hC (c_X8_ifRung l y127_6   M10) kv_X8_ifRung wd_3_226 hI dL_law_469 rfl (hI.2 0 (by decide)) he_X8 rfl rfl rfl (Nat.le_of_ble_eq_true rfl) ⟨Nat.le_of_ble_eq_true rfl, Nat.le_of_ble_eq_true rfl⟩ ⟨by show _ ≤ (600086 : Nat); omega, by show _ ≤ (7301441 : Nat); omega⟩ (fun _ => rfl) rfl (fun r36 M36 _ => ?_)
          refine hz_istore (L' := [(14, .int r36), (12, .long r10), (11, .int z127_0), (0, .ref b), (1, .ref (adr 12 0)), (2, .int y127_2), (3, .int k50_3), (4, .int y127_4), (5, .int y127_5), (6, .int y127_6), (7, .int y127_7), (8, .int y127_8), (9, .int y127_9), (10, .int y127_10)]) (n := 474) hC dL_law_472 (by decide) rfl rfl ?_
          refine hz_aload_n (a := 4) (n := 475) hC dL_law_474 rfl rfl rfl ?_
          refine hz_bipush (v := (9 : Int32)) (n := 477) hC dL_law_475 (by decide +kernel) rfl ?_
          refine hz_callV (k := 1) (As := [.int (9 : Int32)]) (st := []) (S1 := fun r => .int r :: []) (n := 480) hC (c_X8_size l (9 : Int32)   M36) kv_X8_size wd_3_151 hI dL_law_477 rfl (hI.2 0 (by decide)) he_X8 rfl rfl rfl (Nat.le_of_ble_eq_true rfl) ⟨Nat.le_of_ble_eq_true rfl, Nat.le_of_ble_eq_true rfl⟩ ⟨by show _ ≤ (600086 : Nat); omega, by show _ ≤ (7301441 : Nat); omega⟩ (fun _ => rfl) rfl (fun r37 M37 _ => ?_)
          refine hz_istore (L' := [(15, .int r37), (14, .int r36), (12, .long r10), (11, .int z127_0), (0, .ref b), (1, .ref (adr 12 0)), (2, .int y127_2), (3, .int k50_3), (4, .int y127_4), (5, .int y127_5), (6, .int y127_6), (7, .int y127_7), (8, .int y127_8), (9, .int y127_9), (10, .int y127_10)]) (n := 482) hC dL_law_480 (by decide) rfl rfl ?_
          refine hz_aload_n (a := 5) (n := 483) hC dL_law_482 rfl rfl rfl ?_
          refine hz_bipush (v := (8 : Int32)) (n := 485) hC dL_law_483 (by decide +kernel) rfl ?_
          refine hz_callV (k := 1) (As := [.int (8 : Int32)]) (st := []) (S1 := fun r => .int r :: []) (n := 488) hC (c_X8_account l (8 : Int32)   M37) kv_X8_account wd_3_233 hI dL_law_485 rfl (hI.2 0 (by decide)) he_X8 rfl rfl rfl (Nat.le_of_ble_eq_true rfl) ⟨Nat.le_of_ble_eq_true rfl, Nat.le_of_ble_eq_true rfl⟩ ⟨by show _ ≤ (600086 : Nat); omega, by show _ ≤ (7301441 : Nat); omega⟩ (fun _ => rfl) rfl (fun r38 M38 _ => ?_)
          refine hz_istore (L' := [(16, .int r38), (15, .int r37), (14, .int r36), (12, .long r10), (11, .int z127_0), (0, .ref b), (1, .ref (adr 12 0)), (2, .int y127_2), (3, .int k50_3), (4, .int y127_4), (5, .int y127_5), (6, .int y127_6), (7, .int y127_7), (8, .int y127_8), (9, .int y127_9), (10, .int y127_10)]) (n := 490) hC dL_law_488 (by decide) rfl rfl ?_
          refine hz_aload_n (a := 6) (n := 491) hC dL_law_490 rfl rfl rfl ?_
          refine hz_iload (a := 11) (n := 493) hC dL_law_491 rfl rfl ?_
          refine hz_iconst (v := (1 : Int32)) (n := 494) hC dL_law_493 (by decide +kernel) rfl ?_
          refine hz_iload (a := 12) (n := 496) hC dL_law_494 rfl rfl ?_
          refine hz_bipush (v := (99 : Int32)) (n := 498) hC dL_law_496 (by decide +kernel) rfl ?_
          refine hz_irem (n := 499) hC dL_law_498 rfl (fun _ => ?_)
          refine hz_iadd (n := 500) hC dL_law_499 rfl ?_
          refine hz_callV (k := 2) (As := [.int y127_6, .int ((1 : Int32) + (y127_7 - y127_7 / (99 : Int32) * (99 : Int32)))]) (st := []) (S1 := fun r => .int r :: []) (n := 503) hC (c_X8_ring l y127_6 ((1 : Int32) + (y127_7 - y127_7 / (99 : Int32) * (99 : Int32)))   M38) kv_X8_ring wd_4_29 hI dL_law_500 rfl (hI.2 0 (by decide)) he_X8 rfl rfl rfl (Nat.le_of_ble_eq_true rfl) ⟨Nat.le_of_ble_eq_true rfl, Nat.le_of_ble_eq_true rfl⟩ ⟨by show _ ≤ (600086 : Nat); omega, by show _ ≤ (7301441 : Nat); omega⟩ (fun _ => rfl) rfl (fun r39 M39 _ => ?_)
          refine hz_istore (L' := [(10, .int r39), (16, .int r38), (15, .int r37), (14, .int r36), (12, .long r10), (11, .int z127_0), (0, .ref b), (1, .ref (adr 12 0)), (2, .int y127_2), (3, .int k50_3), (4, .int y127_4), (5, .int y127_5), (6, .int y127_6), (7, .int y127_7), (8, .int y127_8), (9, .int y127_9)]) (n := 505) hC dL_law_503 (by decide) rfl rfl ?_
          refine hz_iload (a := 0) (n := 507) hC dL_law_505 rfl rfl ?_
          refine hz_iload (a := 3) (n := 509) hC dL_law_507 rfl rfl ?_
          refine hz_iconst (v := (5 : Int32)) (n := 510) hC dL_law_509 (by decide +kernel) rfl ?_
          refine hz_icmp_ne (tgt := 518) (n := 513) hC dL_law_510 (by decide) rfl (fun _ => ?_) (fun _ => ?_)
          · refine hz_bipush (v := (-5 : Int32)) (n := 515) hC dL_law_513 (by decide +kernel) rfl ?_
            refine hz_goto (n := 520) hC dL_law_515 (by decide) ?_
            refine hz_L (L' := [(0, .ref b), (1, .ref (adr 12 0)), (2, .int y127_2), (3, .int k50_3), (4, .int y127_4), (5, .int y127_5), (6, .int y127_6), (7, .int y127_7), (9, .int y127_9), (10, .int r39), (12, .long r10), (14, .int r36), (15, .int r37), (16, .int r38)]) [6, 7, 8, 9, 10, 11, 12, 13, 15, 0, 4, 3, 2, 1] rfl ?_
            exact j520 _ _ _ _ _ _ _ _ _ _ _ _ _ _
          · refine hz_iload (a := 3) (n := 520) hC dL_law_518 rfl rfl ?_
            refine hz_L (L' := [(0, .ref b), (1, .ref (adr 12 0)), (2, .int y127_2), (3, .int k50_3), (4, .int y127_4), (5, .int y127_5), (6, .int y127_6), (7, .int y127_7), (9, .int y127_9), (10, .int r39), (12, .long r10), (14, .int r36), (15, .int r37), (16, .int r38)]) [6, 7, 8, 9, 10, 11, 12, 13, 15, 0, 4, 3, 2, 1] rfl ?_
            exact j520 _ _ _ _ _ _ _ _ _ _ _ _ _ _
        refine hz_case (fun hk6 => ?_) (fun hk6 => ?_)
        · refine hz_tabIn (n := 466) hC hk6 dL_law_140 (by decide +kernel) (by decide +kernel) (by rfl) (by decide +kernel) ?_
          refine hz_aload_n (a := 3) (n := 467) hC dL_law_466 rfl rfl rfl ?_
          refine hz_iload (a := 8) (n := 469) hC dL_law_467 rfl rfl ?_
          refine hz_callV (k := 1) (As := [.int y127_6]) (st := []) (S1 := fun r => .int r :: []) (n := 472) hC (c_X8_ifRung l y127_6   M10) kv_X8_ifRung wd_3_226 hI dL_law_469 rfl (hI.2 0 (by decide)) he_X8 rfl rfl rfl (Nat.le_of_ble_eq_true rfl) ⟨Nat.le_of_ble_eq_true rfl, Nat.le_of_ble_eq_true rfl⟩ ⟨by show _ ≤ (600086 : Nat); omega, by show _ ≤ (7301441 : Nat); omega⟩ (fun _ => rfl) rfl (fun r47 M47 _ => ?_)
          refine hz_istore (L' := [(14, .int r47), (12, .long r10), (11, .int z127_0), (0, .ref b), (1, .ref (adr 12 0)), (2, .int y127_2), (3, .int k50_3), (4, .int y127_4), (5, .int y127_5), (6, .int y127_6), (7, .int y127_7), (8, .int y127_8), (9, .int y127_9), (10, .int y127_10)]) (n := 474) hC dL_law_472 (by decide) rfl rfl ?_
          refine hz_aload_n (a := 4) (n := 475) hC dL_law_474 rfl rfl rfl ?_
          refine hz_bipush (v := (9 : Int32)) (n := 477) hC dL_law_475 (by decide +kernel) rfl ?_
          refine hz_callV (k := 1) (As := [.int (9 : Int32)]) (st := []) (S1 := fun r => .int r :: []) (n := 480) hC (c_X8_size l (9 : Int32)   M47) kv_X8_size wd_3_151 hI dL_law_477 rfl (hI.2 0 (by decide)) he_X8 rfl rfl rfl (Nat.le_of_ble_eq_true rfl) ⟨Nat.le_of_ble_eq_true rfl, Nat.le_of_ble_eq_true rfl⟩ ⟨by show _ ≤ (600086 : Nat); omega, by show _ ≤ (7301441 : Nat); omega⟩ (fun _ => rfl) rfl (fun r48 M48 _ => ?_)
          refine hz_istore (L' := [(15, .int r48), (14, .int r47), (12, .long r10), (11, .int z127_0), (0, .ref b), (1, .ref (adr 12 0)), (2, .int y127_2), (3, .int k50_3), (4, .int y127_4), (5, .int y127_5), (6, .int y127_6), (7, .int y127_7), (8, .int y127_8), (9, .int y127_9), (10, .int y127_10)]) (n := 482) hC dL_law_480 (by decide) rfl rfl ?_
          refine hz_aload_n (a := 5) (n := 483) hC dL_law_482 rfl rfl rfl ?_
          refine hz_bipush (v := (8 : Int32)) (n := 485) hC dL_law_483 (by decide +kernel) rfl ?_
          refine hz_callV (k := 1) (As := [.int (8 : Int32)]) (st := []) (S1 := fun r => .int r :: []) (n := 488) hC (c_X8_account l (8 : Int32)   M48) kv_X8_account wd_3_233 hI dL_law_485 rfl (hI.2 0 (by decide)) he_X8 rfl rfl rfl (Nat.le_of_ble_eq_true rfl) ⟨Nat.le_of_ble_eq_true rfl, Nat.le_of_ble_eq_true rfl⟩ ⟨by show _ ≤ (600086 : Nat); omega, by show _ ≤ (7301441 : Nat); omega⟩ (fun _ => rfl) rfl (fun r49 M49 _ => ?_)
          refine hz_istore (L' := [(16, .int r49), (15, .int r48), (14, .int r47), (12, .long r10), (11, .int z127_0), (0, .ref b), (1, .ref (adr 12 0)), (2, .int y127_2), (3, .int k50_3), (4, .int y127_4), (5, .int y127_5), (6, .int y127_6), (7, .int y127_7), (8, .int y127_8), (9, .int y127_9), (10, .int y127_10)]) (n := 490) hC dL_law_488 (by decide) rfl rfl ?_
          refine hz_aload_n (a := 6) (n := 491) hC dL_law_490 rfl rfl rfl ?_
          refine hz_iload (a := 11) (n := 493) hC dL_law_491 rfl rfl ?_
          refine hz_iconst (v := (1 : Int32)) (n := 494) hC dL_law_493 (by decide +kernel) rfl ?_
          refine hz_iload (a := 12) (n := 496) hC dL_law_494 rfl rfl ?_
          refine hz_bipush (v := (99 : Int32)) (n := 498) hC dL_law_496 (by decide +kernel) rfl ?_
          refine hz_irem (n := 499) hC dL_law_498 rfl (fun _ => ?_)
          refine hz_iadd (n := 500) hC dL_law_499 rfl ?_
          refine hz_callV (k := 2) (As := [.int y127_6, .int ((1 : Int32) + (y127_7 - y127_7 / (99 : Int32) * (99 : Int32)))]) (st := []) (S1 := fun r => .int r :: []) (n := 503) hC (c_X8_ring l y127_6 ((1 : Int32) + (y127_7 - y127_7 / (99 : Int32) * (99 : Int32)))   M49) kv_X8_ring wd_4_29 hI dL_law_500 rfl (hI.2 0 (by decide)) he_X8 rfl rfl rfl (Nat.le_of_ble_eq_true rfl) ⟨Nat.le_of_ble_eq_true rfl, Nat.le_of_ble_eq_true rfl⟩ ⟨by show _ ≤ (600086 : Nat); omega, by show _ ≤ (7301441 : Nat); omega⟩ (fun _ => rfl) rfl (fun r50 M50 _ => ?_)
          refine hz_istore (L' := [(10, .int r50), (16, .int r49), (15, .int r48), (14, .int r47), (12, .long r10), (11, .int z127_0), (0, .ref b), (1, .ref (adr 12 0)), (2, .int y127_2), (3, .int k50_3), (4, .int y127_4), (5, .int y127_5), (6, .int y127_6), (7, .int y127_7), (8, .int y127_8), (9, .int y127_9)]) (n := 505) hC dL_law_503 (by decide) rfl rfl ?_
          refine hz_iload (a := 0) (n := 507) hC dL_law_505 rfl rfl ?_
          refine hz_iload (a := 3) (n := 509) hC dL_law_507 rfl rfl ?_
          refine hz_iconst (v := (5 : Int32)) (n := 510) hC dL_law_509 (by decide +kernel) rfl ?_
          refine hz_icmp_ne (tgt := 518) (n := 513) hC dL_law_510 (by decide) rfl (fun _ => ?_) (fun _ => ?_)
          · refine hz_bipush (v := (-5 : Int32)) (n := 515) hC dL_law_513 (by decide +kernel) rfl ?_
            refine hz_goto (n := 520) hC dL_law_515 (by decide) ?_
            refine hz_L (L' := [(0, .ref b), (1, .ref (adr 12 0)), (2, .int y127_2), (3, .int k50_3), (4, .int y127_4), (5, .int y127_5), (6, .int y127_6), (7, .int y127_7), (9, .int y127_9), (10, .int r50), (12, .long r10), (14, .int r47), (15, .int r48), (16, .int r49)]) [6, 7, 8, 9, 10, 11, 12, 13, 15, 0, 4, 3, 2, 1] rfl ?_
            exact j520 _ _ _ _ _ _ _ _ _ _ _ _ _ _
          · refine hz_iload (a := 3) (n := 520) hC dL_law_518 rfl rfl ?_
            refine hz_L (L' := [(0, .ref b), (1, .ref (adr 12 0)), (2, .int y127_2), (3, .int k50_3), (4, .int y127_4), (5, .int y127_5), (6, .int y127_6), (7, .int y127_7), (9, .int y127_9), (10, .int r50), (12, .long r10), (14, .int r47), (15, .int r48), (16, .int r49)]) [6, 7, 8, 9, 10, 11, 12, 13, 15, 0, 4, 3, 2, 1] rfl ?_
            exact j520 _ _ _ _ _ _ _ _ _ _ _ _ _ _
        refine hz_case (fun hk7 => ?_) (fun hk7 => ?_)
        · refine hz_tabIn (n := 466) hC hk7 dL_law_140 (by decide +kernel) (by decide +kernel) (by rfl) (by decide +kernel) ?_
          refine hz_aload_n (a := 3) (n := 467) hC dL_law_466 rfl rfl rfl ?_
          refine hz_iload (a := 8) (n := 469) hC dL_law_467 rfl rfl ?_
          refine hz_callV (k := 1) (As := [.int y127_6]) (st := []) (S1 := fun r => .int r :: []) (n := 472) hC (c_X8_ifRung l y127_6   M10) kv_X8_ifRung wd_3_226 hI dL_law_469 rfl (hI.2 0 (by decide)) he_X8 rfl rfl rfl (Nat.le_of_ble_eq_true rfl) ⟨Nat.le_of_ble_eq_true rfl, Nat.le_of_ble_eq_true rfl⟩ ⟨by show _ ≤ (600086 : Nat); omega, by show _ ≤ (7301441 : Nat); omega⟩ (fun _ => rfl) rfl (fun r51 M51 _ => ?_)
          refine hz_istore (L' := [(14, .int r51), (12, .long r10), (11, .int z127_0), (0, .ref b), (1, .ref (adr 12 0)), (2, .int y127_2), (3, .int k50_3), (4, .int y127_4), (5, .int y127_5), (6, .int y127_6), (7, .int y127_7), (8, .int y127_8), (9, .int y127_9), (10, .int y127_10)]) (n := 474) hC dL_law_472 (by decide) rfl rfl ?_
          refine hz_aload_n (a := 4) (n := 475) hC dL_law_474 rfl rfl rfl ?_
          refine hz_bipush (v := (9 : Int32)) (n := 477) hC dL_law_475 (by decide +kernel) rfl ?_
          refine hz_callV (k := 1) (As := [.int (9 : Int32)]) (st := []) (S1 := fun r => .int r :: []) (n := 480) hC (c_X8_size l (9 : Int32)   M51) kv_X8_size wd_3_151 hI dL_law_477 rfl (hI.2 0 (by decide)) he_X8 rfl rfl rfl (Nat.le_of_ble_eq_true rfl) ⟨Nat.le_of_ble_eq_true rfl, Nat.le_of_ble_eq_true rfl⟩ ⟨by show _ ≤ (600086 : Nat); omega, by show _ ≤ (7301441 : Nat); omega⟩ (fun _ => rfl) rfl (fun r52 M52 _ => ?_)
          refine hz_istore (L' := [(15, .int r52), (14, .int r51), (12, .long r10), (11, .int z127_0), (0, .ref b), (1, .ref (adr 12 0)), (2, .int y127_2), (3, .int k50_3), (4, .int y127_4), (5, .int y127_5), (6, .int y127_6), (7, .int y127_7), (8, .int y127_8), (9, .int y127_9), (10, .int y127_10)]) (n := 482) hC dL_law_480 (by decide) rfl rfl ?_
          refine hz_aload_n (a := 5) (n := 483) hC dL_law_482 rfl rfl rfl ?_
          refine hz_bipush (v := (8 : Int32)) (n := 485) hC dL_law_483 (by decide +kernel) rfl ?_
          refine hz_callV (k := 1) (As := [.int (8 : Int32)]) (st := []) (S1 := fun r => .int r :: []) (n := 488) hC (c_X8_account l (8 : Int32)   M52) kv_X8_account wd_3_233 hI dL_law_485 rfl (hI.2 0 (by decide)) he_X8 rfl rfl rfl (Nat.le_of_ble_eq_true rfl) ⟨Nat.le_of_ble_eq_true rfl, Nat.le_of_ble_eq_true rfl⟩ ⟨by show _ ≤ (600086 : Nat); omega, by show _ ≤ (7301441 : Nat); omega⟩ (fun _ => rfl) rfl (fun r53 M53 _ => ?_)
          refine hz_istore (L' := [(16, .int r53), (15, .int r52), (14, .int r51), (12, .long r10), (11, .int z127_0), (0, .ref b), (1, .ref (adr 12 0)), (2, .int y127_2), (3, .int k50_3), (4, .int y127_4), (5, .int y127_5), (6, .int y127_6), (7, .int y127_7), (8, .int y127_8), (9, .int y127_9), (10, .int y127_10)]) (n := 490) hC dL_law_488 (by decide) rfl rfl ?_
          refine hz_aload_n (a := 6) (n := 491) hC dL_law_490 rfl rfl rfl ?_
          refine hz_iload (a := 11) (n := 493) hC dL_law_491 rfl rfl ?_
          refine hz_iconst (v := (1 : Int32)) (n := 494) hC dL_law_493 (by decide +kernel) rfl ?_
          refine hz_iload (a := 12) (n := 496) hC dL_law_494 rfl rfl ?_
          refine hz_bipush (v := (99 : Int32)) (n := 498) hC dL_law_496 (by decide +kernel) rfl ?_
          refine hz_irem (n := 499) hC dL_law_498 rfl (fun _ => ?_)
          refine hz_iadd (n := 500) hC dL_law_499 rfl ?_
          refine hz_callV (k := 2) (As := [.int y127_6, .int ((1 : Int32) + (y127_7 - y127_7 / (99 : Int32) * (99 : Int32)))]) (st := []) (S1 := fun r => .int r :: []) (n := 503) hC (c_X8_ring l y127_6 ((1 : Int32) + (y127_7 - y127_7 / (99 : Int32) * (99 : Int32)))   M53) kv_X8_ring wd_4_29 hI dL_law_500 rfl (hI.2 0 (by decide)) he_X8 rfl rfl rfl (Nat.le_of_ble_eq_true rfl) ⟨Nat.le_of_ble_eq_true rfl, Nat.le_of_ble_eq_true rfl⟩ ⟨by show _ ≤ (600086 : Nat); omega, by show _ ≤ (7301441 : Nat); omega⟩ (fun _ => rfl) rfl (fun r54 M54 _ => ?_)
          refine hz_istore (L' := [(10, .int r54), (16, .int r53), (15, .int r52), (14, .int r51), (12, .long r10), (11, .int z127_0), (0, .ref b), (1, .ref (adr 12 0)), (2, .int y127_2), (3, .int k50_3), (4, .int y127_4), (5, .int y127_5), (6, .int y127_6), (7, .int y127_7), (8, .int y127_8), (9, .int y127_9)]) (n := 505) hC dL_law_503 (by decide) rfl rfl ?_
          refine hz_iload (a := 0) (n := 507) hC dL_law_505 rfl rfl ?_
          refine hz_iload (a := 3) (n := 509) hC dL_law_507 rfl rfl ?_
          refine hz_iconst (v := (5 : Int32)) (n := 510) hC dL_law_509 (by decide +kernel) rfl ?_
          refine hz_icmp_ne (tgt := 518) (n := 513) hC dL_law_510 (by decide) rfl (fun _ => ?_) (fun _ => ?_)
          · refine hz_bipush (v := (-5 : Int32)) (n := 515) hC dL_law_513 (by decide +kernel) rfl ?_
            refine hz_goto (n := 520) hC dL_law_515 (by decide) ?_
            refine hz_L (L' := [(0, .ref b), (1, .ref (adr 12 0)), (2, .int y127_2), (3, .int k50_3), (4, .int y127_4), (5, .int y127_5), (6, .int y127_6), (7, .int y127_7), (9, .int y127_9), (10, .int r54), (12, .long r10), (14, .int r51), (15, .int r52), (16, .int r53)]) [6, 7, 8, 9, 10, 11, 12, 13, 15, 0, 4, 3, 2, 1] rfl ?_
            exact j520 _ _ _ _ _ _ _ _ _ _ _ _ _ _
          · refine hz_iload (a := 3) (n := 520) hC dL_law_518 rfl rfl ?_
            refine hz_L (L' := [(0, .ref b), (1, .ref (adr 12 0)), (2, .int y127_2), (3, .int k50_3), (4, .int y127_4), (5, .int y127_5), (6, .int y127_6), (7, .int y127_7), (9, .int y127_9), (10, .int r54), (12, .long r10), (14, .int r51), (15, .int r52), (16, .int r53)]) [6, 7, 8, 9, 10, 11, 12, 13, 15, 0, 4, 3, 2, 1] rfl ?_
            exact j520 _ _ _ _ _ _ _ _ _ _ _ _ _ _
        refine hz_case (fun hk8 => ?_) (fun hk8 => ?_)
        · refine hz_tabIn (n := 654) hC hk8 dL_law_140 (by decide +kernel) (by decide +kernel) (by rfl) (by decide +kernel) ?_
          refine hz_iconst (v := (1 : Int32)) (n := 655) hC dL_law_654 (by decide +kernel) rfl ?_
          refine hz_iload (a := 9) (n := 657) hC dL_law_655 rfl rfl ?_
          refine hz_bipush (v := (40 : Int32)) (n := 659) hC dL_law_657 (by decide +kernel) rfl ?_
          refine hz_irem (n := 660) hC dL_law_659 rfl (fun _ => ?_)
          refine hz_iadd (n := 661) hC dL_law_660 rfl ?_
          refine hz_istore (L' := [(14, .int ((1 : Int32) + (y127_7 - y127_7 / (40 : Int32) * (40 : Int32)))), (12, .long r10), (11, .int z127_0), (0, .ref b), (1, .ref (adr 12 0)), (2, .int y127_2), (3, .int k50_3), (4, .int y127_4), (5, .int y127_5), (6, .int y127_6), (7, .int y127_7), (8, .int y127_8), (9, .int y127_9), (10, .int y127_10)]) (n := 663) hC dL_law_661 (by decide) rfl rfl ?_
          refine hz_aload_n (a := 4) (n := 664) hC dL_law_663 rfl rfl rfl ?_
          refine hz_iload (a := 9) (n := 666) hC dL_law_664 rfl rfl ?_
          refine hz_bipush (v := (6 : Int32)) (n := 668) hC dL_law_666 (by decide +kernel) rfl ?_
          refine hz_callV (k := 2) (As := [.int y127_6, .int (6 : Int32)]) (st := []) (S1 := fun r => .int r :: []) (n := 671) hC (c_X8_flat l y127_6 (6 : Int32)   M10) kv_X8_flat wd_3_181 hI dL_law_668 rfl (hI.2 0 (by decide)) he_X8 rfl rfl rfl (Nat.le_of_ble_eq_true rfl) ⟨Nat.le_of_ble_eq_true rfl, Nat.le_of_ble_eq_true rfl⟩ ⟨by show _ ≤ (600086 : Nat); omega, by show _ ≤ (7301441 : Nat); omega⟩ (fun _ => rfl) rfl (fun r55 M55 _ => ?_)
          refine hz_istore (L' := [(15, .int r55), (14, .int ((1 : Int32) + (y127_7 - y127_7 / (40 : Int32) * (40 : Int32)))), (12, .long r10), (11, .int z127_0), (0, .ref b), (1, .ref (adr 12 0)), (2, .int y127_2), (3, .int k50_3), (4, .int y127_4), (5, .int y127_5), (6, .int y127_6), (7, .int y127_7), (8, .int y127_8), (9, .int y127_9), (10, .int y127_10)]) (n := 673) hC dL_law_671 (by decide) rfl rfl ?_
          refine hz_aload_n (a := 5) (n := 674) hC dL_law_673 rfl rfl rfl ?_
          refine hz_iload (a := 10) (n := 676) hC dL_law_674 rfl rfl ?_
          refine hz_iload (a := 1) (n := 678) hC dL_law_676 rfl rfl ?_
          refine hz_callV (k := 2) (As := [.int y127_6, .int ((1 : Int32) + (y127_7 - y127_7 / (40 : Int32) * (40 : Int32)))]) (st := []) (S1 := fun r => .int r :: []) (n := 681) hC (c_X8_pay l y127_6 ((1 : Int32) + (y127_7 - y127_7 / (40 : Int32) * (40 : Int32)))   M55) kv_X8_pay wd_4_33 hI dL_law_678 rfl (hI.2 0 (by decide)) he_X8 rfl rfl rfl (Nat.le_of_ble_eq_true rfl) ⟨Nat.le_of_ble_eq_true rfl, Nat.le_of_ble_eq_true rfl⟩ ⟨by show _ ≤ (600086 : Nat); omega, by show _ ≤ (7301441 : Nat); omega⟩ (fun _ => rfl) rfl (fun r56 M56 _ => ?_)
          refine hz_istore (L' := [(10, .int r56), (15, .int r55), (14, .int ((1 : Int32) + (y127_7 - y127_7 / (40 : Int32) * (40 : Int32)))), (12, .long r10), (11, .int z127_0), (0, .ref b), (1, .ref (adr 12 0)), (2, .int y127_2), (3, .int k50_3), (4, .int y127_4), (5, .int y127_5), (6, .int y127_6), (7, .int y127_7), (8, .int y127_8), (9, .int y127_9)]) (n := 683) hC dL_law_681 (by decide) rfl rfl ?_
          refine hz_iload (a := 0) (n := 685) hC dL_law_683 rfl rfl ?_
          refine hz_iload (a := 2) (n := 687) hC dL_law_685 rfl rfl ?_
          refine hz_iload (a := 1) (n := 689) hC dL_law_687 rfl rfl ?_
          refine hz_icmp_le (tgt := 697) (n := 692) hC dL_law_689 (by decide) rfl (fun _ => ?_) (fun _ => ?_)
          · refine hz_iload (a := 1) (n := 699) hC dL_law_697 rfl rfl ?_
            refine hz_iload (a := 2) (n := 701) hC dL_law_699 rfl rfl ?_
            refine hz_isub (n := 702) hC dL_law_701 rfl ?_
            refine hz_L (L' := [(0, .ref b), (1, .ref (adr 12 0)), (2, .int y127_2), (3, .int k50_3), (4, .int y127_4), (5, .int y127_5), (10, .int r56), (12, .long r10)]) [5, 6, 7, 8, 9, 10, 0, 3] rfl ?_
            exact j702 _ _ _ _ _ _ _ _
          · refine hz_bipush (v := (-6 : Int32)) (n := 694) hC dL_law_692 (by decide +kernel) rfl ?_
            refine hz_goto (n := 702) hC dL_law_694 (by decide) ?_
            refine hz_L (L' := [(0, .ref b), (1, .ref (adr 12 0)), (2, .int y127_2), (3, .int k50_3), (4, .int y127_4), (5, .int y127_5), (10, .int r56), (12, .long r10)]) [5, 6, 7, 8, 9, 10, 0, 3] rfl ?_
            exact j702 _ _ _ _ _ _ _ _
        refine hz_case (fun hk9 => ?_) (fun hk9 => ?_)
        · refine hz_tabIn (n := 707) hC hk9 dL_law_140 (by decide +kernel) (by decide +kernel) (by rfl) (by decide +kernel) ?_
          refine hz_aload_n (a := 3) (n := 708) hC dL_law_707 rfl rfl rfl ?_
          refine hz_iload (a := 8) (n := 710) hC dL_law_708 rfl rfl ?_
          refine hz_iconst (v := (1 : Int32)) (n := 711) hC dL_law_710 (by decide +kernel) rfl ?_
          refine hz_callV (k := 2) (As := [.int y127_6, .int (1 : Int32)]) (st := []) (S1 := fun r => .int r :: []) (n := 714) hC (c_X8_flat l y127_6 (1 : Int32)   M10) kv_X8_flat wd_3_181 hI dL_law_711 rfl (hI.2 0 (by decide)) he_X8 rfl rfl rfl (Nat.le_of_ble_eq_true rfl) ⟨Nat.le_of_ble_eq_true rfl, Nat.le_of_ble_eq_true rfl⟩ ⟨by show _ ≤ (600086 : Nat); omega, by show _ ≤ (7301441 : Nat); omega⟩ (fun _ => rfl) rfl (fun r57 M57 _ => ?_)
          refine hz_iconst (v := (1 : Int32)) (n := 715) hC dL_law_714 (by decide +kernel) rfl ?_
          refine hz_icmp_ne (tgt := 722) (n := 718) hC dL_law_715 (by decide) rfl (fun _ => ?_) (fun _ => ?_)
          · refine hz_iconst (v := (1 : Int32)) (n := 719) hC dL_law_718 (by decide +kernel) rfl ?_
            refine hz_goto (n := 723) hC dL_law_719 (by decide) ?_
            refine hz_L (L' := [(0, .ref b), (1, .ref (adr 12 0)), (2, .int y127_2), (3, .int k50_3), (4, .int y127_4), (5, .int y127_5), (6, .int y127_6), (7, .int y127_7), (10, .int y127_10), (12, .long r10)]) [2, 3, 4, 5, 6, 7, 8, 9, 12, 0] rfl ?_
            exact j723 _ _ _ _ _ _ _ _ _
          · refine hz_iconst (v := (0 : Int32)) (n := 723) hC dL_law_722 (by decide +kernel) rfl ?_
            refine hz_L (L' := [(0, .ref b), (1, .ref (adr 12 0)), (2, .int y127_2), (3, .int k50_3), (4, .int y127_4), (5, .int y127_5), (6, .int y127_6), (7, .int y127_7), (10, .int y127_10), (12, .long r10)]) [2, 3, 4, 5, 6, 7, 8, 9, 12, 0] rfl ?_
            exact j723 _ _ _ _ _ _ _ _ _
        refine hz_case (fun hk10 => ?_) (fun hk10 => ?_)
        · refine hz_tabIn (n := 781) hC hk10 dL_law_140 (by decide +kernel) (by decide +kernel) (by rfl) (by decide +kernel) ?_
          refine hz_iload (a := 9) (n := 783) hC dL_law_781 rfl rfl ?_
          refine hz_bipush (v := (6 : Int32)) (n := 785) hC dL_law_783 (by decide +kernel) rfl ?_
          refine hz_irem (n := 786) hC dL_law_785 rfl (fun _ => ?_)
          refine hz_istore (L' := [(14, .int (y127_7 - y127_7 / (6 : Int32) * (6 : Int32))), (12, .long r10), (11, .int z127_0), (0, .ref b), (1, .ref (adr 12 0)), (2, .int y127_2), (3, .int k50_3), (4, .int y127_4), (5, .int y127_5), (6, .int y127_6), (7, .int y127_7), (8, .int y127_8), (9, .int y127_9), (10, .int y127_10)]) (n := 788) hC dL_law_786 (by decide) rfl rfl ?_
          refine hz_iload (a := 0) (n := 790) hC dL_law_788 rfl rfl ?_
          refine hz_if_ne (tgt := 804) (n := 793) hC dL_law_790 (by decide) rfl (fun _ => ?_) (fun _ => ?_)
          · refine hz_iload (a := 10) (n := 795) hC dL_law_793 rfl rfl ?_
            refine hz_bipush (v := (6 : Int32)) (n := 797) hC dL_law_795 (by decide +kernel) rfl ?_
            refine hz_idiv (n := 798) hC dL_law_797 rfl (fun _ => ?_)
            refine hz_bipush (v := (61 : Int32)) (n := 800) hC dL_law_798 (by decide +kernel) rfl ?_
            refine hz_irem (n := 801) hC dL_law_800 rfl (fun _ => ?_)
            refine hz_goto (n := 884) hC dL_law_801 (by decide) ?_
            refine hz_L (L' := [(0, .ref b), (1, .ref (adr 12 0)), (2, .int y127_2), (3, .int k50_3), (4, .int y127_4), (5, .int y127_5), (12, .long r10), (14, .int (y127_7 - y127_7 / (6 : Int32) * (6 : Int32)))]) [3, 4, 5, 6, 7, 8, 1, 0] rfl ?_
            exact j884 _ _ _ _ _ _ _
          · refine hz_iload (a := 0) (n := 806) hC dL_law_804 rfl rfl ?_
            refine hz_iconst (v := (1 : Int32)) (n := 807) hC dL_law_806 (by decide +kernel) rfl ?_
            refine hz_icmp_ne (tgt := 823) (n := 810) hC dL_law_807 (by decide) rfl (fun _ => ?_) (fun _ => ?_)
            · refine hz_iconst (v := (1 : Int32)) (n := 811) hC dL_law_810 (by decide +kernel) rfl ?_
              refine hz_iload (a := 10) (n := 813) hC dL_law_811 rfl rfl ?_
              refine hz_bipush (v := (6 : Int32)) (n := 815) hC dL_law_813 (by decide +kernel) rfl ?_
              refine hz_idiv (n := 816) hC dL_law_815 rfl (fun _ => ?_)
              refine hz_bipush (v := (30 : Int32)) (n := 818) hC dL_law_816 (by decide +kernel) rfl ?_
              refine hz_irem (n := 819) hC dL_law_818 rfl (fun _ => ?_)
              refine hz_iadd (n := 820) hC dL_law_819 rfl ?_
              refine hz_goto (n := 884) hC dL_law_820 (by decide) ?_
              refine hz_L (L' := [(0, .ref b), (1, .ref (adr 12 0)), (2, .int y127_2), (3, .int k50_3), (4, .int y127_4), (5, .int y127_5), (12, .long r10), (14, .int (y127_7 - y127_7 / (6 : Int32) * (6 : Int32)))]) [3, 4, 5, 6, 7, 8, 1, 0] rfl ?_
              exact j884 _ _ _ _ _ _ _
            · refine hz_iload (a := 0) (n := 825) hC dL_law_823 rfl rfl ?_
              refine hz_iconst (v := (2 : Int32)) (n := 826) hC dL_law_825 (by decide +kernel) rfl ?_
              refine hz_icmp_ne (tgt := 840) (n := 829) hC dL_law_826 (by decide) rfl (fun _ => ?_) (fun _ => ?_)
              · refine hz_iload (a := 10) (n := 831) hC dL_law_829 rfl rfl ?_
                refine hz_bipush (v := (6 : Int32)) (n := 833) hC dL_law_831 (by decide +kernel) rfl ?_
                refine hz_idiv (n := 834) hC dL_law_833 rfl (fun _ => ?_)
                refine hz_bipush (v := (100 : Int32)) (n := 836) hC dL_law_834 (by decide +kernel) rfl ?_
                refine hz_irem (n := 837) hC dL_law_836 rfl (fun _ => ?_)
                refine hz_goto (n := 884) hC dL_law_837 (by decide) ?_
                refine hz_L (L' := [(0, .ref b), (1, .ref (adr 12 0)), (2, .int y127_2), (3, .int k50_3), (4, .int y127_4), (5, .int y127_5), (12, .long r10), (14, .int (y127_7 - y127_7 / (6 : Int32) * (6 : Int32)))]) [3, 4, 5, 6, 7, 8, 1, 0] rfl ?_
                exact j884 _ _ _ _ _ _ _
              · refine hz_iload (a := 0) (n := 842) hC dL_law_840 rfl rfl ?_
                refine hz_iconst (v := (3 : Int32)) (n := 843) hC dL_law_842 (by decide +kernel) rfl ?_
                refine hz_icmp_ne (tgt := 857) (n := 846) hC dL_law_843 (by decide) rfl (fun _ => ?_) (fun _ => ?_)
                · refine hz_iload (a := 10) (n := 848) hC dL_law_846 rfl rfl ?_
                  refine hz_bipush (v := (6 : Int32)) (n := 850) hC dL_law_848 (by decide +kernel) rfl ?_
                  refine hz_idiv (n := 851) hC dL_law_850 rfl (fun _ => ?_)
                  refine hz_bipush (v := (10 : Int32)) (n := 853) hC dL_law_851 (by decide +kernel) rfl ?_
                  refine hz_irem (n := 854) hC dL_law_853 rfl (fun _ => ?_)
                  refine hz_goto (n := 884) hC dL_law_854 (by decide) ?_
                  refine hz_L (L' := [(0, .ref b), (1, .ref (adr 12 0)), (2, .int y127_2), (3, .int k50_3), (4, .int y127_4), (5, .int y127_5), (12, .long r10), (14, .int (y127_7 - y127_7 / (6 : Int32) * (6 : Int32)))]) [3, 4, 5, 6, 7, 8, 1, 0] rfl ?_
                  exact j884 _ _ _ _ _ _ _
                · refine hz_iload (a := 0) (n := 859) hC dL_law_857 rfl rfl ?_
                  refine hz_iconst (v := (4 : Int32)) (n := 860) hC dL_law_859 (by decide +kernel) rfl ?_
                  refine hz_icmp_ne (tgt := 876) (n := 863) hC dL_law_860 (by decide) rfl (fun _ => ?_) (fun _ => ?_)
                  · refine hz_iconst (v := (1 : Int32)) (n := 864) hC dL_law_863 (by decide +kernel) rfl ?_
                    refine hz_iload (a := 10) (n := 866) hC dL_law_864 rfl rfl ?_
                    refine hz_bipush (v := (6 : Int32)) (n := 868) hC dL_law_866 (by decide +kernel) rfl ?_
                    refine hz_idiv (n := 869) hC dL_law_868 rfl (fun _ => ?_)
                    refine hz_bipush (v := (99 : Int32)) (n := 871) hC dL_law_869 (by decide +kernel) rfl ?_
                    refine hz_irem (n := 872) hC dL_law_871 rfl (fun _ => ?_)
                    refine hz_iadd (n := 873) hC dL_law_872 rfl ?_
                    refine hz_goto (n := 884) hC dL_law_873 (by decide) ?_
                    refine hz_L (L' := [(0, .ref b), (1, .ref (adr 12 0)), (2, .int y127_2), (3, .int k50_3), (4, .int y127_4), (5, .int y127_5), (12, .long r10), (14, .int (y127_7 - y127_7 / (6 : Int32) * (6 : Int32)))]) [3, 4, 5, 6, 7, 8, 1, 0] rfl ?_
                    exact j884 _ _ _ _ _ _ _
                  · refine hz_iload (a := 10) (n := 878) hC dL_law_876 rfl rfl ?_
                    refine hz_bipush (v := (6 : Int32)) (n := 880) hC dL_law_878 (by decide +kernel) rfl ?_
                    refine hz_idiv (n := 881) hC dL_law_880 rfl (fun _ => ?_)
                    refine hz_bipush (v := (21 : Int32)) (n := 883) hC dL_law_881 (by decide +kernel) rfl ?_
                    refine hz_irem (n := 884) hC dL_law_883 rfl (fun _ => ?_)
                    refine hz_L (L' := [(0, .ref b), (1, .ref (adr 12 0)), (2, .int y127_2), (3, .int k50_3), (4, .int y127_4), (5, .int y127_5), (12, .long r10), (14, .int (y127_7 - y127_7 / (6 : Int32) * (6 : Int32)))]) [3, 4, 5, 6, 7, 8, 1, 0] rfl ?_
                    exact j884 _ _ _ _ _ _ _
        refine hz_tabOut (n := 924) hC (hp_out 11 (by decide) (fun k hk => by
          rcases (show k = 0 ∨ k = 1 ∨ k = 2 ∨ k = 3 ∨ k = 4 ∨ k = 5 ∨ k = 6 ∨ k = 7 ∨ k = 8 ∨ k = 9 ∨ k = 10 by omega) with rfl | rfl | rfl | rfl | rfl | rfl | rfl | rfl | rfl | rfl | rfl
          · exact fun e => hk0 (Int32.toInt_inj.mp (e.trans (by decide +kernel)))
          · exact fun e => hk1 (Int32.toInt_inj.mp (e.trans (by decide +kernel)))
          · exact fun e => hk2 (Int32.toInt_inj.mp (e.trans (by decide +kernel)))
          · exact fun e => hk3 (Int32.toInt_inj.mp (e.trans (by decide +kernel)))
          · exact fun e => hk4 (Int32.toInt_inj.mp (e.trans (by decide +kernel)))
          · exact fun e => hk5 (Int32.toInt_inj.mp (e.trans (by decide +kernel)))
          · exact fun e => hk6 (Int32.toInt_inj.mp (e.trans (by decide +kernel)))
          · exact fun e => hk7 (Int32.toInt_inj.mp (e.trans (by decide +kernel)))
          · exact fun e => hk8 (Int32.toInt_inj.mp (e.trans (by decide +kernel)))
          · exact fun e => hk9 (Int32.toInt_inj.mp (e.trans (by decide +kernel)))
          · exact fun e => hk10 (Int32.toInt_inj.mp (e.trans (by decide +kernel)))
          )) dL_law_140 (by decide +kernel) ?_
        refine hz_iconst (v := (1 : Int32)) (n := 925) hC dL_law_924 (by decide +kernel) rfl ?_
        refine hz_iload (a := 9) (n := 927) hC dL_law_925 rfl rfl ?_
        refine hz_bipush (v := (30 : Int32)) (n := 929) hC dL_law_927 (by decide +kernel) rfl ?_
        refine hz_irem (n := 930) hC dL_law_929 rfl (fun _ => ?_)
        refine hz_iadd (n := 931) hC dL_law_930 rfl ?_
        refine hz_istore (L' := [(14, .int ((1 : Int32) + (y127_7 - y127_7 / (30 : Int32) * (30 : Int32)))), (12, .long r10), (11, .int z127_0), (0, .ref b), (1, .ref (adr 12 0)), (2, .int y127_2), (3, .int k50_3), (4, .int y127_4), (5, .int y127_5), (6, .int y127_6), (7, .int y127_7), (8, .int y127_8), (9, .int y127_9), (10, .int y127_10)]) (n := 933) hC dL_law_931 (by decide) rfl rfl ?_
        refine hz_aload_n (a := 4) (n := 934) hC dL_law_933 rfl rfl rfl ?_
        refine hz_iconst (v := (1 : Int32)) (n := 935) hC dL_law_934 (by decide +kernel) rfl ?_
        refine hz_callV (k := 1) (As := [.int (1 : Int32)]) (st := []) (S1 := fun r => .int r :: []) (n := 938) hC (c_X8_size l (1 : Int32)   M10) kv_X8_size wd_3_151 hI dL_law_935 rfl (hI.2 0 (by decide)) he_X8 rfl rfl rfl (Nat.le_of_ble_eq_true rfl) ⟨Nat.le_of_ble_eq_true rfl, Nat.le_of_ble_eq_true rfl⟩ ⟨by show _ ≤ (600086 : Nat); omega, by show _ ≤ (7301441 : Nat); omega⟩ (fun _ => rfl) rfl (fun r63 M63 _ => ?_)
        refine hz_istore (L' := [(15, .int r63), (14, .int ((1 : Int32) + (y127_7 - y127_7 / (30 : Int32) * (30 : Int32)))), (12, .long r10), (11, .int z127_0), (0, .ref b), (1, .ref (adr 12 0)), (2, .int y127_2), (3, .int k50_3), (4, .int y127_4), (5, .int y127_5), (6, .int y127_6), (7, .int y127_7), (8, .int y127_8), (9, .int y127_9), (10, .int y127_10)]) (n := 940) hC dL_law_938 (by decide) rfl rfl ?_
        refine hz_aload_n (a := 5) (n := 941) hC dL_law_940 rfl rfl rfl ?_
        refine hz_iconst (v := (1 : Int32)) (n := 942) hC dL_law_941 (by decide +kernel) rfl ?_
        refine hz_callV (k := 1) (As := [.int (1 : Int32)]) (st := []) (S1 := fun r => .int r :: []) (n := 945) hC (c_X8_account l (1 : Int32)   M63) kv_X8_account wd_3_233 hI dL_law_942 rfl (hI.2 0 (by decide)) he_X8 rfl rfl rfl (Nat.le_of_ble_eq_true rfl) ⟨Nat.le_of_ble_eq_true rfl, Nat.le_of_ble_eq_true rfl⟩ ⟨by show _ ≤ (600086 : Nat); omega, by show _ ≤ (7301441 : Nat); omega⟩ (fun _ => rfl) rfl (fun r64 M64 _ => ?_)
        refine hz_istore (L' := [(16, .int r64), (15, .int r63), (14, .int ((1 : Int32) + (y127_7 - y127_7 / (30 : Int32) * (30 : Int32)))), (12, .long r10), (11, .int z127_0), (0, .ref b), (1, .ref (adr 12 0)), (2, .int y127_2), (3, .int k50_3), (4, .int y127_4), (5, .int y127_5), (6, .int y127_6), (7, .int y127_7), (8, .int y127_8), (9, .int y127_9), (10, .int y127_10)]) (n := 947) hC dL_law_945 (by decide) rfl rfl ?_
        refine hz_aload_n (a := 6) (n := 948) hC dL_law_947 rfl rfl rfl ?_
        refine hz_iload (a := 2) (n := 950) hC dL_law_948 rfl rfl ?_
        refine hz_callV (k := 1) (As := [.int ((1 : Int32) + (y127_7 - y127_7 / (30 : Int32) * (30 : Int32)))]) (st := []) (S1 := fun r => .int r :: []) (n := 953) hC (c_X8_pass l ((1 : Int32) + (y127_7 - y127_7 / (30 : Int32) * (30 : Int32)))   M64) kv_X8_pass wd_4_54 hI dL_law_950 rfl (hI.2 0 (by decide)) he_X8 rfl rfl rfl (Nat.le_of_ble_eq_true rfl) ⟨Nat.le_of_ble_eq_true rfl, Nat.le_of_ble_eq_true rfl⟩ ⟨by show _ ≤ (600086 : Nat); omega, by show _ ≤ (7301441 : Nat); omega⟩ (fun _ => rfl) rfl (fun r65 M65 _ => ?_)
        refine hz_istore (L' := [(10, .int r65), (16, .int r64), (15, .int r63), (14, .int ((1 : Int32) + (y127_7 - y127_7 / (30 : Int32) * (30 : Int32)))), (12, .long r10), (11, .int z127_0), (0, .ref b), (1, .ref (adr 12 0)), (2, .int y127_2), (3, .int k50_3), (4, .int y127_4), (5, .int y127_5), (6, .int y127_6), (7, .int y127_7), (8, .int y127_8), (9, .int y127_9)]) (n := 955) hC dL_law_953 (by decide) rfl rfl ?_
        refine hz_aload_n (a := 7) (n := 956) hC dL_law_955 rfl rfl rfl ?_
        refine hz_iconst (v := (1 : Int32)) (n := 957) hC dL_law_956 (by decide +kernel) rfl ?_
        refine hz_callV (k := 1) (As := [.int (1 : Int32)]) (st := []) (S1 := fun r => .int r :: []) (n := 960) hC (c_X8_size l (1 : Int32)   M65) kv_X8_size wd_3_151 hI dL_law_957 rfl (hI.2 0 (by decide)) he_X8 rfl rfl rfl (Nat.le_of_ble_eq_true rfl) ⟨Nat.le_of_ble_eq_true rfl, Nat.le_of_ble_eq_true rfl⟩ ⟨by show _ ≤ (600086 : Nat); omega, by show _ ≤ (7301441 : Nat); omega⟩ (fun _ => rfl) rfl (fun r66 M66 _ => ?_)
        refine hz_iload (a := 2) (n := 962) hC dL_law_960 rfl rfl ?_
        refine hz_iload (a := 3) (n := 964) hC dL_law_962 rfl rfl ?_
        refine hz_iadd (n := 965) hC dL_law_964 rfl ?_
        refine hz_icmp_ne (tgt := 998) (n := 968) hC dL_law_965 (by decide) rfl (fun _ => ?_) (fun _ => ?_)
        · refine hz_iload (a := 0) (n := 970) hC dL_law_968 rfl rfl ?_
          refine hz_aload_n (a := 7) (n := 971) hC dL_law_970 rfl rfl rfl ?_
          refine hz_iconst (v := (1 : Int32)) (n := 972) hC dL_law_971 (by decide +kernel) rfl ?_
          refine hz_callV (k := 1) (As := [.int (1 : Int32)]) (st := [.int r65]) (S1 := fun r => .int r :: [.int r65]) (n := 975) hC (c_X8_account l (1 : Int32)   M66) kv_X8_account wd_3_233 hI dL_law_972 rfl (hI.2 0 (by decide)) he_X8 rfl rfl rfl (Nat.le_of_ble_eq_true rfl) ⟨Nat.le_of_ble_eq_true rfl, Nat.le_of_ble_eq_true rfl⟩ ⟨by show _ ≤ (600086 : Nat); omega, by show _ ≤ (7301441 : Nat); omega⟩ (fun _ => rfl) rfl (fun r67 M67 _ => ?_)
          refine hz_iload (a := 1) (n := 977) hC dL_law_975 rfl rfl ?_
          refine hz_isub (n := 978) hC dL_law_977 rfl ?_
          refine hz_icmp_ne (tgt := 998) (n := 981) hC dL_law_978 (by decide) rfl (fun _ => ?_) (fun _ => ?_)
          · refine hz_aload_n (a := 7) (n := 982) hC dL_law_981 rfl rfl rfl ?_
            refine hz_iconst (v := (2 : Int32)) (n := 983) hC dL_law_982 (by decide +kernel) rfl ?_
            refine hz_callV (k := 1) (As := [.int (2 : Int32)]) (st := []) (S1 := fun r => .int r :: []) (n := 986) hC (c_X8_size l (2 : Int32)   M67) kv_X8_size wd_3_151 hI dL_law_983 rfl (hI.2 0 (by decide)) he_X8 rfl rfl rfl (Nat.le_of_ble_eq_true rfl) ⟨Nat.le_of_ble_eq_true rfl, Nat.le_of_ble_eq_true rfl⟩ ⟨by show _ ≤ (600086 : Nat); omega, by show _ ≤ (7301441 : Nat); omega⟩ (fun _ => rfl) rfl (fun r68 M68 _ => ?_)
            refine hz_if_ne (tgt := 1000) (n := 989) hC dL_law_986 (by decide) rfl (fun _ => ?_) (fun _ => ?_)
            · refine hz_aload_n (a := 7) (n := 990) hC dL_law_989 rfl rfl rfl ?_
              refine hz_bipush (v := (7 : Int32)) (n := 992) hC dL_law_990 (by decide +kernel) rfl ?_
              refine hz_callV (k := 1) (As := [.int (7 : Int32)]) (st := []) (S1 := fun r => .int r :: []) (n := 995) hC (c_X8_size l (7 : Int32)   M68) kv_X8_size wd_3_151 hI dL_law_992 rfl (hI.2 0 (by decide)) he_X8 rfl rfl rfl (Nat.le_of_ble_eq_true rfl) ⟨Nat.le_of_ble_eq_true rfl, Nat.le_of_ble_eq_true rfl⟩ ⟨by show _ ≤ (600086 : Nat); omega, by show _ ≤ (7301441 : Nat); omega⟩ (fun _ => rfl) rfl (fun r69 M69 _ => ?_)
              refine hz_if_le (tgt := 1000) (n := 998) hC dL_law_995 (by decide) rfl (fun _ => ?_) (fun _ => ?_)
              · refine hz_L (L' := [(0, .ref b), (1, .ref (adr 12 0)), (2, .int y127_2), (3, .int k50_3), (4, .int y127_4), (5, .int y127_5), (10, .int r65), (12, .long r10)]) [6, 7, 8, 9, 10, 11, 0, 4] rfl ?_
                exact j1000 _ _ _ _ _ _
              · exact hz_none hC
            · refine hz_L (L' := [(0, .ref b), (1, .ref (adr 12 0)), (2, .int y127_2), (3, .int k50_3), (4, .int y127_4), (5, .int y127_5), (10, .int r65), (12, .long r10)]) [6, 7, 8, 9, 10, 11, 0, 4] rfl ?_
              exact j1000 _ _ _ _ _ _
          · exact hz_none hC
        · exact hz_none hC
      have j126 : ∀ (y126_2 : Int32) (y126_4 : Int32) (y126_5 : Int32) (y126_6 : Int32) (y126_7 : Int32) (y126_8 : Int32) (y126_9 : Int32) (y126_10 : Int32) (M : hp_M), hp_Z p l e room_1 s m args below meth c 17 A D ids adr adV cA cells slots Q G0 none 126 [(0, .ref b), (1, .ref (adr 12 0)), (2, .int y126_2), (3, .int k50_3), (4, .int y126_4), (5, .int y126_5), (6, .int y126_6), (7, .int y126_7), (8, .int y126_8), (9, .int y126_9), (10, .int y126_10)] [] M (A_L_law_126 N xs (L_L_law_50 N xs k50_3 n50) y126_2 k50_3 y126_4 y126_5 y126_6 y126_7 y126_8 y126_9 y126_10 M) := by
        intro y126_2 y126_4 y126_5 y126_6 y126_7 y126_8 y126_9 y126_10 M
        unfold A_L_law_126
        refine hz_iconst (v := (0 : Int32)) (n := 127) hC dL_law_126 (by decide +kernel) rfl ?_
        exact j127 _ _ _ _ _ _ _ _ _ _
      refine hz_iload (a := 4) (n := 52) hC dL_law_50 rfl rfl ?_
      refine hz_bipush (v := (10 : Int32)) (n := 54) hC dL_law_52 (by decide +kernel) rfl ?_
      refine hz_icmp_gt (tgt := 1109) (n := 57) hC dL_law_54 (by decide) rfl (fun _ => ?_) (fun _ => ?_)
      · refine hz_iconst (v := (1 : Int32)) (n := 1110) hC dL_law_1109 (by decide +kernel) rfl ?_
        exact fun H locs ls _ _ hS _ => hE H locs ls hS
      · refine hz_aload_n (a := 0) (n := 58) hC dL_law_57 rfl rfl rfl ?_
        refine hz_iload (a := 4) (n := 60) hC dL_law_58 rfl rfl ?_
        refine hz_callSS (k := 2) (As := [.ref b, .int x4]) (st := []) (S1 := fun r => .int r :: []) (n := 63) hC hX hbl hbA (c_L_cell l b N xs x4 M) ks_L_cell wd_4_86 hI dL_law_60 rfl rfl rfl (Nat.le_of_ble_eq_true rfl) ⟨Nat.le_of_ble_eq_true rfl, Nat.le_of_ble_eq_true rfl⟩ ⟨by show _ ≤ (600086 : Nat); omega, by show _ ≤ (7301441 : Nat); omega⟩ (fun _ => rfl) rfl (fun r6 M6 _ => ?_)
        refine hz_istore (L' := [(5, .int r6), (0, .ref b), (1, .ref (adr 12 0)), (2, .int x2), (3, .int k50_3), (4, .int x4)]) (n := 65) hC dL_law_63 (by decide) rfl rfl ?_
        refine hz_iload (a := 0) (n := 67) hC dL_law_65 rfl rfl ?_
        refine hz_iconst (v := (4 : Int32)) (n := 68) hC dL_law_67 (by decide +kernel) rfl ?_
        refine hz_iushr (n := 69) hC dL_law_68 rfl rfl ?_
        refine hz_bipush (v := (15 : Int32)) (n := 71) hC dL_law_69 (by decide +kernel) rfl ?_
        refine hz_iand (n := 72) hC dL_law_71 rfl ?_
        refine hz_iload_n (a := 4) (n := 73) hC dL_law_72 rfl rfl rfl ?_
        refine hz_irem (n := 74) hC dL_law_73 rfl (fun _ => ?_)
        refine hz_istore (L' := [(6, .int ((((r6.toUInt32 >>> ((4 : Int32).toUInt32 &&& Int32.toUInt32 31)).toInt32) &&& (15 : Int32)) - (((r6.toUInt32 >>> ((4 : Int32).toUInt32 &&& Int32.toUInt32 31)).toInt32) &&& (15 : Int32)) / k50_3 * k50_3)), (5, .int r6), (0, .ref b), (1, .ref (adr 12 0)), (2, .int x2), (3, .int k50_3), (4, .int x4)]) (n := 76) hC dL_law_74 (by decide) rfl rfl ?_
        refine hz_iload (a := 1) (n := 78) hC dL_law_76 rfl rfl ?_
        refine hz_bipush (v := (8 : Int32)) (n := 80) hC dL_law_78 (by decide +kernel) rfl ?_
        refine hz_iushr (n := 81) hC dL_law_80 rfl rfl ?_
        refine hz_sipush (v := (1023 : Int32)) (n := 84) hC dL_law_81 (by decide +kernel) rfl ?_
        refine hz_iand (n := 85) hC dL_law_84 rfl ?_
        refine hz_istore (L' := [(7, .int (((r6.toUInt32 >>> ((8 : Int32).toUInt32 &&& Int32.toUInt32 31)).toInt32) &&& (1023 : Int32))), (6, .int ((((r6.toUInt32 >>> ((4 : Int32).toUInt32 &&& Int32.toUInt32 31)).toInt32) &&& (15 : Int32)) - (((r6.toUInt32 >>> ((4 : Int32).toUInt32 &&& Int32.toUInt32 31)).toInt32) &&& (15 : Int32)) / k50_3 * k50_3)), (5, .int r6), (0, .ref b), (1, .ref (adr 12 0)), (2, .int x2), (3, .int k50_3), (4, .int x4)]) (n := 87) hC dL_law_85 (by decide) rfl rfl ?_
        refine hz_aload_n (a := 4) (n := 88) hC dL_law_87 rfl rfl rfl ?_
        refine hz_iload (a := 1) (n := 90) hC dL_law_88 rfl rfl ?_
        refine hz_iconst (v := (2 : Int32)) (n := 91) hC dL_law_90 (by decide +kernel) rfl ?_
        refine hz_callV (k := 2) (As := [.int ((((r6.toUInt32 >>> ((4 : Int32).toUInt32 &&& Int32.toUInt32 31)).toInt32) &&& (15 : Int32)) - (((r6.toUInt32 >>> ((4 : Int32).toUInt32 &&& Int32.toUInt32 31)).toInt32) &&& (15 : Int32)) / k50_3 * k50_3), .int (2 : Int32)]) (st := []) (S1 := fun r => .int r :: []) (n := 94) hC (c_X8_flat l ((((r6.toUInt32 >>> ((4 : Int32).toUInt32 &&& Int32.toUInt32 31)).toInt32) &&& (15 : Int32)) - (((r6.toUInt32 >>> ((4 : Int32).toUInt32 &&& Int32.toUInt32 31)).toInt32) &&& (15 : Int32)) / k50_3 * k50_3) (2 : Int32)   M6) kv_X8_flat wd_3_181 hI dL_law_91 rfl (hI.2 0 (by decide)) he_X8 rfl rfl rfl (Nat.le_of_ble_eq_true rfl) ⟨Nat.le_of_ble_eq_true rfl, Nat.le_of_ble_eq_true rfl⟩ ⟨by show _ ≤ (600086 : Nat); omega, by show _ ≤ (7301441 : Nat); omega⟩ (fun _ => rfl) rfl (fun r7 M7 _ => ?_)
        refine hz_istore (L' := [(8, .int r7), (7, .int (((r6.toUInt32 >>> ((8 : Int32).toUInt32 &&& Int32.toUInt32 31)).toInt32) &&& (1023 : Int32))), (6, .int ((((r6.toUInt32 >>> ((4 : Int32).toUInt32 &&& Int32.toUInt32 31)).toInt32) &&& (15 : Int32)) - (((r6.toUInt32 >>> ((4 : Int32).toUInt32 &&& Int32.toUInt32 31)).toInt32) &&& (15 : Int32)) / k50_3 * k50_3)), (5, .int r6), (0, .ref b), (1, .ref (adr 12 0)), (2, .int x2), (3, .int k50_3), (4, .int x4)]) (n := 96) hC dL_law_94 (by decide) rfl rfl ?_
        refine hz_aload_n (a := 5) (n := 97) hC dL_law_96 rfl rfl rfl ?_
        refine hz_iconst (v := (3 : Int32)) (n := 98) hC dL_law_97 (by decide +kernel) rfl ?_
        refine hz_callV (k := 1) (As := [.int (3 : Int32)]) (st := []) (S1 := fun r => .int r :: []) (n := 101) hC (c_X8_size l (3 : Int32)   M7) kv_X8_size wd_3_151 hI dL_law_98 rfl (hI.2 0 (by decide)) he_X8 rfl rfl rfl (Nat.le_of_ble_eq_true rfl) ⟨Nat.le_of_ble_eq_true rfl, Nat.le_of_ble_eq_true rfl⟩ ⟨by show _ ≤ (600086 : Nat); omega, by show _ ≤ (7301441 : Nat); omega⟩ (fun _ => rfl) rfl (fun r8 M8 _ => ?_)
        refine hz_istore (L' := [(9, .int r8), (8, .int r7), (7, .int (((r6.toUInt32 >>> ((8 : Int32).toUInt32 &&& Int32.toUInt32 31)).toInt32) &&& (1023 : Int32))), (6, .int ((((r6.toUInt32 >>> ((4 : Int32).toUInt32 &&& Int32.toUInt32 31)).toInt32) &&& (15 : Int32)) - (((r6.toUInt32 >>> ((4 : Int32).toUInt32 &&& Int32.toUInt32 31)).toInt32) &&& (15 : Int32)) / k50_3 * k50_3)), (5, .int r6), (0, .ref b), (1, .ref (adr 12 0)), (2, .int x2), (3, .int k50_3), (4, .int x4)]) (n := 103) hC dL_law_101 (by decide) rfl rfl ?_
        refine hz_iconst (v := (0 : Int32)) (n := 104) hC dL_law_103 (by decide +kernel) rfl ?_
        refine hz_istore (L' := [(10, .int (0 : Int32)), (9, .int r8), (8, .int r7), (7, .int (((r6.toUInt32 >>> ((8 : Int32).toUInt32 &&& Int32.toUInt32 31)).toInt32) &&& (1023 : Int32))), (6, .int ((((r6.toUInt32 >>> ((4 : Int32).toUInt32 &&& Int32.toUInt32 31)).toInt32) &&& (15 : Int32)) - (((r6.toUInt32 >>> ((4 : Int32).toUInt32 &&& Int32.toUInt32 31)).toInt32) &&& (15 : Int32)) / k50_3 * k50_3)), (5, .int r6), (0, .ref b), (1, .ref (adr 12 0)), (2, .int x2), (3, .int k50_3), (4, .int x4)]) (n := 106) hC dL_law_104 (by decide) rfl rfl ?_
        refine hz_iload (a := 2) (n := 108) hC dL_law_106 rfl rfl ?_
        refine hz_iconst (v := (1 : Int32)) (n := 109) hC dL_law_108 (by decide +kernel) rfl ?_
        refine hz_icmp_ne (tgt := 126) (n := 112) hC dL_law_109 (by decide) rfl (fun _ => ?_) (fun _ => ?_)
        · refine hz_aload_n (a := 7) (n := 113) hC dL_law_112 rfl rfl rfl ?_
          refine hz_iload (a := 4) (n := 115) hC dL_law_113 rfl rfl ?_
          refine hz_iconst (v := (4 : Int32)) (n := 116) hC dL_law_115 (by decide +kernel) rfl ?_
          refine hz_callV (k := 2) (As := [.int ((((r6.toUInt32 >>> ((4 : Int32).toUInt32 &&& Int32.toUInt32 31)).toInt32) &&& (15 : Int32)) - (((r6.toUInt32 >>> ((4 : Int32).toUInt32 &&& Int32.toUInt32 31)).toInt32) &&& (15 : Int32)) / k50_3 * k50_3), .int (4 : Int32)]) (st := []) (S1 := fun r => .int r :: []) (n := 119) hC (c_X8_flat l ((((r6.toUInt32 >>> ((4 : Int32).toUInt32 &&& Int32.toUInt32 31)).toInt32) &&& (15 : Int32)) - (((r6.toUInt32 >>> ((4 : Int32).toUInt32 &&& Int32.toUInt32 31)).toInt32) &&& (15 : Int32)) / k50_3 * k50_3) (4 : Int32)   M8) kv_X8_flat wd_3_181 hI dL_law_116 rfl (hI.2 0 (by decide)) he_X8 rfl rfl rfl (Nat.le_of_ble_eq_true rfl) ⟨Nat.le_of_ble_eq_true rfl, Nat.le_of_ble_eq_true rfl⟩ ⟨by show _ ≤ (600086 : Nat); omega, by show _ ≤ (7301441 : Nat); omega⟩ (fun _ => rfl) rfl (fun r9 M9 _ => ?_)
          refine hz_if_ne (tgt := 126) (n := 122) hC dL_law_119 (by decide) rfl (fun _ => ?_) (fun _ => ?_)
          · refine hz_iconst (v := (1 : Int32)) (n := 123) hC dL_law_122 (by decide +kernel) rfl ?_
            refine hz_goto (n := 127) hC dL_law_123 (by decide) ?_
            refine hz_L (L' := [(0, .ref b), (1, .ref (adr 12 0)), (2, .int x2), (3, .int k50_3), (4, .int x4), (5, .int r6), (6, .int ((((r6.toUInt32 >>> ((4 : Int32).toUInt32 &&& Int32.toUInt32 31)).toInt32) &&& (15 : Int32)) - (((r6.toUInt32 >>> ((4 : Int32).toUInt32 &&& Int32.toUInt32 31)).toInt32) &&& (15 : Int32)) / k50_3 * k50_3)), (7, .int (((r6.toUInt32 >>> ((8 : Int32).toUInt32 &&& Int32.toUInt32 31)).toInt32) &&& (1023 : Int32))), (8, .int r7), (9, .int r8), (10, .int (0 : Int32))]) [6, 7, 8, 9, 10, 5, 4, 3, 2, 1, 0] rfl ?_
            exact j127 _ _ _ _ _ _ _ _ _ _
          · refine hz_L (L' := [(0, .ref b), (1, .ref (adr 12 0)), (2, .int x2), (3, .int k50_3), (4, .int x4), (5, .int r6), (6, .int ((((r6.toUInt32 >>> ((4 : Int32).toUInt32 &&& Int32.toUInt32 31)).toInt32) &&& (15 : Int32)) - (((r6.toUInt32 >>> ((4 : Int32).toUInt32 &&& Int32.toUInt32 31)).toInt32) &&& (15 : Int32)) / k50_3 * k50_3)), (7, .int (((r6.toUInt32 >>> ((8 : Int32).toUInt32 &&& Int32.toUInt32 31)).toInt32) &&& (1023 : Int32))), (8, .int r7), (9, .int r8), (10, .int (0 : Int32))]) [6, 7, 8, 9, 10, 5, 4, 3, 2, 1, 0] rfl ?_
            exact j126 _ _ _ _ _ _ _ _ _
        · refine hz_L (L' := [(0, .ref b), (1, .ref (adr 12 0)), (2, .int x2), (3, .int k50_3), (4, .int x4), (5, .int r6), (6, .int ((((r6.toUInt32 >>> ((4 : Int32).toUInt32 &&& Int32.toUInt32 31)).toInt32) &&& (15 : Int32)) - (((r6.toUInt32 >>> ((4 : Int32).toUInt32 &&& Int32.toUInt32 31)).toInt32) &&& (15 : Int32)) / k50_3 * k50_3)), (7, .int (((r6.toUInt32 >>> ((8 : Int32).toUInt32 &&& Int32.toUInt32 31)).toInt32) &&& (1023 : Int32))), (8, .int r7), (9, .int r8), (10, .int (0 : Int32))]) [6, 7, 8, 9, 10, 5, 4, 3, 2, 1, 0] rfl ?_
          exact j126 _ _ _ _ _ _ _ _ _
  refine hz_aload_n (a := 1) (n := 9) hC dL_law_8 rfl rfl rfl ?_
  refine hz_aload_n (a := 0) (n := 10) hC dL_law_9 rfl rfl rfl ?_
  refine hz_iconst (v := (0 : Int32)) (n := 11) hC dL_law_10 (by decide +kernel) rfl ?_
  refine hz_callSS (k := 2) (As := [.ref b, .int (0 : Int32)]) (st := [.ref (adr 12 0)]) (S1 := fun r => .int r :: [.ref (adr 12 0)]) (n := 14) hC hX hbl hbA (c_L_cell l b N xs (0 : Int32) M) ks_L_cell wd_4_86 hI dL_law_11 rfl rfl rfl (Nat.le_of_ble_eq_true rfl) ⟨Nat.le_of_ble_eq_true rfl, Nat.le_of_ble_eq_true rfl⟩ ⟨by show _ ≤ (600086 : Nat); omega, by show _ ≤ (7301441 : Nat); omega⟩ (fun _ => rfl) rfl (fun r1 M1 _ => ?_)
  refine hz_ldci (n := 16) hC dL_law_14 wd_4_128 rfl ?_
  refine hz_iand (n := 17) hC dL_law_16 rfl ?_
  refine hz_iconst (v := (3 : Int32)) (n := 18) hC dL_law_17 (by decide +kernel) rfl ?_
  refine hz_irem (n := 19) hC dL_law_18 rfl (fun _ => ?_)
  refine hz_callV (k := 1) (As := [.int ((r1 &&& (2147483647 : Int32)) - (r1 &&& (2147483647 : Int32)) / (3 : Int32) * (3 : Int32))]) (st := []) (S1 := fun r => .int r :: []) (n := 22) hC (c_X8_load l ((r1 &&& (2147483647 : Int32)) - (r1 &&& (2147483647 : Int32)) / (3 : Int32) * (3 : Int32))   M1) kv_X8_load wd_3_75 hI dL_law_19 rfl (hI.2 0 (by decide)) he_X8 rfl rfl rfl (Nat.le_of_ble_eq_true rfl) ⟨Nat.le_of_ble_eq_true rfl, Nat.le_of_ble_eq_true rfl⟩ ⟨by show _ ≤ (600086 : Nat); omega, by show _ ≤ (7301441 : Nat); omega⟩ (fun _ => rfl) rfl (fun r2 M2 _ => ?_)
  refine hz_aload_n (a := 1) (n := 23) hC dL_law_22 rfl rfl rfl ?_
  refine hz_iconst (v := (0 : Int32)) (n := 24) hC dL_law_23 (by decide +kernel) rfl ?_
  refine hz_callV (k := 1) (As := [.int (0 : Int32)]) (st := [.int r2]) (S1 := fun r => .int r :: [.int r2]) (n := 27) hC (c_X8_size l (0 : Int32)   M2) kv_X8_size wd_3_151 hI dL_law_24 rfl (hI.2 0 (by decide)) he_X8 rfl rfl rfl (Nat.le_of_ble_eq_true rfl) ⟨Nat.le_of_ble_eq_true rfl, Nat.le_of_ble_eq_true rfl⟩ ⟨by show _ ≤ (600086 : Nat); omega, by show _ ≤ (7301441 : Nat); omega⟩ (fun _ => rfl) rfl (fun r3 M3 _ => ?_)
  refine hz_icmp_ne (tgt := 37) (n := 30) hC dL_law_27 (by decide) rfl (fun _ => ?_) (fun _ => ?_)
  · refine hz_aload_n (a := 1) (n := 31) hC dL_law_30 rfl rfl rfl ?_
    refine hz_callS (k := 1) (As := [.ref (adr 12 0)]) (st := []) (S1 := fun r => .int r :: []) (n := 34) hC (c_L_holds l    M3) ks_L_holds wd_4_89 hI dL_law_31 rfl rfl rfl (Nat.le_of_ble_eq_true rfl) ⟨Nat.le_of_ble_eq_true rfl, Nat.le_of_ble_eq_true rfl⟩ ⟨by show _ ≤ (600086 : Nat); omega, by show _ ≤ (7301441 : Nat); omega⟩ (fun _ => rfl) rfl (fun r4 M4 _ => ?_)
    refine hz_if_ne (tgt := 39) (n := 37) hC dL_law_34 (by decide) rfl (fun _ => ?_) (fun _ => ?_)
    · exact hz_none hC
    · refine hz_iconst (v := (0 : Int32)) (n := 40) hC dL_law_39 (by decide +kernel) rfl ?_
      refine hz_istore_n (L' := [(2, .int (0 : Int32)), (0, .ref b), (1, .ref (adr 12 0))]) (n := 41) hC dL_law_40 rfl (by decide) rfl rfl ?_
      refine hz_aload_n (a := 2) (n := 42) hC dL_law_41 rfl rfl rfl ?_
      refine hz_iconst (v := (0 : Int32)) (n := 43) hC dL_law_42 (by decide +kernel) rfl ?_
      refine hz_callV (k := 1) (As := [.int (0 : Int32)]) (st := []) (S1 := fun r => .int r :: []) (n := 46) hC (c_X8_size l (0 : Int32)   M4) kv_X8_size wd_3_151 hI dL_law_43 rfl (hI.2 0 (by decide)) he_X8 rfl rfl rfl (Nat.le_of_ble_eq_true rfl) ⟨Nat.le_of_ble_eq_true rfl, Nat.le_of_ble_eq_true rfl⟩ ⟨by show _ ≤ (600086 : Nat); omega, by show _ ≤ (7301441 : Nat); omega⟩ (fun _ => rfl) rfl (fun r5 M5 _ => ?_)
      refine hz_istore_n (L' := [(3, .int r5), (2, .int (0 : Int32)), (0, .ref b), (1, .ref (adr 12 0))]) (n := 47) hC dL_law_46 rfl (by decide) rfl rfl ?_
      refine hz_iconst (v := (1 : Int32)) (n := 48) hC dL_law_47 (by decide +kernel) rfl ?_
      refine hz_istore (L' := [(4, .int (1 : Int32)), (3, .int r5), (2, .int (0 : Int32)), (0, .ref b), (1, .ref (adr 12 0))]) (n := 50) hC dL_law_48 (by decide) rfl rfl ?_
      refine hz_L (L' := [(0, .ref b), (1, .ref (adr 12 0)), (2, .int (0 : Int32)), (3, .int r5), (4, .int (1 : Int32))]) [3, 4, 2, 1, 0] rfl ?_
      exact l50 _ hp_fu _ _ _
  · exact hz_none hC
