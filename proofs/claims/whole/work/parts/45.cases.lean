def C_law_0 {α : Type} (N : Nat) (xs : Nat → Int32) (x4 : Int32) (K : hp_M → Option α) (M : hp_M) : Option α := (if (x4 + (1 : Int32)) < 0 ∨ N ≤ ((x4 + (1 : Int32))).toNatClampNeg then none else (if (x4 + (2 : Int32)) < 0 ∨ N ≤ ((x4 + (2 : Int32))).toNatClampNeg then none else (if (x4 + (3 : Int32)) < 0 ∨ N ≤ ((x4 + (3 : Int32))).toNatClampNeg then none else (if (x4 + (4 : Int32)) < 0 ∨ N ≤ ((x4 + (4 : Int32))).toNatClampNeg then none else (if (x4 + (5 : Int32)) < 0 ∨ N ≤ ((x4 + (5 : Int32))).toNatClampNeg then none else (hp_b (F_X8_append (xs ((x4 + (1 : Int32))).toNatClampNeg) (xs ((x4 + (2 : Int32))).toNatClampNeg) (xs ((x4 + (3 : Int32))).toNatClampNeg) (xs ((x4 + (4 : Int32))).toNatClampNeg) (xs ((x4 + (5 : Int32))).toNatClampNeg) M) (fun r1 M1 => (if (x4 + (1 : Int32)) < 0 ∨ N ≤ ((x4 + (1 : Int32))).toNatClampNeg then none else (if (x4 + (2 : Int32)) < 0 ∨ N ≤ ((x4 + (2 : Int32))).toNatClampNeg then none else (if (x4 + (3 : Int32)) < 0 ∨ N ≤ ((x4 + (3 : Int32))).toNatClampNeg then none else (if (x4 + (4 : Int32)) < 0 ∨ N ≤ ((x4 + (4 : Int32))).toNatClampNeg then none else (if (x4 + (5 : Int32)) < 0 ∨ N ≤ ((x4 + (5 : Int32))).toNatClampNeg then none else (hp_b (F_X9_append (xs ((x4 + (1 : Int32))).toNatClampNeg) (xs ((x4 + (2 : Int32))).toNatClampNeg) (xs ((x4 + (3 : Int32))).toNatClampNeg) (xs ((x4 + (4 : Int32))).toNatClampNeg) (xs ((x4 + (5 : Int32))).toNatClampNeg) M1) (fun r2 M2 => (if r1 = r2 then (K M2) else none)))))))))))))))
set_option maxRecDepth 20000 in
set_option maxHeartbeats 4000000 in
theorem z_law_0 {p : Program} {l : Launch} {e : Env} {s : State} {m : MethodId} {args : Array Value} {below : List Frame} {meth : Method} {c : Code} {A : Nat → Prop} {D : va_G} {ids : List (Nat × Nat)} {adr : Nat → Nat → Nat} {adV cA : Nat → Nat} {Q : State → Prop} {α : Type} {G0 : Option α} {b N : Nat} {xs : Nat → Int32} (hl0 : l.stackTraces = false) (hIL : hp_IL ids) (hC : hp_Cx p s m meth c cL_law 9 "HallPhoneLaw" A D adV cA G0) (hX : va_X b N xs s s.heap) (hbl : b < s.heap.size) (hbA : ¬ A b) (x4 : Int32) (K : hp_M → Option α) (M : hp_M) (cells slots : Nat) (hcs : cells + 45 ≤ 601024 ∧ slots + 9000 ≤ 7293034) (kk : ∀ (M' : hp_M) (adr' : Nat → Nat → Nat), hp_sim adr adr' → hp_Z p l e room_1 s m args below meth c 9 A D ids adr' adV cA (cells + 45) (slots + 9000) Q G0 none 2257 [(0, .ref b), (1, .ref (adr' 12 0)), (2, .ref (adr' 13 0)), (3, .ref (adr' 13 10)), (4, .int x4)] [] M' (K M')) : hp_Z p l e room_1 s m args below meth c 9 A D ids adr adV cA cells slots Q G0 none 216 [(0, .ref b), (1, .ref (adr 12 0)), (2, .ref (adr 13 0)), (3, .ref (adr 13 10)), (4, .int x4)] [] M (C_law_0 N xs x4 K M) := by
  have hIB := hIL.1
  have hI := hIB.1
  unfold C_law_0
  refine hz_aload_n (a := 1) (n := 217) hC dL_law_216 rfl rfl rfl ?_
  refine hz_aload_n (a := 0) (n := 218) hC dL_law_217 rfl rfl rfl ?_
  refine hz_iload (a := 4) (n := 220) hC dL_law_218 rfl rfl ?_
  refine hz_iconst (v := (1 : Int32)) (n := 221) hC dL_law_220 (by decide +kernel) rfl ?_
  refine hz_iadd (n := 222) hC dL_law_221 rfl ?_
  refine hz_sld (n := 223) hC hX hbl hbA dL_law_222 rfl ?_
  refine hz_aload_n (a := 0) (n := 224) hC dL_law_223 rfl rfl rfl ?_
  refine hz_iload (a := 4) (n := 226) hC dL_law_224 rfl rfl ?_
  refine hz_iconst (v := (2 : Int32)) (n := 227) hC dL_law_226 (by decide +kernel) rfl ?_
  refine hz_iadd (n := 228) hC dL_law_227 rfl ?_
  refine hz_sld (n := 229) hC hX hbl hbA dL_law_228 rfl ?_
  refine hz_aload_n (a := 0) (n := 230) hC dL_law_229 rfl rfl rfl ?_
  refine hz_iload (a := 4) (n := 232) hC dL_law_230 rfl rfl ?_
  refine hz_iconst (v := (3 : Int32)) (n := 233) hC dL_law_232 (by decide +kernel) rfl ?_
  refine hz_iadd (n := 234) hC dL_law_233 rfl ?_
  refine hz_sld (n := 235) hC hX hbl hbA dL_law_234 rfl ?_
  refine hz_aload_n (a := 0) (n := 236) hC dL_law_235 rfl rfl rfl ?_
  refine hz_iload (a := 4) (n := 238) hC dL_law_236 rfl rfl ?_
  refine hz_iconst (v := (4 : Int32)) (n := 239) hC dL_law_238 (by decide +kernel) rfl ?_
  refine hz_iadd (n := 240) hC dL_law_239 rfl ?_
  refine hz_sld (n := 241) hC hX hbl hbA dL_law_240 rfl ?_
  refine hz_aload_n (a := 0) (n := 242) hC dL_law_241 rfl rfl rfl ?_
  refine hz_iload (a := 4) (n := 244) hC dL_law_242 rfl rfl ?_
  refine hz_iconst (v := (5 : Int32)) (n := 245) hC dL_law_244 (by decide +kernel) rfl ?_
  refine hz_iadd (n := 246) hC dL_law_245 rfl ?_
  refine hz_sld (n := 247) hC hX hbl hbA dL_law_246 rfl ?_
  refine hz_callV (k := 5) (As := [.int (xs ((x4 + (1 : Int32))).toNatClampNeg), .int (xs ((x4 + (2 : Int32))).toNatClampNeg), .int (xs ((x4 + (3 : Int32))).toNatClampNeg), .int (xs ((x4 + (4 : Int32))).toNatClampNeg), .int (xs ((x4 + (5 : Int32))).toNatClampNeg)]) (st := []) (S1 := fun r => .int r :: []) (n := 250) hC (c_X8_append l (xs ((x4 + (1 : Int32))).toNatClampNeg) (xs ((x4 + (2 : Int32))).toNatClampNeg) (xs ((x4 + (3 : Int32))).toNatClampNeg) (xs ((x4 + (4 : Int32))).toNatClampNeg) (xs ((x4 + (5 : Int32))).toNatClampNeg)   M) kv_X8_append wd_3_86 hI dL_law_247 rfl (hI.2 0 (by decide)) he_X8 rfl rfl rfl (Nat.le_of_ble_eq_true rfl) ⟨Nat.le_of_ble_eq_true rfl, Nat.le_of_ble_eq_true rfl⟩ ⟨by show _ ≤ (601024 : Nat); omega, by show _ ≤ (7293034 : Nat); omega⟩ (fun _ => rfl) rfl (fun r1 M1 _ => ?_)
  refine hz_aload_n (a := 2) (n := 251) hC dL_law_250 rfl rfl rfl ?_
  refine hz_aload_n (a := 0) (n := 252) hC dL_law_251 rfl rfl rfl ?_
  refine hz_iload (a := 4) (n := 254) hC dL_law_252 rfl rfl ?_
  refine hz_iconst (v := (1 : Int32)) (n := 255) hC dL_law_254 (by decide +kernel) rfl ?_
  refine hz_iadd (n := 256) hC dL_law_255 rfl ?_
  refine hz_sld (n := 257) hC hX hbl hbA dL_law_256 rfl ?_
  refine hz_aload_n (a := 0) (n := 258) hC dL_law_257 rfl rfl rfl ?_
  refine hz_iload (a := 4) (n := 260) hC dL_law_258 rfl rfl ?_
  refine hz_iconst (v := (2 : Int32)) (n := 261) hC dL_law_260 (by decide +kernel) rfl ?_
  refine hz_iadd (n := 262) hC dL_law_261 rfl ?_
  refine hz_sld (n := 263) hC hX hbl hbA dL_law_262 rfl ?_
  refine hz_aload_n (a := 0) (n := 264) hC dL_law_263 rfl rfl rfl ?_
  refine hz_iload (a := 4) (n := 266) hC dL_law_264 rfl rfl ?_
  refine hz_iconst (v := (3 : Int32)) (n := 267) hC dL_law_266 (by decide +kernel) rfl ?_
  refine hz_iadd (n := 268) hC dL_law_267 rfl ?_
  refine hz_sld (n := 269) hC hX hbl hbA dL_law_268 rfl ?_
  refine hz_aload_n (a := 0) (n := 270) hC dL_law_269 rfl rfl rfl ?_
  refine hz_iload (a := 4) (n := 272) hC dL_law_270 rfl rfl ?_
  refine hz_iconst (v := (4 : Int32)) (n := 273) hC dL_law_272 (by decide +kernel) rfl ?_
  refine hz_iadd (n := 274) hC dL_law_273 rfl ?_
  refine hz_sld (n := 275) hC hX hbl hbA dL_law_274 rfl ?_
  refine hz_aload_n (a := 0) (n := 276) hC dL_law_275 rfl rfl rfl ?_
  refine hz_iload (a := 4) (n := 278) hC dL_law_276 rfl rfl ?_
  refine hz_iconst (v := (5 : Int32)) (n := 279) hC dL_law_278 (by decide +kernel) rfl ?_
  refine hz_iadd (n := 280) hC dL_law_279 rfl ?_
  refine hz_sld (n := 281) hC hX hbl hbA dL_law_280 rfl ?_
  refine hz_callV (k := 5) (As := [.int (xs ((x4 + (1 : Int32))).toNatClampNeg), .int (xs ((x4 + (2 : Int32))).toNatClampNeg), .int (xs ((x4 + (3 : Int32))).toNatClampNeg), .int (xs ((x4 + (4 : Int32))).toNatClampNeg), .int (xs ((x4 + (5 : Int32))).toNatClampNeg)]) (st := [.int r1]) (S1 := fun r => .int r :: [.int r1]) (n := 284) hC (c_X9_append l (xs ((x4 + (1 : Int32))).toNatClampNeg) (xs ((x4 + (2 : Int32))).toNatClampNeg) (xs ((x4 + (3 : Int32))).toNatClampNeg) (xs ((x4 + (4 : Int32))).toNatClampNeg) (xs ((x4 + (5 : Int32))).toNatClampNeg)   M1) kv_X9_append wd_7_169 hIL.2.1 dL_law_281 rfl (hIL.2.1 0 (by decide)) he_X9 rfl rfl rfl (Nat.le_of_ble_eq_true rfl) ⟨Nat.le_of_ble_eq_true rfl, Nat.le_of_ble_eq_true rfl⟩ ⟨by show _ ≤ (601024 : Nat); omega, by show _ ≤ (7293034 : Nat); omega⟩ (fun _ => rfl) rfl (fun r2 M2 _ => ?_)
  refine hz_icmp_eq (tgt := 2257) (n := 287) hC dL_law_284 (by decide) rfl (fun _ => ?_) (fun _ => ?_)
  · refine hz_L (L' := [(0, .ref b), (1, .ref (adr 12 0)), (2, .ref (adr 13 0)), (3, .ref (adr 13 10)), (4, .int x4)]) [0, 1, 2, 3, 4] rfl ?_
    exact hz_widen (k0 := cells + 45) (s0 := slots + 9000) ⟨by omega, by omega⟩ (kk M2 adr hp_sim.rf)
  · exact hz_none hC
def C_law_1 {α : Type} (N : Nat) (xs : Nat → Int32) (x4 : Int32) (K : hp_M → Option α) (M : hp_M) : Option α := (if (x4 + (1 : Int32)) < 0 ∨ N ≤ ((x4 + (1 : Int32))).toNatClampNeg then none else (hp_b (F_L_parse (xs ((x4 + (1 : Int32))).toNatClampNeg) M) (fun r1 M1 => (if (x4 + (1 : Int32)) < 0 ∨ N ≤ ((x4 + (1 : Int32))).toNatClampNeg then none else (hp_b (F_X9_parse (xs ((x4 + (1 : Int32))).toNatClampNeg) M1) (fun r2 M2 => (hp_b (F_X9_thrown M2) (fun r3 M3 => (if r3 = r1 then (if r1 = 0 then (if (lg_cmp ((M3 13 10 0).toInt64) ((r2).toInt64)) = 0 then (K M3) else none) else (K M3)) else none)))))))))
set_option maxRecDepth 20000 in
set_option maxHeartbeats 4000000 in
theorem z_law_1 {p : Program} {l : Launch} {e : Env} {s : State} {m : MethodId} {args : Array Value} {below : List Frame} {meth : Method} {c : Code} {A : Nat → Prop} {D : va_G} {ids : List (Nat × Nat)} {adr : Nat → Nat → Nat} {adV cA : Nat → Nat} {Q : State → Prop} {α : Type} {G0 : Option α} {b N : Nat} {xs : Nat → Int32} (hl0 : l.stackTraces = false) (hIL : hp_IL ids) (hC : hp_Cx p s m meth c cL_law 9 "HallPhoneLaw" A D adV cA G0) (hX : va_X b N xs s s.heap) (hbl : b < s.heap.size) (hbA : ¬ A b) (x4 : Int32) (K : hp_M → Option α) (M : hp_M) (cells slots : Nat) (hcs : cells + 45 ≤ 601024 ∧ slots + 9000 ≤ 7293034) (kk : ∀ (M' : hp_M) (adr' : Nat → Nat → Nat), hp_sim adr adr' → hp_Z p l e room_1 s m args below meth c 9 A D ids adr' adV cA (cells + 45) (slots + 9000) Q G0 none 2257 [(0, .ref b), (1, .ref (adr' 12 0)), (2, .ref (adr' 13 0)), (3, .ref (adr' 13 10)), (4, .int x4)] [] M' (K M')) : hp_Z p l e room_1 s m args below meth c 9 A D ids adr adV cA cells slots Q G0 none 289 [(0, .ref b), (1, .ref (adr 12 0)), (2, .ref (adr 13 0)), (3, .ref (adr 13 10)), (4, .int x4)] [] M (C_law_1 N xs x4 K M) := by
  have hIB := hIL.1
  have hI := hIB.1
  unfold C_law_1
  refine hz_aload_n (a := 1) (n := 290) hC dL_law_289 rfl rfl rfl ?_
  refine hz_aload_n (a := 0) (n := 291) hC dL_law_290 rfl rfl rfl ?_
  refine hz_iload (a := 4) (n := 293) hC dL_law_291 rfl rfl ?_
  refine hz_iconst (v := (1 : Int32)) (n := 294) hC dL_law_293 (by decide +kernel) rfl ?_
  refine hz_iadd (n := 295) hC dL_law_294 rfl ?_
  refine hz_sld (n := 296) hC hX hbl hbA dL_law_295 rfl ?_
  refine hz_aload_n (a := 3) (n := 297) hC dL_law_296 rfl rfl rfl ?_
  refine hz_callSW (k := 3) (As := [.ref (adr 12 0), .int (xs ((x4 + (1 : Int32))).toNatClampNeg), .ref (adr 13 10)]) (st := []) (S1 := fun r1 => .int r1 :: []) (n := 300) hC (c_L_parse l hl0 (xs ((x4 + (1 : Int32))).toNatClampNeg) M) kw_L_parse wd_5_78 hIL dL_law_297 rfl rfl rfl (Nat.le_of_ble_eq_true rfl) ⟨Nat.le_of_ble_eq_true rfl, Nat.le_of_ble_eq_true rfl⟩ ⟨by show _ ≤ (601024 : Nat); omega, by show _ ≤ (7293034 : Nat); omega⟩ (fun _ => rfl) rfl (fun r1 M1 _ => ?_)
  refine hz_istore (L' := [(5, .int r1), (0, .ref b), (1, .ref (adr 12 0)), (2, .ref (adr 13 0)), (3, .ref (adr 13 10)), (4, .int x4)]) (n := 302) hC dL_law_300 (by decide) rfl rfl ?_
  refine hz_aload_n (a := 3) (n := 303) hC dL_law_302 rfl rfl rfl ?_
  refine hz_aload_n (a := 1) (n := 304) hC dL_law_303 rfl rfl rfl ?_
  refine hz_iload (a := 5) (n := 306) hC dL_law_304 rfl rfl ?_
  refine hz_iconst (v := (1 : Int32)) (n := 307) hC dL_law_306 (by decide +kernel) rfl ?_
  refine hz_iadd (n := 308) hC dL_law_307 rfl ?_
  refine hz_sld (n := 309) hC hX hbl hbA dL_law_308 rfl ?_
  refine hz_callV (k := 1) (As := [.int (xs ((x4 + (1 : Int32))).toNatClampNeg)]) (st := []) (S1 := fun r => .int r :: []) (n := 312) hC (c_X9_parse l (xs ((x4 + (1 : Int32))).toNatClampNeg)   M1) kv_X9_parse wd_7_177 hIL.2.1 dL_law_309 rfl (hIL.2.1 0 (by decide)) he_X9 rfl rfl rfl (Nat.le_of_ble_eq_true rfl) ⟨Nat.le_of_ble_eq_true rfl, Nat.le_of_ble_eq_true rfl⟩ ⟨by show _ ≤ (601024 : Nat); omega, by show _ ≤ (7293034 : Nat); omega⟩ (fun _ => rfl) rfl (fun r2 M2 _ => ?_)
  refine hz_istore (L' := [(6, .int r2), (5, .int r1), (0, .ref b), (1, .ref (adr 12 0)), (2, .ref (adr 13 0)), (3, .ref (adr 13 10)), (4, .int x4)]) (n := 314) hC dL_law_312 (by decide) rfl rfl ?_
  refine hz_aload_n (a := 4) (n := 315) hC dL_law_314 rfl rfl rfl ?_
  refine hz_callV (k := 0) (As := []) (st := []) (S1 := fun r => .int r :: []) (n := 318) hC (c_X9_thrown l    M2) kv_X9_thrown wd_7_165 hIL.2.1 dL_law_315 rfl (hIL.2.1 0 (by decide)) he_X9 rfl rfl rfl (Nat.le_of_ble_eq_true rfl) ⟨Nat.le_of_ble_eq_true rfl, Nat.le_of_ble_eq_true rfl⟩ ⟨by show _ ≤ (601024 : Nat); omega, by show _ ≤ (7293034 : Nat); omega⟩ (fun _ => rfl) rfl (fun r3 M3 _ => ?_)
  refine hz_iload (a := 1) (n := 320) hC dL_law_318 rfl rfl ?_
  refine hz_icmp_eq (tgt := 325) (n := 323) hC dL_law_320 (by decide) rfl (fun _ => ?_) (fun _ => ?_)
  · refine hz_iload (a := 1) (n := 327) hC dL_law_325 rfl rfl ?_
    refine hz_if_ne (tgt := 342) (n := 330) hC dL_law_327 (by decide) rfl (fun _ => ?_) (fun _ => ?_)
    · refine hz_aload_n (a := 5) (n := 331) hC dL_law_330 rfl rfl rfl ?_
      refine hz_iconst (v := (0 : Int32)) (n := 332) hC dL_law_331 (by decide +kernel) rfl ?_
      refine hz_lald13 (n := 333) hC dL_law_332 hIL.2.2 rfl ?_
      refine hz_iload (a := 0) (n := 335) hC dL_law_333 rfl rfl ?_
      refine hz_i2l (n := 336) hC dL_law_335 rfl ?_
      refine hz_lcmp (n := 337) hC dL_law_336 rfl ?_
      refine hz_if_eq (tgt := 342) (n := 340) hC dL_law_337 (by decide) rfl (fun _ => ?_) (fun _ => ?_)
      · refine hz_goto (n := 2257) hC dL_law_342 (by decide) ?_
        refine hz_L (L' := [(0, .ref b), (1, .ref (adr 12 0)), (2, .ref (adr 13 0)), (3, .ref (adr 13 10)), (4, .int x4)]) [2, 3, 4, 5, 6] rfl ?_
        exact hz_widen (k0 := cells + 45) (s0 := slots + 9000) ⟨by omega, by omega⟩ (kk M3 adr hp_sim.rf)
      · exact hz_none hC
    · refine hz_goto (n := 2257) hC dL_law_342 (by decide) ?_
      refine hz_L (L' := [(0, .ref b), (1, .ref (adr 12 0)), (2, .ref (adr 13 0)), (3, .ref (adr 13 10)), (4, .int x4)]) [2, 3, 4, 5, 6] rfl ?_
      exact hz_widen (k0 := cells + 45) (s0 := slots + 9000) ⟨by omega, by omega⟩ (kk M3 adr hp_sim.rf)
  · exact hz_none hC
def C_law_2 {α : Type} (N : Nat) (xs : Nat → Int32) (x4 : Int32) (K : hp_M → Option α) (M : hp_M) : Option α := (if (x4 + (1 : Int32)) < 0 ∨ N ≤ ((x4 + (1 : Int32))).toNatClampNeg then none else (hp_b (F_L_load (xs ((x4 + (1 : Int32))).toNatClampNeg) M) (fun r1 M1 => (if (x4 + (1 : Int32)) < 0 ∨ N ≤ ((x4 + (1 : Int32))).toNatClampNeg then none else (hp_b (F_X9_load (xs ((x4 + (1 : Int32))).toNatClampNeg) M1) (fun r2 M2 => (hp_b (F_X9_thrown M2) (fun r3 M3 => (if r3 = r1 then (if r1 = 0 then (if (lg_cmp ((M3 13 10 0).toInt64) ((r2).toInt64)) = 0 then (K M3) else none) else (K M3)) else none)))))))))
set_option maxRecDepth 20000 in
set_option maxHeartbeats 4000000 in
theorem z_law_2 {p : Program} {l : Launch} {e : Env} {s : State} {m : MethodId} {args : Array Value} {below : List Frame} {meth : Method} {c : Code} {A : Nat → Prop} {D : va_G} {ids : List (Nat × Nat)} {adr : Nat → Nat → Nat} {adV cA : Nat → Nat} {Q : State → Prop} {α : Type} {G0 : Option α} {b N : Nat} {xs : Nat → Int32} (hl0 : l.stackTraces = false) (hIL : hp_IL ids) (hC : hp_Cx p s m meth c cL_law 9 "HallPhoneLaw" A D adV cA G0) (hX : va_X b N xs s s.heap) (hbl : b < s.heap.size) (hbA : ¬ A b) (x4 : Int32) (K : hp_M → Option α) (M : hp_M) (cells slots : Nat) (hcs : cells + 45 ≤ 601024 ∧ slots + 9000 ≤ 7293034) (kk : ∀ (M' : hp_M) (adr' : Nat → Nat → Nat), hp_sim adr adr' → hp_Z p l e room_1 s m args below meth c 9 A D ids adr' adV cA (cells + 45) (slots + 9000) Q G0 none 2257 [(0, .ref b), (1, .ref (adr' 12 0)), (2, .ref (adr' 13 0)), (3, .ref (adr' 13 10)), (4, .int x4)] [] M' (K M')) : hp_Z p l e room_1 s m args below meth c 9 A D ids adr adV cA cells slots Q G0 none 345 [(0, .ref b), (1, .ref (adr 12 0)), (2, .ref (adr 13 0)), (3, .ref (adr 13 10)), (4, .int x4)] [] M (C_law_2 N xs x4 K M) := by
  have hIB := hIL.1
  have hI := hIB.1
  unfold C_law_2
  refine hz_aload_n (a := 1) (n := 346) hC dL_law_345 rfl rfl rfl ?_
  refine hz_aload_n (a := 0) (n := 347) hC dL_law_346 rfl rfl rfl ?_
  refine hz_iload (a := 4) (n := 349) hC dL_law_347 rfl rfl ?_
  refine hz_iconst (v := (1 : Int32)) (n := 350) hC dL_law_349 (by decide +kernel) rfl ?_
  refine hz_iadd (n := 351) hC dL_law_350 rfl ?_
  refine hz_sld (n := 352) hC hX hbl hbA dL_law_351 rfl ?_
  refine hz_aload_n (a := 3) (n := 353) hC dL_law_352 rfl rfl rfl ?_
  refine hz_callSW (k := 3) (As := [.ref (adr 12 0), .int (xs ((x4 + (1 : Int32))).toNatClampNeg), .ref (adr 13 10)]) (st := []) (S1 := fun r1 => .int r1 :: []) (n := 356) hC (c_L_load l hl0 (xs ((x4 + (1 : Int32))).toNatClampNeg) M) kw_L_load wd_5_97 hIL dL_law_353 rfl rfl rfl (Nat.le_of_ble_eq_true rfl) ⟨Nat.le_of_ble_eq_true rfl, Nat.le_of_ble_eq_true rfl⟩ ⟨by show _ ≤ (601024 : Nat); omega, by show _ ≤ (7293034 : Nat); omega⟩ (fun _ => rfl) rfl (fun r1 M1 _ => ?_)
  refine hz_istore (L' := [(5, .int r1), (0, .ref b), (1, .ref (adr 12 0)), (2, .ref (adr 13 0)), (3, .ref (adr 13 10)), (4, .int x4)]) (n := 358) hC dL_law_356 (by decide) rfl rfl ?_
  refine hz_aload_n (a := 3) (n := 359) hC dL_law_358 rfl rfl rfl ?_
  refine hz_aload_n (a := 1) (n := 360) hC dL_law_359 rfl rfl rfl ?_
  refine hz_iload (a := 5) (n := 362) hC dL_law_360 rfl rfl ?_
  refine hz_iconst (v := (1 : Int32)) (n := 363) hC dL_law_362 (by decide +kernel) rfl ?_
  refine hz_iadd (n := 364) hC dL_law_363 rfl ?_
  refine hz_sld (n := 365) hC hX hbl hbA dL_law_364 rfl ?_
  refine hz_callV (k := 1) (As := [.int (xs ((x4 + (1 : Int32))).toNatClampNeg)]) (st := []) (S1 := fun r => .int r :: []) (n := 368) hC (c_X9_load l (xs ((x4 + (1 : Int32))).toNatClampNeg)   M1) kv_X9_load wd_7_185 hIL.2.1 dL_law_365 rfl (hIL.2.1 0 (by decide)) he_X9 rfl rfl rfl (Nat.le_of_ble_eq_true rfl) ⟨Nat.le_of_ble_eq_true rfl, Nat.le_of_ble_eq_true rfl⟩ ⟨by show _ ≤ (601024 : Nat); omega, by show _ ≤ (7293034 : Nat); omega⟩ (fun _ => rfl) rfl (fun r2 M2 _ => ?_)
  refine hz_istore (L' := [(6, .int r2), (5, .int r1), (0, .ref b), (1, .ref (adr 12 0)), (2, .ref (adr 13 0)), (3, .ref (adr 13 10)), (4, .int x4)]) (n := 370) hC dL_law_368 (by decide) rfl rfl ?_
  refine hz_aload_n (a := 4) (n := 371) hC dL_law_370 rfl rfl rfl ?_
  refine hz_callV (k := 0) (As := []) (st := []) (S1 := fun r => .int r :: []) (n := 374) hC (c_X9_thrown l    M2) kv_X9_thrown wd_7_165 hIL.2.1 dL_law_371 rfl (hIL.2.1 0 (by decide)) he_X9 rfl rfl rfl (Nat.le_of_ble_eq_true rfl) ⟨Nat.le_of_ble_eq_true rfl, Nat.le_of_ble_eq_true rfl⟩ ⟨by show _ ≤ (601024 : Nat); omega, by show _ ≤ (7293034 : Nat); omega⟩ (fun _ => rfl) rfl (fun r3 M3 _ => ?_)
  refine hz_iload (a := 1) (n := 376) hC dL_law_374 rfl rfl ?_
  refine hz_icmp_eq (tgt := 381) (n := 379) hC dL_law_376 (by decide) rfl (fun _ => ?_) (fun _ => ?_)
  · refine hz_iload (a := 1) (n := 383) hC dL_law_381 rfl rfl ?_
    refine hz_if_ne (tgt := 398) (n := 386) hC dL_law_383 (by decide) rfl (fun _ => ?_) (fun _ => ?_)
    · refine hz_aload_n (a := 5) (n := 387) hC dL_law_386 rfl rfl rfl ?_
      refine hz_iconst (v := (0 : Int32)) (n := 388) hC dL_law_387 (by decide +kernel) rfl ?_
      refine hz_lald13 (n := 389) hC dL_law_388 hIL.2.2 rfl ?_
      refine hz_iload (a := 0) (n := 391) hC dL_law_389 rfl rfl ?_
      refine hz_i2l (n := 392) hC dL_law_391 rfl ?_
      refine hz_lcmp (n := 393) hC dL_law_392 rfl ?_
      refine hz_if_eq (tgt := 398) (n := 396) hC dL_law_393 (by decide) rfl (fun _ => ?_) (fun _ => ?_)
      · refine hz_goto (n := 2257) hC dL_law_398 (by decide) ?_
        refine hz_L (L' := [(0, .ref b), (1, .ref (adr 12 0)), (2, .ref (adr 13 0)), (3, .ref (adr 13 10)), (4, .int x4)]) [2, 3, 4, 5, 6] rfl ?_
        exact hz_widen (k0 := cells + 45) (s0 := slots + 9000) ⟨by omega, by omega⟩ (kk M3 adr hp_sim.rf)
      · exact hz_none hC
    · refine hz_goto (n := 2257) hC dL_law_398 (by decide) ?_
      refine hz_L (L' := [(0, .ref b), (1, .ref (adr 12 0)), (2, .ref (adr 13 0)), (3, .ref (adr 13 10)), (4, .int x4)]) [2, 3, 4, 5, 6] rfl ?_
      exact hz_widen (k0 := cells + 45) (s0 := slots + 9000) ⟨by omega, by omega⟩ (kk M3 adr hp_sim.rf)
  · exact hz_none hC
def C_law_3 {α : Type} (N : Nat) (xs : Nat → Int32) (x4 : Int32) (K : hp_M → Option α) (M : hp_M) : Option α := (if (x4 + (1 : Int32)) < 0 ∨ N ≤ ((x4 + (1 : Int32))).toNatClampNeg then none else (hp_b (F_L_size (xs ((x4 + (1 : Int32))).toNatClampNeg) M) (fun r1 M1 => (if (x4 + (1 : Int32)) < 0 ∨ N ≤ ((x4 + (1 : Int32))).toNatClampNeg then none else (hp_b (F_X9_size (xs ((x4 + (1 : Int32))).toNatClampNeg) M1) (fun r2 M2 => (hp_b (F_X9_thrown M2) (fun r3 M3 => (if r3 = r1 then (if r1 = 0 then (if (lg_cmp ((M3 13 10 0).toInt64) ((r2).toInt64)) = 0 then (K M3) else none) else (K M3)) else none)))))))))
set_option maxRecDepth 20000 in
set_option maxHeartbeats 4000000 in
theorem z_law_3 {p : Program} {l : Launch} {e : Env} {s : State} {m : MethodId} {args : Array Value} {below : List Frame} {meth : Method} {c : Code} {A : Nat → Prop} {D : va_G} {ids : List (Nat × Nat)} {adr : Nat → Nat → Nat} {adV cA : Nat → Nat} {Q : State → Prop} {α : Type} {G0 : Option α} {b N : Nat} {xs : Nat → Int32} (hl0 : l.stackTraces = false) (hIL : hp_IL ids) (hC : hp_Cx p s m meth c cL_law 9 "HallPhoneLaw" A D adV cA G0) (hX : va_X b N xs s s.heap) (hbl : b < s.heap.size) (hbA : ¬ A b) (x4 : Int32) (K : hp_M → Option α) (M : hp_M) (cells slots : Nat) (hcs : cells + 45 ≤ 601024 ∧ slots + 9000 ≤ 7293034) (kk : ∀ (M' : hp_M) (adr' : Nat → Nat → Nat), hp_sim adr adr' → hp_Z p l e room_1 s m args below meth c 9 A D ids adr' adV cA (cells + 45) (slots + 9000) Q G0 none 2257 [(0, .ref b), (1, .ref (adr' 12 0)), (2, .ref (adr' 13 0)), (3, .ref (adr' 13 10)), (4, .int x4)] [] M' (K M')) : hp_Z p l e room_1 s m args below meth c 9 A D ids adr adV cA cells slots Q G0 none 401 [(0, .ref b), (1, .ref (adr 12 0)), (2, .ref (adr 13 0)), (3, .ref (adr 13 10)), (4, .int x4)] [] M (C_law_3 N xs x4 K M) := by
  have hIB := hIL.1
  have hI := hIB.1
  unfold C_law_3
  refine hz_aload_n (a := 1) (n := 402) hC dL_law_401 rfl rfl rfl ?_
  refine hz_aload_n (a := 0) (n := 403) hC dL_law_402 rfl rfl rfl ?_
  refine hz_iload (a := 4) (n := 405) hC dL_law_403 rfl rfl ?_
  refine hz_iconst (v := (1 : Int32)) (n := 406) hC dL_law_405 (by decide +kernel) rfl ?_
  refine hz_iadd (n := 407) hC dL_law_406 rfl ?_
  refine hz_sld (n := 408) hC hX hbl hbA dL_law_407 rfl ?_
  refine hz_aload_n (a := 3) (n := 409) hC dL_law_408 rfl rfl rfl ?_
  refine hz_callSW (k := 3) (As := [.ref (adr 12 0), .int (xs ((x4 + (1 : Int32))).toNatClampNeg), .ref (adr 13 10)]) (st := []) (S1 := fun r1 => .int r1 :: []) (n := 412) hC (c_L_size l hl0 (xs ((x4 + (1 : Int32))).toNatClampNeg) M) kw_L_size wd_5_106 hIL dL_law_409 rfl rfl rfl (Nat.le_of_ble_eq_true rfl) ⟨Nat.le_of_ble_eq_true rfl, Nat.le_of_ble_eq_true rfl⟩ ⟨by show _ ≤ (601024 : Nat); omega, by show _ ≤ (7293034 : Nat); omega⟩ (fun _ => rfl) rfl (fun r1 M1 _ => ?_)
  refine hz_istore (L' := [(5, .int r1), (0, .ref b), (1, .ref (adr 12 0)), (2, .ref (adr 13 0)), (3, .ref (adr 13 10)), (4, .int x4)]) (n := 414) hC dL_law_412 (by decide) rfl rfl ?_
  refine hz_aload_n (a := 3) (n := 415) hC dL_law_414 rfl rfl rfl ?_
  refine hz_aload_n (a := 1) (n := 416) hC dL_law_415 rfl rfl rfl ?_
  refine hz_iload (a := 5) (n := 418) hC dL_law_416 rfl rfl ?_
  refine hz_iconst (v := (1 : Int32)) (n := 419) hC dL_law_418 (by decide +kernel) rfl ?_
  refine hz_iadd (n := 420) hC dL_law_419 rfl ?_
  refine hz_sld (n := 421) hC hX hbl hbA dL_law_420 rfl ?_
  refine hz_callV (k := 1) (As := [.int (xs ((x4 + (1 : Int32))).toNatClampNeg)]) (st := []) (S1 := fun r => .int r :: []) (n := 424) hC (c_X9_size l (xs ((x4 + (1 : Int32))).toNatClampNeg)   M1) kv_X9_size wd_7_189 hIL.2.1 dL_law_421 rfl (hIL.2.1 0 (by decide)) he_X9 rfl rfl rfl (Nat.le_of_ble_eq_true rfl) ⟨Nat.le_of_ble_eq_true rfl, Nat.le_of_ble_eq_true rfl⟩ ⟨by show _ ≤ (601024 : Nat); omega, by show _ ≤ (7293034 : Nat); omega⟩ (fun _ => rfl) rfl (fun r2 M2 _ => ?_)
  refine hz_istore (L' := [(6, .int r2), (5, .int r1), (0, .ref b), (1, .ref (adr 12 0)), (2, .ref (adr 13 0)), (3, .ref (adr 13 10)), (4, .int x4)]) (n := 426) hC dL_law_424 (by decide) rfl rfl ?_
  refine hz_aload_n (a := 4) (n := 427) hC dL_law_426 rfl rfl rfl ?_
  refine hz_callV (k := 0) (As := []) (st := []) (S1 := fun r => .int r :: []) (n := 430) hC (c_X9_thrown l    M2) kv_X9_thrown wd_7_165 hIL.2.1 dL_law_427 rfl (hIL.2.1 0 (by decide)) he_X9 rfl rfl rfl (Nat.le_of_ble_eq_true rfl) ⟨Nat.le_of_ble_eq_true rfl, Nat.le_of_ble_eq_true rfl⟩ ⟨by show _ ≤ (601024 : Nat); omega, by show _ ≤ (7293034 : Nat); omega⟩ (fun _ => rfl) rfl (fun r3 M3 _ => ?_)
  refine hz_iload (a := 1) (n := 432) hC dL_law_430 rfl rfl ?_
  refine hz_icmp_eq (tgt := 437) (n := 435) hC dL_law_432 (by decide) rfl (fun _ => ?_) (fun _ => ?_)
  · refine hz_iload (a := 1) (n := 439) hC dL_law_437 rfl rfl ?_
    refine hz_if_ne (tgt := 454) (n := 442) hC dL_law_439 (by decide) rfl (fun _ => ?_) (fun _ => ?_)
    · refine hz_aload_n (a := 5) (n := 443) hC dL_law_442 rfl rfl rfl ?_
      refine hz_iconst (v := (0 : Int32)) (n := 444) hC dL_law_443 (by decide +kernel) rfl ?_
      refine hz_lald13 (n := 445) hC dL_law_444 hIL.2.2 rfl ?_
      refine hz_iload (a := 0) (n := 447) hC dL_law_445 rfl rfl ?_
      refine hz_i2l (n := 448) hC dL_law_447 rfl ?_
      refine hz_lcmp (n := 449) hC dL_law_448 rfl ?_
      refine hz_if_eq (tgt := 454) (n := 452) hC dL_law_449 (by decide) rfl (fun _ => ?_) (fun _ => ?_)
      · refine hz_goto (n := 2257) hC dL_law_454 (by decide) ?_
        refine hz_L (L' := [(0, .ref b), (1, .ref (adr 12 0)), (2, .ref (adr 13 0)), (3, .ref (adr 13 10)), (4, .int x4)]) [2, 3, 4, 5, 6] rfl ?_
        exact hz_widen (k0 := cells + 45) (s0 := slots + 9000) ⟨by omega, by omega⟩ (kk M3 adr hp_sim.rf)
      · exact hz_none hC
    · refine hz_goto (n := 2257) hC dL_law_454 (by decide) ?_
      refine hz_L (L' := [(0, .ref b), (1, .ref (adr 12 0)), (2, .ref (adr 13 0)), (3, .ref (adr 13 10)), (4, .int x4)]) [2, 3, 4, 5, 6] rfl ?_
      exact hz_widen (k0 := cells + 45) (s0 := slots + 9000) ⟨by omega, by omega⟩ (kk M3 adr hp_sim.rf)
  · exact hz_none hC
def C_law_4 {α : Type} (N : Nat) (xs : Nat → Int32) (x4 : Int32) (K : hp_M → Option α) (M : hp_M) : Option α := (if (x4 + (1 : Int32)) < 0 ∨ N ≤ ((x4 + (1 : Int32))).toNatClampNeg then none else (hp_b (F_L_setting (xs ((x4 + (1 : Int32))).toNatClampNeg) M) (fun r1 M1 => (if (x4 + (1 : Int32)) < 0 ∨ N ≤ ((x4 + (1 : Int32))).toNatClampNeg then none else (hp_b (F_X9_setting (xs ((x4 + (1 : Int32))).toNatClampNeg) M1) (fun r2 M2 => (hp_b (F_X9_thrown M2) (fun r3 M3 => (if r3 = r1 then (if r1 = 0 then (if (lg_cmp ((M3 13 10 0).toInt64) ((r2).toInt64)) = 0 then (K M3) else none) else (K M3)) else none)))))))))
set_option maxRecDepth 20000 in
set_option maxHeartbeats 4000000 in
theorem z_law_4 {p : Program} {l : Launch} {e : Env} {s : State} {m : MethodId} {args : Array Value} {below : List Frame} {meth : Method} {c : Code} {A : Nat → Prop} {D : va_G} {ids : List (Nat × Nat)} {adr : Nat → Nat → Nat} {adV cA : Nat → Nat} {Q : State → Prop} {α : Type} {G0 : Option α} {b N : Nat} {xs : Nat → Int32} (hl0 : l.stackTraces = false) (hIL : hp_IL ids) (hC : hp_Cx p s m meth c cL_law 9 "HallPhoneLaw" A D adV cA G0) (hX : va_X b N xs s s.heap) (hbl : b < s.heap.size) (hbA : ¬ A b) (x4 : Int32) (K : hp_M → Option α) (M : hp_M) (cells slots : Nat) (hcs : cells + 45 ≤ 601024 ∧ slots + 9000 ≤ 7293034) (kk : ∀ (M' : hp_M) (adr' : Nat → Nat → Nat), hp_sim adr adr' → hp_Z p l e room_1 s m args below meth c 9 A D ids adr' adV cA (cells + 45) (slots + 9000) Q G0 none 2257 [(0, .ref b), (1, .ref (adr' 12 0)), (2, .ref (adr' 13 0)), (3, .ref (adr' 13 10)), (4, .int x4)] [] M' (K M')) : hp_Z p l e room_1 s m args below meth c 9 A D ids adr adV cA cells slots Q G0 none 457 [(0, .ref b), (1, .ref (adr 12 0)), (2, .ref (adr 13 0)), (3, .ref (adr 13 10)), (4, .int x4)] [] M (C_law_4 N xs x4 K M) := by
  have hIB := hIL.1
  have hI := hIB.1
  unfold C_law_4
  refine hz_aload_n (a := 1) (n := 458) hC dL_law_457 rfl rfl rfl ?_
  refine hz_aload_n (a := 0) (n := 459) hC dL_law_458 rfl rfl rfl ?_
  refine hz_iload (a := 4) (n := 461) hC dL_law_459 rfl rfl ?_
  refine hz_iconst (v := (1 : Int32)) (n := 462) hC dL_law_461 (by decide +kernel) rfl ?_
  refine hz_iadd (n := 463) hC dL_law_462 rfl ?_
  refine hz_sld (n := 464) hC hX hbl hbA dL_law_463 rfl ?_
  refine hz_aload_n (a := 3) (n := 465) hC dL_law_464 rfl rfl rfl ?_
  refine hz_callSW (k := 3) (As := [.ref (adr 12 0), .int (xs ((x4 + (1 : Int32))).toNatClampNeg), .ref (adr 13 10)]) (st := []) (S1 := fun r1 => .int r1 :: []) (n := 468) hC (c_L_setting l hl0 (xs ((x4 + (1 : Int32))).toNatClampNeg) M) kw_L_setting wd_5_113 hIL dL_law_465 rfl rfl rfl (Nat.le_of_ble_eq_true rfl) ⟨Nat.le_of_ble_eq_true rfl, Nat.le_of_ble_eq_true rfl⟩ ⟨by show _ ≤ (601024 : Nat); omega, by show _ ≤ (7293034 : Nat); omega⟩ (fun _ => rfl) rfl (fun r1 M1 _ => ?_)
  refine hz_istore (L' := [(5, .int r1), (0, .ref b), (1, .ref (adr 12 0)), (2, .ref (adr 13 0)), (3, .ref (adr 13 10)), (4, .int x4)]) (n := 470) hC dL_law_468 (by decide) rfl rfl ?_
  refine hz_aload_n (a := 3) (n := 471) hC dL_law_470 rfl rfl rfl ?_
  refine hz_aload_n (a := 1) (n := 472) hC dL_law_471 rfl rfl rfl ?_
  refine hz_iload (a := 5) (n := 474) hC dL_law_472 rfl rfl ?_
  refine hz_iconst (v := (1 : Int32)) (n := 475) hC dL_law_474 (by decide +kernel) rfl ?_
  refine hz_iadd (n := 476) hC dL_law_475 rfl ?_
  refine hz_sld (n := 477) hC hX hbl hbA dL_law_476 rfl ?_
  refine hz_callV (k := 1) (As := [.int (xs ((x4 + (1 : Int32))).toNatClampNeg)]) (st := []) (S1 := fun r => .int r :: []) (n := 480) hC (c_X9_setting l (xs ((x4 + (1 : Int32))).toNatClampNeg)   M1) kv_X9_setting wd_7_205 hIL.2.1 dL_law_477 rfl (hIL.2.1 0 (by decide)) he_X9 rfl rfl rfl (Nat.le_of_ble_eq_true rfl) ⟨Nat.le_of_ble_eq_true rfl, Nat.le_of_ble_eq_true rfl⟩ ⟨by show _ ≤ (601024 : Nat); omega, by show _ ≤ (7293034 : Nat); omega⟩ (fun _ => rfl) rfl (fun r2 M2 _ => ?_)
  refine hz_istore (L' := [(6, .int r2), (5, .int r1), (0, .ref b), (1, .ref (adr 12 0)), (2, .ref (adr 13 0)), (3, .ref (adr 13 10)), (4, .int x4)]) (n := 482) hC dL_law_480 (by decide) rfl rfl ?_
  refine hz_aload_n (a := 4) (n := 483) hC dL_law_482 rfl rfl rfl ?_
  refine hz_callV (k := 0) (As := []) (st := []) (S1 := fun r => .int r :: []) (n := 486) hC (c_X9_thrown l    M2) kv_X9_thrown wd_7_165 hIL.2.1 dL_law_483 rfl (hIL.2.1 0 (by decide)) he_X9 rfl rfl rfl (Nat.le_of_ble_eq_true rfl) ⟨Nat.le_of_ble_eq_true rfl, Nat.le_of_ble_eq_true rfl⟩ ⟨by show _ ≤ (601024 : Nat); omega, by show _ ≤ (7293034 : Nat); omega⟩ (fun _ => rfl) rfl (fun r3 M3 _ => ?_)
  refine hz_iload (a := 1) (n := 488) hC dL_law_486 rfl rfl ?_
  refine hz_icmp_eq (tgt := 493) (n := 491) hC dL_law_488 (by decide) rfl (fun _ => ?_) (fun _ => ?_)
  · refine hz_iload (a := 1) (n := 495) hC dL_law_493 rfl rfl ?_
    refine hz_if_ne (tgt := 510) (n := 498) hC dL_law_495 (by decide) rfl (fun _ => ?_) (fun _ => ?_)
    · refine hz_aload_n (a := 5) (n := 499) hC dL_law_498 rfl rfl rfl ?_
      refine hz_iconst (v := (0 : Int32)) (n := 500) hC dL_law_499 (by decide +kernel) rfl ?_
      refine hz_lald13 (n := 501) hC dL_law_500 hIL.2.2 rfl ?_
      refine hz_iload (a := 0) (n := 503) hC dL_law_501 rfl rfl ?_
      refine hz_i2l (n := 504) hC dL_law_503 rfl ?_
      refine hz_lcmp (n := 505) hC dL_law_504 rfl ?_
      refine hz_if_eq (tgt := 510) (n := 508) hC dL_law_505 (by decide) rfl (fun _ => ?_) (fun _ => ?_)
      · refine hz_goto (n := 2257) hC dL_law_510 (by decide) ?_
        refine hz_L (L' := [(0, .ref b), (1, .ref (adr 12 0)), (2, .ref (adr 13 0)), (3, .ref (adr 13 10)), (4, .int x4)]) [2, 3, 4, 5, 6] rfl ?_
        exact hz_widen (k0 := cells + 45) (s0 := slots + 9000) ⟨by omega, by omega⟩ (kk M3 adr hp_sim.rf)
      · exact hz_none hC
    · refine hz_goto (n := 2257) hC dL_law_510 (by decide) ?_
      refine hz_L (L' := [(0, .ref b), (1, .ref (adr 12 0)), (2, .ref (adr 13 0)), (3, .ref (adr 13 10)), (4, .int x4)]) [2, 3, 4, 5, 6] rfl ?_
      exact hz_widen (k0 := cells + 45) (s0 := slots + 9000) ⟨by omega, by omega⟩ (kk M3 adr hp_sim.rf)
  · exact hz_none hC
def C_law_5 {α : Type} (N : Nat) (xs : Nat → Int32) (x4 : Int32) (K : hp_M → Option α) (M : hp_M) : Option α := (if (x4 + (1 : Int32)) < 0 ∨ N ≤ ((x4 + (1 : Int32))).toNatClampNeg then none else (if (x4 + (2 : Int32)) < 0 ∨ N ≤ ((x4 + (2 : Int32))).toNatClampNeg then none else (hp_b (F_L_flat (xs ((x4 + (1 : Int32))).toNatClampNeg) (xs ((x4 + (2 : Int32))).toNatClampNeg) M) (fun r1 M1 => (if (x4 + (1 : Int32)) < 0 ∨ N ≤ ((x4 + (1 : Int32))).toNatClampNeg then none else (if (x4 + (2 : Int32)) < 0 ∨ N ≤ ((x4 + (2 : Int32))).toNatClampNeg then none else (hp_b (F_X9_flat (xs ((x4 + (1 : Int32))).toNatClampNeg) (xs ((x4 + (2 : Int32))).toNatClampNeg) M1) (fun r2 M2 => (hp_b (F_X9_thrown M2) (fun r3 M3 => (if r3 = r1 then (if r1 = 0 then (if (lg_cmp ((M3 13 10 0).toInt64) ((r2).toInt64)) = 0 then (K M3) else none) else (K M3)) else none)))))))))))
set_option maxRecDepth 20000 in
set_option maxHeartbeats 4000000 in
theorem z_law_5 {p : Program} {l : Launch} {e : Env} {s : State} {m : MethodId} {args : Array Value} {below : List Frame} {meth : Method} {c : Code} {A : Nat → Prop} {D : va_G} {ids : List (Nat × Nat)} {adr : Nat → Nat → Nat} {adV cA : Nat → Nat} {Q : State → Prop} {α : Type} {G0 : Option α} {b N : Nat} {xs : Nat → Int32} (hl0 : l.stackTraces = false) (hIL : hp_IL ids) (hC : hp_Cx p s m meth c cL_law 9 "HallPhoneLaw" A D adV cA G0) (hX : va_X b N xs s s.heap) (hbl : b < s.heap.size) (hbA : ¬ A b) (x4 : Int32) (K : hp_M → Option α) (M : hp_M) (cells slots : Nat) (hcs : cells + 45 ≤ 601024 ∧ slots + 9000 ≤ 7293034) (kk : ∀ (M' : hp_M) (adr' : Nat → Nat → Nat), hp_sim adr adr' → hp_Z p l e room_1 s m args below meth c 9 A D ids adr' adV cA (cells + 45) (slots + 9000) Q G0 none 2257 [(0, .ref b), (1, .ref (adr' 12 0)), (2, .ref (adr' 13 0)), (3, .ref (adr' 13 10)), (4, .int x4)] [] M' (K M')) : hp_Z p l e room_1 s m args below meth c 9 A D ids adr adV cA cells slots Q G0 none 513 [(0, .ref b), (1, .ref (adr 12 0)), (2, .ref (adr 13 0)), (3, .ref (adr 13 10)), (4, .int x4)] [] M (C_law_5 N xs x4 K M) := by
  have hIB := hIL.1
  have hI := hIB.1
  unfold C_law_5
  refine hz_aload_n (a := 1) (n := 514) hC dL_law_513 rfl rfl rfl ?_
  refine hz_aload_n (a := 0) (n := 515) hC dL_law_514 rfl rfl rfl ?_
  refine hz_iload (a := 4) (n := 517) hC dL_law_515 rfl rfl ?_
  refine hz_iconst (v := (1 : Int32)) (n := 518) hC dL_law_517 (by decide +kernel) rfl ?_
  refine hz_iadd (n := 519) hC dL_law_518 rfl ?_
  refine hz_sld (n := 520) hC hX hbl hbA dL_law_519 rfl ?_
  refine hz_aload_n (a := 0) (n := 521) hC dL_law_520 rfl rfl rfl ?_
  refine hz_iload (a := 4) (n := 523) hC dL_law_521 rfl rfl ?_
  refine hz_iconst (v := (2 : Int32)) (n := 524) hC dL_law_523 (by decide +kernel) rfl ?_
  refine hz_iadd (n := 525) hC dL_law_524 rfl ?_
  refine hz_sld (n := 526) hC hX hbl hbA dL_law_525 rfl ?_
  refine hz_aload_n (a := 3) (n := 527) hC dL_law_526 rfl rfl rfl ?_
  refine hz_callSW (k := 4) (As := [.ref (adr 12 0), .int (xs ((x4 + (1 : Int32))).toNatClampNeg), .int (xs ((x4 + (2 : Int32))).toNatClampNeg), .ref (adr 13 10)]) (st := []) (S1 := fun r1 => .int r1 :: []) (n := 530) hC (c_L_flat l hl0 (xs ((x4 + (1 : Int32))).toNatClampNeg) (xs ((x4 + (2 : Int32))).toNatClampNeg) M) kw_L_flat wd_5_120 hIL dL_law_527 rfl rfl rfl (Nat.le_of_ble_eq_true rfl) ⟨Nat.le_of_ble_eq_true rfl, Nat.le_of_ble_eq_true rfl⟩ ⟨by show _ ≤ (601024 : Nat); omega, by show _ ≤ (7293034 : Nat); omega⟩ (fun _ => rfl) rfl (fun r1 M1 _ => ?_)
  refine hz_istore (L' := [(5, .int r1), (0, .ref b), (1, .ref (adr 12 0)), (2, .ref (adr 13 0)), (3, .ref (adr 13 10)), (4, .int x4)]) (n := 532) hC dL_law_530 (by decide) rfl rfl ?_
  refine hz_aload_n (a := 3) (n := 533) hC dL_law_532 rfl rfl rfl ?_
  refine hz_aload_n (a := 1) (n := 534) hC dL_law_533 rfl rfl rfl ?_
  refine hz_iload (a := 5) (n := 536) hC dL_law_534 rfl rfl ?_
  refine hz_iconst (v := (1 : Int32)) (n := 537) hC dL_law_536 (by decide +kernel) rfl ?_
  refine hz_iadd (n := 538) hC dL_law_537 rfl ?_
  refine hz_sld (n := 539) hC hX hbl hbA dL_law_538 rfl ?_
  refine hz_aload_n (a := 1) (n := 540) hC dL_law_539 rfl rfl rfl ?_
  refine hz_iload (a := 5) (n := 542) hC dL_law_540 rfl rfl ?_
  refine hz_iconst (v := (2 : Int32)) (n := 543) hC dL_law_542 (by decide +kernel) rfl ?_
  refine hz_iadd (n := 544) hC dL_law_543 rfl ?_
  refine hz_sld (n := 545) hC hX hbl hbA dL_law_544 rfl ?_
  refine hz_callV (k := 2) (As := [.int (xs ((x4 + (1 : Int32))).toNatClampNeg), .int (xs ((x4 + (2 : Int32))).toNatClampNeg)]) (st := []) (S1 := fun r => .int r :: []) (n := 548) hC (c_X9_flat l (xs ((x4 + (1 : Int32))).toNatClampNeg) (xs ((x4 + (2 : Int32))).toNatClampNeg)   M1) kv_X9_flat wd_7_209 hIL.2.1 dL_law_545 rfl (hIL.2.1 0 (by decide)) he_X9 rfl rfl rfl (Nat.le_of_ble_eq_true rfl) ⟨Nat.le_of_ble_eq_true rfl, Nat.le_of_ble_eq_true rfl⟩ ⟨by show _ ≤ (601024 : Nat); omega, by show _ ≤ (7293034 : Nat); omega⟩ (fun _ => rfl) rfl (fun r2 M2 _ => ?_)
  refine hz_istore (L' := [(6, .int r2), (5, .int r1), (0, .ref b), (1, .ref (adr 12 0)), (2, .ref (adr 13 0)), (3, .ref (adr 13 10)), (4, .int x4)]) (n := 550) hC dL_law_548 (by decide) rfl rfl ?_
  refine hz_aload_n (a := 4) (n := 551) hC dL_law_550 rfl rfl rfl ?_
  refine hz_callV (k := 0) (As := []) (st := []) (S1 := fun r => .int r :: []) (n := 554) hC (c_X9_thrown l    M2) kv_X9_thrown wd_7_165 hIL.2.1 dL_law_551 rfl (hIL.2.1 0 (by decide)) he_X9 rfl rfl rfl (Nat.le_of_ble_eq_true rfl) ⟨Nat.le_of_ble_eq_true rfl, Nat.le_of_ble_eq_true rfl⟩ ⟨by show _ ≤ (601024 : Nat); omega, by show _ ≤ (7293034 : Nat); omega⟩ (fun _ => rfl) rfl (fun r3 M3 _ => ?_)
  refine hz_iload (a := 1) (n := 556) hC dL_law_554 rfl rfl ?_
  refine hz_icmp_eq (tgt := 561) (n := 559) hC dL_law_556 (by decide) rfl (fun _ => ?_) (fun _ => ?_)
  · refine hz_iload (a := 1) (n := 563) hC dL_law_561 rfl rfl ?_
    refine hz_if_ne (tgt := 578) (n := 566) hC dL_law_563 (by decide) rfl (fun _ => ?_) (fun _ => ?_)
    · refine hz_aload_n (a := 5) (n := 567) hC dL_law_566 rfl rfl rfl ?_
      refine hz_iconst (v := (0 : Int32)) (n := 568) hC dL_law_567 (by decide +kernel) rfl ?_
      refine hz_lald13 (n := 569) hC dL_law_568 hIL.2.2 rfl ?_
      refine hz_iload (a := 0) (n := 571) hC dL_law_569 rfl rfl ?_
      refine hz_i2l (n := 572) hC dL_law_571 rfl ?_
      refine hz_lcmp (n := 573) hC dL_law_572 rfl ?_
      refine hz_if_eq (tgt := 578) (n := 576) hC dL_law_573 (by decide) rfl (fun _ => ?_) (fun _ => ?_)
      · refine hz_goto (n := 2257) hC dL_law_578 (by decide) ?_
        refine hz_L (L' := [(0, .ref b), (1, .ref (adr 12 0)), (2, .ref (adr 13 0)), (3, .ref (adr 13 10)), (4, .int x4)]) [2, 3, 4, 5, 6] rfl ?_
        exact hz_widen (k0 := cells + 45) (s0 := slots + 9000) ⟨by omega, by omega⟩ (kk M3 adr hp_sim.rf)
      · exact hz_none hC
    · refine hz_goto (n := 2257) hC dL_law_578 (by decide) ?_
      refine hz_L (L' := [(0, .ref b), (1, .ref (adr 12 0)), (2, .ref (adr 13 0)), (3, .ref (adr 13 10)), (4, .int x4)]) [2, 3, 4, 5, 6] rfl ?_
      exact hz_widen (k0 := cells + 45) (s0 := slots + 9000) ⟨by omega, by omega⟩ (kk M3 adr hp_sim.rf)
  · exact hz_none hC
def C_law_6 {α : Type} (N : Nat) (xs : Nat → Int32) (x4 : Int32) (K : hp_M → Option α) (M : hp_M) : Option α := (if (x4 + (1 : Int32)) < 0 ∨ N ≤ ((x4 + (1 : Int32))).toNatClampNeg then none else (hp_b (F_X8_queued (xs ((x4 + (1 : Int32))).toNatClampNeg) M) (fun r1 M1 => (if (x4 + (1 : Int32)) < 0 ∨ N ≤ ((x4 + (1 : Int32))).toNatClampNeg then none else (hp_b (F_X9_queued (xs ((x4 + (1 : Int32))).toNatClampNeg) M1) (fun r2 M2 => (if r1 = r2 then (K M2) else none)))))))
set_option maxRecDepth 20000 in
set_option maxHeartbeats 4000000 in
theorem z_law_6 {p : Program} {l : Launch} {e : Env} {s : State} {m : MethodId} {args : Array Value} {below : List Frame} {meth : Method} {c : Code} {A : Nat → Prop} {D : va_G} {ids : List (Nat × Nat)} {adr : Nat → Nat → Nat} {adV cA : Nat → Nat} {Q : State → Prop} {α : Type} {G0 : Option α} {b N : Nat} {xs : Nat → Int32} (hl0 : l.stackTraces = false) (hIL : hp_IL ids) (hC : hp_Cx p s m meth c cL_law 9 "HallPhoneLaw" A D adV cA G0) (hX : va_X b N xs s s.heap) (hbl : b < s.heap.size) (hbA : ¬ A b) (x4 : Int32) (K : hp_M → Option α) (M : hp_M) (cells slots : Nat) (hcs : cells + 45 ≤ 601024 ∧ slots + 9000 ≤ 7293034) (kk : ∀ (M' : hp_M) (adr' : Nat → Nat → Nat), hp_sim adr adr' → hp_Z p l e room_1 s m args below meth c 9 A D ids adr' adV cA (cells + 45) (slots + 9000) Q G0 none 2257 [(0, .ref b), (1, .ref (adr' 12 0)), (2, .ref (adr' 13 0)), (3, .ref (adr' 13 10)), (4, .int x4)] [] M' (K M')) : hp_Z p l e room_1 s m args below meth c 9 A D ids adr adV cA cells slots Q G0 none 581 [(0, .ref b), (1, .ref (adr 12 0)), (2, .ref (adr 13 0)), (3, .ref (adr 13 10)), (4, .int x4)] [] M (C_law_6 N xs x4 K M) := by
  have hIB := hIL.1
  have hI := hIB.1
  unfold C_law_6
  refine hz_aload_n (a := 1) (n := 582) hC dL_law_581 rfl rfl rfl ?_
  refine hz_aload_n (a := 0) (n := 583) hC dL_law_582 rfl rfl rfl ?_
  refine hz_iload (a := 4) (n := 585) hC dL_law_583 rfl rfl ?_
  refine hz_iconst (v := (1 : Int32)) (n := 586) hC dL_law_585 (by decide +kernel) rfl ?_
  refine hz_iadd (n := 587) hC dL_law_586 rfl ?_
  refine hz_sld (n := 588) hC hX hbl hbA dL_law_587 rfl ?_
  refine hz_callV (k := 1) (As := [.int (xs ((x4 + (1 : Int32))).toNatClampNeg)]) (st := []) (S1 := fun r => .int r :: []) (n := 591) hC (c_X8_queued l (xs ((x4 + (1 : Int32))).toNatClampNeg)   M) kv_X8_queued wd_3_94 hI dL_law_588 rfl (hI.2 0 (by decide)) he_X8 rfl rfl rfl (Nat.le_of_ble_eq_true rfl) ⟨Nat.le_of_ble_eq_true rfl, Nat.le_of_ble_eq_true rfl⟩ ⟨by show _ ≤ (601024 : Nat); omega, by show _ ≤ (7293034 : Nat); omega⟩ (fun _ => rfl) rfl (fun r1 M1 _ => ?_)
  refine hz_aload_n (a := 2) (n := 592) hC dL_law_591 rfl rfl rfl ?_
  refine hz_aload_n (a := 0) (n := 593) hC dL_law_592 rfl rfl rfl ?_
  refine hz_iload (a := 4) (n := 595) hC dL_law_593 rfl rfl ?_
  refine hz_iconst (v := (1 : Int32)) (n := 596) hC dL_law_595 (by decide +kernel) rfl ?_
  refine hz_iadd (n := 597) hC dL_law_596 rfl ?_
  refine hz_sld (n := 598) hC hX hbl hbA dL_law_597 rfl ?_
  refine hz_callV (k := 1) (As := [.int (xs ((x4 + (1 : Int32))).toNatClampNeg)]) (st := [.int r1]) (S1 := fun r => .int r :: [.int r1]) (n := 601) hC (c_X9_queued l (xs ((x4 + (1 : Int32))).toNatClampNeg)   M1) kv_X9_queued wd_7_229 hIL.2.1 dL_law_598 rfl (hIL.2.1 0 (by decide)) he_X9 rfl rfl rfl (Nat.le_of_ble_eq_true rfl) ⟨Nat.le_of_ble_eq_true rfl, Nat.le_of_ble_eq_true rfl⟩ ⟨by show _ ≤ (601024 : Nat); omega, by show _ ≤ (7293034 : Nat); omega⟩ (fun _ => rfl) rfl (fun r2 M2 _ => ?_)
  refine hz_icmp_eq (tgt := 2257) (n := 604) hC dL_law_601 (by decide) rfl (fun _ => ?_) (fun _ => ?_)
  · refine hz_L (L' := [(0, .ref b), (1, .ref (adr 12 0)), (2, .ref (adr 13 0)), (3, .ref (adr 13 10)), (4, .int x4)]) [0, 1, 2, 3, 4] rfl ?_
    exact hz_widen (k0 := cells + 45) (s0 := slots + 9000) ⟨by omega, by omega⟩ (kk M2 adr hp_sim.rf)
  · exact hz_none hC
def C_law_7 {α : Type} (N : Nat) (xs : Nat → Int32) (x4 : Int32) (K : hp_M → Option α) (M : hp_M) : Option α := (if (x4 + (1 : Int32)) < 0 ∨ N ≤ ((x4 + (1 : Int32))).toNatClampNeg then none else (if (x4 + (2 : Int32)) < 0 ∨ N ≤ ((x4 + (2 : Int32))).toNatClampNeg then none else (hp_b (F_L_message (xs ((x4 + (1 : Int32))).toNatClampNeg) (xs ((x4 + (2 : Int32))).toNatClampNeg) M) (fun r1 M1 => (if (x4 + (1 : Int32)) < 0 ∨ N ≤ ((x4 + (1 : Int32))).toNatClampNeg then none else (if (x4 + (2 : Int32)) < 0 ∨ N ≤ ((x4 + (2 : Int32))).toNatClampNeg then none else (hp_b (F_X9_message (xs ((x4 + (1 : Int32))).toNatClampNeg) (xs ((x4 + (2 : Int32))).toNatClampNeg) M1) (fun r2 M2 => (hp_b (F_X9_thrown M2) (fun r3 M3 => (if r3 = r1 then (if r1 = 0 then (if (lg_cmp ((M3 13 10 0).toInt64) ((r2).toInt64)) = 0 then (K M3) else none) else (K M3)) else none)))))))))))
set_option maxRecDepth 20000 in
set_option maxHeartbeats 4000000 in
theorem z_law_7 {p : Program} {l : Launch} {e : Env} {s : State} {m : MethodId} {args : Array Value} {below : List Frame} {meth : Method} {c : Code} {A : Nat → Prop} {D : va_G} {ids : List (Nat × Nat)} {adr : Nat → Nat → Nat} {adV cA : Nat → Nat} {Q : State → Prop} {α : Type} {G0 : Option α} {b N : Nat} {xs : Nat → Int32} (hl0 : l.stackTraces = false) (hIL : hp_IL ids) (hC : hp_Cx p s m meth c cL_law 9 "HallPhoneLaw" A D adV cA G0) (hX : va_X b N xs s s.heap) (hbl : b < s.heap.size) (hbA : ¬ A b) (x4 : Int32) (K : hp_M → Option α) (M : hp_M) (cells slots : Nat) (hcs : cells + 45 ≤ 601024 ∧ slots + 9000 ≤ 7293034) (kk : ∀ (M' : hp_M) (adr' : Nat → Nat → Nat), hp_sim adr adr' → hp_Z p l e room_1 s m args below meth c 9 A D ids adr' adV cA (cells + 45) (slots + 9000) Q G0 none 2257 [(0, .ref b), (1, .ref (adr' 12 0)), (2, .ref (adr' 13 0)), (3, .ref (adr' 13 10)), (4, .int x4)] [] M' (K M')) : hp_Z p l e room_1 s m args below meth c 9 A D ids adr adV cA cells slots Q G0 none 606 [(0, .ref b), (1, .ref (adr 12 0)), (2, .ref (adr 13 0)), (3, .ref (adr 13 10)), (4, .int x4)] [] M (C_law_7 N xs x4 K M) := by
  have hIB := hIL.1
  have hI := hIB.1
  unfold C_law_7
  refine hz_aload_n (a := 1) (n := 607) hC dL_law_606 rfl rfl rfl ?_
  refine hz_aload_n (a := 0) (n := 608) hC dL_law_607 rfl rfl rfl ?_
  refine hz_iload (a := 4) (n := 610) hC dL_law_608 rfl rfl ?_
  refine hz_iconst (v := (1 : Int32)) (n := 611) hC dL_law_610 (by decide +kernel) rfl ?_
  refine hz_iadd (n := 612) hC dL_law_611 rfl ?_
  refine hz_sld (n := 613) hC hX hbl hbA dL_law_612 rfl ?_
  refine hz_aload_n (a := 0) (n := 614) hC dL_law_613 rfl rfl rfl ?_
  refine hz_iload (a := 4) (n := 616) hC dL_law_614 rfl rfl ?_
  refine hz_iconst (v := (2 : Int32)) (n := 617) hC dL_law_616 (by decide +kernel) rfl ?_
  refine hz_iadd (n := 618) hC dL_law_617 rfl ?_
  refine hz_sld (n := 619) hC hX hbl hbA dL_law_618 rfl ?_
  refine hz_aload_n (a := 3) (n := 620) hC dL_law_619 rfl rfl rfl ?_
  refine hz_callSW (k := 4) (As := [.ref (adr 12 0), .int (xs ((x4 + (1 : Int32))).toNatClampNeg), .int (xs ((x4 + (2 : Int32))).toNatClampNeg), .ref (adr 13 10)]) (st := []) (S1 := fun r1 => .int r1 :: []) (n := 623) hC (c_L_message l hl0 (xs ((x4 + (1 : Int32))).toNatClampNeg) (xs ((x4 + (2 : Int32))).toNatClampNeg) M) kw_L_message wd_5_145 hIL dL_law_620 rfl rfl rfl (Nat.le_of_ble_eq_true rfl) ⟨Nat.le_of_ble_eq_true rfl, Nat.le_of_ble_eq_true rfl⟩ ⟨by show _ ≤ (601024 : Nat); omega, by show _ ≤ (7293034 : Nat); omega⟩ (fun _ => rfl) rfl (fun r1 M1 _ => ?_)
  refine hz_istore (L' := [(5, .int r1), (0, .ref b), (1, .ref (adr 12 0)), (2, .ref (adr 13 0)), (3, .ref (adr 13 10)), (4, .int x4)]) (n := 625) hC dL_law_623 (by decide) rfl rfl ?_
  refine hz_aload_n (a := 3) (n := 626) hC dL_law_625 rfl rfl rfl ?_
  refine hz_aload_n (a := 1) (n := 627) hC dL_law_626 rfl rfl rfl ?_
  refine hz_iload (a := 5) (n := 629) hC dL_law_627 rfl rfl ?_
  refine hz_iconst (v := (1 : Int32)) (n := 630) hC dL_law_629 (by decide +kernel) rfl ?_
  refine hz_iadd (n := 631) hC dL_law_630 rfl ?_
  refine hz_sld (n := 632) hC hX hbl hbA dL_law_631 rfl ?_
  refine hz_aload_n (a := 1) (n := 633) hC dL_law_632 rfl rfl rfl ?_
  refine hz_iload (a := 5) (n := 635) hC dL_law_633 rfl rfl ?_
  refine hz_iconst (v := (2 : Int32)) (n := 636) hC dL_law_635 (by decide +kernel) rfl ?_
  refine hz_iadd (n := 637) hC dL_law_636 rfl ?_
  refine hz_sld (n := 638) hC hX hbl hbA dL_law_637 rfl ?_
  refine hz_callV (k := 2) (As := [.int (xs ((x4 + (1 : Int32))).toNatClampNeg), .int (xs ((x4 + (2 : Int32))).toNatClampNeg)]) (st := []) (S1 := fun r => .int r :: []) (n := 641) hC (c_X9_message l (xs ((x4 + (1 : Int32))).toNatClampNeg) (xs ((x4 + (2 : Int32))).toNatClampNeg)   M1) kv_X9_message wd_7_233 hIL.2.1 dL_law_638 rfl (hIL.2.1 0 (by decide)) he_X9 rfl rfl rfl (Nat.le_of_ble_eq_true rfl) ⟨Nat.le_of_ble_eq_true rfl, Nat.le_of_ble_eq_true rfl⟩ ⟨by show _ ≤ (601024 : Nat); omega, by show _ ≤ (7293034 : Nat); omega⟩ (fun _ => rfl) rfl (fun r2 M2 _ => ?_)
  refine hz_istore (L' := [(6, .int r2), (5, .int r1), (0, .ref b), (1, .ref (adr 12 0)), (2, .ref (adr 13 0)), (3, .ref (adr 13 10)), (4, .int x4)]) (n := 643) hC dL_law_641 (by decide) rfl rfl ?_
  refine hz_aload_n (a := 4) (n := 644) hC dL_law_643 rfl rfl rfl ?_
  refine hz_callV (k := 0) (As := []) (st := []) (S1 := fun r => .int r :: []) (n := 647) hC (c_X9_thrown l    M2) kv_X9_thrown wd_7_165 hIL.2.1 dL_law_644 rfl (hIL.2.1 0 (by decide)) he_X9 rfl rfl rfl (Nat.le_of_ble_eq_true rfl) ⟨Nat.le_of_ble_eq_true rfl, Nat.le_of_ble_eq_true rfl⟩ ⟨by show _ ≤ (601024 : Nat); omega, by show _ ≤ (7293034 : Nat); omega⟩ (fun _ => rfl) rfl (fun r3 M3 _ => ?_)
  refine hz_iload (a := 1) (n := 649) hC dL_law_647 rfl rfl ?_
  refine hz_icmp_eq (tgt := 654) (n := 652) hC dL_law_649 (by decide) rfl (fun _ => ?_) (fun _ => ?_)
  · refine hz_iload (a := 1) (n := 656) hC dL_law_654 rfl rfl ?_
    refine hz_if_ne (tgt := 671) (n := 659) hC dL_law_656 (by decide) rfl (fun _ => ?_) (fun _ => ?_)
    · refine hz_aload_n (a := 5) (n := 660) hC dL_law_659 rfl rfl rfl ?_
      refine hz_iconst (v := (0 : Int32)) (n := 661) hC dL_law_660 (by decide +kernel) rfl ?_
      refine hz_lald13 (n := 662) hC dL_law_661 hIL.2.2 rfl ?_
      refine hz_iload (a := 0) (n := 664) hC dL_law_662 rfl rfl ?_
      refine hz_i2l (n := 665) hC dL_law_664 rfl ?_
      refine hz_lcmp (n := 666) hC dL_law_665 rfl ?_
      refine hz_if_eq (tgt := 671) (n := 669) hC dL_law_666 (by decide) rfl (fun _ => ?_) (fun _ => ?_)
      · refine hz_goto (n := 2257) hC dL_law_671 (by decide) ?_
        refine hz_L (L' := [(0, .ref b), (1, .ref (adr 12 0)), (2, .ref (adr 13 0)), (3, .ref (adr 13 10)), (4, .int x4)]) [2, 3, 4, 5, 6] rfl ?_
        exact hz_widen (k0 := cells + 45) (s0 := slots + 9000) ⟨by omega, by omega⟩ (kk M3 adr hp_sim.rf)
      · exact hz_none hC
    · refine hz_goto (n := 2257) hC dL_law_671 (by decide) ?_
      refine hz_L (L' := [(0, .ref b), (1, .ref (adr 12 0)), (2, .ref (adr 13 0)), (3, .ref (adr 13 10)), (4, .int x4)]) [2, 3, 4, 5, 6] rfl ?_
      exact hz_widen (k0 := cells + 45) (s0 := slots + 9000) ⟨by omega, by omega⟩ (kk M3 adr hp_sim.rf)
  · exact hz_none hC
def C_law_8 {α : Type} (N : Nat) (xs : Nat → Int32) (x4 : Int32) (K : hp_M → Option α) (M : hp_M) : Option α := (if (x4 + (1 : Int32)) < 0 ∨ N ≤ ((x4 + (1 : Int32))).toNatClampNeg then none else (if (x4 + (2 : Int32)) < 0 ∨ N ≤ ((x4 + (2 : Int32))).toNatClampNeg then none else (hp_b (F_L_heard (xs ((x4 + (1 : Int32))).toNatClampNeg) (xs ((x4 + (2 : Int32))).toNatClampNeg) M) (fun r1 M1 => (if (x4 + (1 : Int32)) < 0 ∨ N ≤ ((x4 + (1 : Int32))).toNatClampNeg then none else (if (x4 + (2 : Int32)) < 0 ∨ N ≤ ((x4 + (2 : Int32))).toNatClampNeg then none else (hp_b (F_X9_heard (xs ((x4 + (1 : Int32))).toNatClampNeg) (xs ((x4 + (2 : Int32))).toNatClampNeg) M1) (fun r2 M2 => (hp_b (F_X9_thrown M2) (fun r3 M3 => (if r3 = r1 then (if r1 = 0 then (if (lg_cmp ((M3 13 10 0).toInt64) ((r2).toInt64)) = 0 then (K M3) else none) else (K M3)) else none)))))))))))
set_option maxRecDepth 20000 in
set_option maxHeartbeats 4000000 in
theorem z_law_8 {p : Program} {l : Launch} {e : Env} {s : State} {m : MethodId} {args : Array Value} {below : List Frame} {meth : Method} {c : Code} {A : Nat → Prop} {D : va_G} {ids : List (Nat × Nat)} {adr : Nat → Nat → Nat} {adV cA : Nat → Nat} {Q : State → Prop} {α : Type} {G0 : Option α} {b N : Nat} {xs : Nat → Int32} (hl0 : l.stackTraces = false) (hIL : hp_IL ids) (hC : hp_Cx p s m meth c cL_law 9 "HallPhoneLaw" A D adV cA G0) (hX : va_X b N xs s s.heap) (hbl : b < s.heap.size) (hbA : ¬ A b) (x4 : Int32) (K : hp_M → Option α) (M : hp_M) (cells slots : Nat) (hcs : cells + 45 ≤ 601024 ∧ slots + 9000 ≤ 7293034) (kk : ∀ (M' : hp_M) (adr' : Nat → Nat → Nat), hp_sim adr adr' → hp_Z p l e room_1 s m args below meth c 9 A D ids adr' adV cA (cells + 45) (slots + 9000) Q G0 none 2257 [(0, .ref b), (1, .ref (adr' 12 0)), (2, .ref (adr' 13 0)), (3, .ref (adr' 13 10)), (4, .int x4)] [] M' (K M')) : hp_Z p l e room_1 s m args below meth c 9 A D ids adr adV cA cells slots Q G0 none 674 [(0, .ref b), (1, .ref (adr 12 0)), (2, .ref (adr 13 0)), (3, .ref (adr 13 10)), (4, .int x4)] [] M (C_law_8 N xs x4 K M) := by
  have hIB := hIL.1
  have hI := hIB.1
  unfold C_law_8
  refine hz_aload_n (a := 1) (n := 675) hC dL_law_674 rfl rfl rfl ?_
  refine hz_aload_n (a := 0) (n := 676) hC dL_law_675 rfl rfl rfl ?_
  refine hz_iload (a := 4) (n := 678) hC dL_law_676 rfl rfl ?_
  refine hz_iconst (v := (1 : Int32)) (n := 679) hC dL_law_678 (by decide +kernel) rfl ?_
  refine hz_iadd (n := 680) hC dL_law_679 rfl ?_
  refine hz_sld (n := 681) hC hX hbl hbA dL_law_680 rfl ?_
  refine hz_aload_n (a := 0) (n := 682) hC dL_law_681 rfl rfl rfl ?_
  refine hz_iload (a := 4) (n := 684) hC dL_law_682 rfl rfl ?_
  refine hz_iconst (v := (2 : Int32)) (n := 685) hC dL_law_684 (by decide +kernel) rfl ?_
  refine hz_iadd (n := 686) hC dL_law_685 rfl ?_
  refine hz_sld (n := 687) hC hX hbl hbA dL_law_686 rfl ?_
  refine hz_aload_n (a := 3) (n := 688) hC dL_law_687 rfl rfl rfl ?_
  refine hz_callSW (k := 4) (As := [.ref (adr 12 0), .int (xs ((x4 + (1 : Int32))).toNatClampNeg), .int (xs ((x4 + (2 : Int32))).toNatClampNeg), .ref (adr 13 10)]) (st := []) (S1 := fun r1 => .int r1 :: []) (n := 691) hC (c_L_heard l hl0 (xs ((x4 + (1 : Int32))).toNatClampNeg) (xs ((x4 + (2 : Int32))).toNatClampNeg) M) kw_L_heard wd_5_169 hIL dL_law_688 rfl rfl rfl (Nat.le_of_ble_eq_true rfl) ⟨Nat.le_of_ble_eq_true rfl, Nat.le_of_ble_eq_true rfl⟩ ⟨by show _ ≤ (601024 : Nat); omega, by show _ ≤ (7293034 : Nat); omega⟩ (fun _ => rfl) rfl (fun r1 M1 _ => ?_)
  refine hz_istore (L' := [(5, .int r1), (0, .ref b), (1, .ref (adr 12 0)), (2, .ref (adr 13 0)), (3, .ref (adr 13 10)), (4, .int x4)]) (n := 693) hC dL_law_691 (by decide) rfl rfl ?_
  refine hz_aload_n (a := 3) (n := 694) hC dL_law_693 rfl rfl rfl ?_
  refine hz_aload_n (a := 1) (n := 695) hC dL_law_694 rfl rfl rfl ?_
  refine hz_iload (a := 5) (n := 697) hC dL_law_695 rfl rfl ?_
  refine hz_iconst (v := (1 : Int32)) (n := 698) hC dL_law_697 (by decide +kernel) rfl ?_
  refine hz_iadd (n := 699) hC dL_law_698 rfl ?_
  refine hz_sld (n := 700) hC hX hbl hbA dL_law_699 rfl ?_
  refine hz_aload_n (a := 1) (n := 701) hC dL_law_700 rfl rfl rfl ?_
  refine hz_iload (a := 5) (n := 703) hC dL_law_701 rfl rfl ?_
  refine hz_iconst (v := (2 : Int32)) (n := 704) hC dL_law_703 (by decide +kernel) rfl ?_
  refine hz_iadd (n := 705) hC dL_law_704 rfl ?_
  refine hz_sld (n := 706) hC hX hbl hbA dL_law_705 rfl ?_
  refine hz_callV (k := 2) (As := [.int (xs ((x4 + (1 : Int32))).toNatClampNeg), .int (xs ((x4 + (2 : Int32))).toNatClampNeg)]) (st := []) (S1 := fun r => .int r :: []) (n := 709) hC (c_X9_heard l (xs ((x4 + (1 : Int32))).toNatClampNeg) (xs ((x4 + (2 : Int32))).toNatClampNeg)   M1) kv_X9_heard wd_7_237 hIL.2.1 dL_law_706 rfl (hIL.2.1 0 (by decide)) he_X9 rfl rfl rfl (Nat.le_of_ble_eq_true rfl) ⟨Nat.le_of_ble_eq_true rfl, Nat.le_of_ble_eq_true rfl⟩ ⟨by show _ ≤ (601024 : Nat); omega, by show _ ≤ (7293034 : Nat); omega⟩ (fun _ => rfl) rfl (fun r2 M2 _ => ?_)
  refine hz_istore (L' := [(6, .int r2), (5, .int r1), (0, .ref b), (1, .ref (adr 12 0)), (2, .ref (adr 13 0)), (3, .ref (adr 13 10)), (4, .int x4)]) (n := 711) hC dL_law_709 (by decide) rfl rfl ?_
  refine hz_aload_n (a := 4) (n := 712) hC dL_law_711 rfl rfl rfl ?_
  refine hz_callV (k := 0) (As := []) (st := []) (S1 := fun r => .int r :: []) (n := 715) hC (c_X9_thrown l    M2) kv_X9_thrown wd_7_165 hIL.2.1 dL_law_712 rfl (hIL.2.1 0 (by decide)) he_X9 rfl rfl rfl (Nat.le_of_ble_eq_true rfl) ⟨Nat.le_of_ble_eq_true rfl, Nat.le_of_ble_eq_true rfl⟩ ⟨by show _ ≤ (601024 : Nat); omega, by show _ ≤ (7293034 : Nat); omega⟩ (fun _ => rfl) rfl (fun r3 M3 _ => ?_)
  refine hz_iload (a := 1) (n := 717) hC dL_law_715 rfl rfl ?_
  refine hz_icmp_eq (tgt := 722) (n := 720) hC dL_law_717 (by decide) rfl (fun _ => ?_) (fun _ => ?_)
  · refine hz_iload (a := 1) (n := 724) hC dL_law_722 rfl rfl ?_
    refine hz_if_ne (tgt := 739) (n := 727) hC dL_law_724 (by decide) rfl (fun _ => ?_) (fun _ => ?_)
    · refine hz_aload_n (a := 5) (n := 728) hC dL_law_727 rfl rfl rfl ?_
      refine hz_iconst (v := (0 : Int32)) (n := 729) hC dL_law_728 (by decide +kernel) rfl ?_
      refine hz_lald13 (n := 730) hC dL_law_729 hIL.2.2 rfl ?_
      refine hz_iload (a := 0) (n := 732) hC dL_law_730 rfl rfl ?_
      refine hz_i2l (n := 733) hC dL_law_732 rfl ?_
      refine hz_lcmp (n := 734) hC dL_law_733 rfl ?_
      refine hz_if_eq (tgt := 739) (n := 737) hC dL_law_734 (by decide) rfl (fun _ => ?_) (fun _ => ?_)
      · refine hz_goto (n := 2257) hC dL_law_739 (by decide) ?_
        refine hz_L (L' := [(0, .ref b), (1, .ref (adr 12 0)), (2, .ref (adr 13 0)), (3, .ref (adr 13 10)), (4, .int x4)]) [2, 3, 4, 5, 6] rfl ?_
        exact hz_widen (k0 := cells + 45) (s0 := slots + 9000) ⟨by omega, by omega⟩ (kk M3 adr hp_sim.rf)
      · exact hz_none hC
    · refine hz_goto (n := 2257) hC dL_law_739 (by decide) ?_
      refine hz_L (L' := [(0, .ref b), (1, .ref (adr 12 0)), (2, .ref (adr 13 0)), (3, .ref (adr 13 10)), (4, .int x4)]) [2, 3, 4, 5, 6] rfl ?_
      exact hz_widen (k0 := cells + 45) (s0 := slots + 9000) ⟨by omega, by omega⟩ (kk M3 adr hp_sim.rf)
  · exact hz_none hC
def C_law_9 {α : Type} (N : Nat) (xs : Nat → Int32) (x4 : Int32) (K : hp_M → Option α) (M : hp_M) : Option α := (if (x4 + (1 : Int32)) < 0 ∨ N ≤ ((x4 + (1 : Int32))).toNatClampNeg then none else (hp_b (F_L_knowing (xs ((x4 + (1 : Int32))).toNatClampNeg) M) (fun r1 M1 => (if (x4 + (1 : Int32)) < 0 ∨ N ≤ ((x4 + (1 : Int32))).toNatClampNeg then none else (hp_b (F_X9_knowing (xs ((x4 + (1 : Int32))).toNatClampNeg) M1) (fun r2 M2 => (hp_b (F_X9_thrown M2) (fun r3 M3 => (if r3 = r1 then (if r1 = 0 then (if (lg_cmp ((M3 13 10 0).toInt64) ((r2).toInt64)) = 0 then (K M3) else none) else (K M3)) else none)))))))))
set_option maxRecDepth 20000 in
set_option maxHeartbeats 4000000 in
theorem z_law_9 {p : Program} {l : Launch} {e : Env} {s : State} {m : MethodId} {args : Array Value} {below : List Frame} {meth : Method} {c : Code} {A : Nat → Prop} {D : va_G} {ids : List (Nat × Nat)} {adr : Nat → Nat → Nat} {adV cA : Nat → Nat} {Q : State → Prop} {α : Type} {G0 : Option α} {b N : Nat} {xs : Nat → Int32} (hl0 : l.stackTraces = false) (hIL : hp_IL ids) (hC : hp_Cx p s m meth c cL_law 9 "HallPhoneLaw" A D adV cA G0) (hX : va_X b N xs s s.heap) (hbl : b < s.heap.size) (hbA : ¬ A b) (x4 : Int32) (K : hp_M → Option α) (M : hp_M) (cells slots : Nat) (hcs : cells + 45 ≤ 601024 ∧ slots + 9000 ≤ 7293034) (kk : ∀ (M' : hp_M) (adr' : Nat → Nat → Nat), hp_sim adr adr' → hp_Z p l e room_1 s m args below meth c 9 A D ids adr' adV cA (cells + 45) (slots + 9000) Q G0 none 2257 [(0, .ref b), (1, .ref (adr' 12 0)), (2, .ref (adr' 13 0)), (3, .ref (adr' 13 10)), (4, .int x4)] [] M' (K M')) : hp_Z p l e room_1 s m args below meth c 9 A D ids adr adV cA cells slots Q G0 none 742 [(0, .ref b), (1, .ref (adr 12 0)), (2, .ref (adr 13 0)), (3, .ref (adr 13 10)), (4, .int x4)] [] M (C_law_9 N xs x4 K M) := by
  have hIB := hIL.1
  have hI := hIB.1
  unfold C_law_9
  refine hz_aload_n (a := 1) (n := 743) hC dL_law_742 rfl rfl rfl ?_
  refine hz_aload_n (a := 0) (n := 744) hC dL_law_743 rfl rfl rfl ?_
  refine hz_iload (a := 4) (n := 746) hC dL_law_744 rfl rfl ?_
  refine hz_iconst (v := (1 : Int32)) (n := 747) hC dL_law_746 (by decide +kernel) rfl ?_
  refine hz_iadd (n := 748) hC dL_law_747 rfl ?_
  refine hz_sld (n := 749) hC hX hbl hbA dL_law_748 rfl ?_
  refine hz_aload_n (a := 3) (n := 750) hC dL_law_749 rfl rfl rfl ?_
  refine hz_callSW (k := 3) (As := [.ref (adr 12 0), .int (xs ((x4 + (1 : Int32))).toNatClampNeg), .ref (adr 13 10)]) (st := []) (S1 := fun r1 => .int r1 :: []) (n := 753) hC (c_L_knowing l hl0 (xs ((x4 + (1 : Int32))).toNatClampNeg) M) kw_L_knowing wd_5_176 hIL dL_law_750 rfl rfl rfl (Nat.le_of_ble_eq_true rfl) ⟨Nat.le_of_ble_eq_true rfl, Nat.le_of_ble_eq_true rfl⟩ ⟨by show _ ≤ (601024 : Nat); omega, by show _ ≤ (7293034 : Nat); omega⟩ (fun _ => rfl) rfl (fun r1 M1 _ => ?_)
  refine hz_istore (L' := [(5, .int r1), (0, .ref b), (1, .ref (adr 12 0)), (2, .ref (adr 13 0)), (3, .ref (adr 13 10)), (4, .int x4)]) (n := 755) hC dL_law_753 (by decide) rfl rfl ?_
  refine hz_aload_n (a := 3) (n := 756) hC dL_law_755 rfl rfl rfl ?_
  refine hz_aload_n (a := 1) (n := 757) hC dL_law_756 rfl rfl rfl ?_
  refine hz_iload (a := 5) (n := 759) hC dL_law_757 rfl rfl ?_
  refine hz_iconst (v := (1 : Int32)) (n := 760) hC dL_law_759 (by decide +kernel) rfl ?_
  refine hz_iadd (n := 761) hC dL_law_760 rfl ?_
  refine hz_sld (n := 762) hC hX hbl hbA dL_law_761 rfl ?_
  refine hz_callV (k := 1) (As := [.int (xs ((x4 + (1 : Int32))).toNatClampNeg)]) (st := []) (S1 := fun r => .int r :: []) (n := 765) hC (c_X9_knowing l (xs ((x4 + (1 : Int32))).toNatClampNeg)   M1) kv_X9_knowing wd_8_5 hIL.2.1 dL_law_762 rfl (hIL.2.1 0 (by decide)) he_X9 rfl rfl rfl (Nat.le_of_ble_eq_true rfl) ⟨Nat.le_of_ble_eq_true rfl, Nat.le_of_ble_eq_true rfl⟩ ⟨by show _ ≤ (601024 : Nat); omega, by show _ ≤ (7293034 : Nat); omega⟩ (fun _ => rfl) rfl (fun r2 M2 _ => ?_)
  refine hz_istore (L' := [(6, .int r2), (5, .int r1), (0, .ref b), (1, .ref (adr 12 0)), (2, .ref (adr 13 0)), (3, .ref (adr 13 10)), (4, .int x4)]) (n := 767) hC dL_law_765 (by decide) rfl rfl ?_
  refine hz_aload_n (a := 4) (n := 768) hC dL_law_767 rfl rfl rfl ?_
  refine hz_callV (k := 0) (As := []) (st := []) (S1 := fun r => .int r :: []) (n := 771) hC (c_X9_thrown l    M2) kv_X9_thrown wd_7_165 hIL.2.1 dL_law_768 rfl (hIL.2.1 0 (by decide)) he_X9 rfl rfl rfl (Nat.le_of_ble_eq_true rfl) ⟨Nat.le_of_ble_eq_true rfl, Nat.le_of_ble_eq_true rfl⟩ ⟨by show _ ≤ (601024 : Nat); omega, by show _ ≤ (7293034 : Nat); omega⟩ (fun _ => rfl) rfl (fun r3 M3 _ => ?_)
  refine hz_iload (a := 1) (n := 773) hC dL_law_771 rfl rfl ?_
  refine hz_icmp_eq (tgt := 778) (n := 776) hC dL_law_773 (by decide) rfl (fun _ => ?_) (fun _ => ?_)
  · refine hz_iload (a := 1) (n := 780) hC dL_law_778 rfl rfl ?_
    refine hz_if_ne (tgt := 795) (n := 783) hC dL_law_780 (by decide) rfl (fun _ => ?_) (fun _ => ?_)
    · refine hz_aload_n (a := 5) (n := 784) hC dL_law_783 rfl rfl rfl ?_
      refine hz_iconst (v := (0 : Int32)) (n := 785) hC dL_law_784 (by decide +kernel) rfl ?_
      refine hz_lald13 (n := 786) hC dL_law_785 hIL.2.2 rfl ?_
      refine hz_iload (a := 0) (n := 788) hC dL_law_786 rfl rfl ?_
      refine hz_i2l (n := 789) hC dL_law_788 rfl ?_
      refine hz_lcmp (n := 790) hC dL_law_789 rfl ?_
      refine hz_if_eq (tgt := 795) (n := 793) hC dL_law_790 (by decide) rfl (fun _ => ?_) (fun _ => ?_)
      · refine hz_goto (n := 2257) hC dL_law_795 (by decide) ?_
        refine hz_L (L' := [(0, .ref b), (1, .ref (adr 12 0)), (2, .ref (adr 13 0)), (3, .ref (adr 13 10)), (4, .int x4)]) [2, 3, 4, 5, 6] rfl ?_
        exact hz_widen (k0 := cells + 45) (s0 := slots + 9000) ⟨by omega, by omega⟩ (kk M3 adr hp_sim.rf)
      · exact hz_none hC
    · refine hz_goto (n := 2257) hC dL_law_795 (by decide) ?_
      refine hz_L (L' := [(0, .ref b), (1, .ref (adr 12 0)), (2, .ref (adr 13 0)), (3, .ref (adr 13 10)), (4, .int x4)]) [2, 3, 4, 5, 6] rfl ?_
      exact hz_widen (k0 := cells + 45) (s0 := slots + 9000) ⟨by omega, by omega⟩ (kk M3 adr hp_sim.rf)
  · exact hz_none hC
def C_law_10 {α : Type} (N : Nat) (xs : Nat → Int32) (x4 : Int32) (K : hp_M → Option α) (M : hp_M) : Option α := (if (x4 + (1 : Int32)) < 0 ∨ N ≤ ((x4 + (1 : Int32))).toNatClampNeg then none else (hp_b (F_L_listening (xs ((x4 + (1 : Int32))).toNatClampNeg) M) (fun r1 M1 => (if (x4 + (1 : Int32)) < 0 ∨ N ≤ ((x4 + (1 : Int32))).toNatClampNeg then none else (hp_b (F_X9_listening (xs ((x4 + (1 : Int32))).toNatClampNeg) M1) (fun r2 M2 => (hp_b (F_X9_thrown M2) (fun r3 M3 => (if r3 = r1 then (if r1 = 0 then (if (lg_cmp ((M3 13 10 0).toInt64) ((r2).toInt64)) = 0 then (K M3) else none) else (K M3)) else none)))))))))
set_option maxRecDepth 20000 in
set_option maxHeartbeats 4000000 in
theorem z_law_10 {p : Program} {l : Launch} {e : Env} {s : State} {m : MethodId} {args : Array Value} {below : List Frame} {meth : Method} {c : Code} {A : Nat → Prop} {D : va_G} {ids : List (Nat × Nat)} {adr : Nat → Nat → Nat} {adV cA : Nat → Nat} {Q : State → Prop} {α : Type} {G0 : Option α} {b N : Nat} {xs : Nat → Int32} (hl0 : l.stackTraces = false) (hIL : hp_IL ids) (hC : hp_Cx p s m meth c cL_law 9 "HallPhoneLaw" A D adV cA G0) (hX : va_X b N xs s s.heap) (hbl : b < s.heap.size) (hbA : ¬ A b) (x4 : Int32) (K : hp_M → Option α) (M : hp_M) (cells slots : Nat) (hcs : cells + 45 ≤ 601024 ∧ slots + 9000 ≤ 7293034) (kk : ∀ (M' : hp_M) (adr' : Nat → Nat → Nat), hp_sim adr adr' → hp_Z p l e room_1 s m args below meth c 9 A D ids adr' adV cA (cells + 45) (slots + 9000) Q G0 none 2257 [(0, .ref b), (1, .ref (adr' 12 0)), (2, .ref (adr' 13 0)), (3, .ref (adr' 13 10)), (4, .int x4)] [] M' (K M')) : hp_Z p l e room_1 s m args below meth c 9 A D ids adr adV cA cells slots Q G0 none 798 [(0, .ref b), (1, .ref (adr 12 0)), (2, .ref (adr 13 0)), (3, .ref (adr 13 10)), (4, .int x4)] [] M (C_law_10 N xs x4 K M) := by
  have hIB := hIL.1
  have hI := hIB.1
  unfold C_law_10
  refine hz_aload_n (a := 1) (n := 799) hC dL_law_798 rfl rfl rfl ?_
  refine hz_aload_n (a := 0) (n := 800) hC dL_law_799 rfl rfl rfl ?_
  refine hz_iload (a := 4) (n := 802) hC dL_law_800 rfl rfl ?_
  refine hz_iconst (v := (1 : Int32)) (n := 803) hC dL_law_802 (by decide +kernel) rfl ?_
  refine hz_iadd (n := 804) hC dL_law_803 rfl ?_
  refine hz_sld (n := 805) hC hX hbl hbA dL_law_804 rfl ?_
  refine hz_aload_n (a := 3) (n := 806) hC dL_law_805 rfl rfl rfl ?_
  refine hz_callSW (k := 3) (As := [.ref (adr 12 0), .int (xs ((x4 + (1 : Int32))).toNatClampNeg), .ref (adr 13 10)]) (st := []) (S1 := fun r1 => .int r1 :: []) (n := 809) hC (c_L_listening l hl0 (xs ((x4 + (1 : Int32))).toNatClampNeg) M) kw_L_listening wd_5_183 hIL dL_law_806 rfl rfl rfl (Nat.le_of_ble_eq_true rfl) ⟨Nat.le_of_ble_eq_true rfl, Nat.le_of_ble_eq_true rfl⟩ ⟨by show _ ≤ (601024 : Nat); omega, by show _ ≤ (7293034 : Nat); omega⟩ (fun _ => rfl) rfl (fun r1 M1 _ => ?_)
  refine hz_istore (L' := [(5, .int r1), (0, .ref b), (1, .ref (adr 12 0)), (2, .ref (adr 13 0)), (3, .ref (adr 13 10)), (4, .int x4)]) (n := 811) hC dL_law_809 (by decide) rfl rfl ?_
  refine hz_aload_n (a := 3) (n := 812) hC dL_law_811 rfl rfl rfl ?_
  refine hz_aload_n (a := 1) (n := 813) hC dL_law_812 rfl rfl rfl ?_
  refine hz_iload (a := 5) (n := 815) hC dL_law_813 rfl rfl ?_
  refine hz_iconst (v := (1 : Int32)) (n := 816) hC dL_law_815 (by decide +kernel) rfl ?_
  refine hz_iadd (n := 817) hC dL_law_816 rfl ?_
  refine hz_sld (n := 818) hC hX hbl hbA dL_law_817 rfl ?_
  refine hz_callV (k := 1) (As := [.int (xs ((x4 + (1 : Int32))).toNatClampNeg)]) (st := []) (S1 := fun r => .int r :: []) (n := 821) hC (c_X9_listening l (xs ((x4 + (1 : Int32))).toNatClampNeg)   M1) kv_X9_listening wd_8_13 hIL.2.1 dL_law_818 rfl (hIL.2.1 0 (by decide)) he_X9 rfl rfl rfl (Nat.le_of_ble_eq_true rfl) ⟨Nat.le_of_ble_eq_true rfl, Nat.le_of_ble_eq_true rfl⟩ ⟨by show _ ≤ (601024 : Nat); omega, by show _ ≤ (7293034 : Nat); omega⟩ (fun _ => rfl) rfl (fun r2 M2 _ => ?_)
  refine hz_istore (L' := [(6, .int r2), (5, .int r1), (0, .ref b), (1, .ref (adr 12 0)), (2, .ref (adr 13 0)), (3, .ref (adr 13 10)), (4, .int x4)]) (n := 823) hC dL_law_821 (by decide) rfl rfl ?_
  refine hz_aload_n (a := 4) (n := 824) hC dL_law_823 rfl rfl rfl ?_
  refine hz_callV (k := 0) (As := []) (st := []) (S1 := fun r => .int r :: []) (n := 827) hC (c_X9_thrown l    M2) kv_X9_thrown wd_7_165 hIL.2.1 dL_law_824 rfl (hIL.2.1 0 (by decide)) he_X9 rfl rfl rfl (Nat.le_of_ble_eq_true rfl) ⟨Nat.le_of_ble_eq_true rfl, Nat.le_of_ble_eq_true rfl⟩ ⟨by show _ ≤ (601024 : Nat); omega, by show _ ≤ (7293034 : Nat); omega⟩ (fun _ => rfl) rfl (fun r3 M3 _ => ?_)
  refine hz_iload (a := 1) (n := 829) hC dL_law_827 rfl rfl ?_
  refine hz_icmp_eq (tgt := 834) (n := 832) hC dL_law_829 (by decide) rfl (fun _ => ?_) (fun _ => ?_)
  · refine hz_iload (a := 1) (n := 836) hC dL_law_834 rfl rfl ?_
    refine hz_if_ne (tgt := 851) (n := 839) hC dL_law_836 (by decide) rfl (fun _ => ?_) (fun _ => ?_)
    · refine hz_aload_n (a := 5) (n := 840) hC dL_law_839 rfl rfl rfl ?_
      refine hz_iconst (v := (0 : Int32)) (n := 841) hC dL_law_840 (by decide +kernel) rfl ?_
      refine hz_lald13 (n := 842) hC dL_law_841 hIL.2.2 rfl ?_
      refine hz_iload (a := 0) (n := 844) hC dL_law_842 rfl rfl ?_
      refine hz_i2l (n := 845) hC dL_law_844 rfl ?_
      refine hz_lcmp (n := 846) hC dL_law_845 rfl ?_
      refine hz_if_eq (tgt := 851) (n := 849) hC dL_law_846 (by decide) rfl (fun _ => ?_) (fun _ => ?_)
      · refine hz_goto (n := 2257) hC dL_law_851 (by decide) ?_
        refine hz_L (L' := [(0, .ref b), (1, .ref (adr 12 0)), (2, .ref (adr 13 0)), (3, .ref (adr 13 10)), (4, .int x4)]) [2, 3, 4, 5, 6] rfl ?_
        exact hz_widen (k0 := cells + 45) (s0 := slots + 9000) ⟨by omega, by omega⟩ (kk M3 adr hp_sim.rf)
      · exact hz_none hC
    · refine hz_goto (n := 2257) hC dL_law_851 (by decide) ?_
      refine hz_L (L' := [(0, .ref b), (1, .ref (adr 12 0)), (2, .ref (adr 13 0)), (3, .ref (adr 13 10)), (4, .int x4)]) [2, 3, 4, 5, 6] rfl ?_
      exact hz_widen (k0 := cells + 45) (s0 := slots + 9000) ⟨by omega, by omega⟩ (kk M3 adr hp_sim.rf)
  · exact hz_none hC
def C_law_11 {α : Type} (N : Nat) (xs : Nat → Int32) (x4 : Int32) (K : hp_M → Option α) (M : hp_M) : Option α := (hp_b (F_X8_mostKnown M) (fun r1 M1 => (hp_b (F_X9_mostKnown M1) (fun r2 M2 => (if r1 = r2 then (K M2) else none)))))
set_option maxRecDepth 20000 in
set_option maxHeartbeats 4000000 in
theorem z_law_11 {p : Program} {l : Launch} {e : Env} {s : State} {m : MethodId} {args : Array Value} {below : List Frame} {meth : Method} {c : Code} {A : Nat → Prop} {D : va_G} {ids : List (Nat × Nat)} {adr : Nat → Nat → Nat} {adV cA : Nat → Nat} {Q : State → Prop} {α : Type} {G0 : Option α} {b N : Nat} {xs : Nat → Int32} (hl0 : l.stackTraces = false) (hIL : hp_IL ids) (hC : hp_Cx p s m meth c cL_law 9 "HallPhoneLaw" A D adV cA G0) (hX : va_X b N xs s s.heap) (hbl : b < s.heap.size) (hbA : ¬ A b) (x4 : Int32) (K : hp_M → Option α) (M : hp_M) (cells slots : Nat) (hcs : cells + 45 ≤ 601024 ∧ slots + 9000 ≤ 7293034) (kk : ∀ (M' : hp_M) (adr' : Nat → Nat → Nat), hp_sim adr adr' → hp_Z p l e room_1 s m args below meth c 9 A D ids adr' adV cA (cells + 45) (slots + 9000) Q G0 none 2257 [(0, .ref b), (1, .ref (adr' 12 0)), (2, .ref (adr' 13 0)), (3, .ref (adr' 13 10)), (4, .int x4)] [] M' (K M')) : hp_Z p l e room_1 s m args below meth c 9 A D ids adr adV cA cells slots Q G0 none 854 [(0, .ref b), (1, .ref (adr 12 0)), (2, .ref (adr 13 0)), (3, .ref (adr 13 10)), (4, .int x4)] [] M (C_law_11 N xs x4 K M) := by
  have hIB := hIL.1
  have hI := hIB.1
  unfold C_law_11
  refine hz_aload_n (a := 1) (n := 855) hC dL_law_854 rfl rfl rfl ?_
  refine hz_callV (k := 0) (As := []) (st := []) (S1 := fun r => .int r :: []) (n := 858) hC (c_X8_mostKnown l    M) kv_X8_mostKnown wd_3_99 hI dL_law_855 rfl (hI.2 0 (by decide)) he_X8 rfl rfl rfl (Nat.le_of_ble_eq_true rfl) ⟨Nat.le_of_ble_eq_true rfl, Nat.le_of_ble_eq_true rfl⟩ ⟨by show _ ≤ (601024 : Nat); omega, by show _ ≤ (7293034 : Nat); omega⟩ (fun _ => rfl) rfl (fun r1 M1 _ => ?_)
  refine hz_aload_n (a := 2) (n := 859) hC dL_law_858 rfl rfl rfl ?_
  refine hz_callV (k := 0) (As := []) (st := [.int r1]) (S1 := fun r => .int r :: [.int r1]) (n := 862) hC (c_X9_mostKnown l    M1) kv_X9_mostKnown wd_8_17 hIL.2.1 dL_law_859 rfl (hIL.2.1 0 (by decide)) he_X9 rfl rfl rfl (Nat.le_of_ble_eq_true rfl) ⟨Nat.le_of_ble_eq_true rfl, Nat.le_of_ble_eq_true rfl⟩ ⟨by show _ ≤ (601024 : Nat); omega, by show _ ≤ (7293034 : Nat); omega⟩ (fun _ => rfl) rfl (fun r2 M2 _ => ?_)
  refine hz_icmp_eq (tgt := 2257) (n := 865) hC dL_law_862 (by decide) rfl (fun _ => ?_) (fun _ => ?_)
  · refine hz_L (L' := [(0, .ref b), (1, .ref (adr 12 0)), (2, .ref (adr 13 0)), (3, .ref (adr 13 10)), (4, .int x4)]) [0, 1, 2, 3, 4] rfl ?_
    exact hz_widen (k0 := cells + 45) (s0 := slots + 9000) ⟨by omega, by omega⟩ (kk M2 adr hp_sim.rf)
  · exact hz_none hC
def C_law_12 {α : Type} (N : Nat) (xs : Nat → Int32) (x4 : Int32) (K : hp_M → Option α) (M : hp_M) : Option α := (if (x4 + (1 : Int32)) < 0 ∨ N ≤ ((x4 + (1 : Int32))).toNatClampNeg then none else (hp_b (F_L_cost (xs ((x4 + (1 : Int32))).toNatClampNeg) M) (fun r1 M1 => (if (x4 + (1 : Int32)) < 0 ∨ N ≤ ((x4 + (1 : Int32))).toNatClampNeg then none else (hp_b (F_X9_cost (xs ((x4 + (1 : Int32))).toNatClampNeg) M1) (fun r2 M2 => (hp_b (F_X9_thrown M2) (fun r3 M3 => (if r3 = r1 then (if r1 = 0 then (if (lg_cmp ((M3 13 10 0).toInt64) ((r2).toInt64)) = 0 then (K M3) else none) else (K M3)) else none)))))))))
set_option maxRecDepth 20000 in
set_option maxHeartbeats 4000000 in
theorem z_law_12 {p : Program} {l : Launch} {e : Env} {s : State} {m : MethodId} {args : Array Value} {below : List Frame} {meth : Method} {c : Code} {A : Nat → Prop} {D : va_G} {ids : List (Nat × Nat)} {adr : Nat → Nat → Nat} {adV cA : Nat → Nat} {Q : State → Prop} {α : Type} {G0 : Option α} {b N : Nat} {xs : Nat → Int32} (hl0 : l.stackTraces = false) (hIL : hp_IL ids) (hC : hp_Cx p s m meth c cL_law 9 "HallPhoneLaw" A D adV cA G0) (hX : va_X b N xs s s.heap) (hbl : b < s.heap.size) (hbA : ¬ A b) (x4 : Int32) (K : hp_M → Option α) (M : hp_M) (cells slots : Nat) (hcs : cells + 45 ≤ 601024 ∧ slots + 9000 ≤ 7293034) (kk : ∀ (M' : hp_M) (adr' : Nat → Nat → Nat), hp_sim adr adr' → hp_Z p l e room_1 s m args below meth c 9 A D ids adr' adV cA (cells + 45) (slots + 9000) Q G0 none 2257 [(0, .ref b), (1, .ref (adr' 12 0)), (2, .ref (adr' 13 0)), (3, .ref (adr' 13 10)), (4, .int x4)] [] M' (K M')) : hp_Z p l e room_1 s m args below meth c 9 A D ids adr adV cA cells slots Q G0 none 867 [(0, .ref b), (1, .ref (adr 12 0)), (2, .ref (adr 13 0)), (3, .ref (adr 13 10)), (4, .int x4)] [] M (C_law_12 N xs x4 K M) := by
  have hIB := hIL.1
  have hI := hIB.1
  unfold C_law_12
  refine hz_aload_n (a := 1) (n := 868) hC dL_law_867 rfl rfl rfl ?_
  refine hz_aload_n (a := 0) (n := 869) hC dL_law_868 rfl rfl rfl ?_
  refine hz_iload (a := 4) (n := 871) hC dL_law_869 rfl rfl ?_
  refine hz_iconst (v := (1 : Int32)) (n := 872) hC dL_law_871 (by decide +kernel) rfl ?_
  refine hz_iadd (n := 873) hC dL_law_872 rfl ?_
  refine hz_sld (n := 874) hC hX hbl hbA dL_law_873 rfl ?_
  refine hz_aload_n (a := 3) (n := 875) hC dL_law_874 rfl rfl rfl ?_
  refine hz_callSW (k := 3) (As := [.ref (adr 12 0), .int (xs ((x4 + (1 : Int32))).toNatClampNeg), .ref (adr 13 10)]) (st := []) (S1 := fun r1 => .int r1 :: []) (n := 878) hC (c_L_cost l hl0 (xs ((x4 + (1 : Int32))).toNatClampNeg) M) kw_L_cost wd_5_194 hIL dL_law_875 rfl rfl rfl (Nat.le_of_ble_eq_true rfl) ⟨Nat.le_of_ble_eq_true rfl, Nat.le_of_ble_eq_true rfl⟩ ⟨by show _ ≤ (601024 : Nat); omega, by show _ ≤ (7293034 : Nat); omega⟩ (fun _ => rfl) rfl (fun r1 M1 _ => ?_)
  refine hz_istore (L' := [(5, .int r1), (0, .ref b), (1, .ref (adr 12 0)), (2, .ref (adr 13 0)), (3, .ref (adr 13 10)), (4, .int x4)]) (n := 880) hC dL_law_878 (by decide) rfl rfl ?_
  refine hz_aload_n (a := 3) (n := 881) hC dL_law_880 rfl rfl rfl ?_
  refine hz_aload_n (a := 1) (n := 882) hC dL_law_881 rfl rfl rfl ?_
  refine hz_iload (a := 5) (n := 884) hC dL_law_882 rfl rfl ?_
  refine hz_iconst (v := (1 : Int32)) (n := 885) hC dL_law_884 (by decide +kernel) rfl ?_
  refine hz_iadd (n := 886) hC dL_law_885 rfl ?_
  refine hz_sld (n := 887) hC hX hbl hbA dL_law_886 rfl ?_
  refine hz_callV (k := 1) (As := [.int (xs ((x4 + (1 : Int32))).toNatClampNeg)]) (st := []) (S1 := fun r => .int r :: []) (n := 890) hC (c_X9_cost l (xs ((x4 + (1 : Int32))).toNatClampNeg)   M1) kv_X9_cost wd_8_24 hIL.2.1 dL_law_887 rfl (hIL.2.1 0 (by decide)) he_X9 rfl rfl rfl (Nat.le_of_ble_eq_true rfl) ⟨Nat.le_of_ble_eq_true rfl, Nat.le_of_ble_eq_true rfl⟩ ⟨by show _ ≤ (601024 : Nat); omega, by show _ ≤ (7293034 : Nat); omega⟩ (fun _ => rfl) rfl (fun r2 M2 _ => ?_)
  refine hz_istore (L' := [(6, .int r2), (5, .int r1), (0, .ref b), (1, .ref (adr 12 0)), (2, .ref (adr 13 0)), (3, .ref (adr 13 10)), (4, .int x4)]) (n := 892) hC dL_law_890 (by decide) rfl rfl ?_
  refine hz_aload_n (a := 4) (n := 893) hC dL_law_892 rfl rfl rfl ?_
  refine hz_callV (k := 0) (As := []) (st := []) (S1 := fun r => .int r :: []) (n := 896) hC (c_X9_thrown l    M2) kv_X9_thrown wd_7_165 hIL.2.1 dL_law_893 rfl (hIL.2.1 0 (by decide)) he_X9 rfl rfl rfl (Nat.le_of_ble_eq_true rfl) ⟨Nat.le_of_ble_eq_true rfl, Nat.le_of_ble_eq_true rfl⟩ ⟨by show _ ≤ (601024 : Nat); omega, by show _ ≤ (7293034 : Nat); omega⟩ (fun _ => rfl) rfl (fun r3 M3 _ => ?_)
  refine hz_iload (a := 1) (n := 898) hC dL_law_896 rfl rfl ?_
  refine hz_icmp_eq (tgt := 903) (n := 901) hC dL_law_898 (by decide) rfl (fun _ => ?_) (fun _ => ?_)
  · refine hz_iload (a := 1) (n := 905) hC dL_law_903 rfl rfl ?_
    refine hz_if_ne (tgt := 920) (n := 908) hC dL_law_905 (by decide) rfl (fun _ => ?_) (fun _ => ?_)
    · refine hz_aload_n (a := 5) (n := 909) hC dL_law_908 rfl rfl rfl ?_
      refine hz_iconst (v := (0 : Int32)) (n := 910) hC dL_law_909 (by decide +kernel) rfl ?_
      refine hz_lald13 (n := 911) hC dL_law_910 hIL.2.2 rfl ?_
      refine hz_iload (a := 0) (n := 913) hC dL_law_911 rfl rfl ?_
      refine hz_i2l (n := 914) hC dL_law_913 rfl ?_
      refine hz_lcmp (n := 915) hC dL_law_914 rfl ?_
      refine hz_if_eq (tgt := 920) (n := 918) hC dL_law_915 (by decide) rfl (fun _ => ?_) (fun _ => ?_)
      · refine hz_goto (n := 2257) hC dL_law_920 (by decide) ?_
        refine hz_L (L' := [(0, .ref b), (1, .ref (adr 12 0)), (2, .ref (adr 13 0)), (3, .ref (adr 13 10)), (4, .int x4)]) [2, 3, 4, 5, 6] rfl ?_
        exact hz_widen (k0 := cells + 45) (s0 := slots + 9000) ⟨by omega, by omega⟩ (kk M3 adr hp_sim.rf)
      · exact hz_none hC
    · refine hz_goto (n := 2257) hC dL_law_920 (by decide) ?_
      refine hz_L (L' := [(0, .ref b), (1, .ref (adr 12 0)), (2, .ref (adr 13 0)), (3, .ref (adr 13 10)), (4, .int x4)]) [2, 3, 4, 5, 6] rfl ?_
      exact hz_widen (k0 := cells + 45) (s0 := slots + 9000) ⟨by omega, by omega⟩ (kk M3 adr hp_sim.rf)
  · exact hz_none hC
def C_law_13 {α : Type} (N : Nat) (xs : Nat → Int32) (x4 : Int32) (K : hp_M → Option α) (M : hp_M) : Option α := (if (x4 + (1 : Int32)) < 0 ∨ N ≤ ((x4 + (1 : Int32))).toNatClampNeg then none else (if (x4 + (2 : Int32)) < 0 ∨ N ≤ ((x4 + (2 : Int32))).toNatClampNeg then none else (hp_b (F_L_why (xs ((x4 + (1 : Int32))).toNatClampNeg) (xs ((x4 + (2 : Int32))).toNatClampNeg) M) (fun r1 M1 => (if (x4 + (1 : Int32)) < 0 ∨ N ≤ ((x4 + (1 : Int32))).toNatClampNeg then none else (if (x4 + (2 : Int32)) < 0 ∨ N ≤ ((x4 + (2 : Int32))).toNatClampNeg then none else (hp_b (F_X9_why (xs ((x4 + (1 : Int32))).toNatClampNeg) (xs ((x4 + (2 : Int32))).toNatClampNeg) M1) (fun r2 M2 => (hp_b (F_X9_thrown M2) (fun r3 M3 => (if r3 = r1 then (if r1 = 0 then (if (lg_cmp ((M3 13 10 0).toInt64) ((r2).toInt64)) = 0 then (K M3) else none) else (K M3)) else none)))))))))))
set_option maxRecDepth 20000 in
set_option maxHeartbeats 4000000 in
theorem z_law_13 {p : Program} {l : Launch} {e : Env} {s : State} {m : MethodId} {args : Array Value} {below : List Frame} {meth : Method} {c : Code} {A : Nat → Prop} {D : va_G} {ids : List (Nat × Nat)} {adr : Nat → Nat → Nat} {adV cA : Nat → Nat} {Q : State → Prop} {α : Type} {G0 : Option α} {b N : Nat} {xs : Nat → Int32} (hl0 : l.stackTraces = false) (hIL : hp_IL ids) (hC : hp_Cx p s m meth c cL_law 9 "HallPhoneLaw" A D adV cA G0) (hX : va_X b N xs s s.heap) (hbl : b < s.heap.size) (hbA : ¬ A b) (x4 : Int32) (K : hp_M → Option α) (M : hp_M) (cells slots : Nat) (hcs : cells + 45 ≤ 601024 ∧ slots + 9000 ≤ 7293034) (kk : ∀ (M' : hp_M) (adr' : Nat → Nat → Nat), hp_sim adr adr' → hp_Z p l e room_1 s m args below meth c 9 A D ids adr' adV cA (cells + 45) (slots + 9000) Q G0 none 2257 [(0, .ref b), (1, .ref (adr' 12 0)), (2, .ref (adr' 13 0)), (3, .ref (adr' 13 10)), (4, .int x4)] [] M' (K M')) : hp_Z p l e room_1 s m args below meth c 9 A D ids adr adV cA cells slots Q G0 none 923 [(0, .ref b), (1, .ref (adr 12 0)), (2, .ref (adr 13 0)), (3, .ref (adr 13 10)), (4, .int x4)] [] M (C_law_13 N xs x4 K M) := by
  have hIB := hIL.1
  have hI := hIB.1
  unfold C_law_13
  refine hz_aload_n (a := 1) (n := 924) hC dL_law_923 rfl rfl rfl ?_
  refine hz_aload_n (a := 0) (n := 925) hC dL_law_924 rfl rfl rfl ?_
  refine hz_iload (a := 4) (n := 927) hC dL_law_925 rfl rfl ?_
  refine hz_iconst (v := (1 : Int32)) (n := 928) hC dL_law_927 (by decide +kernel) rfl ?_
  refine hz_iadd (n := 929) hC dL_law_928 rfl ?_
  refine hz_sld (n := 930) hC hX hbl hbA dL_law_929 rfl ?_
  refine hz_aload_n (a := 0) (n := 931) hC dL_law_930 rfl rfl rfl ?_
  refine hz_iload (a := 4) (n := 933) hC dL_law_931 rfl rfl ?_
  refine hz_iconst (v := (2 : Int32)) (n := 934) hC dL_law_933 (by decide +kernel) rfl ?_
  refine hz_iadd (n := 935) hC dL_law_934 rfl ?_
  refine hz_sld (n := 936) hC hX hbl hbA dL_law_935 rfl ?_
  refine hz_aload_n (a := 3) (n := 937) hC dL_law_936 rfl rfl rfl ?_
  refine hz_callSW (k := 4) (As := [.ref (adr 12 0), .int (xs ((x4 + (1 : Int32))).toNatClampNeg), .int (xs ((x4 + (2 : Int32))).toNatClampNeg), .ref (adr 13 10)]) (st := []) (S1 := fun r1 => .int r1 :: []) (n := 940) hC (c_L_why l hl0 (xs ((x4 + (1 : Int32))).toNatClampNeg) (xs ((x4 + (2 : Int32))).toNatClampNeg) M) kw_L_why wd_5_202 hIL dL_law_937 rfl rfl rfl (Nat.le_of_ble_eq_true rfl) ⟨Nat.le_of_ble_eq_true rfl, Nat.le_of_ble_eq_true rfl⟩ ⟨by show _ ≤ (601024 : Nat); omega, by show _ ≤ (7293034 : Nat); omega⟩ (fun _ => rfl) rfl (fun r1 M1 _ => ?_)
  refine hz_istore (L' := [(5, .int r1), (0, .ref b), (1, .ref (adr 12 0)), (2, .ref (adr 13 0)), (3, .ref (adr 13 10)), (4, .int x4)]) (n := 942) hC dL_law_940 (by decide) rfl rfl ?_
  refine hz_aload_n (a := 3) (n := 943) hC dL_law_942 rfl rfl rfl ?_
  refine hz_aload_n (a := 1) (n := 944) hC dL_law_943 rfl rfl rfl ?_
  refine hz_iload (a := 5) (n := 946) hC dL_law_944 rfl rfl ?_
  refine hz_iconst (v := (1 : Int32)) (n := 947) hC dL_law_946 (by decide +kernel) rfl ?_
  refine hz_iadd (n := 948) hC dL_law_947 rfl ?_
  refine hz_sld (n := 949) hC hX hbl hbA dL_law_948 rfl ?_
  refine hz_aload_n (a := 1) (n := 950) hC dL_law_949 rfl rfl rfl ?_
  refine hz_iload (a := 5) (n := 952) hC dL_law_950 rfl rfl ?_
  refine hz_iconst (v := (2 : Int32)) (n := 953) hC dL_law_952 (by decide +kernel) rfl ?_
  refine hz_iadd (n := 954) hC dL_law_953 rfl ?_
  refine hz_sld (n := 955) hC hX hbl hbA dL_law_954 rfl ?_
  refine hz_callV (k := 2) (As := [.int (xs ((x4 + (1 : Int32))).toNatClampNeg), .int (xs ((x4 + (2 : Int32))).toNatClampNeg)]) (st := []) (S1 := fun r => .int r :: []) (n := 958) hC (c_X9_why l (xs ((x4 + (1 : Int32))).toNatClampNeg) (xs ((x4 + (2 : Int32))).toNatClampNeg)   M1) kv_X9_why wd_8_28 hIL.2.1 dL_law_955 rfl (hIL.2.1 0 (by decide)) he_X9 rfl rfl rfl (Nat.le_of_ble_eq_true rfl) ⟨Nat.le_of_ble_eq_true rfl, Nat.le_of_ble_eq_true rfl⟩ ⟨by show _ ≤ (601024 : Nat); omega, by show _ ≤ (7293034 : Nat); omega⟩ (fun _ => rfl) rfl (fun r2 M2 _ => ?_)
  refine hz_istore (L' := [(6, .int r2), (5, .int r1), (0, .ref b), (1, .ref (adr 12 0)), (2, .ref (adr 13 0)), (3, .ref (adr 13 10)), (4, .int x4)]) (n := 960) hC dL_law_958 (by decide) rfl rfl ?_
  refine hz_aload_n (a := 4) (n := 961) hC dL_law_960 rfl rfl rfl ?_
  refine hz_callV (k := 0) (As := []) (st := []) (S1 := fun r => .int r :: []) (n := 964) hC (c_X9_thrown l    M2) kv_X9_thrown wd_7_165 hIL.2.1 dL_law_961 rfl (hIL.2.1 0 (by decide)) he_X9 rfl rfl rfl (Nat.le_of_ble_eq_true rfl) ⟨Nat.le_of_ble_eq_true rfl, Nat.le_of_ble_eq_true rfl⟩ ⟨by show _ ≤ (601024 : Nat); omega, by show _ ≤ (7293034 : Nat); omega⟩ (fun _ => rfl) rfl (fun r3 M3 _ => ?_)
  refine hz_iload (a := 1) (n := 966) hC dL_law_964 rfl rfl ?_
  refine hz_icmp_eq (tgt := 971) (n := 969) hC dL_law_966 (by decide) rfl (fun _ => ?_) (fun _ => ?_)
  · refine hz_iload (a := 1) (n := 973) hC dL_law_971 rfl rfl ?_
    refine hz_if_ne (tgt := 988) (n := 976) hC dL_law_973 (by decide) rfl (fun _ => ?_) (fun _ => ?_)
    · refine hz_aload_n (a := 5) (n := 977) hC dL_law_976 rfl rfl rfl ?_
      refine hz_iconst (v := (0 : Int32)) (n := 978) hC dL_law_977 (by decide +kernel) rfl ?_
      refine hz_lald13 (n := 979) hC dL_law_978 hIL.2.2 rfl ?_
      refine hz_iload (a := 0) (n := 981) hC dL_law_979 rfl rfl ?_
      refine hz_i2l (n := 982) hC dL_law_981 rfl ?_
      refine hz_lcmp (n := 983) hC dL_law_982 rfl ?_
      refine hz_if_eq (tgt := 988) (n := 986) hC dL_law_983 (by decide) rfl (fun _ => ?_) (fun _ => ?_)
      · refine hz_goto (n := 2257) hC dL_law_988 (by decide) ?_
        refine hz_L (L' := [(0, .ref b), (1, .ref (adr 12 0)), (2, .ref (adr 13 0)), (3, .ref (adr 13 10)), (4, .int x4)]) [2, 3, 4, 5, 6] rfl ?_
        exact hz_widen (k0 := cells + 45) (s0 := slots + 9000) ⟨by omega, by omega⟩ (kk M3 adr hp_sim.rf)
      · exact hz_none hC
    · refine hz_goto (n := 2257) hC dL_law_988 (by decide) ?_
      refine hz_L (L' := [(0, .ref b), (1, .ref (adr 12 0)), (2, .ref (adr 13 0)), (3, .ref (adr 13 10)), (4, .int x4)]) [2, 3, 4, 5, 6] rfl ?_
      exact hz_widen (k0 := cells + 45) (s0 := slots + 9000) ⟨by omega, by omega⟩ (kk M3 adr hp_sim.rf)
  · exact hz_none hC
def C_law_14 {α : Type} (N : Nat) (xs : Nat → Int32) (x4 : Int32) (K : hp_M → Option α) (M : hp_M) : Option α := (if (x4 + (1 : Int32)) < 0 ∨ N ≤ ((x4 + (1 : Int32))).toNatClampNeg then none else (hp_b (F_L_speaksIn (xs ((x4 + (1 : Int32))).toNatClampNeg) M) (fun r1 M1 => (if (x4 + (1 : Int32)) < 0 ∨ N ≤ ((x4 + (1 : Int32))).toNatClampNeg then none else (hp_b (F_X9_speaksIn (xs ((x4 + (1 : Int32))).toNatClampNeg) M1) (fun r2 M2 => (hp_b (F_X9_thrown M2) (fun r3 M3 => (if r3 = r1 then (if r1 = 0 then (if (lg_cmp ((M3 13 10 0).toInt64) ((r2).toInt64)) = 0 then (K M3) else none) else (K M3)) else none)))))))))
set_option maxRecDepth 20000 in
set_option maxHeartbeats 4000000 in
theorem z_law_14 {p : Program} {l : Launch} {e : Env} {s : State} {m : MethodId} {args : Array Value} {below : List Frame} {meth : Method} {c : Code} {A : Nat → Prop} {D : va_G} {ids : List (Nat × Nat)} {adr : Nat → Nat → Nat} {adV cA : Nat → Nat} {Q : State → Prop} {α : Type} {G0 : Option α} {b N : Nat} {xs : Nat → Int32} (hl0 : l.stackTraces = false) (hIL : hp_IL ids) (hC : hp_Cx p s m meth c cL_law 9 "HallPhoneLaw" A D adV cA G0) (hX : va_X b N xs s s.heap) (hbl : b < s.heap.size) (hbA : ¬ A b) (x4 : Int32) (K : hp_M → Option α) (M : hp_M) (cells slots : Nat) (hcs : cells + 45 ≤ 601024 ∧ slots + 9000 ≤ 7293034) (kk : ∀ (M' : hp_M) (adr' : Nat → Nat → Nat), hp_sim adr adr' → hp_Z p l e room_1 s m args below meth c 9 A D ids adr' adV cA (cells + 45) (slots + 9000) Q G0 none 2257 [(0, .ref b), (1, .ref (adr' 12 0)), (2, .ref (adr' 13 0)), (3, .ref (adr' 13 10)), (4, .int x4)] [] M' (K M')) : hp_Z p l e room_1 s m args below meth c 9 A D ids adr adV cA cells slots Q G0 none 991 [(0, .ref b), (1, .ref (adr 12 0)), (2, .ref (adr 13 0)), (3, .ref (adr 13 10)), (4, .int x4)] [] M (C_law_14 N xs x4 K M) := by
  have hIB := hIL.1
  have hI := hIB.1
  unfold C_law_14
  refine hz_aload_n (a := 1) (n := 992) hC dL_law_991 rfl rfl rfl ?_
  refine hz_aload_n (a := 0) (n := 993) hC dL_law_992 rfl rfl rfl ?_
  refine hz_iload (a := 4) (n := 995) hC dL_law_993 rfl rfl ?_
  refine hz_iconst (v := (1 : Int32)) (n := 996) hC dL_law_995 (by decide +kernel) rfl ?_
  refine hz_iadd (n := 997) hC dL_law_996 rfl ?_
  refine hz_sld (n := 998) hC hX hbl hbA dL_law_997 rfl ?_
  refine hz_aload_n (a := 3) (n := 999) hC dL_law_998 rfl rfl rfl ?_
  refine hz_callSW (k := 3) (As := [.ref (adr 12 0), .int (xs ((x4 + (1 : Int32))).toNatClampNeg), .ref (adr 13 10)]) (st := []) (S1 := fun r1 => .int r1 :: []) (n := 1002) hC (c_L_speaksIn l hl0 (xs ((x4 + (1 : Int32))).toNatClampNeg) M) kw_L_speaksIn wd_5_217 hIL dL_law_999 rfl rfl rfl (Nat.le_of_ble_eq_true rfl) ⟨Nat.le_of_ble_eq_true rfl, Nat.le_of_ble_eq_true rfl⟩ ⟨by show _ ≤ (601024 : Nat); omega, by show _ ≤ (7293034 : Nat); omega⟩ (fun _ => rfl) rfl (fun r1 M1 _ => ?_)
  refine hz_istore (L' := [(5, .int r1), (0, .ref b), (1, .ref (adr 12 0)), (2, .ref (adr 13 0)), (3, .ref (adr 13 10)), (4, .int x4)]) (n := 1004) hC dL_law_1002 (by decide) rfl rfl ?_
  refine hz_aload_n (a := 3) (n := 1005) hC dL_law_1004 rfl rfl rfl ?_
  refine hz_aload_n (a := 1) (n := 1006) hC dL_law_1005 rfl rfl rfl ?_
  refine hz_iload (a := 5) (n := 1008) hC dL_law_1006 rfl rfl ?_
  refine hz_iconst (v := (1 : Int32)) (n := 1009) hC dL_law_1008 (by decide +kernel) rfl ?_
  refine hz_iadd (n := 1010) hC dL_law_1009 rfl ?_
  refine hz_sld (n := 1011) hC hX hbl hbA dL_law_1010 rfl ?_
  refine hz_callV (k := 1) (As := [.int (xs ((x4 + (1 : Int32))).toNatClampNeg)]) (st := []) (S1 := fun r => .int r :: []) (n := 1014) hC (c_X9_speaksIn l (xs ((x4 + (1 : Int32))).toNatClampNeg)   M1) kv_X9_speaksIn wd_8_36 hIL.2.1 dL_law_1011 rfl (hIL.2.1 0 (by decide)) he_X9 rfl rfl rfl (Nat.le_of_ble_eq_true rfl) ⟨Nat.le_of_ble_eq_true rfl, Nat.le_of_ble_eq_true rfl⟩ ⟨by show _ ≤ (601024 : Nat); omega, by show _ ≤ (7293034 : Nat); omega⟩ (fun _ => rfl) rfl (fun r2 M2 _ => ?_)
  refine hz_istore (L' := [(6, .int r2), (5, .int r1), (0, .ref b), (1, .ref (adr 12 0)), (2, .ref (adr 13 0)), (3, .ref (adr 13 10)), (4, .int x4)]) (n := 1016) hC dL_law_1014 (by decide) rfl rfl ?_
  refine hz_aload_n (a := 4) (n := 1017) hC dL_law_1016 rfl rfl rfl ?_
  refine hz_callV (k := 0) (As := []) (st := []) (S1 := fun r => .int r :: []) (n := 1020) hC (c_X9_thrown l    M2) kv_X9_thrown wd_7_165 hIL.2.1 dL_law_1017 rfl (hIL.2.1 0 (by decide)) he_X9 rfl rfl rfl (Nat.le_of_ble_eq_true rfl) ⟨Nat.le_of_ble_eq_true rfl, Nat.le_of_ble_eq_true rfl⟩ ⟨by show _ ≤ (601024 : Nat); omega, by show _ ≤ (7293034 : Nat); omega⟩ (fun _ => rfl) rfl (fun r3 M3 _ => ?_)
  refine hz_iload (a := 1) (n := 1022) hC dL_law_1020 rfl rfl ?_
  refine hz_icmp_eq (tgt := 1027) (n := 1025) hC dL_law_1022 (by decide) rfl (fun _ => ?_) (fun _ => ?_)
  · refine hz_iload (a := 1) (n := 1029) hC dL_law_1027 rfl rfl ?_
    refine hz_if_ne (tgt := 1044) (n := 1032) hC dL_law_1029 (by decide) rfl (fun _ => ?_) (fun _ => ?_)
    · refine hz_aload_n (a := 5) (n := 1033) hC dL_law_1032 rfl rfl rfl ?_
      refine hz_iconst (v := (0 : Int32)) (n := 1034) hC dL_law_1033 (by decide +kernel) rfl ?_
      refine hz_lald13 (n := 1035) hC dL_law_1034 hIL.2.2 rfl ?_
      refine hz_iload (a := 0) (n := 1037) hC dL_law_1035 rfl rfl ?_
      refine hz_i2l (n := 1038) hC dL_law_1037 rfl ?_
      refine hz_lcmp (n := 1039) hC dL_law_1038 rfl ?_
      refine hz_if_eq (tgt := 1044) (n := 1042) hC dL_law_1039 (by decide) rfl (fun _ => ?_) (fun _ => ?_)
      · refine hz_goto (n := 2257) hC dL_law_1044 (by decide) ?_
        refine hz_L (L' := [(0, .ref b), (1, .ref (adr 12 0)), (2, .ref (adr 13 0)), (3, .ref (adr 13 10)), (4, .int x4)]) [2, 3, 4, 5, 6] rfl ?_
        exact hz_widen (k0 := cells + 45) (s0 := slots + 9000) ⟨by omega, by omega⟩ (kk M3 adr hp_sim.rf)
      · exact hz_none hC
    · refine hz_goto (n := 2257) hC dL_law_1044 (by decide) ?_
      refine hz_L (L' := [(0, .ref b), (1, .ref (adr 12 0)), (2, .ref (adr 13 0)), (3, .ref (adr 13 10)), (4, .int x4)]) [2, 3, 4, 5, 6] rfl ?_
      exact hz_widen (k0 := cells + 45) (s0 := slots + 9000) ⟨by omega, by omega⟩ (kk M3 adr hp_sim.rf)
  · exact hz_none hC
def C_law_15 {α : Type} (N : Nat) (xs : Nat → Int32) (x4 : Int32) (K : hp_M → Option α) (M : hp_M) : Option α := (hp_b (F_X8_freeIn M) (fun r1 M1 => (hp_b (F_X9_freeIn M1) (fun r2 M2 => (if r1 = r2 then (K M2) else none)))))
set_option maxRecDepth 20000 in
set_option maxHeartbeats 4000000 in
theorem z_law_15 {p : Program} {l : Launch} {e : Env} {s : State} {m : MethodId} {args : Array Value} {below : List Frame} {meth : Method} {c : Code} {A : Nat → Prop} {D : va_G} {ids : List (Nat × Nat)} {adr : Nat → Nat → Nat} {adV cA : Nat → Nat} {Q : State → Prop} {α : Type} {G0 : Option α} {b N : Nat} {xs : Nat → Int32} (hl0 : l.stackTraces = false) (hIL : hp_IL ids) (hC : hp_Cx p s m meth c cL_law 9 "HallPhoneLaw" A D adV cA G0) (hX : va_X b N xs s s.heap) (hbl : b < s.heap.size) (hbA : ¬ A b) (x4 : Int32) (K : hp_M → Option α) (M : hp_M) (cells slots : Nat) (hcs : cells + 45 ≤ 601024 ∧ slots + 9000 ≤ 7293034) (kk : ∀ (M' : hp_M) (adr' : Nat → Nat → Nat), hp_sim adr adr' → hp_Z p l e room_1 s m args below meth c 9 A D ids adr' adV cA (cells + 45) (slots + 9000) Q G0 none 2257 [(0, .ref b), (1, .ref (adr' 12 0)), (2, .ref (adr' 13 0)), (3, .ref (adr' 13 10)), (4, .int x4)] [] M' (K M')) : hp_Z p l e room_1 s m args below meth c 9 A D ids adr adV cA cells slots Q G0 none 1047 [(0, .ref b), (1, .ref (adr 12 0)), (2, .ref (adr 13 0)), (3, .ref (adr 13 10)), (4, .int x4)] [] M (C_law_15 N xs x4 K M) := by
  have hIB := hIL.1
  have hI := hIB.1
  unfold C_law_15
  refine hz_aload_n (a := 1) (n := 1048) hC dL_law_1047 rfl rfl rfl ?_
  refine hz_callV (k := 0) (As := []) (st := []) (S1 := fun r => .int r :: []) (n := 1051) hC (c_X8_freeIn l    M) kv_X8_freeIn wd_3_117 hI dL_law_1048 rfl (hI.2 0 (by decide)) he_X8 rfl rfl rfl (Nat.le_of_ble_eq_true rfl) ⟨Nat.le_of_ble_eq_true rfl, Nat.le_of_ble_eq_true rfl⟩ ⟨by show _ ≤ (601024 : Nat); omega, by show _ ≤ (7293034 : Nat); omega⟩ (fun _ => rfl) rfl (fun r1 M1 _ => ?_)
  refine hz_aload_n (a := 2) (n := 1052) hC dL_law_1051 rfl rfl rfl ?_
  refine hz_callV (k := 0) (As := []) (st := [.int r1]) (S1 := fun r => .int r :: [.int r1]) (n := 1055) hC (c_X9_freeIn l    M1) kv_X9_freeIn wd_8_52 hIL.2.1 dL_law_1052 rfl (hIL.2.1 0 (by decide)) he_X9 rfl rfl rfl (Nat.le_of_ble_eq_true rfl) ⟨Nat.le_of_ble_eq_true rfl, Nat.le_of_ble_eq_true rfl⟩ ⟨by show _ ≤ (601024 : Nat); omega, by show _ ≤ (7293034 : Nat); omega⟩ (fun _ => rfl) rfl (fun r2 M2 _ => ?_)
  refine hz_icmp_eq (tgt := 2257) (n := 1058) hC dL_law_1055 (by decide) rfl (fun _ => ?_) (fun _ => ?_)
  · refine hz_L (L' := [(0, .ref b), (1, .ref (adr 12 0)), (2, .ref (adr 13 0)), (3, .ref (adr 13 10)), (4, .int x4)]) [0, 1, 2, 3, 4] rfl ?_
    exact hz_widen (k0 := cells + 45) (s0 := slots + 9000) ⟨by omega, by omega⟩ (kk M2 adr hp_sim.rf)
  · exact hz_none hC
def C_law_16 {α : Type} (N : Nat) (xs : Nat → Int32) (x4 : Int32) (K : hp_M → Option α) (M : hp_M) : Option α := (if (x4 + (1 : Int32)) < 0 ∨ N ≤ ((x4 + (1 : Int32))).toNatClampNeg then none else (if (x4 + (2 : Int32)) < 0 ∨ N ≤ ((x4 + (2 : Int32))).toNatClampNeg then none else (hp_b (F_L_flatIn (xs ((x4 + (1 : Int32))).toNatClampNeg) (xs ((x4 + (2 : Int32))).toNatClampNeg) M) (fun r1 M1 => (if (x4 + (1 : Int32)) < 0 ∨ N ≤ ((x4 + (1 : Int32))).toNatClampNeg then none else (if (x4 + (2 : Int32)) < 0 ∨ N ≤ ((x4 + (2 : Int32))).toNatClampNeg then none else (hp_b (F_X9_flatIn (xs ((x4 + (1 : Int32))).toNatClampNeg) (xs ((x4 + (2 : Int32))).toNatClampNeg) M1) (fun r2 M2 => (hp_b (F_X9_thrown M2) (fun r3 M3 => (if r3 = r1 then (if r1 = 0 then (if (lg_cmp ((M3 13 10 0).toInt64) ((r2).toInt64)) = 0 then (K M3) else none) else (K M3)) else none)))))))))))
set_option maxRecDepth 20000 in
set_option maxHeartbeats 4000000 in
theorem z_law_16 {p : Program} {l : Launch} {e : Env} {s : State} {m : MethodId} {args : Array Value} {below : List Frame} {meth : Method} {c : Code} {A : Nat → Prop} {D : va_G} {ids : List (Nat × Nat)} {adr : Nat → Nat → Nat} {adV cA : Nat → Nat} {Q : State → Prop} {α : Type} {G0 : Option α} {b N : Nat} {xs : Nat → Int32} (hl0 : l.stackTraces = false) (hIL : hp_IL ids) (hC : hp_Cx p s m meth c cL_law 9 "HallPhoneLaw" A D adV cA G0) (hX : va_X b N xs s s.heap) (hbl : b < s.heap.size) (hbA : ¬ A b) (x4 : Int32) (K : hp_M → Option α) (M : hp_M) (cells slots : Nat) (hcs : cells + 45 ≤ 601024 ∧ slots + 9000 ≤ 7293034) (kk : ∀ (M' : hp_M) (adr' : Nat → Nat → Nat), hp_sim adr adr' → hp_Z p l e room_1 s m args below meth c 9 A D ids adr' adV cA (cells + 45) (slots + 9000) Q G0 none 2257 [(0, .ref b), (1, .ref (adr' 12 0)), (2, .ref (adr' 13 0)), (3, .ref (adr' 13 10)), (4, .int x4)] [] M' (K M')) : hp_Z p l e room_1 s m args below meth c 9 A D ids adr adV cA cells slots Q G0 none 1060 [(0, .ref b), (1, .ref (adr 12 0)), (2, .ref (adr 13 0)), (3, .ref (adr 13 10)), (4, .int x4)] [] M (C_law_16 N xs x4 K M) := by
  have hIB := hIL.1
  have hI := hIB.1
  unfold C_law_16
  refine hz_aload_n (a := 1) (n := 1061) hC dL_law_1060 rfl rfl rfl ?_
  refine hz_aload_n (a := 0) (n := 1062) hC dL_law_1061 rfl rfl rfl ?_
  refine hz_iload (a := 4) (n := 1064) hC dL_law_1062 rfl rfl ?_
  refine hz_iconst (v := (1 : Int32)) (n := 1065) hC dL_law_1064 (by decide +kernel) rfl ?_
  refine hz_iadd (n := 1066) hC dL_law_1065 rfl ?_
  refine hz_sld (n := 1067) hC hX hbl hbA dL_law_1066 rfl ?_
  refine hz_aload_n (a := 0) (n := 1068) hC dL_law_1067 rfl rfl rfl ?_
  refine hz_iload (a := 4) (n := 1070) hC dL_law_1068 rfl rfl ?_
  refine hz_iconst (v := (2 : Int32)) (n := 1071) hC dL_law_1070 (by decide +kernel) rfl ?_
  refine hz_iadd (n := 1072) hC dL_law_1071 rfl ?_
  refine hz_sld (n := 1073) hC hX hbl hbA dL_law_1072 rfl ?_
  refine hz_aload_n (a := 3) (n := 1074) hC dL_law_1073 rfl rfl rfl ?_
  refine hz_callSW (k := 4) (As := [.ref (adr 12 0), .int (xs ((x4 + (1 : Int32))).toNatClampNeg), .int (xs ((x4 + (2 : Int32))).toNatClampNeg), .ref (adr 13 10)]) (st := []) (S1 := fun r1 => .int r1 :: []) (n := 1077) hC (c_L_flatIn l hl0 (xs ((x4 + (1 : Int32))).toNatClampNeg) (xs ((x4 + (2 : Int32))).toNatClampNeg) M) kw_L_flatIn wd_5_228 hIL dL_law_1074 rfl rfl rfl (Nat.le_of_ble_eq_true rfl) ⟨Nat.le_of_ble_eq_true rfl, Nat.le_of_ble_eq_true rfl⟩ ⟨by show _ ≤ (601024 : Nat); omega, by show _ ≤ (7293034 : Nat); omega⟩ (fun _ => rfl) rfl (fun r1 M1 _ => ?_)
  refine hz_istore (L' := [(5, .int r1), (0, .ref b), (1, .ref (adr 12 0)), (2, .ref (adr 13 0)), (3, .ref (adr 13 10)), (4, .int x4)]) (n := 1079) hC dL_law_1077 (by decide) rfl rfl ?_
  refine hz_aload_n (a := 3) (n := 1080) hC dL_law_1079 rfl rfl rfl ?_
  refine hz_aload_n (a := 1) (n := 1081) hC dL_law_1080 rfl rfl rfl ?_
  refine hz_iload (a := 5) (n := 1083) hC dL_law_1081 rfl rfl ?_
  refine hz_iconst (v := (1 : Int32)) (n := 1084) hC dL_law_1083 (by decide +kernel) rfl ?_
  refine hz_iadd (n := 1085) hC dL_law_1084 rfl ?_
  refine hz_sld (n := 1086) hC hX hbl hbA dL_law_1085 rfl ?_
  refine hz_aload_n (a := 1) (n := 1087) hC dL_law_1086 rfl rfl rfl ?_
  refine hz_iload (a := 5) (n := 1089) hC dL_law_1087 rfl rfl ?_
  refine hz_iconst (v := (2 : Int32)) (n := 1090) hC dL_law_1089 (by decide +kernel) rfl ?_
  refine hz_iadd (n := 1091) hC dL_law_1090 rfl ?_
  refine hz_sld (n := 1092) hC hX hbl hbA dL_law_1091 rfl ?_
  refine hz_callV (k := 2) (As := [.int (xs ((x4 + (1 : Int32))).toNatClampNeg), .int (xs ((x4 + (2 : Int32))).toNatClampNeg)]) (st := []) (S1 := fun r => .int r :: []) (n := 1095) hC (c_X9_flatIn l (xs ((x4 + (1 : Int32))).toNatClampNeg) (xs ((x4 + (2 : Int32))).toNatClampNeg)   M1) kv_X9_flatIn wd_8_56 hIL.2.1 dL_law_1092 rfl (hIL.2.1 0 (by decide)) he_X9 rfl rfl rfl (Nat.le_of_ble_eq_true rfl) ⟨Nat.le_of_ble_eq_true rfl, Nat.le_of_ble_eq_true rfl⟩ ⟨by show _ ≤ (601024 : Nat); omega, by show _ ≤ (7293034 : Nat); omega⟩ (fun _ => rfl) rfl (fun r2 M2 _ => ?_)
  refine hz_istore (L' := [(6, .int r2), (5, .int r1), (0, .ref b), (1, .ref (adr 12 0)), (2, .ref (adr 13 0)), (3, .ref (adr 13 10)), (4, .int x4)]) (n := 1097) hC dL_law_1095 (by decide) rfl rfl ?_
  refine hz_aload_n (a := 4) (n := 1098) hC dL_law_1097 rfl rfl rfl ?_
  refine hz_callV (k := 0) (As := []) (st := []) (S1 := fun r => .int r :: []) (n := 1101) hC (c_X9_thrown l    M2) kv_X9_thrown wd_7_165 hIL.2.1 dL_law_1098 rfl (hIL.2.1 0 (by decide)) he_X9 rfl rfl rfl (Nat.le_of_ble_eq_true rfl) ⟨Nat.le_of_ble_eq_true rfl, Nat.le_of_ble_eq_true rfl⟩ ⟨by show _ ≤ (601024 : Nat); omega, by show _ ≤ (7293034 : Nat); omega⟩ (fun _ => rfl) rfl (fun r3 M3 _ => ?_)
  refine hz_iload (a := 1) (n := 1103) hC dL_law_1101 rfl rfl ?_
  refine hz_icmp_eq (tgt := 1108) (n := 1106) hC dL_law_1103 (by decide) rfl (fun _ => ?_) (fun _ => ?_)
  · refine hz_iload (a := 1) (n := 1110) hC dL_law_1108 rfl rfl ?_
    refine hz_if_ne (tgt := 1125) (n := 1113) hC dL_law_1110 (by decide) rfl (fun _ => ?_) (fun _ => ?_)
    · refine hz_aload_n (a := 5) (n := 1114) hC dL_law_1113 rfl rfl rfl ?_
      refine hz_iconst (v := (0 : Int32)) (n := 1115) hC dL_law_1114 (by decide +kernel) rfl ?_
      refine hz_lald13 (n := 1116) hC dL_law_1115 hIL.2.2 rfl ?_
      refine hz_iload (a := 0) (n := 1118) hC dL_law_1116 rfl rfl ?_
      refine hz_i2l (n := 1119) hC dL_law_1118 rfl ?_
      refine hz_lcmp (n := 1120) hC dL_law_1119 rfl ?_
      refine hz_if_eq (tgt := 1125) (n := 1123) hC dL_law_1120 (by decide) rfl (fun _ => ?_) (fun _ => ?_)
      · refine hz_goto (n := 2257) hC dL_law_1125 (by decide) ?_
        refine hz_L (L' := [(0, .ref b), (1, .ref (adr 12 0)), (2, .ref (adr 13 0)), (3, .ref (adr 13 10)), (4, .int x4)]) [2, 3, 4, 5, 6] rfl ?_
        exact hz_widen (k0 := cells + 45) (s0 := slots + 9000) ⟨by omega, by omega⟩ (kk M3 adr hp_sim.rf)
      · exact hz_none hC
    · refine hz_goto (n := 2257) hC dL_law_1125 (by decide) ?_
      refine hz_L (L' := [(0, .ref b), (1, .ref (adr 12 0)), (2, .ref (adr 13 0)), (3, .ref (adr 13 10)), (4, .int x4)]) [2, 3, 4, 5, 6] rfl ?_
      exact hz_widen (k0 := cells + 45) (s0 := slots + 9000) ⟨by omega, by omega⟩ (kk M3 adr hp_sim.rf)
  · exact hz_none hC
def C_law_17 {α : Type} (N : Nat) (xs : Nat → Int32) (x4 : Int32) (K : hp_M → Option α) (M : hp_M) : Option α := (if (x4 + (1 : Int32)) < 0 ∨ N ≤ ((x4 + (1 : Int32))).toNatClampNeg then none else (if (x4 + (2 : Int32)) < 0 ∨ N ≤ ((x4 + (2 : Int32))).toNatClampNeg then none else (hp_b (F_L_debtIn (xs ((x4 + (1 : Int32))).toNatClampNeg) (xs ((x4 + (2 : Int32))).toNatClampNeg) M) (fun r1 M1 => (if (x4 + (1 : Int32)) < 0 ∨ N ≤ ((x4 + (1 : Int32))).toNatClampNeg then none else (if (x4 + (2 : Int32)) < 0 ∨ N ≤ ((x4 + (2 : Int32))).toNatClampNeg then none else (hp_b (F_X9_debtIn (xs ((x4 + (1 : Int32))).toNatClampNeg) (xs ((x4 + (2 : Int32))).toNatClampNeg) M1) (fun r2 M2 => (hp_b (F_X9_thrown M2) (fun r3 M3 => (if r3 = r1 then (if r1 = 0 then (if (lg_cmp ((M3 13 10 0).toInt64) ((r2).toInt64)) = 0 then (K M3) else none) else (K M3)) else none)))))))))))
set_option maxRecDepth 20000 in
set_option maxHeartbeats 4000000 in
theorem z_law_17 {p : Program} {l : Launch} {e : Env} {s : State} {m : MethodId} {args : Array Value} {below : List Frame} {meth : Method} {c : Code} {A : Nat → Prop} {D : va_G} {ids : List (Nat × Nat)} {adr : Nat → Nat → Nat} {adV cA : Nat → Nat} {Q : State → Prop} {α : Type} {G0 : Option α} {b N : Nat} {xs : Nat → Int32} (hl0 : l.stackTraces = false) (hIL : hp_IL ids) (hC : hp_Cx p s m meth c cL_law 9 "HallPhoneLaw" A D adV cA G0) (hX : va_X b N xs s s.heap) (hbl : b < s.heap.size) (hbA : ¬ A b) (x4 : Int32) (K : hp_M → Option α) (M : hp_M) (cells slots : Nat) (hcs : cells + 45 ≤ 601024 ∧ slots + 9000 ≤ 7293034) (kk : ∀ (M' : hp_M) (adr' : Nat → Nat → Nat), hp_sim adr adr' → hp_Z p l e room_1 s m args below meth c 9 A D ids adr' adV cA (cells + 45) (slots + 9000) Q G0 none 2257 [(0, .ref b), (1, .ref (adr' 12 0)), (2, .ref (adr' 13 0)), (3, .ref (adr' 13 10)), (4, .int x4)] [] M' (K M')) : hp_Z p l e room_1 s m args below meth c 9 A D ids adr adV cA cells slots Q G0 none 1128 [(0, .ref b), (1, .ref (adr 12 0)), (2, .ref (adr 13 0)), (3, .ref (adr 13 10)), (4, .int x4)] [] M (C_law_17 N xs x4 K M) := by
  have hIB := hIL.1
  have hI := hIB.1
  unfold C_law_17
  refine hz_aload_n (a := 1) (n := 1129) hC dL_law_1128 rfl rfl rfl ?_
  refine hz_aload_n (a := 0) (n := 1130) hC dL_law_1129 rfl rfl rfl ?_
  refine hz_iload (a := 4) (n := 1132) hC dL_law_1130 rfl rfl ?_
  refine hz_iconst (v := (1 : Int32)) (n := 1133) hC dL_law_1132 (by decide +kernel) rfl ?_
  refine hz_iadd (n := 1134) hC dL_law_1133 rfl ?_
  refine hz_sld (n := 1135) hC hX hbl hbA dL_law_1134 rfl ?_
  refine hz_aload_n (a := 0) (n := 1136) hC dL_law_1135 rfl rfl rfl ?_
  refine hz_iload (a := 4) (n := 1138) hC dL_law_1136 rfl rfl ?_
  refine hz_iconst (v := (2 : Int32)) (n := 1139) hC dL_law_1138 (by decide +kernel) rfl ?_
  refine hz_iadd (n := 1140) hC dL_law_1139 rfl ?_
  refine hz_sld (n := 1141) hC hX hbl hbA dL_law_1140 rfl ?_
  refine hz_aload_n (a := 3) (n := 1142) hC dL_law_1141 rfl rfl rfl ?_
  refine hz_callSW (k := 4) (As := [.ref (adr 12 0), .int (xs ((x4 + (1 : Int32))).toNatClampNeg), .int (xs ((x4 + (2 : Int32))).toNatClampNeg), .ref (adr 13 10)]) (st := []) (S1 := fun r1 => .int r1 :: []) (n := 1145) hC (c_L_debtIn l hl0 (xs ((x4 + (1 : Int32))).toNatClampNeg) (xs ((x4 + (2 : Int32))).toNatClampNeg) M) kw_L_debtIn wd_6_0 hIL dL_law_1142 rfl rfl rfl (Nat.le_of_ble_eq_true rfl) ⟨Nat.le_of_ble_eq_true rfl, Nat.le_of_ble_eq_true rfl⟩ ⟨by show _ ≤ (601024 : Nat); omega, by show _ ≤ (7293034 : Nat); omega⟩ (fun _ => rfl) rfl (fun r1 M1 _ => ?_)
  refine hz_istore (L' := [(5, .int r1), (0, .ref b), (1, .ref (adr 12 0)), (2, .ref (adr 13 0)), (3, .ref (adr 13 10)), (4, .int x4)]) (n := 1147) hC dL_law_1145 (by decide) rfl rfl ?_
  refine hz_aload_n (a := 3) (n := 1148) hC dL_law_1147 rfl rfl rfl ?_
  refine hz_aload_n (a := 1) (n := 1149) hC dL_law_1148 rfl rfl rfl ?_
  refine hz_iload (a := 5) (n := 1151) hC dL_law_1149 rfl rfl ?_
  refine hz_iconst (v := (1 : Int32)) (n := 1152) hC dL_law_1151 (by decide +kernel) rfl ?_
  refine hz_iadd (n := 1153) hC dL_law_1152 rfl ?_
  refine hz_sld (n := 1154) hC hX hbl hbA dL_law_1153 rfl ?_
  refine hz_aload_n (a := 1) (n := 1155) hC dL_law_1154 rfl rfl rfl ?_
  refine hz_iload (a := 5) (n := 1157) hC dL_law_1155 rfl rfl ?_
  refine hz_iconst (v := (2 : Int32)) (n := 1158) hC dL_law_1157 (by decide +kernel) rfl ?_
  refine hz_iadd (n := 1159) hC dL_law_1158 rfl ?_
  refine hz_sld (n := 1160) hC hX hbl hbA dL_law_1159 rfl ?_
  refine hz_callV (k := 2) (As := [.int (xs ((x4 + (1 : Int32))).toNatClampNeg), .int (xs ((x4 + (2 : Int32))).toNatClampNeg)]) (st := []) (S1 := fun r => .int r :: []) (n := 1163) hC (c_X9_debtIn l (xs ((x4 + (1 : Int32))).toNatClampNeg) (xs ((x4 + (2 : Int32))).toNatClampNeg)   M1) kv_X9_debtIn wd_8_60 hIL.2.1 dL_law_1160 rfl (hIL.2.1 0 (by decide)) he_X9 rfl rfl rfl (Nat.le_of_ble_eq_true rfl) ⟨Nat.le_of_ble_eq_true rfl, Nat.le_of_ble_eq_true rfl⟩ ⟨by show _ ≤ (601024 : Nat); omega, by show _ ≤ (7293034 : Nat); omega⟩ (fun _ => rfl) rfl (fun r2 M2 _ => ?_)
  refine hz_istore (L' := [(6, .int r2), (5, .int r1), (0, .ref b), (1, .ref (adr 12 0)), (2, .ref (adr 13 0)), (3, .ref (adr 13 10)), (4, .int x4)]) (n := 1165) hC dL_law_1163 (by decide) rfl rfl ?_
  refine hz_aload_n (a := 4) (n := 1166) hC dL_law_1165 rfl rfl rfl ?_
  refine hz_callV (k := 0) (As := []) (st := []) (S1 := fun r => .int r :: []) (n := 1169) hC (c_X9_thrown l    M2) kv_X9_thrown wd_7_165 hIL.2.1 dL_law_1166 rfl (hIL.2.1 0 (by decide)) he_X9 rfl rfl rfl (Nat.le_of_ble_eq_true rfl) ⟨Nat.le_of_ble_eq_true rfl, Nat.le_of_ble_eq_true rfl⟩ ⟨by show _ ≤ (601024 : Nat); omega, by show _ ≤ (7293034 : Nat); omega⟩ (fun _ => rfl) rfl (fun r3 M3 _ => ?_)
  refine hz_iload (a := 1) (n := 1171) hC dL_law_1169 rfl rfl ?_
  refine hz_icmp_eq (tgt := 1176) (n := 1174) hC dL_law_1171 (by decide) rfl (fun _ => ?_) (fun _ => ?_)
  · refine hz_iload (a := 1) (n := 1178) hC dL_law_1176 rfl rfl ?_
    refine hz_if_ne (tgt := 1193) (n := 1181) hC dL_law_1178 (by decide) rfl (fun _ => ?_) (fun _ => ?_)
    · refine hz_aload_n (a := 5) (n := 1182) hC dL_law_1181 rfl rfl rfl ?_
      refine hz_iconst (v := (0 : Int32)) (n := 1183) hC dL_law_1182 (by decide +kernel) rfl ?_
      refine hz_lald13 (n := 1184) hC dL_law_1183 hIL.2.2 rfl ?_
      refine hz_iload (a := 0) (n := 1186) hC dL_law_1184 rfl rfl ?_
      refine hz_i2l (n := 1187) hC dL_law_1186 rfl ?_
      refine hz_lcmp (n := 1188) hC dL_law_1187 rfl ?_
      refine hz_if_eq (tgt := 1193) (n := 1191) hC dL_law_1188 (by decide) rfl (fun _ => ?_) (fun _ => ?_)
      · refine hz_goto (n := 2257) hC dL_law_1193 (by decide) ?_
        refine hz_L (L' := [(0, .ref b), (1, .ref (adr 12 0)), (2, .ref (adr 13 0)), (3, .ref (adr 13 10)), (4, .int x4)]) [2, 3, 4, 5, 6] rfl ?_
        exact hz_widen (k0 := cells + 45) (s0 := slots + 9000) ⟨by omega, by omega⟩ (kk M3 adr hp_sim.rf)
      · exact hz_none hC
    · refine hz_goto (n := 2257) hC dL_law_1193 (by decide) ?_
      refine hz_L (L' := [(0, .ref b), (1, .ref (adr 12 0)), (2, .ref (adr 13 0)), (3, .ref (adr 13 10)), (4, .int x4)]) [2, 3, 4, 5, 6] rfl ?_
      exact hz_widen (k0 := cells + 45) (s0 := slots + 9000) ⟨by omega, by omega⟩ (kk M3 adr hp_sim.rf)
  · exact hz_none hC
def C_law_18 {α : Type} (N : Nat) (xs : Nat → Int32) (x4 : Int32) (K : hp_M → Option α) (M : hp_M) : Option α := (if (x4 + (1 : Int32)) < 0 ∨ N ≤ ((x4 + (1 : Int32))).toNatClampNeg then none else (hp_b (F_L_waitIf (xs ((x4 + (1 : Int32))).toNatClampNeg) M) (fun r1 M1 => (if (x4 + (1 : Int32)) < 0 ∨ N ≤ ((x4 + (1 : Int32))).toNatClampNeg then none else (hp_b (F_X9_waitIf (xs ((x4 + (1 : Int32))).toNatClampNeg) M1) (fun r2 M2 => (hp_b (F_X9_thrown M2) (fun r3 M3 => (if r3 = r1 then (if r1 = 0 then (if (lg_cmp ((M3 13 10 0).toInt64) ((r2).toInt64)) = 0 then (K M3) else none) else (K M3)) else none)))))))))
set_option maxRecDepth 20000 in
set_option maxHeartbeats 4000000 in
theorem z_law_18 {p : Program} {l : Launch} {e : Env} {s : State} {m : MethodId} {args : Array Value} {below : List Frame} {meth : Method} {c : Code} {A : Nat → Prop} {D : va_G} {ids : List (Nat × Nat)} {adr : Nat → Nat → Nat} {adV cA : Nat → Nat} {Q : State → Prop} {α : Type} {G0 : Option α} {b N : Nat} {xs : Nat → Int32} (hl0 : l.stackTraces = false) (hIL : hp_IL ids) (hC : hp_Cx p s m meth c cL_law 9 "HallPhoneLaw" A D adV cA G0) (hX : va_X b N xs s s.heap) (hbl : b < s.heap.size) (hbA : ¬ A b) (x4 : Int32) (K : hp_M → Option α) (M : hp_M) (cells slots : Nat) (hcs : cells + 45 ≤ 601024 ∧ slots + 9000 ≤ 7293034) (kk : ∀ (M' : hp_M) (adr' : Nat → Nat → Nat), hp_sim adr adr' → hp_Z p l e room_1 s m args below meth c 9 A D ids adr' adV cA (cells + 45) (slots + 9000) Q G0 none 2257 [(0, .ref b), (1, .ref (adr' 12 0)), (2, .ref (adr' 13 0)), (3, .ref (adr' 13 10)), (4, .int x4)] [] M' (K M')) : hp_Z p l e room_1 s m args below meth c 9 A D ids adr adV cA cells slots Q G0 none 1196 [(0, .ref b), (1, .ref (adr 12 0)), (2, .ref (adr 13 0)), (3, .ref (adr 13 10)), (4, .int x4)] [] M (C_law_18 N xs x4 K M) := by
  have hIB := hIL.1
  have hI := hIB.1
  unfold C_law_18
  refine hz_aload_n (a := 1) (n := 1197) hC dL_law_1196 rfl rfl rfl ?_
  refine hz_aload_n (a := 0) (n := 1198) hC dL_law_1197 rfl rfl rfl ?_
  refine hz_iload (a := 4) (n := 1200) hC dL_law_1198 rfl rfl ?_
  refine hz_iconst (v := (1 : Int32)) (n := 1201) hC dL_law_1200 (by decide +kernel) rfl ?_
  refine hz_iadd (n := 1202) hC dL_law_1201 rfl ?_
  refine hz_sld (n := 1203) hC hX hbl hbA dL_law_1202 rfl ?_
  refine hz_aload_n (a := 3) (n := 1204) hC dL_law_1203 rfl rfl rfl ?_
  refine hz_callSW (k := 3) (As := [.ref (adr 12 0), .int (xs ((x4 + (1 : Int32))).toNatClampNeg), .ref (adr 13 10)]) (st := []) (S1 := fun r1 => .int r1 :: []) (n := 1207) hC (c_L_waitIf l hl0 (xs ((x4 + (1 : Int32))).toNatClampNeg) M) kw_L_waitIf wd_6_7 hIL dL_law_1204 rfl rfl rfl (Nat.le_of_ble_eq_true rfl) ⟨Nat.le_of_ble_eq_true rfl, Nat.le_of_ble_eq_true rfl⟩ ⟨by show _ ≤ (601024 : Nat); omega, by show _ ≤ (7293034 : Nat); omega⟩ (fun _ => rfl) rfl (fun r1 M1 _ => ?_)
  refine hz_istore (L' := [(5, .int r1), (0, .ref b), (1, .ref (adr 12 0)), (2, .ref (adr 13 0)), (3, .ref (adr 13 10)), (4, .int x4)]) (n := 1209) hC dL_law_1207 (by decide) rfl rfl ?_
  refine hz_aload_n (a := 3) (n := 1210) hC dL_law_1209 rfl rfl rfl ?_
  refine hz_aload_n (a := 1) (n := 1211) hC dL_law_1210 rfl rfl rfl ?_
  refine hz_iload (a := 5) (n := 1213) hC dL_law_1211 rfl rfl ?_
  refine hz_iconst (v := (1 : Int32)) (n := 1214) hC dL_law_1213 (by decide +kernel) rfl ?_
  refine hz_iadd (n := 1215) hC dL_law_1214 rfl ?_
  refine hz_sld (n := 1216) hC hX hbl hbA dL_law_1215 rfl ?_
  refine hz_callV (k := 1) (As := [.int (xs ((x4 + (1 : Int32))).toNatClampNeg)]) (st := []) (S1 := fun r => .int r :: []) (n := 1219) hC (c_X9_waitIf l (xs ((x4 + (1 : Int32))).toNatClampNeg)   M1) kv_X9_waitIf wd_8_64 hIL.2.1 dL_law_1216 rfl (hIL.2.1 0 (by decide)) he_X9 rfl rfl rfl (Nat.le_of_ble_eq_true rfl) ⟨Nat.le_of_ble_eq_true rfl, Nat.le_of_ble_eq_true rfl⟩ ⟨by show _ ≤ (601024 : Nat); omega, by show _ ≤ (7293034 : Nat); omega⟩ (fun _ => rfl) rfl (fun r2 M2 _ => ?_)
  refine hz_istore (L' := [(6, .int r2), (5, .int r1), (0, .ref b), (1, .ref (adr 12 0)), (2, .ref (adr 13 0)), (3, .ref (adr 13 10)), (4, .int x4)]) (n := 1221) hC dL_law_1219 (by decide) rfl rfl ?_
  refine hz_aload_n (a := 4) (n := 1222) hC dL_law_1221 rfl rfl rfl ?_
  refine hz_callV (k := 0) (As := []) (st := []) (S1 := fun r => .int r :: []) (n := 1225) hC (c_X9_thrown l    M2) kv_X9_thrown wd_7_165 hIL.2.1 dL_law_1222 rfl (hIL.2.1 0 (by decide)) he_X9 rfl rfl rfl (Nat.le_of_ble_eq_true rfl) ⟨Nat.le_of_ble_eq_true rfl, Nat.le_of_ble_eq_true rfl⟩ ⟨by show _ ≤ (601024 : Nat); omega, by show _ ≤ (7293034 : Nat); omega⟩ (fun _ => rfl) rfl (fun r3 M3 _ => ?_)
  refine hz_iload (a := 1) (n := 1227) hC dL_law_1225 rfl rfl ?_
  refine hz_icmp_eq (tgt := 1232) (n := 1230) hC dL_law_1227 (by decide) rfl (fun _ => ?_) (fun _ => ?_)
  · refine hz_iload (a := 1) (n := 1234) hC dL_law_1232 rfl rfl ?_
    refine hz_if_ne (tgt := 1249) (n := 1237) hC dL_law_1234 (by decide) rfl (fun _ => ?_) (fun _ => ?_)
    · refine hz_aload_n (a := 5) (n := 1238) hC dL_law_1237 rfl rfl rfl ?_
      refine hz_iconst (v := (0 : Int32)) (n := 1239) hC dL_law_1238 (by decide +kernel) rfl ?_
      refine hz_lald13 (n := 1240) hC dL_law_1239 hIL.2.2 rfl ?_
      refine hz_iload (a := 0) (n := 1242) hC dL_law_1240 rfl rfl ?_
      refine hz_i2l (n := 1243) hC dL_law_1242 rfl ?_
      refine hz_lcmp (n := 1244) hC dL_law_1243 rfl ?_
      refine hz_if_eq (tgt := 1249) (n := 1247) hC dL_law_1244 (by decide) rfl (fun _ => ?_) (fun _ => ?_)
      · refine hz_goto (n := 2257) hC dL_law_1249 (by decide) ?_
        refine hz_L (L' := [(0, .ref b), (1, .ref (adr 12 0)), (2, .ref (adr 13 0)), (3, .ref (adr 13 10)), (4, .int x4)]) [2, 3, 4, 5, 6] rfl ?_
        exact hz_widen (k0 := cells + 45) (s0 := slots + 9000) ⟨by omega, by omega⟩ (kk M3 adr hp_sim.rf)
      · exact hz_none hC
    · refine hz_goto (n := 2257) hC dL_law_1249 (by decide) ?_
      refine hz_L (L' := [(0, .ref b), (1, .ref (adr 12 0)), (2, .ref (adr 13 0)), (3, .ref (adr 13 10)), (4, .int x4)]) [2, 3, 4, 5, 6] rfl ?_
      exact hz_widen (k0 := cells + 45) (s0 := slots + 9000) ⟨by omega, by omega⟩ (kk M3 adr hp_sim.rf)
  · exact hz_none hC
def C_law_19 {α : Type} (N : Nat) (xs : Nat → Int32) (x4 : Int32) (K : hp_M → Option α) (M : hp_M) : Option α := (hp_b (F_X8_bestLimit M) (fun r1 M1 => (hp_b (F_X9_bestLimit M1) (fun r2 M2 => (if r1 = r2 then (K M2) else none)))))
set_option maxRecDepth 20000 in
set_option maxHeartbeats 4000000 in
theorem z_law_19 {p : Program} {l : Launch} {e : Env} {s : State} {m : MethodId} {args : Array Value} {below : List Frame} {meth : Method} {c : Code} {A : Nat → Prop} {D : va_G} {ids : List (Nat × Nat)} {adr : Nat → Nat → Nat} {adV cA : Nat → Nat} {Q : State → Prop} {α : Type} {G0 : Option α} {b N : Nat} {xs : Nat → Int32} (hl0 : l.stackTraces = false) (hIL : hp_IL ids) (hC : hp_Cx p s m meth c cL_law 9 "HallPhoneLaw" A D adV cA G0) (hX : va_X b N xs s s.heap) (hbl : b < s.heap.size) (hbA : ¬ A b) (x4 : Int32) (K : hp_M → Option α) (M : hp_M) (cells slots : Nat) (hcs : cells + 45 ≤ 601024 ∧ slots + 9000 ≤ 7293034) (kk : ∀ (M' : hp_M) (adr' : Nat → Nat → Nat), hp_sim adr adr' → hp_Z p l e room_1 s m args below meth c 9 A D ids adr' adV cA (cells + 45) (slots + 9000) Q G0 none 2257 [(0, .ref b), (1, .ref (adr' 12 0)), (2, .ref (adr' 13 0)), (3, .ref (adr' 13 10)), (4, .int x4)] [] M' (K M')) : hp_Z p l e room_1 s m args below meth c 9 A D ids adr adV cA cells slots Q G0 none 1252 [(0, .ref b), (1, .ref (adr 12 0)), (2, .ref (adr 13 0)), (3, .ref (adr 13 10)), (4, .int x4)] [] M (C_law_19 N xs x4 K M) := by
  have hIB := hIL.1
  have hI := hIB.1
  unfold C_law_19
  refine hz_aload_n (a := 1) (n := 1253) hC dL_law_1252 rfl rfl rfl ?_
  refine hz_callV (k := 0) (As := []) (st := []) (S1 := fun r => .int r :: []) (n := 1256) hC (c_X8_bestLimit l    M) kv_X8_bestLimit wd_3_125 hI dL_law_1253 rfl (hI.2 0 (by decide)) he_X8 rfl rfl rfl (Nat.le_of_ble_eq_true rfl) ⟨Nat.le_of_ble_eq_true rfl, Nat.le_of_ble_eq_true rfl⟩ ⟨by show _ ≤ (601024 : Nat); omega, by show _ ≤ (7293034 : Nat); omega⟩ (fun _ => rfl) rfl (fun r1 M1 _ => ?_)
  refine hz_aload_n (a := 2) (n := 1257) hC dL_law_1256 rfl rfl rfl ?_
  refine hz_callV (k := 0) (As := []) (st := [.int r1]) (S1 := fun r => .int r :: [.int r1]) (n := 1260) hC (c_X9_bestLimit l    M1) kv_X9_bestLimit wd_8_68 hIL.2.1 dL_law_1257 rfl (hIL.2.1 0 (by decide)) he_X9 rfl rfl rfl (Nat.le_of_ble_eq_true rfl) ⟨Nat.le_of_ble_eq_true rfl, Nat.le_of_ble_eq_true rfl⟩ ⟨by show _ ≤ (601024 : Nat); omega, by show _ ≤ (7293034 : Nat); omega⟩ (fun _ => rfl) rfl (fun r2 M2 _ => ?_)
  refine hz_icmp_eq (tgt := 2257) (n := 1263) hC dL_law_1260 (by decide) rfl (fun _ => ?_) (fun _ => ?_)
  · refine hz_L (L' := [(0, .ref b), (1, .ref (adr 12 0)), (2, .ref (adr 13 0)), (3, .ref (adr 13 10)), (4, .int x4)]) [0, 1, 2, 3, 4] rfl ?_
    exact hz_widen (k0 := cells + 45) (s0 := slots + 9000) ⟨by omega, by omega⟩ (kk M2 adr hp_sim.rf)
  · exact hz_none hC
def C_law_20 {α : Type} (N : Nat) (xs : Nat → Int32) (x4 : Int32) (K : hp_M → Option α) (M : hp_M) : Option α := (if (x4 + (1 : Int32)) < 0 ∨ N ≤ ((x4 + (1 : Int32))).toNatClampNeg then none else (if (x4 + (2 : Int32)) < 0 ∨ N ≤ ((x4 + (2 : Int32))).toNatClampNeg then none else (hp_b (F_L_learnsIn (xs ((x4 + (1 : Int32))).toNatClampNeg) (xs ((x4 + (2 : Int32))).toNatClampNeg) M) (fun r1 M1 => (if (x4 + (1 : Int32)) < 0 ∨ N ≤ ((x4 + (1 : Int32))).toNatClampNeg then none else (if (x4 + (2 : Int32)) < 0 ∨ N ≤ ((x4 + (2 : Int32))).toNatClampNeg then none else (hp_b (F_X9_learnsIn (xs ((x4 + (1 : Int32))).toNatClampNeg) (xs ((x4 + (2 : Int32))).toNatClampNeg) M1) (fun r2 M2 => (hp_b (F_X9_thrown M2) (fun r3 M3 => (if r3 = r1 then (if r1 = 0 then (if (lg_cmp ((M3 13 10 0).toInt64) ((r2).toInt64)) = 0 then (K M3) else none) else (K M3)) else none)))))))))))
set_option maxRecDepth 20000 in
set_option maxHeartbeats 4000000 in
theorem z_law_20 {p : Program} {l : Launch} {e : Env} {s : State} {m : MethodId} {args : Array Value} {below : List Frame} {meth : Method} {c : Code} {A : Nat → Prop} {D : va_G} {ids : List (Nat × Nat)} {adr : Nat → Nat → Nat} {adV cA : Nat → Nat} {Q : State → Prop} {α : Type} {G0 : Option α} {b N : Nat} {xs : Nat → Int32} (hl0 : l.stackTraces = false) (hIL : hp_IL ids) (hC : hp_Cx p s m meth c cL_law 9 "HallPhoneLaw" A D adV cA G0) (hX : va_X b N xs s s.heap) (hbl : b < s.heap.size) (hbA : ¬ A b) (x4 : Int32) (K : hp_M → Option α) (M : hp_M) (cells slots : Nat) (hcs : cells + 45 ≤ 601024 ∧ slots + 9000 ≤ 7293034) (kk : ∀ (M' : hp_M) (adr' : Nat → Nat → Nat), hp_sim adr adr' → hp_Z p l e room_1 s m args below meth c 9 A D ids adr' adV cA (cells + 45) (slots + 9000) Q G0 none 2257 [(0, .ref b), (1, .ref (adr' 12 0)), (2, .ref (adr' 13 0)), (3, .ref (adr' 13 10)), (4, .int x4)] [] M' (K M')) : hp_Z p l e room_1 s m args below meth c 9 A D ids adr adV cA cells slots Q G0 none 1265 [(0, .ref b), (1, .ref (adr 12 0)), (2, .ref (adr 13 0)), (3, .ref (adr 13 10)), (4, .int x4)] [] M (C_law_20 N xs x4 K M) := by
  have hIB := hIL.1
  have hI := hIB.1
  unfold C_law_20
  refine hz_aload_n (a := 1) (n := 1266) hC dL_law_1265 rfl rfl rfl ?_
  refine hz_aload_n (a := 0) (n := 1267) hC dL_law_1266 rfl rfl rfl ?_
  refine hz_iload (a := 4) (n := 1269) hC dL_law_1267 rfl rfl ?_
  refine hz_iconst (v := (1 : Int32)) (n := 1270) hC dL_law_1269 (by decide +kernel) rfl ?_
  refine hz_iadd (n := 1271) hC dL_law_1270 rfl ?_
  refine hz_sld (n := 1272) hC hX hbl hbA dL_law_1271 rfl ?_
  refine hz_aload_n (a := 0) (n := 1273) hC dL_law_1272 rfl rfl rfl ?_
  refine hz_iload (a := 4) (n := 1275) hC dL_law_1273 rfl rfl ?_
  refine hz_iconst (v := (2 : Int32)) (n := 1276) hC dL_law_1275 (by decide +kernel) rfl ?_
  refine hz_iadd (n := 1277) hC dL_law_1276 rfl ?_
  refine hz_sld (n := 1278) hC hX hbl hbA dL_law_1277 rfl ?_
  refine hz_aload_n (a := 3) (n := 1279) hC dL_law_1278 rfl rfl rfl ?_
  refine hz_callSW (k := 4) (As := [.ref (adr 12 0), .int (xs ((x4 + (1 : Int32))).toNatClampNeg), .int (xs ((x4 + (2 : Int32))).toNatClampNeg), .ref (adr 13 10)]) (st := []) (S1 := fun r1 => .int r1 :: []) (n := 1282) hC (c_L_learnsIn l hl0 (xs ((x4 + (1 : Int32))).toNatClampNeg) (xs ((x4 + (2 : Int32))).toNatClampNeg) M) kw_L_learnsIn wd_6_16 hIL dL_law_1279 rfl rfl rfl (Nat.le_of_ble_eq_true rfl) ⟨Nat.le_of_ble_eq_true rfl, Nat.le_of_ble_eq_true rfl⟩ ⟨by show _ ≤ (601024 : Nat); omega, by show _ ≤ (7293034 : Nat); omega⟩ (fun _ => rfl) rfl (fun r1 M1 _ => ?_)
  refine hz_istore (L' := [(5, .int r1), (0, .ref b), (1, .ref (adr 12 0)), (2, .ref (adr 13 0)), (3, .ref (adr 13 10)), (4, .int x4)]) (n := 1284) hC dL_law_1282 (by decide) rfl rfl ?_
  refine hz_aload_n (a := 3) (n := 1285) hC dL_law_1284 rfl rfl rfl ?_
  refine hz_aload_n (a := 1) (n := 1286) hC dL_law_1285 rfl rfl rfl ?_
  refine hz_iload (a := 5) (n := 1288) hC dL_law_1286 rfl rfl ?_
  refine hz_iconst (v := (1 : Int32)) (n := 1289) hC dL_law_1288 (by decide +kernel) rfl ?_
  refine hz_iadd (n := 1290) hC dL_law_1289 rfl ?_
  refine hz_sld (n := 1291) hC hX hbl hbA dL_law_1290 rfl ?_
  refine hz_aload_n (a := 1) (n := 1292) hC dL_law_1291 rfl rfl rfl ?_
  refine hz_iload (a := 5) (n := 1294) hC dL_law_1292 rfl rfl ?_
  refine hz_iconst (v := (2 : Int32)) (n := 1295) hC dL_law_1294 (by decide +kernel) rfl ?_
  refine hz_iadd (n := 1296) hC dL_law_1295 rfl ?_
  refine hz_sld (n := 1297) hC hX hbl hbA dL_law_1296 rfl ?_
  refine hz_callV (k := 2) (As := [.int (xs ((x4 + (1 : Int32))).toNatClampNeg), .int (xs ((x4 + (2 : Int32))).toNatClampNeg)]) (st := []) (S1 := fun r => .int r :: []) (n := 1300) hC (c_X9_learnsIn l (xs ((x4 + (1 : Int32))).toNatClampNeg) (xs ((x4 + (2 : Int32))).toNatClampNeg)   M1) kv_X9_learnsIn wd_8_80 hIL.2.1 dL_law_1297 rfl (hIL.2.1 0 (by decide)) he_X9 rfl rfl rfl (Nat.le_of_ble_eq_true rfl) ⟨Nat.le_of_ble_eq_true rfl, Nat.le_of_ble_eq_true rfl⟩ ⟨by show _ ≤ (601024 : Nat); omega, by show _ ≤ (7293034 : Nat); omega⟩ (fun _ => rfl) rfl (fun r2 M2 _ => ?_)
  refine hz_istore (L' := [(6, .int r2), (5, .int r1), (0, .ref b), (1, .ref (adr 12 0)), (2, .ref (adr 13 0)), (3, .ref (adr 13 10)), (4, .int x4)]) (n := 1302) hC dL_law_1300 (by decide) rfl rfl ?_
  refine hz_aload_n (a := 4) (n := 1303) hC dL_law_1302 rfl rfl rfl ?_
  refine hz_callV (k := 0) (As := []) (st := []) (S1 := fun r => .int r :: []) (n := 1306) hC (c_X9_thrown l    M2) kv_X9_thrown wd_7_165 hIL.2.1 dL_law_1303 rfl (hIL.2.1 0 (by decide)) he_X9 rfl rfl rfl (Nat.le_of_ble_eq_true rfl) ⟨Nat.le_of_ble_eq_true rfl, Nat.le_of_ble_eq_true rfl⟩ ⟨by show _ ≤ (601024 : Nat); omega, by show _ ≤ (7293034 : Nat); omega⟩ (fun _ => rfl) rfl (fun r3 M3 _ => ?_)
  refine hz_iload (a := 1) (n := 1308) hC dL_law_1306 rfl rfl ?_
  refine hz_icmp_eq (tgt := 1313) (n := 1311) hC dL_law_1308 (by decide) rfl (fun _ => ?_) (fun _ => ?_)
  · refine hz_iload (a := 1) (n := 1315) hC dL_law_1313 rfl rfl ?_
    refine hz_if_ne (tgt := 1330) (n := 1318) hC dL_law_1315 (by decide) rfl (fun _ => ?_) (fun _ => ?_)
    · refine hz_aload_n (a := 5) (n := 1319) hC dL_law_1318 rfl rfl rfl ?_
      refine hz_iconst (v := (0 : Int32)) (n := 1320) hC dL_law_1319 (by decide +kernel) rfl ?_
      refine hz_lald13 (n := 1321) hC dL_law_1320 hIL.2.2 rfl ?_
      refine hz_iload (a := 0) (n := 1323) hC dL_law_1321 rfl rfl ?_
      refine hz_i2l (n := 1324) hC dL_law_1323 rfl ?_
      refine hz_lcmp (n := 1325) hC dL_law_1324 rfl ?_
      refine hz_if_eq (tgt := 1330) (n := 1328) hC dL_law_1325 (by decide) rfl (fun _ => ?_) (fun _ => ?_)
      · refine hz_goto (n := 2257) hC dL_law_1330 (by decide) ?_
        refine hz_L (L' := [(0, .ref b), (1, .ref (adr 12 0)), (2, .ref (adr 13 0)), (3, .ref (adr 13 10)), (4, .int x4)]) [2, 3, 4, 5, 6] rfl ?_
        exact hz_widen (k0 := cells + 45) (s0 := slots + 9000) ⟨by omega, by omega⟩ (kk M3 adr hp_sim.rf)
      · exact hz_none hC
    · refine hz_goto (n := 2257) hC dL_law_1330 (by decide) ?_
      refine hz_L (L' := [(0, .ref b), (1, .ref (adr 12 0)), (2, .ref (adr 13 0)), (3, .ref (adr 13 10)), (4, .int x4)]) [2, 3, 4, 5, 6] rfl ?_
      exact hz_widen (k0 := cells + 45) (s0 := slots + 9000) ⟨by omega, by omega⟩ (kk M3 adr hp_sim.rf)
  · exact hz_none hC
def C_law_21 {α : Type} (N : Nat) (xs : Nat → Int32) (x4 : Int32) (K : hp_M → Option α) (M : hp_M) : Option α := (if (x4 + (1 : Int32)) < 0 ∨ N ≤ ((x4 + (1 : Int32))).toNatClampNeg then none else (hp_b (F_L_ifRung (xs ((x4 + (1 : Int32))).toNatClampNeg) M) (fun r1 M1 => (if (x4 + (1 : Int32)) < 0 ∨ N ≤ ((x4 + (1 : Int32))).toNatClampNeg then none else (hp_b (F_X9_ifRung (xs ((x4 + (1 : Int32))).toNatClampNeg) M1) (fun r2 M2 => (hp_b (F_X9_thrown M2) (fun r3 M3 => (if r3 = r1 then (if r1 = 0 then (if (lg_cmp ((M3 13 10 0).toInt64) ((r2).toInt64)) = 0 then (K M3) else none) else (K M3)) else none)))))))))
set_option maxRecDepth 20000 in
set_option maxHeartbeats 4000000 in
theorem z_law_21 {p : Program} {l : Launch} {e : Env} {s : State} {m : MethodId} {args : Array Value} {below : List Frame} {meth : Method} {c : Code} {A : Nat → Prop} {D : va_G} {ids : List (Nat × Nat)} {adr : Nat → Nat → Nat} {adV cA : Nat → Nat} {Q : State → Prop} {α : Type} {G0 : Option α} {b N : Nat} {xs : Nat → Int32} (hl0 : l.stackTraces = false) (hIL : hp_IL ids) (hC : hp_Cx p s m meth c cL_law 9 "HallPhoneLaw" A D adV cA G0) (hX : va_X b N xs s s.heap) (hbl : b < s.heap.size) (hbA : ¬ A b) (x4 : Int32) (K : hp_M → Option α) (M : hp_M) (cells slots : Nat) (hcs : cells + 45 ≤ 601024 ∧ slots + 9000 ≤ 7293034) (kk : ∀ (M' : hp_M) (adr' : Nat → Nat → Nat), hp_sim adr adr' → hp_Z p l e room_1 s m args below meth c 9 A D ids adr' adV cA (cells + 45) (slots + 9000) Q G0 none 2257 [(0, .ref b), (1, .ref (adr' 12 0)), (2, .ref (adr' 13 0)), (3, .ref (adr' 13 10)), (4, .int x4)] [] M' (K M')) : hp_Z p l e room_1 s m args below meth c 9 A D ids adr adV cA cells slots Q G0 none 1333 [(0, .ref b), (1, .ref (adr 12 0)), (2, .ref (adr 13 0)), (3, .ref (adr 13 10)), (4, .int x4)] [] M (C_law_21 N xs x4 K M) := by
  have hIB := hIL.1
  have hI := hIB.1
  unfold C_law_21
  refine hz_aload_n (a := 1) (n := 1334) hC dL_law_1333 rfl rfl rfl ?_
  refine hz_aload_n (a := 0) (n := 1335) hC dL_law_1334 rfl rfl rfl ?_
  refine hz_iload (a := 4) (n := 1337) hC dL_law_1335 rfl rfl ?_
  refine hz_iconst (v := (1 : Int32)) (n := 1338) hC dL_law_1337 (by decide +kernel) rfl ?_
  refine hz_iadd (n := 1339) hC dL_law_1338 rfl ?_
  refine hz_sld (n := 1340) hC hX hbl hbA dL_law_1339 rfl ?_
  refine hz_aload_n (a := 3) (n := 1341) hC dL_law_1340 rfl rfl rfl ?_
  refine hz_callSW (k := 3) (As := [.ref (adr 12 0), .int (xs ((x4 + (1 : Int32))).toNatClampNeg), .ref (adr 13 10)]) (st := []) (S1 := fun r1 => .int r1 :: []) (n := 1344) hC (c_L_ifRung l hl0 (xs ((x4 + (1 : Int32))).toNatClampNeg) M) kw_L_ifRung wd_6_27 hIL dL_law_1341 rfl rfl rfl (Nat.le_of_ble_eq_true rfl) ⟨Nat.le_of_ble_eq_true rfl, Nat.le_of_ble_eq_true rfl⟩ ⟨by show _ ≤ (601024 : Nat); omega, by show _ ≤ (7293034 : Nat); omega⟩ (fun _ => rfl) rfl (fun r1 M1 _ => ?_)
  refine hz_istore (L' := [(5, .int r1), (0, .ref b), (1, .ref (adr 12 0)), (2, .ref (adr 13 0)), (3, .ref (adr 13 10)), (4, .int x4)]) (n := 1346) hC dL_law_1344 (by decide) rfl rfl ?_
  refine hz_aload_n (a := 3) (n := 1347) hC dL_law_1346 rfl rfl rfl ?_
  refine hz_aload_n (a := 1) (n := 1348) hC dL_law_1347 rfl rfl rfl ?_
  refine hz_iload (a := 5) (n := 1350) hC dL_law_1348 rfl rfl ?_
  refine hz_iconst (v := (1 : Int32)) (n := 1351) hC dL_law_1350 (by decide +kernel) rfl ?_
  refine hz_iadd (n := 1352) hC dL_law_1351 rfl ?_
  refine hz_sld (n := 1353) hC hX hbl hbA dL_law_1352 rfl ?_
  refine hz_callV (k := 1) (As := [.int (xs ((x4 + (1 : Int32))).toNatClampNeg)]) (st := []) (S1 := fun r => .int r :: []) (n := 1356) hC (c_X9_ifRung l (xs ((x4 + (1 : Int32))).toNatClampNeg)   M1) kv_X9_ifRung wd_8_88 hIL.2.1 dL_law_1353 rfl (hIL.2.1 0 (by decide)) he_X9 rfl rfl rfl (Nat.le_of_ble_eq_true rfl) ⟨Nat.le_of_ble_eq_true rfl, Nat.le_of_ble_eq_true rfl⟩ ⟨by show _ ≤ (601024 : Nat); omega, by show _ ≤ (7293034 : Nat); omega⟩ (fun _ => rfl) rfl (fun r2 M2 _ => ?_)
  refine hz_istore (L' := [(6, .int r2), (5, .int r1), (0, .ref b), (1, .ref (adr 12 0)), (2, .ref (adr 13 0)), (3, .ref (adr 13 10)), (4, .int x4)]) (n := 1358) hC dL_law_1356 (by decide) rfl rfl ?_
  refine hz_aload_n (a := 4) (n := 1359) hC dL_law_1358 rfl rfl rfl ?_
  refine hz_callV (k := 0) (As := []) (st := []) (S1 := fun r => .int r :: []) (n := 1362) hC (c_X9_thrown l    M2) kv_X9_thrown wd_7_165 hIL.2.1 dL_law_1359 rfl (hIL.2.1 0 (by decide)) he_X9 rfl rfl rfl (Nat.le_of_ble_eq_true rfl) ⟨Nat.le_of_ble_eq_true rfl, Nat.le_of_ble_eq_true rfl⟩ ⟨by show _ ≤ (601024 : Nat); omega, by show _ ≤ (7293034 : Nat); omega⟩ (fun _ => rfl) rfl (fun r3 M3 _ => ?_)
  refine hz_iload (a := 1) (n := 1364) hC dL_law_1362 rfl rfl ?_
  refine hz_icmp_eq (tgt := 1369) (n := 1367) hC dL_law_1364 (by decide) rfl (fun _ => ?_) (fun _ => ?_)
  · refine hz_iload (a := 1) (n := 1371) hC dL_law_1369 rfl rfl ?_
    refine hz_if_ne (tgt := 1386) (n := 1374) hC dL_law_1371 (by decide) rfl (fun _ => ?_) (fun _ => ?_)
    · refine hz_aload_n (a := 5) (n := 1375) hC dL_law_1374 rfl rfl rfl ?_
      refine hz_iconst (v := (0 : Int32)) (n := 1376) hC dL_law_1375 (by decide +kernel) rfl ?_
      refine hz_lald13 (n := 1377) hC dL_law_1376 hIL.2.2 rfl ?_
      refine hz_iload (a := 0) (n := 1379) hC dL_law_1377 rfl rfl ?_
      refine hz_i2l (n := 1380) hC dL_law_1379 rfl ?_
      refine hz_lcmp (n := 1381) hC dL_law_1380 rfl ?_
      refine hz_if_eq (tgt := 1386) (n := 1384) hC dL_law_1381 (by decide) rfl (fun _ => ?_) (fun _ => ?_)
      · refine hz_goto (n := 2257) hC dL_law_1386 (by decide) ?_
        refine hz_L (L' := [(0, .ref b), (1, .ref (adr 12 0)), (2, .ref (adr 13 0)), (3, .ref (adr 13 10)), (4, .int x4)]) [2, 3, 4, 5, 6] rfl ?_
        exact hz_widen (k0 := cells + 45) (s0 := slots + 9000) ⟨by omega, by omega⟩ (kk M3 adr hp_sim.rf)
      · exact hz_none hC
    · refine hz_goto (n := 2257) hC dL_law_1386 (by decide) ?_
      refine hz_L (L' := [(0, .ref b), (1, .ref (adr 12 0)), (2, .ref (adr 13 0)), (3, .ref (adr 13 10)), (4, .int x4)]) [2, 3, 4, 5, 6] rfl ?_
      exact hz_widen (k0 := cells + 45) (s0 := slots + 9000) ⟨by omega, by omega⟩ (kk M3 adr hp_sim.rf)
  · exact hz_none hC
def C_law_22 {α : Type} (N : Nat) (xs : Nat → Int32) (x4 : Int32) (K : hp_M → Option α) (M : hp_M) : Option α := (if (x4 + (1 : Int32)) < 0 ∨ N ≤ ((x4 + (1 : Int32))).toNatClampNeg then none else (hp_b (F_L_account (xs ((x4 + (1 : Int32))).toNatClampNeg) M) (fun r1 M1 => (if (x4 + (1 : Int32)) < 0 ∨ N ≤ ((x4 + (1 : Int32))).toNatClampNeg then none else (hp_b (F_X9_account (xs ((x4 + (1 : Int32))).toNatClampNeg) M1) (fun r2 M2 => (hp_b (F_X9_thrown M2) (fun r3 M3 => (if r3 = r1 then (if r1 = 0 then (if (lg_cmp ((M3 13 10 0).toInt64) ((r2).toInt64)) = 0 then (K M3) else none) else (K M3)) else none)))))))))
set_option maxRecDepth 20000 in
set_option maxHeartbeats 4000000 in
theorem z_law_22 {p : Program} {l : Launch} {e : Env} {s : State} {m : MethodId} {args : Array Value} {below : List Frame} {meth : Method} {c : Code} {A : Nat → Prop} {D : va_G} {ids : List (Nat × Nat)} {adr : Nat → Nat → Nat} {adV cA : Nat → Nat} {Q : State → Prop} {α : Type} {G0 : Option α} {b N : Nat} {xs : Nat → Int32} (hl0 : l.stackTraces = false) (hIL : hp_IL ids) (hC : hp_Cx p s m meth c cL_law 9 "HallPhoneLaw" A D adV cA G0) (hX : va_X b N xs s s.heap) (hbl : b < s.heap.size) (hbA : ¬ A b) (x4 : Int32) (K : hp_M → Option α) (M : hp_M) (cells slots : Nat) (hcs : cells + 45 ≤ 601024 ∧ slots + 9000 ≤ 7293034) (kk : ∀ (M' : hp_M) (adr' : Nat → Nat → Nat), hp_sim adr adr' → hp_Z p l e room_1 s m args below meth c 9 A D ids adr' adV cA (cells + 45) (slots + 9000) Q G0 none 2257 [(0, .ref b), (1, .ref (adr' 12 0)), (2, .ref (adr' 13 0)), (3, .ref (adr' 13 10)), (4, .int x4)] [] M' (K M')) : hp_Z p l e room_1 s m args below meth c 9 A D ids adr adV cA cells slots Q G0 none 1389 [(0, .ref b), (1, .ref (adr 12 0)), (2, .ref (adr 13 0)), (3, .ref (adr 13 10)), (4, .int x4)] [] M (C_law_22 N xs x4 K M) := by
  have hIB := hIL.1
  have hI := hIB.1
  unfold C_law_22
  refine hz_aload_n (a := 1) (n := 1390) hC dL_law_1389 rfl rfl rfl ?_
  refine hz_aload_n (a := 0) (n := 1391) hC dL_law_1390 rfl rfl rfl ?_
  refine hz_iload (a := 4) (n := 1393) hC dL_law_1391 rfl rfl ?_
  refine hz_iconst (v := (1 : Int32)) (n := 1394) hC dL_law_1393 (by decide +kernel) rfl ?_
  refine hz_iadd (n := 1395) hC dL_law_1394 rfl ?_
  refine hz_sld (n := 1396) hC hX hbl hbA dL_law_1395 rfl ?_
  refine hz_aload_n (a := 3) (n := 1397) hC dL_law_1396 rfl rfl rfl ?_
  refine hz_callSW (k := 3) (As := [.ref (adr 12 0), .int (xs ((x4 + (1 : Int32))).toNatClampNeg), .ref (adr 13 10)]) (st := []) (S1 := fun r1 => .int r1 :: []) (n := 1400) hC (c_L_account l hl0 (xs ((x4 + (1 : Int32))).toNatClampNeg) M) kw_L_account wd_6_37 hIL dL_law_1397 rfl rfl rfl (Nat.le_of_ble_eq_true rfl) ⟨Nat.le_of_ble_eq_true rfl, Nat.le_of_ble_eq_true rfl⟩ ⟨by show _ ≤ (601024 : Nat); omega, by show _ ≤ (7293034 : Nat); omega⟩ (fun _ => rfl) rfl (fun r1 M1 _ => ?_)
  refine hz_istore (L' := [(5, .int r1), (0, .ref b), (1, .ref (adr 12 0)), (2, .ref (adr 13 0)), (3, .ref (adr 13 10)), (4, .int x4)]) (n := 1402) hC dL_law_1400 (by decide) rfl rfl ?_
  refine hz_aload_n (a := 3) (n := 1403) hC dL_law_1402 rfl rfl rfl ?_
  refine hz_aload_n (a := 1) (n := 1404) hC dL_law_1403 rfl rfl rfl ?_
  refine hz_iload (a := 5) (n := 1406) hC dL_law_1404 rfl rfl ?_
  refine hz_iconst (v := (1 : Int32)) (n := 1407) hC dL_law_1406 (by decide +kernel) rfl ?_
  refine hz_iadd (n := 1408) hC dL_law_1407 rfl ?_
  refine hz_sld (n := 1409) hC hX hbl hbA dL_law_1408 rfl ?_
  refine hz_callV (k := 1) (As := [.int (xs ((x4 + (1 : Int32))).toNatClampNeg)]) (st := []) (S1 := fun r => .int r :: []) (n := 1412) hC (c_X9_account l (xs ((x4 + (1 : Int32))).toNatClampNeg)   M1) kv_X9_account wd_8_92 hIL.2.1 dL_law_1409 rfl (hIL.2.1 0 (by decide)) he_X9 rfl rfl rfl (Nat.le_of_ble_eq_true rfl) ⟨Nat.le_of_ble_eq_true rfl, Nat.le_of_ble_eq_true rfl⟩ ⟨by show _ ≤ (601024 : Nat); omega, by show _ ≤ (7293034 : Nat); omega⟩ (fun _ => rfl) rfl (fun r2 M2 _ => ?_)
  refine hz_istore (L' := [(6, .int r2), (5, .int r1), (0, .ref b), (1, .ref (adr 12 0)), (2, .ref (adr 13 0)), (3, .ref (adr 13 10)), (4, .int x4)]) (n := 1414) hC dL_law_1412 (by decide) rfl rfl ?_
  refine hz_aload_n (a := 4) (n := 1415) hC dL_law_1414 rfl rfl rfl ?_
  refine hz_callV (k := 0) (As := []) (st := []) (S1 := fun r => .int r :: []) (n := 1418) hC (c_X9_thrown l    M2) kv_X9_thrown wd_7_165 hIL.2.1 dL_law_1415 rfl (hIL.2.1 0 (by decide)) he_X9 rfl rfl rfl (Nat.le_of_ble_eq_true rfl) ⟨Nat.le_of_ble_eq_true rfl, Nat.le_of_ble_eq_true rfl⟩ ⟨by show _ ≤ (601024 : Nat); omega, by show _ ≤ (7293034 : Nat); omega⟩ (fun _ => rfl) rfl (fun r3 M3 _ => ?_)
  refine hz_iload (a := 1) (n := 1420) hC dL_law_1418 rfl rfl ?_
  refine hz_icmp_eq (tgt := 1425) (n := 1423) hC dL_law_1420 (by decide) rfl (fun _ => ?_) (fun _ => ?_)
  · refine hz_iload (a := 1) (n := 1427) hC dL_law_1425 rfl rfl ?_
    refine hz_if_ne (tgt := 1442) (n := 1430) hC dL_law_1427 (by decide) rfl (fun _ => ?_) (fun _ => ?_)
    · refine hz_aload_n (a := 5) (n := 1431) hC dL_law_1430 rfl rfl rfl ?_
      refine hz_iconst (v := (0 : Int32)) (n := 1432) hC dL_law_1431 (by decide +kernel) rfl ?_
      refine hz_lald13 (n := 1433) hC dL_law_1432 hIL.2.2 rfl ?_
      refine hz_iload (a := 0) (n := 1435) hC dL_law_1433 rfl rfl ?_
      refine hz_i2l (n := 1436) hC dL_law_1435 rfl ?_
      refine hz_lcmp (n := 1437) hC dL_law_1436 rfl ?_
      refine hz_if_eq (tgt := 1442) (n := 1440) hC dL_law_1437 (by decide) rfl (fun _ => ?_) (fun _ => ?_)
      · refine hz_goto (n := 2257) hC dL_law_1442 (by decide) ?_
        refine hz_L (L' := [(0, .ref b), (1, .ref (adr 12 0)), (2, .ref (adr 13 0)), (3, .ref (adr 13 10)), (4, .int x4)]) [2, 3, 4, 5, 6] rfl ?_
        exact hz_widen (k0 := cells + 45) (s0 := slots + 9000) ⟨by omega, by omega⟩ (kk M3 adr hp_sim.rf)
      · exact hz_none hC
    · refine hz_goto (n := 2257) hC dL_law_1442 (by decide) ?_
      refine hz_L (L' := [(0, .ref b), (1, .ref (adr 12 0)), (2, .ref (adr 13 0)), (3, .ref (adr 13 10)), (4, .int x4)]) [2, 3, 4, 5, 6] rfl ?_
      exact hz_widen (k0 := cells + 45) (s0 := slots + 9000) ⟨by omega, by omega⟩ (kk M3 adr hp_sim.rf)
  · exact hz_none hC
def C_law_23 {α : Type} (N : Nat) (xs : Nat → Int32) (x4 : Int32) (K : hp_M → Option α) (M : hp_M) : Option α := (hp_b (F_X8_meanCall M) (fun r1 M1 => (hp_b (F_X9_meanCall M1) (fun r2 M2 => (if (Op.cmpValue (FP.dcmp r1 r2) .l) = 0 then (K M2) else (if (Op.cmpValue (FP.dcmp r1 r1) .l) = 0 then none else (if (Op.cmpValue (FP.dcmp r2 r2) .l) = 0 then none else (K M2))))))))
set_option maxRecDepth 20000 in
set_option maxHeartbeats 4000000 in
theorem z_law_23 {p : Program} {l : Launch} {e : Env} {s : State} {m : MethodId} {args : Array Value} {below : List Frame} {meth : Method} {c : Code} {A : Nat → Prop} {D : va_G} {ids : List (Nat × Nat)} {adr : Nat → Nat → Nat} {adV cA : Nat → Nat} {Q : State → Prop} {α : Type} {G0 : Option α} {b N : Nat} {xs : Nat → Int32} (hl0 : l.stackTraces = false) (hIL : hp_IL ids) (hC : hp_Cx p s m meth c cL_law 9 "HallPhoneLaw" A D adV cA G0) (hX : va_X b N xs s s.heap) (hbl : b < s.heap.size) (hbA : ¬ A b) (x4 : Int32) (K : hp_M → Option α) (M : hp_M) (cells slots : Nat) (hcs : cells + 45 ≤ 601024 ∧ slots + 9000 ≤ 7293034) (kk : ∀ (M' : hp_M) (adr' : Nat → Nat → Nat), hp_sim adr adr' → hp_Z p l e room_1 s m args below meth c 9 A D ids adr' adV cA (cells + 45) (slots + 9000) Q G0 none 2257 [(0, .ref b), (1, .ref (adr' 12 0)), (2, .ref (adr' 13 0)), (3, .ref (adr' 13 10)), (4, .int x4)] [] M' (K M')) : hp_Z p l e room_1 s m args below meth c 9 A D ids adr adV cA cells slots Q G0 none 1445 [(0, .ref b), (1, .ref (adr 12 0)), (2, .ref (adr 13 0)), (3, .ref (adr 13 10)), (4, .int x4)] [] M (C_law_23 N xs x4 K M) := by
  have hIB := hIL.1
  have hI := hIB.1
  unfold C_law_23
  refine hz_aload_n (a := 1) (n := 1446) hC dL_law_1445 rfl rfl rfl ?_
  refine hz_callV (k := 0) (As := []) (st := []) (S1 := fun r => .double r :: []) (n := 1449) hC (c_X8_meanCall l    M) kv_X8_meanCall wd_3_135 hI dL_law_1446 rfl (hI.2 0 (by decide)) he_X8 rfl rfl rfl (Nat.le_of_ble_eq_true rfl) ⟨Nat.le_of_ble_eq_true rfl, Nat.le_of_ble_eq_true rfl⟩ ⟨by show _ ≤ (601024 : Nat); omega, by show _ ≤ (7293034 : Nat); omega⟩ (fun _ => rfl) rfl (fun r1 M1 _ => ?_)
  refine hz_dstore (L' := [(5, .double r1), (0, .ref b), (1, .ref (adr 12 0)), (2, .ref (adr 13 0)), (3, .ref (adr 13 10)), (4, .int x4)]) (n := 1451) hC dL_law_1449 (by decide) rfl rfl ?_
  refine hz_aload_n (a := 3) (n := 1452) hC dL_law_1451 rfl rfl rfl ?_
  refine hz_callV (k := 0) (As := []) (st := []) (S1 := fun r => .double r :: []) (n := 1455) hC (c_X9_meanCall l    M1) kv_X9_meanCall wd_8_100 hIL.2.1 dL_law_1452 rfl (hIL.2.1 0 (by decide)) he_X9 rfl rfl rfl (Nat.le_of_ble_eq_true rfl) ⟨Nat.le_of_ble_eq_true rfl, Nat.le_of_ble_eq_true rfl⟩ ⟨by show _ ≤ (601024 : Nat); omega, by show _ ≤ (7293034 : Nat); omega⟩ (fun _ => rfl) rfl (fun r2 M2 _ => ?_)
  refine hz_dstore (L' := [(7, .double r2), (5, .double r1), (0, .ref b), (1, .ref (adr 12 0)), (2, .ref (adr 13 0)), (3, .ref (adr 13 10)), (4, .int x4)]) (n := 1457) hC dL_law_1455 (by decide) rfl rfl ?_
  refine hz_dload (a := 1) (n := 1459) hC dL_law_1457 rfl rfl ?_
  refine hz_dload (a := 0) (n := 1461) hC dL_law_1459 rfl rfl ?_
  refine hz_dcmp (n := 1462) hC dL_law_1461 rfl ?_
  refine hz_if_eq (tgt := 1483) (n := 1465) hC dL_law_1462 (by decide) rfl (fun _ => ?_) (fun _ => ?_)
  · refine hz_goto (n := 2257) hC dL_law_1483 (by decide) ?_
    refine hz_L (L' := [(0, .ref b), (1, .ref (adr 12 0)), (2, .ref (adr 13 0)), (3, .ref (adr 13 10)), (4, .int x4)]) [2, 3, 4, 5, 6] rfl ?_
    exact hz_widen (k0 := cells + 45) (s0 := slots + 9000) ⟨by omega, by omega⟩ (kk M2 adr hp_sim.rf)
  · refine hz_dload (a := 1) (n := 1467) hC dL_law_1465 rfl rfl ?_
    refine hz_dload (a := 1) (n := 1469) hC dL_law_1467 rfl rfl ?_
    refine hz_dcmp (n := 1470) hC dL_law_1469 rfl ?_
    refine hz_if_eq (tgt := 1481) (n := 1473) hC dL_law_1470 (by decide) rfl (fun _ => ?_) (fun _ => ?_)
    · exact hz_none hC
    · refine hz_dload (a := 0) (n := 1475) hC dL_law_1473 rfl rfl ?_
      refine hz_dload (a := 0) (n := 1477) hC dL_law_1475 rfl rfl ?_
      refine hz_dcmp (n := 1478) hC dL_law_1477 rfl ?_
      refine hz_if_ne (tgt := 1483) (n := 1481) hC dL_law_1478 (by decide) rfl (fun _ => ?_) (fun _ => ?_)
      · exact hz_none hC
      · refine hz_goto (n := 2257) hC dL_law_1483 (by decide) ?_
        refine hz_L (L' := [(0, .ref b), (1, .ref (adr 12 0)), (2, .ref (adr 13 0)), (3, .ref (adr 13 10)), (4, .int x4)]) [2, 3, 4, 5, 6] rfl ?_
        exact hz_widen (k0 := cells + 45) (s0 := slots + 9000) ⟨by omega, by omega⟩ (kk M2 adr hp_sim.rf)
def C_law_24 {α : Type} (N : Nat) (xs : Nat → Int32) (x4 : Int32) (K : hp_M → Option α) (M : hp_M) : Option α := (hp_b (F_X8_busyShare M) (fun r1 M1 => (if (FP.f2d r1) &&& 0x7fffffffffffffff ≤ 0x7ff0000000000000 then (hp_b (F_X9_busyShare M1) (fun r2 M2 => (if (FP.f2d r2) &&& 0x7fffffffffffffff ≤ 0x7ff0000000000000 then (if (Op.cmpValue (FP.dcmp (FP.f2d r1) (FP.f2d r2)) .l) = 0 then (K M2) else (if (Op.cmpValue (FP.dcmp (FP.f2d r1) (FP.f2d r1)) .l) = 0 then none else (if (Op.cmpValue (FP.dcmp (FP.f2d r2) (FP.f2d r2)) .l) = 0 then none else (K M2)))) else none))) else none)))
set_option maxRecDepth 20000 in
set_option maxHeartbeats 4000000 in
theorem z_law_24 {p : Program} {l : Launch} {e : Env} {s : State} {m : MethodId} {args : Array Value} {below : List Frame} {meth : Method} {c : Code} {A : Nat → Prop} {D : va_G} {ids : List (Nat × Nat)} {adr : Nat → Nat → Nat} {adV cA : Nat → Nat} {Q : State → Prop} {α : Type} {G0 : Option α} {b N : Nat} {xs : Nat → Int32} (hl0 : l.stackTraces = false) (hIL : hp_IL ids) (hC : hp_Cx p s m meth c cL_law 9 "HallPhoneLaw" A D adV cA G0) (hX : va_X b N xs s s.heap) (hbl : b < s.heap.size) (hbA : ¬ A b) (x4 : Int32) (K : hp_M → Option α) (M : hp_M) (cells slots : Nat) (hcs : cells + 45 ≤ 601024 ∧ slots + 9000 ≤ 7293034) (kk : ∀ (M' : hp_M) (adr' : Nat → Nat → Nat), hp_sim adr adr' → hp_Z p l e room_1 s m args below meth c 9 A D ids adr' adV cA (cells + 45) (slots + 9000) Q G0 none 2257 [(0, .ref b), (1, .ref (adr' 12 0)), (2, .ref (adr' 13 0)), (3, .ref (adr' 13 10)), (4, .int x4)] [] M' (K M')) : hp_Z p l e room_1 s m args below meth c 9 A D ids adr adV cA cells slots Q G0 none 1486 [(0, .ref b), (1, .ref (adr 12 0)), (2, .ref (adr 13 0)), (3, .ref (adr 13 10)), (4, .int x4)] [] M (C_law_24 N xs x4 K M) := by
  have hIB := hIL.1
  have hI := hIB.1
  unfold C_law_24
  refine hz_aload_n (a := 1) (n := 1487) hC dL_law_1486 rfl rfl rfl ?_
  refine hz_callV (k := 0) (As := []) (st := []) (S1 := fun r => .float r :: []) (n := 1490) hC (c_X8_busyShare l    M) kv_X8_busyShare wd_3_147 hI dL_law_1487 rfl (hI.2 0 (by decide)) he_X8 rfl rfl rfl (Nat.le_of_ble_eq_true rfl) ⟨Nat.le_of_ble_eq_true rfl, Nat.le_of_ble_eq_true rfl⟩ ⟨by show _ ≤ (601024 : Nat); omega, by show _ ≤ (7293034 : Nat); omega⟩ (fun _ => rfl) rfl (fun r1 M1 _ => ?_)
  refine hz_f2d (n := 1491) hC dL_law_1490 rfl ?_
  refine hz_dstore (L' := [(5, .double (FP.f2d r1)), (0, .ref b), (1, .ref (adr 12 0)), (2, .ref (adr 13 0)), (3, .ref (adr 13 10)), (4, .int x4)]) (n := 1493) hC dL_law_1491 (by decide) rfl rfl ?_
  refine hz_aload_n (a := 3) (n := 1494) hC dL_law_1493 rfl rfl rfl ?_
  refine hz_callV (k := 0) (As := []) (st := []) (S1 := fun r => .float r :: []) (n := 1497) hC (c_X9_busyShare l    M1) kv_X9_busyShare wd_8_104 hIL.2.1 dL_law_1494 rfl (hIL.2.1 0 (by decide)) he_X9 rfl rfl rfl (Nat.le_of_ble_eq_true rfl) ⟨Nat.le_of_ble_eq_true rfl, Nat.le_of_ble_eq_true rfl⟩ ⟨by show _ ≤ (601024 : Nat); omega, by show _ ≤ (7293034 : Nat); omega⟩ (fun _ => rfl) rfl (fun r2 M2 _ => ?_)
  refine hz_f2d (n := 1498) hC dL_law_1497 rfl ?_
  refine hz_dstore (L' := [(7, .double (FP.f2d r2)), (5, .double (FP.f2d r1)), (0, .ref b), (1, .ref (adr 12 0)), (2, .ref (adr 13 0)), (3, .ref (adr 13 10)), (4, .int x4)]) (n := 1500) hC dL_law_1498 (by decide) rfl rfl ?_
  refine hz_dload (a := 1) (n := 1502) hC dL_law_1500 rfl rfl ?_
  refine hz_dload (a := 0) (n := 1504) hC dL_law_1502 rfl rfl ?_
  refine hz_dcmp (n := 1505) hC dL_law_1504 rfl ?_
  refine hz_if_eq (tgt := 1526) (n := 1508) hC dL_law_1505 (by decide) rfl (fun _ => ?_) (fun _ => ?_)
  · refine hz_goto (n := 2257) hC dL_law_1526 (by decide) ?_
    refine hz_L (L' := [(0, .ref b), (1, .ref (adr 12 0)), (2, .ref (adr 13 0)), (3, .ref (adr 13 10)), (4, .int x4)]) [2, 3, 4, 5, 6] rfl ?_
    exact hz_widen (k0 := cells + 45) (s0 := slots + 9000) ⟨by omega, by omega⟩ (kk M2 adr hp_sim.rf)
  · refine hz_dload (a := 1) (n := 1510) hC dL_law_1508 rfl rfl ?_
    refine hz_dload (a := 1) (n := 1512) hC dL_law_1510 rfl rfl ?_
    refine hz_dcmp (n := 1513) hC dL_law_1512 rfl ?_
    refine hz_if_eq (tgt := 1524) (n := 1516) hC dL_law_1513 (by decide) rfl (fun _ => ?_) (fun _ => ?_)
    · exact hz_none hC
    · refine hz_dload (a := 0) (n := 1518) hC dL_law_1516 rfl rfl ?_
      refine hz_dload (a := 0) (n := 1520) hC dL_law_1518 rfl rfl ?_
      refine hz_dcmp (n := 1521) hC dL_law_1520 rfl ?_
      refine hz_if_ne (tgt := 1526) (n := 1524) hC dL_law_1521 (by decide) rfl (fun _ => ?_) (fun _ => ?_)
      · exact hz_none hC
      · refine hz_goto (n := 2257) hC dL_law_1526 (by decide) ?_
        refine hz_L (L' := [(0, .ref b), (1, .ref (adr 12 0)), (2, .ref (adr 13 0)), (3, .ref (adr 13 10)), (4, .int x4)]) [2, 3, 4, 5, 6] rfl ?_
        exact hz_widen (k0 := cells + 45) (s0 := slots + 9000) ⟨by omega, by omega⟩ (kk M2 adr hp_sim.rf)
def C_law_25 {α : Type} (N : Nat) (xs : Nat → Int32) (x4 : Int32) (K : hp_M → Option α) (M : hp_M) : Option α := (hp_b (F_X8_writeHouse M) (fun r1 M1 => (hp_b (F_X9_writeHouse M1) (fun r2 M2 => (if r1 = r2 then (K M2) else none)))))
set_option maxRecDepth 20000 in
set_option maxHeartbeats 4000000 in
theorem z_law_25 {p : Program} {l : Launch} {e : Env} {s : State} {m : MethodId} {args : Array Value} {below : List Frame} {meth : Method} {c : Code} {A : Nat → Prop} {D : va_G} {ids : List (Nat × Nat)} {adr : Nat → Nat → Nat} {adV cA : Nat → Nat} {Q : State → Prop} {α : Type} {G0 : Option α} {b N : Nat} {xs : Nat → Int32} (hl0 : l.stackTraces = false) (hIL : hp_IL ids) (hC : hp_Cx p s m meth c cL_law 9 "HallPhoneLaw" A D adV cA G0) (hX : va_X b N xs s s.heap) (hbl : b < s.heap.size) (hbA : ¬ A b) (x4 : Int32) (K : hp_M → Option α) (M : hp_M) (cells slots : Nat) (hcs : cells + 45 ≤ 601024 ∧ slots + 9000 ≤ 7293034) (kk : ∀ (M' : hp_M) (adr' : Nat → Nat → Nat), hp_sim adr adr' → hp_Z p l e room_1 s m args below meth c 9 A D ids adr' adV cA (cells + 45) (slots + 9000) Q G0 none 2257 [(0, .ref b), (1, .ref (adr' 12 0)), (2, .ref (adr' 13 0)), (3, .ref (adr' 13 10)), (4, .int x4)] [] M' (K M')) : hp_Z p l e room_1 s m args below meth c 9 A D ids adr adV cA cells slots Q G0 none 1529 [(0, .ref b), (1, .ref (adr 12 0)), (2, .ref (adr 13 0)), (3, .ref (adr 13 10)), (4, .int x4)] [] M (C_law_25 N xs x4 K M) := by
  have hIB := hIL.1
  have hI := hIB.1
  unfold C_law_25
  refine hz_aload_n (a := 1) (n := 1530) hC dL_law_1529 rfl rfl rfl ?_
  refine hz_callVG (k := 0) (As := []) (st := []) (S1 := fun adr1 r1 => .int r1 :: []) (LF := fun adr1 => [(0, .ref b), (1, .ref (adr1 12 0)), (2, .ref (adr1 13 0)), (3, .ref (adr1 13 10)), (4, .int x4)]) (n := 1533) hC (c_X8_writeHouse l    M) kv_X8_writeHouse wd_3_151 hIB dL_law_1530 rfl (hI.2 0 (by decide)) he_X8 rfl rfl rfl (Nat.le_of_ble_eq_true rfl) ⟨Nat.le_of_ble_eq_true rfl, Nat.le_of_ble_eq_true rfl⟩ ⟨by show _ ≤ (601024 : Nat); omega, by show _ ≤ (7293034 : Nat); omega⟩ (fun a h => by first | rfl | simp only [h 12 0 (by decide), h 13 0 (by decide), h 13 10 (by decide)] | simp only [h 12 0 (by decide), h 13 0 (by decide), h 13 10 (by decide), h 14 0 (by decide)]) (fun a r h => by first | rfl | simp only [h 12 0 (by decide), h 13 0 (by decide), h 13 10 (by decide)] | simp only [h 12 0 (by decide), h 13 0 (by decide), h 13 10 (by decide), h 14 0 (by decide)]) rfl (fun r1 M1 adr1 _ hs1 => ?_)
  refine hz_aload_n (a := 2) (n := 1534) hC dL_law_1533 rfl rfl rfl ?_
  refine hz_callV (k := 0) (As := []) (st := [.int r1]) (S1 := fun r => .int r :: [.int r1]) (n := 1537) hC (c_X9_writeHouse l    M1) kv_X9_writeHouse wd_8_108 hIL.2.1 dL_law_1534 rfl (hIL.2.1 0 (by decide)) he_X9 rfl rfl rfl (Nat.le_of_ble_eq_true rfl) ⟨Nat.le_of_ble_eq_true rfl, Nat.le_of_ble_eq_true rfl⟩ ⟨by show _ ≤ (601024 : Nat); omega, by show _ ≤ (7293034 : Nat); omega⟩ (fun _ => rfl) rfl (fun r2 M2 _ => ?_)
  refine hz_icmp_eq (tgt := 2257) (n := 1540) hC dL_law_1537 (by decide) rfl (fun _ => ?_) (fun _ => ?_)
  · refine hz_L (L' := [(0, .ref b), (1, .ref (adr1 12 0)), (2, .ref (adr1 13 0)), (3, .ref (adr1 13 10)), (4, .int x4)]) [0, 1, 2, 3, 4] rfl ?_
    exact hz_widen (k0 := cells + 45) (s0 := slots + 9000) ⟨by omega, by omega⟩ (kk M2 adr1 (hp_sim.tr hp_sim.rf hs1))
  · exact hz_none hC
def C_law_26 {α : Type} (N : Nat) (xs : Nat → Int32) (x4 : Int32) (K : hp_M → Option α) (M : hp_M) : Option α := (hp_b (F_X8_writeSlate M) (fun r1 M1 => (hp_b (F_X9_writeSlate M1) (fun r2 M2 => (if r1 = r2 then (K M2) else none)))))
set_option maxRecDepth 20000 in
set_option maxHeartbeats 4000000 in
theorem z_law_26 {p : Program} {l : Launch} {e : Env} {s : State} {m : MethodId} {args : Array Value} {below : List Frame} {meth : Method} {c : Code} {A : Nat → Prop} {D : va_G} {ids : List (Nat × Nat)} {adr : Nat → Nat → Nat} {adV cA : Nat → Nat} {Q : State → Prop} {α : Type} {G0 : Option α} {b N : Nat} {xs : Nat → Int32} (hl0 : l.stackTraces = false) (hIL : hp_IL ids) (hC : hp_Cx p s m meth c cL_law 9 "HallPhoneLaw" A D adV cA G0) (hX : va_X b N xs s s.heap) (hbl : b < s.heap.size) (hbA : ¬ A b) (x4 : Int32) (K : hp_M → Option α) (M : hp_M) (cells slots : Nat) (hcs : cells + 45 ≤ 601024 ∧ slots + 9000 ≤ 7293034) (kk : ∀ (M' : hp_M) (adr' : Nat → Nat → Nat), hp_sim adr adr' → hp_Z p l e room_1 s m args below meth c 9 A D ids adr' adV cA (cells + 45) (slots + 9000) Q G0 none 2257 [(0, .ref b), (1, .ref (adr' 12 0)), (2, .ref (adr' 13 0)), (3, .ref (adr' 13 10)), (4, .int x4)] [] M' (K M')) : hp_Z p l e room_1 s m args below meth c 9 A D ids adr adV cA cells slots Q G0 none 1542 [(0, .ref b), (1, .ref (adr 12 0)), (2, .ref (adr 13 0)), (3, .ref (adr 13 10)), (4, .int x4)] [] M (C_law_26 N xs x4 K M) := by
  have hIB := hIL.1
  have hI := hIB.1
  unfold C_law_26
  refine hz_aload_n (a := 1) (n := 1543) hC dL_law_1542 rfl rfl rfl ?_
  refine hz_callVG (k := 0) (As := []) (st := []) (S1 := fun adr1 r1 => .int r1 :: []) (LF := fun adr1 => [(0, .ref b), (1, .ref (adr1 12 0)), (2, .ref (adr1 13 0)), (3, .ref (adr1 13 10)), (4, .int x4)]) (n := 1546) hC (c_X8_writeSlate l    M) kv_X8_writeSlate wd_5_17 hIB dL_law_1543 rfl (hI.2 0 (by decide)) he_X8 rfl rfl rfl (Nat.le_of_ble_eq_true rfl) ⟨Nat.le_of_ble_eq_true rfl, Nat.le_of_ble_eq_true rfl⟩ ⟨by show _ ≤ (601024 : Nat); omega, by show _ ≤ (7293034 : Nat); omega⟩ (fun a h => by first | rfl | simp only [h 12 0 (by decide), h 13 0 (by decide), h 13 10 (by decide)] | simp only [h 12 0 (by decide), h 13 0 (by decide), h 13 10 (by decide), h 14 0 (by decide)]) (fun a r h => by first | rfl | simp only [h 12 0 (by decide), h 13 0 (by decide), h 13 10 (by decide)] | simp only [h 12 0 (by decide), h 13 0 (by decide), h 13 10 (by decide), h 14 0 (by decide)]) rfl (fun r1 M1 adr1 _ hs1 => ?_)
  refine hz_aload_n (a := 2) (n := 1547) hC dL_law_1546 rfl rfl rfl ?_
  refine hz_callV (k := 0) (As := []) (st := [.int r1]) (S1 := fun r => .int r :: [.int r1]) (n := 1550) hC (c_X9_writeSlate l    M1) kv_X9_writeSlate wd_8_124 hIL.2.1 dL_law_1547 rfl (hIL.2.1 0 (by decide)) he_X9 rfl rfl rfl (Nat.le_of_ble_eq_true rfl) ⟨Nat.le_of_ble_eq_true rfl, Nat.le_of_ble_eq_true rfl⟩ ⟨by show _ ≤ (601024 : Nat); omega, by show _ ≤ (7293034 : Nat); omega⟩ (fun _ => rfl) rfl (fun r2 M2 _ => ?_)
  refine hz_icmp_eq (tgt := 2257) (n := 1553) hC dL_law_1550 (by decide) rfl (fun _ => ?_) (fun _ => ?_)
  · refine hz_L (L' := [(0, .ref b), (1, .ref (adr1 12 0)), (2, .ref (adr1 13 0)), (3, .ref (adr1 13 10)), (4, .int x4)]) [0, 1, 2, 3, 4] rfl ?_
    exact hz_widen (k0 := cells + 45) (s0 := slots + 9000) ⟨by omega, by omega⟩ (kk M2 adr1 (hp_sim.tr hp_sim.rf hs1))
  · exact hz_none hC
def C_law_27 {α : Type} (N : Nat) (xs : Nat → Int32) (x4 : Int32) (K : hp_M → Option α) (M : hp_M) : Option α := (if (x4 + (1 : Int32)) < 0 ∨ N ≤ ((x4 + (1 : Int32))).toNatClampNeg then none else (hp_b (F_X8_reportAt (xs ((x4 + (1 : Int32))).toNatClampNeg) M) (fun r1 M1 => (if (x4 + (1 : Int32)) < 0 ∨ N ≤ ((x4 + (1 : Int32))).toNatClampNeg then none else (hp_b (F_X9_reportAt (xs ((x4 + (1 : Int32))).toNatClampNeg) M1) (fun r2 M2 => (if r1 = r2 then (K M2) else none)))))))
set_option maxRecDepth 20000 in
set_option maxHeartbeats 4000000 in
theorem z_law_27 {p : Program} {l : Launch} {e : Env} {s : State} {m : MethodId} {args : Array Value} {below : List Frame} {meth : Method} {c : Code} {A : Nat → Prop} {D : va_G} {ids : List (Nat × Nat)} {adr : Nat → Nat → Nat} {adV cA : Nat → Nat} {Q : State → Prop} {α : Type} {G0 : Option α} {b N : Nat} {xs : Nat → Int32} (hl0 : l.stackTraces = false) (hIL : hp_IL ids) (hC : hp_Cx p s m meth c cL_law 9 "HallPhoneLaw" A D adV cA G0) (hX : va_X b N xs s s.heap) (hbl : b < s.heap.size) (hbA : ¬ A b) (x4 : Int32) (K : hp_M → Option α) (M : hp_M) (cells slots : Nat) (hcs : cells + 45 ≤ 601024 ∧ slots + 9000 ≤ 7293034) (kk : ∀ (M' : hp_M) (adr' : Nat → Nat → Nat), hp_sim adr adr' → hp_Z p l e room_1 s m args below meth c 9 A D ids adr' adV cA (cells + 45) (slots + 9000) Q G0 none 2257 [(0, .ref b), (1, .ref (adr' 12 0)), (2, .ref (adr' 13 0)), (3, .ref (adr' 13 10)), (4, .int x4)] [] M' (K M')) : hp_Z p l e room_1 s m args below meth c 9 A D ids adr adV cA cells slots Q G0 none 1555 [(0, .ref b), (1, .ref (adr 12 0)), (2, .ref (adr 13 0)), (3, .ref (adr 13 10)), (4, .int x4)] [] M (C_law_27 N xs x4 K M) := by
  have hIB := hIL.1
  have hI := hIB.1
  unfold C_law_27
  refine hz_aload_n (a := 1) (n := 1556) hC dL_law_1555 rfl rfl rfl ?_
  refine hz_aload_n (a := 0) (n := 1557) hC dL_law_1556 rfl rfl rfl ?_
  refine hz_iload (a := 4) (n := 1559) hC dL_law_1557 rfl rfl ?_
  refine hz_iconst (v := (1 : Int32)) (n := 1560) hC dL_law_1559 (by decide +kernel) rfl ?_
  refine hz_iadd (n := 1561) hC dL_law_1560 rfl ?_
  refine hz_sld (n := 1562) hC hX hbl hbA dL_law_1561 rfl ?_
  refine hz_callV (k := 1) (As := [.int (xs ((x4 + (1 : Int32))).toNatClampNeg)]) (st := []) (S1 := fun r => .int r :: []) (n := 1565) hC (c_X8_reportAt l (xs ((x4 + (1 : Int32))).toNatClampNeg)   M) kv_X8_reportAt wd_5_29 hIB dL_law_1562 rfl (hI.2 0 (by decide)) he_X8 rfl rfl rfl (Nat.le_of_ble_eq_true rfl) ⟨Nat.le_of_ble_eq_true rfl, Nat.le_of_ble_eq_true rfl⟩ ⟨by show _ ≤ (601024 : Nat); omega, by show _ ≤ (7293034 : Nat); omega⟩ (fun _ => rfl) rfl (fun r1 M1 _ => ?_)
  refine hz_aload_n (a := 2) (n := 1566) hC dL_law_1565 rfl rfl rfl ?_
  refine hz_aload_n (a := 0) (n := 1567) hC dL_law_1566 rfl rfl rfl ?_
  refine hz_iload (a := 4) (n := 1569) hC dL_law_1567 rfl rfl ?_
  refine hz_iconst (v := (1 : Int32)) (n := 1570) hC dL_law_1569 (by decide +kernel) rfl ?_
  refine hz_iadd (n := 1571) hC dL_law_1570 rfl ?_
  refine hz_sld (n := 1572) hC hX hbl hbA dL_law_1571 rfl ?_
  refine hz_callV (k := 1) (As := [.int (xs ((x4 + (1 : Int32))).toNatClampNeg)]) (st := [.int r1]) (S1 := fun r => .int r :: [.int r1]) (n := 1575) hC (c_X9_reportAt l (xs ((x4 + (1 : Int32))).toNatClampNeg)   M1) kv_X9_reportAt wd_8_128 hIL.2.1 dL_law_1572 rfl (hIL.2.1 0 (by decide)) he_X9 rfl rfl rfl (Nat.le_of_ble_eq_true rfl) ⟨Nat.le_of_ble_eq_true rfl, Nat.le_of_ble_eq_true rfl⟩ ⟨by show _ ≤ (601024 : Nat); omega, by show _ ≤ (7293034 : Nat); omega⟩ (fun _ => rfl) rfl (fun r2 M2 _ => ?_)
  refine hz_icmp_eq (tgt := 2257) (n := 1578) hC dL_law_1575 (by decide) rfl (fun _ => ?_) (fun _ => ?_)
  · refine hz_L (L' := [(0, .ref b), (1, .ref (adr 12 0)), (2, .ref (adr 13 0)), (3, .ref (adr 13 10)), (4, .int x4)]) [0, 1, 2, 3, 4] rfl ?_
    exact hz_widen (k0 := cells + 45) (s0 := slots + 9000) ⟨by omega, by omega⟩ (kk M2 adr hp_sim.rf)
  · exact hz_none hC
def C_law_28 {α : Type} (N : Nat) (xs : Nat → Int32) (x4 : Int32) (K : hp_M → Option α) (M : hp_M) : Option α := (if (x4 + (1 : Int32)) < 0 ∨ N ≤ ((x4 + (1 : Int32))).toNatClampNeg then none else (if (x4 + (2 : Int32)) < 0 ∨ N ≤ ((x4 + (2 : Int32))).toNatClampNeg then none else (hp_b (F_L_want (xs ((x4 + (1 : Int32))).toNatClampNeg) (xs ((x4 + (2 : Int32))).toNatClampNeg) M) (fun r1 M1 => (if (x4 + (1 : Int32)) < 0 ∨ N ≤ ((x4 + (1 : Int32))).toNatClampNeg then none else (if (x4 + (2 : Int32)) < 0 ∨ N ≤ ((x4 + (2 : Int32))).toNatClampNeg then none else (hp_b (F_X9_want (xs ((x4 + (1 : Int32))).toNatClampNeg) (xs ((x4 + (2 : Int32))).toNatClampNeg) M1) (fun r2 M2 => (hp_b (F_X9_thrown M2) (fun r3 M3 => (if r3 = r1 then (if r1 = 0 then (if (lg_cmp ((M3 13 10 0).toInt64) ((r2).toInt64)) = 0 then (K M3) else none) else (K M3)) else none)))))))))))
set_option maxRecDepth 20000 in
set_option maxHeartbeats 4000000 in
theorem z_law_28 {p : Program} {l : Launch} {e : Env} {s : State} {m : MethodId} {args : Array Value} {below : List Frame} {meth : Method} {c : Code} {A : Nat → Prop} {D : va_G} {ids : List (Nat × Nat)} {adr : Nat → Nat → Nat} {adV cA : Nat → Nat} {Q : State → Prop} {α : Type} {G0 : Option α} {b N : Nat} {xs : Nat → Int32} (hl0 : l.stackTraces = false) (hIL : hp_IL ids) (hC : hp_Cx p s m meth c cL_law 9 "HallPhoneLaw" A D adV cA G0) (hX : va_X b N xs s s.heap) (hbl : b < s.heap.size) (hbA : ¬ A b) (x4 : Int32) (K : hp_M → Option α) (M : hp_M) (cells slots : Nat) (hcs : cells + 45 ≤ 601024 ∧ slots + 9000 ≤ 7293034) (kk : ∀ (M' : hp_M) (adr' : Nat → Nat → Nat), hp_sim adr adr' → hp_Z p l e room_1 s m args below meth c 9 A D ids adr' adV cA (cells + 45) (slots + 9000) Q G0 none 2257 [(0, .ref b), (1, .ref (adr' 12 0)), (2, .ref (adr' 13 0)), (3, .ref (adr' 13 10)), (4, .int x4)] [] M' (K M')) : hp_Z p l e room_1 s m args below meth c 9 A D ids adr adV cA cells slots Q G0 none 1580 [(0, .ref b), (1, .ref (adr 12 0)), (2, .ref (adr 13 0)), (3, .ref (adr 13 10)), (4, .int x4)] [] M (C_law_28 N xs x4 K M) := by
  have hIB := hIL.1
  have hI := hIB.1
  unfold C_law_28
  refine hz_aload_n (a := 1) (n := 1581) hC dL_law_1580 rfl rfl rfl ?_
  refine hz_aload_n (a := 0) (n := 1582) hC dL_law_1581 rfl rfl rfl ?_
  refine hz_iload (a := 4) (n := 1584) hC dL_law_1582 rfl rfl ?_
  refine hz_iconst (v := (1 : Int32)) (n := 1585) hC dL_law_1584 (by decide +kernel) rfl ?_
  refine hz_iadd (n := 1586) hC dL_law_1585 rfl ?_
  refine hz_sld (n := 1587) hC hX hbl hbA dL_law_1586 rfl ?_
  refine hz_aload_n (a := 0) (n := 1588) hC dL_law_1587 rfl rfl rfl ?_
  refine hz_iload (a := 4) (n := 1590) hC dL_law_1588 rfl rfl ?_
  refine hz_iconst (v := (2 : Int32)) (n := 1591) hC dL_law_1590 (by decide +kernel) rfl ?_
  refine hz_iadd (n := 1592) hC dL_law_1591 rfl ?_
  refine hz_sld (n := 1593) hC hX hbl hbA dL_law_1592 rfl ?_
  refine hz_aload_n (a := 3) (n := 1594) hC dL_law_1593 rfl rfl rfl ?_
  refine hz_callSW (k := 4) (As := [.ref (adr 12 0), .int (xs ((x4 + (1 : Int32))).toNatClampNeg), .int (xs ((x4 + (2 : Int32))).toNatClampNeg), .ref (adr 13 10)]) (st := []) (S1 := fun r1 => .int r1 :: []) (n := 1597) hC (c_L_want l hl0 (xs ((x4 + (1 : Int32))).toNatClampNeg) (xs ((x4 + (2 : Int32))).toNatClampNeg) M) kw_L_want wd_6_44 hIL dL_law_1594 rfl rfl rfl (Nat.le_of_ble_eq_true rfl) ⟨Nat.le_of_ble_eq_true rfl, Nat.le_of_ble_eq_true rfl⟩ ⟨by show _ ≤ (601024 : Nat); omega, by show _ ≤ (7293034 : Nat); omega⟩ (fun _ => rfl) rfl (fun r1 M1 _ => ?_)
  refine hz_istore (L' := [(5, .int r1), (0, .ref b), (1, .ref (adr 12 0)), (2, .ref (adr 13 0)), (3, .ref (adr 13 10)), (4, .int x4)]) (n := 1599) hC dL_law_1597 (by decide) rfl rfl ?_
  refine hz_aload_n (a := 3) (n := 1600) hC dL_law_1599 rfl rfl rfl ?_
  refine hz_aload_n (a := 1) (n := 1601) hC dL_law_1600 rfl rfl rfl ?_
  refine hz_iload (a := 5) (n := 1603) hC dL_law_1601 rfl rfl ?_
  refine hz_iconst (v := (1 : Int32)) (n := 1604) hC dL_law_1603 (by decide +kernel) rfl ?_
  refine hz_iadd (n := 1605) hC dL_law_1604 rfl ?_
  refine hz_sld (n := 1606) hC hX hbl hbA dL_law_1605 rfl ?_
  refine hz_aload_n (a := 1) (n := 1607) hC dL_law_1606 rfl rfl rfl ?_
  refine hz_iload (a := 5) (n := 1609) hC dL_law_1607 rfl rfl ?_
  refine hz_iconst (v := (2 : Int32)) (n := 1610) hC dL_law_1609 (by decide +kernel) rfl ?_
  refine hz_iadd (n := 1611) hC dL_law_1610 rfl ?_
  refine hz_sld (n := 1612) hC hX hbl hbA dL_law_1611 rfl ?_
  refine hz_callV (k := 2) (As := [.int (xs ((x4 + (1 : Int32))).toNatClampNeg), .int (xs ((x4 + (2 : Int32))).toNatClampNeg)]) (st := []) (S1 := fun r => .int r :: []) (n := 1615) hC (c_X9_want l (xs ((x4 + (1 : Int32))).toNatClampNeg) (xs ((x4 + (2 : Int32))).toNatClampNeg)   M1) kv_X9_want wd_8_132 hIL.2.1 dL_law_1612 rfl (hIL.2.1 0 (by decide)) he_X9 rfl rfl rfl (Nat.le_of_ble_eq_true rfl) ⟨Nat.le_of_ble_eq_true rfl, Nat.le_of_ble_eq_true rfl⟩ ⟨by show _ ≤ (601024 : Nat); omega, by show _ ≤ (7293034 : Nat); omega⟩ (fun _ => rfl) rfl (fun r2 M2 _ => ?_)
  refine hz_istore (L' := [(6, .int r2), (5, .int r1), (0, .ref b), (1, .ref (adr 12 0)), (2, .ref (adr 13 0)), (3, .ref (adr 13 10)), (4, .int x4)]) (n := 1617) hC dL_law_1615 (by decide) rfl rfl ?_
  refine hz_aload_n (a := 4) (n := 1618) hC dL_law_1617 rfl rfl rfl ?_
  refine hz_callV (k := 0) (As := []) (st := []) (S1 := fun r => .int r :: []) (n := 1621) hC (c_X9_thrown l    M2) kv_X9_thrown wd_7_165 hIL.2.1 dL_law_1618 rfl (hIL.2.1 0 (by decide)) he_X9 rfl rfl rfl (Nat.le_of_ble_eq_true rfl) ⟨Nat.le_of_ble_eq_true rfl, Nat.le_of_ble_eq_true rfl⟩ ⟨by show _ ≤ (601024 : Nat); omega, by show _ ≤ (7293034 : Nat); omega⟩ (fun _ => rfl) rfl (fun r3 M3 _ => ?_)
  refine hz_iload (a := 1) (n := 1623) hC dL_law_1621 rfl rfl ?_
  refine hz_icmp_eq (tgt := 1628) (n := 1626) hC dL_law_1623 (by decide) rfl (fun _ => ?_) (fun _ => ?_)
  · refine hz_iload (a := 1) (n := 1630) hC dL_law_1628 rfl rfl ?_
    refine hz_if_ne (tgt := 1645) (n := 1633) hC dL_law_1630 (by decide) rfl (fun _ => ?_) (fun _ => ?_)
    · refine hz_aload_n (a := 5) (n := 1634) hC dL_law_1633 rfl rfl rfl ?_
      refine hz_iconst (v := (0 : Int32)) (n := 1635) hC dL_law_1634 (by decide +kernel) rfl ?_
      refine hz_lald13 (n := 1636) hC dL_law_1635 hIL.2.2 rfl ?_
      refine hz_iload (a := 0) (n := 1638) hC dL_law_1636 rfl rfl ?_
      refine hz_i2l (n := 1639) hC dL_law_1638 rfl ?_
      refine hz_lcmp (n := 1640) hC dL_law_1639 rfl ?_
      refine hz_if_eq (tgt := 1645) (n := 1643) hC dL_law_1640 (by decide) rfl (fun _ => ?_) (fun _ => ?_)
      · refine hz_goto (n := 2257) hC dL_law_1645 (by decide) ?_
        refine hz_L (L' := [(0, .ref b), (1, .ref (adr 12 0)), (2, .ref (adr 13 0)), (3, .ref (adr 13 10)), (4, .int x4)]) [2, 3, 4, 5, 6] rfl ?_
        exact hz_widen (k0 := cells + 45) (s0 := slots + 9000) ⟨by omega, by omega⟩ (kk M3 adr hp_sim.rf)
      · exact hz_none hC
    · refine hz_goto (n := 2257) hC dL_law_1645 (by decide) ?_
      refine hz_L (L' := [(0, .ref b), (1, .ref (adr 12 0)), (2, .ref (adr 13 0)), (3, .ref (adr 13 10)), (4, .int x4)]) [2, 3, 4, 5, 6] rfl ?_
      exact hz_widen (k0 := cells + 45) (s0 := slots + 9000) ⟨by omega, by omega⟩ (kk M3 adr hp_sim.rf)
  · exact hz_none hC
def C_law_29 {α : Type} (N : Nat) (xs : Nat → Int32) (x4 : Int32) (K : hp_M → Option α) (M : hp_M) : Option α := (if (x4 + (1 : Int32)) < 0 ∨ N ≤ ((x4 + (1 : Int32))).toNatClampNeg then none else (hp_b (F_L_drop (xs ((x4 + (1 : Int32))).toNatClampNeg) M) (fun r1 M1 => (if (x4 + (1 : Int32)) < 0 ∨ N ≤ ((x4 + (1 : Int32))).toNatClampNeg then none else (hp_b (F_X9_drop (xs ((x4 + (1 : Int32))).toNatClampNeg) M1) (fun r2 M2 => (hp_b (F_X9_thrown M2) (fun r3 M3 => (if r3 = r1 then (if r1 = 0 then (if (lg_cmp ((M3 13 10 0).toInt64) ((r2).toInt64)) = 0 then (K M3) else none) else (K M3)) else none)))))))))
set_option maxRecDepth 20000 in
set_option maxHeartbeats 4000000 in
theorem z_law_29 {p : Program} {l : Launch} {e : Env} {s : State} {m : MethodId} {args : Array Value} {below : List Frame} {meth : Method} {c : Code} {A : Nat → Prop} {D : va_G} {ids : List (Nat × Nat)} {adr : Nat → Nat → Nat} {adV cA : Nat → Nat} {Q : State → Prop} {α : Type} {G0 : Option α} {b N : Nat} {xs : Nat → Int32} (hl0 : l.stackTraces = false) (hIL : hp_IL ids) (hC : hp_Cx p s m meth c cL_law 9 "HallPhoneLaw" A D adV cA G0) (hX : va_X b N xs s s.heap) (hbl : b < s.heap.size) (hbA : ¬ A b) (x4 : Int32) (K : hp_M → Option α) (M : hp_M) (cells slots : Nat) (hcs : cells + 45 ≤ 601024 ∧ slots + 9000 ≤ 7293034) (kk : ∀ (M' : hp_M) (adr' : Nat → Nat → Nat), hp_sim adr adr' → hp_Z p l e room_1 s m args below meth c 9 A D ids adr' adV cA (cells + 45) (slots + 9000) Q G0 none 2257 [(0, .ref b), (1, .ref (adr' 12 0)), (2, .ref (adr' 13 0)), (3, .ref (adr' 13 10)), (4, .int x4)] [] M' (K M')) : hp_Z p l e room_1 s m args below meth c 9 A D ids adr adV cA cells slots Q G0 none 1648 [(0, .ref b), (1, .ref (adr 12 0)), (2, .ref (adr 13 0)), (3, .ref (adr 13 10)), (4, .int x4)] [] M (C_law_29 N xs x4 K M) := by
  have hIB := hIL.1
  have hI := hIB.1
  unfold C_law_29
  refine hz_aload_n (a := 1) (n := 1649) hC dL_law_1648 rfl rfl rfl ?_
  refine hz_aload_n (a := 0) (n := 1650) hC dL_law_1649 rfl rfl rfl ?_
  refine hz_iload (a := 4) (n := 1652) hC dL_law_1650 rfl rfl ?_
  refine hz_iconst (v := (1 : Int32)) (n := 1653) hC dL_law_1652 (by decide +kernel) rfl ?_
  refine hz_iadd (n := 1654) hC dL_law_1653 rfl ?_
  refine hz_sld (n := 1655) hC hX hbl hbA dL_law_1654 rfl ?_
  refine hz_aload_n (a := 3) (n := 1656) hC dL_law_1655 rfl rfl rfl ?_
  refine hz_callSW (k := 3) (As := [.ref (adr 12 0), .int (xs ((x4 + (1 : Int32))).toNatClampNeg), .ref (adr 13 10)]) (st := []) (S1 := fun r1 => .int r1 :: []) (n := 1659) hC (c_L_drop l hl0 (xs ((x4 + (1 : Int32))).toNatClampNeg) M) kw_L_drop wd_6_60 hIL dL_law_1656 rfl rfl rfl (Nat.le_of_ble_eq_true rfl) ⟨Nat.le_of_ble_eq_true rfl, Nat.le_of_ble_eq_true rfl⟩ ⟨by show _ ≤ (601024 : Nat); omega, by show _ ≤ (7293034 : Nat); omega⟩ (fun _ => rfl) rfl (fun r1 M1 _ => ?_)
  refine hz_istore (L' := [(5, .int r1), (0, .ref b), (1, .ref (adr 12 0)), (2, .ref (adr 13 0)), (3, .ref (adr 13 10)), (4, .int x4)]) (n := 1661) hC dL_law_1659 (by decide) rfl rfl ?_
  refine hz_aload_n (a := 3) (n := 1662) hC dL_law_1661 rfl rfl rfl ?_
  refine hz_aload_n (a := 1) (n := 1663) hC dL_law_1662 rfl rfl rfl ?_
  refine hz_iload (a := 5) (n := 1665) hC dL_law_1663 rfl rfl ?_
  refine hz_iconst (v := (1 : Int32)) (n := 1666) hC dL_law_1665 (by decide +kernel) rfl ?_
  refine hz_iadd (n := 1667) hC dL_law_1666 rfl ?_
  refine hz_sld (n := 1668) hC hX hbl hbA dL_law_1667 rfl ?_
  refine hz_callV (k := 1) (As := [.int (xs ((x4 + (1 : Int32))).toNatClampNeg)]) (st := []) (S1 := fun r => .int r :: []) (n := 1671) hC (c_X9_drop l (xs ((x4 + (1 : Int32))).toNatClampNeg)   M1) kv_X9_drop wd_8_144 hIL.2.1 dL_law_1668 rfl (hIL.2.1 0 (by decide)) he_X9 rfl rfl rfl (Nat.le_of_ble_eq_true rfl) ⟨Nat.le_of_ble_eq_true rfl, Nat.le_of_ble_eq_true rfl⟩ ⟨by show _ ≤ (601024 : Nat); omega, by show _ ≤ (7293034 : Nat); omega⟩ (fun _ => rfl) rfl (fun r2 M2 _ => ?_)
  refine hz_istore (L' := [(6, .int r2), (5, .int r1), (0, .ref b), (1, .ref (adr 12 0)), (2, .ref (adr 13 0)), (3, .ref (adr 13 10)), (4, .int x4)]) (n := 1673) hC dL_law_1671 (by decide) rfl rfl ?_
  refine hz_aload_n (a := 4) (n := 1674) hC dL_law_1673 rfl rfl rfl ?_
  refine hz_callV (k := 0) (As := []) (st := []) (S1 := fun r => .int r :: []) (n := 1677) hC (c_X9_thrown l    M2) kv_X9_thrown wd_7_165 hIL.2.1 dL_law_1674 rfl (hIL.2.1 0 (by decide)) he_X9 rfl rfl rfl (Nat.le_of_ble_eq_true rfl) ⟨Nat.le_of_ble_eq_true rfl, Nat.le_of_ble_eq_true rfl⟩ ⟨by show _ ≤ (601024 : Nat); omega, by show _ ≤ (7293034 : Nat); omega⟩ (fun _ => rfl) rfl (fun r3 M3 _ => ?_)
  refine hz_iload (a := 1) (n := 1679) hC dL_law_1677 rfl rfl ?_
  refine hz_icmp_eq (tgt := 1684) (n := 1682) hC dL_law_1679 (by decide) rfl (fun _ => ?_) (fun _ => ?_)
  · refine hz_iload (a := 1) (n := 1686) hC dL_law_1684 rfl rfl ?_
    refine hz_if_ne (tgt := 1701) (n := 1689) hC dL_law_1686 (by decide) rfl (fun _ => ?_) (fun _ => ?_)
    · refine hz_aload_n (a := 5) (n := 1690) hC dL_law_1689 rfl rfl rfl ?_
      refine hz_iconst (v := (0 : Int32)) (n := 1691) hC dL_law_1690 (by decide +kernel) rfl ?_
      refine hz_lald13 (n := 1692) hC dL_law_1691 hIL.2.2 rfl ?_
      refine hz_iload (a := 0) (n := 1694) hC dL_law_1692 rfl rfl ?_
      refine hz_i2l (n := 1695) hC dL_law_1694 rfl ?_
      refine hz_lcmp (n := 1696) hC dL_law_1695 rfl ?_
      refine hz_if_eq (tgt := 1701) (n := 1699) hC dL_law_1696 (by decide) rfl (fun _ => ?_) (fun _ => ?_)
      · refine hz_goto (n := 2257) hC dL_law_1701 (by decide) ?_
        refine hz_L (L' := [(0, .ref b), (1, .ref (adr 12 0)), (2, .ref (adr 13 0)), (3, .ref (adr 13 10)), (4, .int x4)]) [2, 3, 4, 5, 6] rfl ?_
        exact hz_widen (k0 := cells + 45) (s0 := slots + 9000) ⟨by omega, by omega⟩ (kk M3 adr hp_sim.rf)
      · exact hz_none hC
    · refine hz_goto (n := 2257) hC dL_law_1701 (by decide) ?_
      refine hz_L (L' := [(0, .ref b), (1, .ref (adr 12 0)), (2, .ref (adr 13 0)), (3, .ref (adr 13 10)), (4, .int x4)]) [2, 3, 4, 5, 6] rfl ?_
      exact hz_widen (k0 := cells + 45) (s0 := slots + 9000) ⟨by omega, by omega⟩ (kk M3 adr hp_sim.rf)
  · exact hz_none hC
def C_law_30 {α : Type} (N : Nat) (xs : Nat → Int32) (x4 : Int32) (K : hp_M → Option α) (M : hp_M) : Option α := (if (x4 + (1 : Int32)) < 0 ∨ N ≤ ((x4 + (1 : Int32))).toNatClampNeg then none else (hp_b (F_L_hang (xs ((x4 + (1 : Int32))).toNatClampNeg) M) (fun r1 M1 => (if (x4 + (1 : Int32)) < 0 ∨ N ≤ ((x4 + (1 : Int32))).toNatClampNeg then none else (hp_b (F_X9_hang (xs ((x4 + (1 : Int32))).toNatClampNeg) M1) (fun r2 M2 => (hp_b (F_X9_thrown M2) (fun r3 M3 => (if r3 = r1 then (if r1 = 0 then (if (lg_cmp ((M3 13 10 0).toInt64) ((r2).toInt64)) = 0 then (K M3) else none) else (K M3)) else none)))))))))
set_option maxRecDepth 20000 in
set_option maxHeartbeats 4000000 in
theorem z_law_30 {p : Program} {l : Launch} {e : Env} {s : State} {m : MethodId} {args : Array Value} {below : List Frame} {meth : Method} {c : Code} {A : Nat → Prop} {D : va_G} {ids : List (Nat × Nat)} {adr : Nat → Nat → Nat} {adV cA : Nat → Nat} {Q : State → Prop} {α : Type} {G0 : Option α} {b N : Nat} {xs : Nat → Int32} (hl0 : l.stackTraces = false) (hIL : hp_IL ids) (hC : hp_Cx p s m meth c cL_law 9 "HallPhoneLaw" A D adV cA G0) (hX : va_X b N xs s s.heap) (hbl : b < s.heap.size) (hbA : ¬ A b) (x4 : Int32) (K : hp_M → Option α) (M : hp_M) (cells slots : Nat) (hcs : cells + 45 ≤ 601024 ∧ slots + 9000 ≤ 7293034) (kk : ∀ (M' : hp_M) (adr' : Nat → Nat → Nat), hp_sim adr adr' → hp_Z p l e room_1 s m args below meth c 9 A D ids adr' adV cA (cells + 45) (slots + 9000) Q G0 none 2257 [(0, .ref b), (1, .ref (adr' 12 0)), (2, .ref (adr' 13 0)), (3, .ref (adr' 13 10)), (4, .int x4)] [] M' (K M')) : hp_Z p l e room_1 s m args below meth c 9 A D ids adr adV cA cells slots Q G0 none 1704 [(0, .ref b), (1, .ref (adr 12 0)), (2, .ref (adr 13 0)), (3, .ref (adr 13 10)), (4, .int x4)] [] M (C_law_30 N xs x4 K M) := by
  have hIB := hIL.1
  have hI := hIB.1
  unfold C_law_30
  refine hz_aload_n (a := 1) (n := 1705) hC dL_law_1704 rfl rfl rfl ?_
  refine hz_aload_n (a := 0) (n := 1706) hC dL_law_1705 rfl rfl rfl ?_
  refine hz_iload (a := 4) (n := 1708) hC dL_law_1706 rfl rfl ?_
  refine hz_iconst (v := (1 : Int32)) (n := 1709) hC dL_law_1708 (by decide +kernel) rfl ?_
  refine hz_iadd (n := 1710) hC dL_law_1709 rfl ?_
  refine hz_sld (n := 1711) hC hX hbl hbA dL_law_1710 rfl ?_
  refine hz_aload_n (a := 3) (n := 1712) hC dL_law_1711 rfl rfl rfl ?_
  refine hz_callSW (k := 3) (As := [.ref (adr 12 0), .int (xs ((x4 + (1 : Int32))).toNatClampNeg), .ref (adr 13 10)]) (st := []) (S1 := fun r1 => .int r1 :: []) (n := 1715) hC (c_L_hang l hl0 (xs ((x4 + (1 : Int32))).toNatClampNeg) M) kw_L_hang wd_6_69 hIL dL_law_1712 rfl rfl rfl (Nat.le_of_ble_eq_true rfl) ⟨Nat.le_of_ble_eq_true rfl, Nat.le_of_ble_eq_true rfl⟩ ⟨by show _ ≤ (601024 : Nat); omega, by show _ ≤ (7293034 : Nat); omega⟩ (fun _ => rfl) rfl (fun r1 M1 _ => ?_)
  refine hz_istore (L' := [(5, .int r1), (0, .ref b), (1, .ref (adr 12 0)), (2, .ref (adr 13 0)), (3, .ref (adr 13 10)), (4, .int x4)]) (n := 1717) hC dL_law_1715 (by decide) rfl rfl ?_
  refine hz_aload_n (a := 3) (n := 1718) hC dL_law_1717 rfl rfl rfl ?_
  refine hz_aload_n (a := 1) (n := 1719) hC dL_law_1718 rfl rfl rfl ?_
  refine hz_iload (a := 5) (n := 1721) hC dL_law_1719 rfl rfl ?_
  refine hz_iconst (v := (1 : Int32)) (n := 1722) hC dL_law_1721 (by decide +kernel) rfl ?_
  refine hz_iadd (n := 1723) hC dL_law_1722 rfl ?_
  refine hz_sld (n := 1724) hC hX hbl hbA dL_law_1723 rfl ?_
  refine hz_callV (k := 1) (As := [.int (xs ((x4 + (1 : Int32))).toNatClampNeg)]) (st := []) (S1 := fun r => .int r :: []) (n := 1727) hC (c_X9_hang l (xs ((x4 + (1 : Int32))).toNatClampNeg)   M1) kv_X9_hang wd_8_148 hIL.2.1 dL_law_1724 rfl (hIL.2.1 0 (by decide)) he_X9 rfl rfl rfl (Nat.le_of_ble_eq_true rfl) ⟨Nat.le_of_ble_eq_true rfl, Nat.le_of_ble_eq_true rfl⟩ ⟨by show _ ≤ (601024 : Nat); omega, by show _ ≤ (7293034 : Nat); omega⟩ (fun _ => rfl) rfl (fun r2 M2 _ => ?_)
  refine hz_istore (L' := [(6, .int r2), (5, .int r1), (0, .ref b), (1, .ref (adr 12 0)), (2, .ref (adr 13 0)), (3, .ref (adr 13 10)), (4, .int x4)]) (n := 1729) hC dL_law_1727 (by decide) rfl rfl ?_
  refine hz_aload_n (a := 4) (n := 1730) hC dL_law_1729 rfl rfl rfl ?_
  refine hz_callV (k := 0) (As := []) (st := []) (S1 := fun r => .int r :: []) (n := 1733) hC (c_X9_thrown l    M2) kv_X9_thrown wd_7_165 hIL.2.1 dL_law_1730 rfl (hIL.2.1 0 (by decide)) he_X9 rfl rfl rfl (Nat.le_of_ble_eq_true rfl) ⟨Nat.le_of_ble_eq_true rfl, Nat.le_of_ble_eq_true rfl⟩ ⟨by show _ ≤ (601024 : Nat); omega, by show _ ≤ (7293034 : Nat); omega⟩ (fun _ => rfl) rfl (fun r3 M3 _ => ?_)
  refine hz_iload (a := 1) (n := 1735) hC dL_law_1733 rfl rfl ?_
  refine hz_icmp_eq (tgt := 1740) (n := 1738) hC dL_law_1735 (by decide) rfl (fun _ => ?_) (fun _ => ?_)
  · refine hz_iload (a := 1) (n := 1742) hC dL_law_1740 rfl rfl ?_
    refine hz_if_ne (tgt := 1757) (n := 1745) hC dL_law_1742 (by decide) rfl (fun _ => ?_) (fun _ => ?_)
    · refine hz_aload_n (a := 5) (n := 1746) hC dL_law_1745 rfl rfl rfl ?_
      refine hz_iconst (v := (0 : Int32)) (n := 1747) hC dL_law_1746 (by decide +kernel) rfl ?_
      refine hz_lald13 (n := 1748) hC dL_law_1747 hIL.2.2 rfl ?_
      refine hz_iload (a := 0) (n := 1750) hC dL_law_1748 rfl rfl ?_
      refine hz_i2l (n := 1751) hC dL_law_1750 rfl ?_
      refine hz_lcmp (n := 1752) hC dL_law_1751 rfl ?_
      refine hz_if_eq (tgt := 1757) (n := 1755) hC dL_law_1752 (by decide) rfl (fun _ => ?_) (fun _ => ?_)
      · refine hz_goto (n := 2257) hC dL_law_1757 (by decide) ?_
        refine hz_L (L' := [(0, .ref b), (1, .ref (adr 12 0)), (2, .ref (adr 13 0)), (3, .ref (adr 13 10)), (4, .int x4)]) [2, 3, 4, 5, 6] rfl ?_
        exact hz_widen (k0 := cells + 45) (s0 := slots + 9000) ⟨by omega, by omega⟩ (kk M3 adr hp_sim.rf)
      · exact hz_none hC
    · refine hz_goto (n := 2257) hC dL_law_1757 (by decide) ?_
      refine hz_L (L' := [(0, .ref b), (1, .ref (adr 12 0)), (2, .ref (adr 13 0)), (3, .ref (adr 13 10)), (4, .int x4)]) [2, 3, 4, 5, 6] rfl ?_
      exact hz_widen (k0 := cells + 45) (s0 := slots + 9000) ⟨by omega, by omega⟩ (kk M3 adr hp_sim.rf)
  · exact hz_none hC
def C_law_31 {α : Type} (N : Nat) (xs : Nat → Int32) (x4 : Int32) (K : hp_M → Option α) (M : hp_M) : Option α := (if (x4 + (1 : Int32)) < 0 ∨ N ≤ ((x4 + (1 : Int32))).toNatClampNeg then none else (if (x4 + (2 : Int32)) < 0 ∨ N ≤ ((x4 + (2 : Int32))).toNatClampNeg then none else (hp_b (F_L_ring (xs ((x4 + (1 : Int32))).toNatClampNeg) (xs ((x4 + (2 : Int32))).toNatClampNeg) M) (fun r1 M1 => (if (x4 + (1 : Int32)) < 0 ∨ N ≤ ((x4 + (1 : Int32))).toNatClampNeg then none else (if (x4 + (2 : Int32)) < 0 ∨ N ≤ ((x4 + (2 : Int32))).toNatClampNeg then none else (hp_b (F_X9_ring (xs ((x4 + (1 : Int32))).toNatClampNeg) (xs ((x4 + (2 : Int32))).toNatClampNeg) M1) (fun r2 M2 => (hp_b (F_X9_thrown M2) (fun r3 M3 => (if r3 = r1 then (if r1 = 0 then (if (lg_cmp ((M3 13 10 0).toInt64) ((r2).toInt64)) = 0 then (K M3) else none) else (K M3)) else none)))))))))))
set_option maxRecDepth 20000 in
set_option maxHeartbeats 4000000 in
theorem z_law_31 {p : Program} {l : Launch} {e : Env} {s : State} {m : MethodId} {args : Array Value} {below : List Frame} {meth : Method} {c : Code} {A : Nat → Prop} {D : va_G} {ids : List (Nat × Nat)} {adr : Nat → Nat → Nat} {adV cA : Nat → Nat} {Q : State → Prop} {α : Type} {G0 : Option α} {b N : Nat} {xs : Nat → Int32} (hl0 : l.stackTraces = false) (hIL : hp_IL ids) (hC : hp_Cx p s m meth c cL_law 9 "HallPhoneLaw" A D adV cA G0) (hX : va_X b N xs s s.heap) (hbl : b < s.heap.size) (hbA : ¬ A b) (x4 : Int32) (K : hp_M → Option α) (M : hp_M) (cells slots : Nat) (hcs : cells + 45 ≤ 601024 ∧ slots + 9000 ≤ 7293034) (kk : ∀ (M' : hp_M) (adr' : Nat → Nat → Nat), hp_sim adr adr' → hp_Z p l e room_1 s m args below meth c 9 A D ids adr' adV cA (cells + 45) (slots + 9000) Q G0 none 2257 [(0, .ref b), (1, .ref (adr' 12 0)), (2, .ref (adr' 13 0)), (3, .ref (adr' 13 10)), (4, .int x4)] [] M' (K M')) : hp_Z p l e room_1 s m args below meth c 9 A D ids adr adV cA cells slots Q G0 none 1760 [(0, .ref b), (1, .ref (adr 12 0)), (2, .ref (adr 13 0)), (3, .ref (adr 13 10)), (4, .int x4)] [] M (C_law_31 N xs x4 K M) := by
  have hIB := hIL.1
  have hI := hIB.1
  unfold C_law_31
  refine hz_aload_n (a := 1) (n := 1761) hC dL_law_1760 rfl rfl rfl ?_
  refine hz_aload_n (a := 0) (n := 1762) hC dL_law_1761 rfl rfl rfl ?_
  refine hz_iload (a := 4) (n := 1764) hC dL_law_1762 rfl rfl ?_
  refine hz_iconst (v := (1 : Int32)) (n := 1765) hC dL_law_1764 (by decide +kernel) rfl ?_
  refine hz_iadd (n := 1766) hC dL_law_1765 rfl ?_
  refine hz_sld (n := 1767) hC hX hbl hbA dL_law_1766 rfl ?_
  refine hz_aload_n (a := 0) (n := 1768) hC dL_law_1767 rfl rfl rfl ?_
  refine hz_iload (a := 4) (n := 1770) hC dL_law_1768 rfl rfl ?_
  refine hz_iconst (v := (2 : Int32)) (n := 1771) hC dL_law_1770 (by decide +kernel) rfl ?_
  refine hz_iadd (n := 1772) hC dL_law_1771 rfl ?_
  refine hz_sld (n := 1773) hC hX hbl hbA dL_law_1772 rfl ?_
  refine hz_aload_n (a := 3) (n := 1774) hC dL_law_1773 rfl rfl rfl ?_
  refine hz_callSW (k := 4) (As := [.ref (adr 12 0), .int (xs ((x4 + (1 : Int32))).toNatClampNeg), .int (xs ((x4 + (2 : Int32))).toNatClampNeg), .ref (adr 13 10)]) (st := []) (S1 := fun r1 => .int r1 :: []) (n := 1777) hC (c_L_ring l hl0 (xs ((x4 + (1 : Int32))).toNatClampNeg) (xs ((x4 + (2 : Int32))).toNatClampNeg) M) kw_L_ring wd_6_78 hIL dL_law_1774 rfl rfl rfl (Nat.le_of_ble_eq_true rfl) ⟨Nat.le_of_ble_eq_true rfl, Nat.le_of_ble_eq_true rfl⟩ ⟨by show _ ≤ (601024 : Nat); omega, by show _ ≤ (7293034 : Nat); omega⟩ (fun _ => rfl) rfl (fun r1 M1 _ => ?_)
  refine hz_istore (L' := [(5, .int r1), (0, .ref b), (1, .ref (adr 12 0)), (2, .ref (adr 13 0)), (3, .ref (adr 13 10)), (4, .int x4)]) (n := 1779) hC dL_law_1777 (by decide) rfl rfl ?_
  refine hz_aload_n (a := 3) (n := 1780) hC dL_law_1779 rfl rfl rfl ?_
  refine hz_aload_n (a := 1) (n := 1781) hC dL_law_1780 rfl rfl rfl ?_
  refine hz_iload (a := 5) (n := 1783) hC dL_law_1781 rfl rfl ?_
  refine hz_iconst (v := (1 : Int32)) (n := 1784) hC dL_law_1783 (by decide +kernel) rfl ?_
  refine hz_iadd (n := 1785) hC dL_law_1784 rfl ?_
  refine hz_sld (n := 1786) hC hX hbl hbA dL_law_1785 rfl ?_
  refine hz_aload_n (a := 1) (n := 1787) hC dL_law_1786 rfl rfl rfl ?_
  refine hz_iload (a := 5) (n := 1789) hC dL_law_1787 rfl rfl ?_
  refine hz_iconst (v := (2 : Int32)) (n := 1790) hC dL_law_1789 (by decide +kernel) rfl ?_
  refine hz_iadd (n := 1791) hC dL_law_1790 rfl ?_
  refine hz_sld (n := 1792) hC hX hbl hbA dL_law_1791 rfl ?_
  refine hz_callV (k := 2) (As := [.int (xs ((x4 + (1 : Int32))).toNatClampNeg), .int (xs ((x4 + (2 : Int32))).toNatClampNeg)]) (st := []) (S1 := fun r => .int r :: []) (n := 1795) hC (c_X9_ring l (xs ((x4 + (1 : Int32))).toNatClampNeg) (xs ((x4 + (2 : Int32))).toNatClampNeg)   M1) kv_X9_ring wd_8_152 hIL.2.1 dL_law_1792 rfl (hIL.2.1 0 (by decide)) he_X9 rfl rfl rfl (Nat.le_of_ble_eq_true rfl) ⟨Nat.le_of_ble_eq_true rfl, Nat.le_of_ble_eq_true rfl⟩ ⟨by show _ ≤ (601024 : Nat); omega, by show _ ≤ (7293034 : Nat); omega⟩ (fun _ => rfl) rfl (fun r2 M2 _ => ?_)
  refine hz_istore (L' := [(6, .int r2), (5, .int r1), (0, .ref b), (1, .ref (adr 12 0)), (2, .ref (adr 13 0)), (3, .ref (adr 13 10)), (4, .int x4)]) (n := 1797) hC dL_law_1795 (by decide) rfl rfl ?_
  refine hz_aload_n (a := 4) (n := 1798) hC dL_law_1797 rfl rfl rfl ?_
  refine hz_callV (k := 0) (As := []) (st := []) (S1 := fun r => .int r :: []) (n := 1801) hC (c_X9_thrown l    M2) kv_X9_thrown wd_7_165 hIL.2.1 dL_law_1798 rfl (hIL.2.1 0 (by decide)) he_X9 rfl rfl rfl (Nat.le_of_ble_eq_true rfl) ⟨Nat.le_of_ble_eq_true rfl, Nat.le_of_ble_eq_true rfl⟩ ⟨by show _ ≤ (601024 : Nat); omega, by show _ ≤ (7293034 : Nat); omega⟩ (fun _ => rfl) rfl (fun r3 M3 _ => ?_)
  refine hz_iload (a := 1) (n := 1803) hC dL_law_1801 rfl rfl ?_
  refine hz_icmp_eq (tgt := 1808) (n := 1806) hC dL_law_1803 (by decide) rfl (fun _ => ?_) (fun _ => ?_)
  · refine hz_iload (a := 1) (n := 1810) hC dL_law_1808 rfl rfl ?_
    refine hz_if_ne (tgt := 1825) (n := 1813) hC dL_law_1810 (by decide) rfl (fun _ => ?_) (fun _ => ?_)
    · refine hz_aload_n (a := 5) (n := 1814) hC dL_law_1813 rfl rfl rfl ?_
      refine hz_iconst (v := (0 : Int32)) (n := 1815) hC dL_law_1814 (by decide +kernel) rfl ?_
      refine hz_lald13 (n := 1816) hC dL_law_1815 hIL.2.2 rfl ?_
      refine hz_iload (a := 0) (n := 1818) hC dL_law_1816 rfl rfl ?_
      refine hz_i2l (n := 1819) hC dL_law_1818 rfl ?_
      refine hz_lcmp (n := 1820) hC dL_law_1819 rfl ?_
      refine hz_if_eq (tgt := 1825) (n := 1823) hC dL_law_1820 (by decide) rfl (fun _ => ?_) (fun _ => ?_)
      · refine hz_goto (n := 2257) hC dL_law_1825 (by decide) ?_
        refine hz_L (L' := [(0, .ref b), (1, .ref (adr 12 0)), (2, .ref (adr 13 0)), (3, .ref (adr 13 10)), (4, .int x4)]) [2, 3, 4, 5, 6] rfl ?_
        exact hz_widen (k0 := cells + 45) (s0 := slots + 9000) ⟨by omega, by omega⟩ (kk M3 adr hp_sim.rf)
      · exact hz_none hC
    · refine hz_goto (n := 2257) hC dL_law_1825 (by decide) ?_
      refine hz_L (L' := [(0, .ref b), (1, .ref (adr 12 0)), (2, .ref (adr 13 0)), (3, .ref (adr 13 10)), (4, .int x4)]) [2, 3, 4, 5, 6] rfl ?_
      exact hz_widen (k0 := cells + 45) (s0 := slots + 9000) ⟨by omega, by omega⟩ (kk M3 adr hp_sim.rf)
  · exact hz_none hC
def C_law_32 {α : Type} (N : Nat) (xs : Nat → Int32) (x4 : Int32) (K : hp_M → Option α) (M : hp_M) : Option α := (if (x4 + (1 : Int32)) < 0 ∨ N ≤ ((x4 + (1 : Int32))).toNatClampNeg then none else (if (x4 + (2 : Int32)) < 0 ∨ N ≤ ((x4 + (2 : Int32))).toNatClampNeg then none else (hp_b (F_L_pay (xs ((x4 + (1 : Int32))).toNatClampNeg) (xs ((x4 + (2 : Int32))).toNatClampNeg) M) (fun r1 M1 => (if (x4 + (1 : Int32)) < 0 ∨ N ≤ ((x4 + (1 : Int32))).toNatClampNeg then none else (if (x4 + (2 : Int32)) < 0 ∨ N ≤ ((x4 + (2 : Int32))).toNatClampNeg then none else (hp_b (F_X9_pay (xs ((x4 + (1 : Int32))).toNatClampNeg) (xs ((x4 + (2 : Int32))).toNatClampNeg) M1) (fun r2 M2 => (hp_b (F_X9_thrown M2) (fun r3 M3 => (if r3 = r1 then (if r1 = 0 then (if (lg_cmp ((M3 13 10 0).toInt64) ((r2).toInt64)) = 0 then (K M3) else none) else (K M3)) else none)))))))))))
set_option maxRecDepth 20000 in
set_option maxHeartbeats 4000000 in
theorem z_law_32 {p : Program} {l : Launch} {e : Env} {s : State} {m : MethodId} {args : Array Value} {below : List Frame} {meth : Method} {c : Code} {A : Nat → Prop} {D : va_G} {ids : List (Nat × Nat)} {adr : Nat → Nat → Nat} {adV cA : Nat → Nat} {Q : State → Prop} {α : Type} {G0 : Option α} {b N : Nat} {xs : Nat → Int32} (hl0 : l.stackTraces = false) (hIL : hp_IL ids) (hC : hp_Cx p s m meth c cL_law 9 "HallPhoneLaw" A D adV cA G0) (hX : va_X b N xs s s.heap) (hbl : b < s.heap.size) (hbA : ¬ A b) (x4 : Int32) (K : hp_M → Option α) (M : hp_M) (cells slots : Nat) (hcs : cells + 45 ≤ 601024 ∧ slots + 9000 ≤ 7293034) (kk : ∀ (M' : hp_M) (adr' : Nat → Nat → Nat), hp_sim adr adr' → hp_Z p l e room_1 s m args below meth c 9 A D ids adr' adV cA (cells + 45) (slots + 9000) Q G0 none 2257 [(0, .ref b), (1, .ref (adr' 12 0)), (2, .ref (adr' 13 0)), (3, .ref (adr' 13 10)), (4, .int x4)] [] M' (K M')) : hp_Z p l e room_1 s m args below meth c 9 A D ids adr adV cA cells slots Q G0 none 1828 [(0, .ref b), (1, .ref (adr 12 0)), (2, .ref (adr 13 0)), (3, .ref (adr 13 10)), (4, .int x4)] [] M (C_law_32 N xs x4 K M) := by
  have hIB := hIL.1
  have hI := hIB.1
  unfold C_law_32
  refine hz_aload_n (a := 1) (n := 1829) hC dL_law_1828 rfl rfl rfl ?_
  refine hz_aload_n (a := 0) (n := 1830) hC dL_law_1829 rfl rfl rfl ?_
  refine hz_iload (a := 4) (n := 1832) hC dL_law_1830 rfl rfl ?_
  refine hz_iconst (v := (1 : Int32)) (n := 1833) hC dL_law_1832 (by decide +kernel) rfl ?_
  refine hz_iadd (n := 1834) hC dL_law_1833 rfl ?_
  refine hz_sld (n := 1835) hC hX hbl hbA dL_law_1834 rfl ?_
  refine hz_aload_n (a := 0) (n := 1836) hC dL_law_1835 rfl rfl rfl ?_
  refine hz_iload (a := 4) (n := 1838) hC dL_law_1836 rfl rfl ?_
  refine hz_iconst (v := (2 : Int32)) (n := 1839) hC dL_law_1838 (by decide +kernel) rfl ?_
  refine hz_iadd (n := 1840) hC dL_law_1839 rfl ?_
  refine hz_sld (n := 1841) hC hX hbl hbA dL_law_1840 rfl ?_
  refine hz_aload_n (a := 3) (n := 1842) hC dL_law_1841 rfl rfl rfl ?_
  refine hz_callSW (k := 4) (As := [.ref (adr 12 0), .int (xs ((x4 + (1 : Int32))).toNatClampNeg), .int (xs ((x4 + (2 : Int32))).toNatClampNeg), .ref (adr 13 10)]) (st := []) (S1 := fun r1 => .int r1 :: []) (n := 1845) hC (c_L_pay l hl0 (xs ((x4 + (1 : Int32))).toNatClampNeg) (xs ((x4 + (2 : Int32))).toNatClampNeg) M) kw_L_pay wd_6_85 hIL dL_law_1842 rfl rfl rfl (Nat.le_of_ble_eq_true rfl) ⟨Nat.le_of_ble_eq_true rfl, Nat.le_of_ble_eq_true rfl⟩ ⟨by show _ ≤ (601024 : Nat); omega, by show _ ≤ (7293034 : Nat); omega⟩ (fun _ => rfl) rfl (fun r1 M1 _ => ?_)
  refine hz_istore (L' := [(5, .int r1), (0, .ref b), (1, .ref (adr 12 0)), (2, .ref (adr 13 0)), (3, .ref (adr 13 10)), (4, .int x4)]) (n := 1847) hC dL_law_1845 (by decide) rfl rfl ?_
  refine hz_aload_n (a := 3) (n := 1848) hC dL_law_1847 rfl rfl rfl ?_
  refine hz_aload_n (a := 1) (n := 1849) hC dL_law_1848 rfl rfl rfl ?_
  refine hz_iload (a := 5) (n := 1851) hC dL_law_1849 rfl rfl ?_
  refine hz_iconst (v := (1 : Int32)) (n := 1852) hC dL_law_1851 (by decide +kernel) rfl ?_
  refine hz_iadd (n := 1853) hC dL_law_1852 rfl ?_
  refine hz_sld (n := 1854) hC hX hbl hbA dL_law_1853 rfl ?_
  refine hz_aload_n (a := 1) (n := 1855) hC dL_law_1854 rfl rfl rfl ?_
  refine hz_iload (a := 5) (n := 1857) hC dL_law_1855 rfl rfl ?_
  refine hz_iconst (v := (2 : Int32)) (n := 1858) hC dL_law_1857 (by decide +kernel) rfl ?_
  refine hz_iadd (n := 1859) hC dL_law_1858 rfl ?_
  refine hz_sld (n := 1860) hC hX hbl hbA dL_law_1859 rfl ?_
  refine hz_callV (k := 2) (As := [.int (xs ((x4 + (1 : Int32))).toNatClampNeg), .int (xs ((x4 + (2 : Int32))).toNatClampNeg)]) (st := []) (S1 := fun r => .int r :: []) (n := 1863) hC (c_X9_pay l (xs ((x4 + (1 : Int32))).toNatClampNeg) (xs ((x4 + (2 : Int32))).toNatClampNeg)   M1) kv_X9_pay wd_8_156 hIL.2.1 dL_law_1860 rfl (hIL.2.1 0 (by decide)) he_X9 rfl rfl rfl (Nat.le_of_ble_eq_true rfl) ⟨Nat.le_of_ble_eq_true rfl, Nat.le_of_ble_eq_true rfl⟩ ⟨by show _ ≤ (601024 : Nat); omega, by show _ ≤ (7293034 : Nat); omega⟩ (fun _ => rfl) rfl (fun r2 M2 _ => ?_)
  refine hz_istore (L' := [(6, .int r2), (5, .int r1), (0, .ref b), (1, .ref (adr 12 0)), (2, .ref (adr 13 0)), (3, .ref (adr 13 10)), (4, .int x4)]) (n := 1865) hC dL_law_1863 (by decide) rfl rfl ?_
  refine hz_aload_n (a := 4) (n := 1866) hC dL_law_1865 rfl rfl rfl ?_
  refine hz_callV (k := 0) (As := []) (st := []) (S1 := fun r => .int r :: []) (n := 1869) hC (c_X9_thrown l    M2) kv_X9_thrown wd_7_165 hIL.2.1 dL_law_1866 rfl (hIL.2.1 0 (by decide)) he_X9 rfl rfl rfl (Nat.le_of_ble_eq_true rfl) ⟨Nat.le_of_ble_eq_true rfl, Nat.le_of_ble_eq_true rfl⟩ ⟨by show _ ≤ (601024 : Nat); omega, by show _ ≤ (7293034 : Nat); omega⟩ (fun _ => rfl) rfl (fun r3 M3 _ => ?_)
  refine hz_iload (a := 1) (n := 1871) hC dL_law_1869 rfl rfl ?_
  refine hz_icmp_eq (tgt := 1876) (n := 1874) hC dL_law_1871 (by decide) rfl (fun _ => ?_) (fun _ => ?_)
  · refine hz_iload (a := 1) (n := 1878) hC dL_law_1876 rfl rfl ?_
    refine hz_if_ne (tgt := 1893) (n := 1881) hC dL_law_1878 (by decide) rfl (fun _ => ?_) (fun _ => ?_)
    · refine hz_aload_n (a := 5) (n := 1882) hC dL_law_1881 rfl rfl rfl ?_
      refine hz_iconst (v := (0 : Int32)) (n := 1883) hC dL_law_1882 (by decide +kernel) rfl ?_
      refine hz_lald13 (n := 1884) hC dL_law_1883 hIL.2.2 rfl ?_
      refine hz_iload (a := 0) (n := 1886) hC dL_law_1884 rfl rfl ?_
      refine hz_i2l (n := 1887) hC dL_law_1886 rfl ?_
      refine hz_lcmp (n := 1888) hC dL_law_1887 rfl ?_
      refine hz_if_eq (tgt := 1893) (n := 1891) hC dL_law_1888 (by decide) rfl (fun _ => ?_) (fun _ => ?_)
      · refine hz_goto (n := 2257) hC dL_law_1893 (by decide) ?_
        refine hz_L (L' := [(0, .ref b), (1, .ref (adr 12 0)), (2, .ref (adr 13 0)), (3, .ref (adr 13 10)), (4, .int x4)]) [2, 3, 4, 5, 6] rfl ?_
        exact hz_widen (k0 := cells + 45) (s0 := slots + 9000) ⟨by omega, by omega⟩ (kk M3 adr hp_sim.rf)
      · exact hz_none hC
    · refine hz_goto (n := 2257) hC dL_law_1893 (by decide) ?_
      refine hz_L (L' := [(0, .ref b), (1, .ref (adr 12 0)), (2, .ref (adr 13 0)), (3, .ref (adr 13 10)), (4, .int x4)]) [2, 3, 4, 5, 6] rfl ?_
      exact hz_widen (k0 := cells + 45) (s0 := slots + 9000) ⟨by omega, by omega⟩ (kk M3 adr hp_sim.rf)
  · exact hz_none hC
def C_law_33 {α : Type} (N : Nat) (xs : Nat → Int32) (x4 : Int32) (K : hp_M → Option α) (M : hp_M) : Option α := (if (x4 + (1 : Int32)) < 0 ∨ N ≤ ((x4 + (1 : Int32))).toNatClampNeg then none else (if (x4 + (2 : Int32)) < 0 ∨ N ≤ ((x4 + (2 : Int32))).toNatClampNeg then none else (if (xs ((x4 + (2 : Int32))).toNatClampNeg) = 0 then (hp_b (F_L_setCurious (xs ((x4 + (1 : Int32))).toNatClampNeg) (0 : Int32) M) (fun r1 M1 => (if (x4 + (1 : Int32)) < 0 ∨ N ≤ ((x4 + (1 : Int32))).toNatClampNeg then none else (if (x4 + (2 : Int32)) < 0 ∨ N ≤ ((x4 + (2 : Int32))).toNatClampNeg then none else (if (xs ((x4 + (2 : Int32))).toNatClampNeg) = 0 then (hp_b (F_X9_setCurious (xs ((x4 + (1 : Int32))).toNatClampNeg) (0 : Int32) M1) (fun r2 M2 => (hp_b (F_X9_thrown M2) (fun r3 M3 => (if r3 = r1 then (if r1 = 0 then (if r2 = 0 then (if (lg_cmp ((M3 13 10 0).toInt64) (0 : Int64)) = 0 then (K M3) else none) else (if (lg_cmp ((M3 13 10 0).toInt64) (1 : Int64)) = 0 then (K M3) else none)) else (K M3)) else none))))) else (hp_b (F_X9_setCurious (xs ((x4 + (1 : Int32))).toNatClampNeg) (1 : Int32) M1) (fun r4 M4 => (hp_b (F_X9_thrown M4) (fun r5 M5 => (if r5 = r1 then (if r1 = 0 then (if r4 = 0 then (if (lg_cmp ((M5 13 10 0).toInt64) (0 : Int64)) = 0 then (K M5) else none) else (if (lg_cmp ((M5 13 10 0).toInt64) (1 : Int64)) = 0 then (K M5) else none)) else (K M5)) else none)))))))))) else (hp_b (F_L_setCurious (xs ((x4 + (1 : Int32))).toNatClampNeg) (1 : Int32) M) (fun r6 M6 => (if (x4 + (1 : Int32)) < 0 ∨ N ≤ ((x4 + (1 : Int32))).toNatClampNeg then none else (if (x4 + (2 : Int32)) < 0 ∨ N ≤ ((x4 + (2 : Int32))).toNatClampNeg then none else (if (xs ((x4 + (2 : Int32))).toNatClampNeg) = 0 then (hp_b (F_X9_setCurious (xs ((x4 + (1 : Int32))).toNatClampNeg) (0 : Int32) M6) (fun r7 M7 => (hp_b (F_X9_thrown M7) (fun r8 M8 => (if r8 = r6 then (if r6 = 0 then (if r7 = 0 then (if (lg_cmp ((M8 13 10 0).toInt64) (0 : Int64)) = 0 then (K M8) else none) else (if (lg_cmp ((M8 13 10 0).toInt64) (1 : Int64)) = 0 then (K M8) else none)) else (K M8)) else none))))) else (hp_b (F_X9_setCurious (xs ((x4 + (1 : Int32))).toNatClampNeg) (1 : Int32) M6) (fun r9 M9 => (hp_b (F_X9_thrown M9) (fun r10 M10 => (if r10 = r6 then (if r6 = 0 then (if r9 = 0 then (if (lg_cmp ((M10 13 10 0).toInt64) (0 : Int64)) = 0 then (K M10) else none) else (if (lg_cmp ((M10 13 10 0).toInt64) (1 : Int64)) = 0 then (K M10) else none)) else (K M10)) else none)))))))))))))
set_option maxRecDepth 20000 in
set_option maxHeartbeats 4000000 in
theorem z_law_33 {p : Program} {l : Launch} {e : Env} {s : State} {m : MethodId} {args : Array Value} {below : List Frame} {meth : Method} {c : Code} {A : Nat → Prop} {D : va_G} {ids : List (Nat × Nat)} {adr : Nat → Nat → Nat} {adV cA : Nat → Nat} {Q : State → Prop} {α : Type} {G0 : Option α} {b N : Nat} {xs : Nat → Int32} (hl0 : l.stackTraces = false) (hIL : hp_IL ids) (hC : hp_Cx p s m meth c cL_law 9 "HallPhoneLaw" A D adV cA G0) (hX : va_X b N xs s s.heap) (hbl : b < s.heap.size) (hbA : ¬ A b) (x4 : Int32) (K : hp_M → Option α) (M : hp_M) (cells slots : Nat) (hcs : cells + 45 ≤ 601024 ∧ slots + 9000 ≤ 7293034) (kk : ∀ (M' : hp_M) (adr' : Nat → Nat → Nat), hp_sim adr adr' → hp_Z p l e room_1 s m args below meth c 9 A D ids adr' adV cA (cells + 45) (slots + 9000) Q G0 none 2257 [(0, .ref b), (1, .ref (adr' 12 0)), (2, .ref (adr' 13 0)), (3, .ref (adr' 13 10)), (4, .int x4)] [] M' (K M')) : hp_Z p l e room_1 s m args below meth c 9 A D ids adr adV cA cells slots Q G0 none 1896 [(0, .ref b), (1, .ref (adr 12 0)), (2, .ref (adr 13 0)), (3, .ref (adr 13 10)), (4, .int x4)] [] M (C_law_33 N xs x4 K M) := by
  have hIB := hIL.1
  have hI := hIB.1
  unfold C_law_33
  refine hz_aload_n (a := 1) (n := 1897) hC dL_law_1896 rfl rfl rfl ?_
  refine hz_aload_n (a := 0) (n := 1898) hC dL_law_1897 rfl rfl rfl ?_
  refine hz_iload (a := 4) (n := 1900) hC dL_law_1898 rfl rfl ?_
  refine hz_iconst (v := (1 : Int32)) (n := 1901) hC dL_law_1900 (by decide +kernel) rfl ?_
  refine hz_iadd (n := 1902) hC dL_law_1901 rfl ?_
  refine hz_sld (n := 1903) hC hX hbl hbA dL_law_1902 rfl ?_
  refine hz_aload_n (a := 0) (n := 1904) hC dL_law_1903 rfl rfl rfl ?_
  refine hz_iload (a := 4) (n := 1906) hC dL_law_1904 rfl rfl ?_
  refine hz_iconst (v := (2 : Int32)) (n := 1907) hC dL_law_1906 (by decide +kernel) rfl ?_
  refine hz_iadd (n := 1908) hC dL_law_1907 rfl ?_
  refine hz_sld (n := 1909) hC hX hbl hbA dL_law_1908 rfl ?_
  refine hz_if_eq (tgt := 1916) (n := 1912) hC dL_law_1909 (by decide) rfl (fun _ => ?_) (fun _ => ?_)
  · refine hz_iconst (v := (0 : Int32)) (n := 1917) hC dL_law_1916 (by decide +kernel) rfl ?_
    refine hz_aload_n (a := 3) (n := 1918) hC dL_law_1917 rfl rfl rfl ?_
    refine hz_callSW (k := 4) (As := [.ref (adr 12 0), .int (xs ((x4 + (1 : Int32))).toNatClampNeg), .int (0 : Int32), .ref (adr 13 10)]) (st := []) (S1 := fun r1 => .int r1 :: []) (n := 1921) hC (c_L_setCurious l hl0 (xs ((x4 + (1 : Int32))).toNatClampNeg) (0 : Int32) M) kw_L_setCurious wd_6_94 hIL dL_law_1918 rfl rfl rfl (Nat.le_of_ble_eq_true rfl) ⟨Nat.le_of_ble_eq_true rfl, Nat.le_of_ble_eq_true rfl⟩ ⟨by show _ ≤ (601024 : Nat); omega, by show _ ≤ (7293034 : Nat); omega⟩ (fun _ => rfl) rfl (fun r1 M1 _ => ?_)
    refine hz_istore (L' := [(5, .int r1), (0, .ref b), (1, .ref (adr 12 0)), (2, .ref (adr 13 0)), (3, .ref (adr 13 10)), (4, .int x4)]) (n := 1923) hC dL_law_1921 (by decide) rfl rfl ?_
    refine hz_aload_n (a := 3) (n := 1924) hC dL_law_1923 rfl rfl rfl ?_
    refine hz_aload_n (a := 1) (n := 1925) hC dL_law_1924 rfl rfl rfl ?_
    refine hz_iload (a := 5) (n := 1927) hC dL_law_1925 rfl rfl ?_
    refine hz_iconst (v := (1 : Int32)) (n := 1928) hC dL_law_1927 (by decide +kernel) rfl ?_
    refine hz_iadd (n := 1929) hC dL_law_1928 rfl ?_
    refine hz_sld (n := 1930) hC hX hbl hbA dL_law_1929 rfl ?_
    refine hz_aload_n (a := 1) (n := 1931) hC dL_law_1930 rfl rfl rfl ?_
    refine hz_iload (a := 5) (n := 1933) hC dL_law_1931 rfl rfl ?_
    refine hz_iconst (v := (2 : Int32)) (n := 1934) hC dL_law_1933 (by decide +kernel) rfl ?_
    refine hz_iadd (n := 1935) hC dL_law_1934 rfl ?_
    refine hz_sld (n := 1936) hC hX hbl hbA dL_law_1935 rfl ?_
    refine hz_if_eq (tgt := 1943) (n := 1939) hC dL_law_1936 (by decide) rfl (fun _ => ?_) (fun _ => ?_)
    · refine hz_iconst (v := (0 : Int32)) (n := 1944) hC dL_law_1943 (by decide +kernel) rfl ?_
      refine hz_callV (k := 2) (As := [.int (xs ((x4 + (1 : Int32))).toNatClampNeg), .int (0 : Int32)]) (st := []) (S1 := fun r => .int r :: []) (n := 1947) hC (c_X9_setCurious l (xs ((x4 + (1 : Int32))).toNatClampNeg) (0 : Int32)   M1) kv_X9_setCurious wd_8_160 hIL.2.1 dL_law_1944 rfl (hIL.2.1 0 (by decide)) he_X9 rfl rfl rfl (Nat.le_of_ble_eq_true rfl) ⟨Nat.le_of_ble_eq_true rfl, Nat.le_of_ble_eq_true rfl⟩ ⟨by show _ ≤ (601024 : Nat); omega, by show _ ≤ (7293034 : Nat); omega⟩ (fun _ => rfl) rfl (fun r2 M2 _ => ?_)
      refine hz_istore (L' := [(6, .int r2), (5, .int r1), (0, .ref b), (1, .ref (adr 12 0)), (2, .ref (adr 13 0)), (3, .ref (adr 13 10)), (4, .int x4)]) (n := 1949) hC dL_law_1947 (by decide) rfl rfl ?_
      refine hz_aload_n (a := 4) (n := 1950) hC dL_law_1949 rfl rfl rfl ?_
      refine hz_callV (k := 0) (As := []) (st := []) (S1 := fun r => .int r :: []) (n := 1953) hC (c_X9_thrown l    M2) kv_X9_thrown wd_7_165 hIL.2.1 dL_law_1950 rfl (hIL.2.1 0 (by decide)) he_X9 rfl rfl rfl (Nat.le_of_ble_eq_true rfl) ⟨Nat.le_of_ble_eq_true rfl, Nat.le_of_ble_eq_true rfl⟩ ⟨by show _ ≤ (601024 : Nat); omega, by show _ ≤ (7293034 : Nat); omega⟩ (fun _ => rfl) rfl (fun r3 M3 _ => ?_)
      refine hz_iload (a := 1) (n := 1955) hC dL_law_1953 rfl rfl ?_
      refine hz_icmp_eq (tgt := 1960) (n := 1958) hC dL_law_1955 (by decide) rfl (fun _ => ?_) (fun _ => ?_)
      · refine hz_iload (a := 1) (n := 1962) hC dL_law_1960 rfl rfl ?_
        refine hz_if_ne (tgt := 1984) (n := 1965) hC dL_law_1962 (by decide) rfl (fun _ => ?_) (fun _ => ?_)
        · refine hz_aload_n (a := 5) (n := 1966) hC dL_law_1965 rfl rfl rfl ?_
          refine hz_iconst (v := (0 : Int32)) (n := 1967) hC dL_law_1966 (by decide +kernel) rfl ?_
          refine hz_lald13 (n := 1968) hC dL_law_1967 hIL.2.2 rfl ?_
          refine hz_iload (a := 0) (n := 1970) hC dL_law_1968 rfl rfl ?_
          refine hz_if_eq (tgt := 1977) (n := 1973) hC dL_law_1970 (by decide) rfl (fun _ => ?_) (fun _ => ?_)
          · refine hz_lconst (v := (0 : Int64)) (n := 1978) hC dL_law_1977 (by decide +kernel) rfl ?_
            refine hz_lcmp (n := 1979) hC dL_law_1978 rfl ?_
            refine hz_if_eq (tgt := 1984) (n := 1982) hC dL_law_1979 (by decide) rfl (fun _ => ?_) (fun _ => ?_)
            · refine hz_goto (n := 2257) hC dL_law_1984 (by decide) ?_
              refine hz_L (L' := [(0, .ref b), (1, .ref (adr 12 0)), (2, .ref (adr 13 0)), (3, .ref (adr 13 10)), (4, .int x4)]) [2, 3, 4, 5, 6] rfl ?_
              exact hz_widen (k0 := cells + 45) (s0 := slots + 9000) ⟨by omega, by omega⟩ (kk M3 adr hp_sim.rf)
            · exact hz_none hC
          · refine hz_lconst (v := (1 : Int64)) (n := 1974) hC dL_law_1973 (by decide +kernel) rfl ?_
            refine hz_goto (n := 1978) hC dL_law_1974 (by decide) ?_
            refine hz_lcmp (n := 1979) hC dL_law_1978 rfl ?_
            refine hz_if_eq (tgt := 1984) (n := 1982) hC dL_law_1979 (by decide) rfl (fun _ => ?_) (fun _ => ?_)
            · refine hz_goto (n := 2257) hC dL_law_1984 (by decide) ?_
              refine hz_L (L' := [(0, .ref b), (1, .ref (adr 12 0)), (2, .ref (adr 13 0)), (3, .ref (adr 13 10)), (4, .int x4)]) [2, 3, 4, 5, 6] rfl ?_
              exact hz_widen (k0 := cells + 45) (s0 := slots + 9000) ⟨by omega, by omega⟩ (kk M3 adr hp_sim.rf)
            · exact hz_none hC
        · refine hz_goto (n := 2257) hC dL_law_1984 (by decide) ?_
          refine hz_L (L' := [(0, .ref b), (1, .ref (adr 12 0)), (2, .ref (adr 13 0)), (3, .ref (adr 13 10)), (4, .int x4)]) [2, 3, 4, 5, 6] rfl ?_
          exact hz_widen (k0 := cells + 45) (s0 := slots + 9000) ⟨by omega, by omega⟩ (kk M3 adr hp_sim.rf)
      · exact hz_none hC
    · refine hz_iconst (v := (1 : Int32)) (n := 1940) hC dL_law_1939 (by decide +kernel) rfl ?_
      refine hz_goto (n := 1944) hC dL_law_1940 (by decide) ?_
      refine hz_callV (k := 2) (As := [.int (xs ((x4 + (1 : Int32))).toNatClampNeg), .int (1 : Int32)]) (st := []) (S1 := fun r => .int r :: []) (n := 1947) hC (c_X9_setCurious l (xs ((x4 + (1 : Int32))).toNatClampNeg) (1 : Int32)   M1) kv_X9_setCurious wd_8_160 hIL.2.1 dL_law_1944 rfl (hIL.2.1 0 (by decide)) he_X9 rfl rfl rfl (Nat.le_of_ble_eq_true rfl) ⟨Nat.le_of_ble_eq_true rfl, Nat.le_of_ble_eq_true rfl⟩ ⟨by show _ ≤ (601024 : Nat); omega, by show _ ≤ (7293034 : Nat); omega⟩ (fun _ => rfl) rfl (fun r4 M4 _ => ?_)
      refine hz_istore (L' := [(6, .int r4), (5, .int r1), (0, .ref b), (1, .ref (adr 12 0)), (2, .ref (adr 13 0)), (3, .ref (adr 13 10)), (4, .int x4)]) (n := 1949) hC dL_law_1947 (by decide) rfl rfl ?_
      refine hz_aload_n (a := 4) (n := 1950) hC dL_law_1949 rfl rfl rfl ?_
      refine hz_callV (k := 0) (As := []) (st := []) (S1 := fun r => .int r :: []) (n := 1953) hC (c_X9_thrown l    M4) kv_X9_thrown wd_7_165 hIL.2.1 dL_law_1950 rfl (hIL.2.1 0 (by decide)) he_X9 rfl rfl rfl (Nat.le_of_ble_eq_true rfl) ⟨Nat.le_of_ble_eq_true rfl, Nat.le_of_ble_eq_true rfl⟩ ⟨by show _ ≤ (601024 : Nat); omega, by show _ ≤ (7293034 : Nat); omega⟩ (fun _ => rfl) rfl (fun r5 M5 _ => ?_)
      refine hz_iload (a := 1) (n := 1955) hC dL_law_1953 rfl rfl ?_
      refine hz_icmp_eq (tgt := 1960) (n := 1958) hC dL_law_1955 (by decide) rfl (fun _ => ?_) (fun _ => ?_)
      · refine hz_iload (a := 1) (n := 1962) hC dL_law_1960 rfl rfl ?_
        refine hz_if_ne (tgt := 1984) (n := 1965) hC dL_law_1962 (by decide) rfl (fun _ => ?_) (fun _ => ?_)
        · refine hz_aload_n (a := 5) (n := 1966) hC dL_law_1965 rfl rfl rfl ?_
          refine hz_iconst (v := (0 : Int32)) (n := 1967) hC dL_law_1966 (by decide +kernel) rfl ?_
          refine hz_lald13 (n := 1968) hC dL_law_1967 hIL.2.2 rfl ?_
          refine hz_iload (a := 0) (n := 1970) hC dL_law_1968 rfl rfl ?_
          refine hz_if_eq (tgt := 1977) (n := 1973) hC dL_law_1970 (by decide) rfl (fun _ => ?_) (fun _ => ?_)
          · refine hz_lconst (v := (0 : Int64)) (n := 1978) hC dL_law_1977 (by decide +kernel) rfl ?_
            refine hz_lcmp (n := 1979) hC dL_law_1978 rfl ?_
            refine hz_if_eq (tgt := 1984) (n := 1982) hC dL_law_1979 (by decide) rfl (fun _ => ?_) (fun _ => ?_)
            · refine hz_goto (n := 2257) hC dL_law_1984 (by decide) ?_
              refine hz_L (L' := [(0, .ref b), (1, .ref (adr 12 0)), (2, .ref (adr 13 0)), (3, .ref (adr 13 10)), (4, .int x4)]) [2, 3, 4, 5, 6] rfl ?_
              exact hz_widen (k0 := cells + 45) (s0 := slots + 9000) ⟨by omega, by omega⟩ (kk M5 adr hp_sim.rf)
            · exact hz_none hC
          · refine hz_lconst (v := (1 : Int64)) (n := 1974) hC dL_law_1973 (by decide +kernel) rfl ?_
            refine hz_goto (n := 1978) hC dL_law_1974 (by decide) ?_
            refine hz_lcmp (n := 1979) hC dL_law_1978 rfl ?_
            refine hz_if_eq (tgt := 1984) (n := 1982) hC dL_law_1979 (by decide) rfl (fun _ => ?_) (fun _ => ?_)
            · refine hz_goto (n := 2257) hC dL_law_1984 (by decide) ?_
              refine hz_L (L' := [(0, .ref b), (1, .ref (adr 12 0)), (2, .ref (adr 13 0)), (3, .ref (adr 13 10)), (4, .int x4)]) [2, 3, 4, 5, 6] rfl ?_
              exact hz_widen (k0 := cells + 45) (s0 := slots + 9000) ⟨by omega, by omega⟩ (kk M5 adr hp_sim.rf)
            · exact hz_none hC
        · refine hz_goto (n := 2257) hC dL_law_1984 (by decide) ?_
          refine hz_L (L' := [(0, .ref b), (1, .ref (adr 12 0)), (2, .ref (adr 13 0)), (3, .ref (adr 13 10)), (4, .int x4)]) [2, 3, 4, 5, 6] rfl ?_
          exact hz_widen (k0 := cells + 45) (s0 := slots + 9000) ⟨by omega, by omega⟩ (kk M5 adr hp_sim.rf)
      · exact hz_none hC
  · refine hz_iconst (v := (1 : Int32)) (n := 1913) hC dL_law_1912 (by decide +kernel) rfl ?_
    refine hz_goto (n := 1917) hC dL_law_1913 (by decide) ?_
    refine hz_aload_n (a := 3) (n := 1918) hC dL_law_1917 rfl rfl rfl ?_
    refine hz_callSW (k := 4) (As := [.ref (adr 12 0), .int (xs ((x4 + (1 : Int32))).toNatClampNeg), .int (1 : Int32), .ref (adr 13 10)]) (st := []) (S1 := fun r6 => .int r6 :: []) (n := 1921) hC (c_L_setCurious l hl0 (xs ((x4 + (1 : Int32))).toNatClampNeg) (1 : Int32) M) kw_L_setCurious wd_6_94 hIL dL_law_1918 rfl rfl rfl (Nat.le_of_ble_eq_true rfl) ⟨Nat.le_of_ble_eq_true rfl, Nat.le_of_ble_eq_true rfl⟩ ⟨by show _ ≤ (601024 : Nat); omega, by show _ ≤ (7293034 : Nat); omega⟩ (fun _ => rfl) rfl (fun r6 M6 _ => ?_)
    refine hz_istore (L' := [(5, .int r6), (0, .ref b), (1, .ref (adr 12 0)), (2, .ref (adr 13 0)), (3, .ref (adr 13 10)), (4, .int x4)]) (n := 1923) hC dL_law_1921 (by decide) rfl rfl ?_
    refine hz_aload_n (a := 3) (n := 1924) hC dL_law_1923 rfl rfl rfl ?_
    refine hz_aload_n (a := 1) (n := 1925) hC dL_law_1924 rfl rfl rfl ?_
    refine hz_iload (a := 5) (n := 1927) hC dL_law_1925 rfl rfl ?_
    refine hz_iconst (v := (1 : Int32)) (n := 1928) hC dL_law_1927 (by decide +kernel) rfl ?_
    refine hz_iadd (n := 1929) hC dL_law_1928 rfl ?_
    refine hz_sld (n := 1930) hC hX hbl hbA dL_law_1929 rfl ?_
    refine hz_aload_n (a := 1) (n := 1931) hC dL_law_1930 rfl rfl rfl ?_
    refine hz_iload (a := 5) (n := 1933) hC dL_law_1931 rfl rfl ?_
    refine hz_iconst (v := (2 : Int32)) (n := 1934) hC dL_law_1933 (by decide +kernel) rfl ?_
    refine hz_iadd (n := 1935) hC dL_law_1934 rfl ?_
    refine hz_sld (n := 1936) hC hX hbl hbA dL_law_1935 rfl ?_
    refine hz_if_eq (tgt := 1943) (n := 1939) hC dL_law_1936 (by decide) rfl (fun _ => ?_) (fun _ => ?_)
    · refine hz_iconst (v := (0 : Int32)) (n := 1944) hC dL_law_1943 (by decide +kernel) rfl ?_
      refine hz_callV (k := 2) (As := [.int (xs ((x4 + (1 : Int32))).toNatClampNeg), .int (0 : Int32)]) (st := []) (S1 := fun r => .int r :: []) (n := 1947) hC (c_X9_setCurious l (xs ((x4 + (1 : Int32))).toNatClampNeg) (0 : Int32)   M6) kv_X9_setCurious wd_8_160 hIL.2.1 dL_law_1944 rfl (hIL.2.1 0 (by decide)) he_X9 rfl rfl rfl (Nat.le_of_ble_eq_true rfl) ⟨Nat.le_of_ble_eq_true rfl, Nat.le_of_ble_eq_true rfl⟩ ⟨by show _ ≤ (601024 : Nat); omega, by show _ ≤ (7293034 : Nat); omega⟩ (fun _ => rfl) rfl (fun r7 M7 _ => ?_)
      refine hz_istore (L' := [(6, .int r7), (5, .int r6), (0, .ref b), (1, .ref (adr 12 0)), (2, .ref (adr 13 0)), (3, .ref (adr 13 10)), (4, .int x4)]) (n := 1949) hC dL_law_1947 (by decide) rfl rfl ?_
      refine hz_aload_n (a := 4) (n := 1950) hC dL_law_1949 rfl rfl rfl ?_
      refine hz_callV (k := 0) (As := []) (st := []) (S1 := fun r => .int r :: []) (n := 1953) hC (c_X9_thrown l    M7) kv_X9_thrown wd_7_165 hIL.2.1 dL_law_1950 rfl (hIL.2.1 0 (by decide)) he_X9 rfl rfl rfl (Nat.le_of_ble_eq_true rfl) ⟨Nat.le_of_ble_eq_true rfl, Nat.le_of_ble_eq_true rfl⟩ ⟨by show _ ≤ (601024 : Nat); omega, by show _ ≤ (7293034 : Nat); omega⟩ (fun _ => rfl) rfl (fun r8 M8 _ => ?_)
      refine hz_iload (a := 1) (n := 1955) hC dL_law_1953 rfl rfl ?_
      refine hz_icmp_eq (tgt := 1960) (n := 1958) hC dL_law_1955 (by decide) rfl (fun _ => ?_) (fun _ => ?_)
      · refine hz_iload (a := 1) (n := 1962) hC dL_law_1960 rfl rfl ?_
        refine hz_if_ne (tgt := 1984) (n := 1965) hC dL_law_1962 (by decide) rfl (fun _ => ?_) (fun _ => ?_)
        · refine hz_aload_n (a := 5) (n := 1966) hC dL_law_1965 rfl rfl rfl ?_
          refine hz_iconst (v := (0 : Int32)) (n := 1967) hC dL_law_1966 (by decide +kernel) rfl ?_
          refine hz_lald13 (n := 1968) hC dL_law_1967 hIL.2.2 rfl ?_
          refine hz_iload (a := 0) (n := 1970) hC dL_law_1968 rfl rfl ?_
          refine hz_if_eq (tgt := 1977) (n := 1973) hC dL_law_1970 (by decide) rfl (fun _ => ?_) (fun _ => ?_)
          · refine hz_lconst (v := (0 : Int64)) (n := 1978) hC dL_law_1977 (by decide +kernel) rfl ?_
            refine hz_lcmp (n := 1979) hC dL_law_1978 rfl ?_
            refine hz_if_eq (tgt := 1984) (n := 1982) hC dL_law_1979 (by decide) rfl (fun _ => ?_) (fun _ => ?_)
            · refine hz_goto (n := 2257) hC dL_law_1984 (by decide) ?_
              refine hz_L (L' := [(0, .ref b), (1, .ref (adr 12 0)), (2, .ref (adr 13 0)), (3, .ref (adr 13 10)), (4, .int x4)]) [2, 3, 4, 5, 6] rfl ?_
              exact hz_widen (k0 := cells + 45) (s0 := slots + 9000) ⟨by omega, by omega⟩ (kk M8 adr hp_sim.rf)
            · exact hz_none hC
          · refine hz_lconst (v := (1 : Int64)) (n := 1974) hC dL_law_1973 (by decide +kernel) rfl ?_
            refine hz_goto (n := 1978) hC dL_law_1974 (by decide) ?_
            refine hz_lcmp (n := 1979) hC dL_law_1978 rfl ?_
            refine hz_if_eq (tgt := 1984) (n := 1982) hC dL_law_1979 (by decide) rfl (fun _ => ?_) (fun _ => ?_)
            · refine hz_goto (n := 2257) hC dL_law_1984 (by decide) ?_
              refine hz_L (L' := [(0, .ref b), (1, .ref (adr 12 0)), (2, .ref (adr 13 0)), (3, .ref (adr 13 10)), (4, .int x4)]) [2, 3, 4, 5, 6] rfl ?_
              exact hz_widen (k0 := cells + 45) (s0 := slots + 9000) ⟨by omega, by omega⟩ (kk M8 adr hp_sim.rf)
            · exact hz_none hC
        · refine hz_goto (n := 2257) hC dL_law_1984 (by decide) ?_
          refine hz_L (L' := [(0, .ref b), (1, .ref (adr 12 0)), (2, .ref (adr 13 0)), (3, .ref (adr 13 10)), (4, .int x4)]) [2, 3, 4, 5, 6] rfl ?_
          exact hz_widen (k0 := cells + 45) (s0 := slots + 9000) ⟨by omega, by omega⟩ (kk M8 adr hp_sim.rf)
      · exact hz_none hC
    · refine hz_iconst (v := (1 : Int32)) (n := 1940) hC dL_law_1939 (by decide +kernel) rfl ?_
      refine hz_goto (n := 1944) hC dL_law_1940 (by decide) ?_
      refine hz_callV (k := 2) (As := [.int (xs ((x4 + (1 : Int32))).toNatClampNeg), .int (1 : Int32)]) (st := []) (S1 := fun r => .int r :: []) (n := 1947) hC (c_X9_setCurious l (xs ((x4 + (1 : Int32))).toNatClampNeg) (1 : Int32)   M6) kv_X9_setCurious wd_8_160 hIL.2.1 dL_law_1944 rfl (hIL.2.1 0 (by decide)) he_X9 rfl rfl rfl (Nat.le_of_ble_eq_true rfl) ⟨Nat.le_of_ble_eq_true rfl, Nat.le_of_ble_eq_true rfl⟩ ⟨by show _ ≤ (601024 : Nat); omega, by show _ ≤ (7293034 : Nat); omega⟩ (fun _ => rfl) rfl (fun r9 M9 _ => ?_)
      refine hz_istore (L' := [(6, .int r9), (5, .int r6), (0, .ref b), (1, .ref (adr 12 0)), (2, .ref (adr 13 0)), (3, .ref (adr 13 10)), (4, .int x4)]) (n := 1949) hC dL_law_1947 (by decide) rfl rfl ?_
      refine hz_aload_n (a := 4) (n := 1950) hC dL_law_1949 rfl rfl rfl ?_
      refine hz_callV (k := 0) (As := []) (st := []) (S1 := fun r => .int r :: []) (n := 1953) hC (c_X9_thrown l    M9) kv_X9_thrown wd_7_165 hIL.2.1 dL_law_1950 rfl (hIL.2.1 0 (by decide)) he_X9 rfl rfl rfl (Nat.le_of_ble_eq_true rfl) ⟨Nat.le_of_ble_eq_true rfl, Nat.le_of_ble_eq_true rfl⟩ ⟨by show _ ≤ (601024 : Nat); omega, by show _ ≤ (7293034 : Nat); omega⟩ (fun _ => rfl) rfl (fun r10 M10 _ => ?_)
      refine hz_iload (a := 1) (n := 1955) hC dL_law_1953 rfl rfl ?_
      refine hz_icmp_eq (tgt := 1960) (n := 1958) hC dL_law_1955 (by decide) rfl (fun _ => ?_) (fun _ => ?_)
      · refine hz_iload (a := 1) (n := 1962) hC dL_law_1960 rfl rfl ?_
        refine hz_if_ne (tgt := 1984) (n := 1965) hC dL_law_1962 (by decide) rfl (fun _ => ?_) (fun _ => ?_)
        · refine hz_aload_n (a := 5) (n := 1966) hC dL_law_1965 rfl rfl rfl ?_
          refine hz_iconst (v := (0 : Int32)) (n := 1967) hC dL_law_1966 (by decide +kernel) rfl ?_
          refine hz_lald13 (n := 1968) hC dL_law_1967 hIL.2.2 rfl ?_
          refine hz_iload (a := 0) (n := 1970) hC dL_law_1968 rfl rfl ?_
          refine hz_if_eq (tgt := 1977) (n := 1973) hC dL_law_1970 (by decide) rfl (fun _ => ?_) (fun _ => ?_)
          · refine hz_lconst (v := (0 : Int64)) (n := 1978) hC dL_law_1977 (by decide +kernel) rfl ?_
            refine hz_lcmp (n := 1979) hC dL_law_1978 rfl ?_
            refine hz_if_eq (tgt := 1984) (n := 1982) hC dL_law_1979 (by decide) rfl (fun _ => ?_) (fun _ => ?_)
            · refine hz_goto (n := 2257) hC dL_law_1984 (by decide) ?_
              refine hz_L (L' := [(0, .ref b), (1, .ref (adr 12 0)), (2, .ref (adr 13 0)), (3, .ref (adr 13 10)), (4, .int x4)]) [2, 3, 4, 5, 6] rfl ?_
              exact hz_widen (k0 := cells + 45) (s0 := slots + 9000) ⟨by omega, by omega⟩ (kk M10 adr hp_sim.rf)
            · exact hz_none hC
          · refine hz_lconst (v := (1 : Int64)) (n := 1974) hC dL_law_1973 (by decide +kernel) rfl ?_
            refine hz_goto (n := 1978) hC dL_law_1974 (by decide) ?_
            refine hz_lcmp (n := 1979) hC dL_law_1978 rfl ?_
            refine hz_if_eq (tgt := 1984) (n := 1982) hC dL_law_1979 (by decide) rfl (fun _ => ?_) (fun _ => ?_)
            · refine hz_goto (n := 2257) hC dL_law_1984 (by decide) ?_
              refine hz_L (L' := [(0, .ref b), (1, .ref (adr 12 0)), (2, .ref (adr 13 0)), (3, .ref (adr 13 10)), (4, .int x4)]) [2, 3, 4, 5, 6] rfl ?_
              exact hz_widen (k0 := cells + 45) (s0 := slots + 9000) ⟨by omega, by omega⟩ (kk M10 adr hp_sim.rf)
            · exact hz_none hC
        · refine hz_goto (n := 2257) hC dL_law_1984 (by decide) ?_
          refine hz_L (L' := [(0, .ref b), (1, .ref (adr 12 0)), (2, .ref (adr 13 0)), (3, .ref (adr 13 10)), (4, .int x4)]) [2, 3, 4, 5, 6] rfl ?_
          exact hz_widen (k0 := cells + 45) (s0 := slots + 9000) ⟨by omega, by omega⟩ (kk M10 adr hp_sim.rf)
      · exact hz_none hC
def C_law_34 {α : Type} (N : Nat) (xs : Nat → Int32) (x4 : Int32) (K : hp_M → Option α) (M : hp_M) : Option α := (if (x4 + (1 : Int32)) < 0 ∨ N ≤ ((x4 + (1 : Int32))).toNatClampNeg then none else (if (x4 + (2 : Int32)) < 0 ∨ N ≤ ((x4 + (2 : Int32))).toNatClampNeg then none else (hp_b (F_L_set (xs ((x4 + (1 : Int32))).toNatClampNeg) (xs ((x4 + (2 : Int32))).toNatClampNeg) M) (fun r1 M1 => (if (x4 + (1 : Int32)) < 0 ∨ N ≤ ((x4 + (1 : Int32))).toNatClampNeg then none else (if (x4 + (2 : Int32)) < 0 ∨ N ≤ ((x4 + (2 : Int32))).toNatClampNeg then none else (hp_b (F_X9_set (xs ((x4 + (1 : Int32))).toNatClampNeg) (xs ((x4 + (2 : Int32))).toNatClampNeg) M1) (fun r2 M2 => (hp_b (F_X9_thrown M2) (fun r3 M3 => (if r3 = r1 then (if r1 = 0 then (if (lg_cmp ((M3 13 10 0).toInt64) ((r2).toInt64)) = 0 then (K M3) else none) else (K M3)) else none)))))))))))
set_option maxRecDepth 20000 in
set_option maxHeartbeats 4000000 in
theorem z_law_34 {p : Program} {l : Launch} {e : Env} {s : State} {m : MethodId} {args : Array Value} {below : List Frame} {meth : Method} {c : Code} {A : Nat → Prop} {D : va_G} {ids : List (Nat × Nat)} {adr : Nat → Nat → Nat} {adV cA : Nat → Nat} {Q : State → Prop} {α : Type} {G0 : Option α} {b N : Nat} {xs : Nat → Int32} (hl0 : l.stackTraces = false) (hIL : hp_IL ids) (hC : hp_Cx p s m meth c cL_law 9 "HallPhoneLaw" A D adV cA G0) (hX : va_X b N xs s s.heap) (hbl : b < s.heap.size) (hbA : ¬ A b) (x4 : Int32) (K : hp_M → Option α) (M : hp_M) (cells slots : Nat) (hcs : cells + 45 ≤ 601024 ∧ slots + 9000 ≤ 7293034) (kk : ∀ (M' : hp_M) (adr' : Nat → Nat → Nat), hp_sim adr adr' → hp_Z p l e room_1 s m args below meth c 9 A D ids adr' adV cA (cells + 45) (slots + 9000) Q G0 none 2257 [(0, .ref b), (1, .ref (adr' 12 0)), (2, .ref (adr' 13 0)), (3, .ref (adr' 13 10)), (4, .int x4)] [] M' (K M')) : hp_Z p l e room_1 s m args below meth c 9 A D ids adr adV cA cells slots Q G0 none 1987 [(0, .ref b), (1, .ref (adr 12 0)), (2, .ref (adr 13 0)), (3, .ref (adr 13 10)), (4, .int x4)] [] M (C_law_34 N xs x4 K M) := by
  have hIB := hIL.1
  have hI := hIB.1
  unfold C_law_34
  refine hz_aload_n (a := 1) (n := 1988) hC dL_law_1987 rfl rfl rfl ?_
  refine hz_aload_n (a := 0) (n := 1989) hC dL_law_1988 rfl rfl rfl ?_
  refine hz_iload (a := 4) (n := 1991) hC dL_law_1989 rfl rfl ?_
  refine hz_iconst (v := (1 : Int32)) (n := 1992) hC dL_law_1991 (by decide +kernel) rfl ?_
  refine hz_iadd (n := 1993) hC dL_law_1992 rfl ?_
  refine hz_sld (n := 1994) hC hX hbl hbA dL_law_1993 rfl ?_
  refine hz_aload_n (a := 0) (n := 1995) hC dL_law_1994 rfl rfl rfl ?_
  refine hz_iload (a := 4) (n := 1997) hC dL_law_1995 rfl rfl ?_
  refine hz_iconst (v := (2 : Int32)) (n := 1998) hC dL_law_1997 (by decide +kernel) rfl ?_
  refine hz_iadd (n := 1999) hC dL_law_1998 rfl ?_
  refine hz_sld (n := 2000) hC hX hbl hbA dL_law_1999 rfl ?_
  refine hz_aload_n (a := 3) (n := 2001) hC dL_law_2000 rfl rfl rfl ?_
  refine hz_callSW (k := 4) (As := [.ref (adr 12 0), .int (xs ((x4 + (1 : Int32))).toNatClampNeg), .int (xs ((x4 + (2 : Int32))).toNatClampNeg), .ref (adr 13 10)]) (st := []) (S1 := fun r1 => .int r1 :: []) (n := 2004) hC (c_L_set l hl0 (xs ((x4 + (1 : Int32))).toNatClampNeg) (xs ((x4 + (2 : Int32))).toNatClampNeg) M) kw_L_set wd_6_102 hIL dL_law_2001 rfl rfl rfl (Nat.le_of_ble_eq_true rfl) ⟨Nat.le_of_ble_eq_true rfl, Nat.le_of_ble_eq_true rfl⟩ ⟨by show _ ≤ (601024 : Nat); omega, by show _ ≤ (7293034 : Nat); omega⟩ (fun _ => rfl) rfl (fun r1 M1 _ => ?_)
  refine hz_istore (L' := [(5, .int r1), (0, .ref b), (1, .ref (adr 12 0)), (2, .ref (adr 13 0)), (3, .ref (adr 13 10)), (4, .int x4)]) (n := 2006) hC dL_law_2004 (by decide) rfl rfl ?_
  refine hz_aload_n (a := 3) (n := 2007) hC dL_law_2006 rfl rfl rfl ?_
  refine hz_aload_n (a := 1) (n := 2008) hC dL_law_2007 rfl rfl rfl ?_
  refine hz_iload (a := 5) (n := 2010) hC dL_law_2008 rfl rfl ?_
  refine hz_iconst (v := (1 : Int32)) (n := 2011) hC dL_law_2010 (by decide +kernel) rfl ?_
  refine hz_iadd (n := 2012) hC dL_law_2011 rfl ?_
  refine hz_sld (n := 2013) hC hX hbl hbA dL_law_2012 rfl ?_
  refine hz_aload_n (a := 1) (n := 2014) hC dL_law_2013 rfl rfl rfl ?_
  refine hz_iload (a := 5) (n := 2016) hC dL_law_2014 rfl rfl ?_
  refine hz_iconst (v := (2 : Int32)) (n := 2017) hC dL_law_2016 (by decide +kernel) rfl ?_
  refine hz_iadd (n := 2018) hC dL_law_2017 rfl ?_
  refine hz_sld (n := 2019) hC hX hbl hbA dL_law_2018 rfl ?_
  refine hz_callV (k := 2) (As := [.int (xs ((x4 + (1 : Int32))).toNatClampNeg), .int (xs ((x4 + (2 : Int32))).toNatClampNeg)]) (st := []) (S1 := fun r => .int r :: []) (n := 2022) hC (c_X9_set l (xs ((x4 + (1 : Int32))).toNatClampNeg) (xs ((x4 + (2 : Int32))).toNatClampNeg)   M1) kv_X9_set wd_8_164 hIL.2.1 dL_law_2019 rfl (hIL.2.1 0 (by decide)) he_X9 rfl rfl rfl (Nat.le_of_ble_eq_true rfl) ⟨Nat.le_of_ble_eq_true rfl, Nat.le_of_ble_eq_true rfl⟩ ⟨by show _ ≤ (601024 : Nat); omega, by show _ ≤ (7293034 : Nat); omega⟩ (fun _ => rfl) rfl (fun r2 M2 _ => ?_)
  refine hz_istore (L' := [(6, .int r2), (5, .int r1), (0, .ref b), (1, .ref (adr 12 0)), (2, .ref (adr 13 0)), (3, .ref (adr 13 10)), (4, .int x4)]) (n := 2024) hC dL_law_2022 (by decide) rfl rfl ?_
  refine hz_aload_n (a := 4) (n := 2025) hC dL_law_2024 rfl rfl rfl ?_
  refine hz_callV (k := 0) (As := []) (st := []) (S1 := fun r => .int r :: []) (n := 2028) hC (c_X9_thrown l    M2) kv_X9_thrown wd_7_165 hIL.2.1 dL_law_2025 rfl (hIL.2.1 0 (by decide)) he_X9 rfl rfl rfl (Nat.le_of_ble_eq_true rfl) ⟨Nat.le_of_ble_eq_true rfl, Nat.le_of_ble_eq_true rfl⟩ ⟨by show _ ≤ (601024 : Nat); omega, by show _ ≤ (7293034 : Nat); omega⟩ (fun _ => rfl) rfl (fun r3 M3 _ => ?_)
  refine hz_iload (a := 1) (n := 2030) hC dL_law_2028 rfl rfl ?_
  refine hz_icmp_eq (tgt := 2035) (n := 2033) hC dL_law_2030 (by decide) rfl (fun _ => ?_) (fun _ => ?_)
  · refine hz_iload (a := 1) (n := 2037) hC dL_law_2035 rfl rfl ?_
    refine hz_if_ne (tgt := 2052) (n := 2040) hC dL_law_2037 (by decide) rfl (fun _ => ?_) (fun _ => ?_)
    · refine hz_aload_n (a := 5) (n := 2041) hC dL_law_2040 rfl rfl rfl ?_
      refine hz_iconst (v := (0 : Int32)) (n := 2042) hC dL_law_2041 (by decide +kernel) rfl ?_
      refine hz_lald13 (n := 2043) hC dL_law_2042 hIL.2.2 rfl ?_
      refine hz_iload (a := 0) (n := 2045) hC dL_law_2043 rfl rfl ?_
      refine hz_i2l (n := 2046) hC dL_law_2045 rfl ?_
      refine hz_lcmp (n := 2047) hC dL_law_2046 rfl ?_
      refine hz_if_eq (tgt := 2052) (n := 2050) hC dL_law_2047 (by decide) rfl (fun _ => ?_) (fun _ => ?_)
      · refine hz_goto (n := 2257) hC dL_law_2052 (by decide) ?_
        refine hz_L (L' := [(0, .ref b), (1, .ref (adr 12 0)), (2, .ref (adr 13 0)), (3, .ref (adr 13 10)), (4, .int x4)]) [2, 3, 4, 5, 6] rfl ?_
        exact hz_widen (k0 := cells + 45) (s0 := slots + 9000) ⟨by omega, by omega⟩ (kk M3 adr hp_sim.rf)
      · exact hz_none hC
    · refine hz_goto (n := 2257) hC dL_law_2052 (by decide) ?_
      refine hz_L (L' := [(0, .ref b), (1, .ref (adr 12 0)), (2, .ref (adr 13 0)), (3, .ref (adr 13 10)), (4, .int x4)]) [2, 3, 4, 5, 6] rfl ?_
      exact hz_widen (k0 := cells + 45) (s0 := slots + 9000) ⟨by omega, by omega⟩ (kk M3 adr hp_sim.rf)
  · exact hz_none hC
def C_law_35 {α : Type} (N : Nat) (xs : Nat → Int32) (x4 : Int32) (K : hp_M → Option α) (M : hp_M) : Option α := (if (x4 + (1 : Int32)) < 0 ∨ N ≤ ((x4 + (1 : Int32))).toNatClampNeg then none else (hp_b (F_L_pass (xs ((x4 + (1 : Int32))).toNatClampNeg) M) (fun r1 M1 => (if (x4 + (1 : Int32)) < 0 ∨ N ≤ ((x4 + (1 : Int32))).toNatClampNeg then none else (hp_b (F_X9_pass (xs ((x4 + (1 : Int32))).toNatClampNeg) M1) (fun r2 M2 => (hp_b (F_X9_thrown M2) (fun r3 M3 => (if r3 = r1 then (if r1 = 0 then (if (lg_cmp ((M3 13 10 0).toInt64) ((r2).toInt64)) = 0 then (K M3) else none) else (K M3)) else none)))))))))
set_option maxRecDepth 20000 in
set_option maxHeartbeats 4000000 in
theorem z_law_35 {p : Program} {l : Launch} {e : Env} {s : State} {m : MethodId} {args : Array Value} {below : List Frame} {meth : Method} {c : Code} {A : Nat → Prop} {D : va_G} {ids : List (Nat × Nat)} {adr : Nat → Nat → Nat} {adV cA : Nat → Nat} {Q : State → Prop} {α : Type} {G0 : Option α} {b N : Nat} {xs : Nat → Int32} (hl0 : l.stackTraces = false) (hIL : hp_IL ids) (hC : hp_Cx p s m meth c cL_law 9 "HallPhoneLaw" A D adV cA G0) (hX : va_X b N xs s s.heap) (hbl : b < s.heap.size) (hbA : ¬ A b) (x4 : Int32) (K : hp_M → Option α) (M : hp_M) (cells slots : Nat) (hcs : cells + 45 ≤ 601024 ∧ slots + 9000 ≤ 7293034) (kk : ∀ (M' : hp_M) (adr' : Nat → Nat → Nat), hp_sim adr adr' → hp_Z p l e room_1 s m args below meth c 9 A D ids adr' adV cA (cells + 45) (slots + 9000) Q G0 none 2257 [(0, .ref b), (1, .ref (adr' 12 0)), (2, .ref (adr' 13 0)), (3, .ref (adr' 13 10)), (4, .int x4)] [] M' (K M')) : hp_Z p l e room_1 s m args below meth c 9 A D ids adr adV cA cells slots Q G0 none 2055 [(0, .ref b), (1, .ref (adr 12 0)), (2, .ref (adr 13 0)), (3, .ref (adr 13 10)), (4, .int x4)] [] M (C_law_35 N xs x4 K M) := by
  have hIB := hIL.1
  have hI := hIB.1
  unfold C_law_35
  refine hz_aload_n (a := 1) (n := 2056) hC dL_law_2055 rfl rfl rfl ?_
  refine hz_aload_n (a := 0) (n := 2057) hC dL_law_2056 rfl rfl rfl ?_
  refine hz_iload (a := 4) (n := 2059) hC dL_law_2057 rfl rfl ?_
  refine hz_iconst (v := (1 : Int32)) (n := 2060) hC dL_law_2059 (by decide +kernel) rfl ?_
  refine hz_iadd (n := 2061) hC dL_law_2060 rfl ?_
  refine hz_sld (n := 2062) hC hX hbl hbA dL_law_2061 rfl ?_
  refine hz_aload_n (a := 3) (n := 2063) hC dL_law_2062 rfl rfl rfl ?_
  refine hz_callSW (k := 3) (As := [.ref (adr 12 0), .int (xs ((x4 + (1 : Int32))).toNatClampNeg), .ref (adr 13 10)]) (st := []) (S1 := fun r1 => .int r1 :: []) (n := 2066) hC (c_L_pass l hl0 (xs ((x4 + (1 : Int32))).toNatClampNeg) M) kw_L_pass wd_6_114 hIL dL_law_2063 rfl rfl rfl (Nat.le_of_ble_eq_true rfl) ⟨Nat.le_of_ble_eq_true rfl, Nat.le_of_ble_eq_true rfl⟩ ⟨by show _ ≤ (601024 : Nat); omega, by show _ ≤ (7293034 : Nat); omega⟩ (fun _ => rfl) rfl (fun r1 M1 _ => ?_)
  refine hz_istore (L' := [(5, .int r1), (0, .ref b), (1, .ref (adr 12 0)), (2, .ref (adr 13 0)), (3, .ref (adr 13 10)), (4, .int x4)]) (n := 2068) hC dL_law_2066 (by decide) rfl rfl ?_
  refine hz_aload_n (a := 3) (n := 2069) hC dL_law_2068 rfl rfl rfl ?_
  refine hz_aload_n (a := 1) (n := 2070) hC dL_law_2069 rfl rfl rfl ?_
  refine hz_iload (a := 5) (n := 2072) hC dL_law_2070 rfl rfl ?_
  refine hz_iconst (v := (1 : Int32)) (n := 2073) hC dL_law_2072 (by decide +kernel) rfl ?_
  refine hz_iadd (n := 2074) hC dL_law_2073 rfl ?_
  refine hz_sld (n := 2075) hC hX hbl hbA dL_law_2074 rfl ?_
  refine hz_callV (k := 1) (As := [.int (xs ((x4 + (1 : Int32))).toNatClampNeg)]) (st := []) (S1 := fun r => .int r :: []) (n := 2078) hC (c_X9_pass l (xs ((x4 + (1 : Int32))).toNatClampNeg)   M1) kv_X9_pass wd_8_168 hIL.2.1 dL_law_2075 rfl (hIL.2.1 0 (by decide)) he_X9 rfl rfl rfl (Nat.le_of_ble_eq_true rfl) ⟨Nat.le_of_ble_eq_true rfl, Nat.le_of_ble_eq_true rfl⟩ ⟨by show _ ≤ (601024 : Nat); omega, by show _ ≤ (7293034 : Nat); omega⟩ (fun _ => rfl) rfl (fun r2 M2 _ => ?_)
  refine hz_istore (L' := [(6, .int r2), (5, .int r1), (0, .ref b), (1, .ref (adr 12 0)), (2, .ref (adr 13 0)), (3, .ref (adr 13 10)), (4, .int x4)]) (n := 2080) hC dL_law_2078 (by decide) rfl rfl ?_
  refine hz_aload_n (a := 4) (n := 2081) hC dL_law_2080 rfl rfl rfl ?_
  refine hz_callV (k := 0) (As := []) (st := []) (S1 := fun r => .int r :: []) (n := 2084) hC (c_X9_thrown l    M2) kv_X9_thrown wd_7_165 hIL.2.1 dL_law_2081 rfl (hIL.2.1 0 (by decide)) he_X9 rfl rfl rfl (Nat.le_of_ble_eq_true rfl) ⟨Nat.le_of_ble_eq_true rfl, Nat.le_of_ble_eq_true rfl⟩ ⟨by show _ ≤ (601024 : Nat); omega, by show _ ≤ (7293034 : Nat); omega⟩ (fun _ => rfl) rfl (fun r3 M3 _ => ?_)
  refine hz_iload (a := 1) (n := 2086) hC dL_law_2084 rfl rfl ?_
  refine hz_icmp_eq (tgt := 2091) (n := 2089) hC dL_law_2086 (by decide) rfl (fun _ => ?_) (fun _ => ?_)
  · refine hz_iload (a := 1) (n := 2093) hC dL_law_2091 rfl rfl ?_
    refine hz_if_ne (tgt := 2108) (n := 2096) hC dL_law_2093 (by decide) rfl (fun _ => ?_) (fun _ => ?_)
    · refine hz_aload_n (a := 5) (n := 2097) hC dL_law_2096 rfl rfl rfl ?_
      refine hz_iconst (v := (0 : Int32)) (n := 2098) hC dL_law_2097 (by decide +kernel) rfl ?_
      refine hz_lald13 (n := 2099) hC dL_law_2098 hIL.2.2 rfl ?_
      refine hz_iload (a := 0) (n := 2101) hC dL_law_2099 rfl rfl ?_
      refine hz_i2l (n := 2102) hC dL_law_2101 rfl ?_
      refine hz_lcmp (n := 2103) hC dL_law_2102 rfl ?_
      refine hz_if_eq (tgt := 2108) (n := 2106) hC dL_law_2103 (by decide) rfl (fun _ => ?_) (fun _ => ?_)
      · refine hz_goto (n := 2257) hC dL_law_2108 (by decide) ?_
        refine hz_L (L' := [(0, .ref b), (1, .ref (adr 12 0)), (2, .ref (adr 13 0)), (3, .ref (adr 13 10)), (4, .int x4)]) [2, 3, 4, 5, 6] rfl ?_
        exact hz_widen (k0 := cells + 45) (s0 := slots + 9000) ⟨by omega, by omega⟩ (kk M3 adr hp_sim.rf)
      · exact hz_none hC
    · refine hz_goto (n := 2257) hC dL_law_2108 (by decide) ?_
      refine hz_L (L' := [(0, .ref b), (1, .ref (adr 12 0)), (2, .ref (adr 13 0)), (3, .ref (adr 13 10)), (4, .int x4)]) [2, 3, 4, 5, 6] rfl ?_
      exact hz_widen (k0 := cells + 45) (s0 := slots + 9000) ⟨by omega, by omega⟩ (kk M3 adr hp_sim.rf)
  · exact hz_none hC
def C_law_36 {α : Type} (N : Nat) (xs : Nat → Int32) (x4 : Int32) (K : hp_M → Option α) (M : hp_M) : Option α := (hp_b (F_X8_undo M) (fun r1 M1 => (hp_b (F_X9_undo M1) (fun r2 M2 => (if r1 = r2 then (K M2) else none)))))
set_option maxRecDepth 20000 in
set_option maxHeartbeats 4000000 in
theorem z_law_36 {p : Program} {l : Launch} {e : Env} {s : State} {m : MethodId} {args : Array Value} {below : List Frame} {meth : Method} {c : Code} {A : Nat → Prop} {D : va_G} {ids : List (Nat × Nat)} {adr : Nat → Nat → Nat} {adV cA : Nat → Nat} {Q : State → Prop} {α : Type} {G0 : Option α} {b N : Nat} {xs : Nat → Int32} (hl0 : l.stackTraces = false) (hIL : hp_IL ids) (hC : hp_Cx p s m meth c cL_law 9 "HallPhoneLaw" A D adV cA G0) (hX : va_X b N xs s s.heap) (hbl : b < s.heap.size) (hbA : ¬ A b) (x4 : Int32) (K : hp_M → Option α) (M : hp_M) (cells slots : Nat) (hcs : cells + 45 ≤ 601024 ∧ slots + 9000 ≤ 7293034) (kk : ∀ (M' : hp_M) (adr' : Nat → Nat → Nat), hp_sim adr adr' → hp_Z p l e room_1 s m args below meth c 9 A D ids adr' adV cA (cells + 45) (slots + 9000) Q G0 none 2257 [(0, .ref b), (1, .ref (adr' 12 0)), (2, .ref (adr' 13 0)), (3, .ref (adr' 13 10)), (4, .int x4)] [] M' (K M')) : hp_Z p l e room_1 s m args below meth c 9 A D ids adr adV cA cells slots Q G0 none 2111 [(0, .ref b), (1, .ref (adr 12 0)), (2, .ref (adr 13 0)), (3, .ref (adr 13 10)), (4, .int x4)] [] M (C_law_36 N xs x4 K M) := by
  have hIB := hIL.1
  have hI := hIB.1
  unfold C_law_36
  refine hz_aload_n (a := 1) (n := 2112) hC dL_law_2111 rfl rfl rfl ?_
  refine hz_callV (k := 0) (As := []) (st := []) (S1 := fun r => .int r :: []) (n := 2115) hC (c_X8_undo l    M) kv_X8_undo wd_5_43 hI dL_law_2112 rfl (hI.2 0 (by decide)) he_X8 rfl rfl rfl (Nat.le_of_ble_eq_true rfl) ⟨Nat.le_of_ble_eq_true rfl, Nat.le_of_ble_eq_true rfl⟩ ⟨by show _ ≤ (601024 : Nat); omega, by show _ ≤ (7293034 : Nat); omega⟩ (fun _ => rfl) rfl (fun r1 M1 _ => ?_)
  refine hz_aload_n (a := 2) (n := 2116) hC dL_law_2115 rfl rfl rfl ?_
  refine hz_callV (k := 0) (As := []) (st := [.int r1]) (S1 := fun r => .int r :: [.int r1]) (n := 2119) hC (c_X9_undo l    M1) kv_X9_undo wd_8_172 hIL.2.1 dL_law_2116 rfl (hIL.2.1 0 (by decide)) he_X9 rfl rfl rfl (Nat.le_of_ble_eq_true rfl) ⟨Nat.le_of_ble_eq_true rfl, Nat.le_of_ble_eq_true rfl⟩ ⟨by show _ ≤ (601024 : Nat); omega, by show _ ≤ (7293034 : Nat); omega⟩ (fun _ => rfl) rfl (fun r2 M2 _ => ?_)
  refine hz_icmp_eq (tgt := 2257) (n := 2122) hC dL_law_2119 (by decide) rfl (fun _ => ?_) (fun _ => ?_)
  · refine hz_L (L' := [(0, .ref b), (1, .ref (adr 12 0)), (2, .ref (adr 13 0)), (3, .ref (adr 13 10)), (4, .int x4)]) [0, 1, 2, 3, 4] rfl ?_
    exact hz_widen (k0 := cells + 45) (s0 := slots + 9000) ⟨by omega, by omega⟩ (kk M2 adr hp_sim.rf)
  · exact hz_none hC
def C_law_37 {α : Type} (N : Nat) (xs : Nat → Int32) (x4 : Int32) (K : hp_M → Option α) (M : hp_M) : Option α := (if (x4 + (1 : Int32)) < 0 ∨ N ≤ ((x4 + (1 : Int32))).toNatClampNeg then none else (hp_b (F_L_saveSnapshot (xs ((x4 + (1 : Int32))).toNatClampNeg) M) (fun r1 M1 => (if (x4 + (1 : Int32)) < 0 ∨ N ≤ ((x4 + (1 : Int32))).toNatClampNeg then none else (hp_b (F_X9_saveSnapshot (xs ((x4 + (1 : Int32))).toNatClampNeg) M1) (fun r2 M2 => (hp_b (F_X9_thrown M2) (fun r3 M3 => (if r3 = r1 then (if r1 = 0 then (if r2 = 0 then (if (lg_cmp ((M3 13 10 0).toInt64) (0 : Int64)) = 0 then (K M3) else none) else (if (lg_cmp ((M3 13 10 0).toInt64) (1 : Int64)) = 0 then (K M3) else none)) else (K M3)) else none)))))))))
set_option maxRecDepth 20000 in
set_option maxHeartbeats 4000000 in
theorem z_law_37 {p : Program} {l : Launch} {e : Env} {s : State} {m : MethodId} {args : Array Value} {below : List Frame} {meth : Method} {c : Code} {A : Nat → Prop} {D : va_G} {ids : List (Nat × Nat)} {adr : Nat → Nat → Nat} {adV cA : Nat → Nat} {Q : State → Prop} {α : Type} {G0 : Option α} {b N : Nat} {xs : Nat → Int32} (hl0 : l.stackTraces = false) (hIL : hp_IL ids) (hC : hp_Cx p s m meth c cL_law 9 "HallPhoneLaw" A D adV cA G0) (hX : va_X b N xs s s.heap) (hbl : b < s.heap.size) (hbA : ¬ A b) (x4 : Int32) (K : hp_M → Option α) (M : hp_M) (cells slots : Nat) (hcs : cells + 45 ≤ 601024 ∧ slots + 9000 ≤ 7293034) (kk : ∀ (M' : hp_M) (adr' : Nat → Nat → Nat), hp_sim adr adr' → hp_Z p l e room_1 s m args below meth c 9 A D ids adr' adV cA (cells + 45) (slots + 9000) Q G0 none 2257 [(0, .ref b), (1, .ref (adr' 12 0)), (2, .ref (adr' 13 0)), (3, .ref (adr' 13 10)), (4, .int x4)] [] M' (K M')) : hp_Z p l e room_1 s m args below meth c 9 A D ids adr adV cA cells slots Q G0 none 2124 [(0, .ref b), (1, .ref (adr 12 0)), (2, .ref (adr 13 0)), (3, .ref (adr 13 10)), (4, .int x4)] [] M (C_law_37 N xs x4 K M) := by
  have hIB := hIL.1
  have hI := hIB.1
  unfold C_law_37
  refine hz_aload_n (a := 1) (n := 2125) hC dL_law_2124 rfl rfl rfl ?_
  refine hz_aload_n (a := 0) (n := 2126) hC dL_law_2125 rfl rfl rfl ?_
  refine hz_iload (a := 4) (n := 2128) hC dL_law_2126 rfl rfl ?_
  refine hz_iconst (v := (1 : Int32)) (n := 2129) hC dL_law_2128 (by decide +kernel) rfl ?_
  refine hz_iadd (n := 2130) hC dL_law_2129 rfl ?_
  refine hz_sld (n := 2131) hC hX hbl hbA dL_law_2130 rfl ?_
  refine hz_aload_n (a := 3) (n := 2132) hC dL_law_2131 rfl rfl rfl ?_
  refine hz_callSW (k := 3) (As := [.ref (adr 12 0), .int (xs ((x4 + (1 : Int32))).toNatClampNeg), .ref (adr 13 10)]) (st := []) (S1 := fun r1 => .int r1 :: []) (n := 2135) hC (c_L_saveSnapshot l hl0 (xs ((x4 + (1 : Int32))).toNatClampNeg) M) kw_L_saveSnapshot wd_6_123 hIL dL_law_2132 rfl rfl rfl (Nat.le_of_ble_eq_true rfl) ⟨Nat.le_of_ble_eq_true rfl, Nat.le_of_ble_eq_true rfl⟩ ⟨by show _ ≤ (601024 : Nat); omega, by show _ ≤ (7293034 : Nat); omega⟩ (fun _ => rfl) rfl (fun r1 M1 _ => ?_)
  refine hz_istore (L' := [(5, .int r1), (0, .ref b), (1, .ref (adr 12 0)), (2, .ref (adr 13 0)), (3, .ref (adr 13 10)), (4, .int x4)]) (n := 2137) hC dL_law_2135 (by decide) rfl rfl ?_
  refine hz_aload_n (a := 3) (n := 2138) hC dL_law_2137 rfl rfl rfl ?_
  refine hz_aload_n (a := 1) (n := 2139) hC dL_law_2138 rfl rfl rfl ?_
  refine hz_iload (a := 5) (n := 2141) hC dL_law_2139 rfl rfl ?_
  refine hz_iconst (v := (1 : Int32)) (n := 2142) hC dL_law_2141 (by decide +kernel) rfl ?_
  refine hz_iadd (n := 2143) hC dL_law_2142 rfl ?_
  refine hz_sld (n := 2144) hC hX hbl hbA dL_law_2143 rfl ?_
  refine hz_callV (k := 1) (As := [.int (xs ((x4 + (1 : Int32))).toNatClampNeg)]) (st := []) (S1 := fun r => .int r :: []) (n := 2147) hC (c_X9_saveSnapshot l (xs ((x4 + (1 : Int32))).toNatClampNeg)   M1) kv_X9_saveSnapshot wd_8_176 hIL.2.1 dL_law_2144 rfl (hIL.2.1 0 (by decide)) he_X9 rfl rfl rfl (Nat.le_of_ble_eq_true rfl) ⟨Nat.le_of_ble_eq_true rfl, Nat.le_of_ble_eq_true rfl⟩ ⟨by show _ ≤ (601024 : Nat); omega, by show _ ≤ (7293034 : Nat); omega⟩ (fun _ => rfl) rfl (fun r2 M2 _ => ?_)
  refine hz_istore (L' := [(6, .int r2), (5, .int r1), (0, .ref b), (1, .ref (adr 12 0)), (2, .ref (adr 13 0)), (3, .ref (adr 13 10)), (4, .int x4)]) (n := 2149) hC dL_law_2147 (by decide) rfl rfl ?_
  refine hz_aload_n (a := 4) (n := 2150) hC dL_law_2149 rfl rfl rfl ?_
  refine hz_callV (k := 0) (As := []) (st := []) (S1 := fun r => .int r :: []) (n := 2153) hC (c_X9_thrown l    M2) kv_X9_thrown wd_7_165 hIL.2.1 dL_law_2150 rfl (hIL.2.1 0 (by decide)) he_X9 rfl rfl rfl (Nat.le_of_ble_eq_true rfl) ⟨Nat.le_of_ble_eq_true rfl, Nat.le_of_ble_eq_true rfl⟩ ⟨by show _ ≤ (601024 : Nat); omega, by show _ ≤ (7293034 : Nat); omega⟩ (fun _ => rfl) rfl (fun r3 M3 _ => ?_)
  refine hz_iload (a := 1) (n := 2155) hC dL_law_2153 rfl rfl ?_
  refine hz_icmp_eq (tgt := 2160) (n := 2158) hC dL_law_2155 (by decide) rfl (fun _ => ?_) (fun _ => ?_)
  · refine hz_iload (a := 1) (n := 2162) hC dL_law_2160 rfl rfl ?_
    refine hz_if_ne (tgt := 2184) (n := 2165) hC dL_law_2162 (by decide) rfl (fun _ => ?_) (fun _ => ?_)
    · refine hz_aload_n (a := 5) (n := 2166) hC dL_law_2165 rfl rfl rfl ?_
      refine hz_iconst (v := (0 : Int32)) (n := 2167) hC dL_law_2166 (by decide +kernel) rfl ?_
      refine hz_lald13 (n := 2168) hC dL_law_2167 hIL.2.2 rfl ?_
      refine hz_iload (a := 0) (n := 2170) hC dL_law_2168 rfl rfl ?_
      refine hz_if_eq (tgt := 2177) (n := 2173) hC dL_law_2170 (by decide) rfl (fun _ => ?_) (fun _ => ?_)
      · refine hz_lconst (v := (0 : Int64)) (n := 2178) hC dL_law_2177 (by decide +kernel) rfl ?_
        refine hz_lcmp (n := 2179) hC dL_law_2178 rfl ?_
        refine hz_if_eq (tgt := 2184) (n := 2182) hC dL_law_2179 (by decide) rfl (fun _ => ?_) (fun _ => ?_)
        · refine hz_goto (n := 2257) hC dL_law_2184 (by decide) ?_
          refine hz_L (L' := [(0, .ref b), (1, .ref (adr 12 0)), (2, .ref (adr 13 0)), (3, .ref (adr 13 10)), (4, .int x4)]) [2, 3, 4, 5, 6] rfl ?_
          exact hz_widen (k0 := cells + 45) (s0 := slots + 9000) ⟨by omega, by omega⟩ (kk M3 adr hp_sim.rf)
        · exact hz_none hC
      · refine hz_lconst (v := (1 : Int64)) (n := 2174) hC dL_law_2173 (by decide +kernel) rfl ?_
        refine hz_goto (n := 2178) hC dL_law_2174 (by decide) ?_
        refine hz_lcmp (n := 2179) hC dL_law_2178 rfl ?_
        refine hz_if_eq (tgt := 2184) (n := 2182) hC dL_law_2179 (by decide) rfl (fun _ => ?_) (fun _ => ?_)
        · refine hz_goto (n := 2257) hC dL_law_2184 (by decide) ?_
          refine hz_L (L' := [(0, .ref b), (1, .ref (adr 12 0)), (2, .ref (adr 13 0)), (3, .ref (adr 13 10)), (4, .int x4)]) [2, 3, 4, 5, 6] rfl ?_
          exact hz_widen (k0 := cells + 45) (s0 := slots + 9000) ⟨by omega, by omega⟩ (kk M3 adr hp_sim.rf)
        · exact hz_none hC
    · refine hz_goto (n := 2257) hC dL_law_2184 (by decide) ?_
      refine hz_L (L' := [(0, .ref b), (1, .ref (adr 12 0)), (2, .ref (adr 13 0)), (3, .ref (adr 13 10)), (4, .int x4)]) [2, 3, 4, 5, 6] rfl ?_
      exact hz_widen (k0 := cells + 45) (s0 := slots + 9000) ⟨by omega, by omega⟩ (kk M3 adr hp_sim.rf)
  · exact hz_none hC
def C_law_38 {α : Type} (N : Nat) (xs : Nat → Int32) (x4 : Int32) (K : hp_M → Option α) (M : hp_M) : Option α := (if (x4 + (1 : Int32)) < 0 ∨ N ≤ ((x4 + (1 : Int32))).toNatClampNeg then none else (hp_b (F_L_restoreSnapshot (xs ((x4 + (1 : Int32))).toNatClampNeg) M) (fun r1 M1 => (if (x4 + (1 : Int32)) < 0 ∨ N ≤ ((x4 + (1 : Int32))).toNatClampNeg then none else (hp_b (F_X9_restoreSnapshot (xs ((x4 + (1 : Int32))).toNatClampNeg) M1) (fun r2 M2 => (hp_b (F_X9_thrown M2) (fun r3 M3 => (if r3 = r1 then (if r1 = 0 then (if (lg_cmp ((M3 13 10 0).toInt64) ((r2).toInt64)) = 0 then (K M3) else none) else (K M3)) else none)))))))))
set_option maxRecDepth 20000 in
set_option maxHeartbeats 4000000 in
theorem z_law_38 {p : Program} {l : Launch} {e : Env} {s : State} {m : MethodId} {args : Array Value} {below : List Frame} {meth : Method} {c : Code} {A : Nat → Prop} {D : va_G} {ids : List (Nat × Nat)} {adr : Nat → Nat → Nat} {adV cA : Nat → Nat} {Q : State → Prop} {α : Type} {G0 : Option α} {b N : Nat} {xs : Nat → Int32} (hl0 : l.stackTraces = false) (hIL : hp_IL ids) (hC : hp_Cx p s m meth c cL_law 9 "HallPhoneLaw" A D adV cA G0) (hX : va_X b N xs s s.heap) (hbl : b < s.heap.size) (hbA : ¬ A b) (x4 : Int32) (K : hp_M → Option α) (M : hp_M) (cells slots : Nat) (hcs : cells + 45 ≤ 601024 ∧ slots + 9000 ≤ 7293034) (kk : ∀ (M' : hp_M) (adr' : Nat → Nat → Nat), hp_sim adr adr' → hp_Z p l e room_1 s m args below meth c 9 A D ids adr' adV cA (cells + 45) (slots + 9000) Q G0 none 2257 [(0, .ref b), (1, .ref (adr' 12 0)), (2, .ref (adr' 13 0)), (3, .ref (adr' 13 10)), (4, .int x4)] [] M' (K M')) : hp_Z p l e room_1 s m args below meth c 9 A D ids adr adV cA cells slots Q G0 none 2187 [(0, .ref b), (1, .ref (adr 12 0)), (2, .ref (adr 13 0)), (3, .ref (adr 13 10)), (4, .int x4)] [] M (C_law_38 N xs x4 K M) := by
  have hIB := hIL.1
  have hI := hIB.1
  unfold C_law_38
  refine hz_aload_n (a := 1) (n := 2188) hC dL_law_2187 rfl rfl rfl ?_
  refine hz_aload_n (a := 0) (n := 2189) hC dL_law_2188 rfl rfl rfl ?_
  refine hz_iload (a := 4) (n := 2191) hC dL_law_2189 rfl rfl ?_
  refine hz_iconst (v := (1 : Int32)) (n := 2192) hC dL_law_2191 (by decide +kernel) rfl ?_
  refine hz_iadd (n := 2193) hC dL_law_2192 rfl ?_
  refine hz_sld (n := 2194) hC hX hbl hbA dL_law_2193 rfl ?_
  refine hz_aload_n (a := 3) (n := 2195) hC dL_law_2194 rfl rfl rfl ?_
  refine hz_callSW (k := 3) (As := [.ref (adr 12 0), .int (xs ((x4 + (1 : Int32))).toNatClampNeg), .ref (adr 13 10)]) (st := []) (S1 := fun r1 => .int r1 :: []) (n := 2198) hC (c_L_restoreSnapshot l hl0 (xs ((x4 + (1 : Int32))).toNatClampNeg) M) kw_L_restoreSnapshot wd_6_138 hIL dL_law_2195 rfl rfl rfl (Nat.le_of_ble_eq_true rfl) ⟨Nat.le_of_ble_eq_true rfl, Nat.le_of_ble_eq_true rfl⟩ ⟨by show _ ≤ (601024 : Nat); omega, by show _ ≤ (7293034 : Nat); omega⟩ (fun _ => rfl) rfl (fun r1 M1 _ => ?_)
  refine hz_istore (L' := [(5, .int r1), (0, .ref b), (1, .ref (adr 12 0)), (2, .ref (adr 13 0)), (3, .ref (adr 13 10)), (4, .int x4)]) (n := 2200) hC dL_law_2198 (by decide) rfl rfl ?_
  refine hz_aload_n (a := 3) (n := 2201) hC dL_law_2200 rfl rfl rfl ?_
  refine hz_aload_n (a := 1) (n := 2202) hC dL_law_2201 rfl rfl rfl ?_
  refine hz_iload (a := 5) (n := 2204) hC dL_law_2202 rfl rfl ?_
  refine hz_iconst (v := (1 : Int32)) (n := 2205) hC dL_law_2204 (by decide +kernel) rfl ?_
  refine hz_iadd (n := 2206) hC dL_law_2205 rfl ?_
  refine hz_sld (n := 2207) hC hX hbl hbA dL_law_2206 rfl ?_
  refine hz_callV (k := 1) (As := [.int (xs ((x4 + (1 : Int32))).toNatClampNeg)]) (st := []) (S1 := fun r => .int r :: []) (n := 2210) hC (c_X9_restoreSnapshot l (xs ((x4 + (1 : Int32))).toNatClampNeg)   M1) kv_X9_restoreSnapshot wd_8_180 hIL.2.1 dL_law_2207 rfl (hIL.2.1 0 (by decide)) he_X9 rfl rfl rfl (Nat.le_of_ble_eq_true rfl) ⟨Nat.le_of_ble_eq_true rfl, Nat.le_of_ble_eq_true rfl⟩ ⟨by show _ ≤ (601024 : Nat); omega, by show _ ≤ (7293034 : Nat); omega⟩ (fun _ => rfl) rfl (fun r2 M2 _ => ?_)
  refine hz_istore (L' := [(6, .int r2), (5, .int r1), (0, .ref b), (1, .ref (adr 12 0)), (2, .ref (adr 13 0)), (3, .ref (adr 13 10)), (4, .int x4)]) (n := 2212) hC dL_law_2210 (by decide) rfl rfl ?_
  refine hz_aload_n (a := 4) (n := 2213) hC dL_law_2212 rfl rfl rfl ?_
  refine hz_callV (k := 0) (As := []) (st := []) (S1 := fun r => .int r :: []) (n := 2216) hC (c_X9_thrown l    M2) kv_X9_thrown wd_7_165 hIL.2.1 dL_law_2213 rfl (hIL.2.1 0 (by decide)) he_X9 rfl rfl rfl (Nat.le_of_ble_eq_true rfl) ⟨Nat.le_of_ble_eq_true rfl, Nat.le_of_ble_eq_true rfl⟩ ⟨by show _ ≤ (601024 : Nat); omega, by show _ ≤ (7293034 : Nat); omega⟩ (fun _ => rfl) rfl (fun r3 M3 _ => ?_)
  refine hz_iload (a := 1) (n := 2218) hC dL_law_2216 rfl rfl ?_
  refine hz_icmp_eq (tgt := 2223) (n := 2221) hC dL_law_2218 (by decide) rfl (fun _ => ?_) (fun _ => ?_)
  · refine hz_iload (a := 1) (n := 2225) hC dL_law_2223 rfl rfl ?_
    refine hz_if_ne (tgt := 2240) (n := 2228) hC dL_law_2225 (by decide) rfl (fun _ => ?_) (fun _ => ?_)
    · refine hz_aload_n (a := 5) (n := 2229) hC dL_law_2228 rfl rfl rfl ?_
      refine hz_iconst (v := (0 : Int32)) (n := 2230) hC dL_law_2229 (by decide +kernel) rfl ?_
      refine hz_lald13 (n := 2231) hC dL_law_2230 hIL.2.2 rfl ?_
      refine hz_iload (a := 0) (n := 2233) hC dL_law_2231 rfl rfl ?_
      refine hz_i2l (n := 2234) hC dL_law_2233 rfl ?_
      refine hz_lcmp (n := 2235) hC dL_law_2234 rfl ?_
      refine hz_if_eq (tgt := 2240) (n := 2238) hC dL_law_2235 (by decide) rfl (fun _ => ?_) (fun _ => ?_)
      · refine hz_goto (n := 2257) hC dL_law_2240 (by decide) ?_
        refine hz_L (L' := [(0, .ref b), (1, .ref (adr 12 0)), (2, .ref (adr 13 0)), (3, .ref (adr 13 10)), (4, .int x4)]) [2, 3, 4, 5, 6] rfl ?_
        exact hz_widen (k0 := cells + 45) (s0 := slots + 9000) ⟨by omega, by omega⟩ (kk M3 adr hp_sim.rf)
      · exact hz_none hC
    · refine hz_goto (n := 2257) hC dL_law_2240 (by decide) ?_
      refine hz_L (L' := [(0, .ref b), (1, .ref (adr 12 0)), (2, .ref (adr 13 0)), (3, .ref (adr 13 10)), (4, .int x4)]) [2, 3, 4, 5, 6] rfl ?_
      exact hz_widen (k0 := cells + 45) (s0 := slots + 9000) ⟨by omega, by omega⟩ (kk M3 adr hp_sim.rf)
  · exact hz_none hC
def C_law_39 {α : Type} (N : Nat) (xs : Nat → Int32) (x4 : Int32) (K : hp_M → Option α) (M : hp_M) : Option α := (hp_b (F_X8_checksum M) (fun r1 M1 => (hp_b (F_X9_checksum M1) (fun r2 M2 => (if (lg_cmp r1 r2) = 0 then (K M2) else none)))))
set_option maxRecDepth 20000 in
set_option maxHeartbeats 4000000 in
theorem z_law_39 {p : Program} {l : Launch} {e : Env} {s : State} {m : MethodId} {args : Array Value} {below : List Frame} {meth : Method} {c : Code} {A : Nat → Prop} {D : va_G} {ids : List (Nat × Nat)} {adr : Nat → Nat → Nat} {adV cA : Nat → Nat} {Q : State → Prop} {α : Type} {G0 : Option α} {b N : Nat} {xs : Nat → Int32} (hl0 : l.stackTraces = false) (hIL : hp_IL ids) (hC : hp_Cx p s m meth c cL_law 9 "HallPhoneLaw" A D adV cA G0) (hX : va_X b N xs s s.heap) (hbl : b < s.heap.size) (hbA : ¬ A b) (x4 : Int32) (K : hp_M → Option α) (M : hp_M) (cells slots : Nat) (hcs : cells + 45 ≤ 601024 ∧ slots + 9000 ≤ 7293034) (kk : ∀ (M' : hp_M) (adr' : Nat → Nat → Nat), hp_sim adr adr' → hp_Z p l e room_1 s m args below meth c 9 A D ids adr' adV cA (cells + 45) (slots + 9000) Q G0 none 2257 [(0, .ref b), (1, .ref (adr' 12 0)), (2, .ref (adr' 13 0)), (3, .ref (adr' 13 10)), (4, .int x4)] [] M' (K M')) : hp_Z p l e room_1 s m args below meth c 9 A D ids adr adV cA cells slots Q G0 none 2243 [(0, .ref b), (1, .ref (adr 12 0)), (2, .ref (adr 13 0)), (3, .ref (adr 13 10)), (4, .int x4)] [] M (C_law_39 N xs x4 K M) := by
  have hIB := hIL.1
  have hI := hIB.1
  unfold C_law_39
  refine hz_aload_n (a := 1) (n := 2244) hC dL_law_2243 rfl rfl rfl ?_
  refine hz_callV (k := 0) (As := []) (st := []) (S1 := fun r => .long r :: []) (n := 2247) hC (c_X8_checksum l    M) kv_X8_checksum wd_5_52 hI dL_law_2244 rfl (hI.2 0 (by decide)) he_X8 rfl rfl rfl (Nat.le_of_ble_eq_true rfl) ⟨Nat.le_of_ble_eq_true rfl, Nat.le_of_ble_eq_true rfl⟩ ⟨by show _ ≤ (601024 : Nat); omega, by show _ ≤ (7293034 : Nat); omega⟩ (fun _ => rfl) rfl (fun r1 M1 _ => ?_)
  refine hz_aload_n (a := 2) (n := 2248) hC dL_law_2247 rfl rfl rfl ?_
  refine hz_callV (k := 0) (As := []) (st := [.long r1]) (S1 := fun r => .long r :: [.long r1]) (n := 2251) hC (c_X9_checksum l    M1) kv_X9_checksum wd_8_184 hIL.2.1 dL_law_2248 rfl (hIL.2.1 0 (by decide)) he_X9 rfl rfl rfl (Nat.le_of_ble_eq_true rfl) ⟨Nat.le_of_ble_eq_true rfl, Nat.le_of_ble_eq_true rfl⟩ ⟨by show _ ≤ (601024 : Nat); omega, by show _ ≤ (7293034 : Nat); omega⟩ (fun _ => rfl) rfl (fun r2 M2 _ => ?_)
  refine hz_lcmp (n := 2252) hC dL_law_2251 rfl ?_
  refine hz_if_eq (tgt := 2257) (n := 2255) hC dL_law_2252 (by decide) rfl (fun _ => ?_) (fun _ => ?_)
  · refine hz_L (L' := [(0, .ref b), (1, .ref (adr 12 0)), (2, .ref (adr 13 0)), (3, .ref (adr 13 10)), (4, .int x4)]) [0, 1, 2, 3, 4] rfl ?_
    exact hz_widen (k0 := cells + 45) (s0 := slots + 9000) ⟨by omega, by omega⟩ (kk M2 adr hp_sim.rf)
  · exact hz_none hC
