section HPC
variable {p : Program} {l : Launch} {e : Env} {R : Room} {s : State} {m : MethodId} {args : Array Value} {below : List Frame} {meth : Method} {c : Code} {cells slots : Nat} {Q : State → Prop}
variable {cc : ByteArray} {nL : Nat} {own : String} {A : Nat → Prop} {D : va_G} {ids : List (Nat × Nat)} {adr : Nat → Nat → Nat} {adV cA : Nat → Nat} {M : hp_M} {rep : hp_T} {pc n : Nat} {L : List (Nat × Value)} {st : List Value}
theorem hz_cret {G0 : Option (Int32 × hp_M)} (hC : hp_Cx p s m meth c cc nL own A D adV cA G0) {v : Int32} {d : Decidable (vp_nar .char v = v)} (hr : meth.sig.returnType = some .char) (hdg : decode cc pc = .ok (.ireturn, 1)) : hp_Z p l e R s m args below meth c nL A D ids adr adV cA cells slots (MQ below (hp_Q A D ids adr adV cA rep hp_oi G0) args s cells slots A) G0 rep pc L [.int v] M (@ite (Option (Int32 × hp_M)) (vp_nar .char v = v) d (some (v, M)) none) := hz_case (fun h => hz_zret hC hr (congrArg Value.int h) hdg) (fun _ => hz_none hC)
end HPC
