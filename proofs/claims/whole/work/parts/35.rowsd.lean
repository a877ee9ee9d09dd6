abbrev hp_od : hp_ov UInt64 := fun _ _ r => some (.double r)
abbrev hp_of : hp_ov UInt32 := fun _ _ r => some (.float r)
section HPD
variable {p : Program} {l : Launch} {e : Env} {R : Room} {s : State} {m : MethodId} {args : Array Value} {below : List Frame} {meth : Method} {c : Code} {cells slots : Nat} {Q : State → Prop}
variable {cc : ByteArray} {nL : Nat} {own : String} {A : Nat → Prop} {D : va_G} {ids : List (Nat × Nat)} {adr : Nat → Nat → Nat} {adV cA : Nat → Nat} {α : Type} {G0 G : Option α} {M : hp_M} {rep : hp_T} {pc n : Nat} {L : List (Nat × Value)} {st : List Value}
theorem hz_i2d (hC : hp_Cx p s m meth c cc nL own A D adV cA G0) {x : Int32} (hdg : decode cc pc = .ok (.i2d, 1)) (hn : pc + 1 = n) (k : hp_Z p l e R s m args below meth c nL A D ids adr adV cA cells slots Q G0 rep n L (.double (FP.i2d x) :: st) M G) : hp_Z p l e R s m args below meth c nL A D ids adr adV cA cells slots Q G0 rep pc L (.int x :: st) M G := by
  subst hn
  exact fun H locs ls hG hW hS hL => lv_i2d hC.1 hC.2.1 hdg (k H locs ls hG hW hS hL)
theorem hz_i2f (hC : hp_Cx p s m meth c cc nL own A D adV cA G0) {x : Int32} (hdg : decode cc pc = .ok (.i2f, 1)) (hn : pc + 1 = n) (k : hp_Z p l e R s m args below meth c nL A D ids adr adV cA cells slots Q G0 rep n L (.float (FP.i2f x) :: st) M G) : hp_Z p l e R s m args below meth c nL A D ids adr adV cA cells slots Q G0 rep pc L (.int x :: st) M G := by
  subst hn
  exact fun H locs ls hG hW hS hL => lv_i2f hC.1 hC.2.1 hdg (k H locs ls hG hW hS hL)
theorem hz_dconst0 (hC : hp_Cx p s m meth c cc nL own A D adV cA G0)  (hdg : decode cc pc = .ok (.dconst 0, 1)) (hn : pc + 1 = n) (k : hp_Z p l e R s m args below meth c nL A D ids adr adV cA cells slots Q G0 rep n L (.double FP.dconst0 :: st) M G) : hp_Z p l e R s m args below meth c nL A D ids adr adV cA cells slots Q G0 rep pc L st M G := by
  subst hn
  exact fun H locs ls hG hW hS hL => lv_dconst0 hC.1 hC.2.1 hdg (k H locs ls hG hW hS hL)
theorem hz_fconst0 (hC : hp_Cx p s m meth c cc nL own A D adV cA G0)  (hdg : decode cc pc = .ok (.fconst 0, 1)) (hn : pc + 1 = n) (k : hp_Z p l e R s m args below meth c nL A D ids adr adV cA cells slots Q G0 rep n L (.float FP.fconst0 :: st) M G) : hp_Z p l e R s m args below meth c nL A D ids adr adV cA cells slots Q G0 rep pc L st M G := by
  subst hn
  exact fun H locs ls hG hW hS hL => lv_fconst0 hC.1 hC.2.1 hdg (k H locs ls hG hW hS hL)
theorem hz_ddiv (hC : hp_Cx p s m meth c cc nL own A D adV cA G0) {x y : UInt64} {d : Decidable ((FP.ddiv x y) &&& 0x7fffffffffffffff ≤ 0x7ff0000000000000)} (hdg : decode cc pc = .ok (.ddiv, 1)) (hn : pc + 1 = n) (k : hp_Z p l e R s m args below meth c nL A D ids adr adV cA cells slots Q G0 rep n L (.double (FP.ddiv x y) :: st) M G) : hp_Z p l e R s m args below meth c nL A D ids adr adV cA cells slots Q G0 rep pc L (.double y :: .double x :: st) M (@ite (Option α) ((FP.ddiv x y) &&& 0x7fffffffffffffff ≤ 0x7ff0000000000000) d G none) := by
  subst hn
  exact hz_case (fun h H locs ls hG hW hS hL => lv_ddiv hC.1 hC.2.1 hdg h (k H locs ls hG hW hS hL)) (fun _ => hz_none hC)
theorem hz_fdiv (hC : hp_Cx p s m meth c cc nL own A D adV cA G0) {x y : UInt32} {d : Decidable ((FP.fdiv x y) &&& 0x7fffffff ≤ 0x7f800000)} (hdg : decode cc pc = .ok (.fdiv, 1)) (hn : pc + 1 = n) (k : hp_Z p l e R s m args below meth c nL A D ids adr adV cA cells slots Q G0 rep n L (.float (FP.fdiv x y) :: st) M G) : hp_Z p l e R s m args below meth c nL A D ids adr adV cA cells slots Q G0 rep pc L (.float y :: .float x :: st) M (@ite (Option α) ((FP.fdiv x y) &&& 0x7fffffff ≤ 0x7f800000) d G none) := by
  subst hn
  exact hz_case (fun h H locs ls hG hW hS hL => lv_fdiv hC.1 hC.2.1 hdg h (k H locs ls hG hW hS hL)) (fun _ => hz_none hC)
theorem hz_dret {G0 : Option (UInt64 × hp_M)} (hC : hp_Cx p s m meth c cc nL own A D adV cA G0) {v : UInt64} (hr : meth.sig.returnType = some .double) (hdg : decode cc pc = .ok (.dreturn, 1)) : hp_Z p l e R s m args below meth c nL A D ids adr adV cA cells slots (MQ below (hp_Q A D ids adr adV cA rep hp_od G0) args s cells slots A) G0 rep pc L [.double v] M (some (v, M)) := by
  intro H locs ls hG hW hS hL
  have hlocks := hC.2.2.2.2.2.2.1
  exact W.dret hC.1 hC.2.1 hr (fun t ht hWm => ⟨⟨v, M, rfl, hG.symm, by rw [ht]; exact hW⟩, hS.F ht⟩) hS.2.2 hdg hlocks
theorem hz_fret {G0 : Option (UInt32 × hp_M)} (hC : hp_Cx p s m meth c cc nL own A D adV cA G0) {v : UInt32} (hr : meth.sig.returnType = some .float) (hdg : decode cc pc = .ok (.freturn, 1)) : hp_Z p l e R s m args below meth c nL A D ids adr adV cA cells slots (MQ below (hp_Q A D ids adr adV cA rep hp_of G0) args s cells slots A) G0 rep pc L [.float v] M (some (v, M)) := by
  intro H locs ls hG hW hS hL
  have hlocks := hC.2.2.2.2.2.2.1
  exact W.fret hC.1 hC.2.1 hr (fun t ht hWm => ⟨⟨v, M, rfl, hG.symm, by rw [ht]; exact hW⟩, hS.F ht⟩) hS.2.2 hdg hlocks
end HPD
