/-! THE CLAIM OUT OF ONE WALK OF THE LAW'S BODY. Your part is whole_start (and what it stands on); all else here is the same for every law, but numbers. -/
def R_law : String := "HallPhoneLaw"
def lw_P (b : Addr) (xs : List Int32) (args : Array Value) (s : State) : Prop := args = #[.ref b] ∧ s.IntsAt b xs ∧ xs.length ≤ 3072 ∧ (Jvm.Cond.and given_1 narrow_1).before args s = true
/-- what a walk over the start with the record d0 says of its end, said of the start itself -/
theorem lw_closed {s t : State} {o : Outcome} {d0 : Drawn} {L : List Loc} {k n : Nat} (hd0 : s.drawn.sameBut d0 lw_cs) (hv : ∃ v, o = .returned v) (hW : (s.setDrawn d0).WarmedH t.vm) (hs : (s.setDrawn d0).sameButNew ({ t with vm := s.vm } : State) L k n) : State.butDraws s t lw_cs (fun t1 => Framed s o t1 L k n) := by
  have h2 : t.drawn = d0 := congrArg State.drawn hs.1
  refine ⟨⟨hv, hW, State.sameButNew.setDrawn hs s.drawn⟩, ?_, by decide⟩
  rw [h2]
  exact hd0
def lw_Q (_ : Array Value) (s : State) (o : Outcome) (t : State) : Prop := o = .returned (some (.int 1)) ∧ State.butDraws s t lw_cs (fun t1 => Framed s o t1 [] 601024 7293034)
def lw_Z (below : List Frame) (a : Array Value) (s : State) : State → Prop := fun t => ∃ o, t.status = .running ∧ Ended t below o ∧ lw_Q a s o t
/-- the law's own end, with 1 on the stack, nothing written that was there before, its room as the claim has it; d0: the record of draws at this point (at the entry s.drawn: begin with 'refine W.base ?_' and 'have hd0 := Drawn.sameBut.refl s.drawn lw_cs') -/
theorem lw_ret {p : Program} {l : Launch} {e : Env} {s : State} {m : MethodId} {below : List Frame} {meth : Method} {c : Code} {b : Nat} {d0 : Drawn} (hd0 : s.drawn.sameBut d0 lw_cs) (hx : p.tables.exec = Jvm.exec) (hb : c.code = code) (hr : meth.sig.returnType = ret) (hlocks : meth.locks = false) {pc : Nat} {H : Heap} {ls : Array Slot} (hdg : decode code pc = .ok (.ireturn, 1)) : W p l e room_1 (s.setDrawn d0) m #[Value.ref b] below meth c H [] 601024 7293034 (lw_Z below #[Value.ref b] s) (F0 m pc ls [.int 1]) := by
  intro T hT X
  obtain ⟨fs, hret, hrun, hended, hW, hframe⟩ := X.leave (v := some (.int 1)) (hlocks := hlocks) (fun h => by rw [hr] at h; cases h)
  have hmeth' : T.vm.method? m = some meth := X.method'
  refine ⟨T.setFrames fs, ?_, .returned (some (.int 1)), hrun, hended, rfl, lw_closed hd0 ⟨_, rfl⟩ hW hframe⟩
  jvm_step X.here [X.here.top, hx, hb, hdg, hmeth', hr, ret, narrow_b1]
  (try refine ⟨rfl, ?_⟩); (try refine ⟨rfl, ?_⟩)
  first | (intro acts; rw [hret _ acts rfl rfl rfl]) | rw [hret _ _ rfl rfl rfl]
  exact Steps.refl _
/-- what holds at the law's entry: the machine, the code, the tables' words (any of lw_tbl by 'hts w (by decide +kernel)'), the script of L ints xs at the cell b, what the Statement gives of the start (any of its parts by flat_of_before) -/
def lw_At (p : Program) (s : State) (m : MethodId) (meth : Method) (c : Code) (b L : Nat) (xs : Nat → Int32) : Prop :=
  p.tables.exec = Jvm.exec ∧ c.code = code ∧ meth.sig.returnType = ret ∧ c.maxLocals = 9 ∧ s.vm.findClass R_law = some m.cls ∧ (∀ w ∈ lw_tbl, w.before #[Value.ref b] s = true) ∧ va_X b L xs s s.heap ∧ b < s.heap.size ∧ meth.locks = false ∧ (Jvm.Cond.and given_1 narrow_1).before #[Value.ref b] s = true
/-- one call of the law's script: what the class and the reference do at it -/
def B_law {α : Type} (N : Nat) (xs : Nat → Int32) (x4 : Int32) (K : hp_M → Option α) (M : hp_M) : Option α := (if (xs x4.toNatClampNeg &&& (63 : Int32)) = (0 : Int32) then C_law_0 N xs x4 K M else (if (xs x4.toNatClampNeg &&& (63 : Int32)) = (1 : Int32) then C_law_1 N xs x4 K M else (if (xs x4.toNatClampNeg &&& (63 : Int32)) = (2 : Int32) then C_law_2 N xs x4 K M else (if (xs x4.toNatClampNeg &&& (63 : Int32)) = (3 : Int32) then C_law_3 N xs x4 K M else (if (xs x4.toNatClampNeg &&& (63 : Int32)) = (4 : Int32) then C_law_4 N xs x4 K M else (if (xs x4.toNatClampNeg &&& (63 : Int32)) = (5 : Int32) then C_law_5 N xs x4 K M else (if (xs x4.toNatClampNeg &&& (63 : Int32)) = (6 : Int32) then C_law_6 N xs x4 K M else (if (xs x4.toNatClampNeg &&& (63 : Int32)) = (7 : Int32) then C_law_7 N xs x4 K M else (if (xs x4.toNatClampNeg &&& (63 : Int32)) = (8 : Int32) then C_law_8 N xs x4 K M else (if (xs x4.toNatClampNeg &&& (63 : Int32)) = (9 : Int32) then C_law_9 N xs x4 K M else (if (xs x4.toNatClampNeg &&& (63 : Int32)) = (10 : Int32) then C_law_10 N xs x4 K M else (if (xs x4.toNatClampNeg &&& (63 : Int32)) = (11 : Int32) then C_law_11 N xs x4 K M else (if (xs x4.toNatClampNeg &&& (63 : Int32)) = (12 : Int32) then C_law_12 N xs x4 K M else (if (xs x4.toNatClampNeg &&& (63 : Int32)) = (13 : Int32) then C_law_13 N xs x4 K M else (if (xs x4.toNatClampNeg &&& (63 : Int32)) = (14 : Int32) then C_law_14 N xs x4 K M else (if (xs x4.toNatClampNeg &&& (63 : Int32)) = (15 : Int32) then C_law_15 N xs x4 K M else (if (xs x4.toNatClampNeg &&& (63 : Int32)) = (16 : Int32) then C_law_16 N xs x4 K M else (if (xs x4.toNatClampNeg &&& (63 : Int32)) = (17 : Int32) then C_law_17 N xs x4 K M else (if (xs x4.toNatClampNeg &&& (63 : Int32)) = (18 : Int32) then C_law_18 N xs x4 K M else (if (xs x4.toNatClampNeg &&& (63 : Int32)) = (19 : Int32) then C_law_19 N xs x4 K M else (if (xs x4.toNatClampNeg &&& (63 : Int32)) = (20 : Int32) then C_law_20 N xs x4 K M else (if (xs x4.toNatClampNeg &&& (63 : Int32)) = (21 : Int32) then C_law_21 N xs x4 K M else (if (xs x4.toNatClampNeg &&& (63 : Int32)) = (22 : Int32) then C_law_22 N xs x4 K M else (if (xs x4.toNatClampNeg &&& (63 : Int32)) = (23 : Int32) then C_law_23 N xs x4 K M else (if (xs x4.toNatClampNeg &&& (63 : Int32)) = (24 : Int32) then C_law_24 N xs x4 K M else (if (xs x4.toNatClampNeg &&& (63 : Int32)) = (25 : Int32) then C_law_25 N xs x4 K M else (if (xs x4.toNatClampNeg &&& (63 : Int32)) = (26 : Int32) then C_law_26 N xs x4 K M else (if (xs x4.toNatClampNeg &&& (63 : Int32)) = (27 : Int32) then C_law_27 N xs x4 K M else (if (xs x4.toNatClampNeg &&& (63 : Int32)) = (28 : Int32) then C_law_28 N xs x4 K M else (if (xs x4.toNatClampNeg &&& (63 : Int32)) = (29 : Int32) then C_law_29 N xs x4 K M else (if (xs x4.toNatClampNeg &&& (63 : Int32)) = (30 : Int32) then C_law_30 N xs x4 K M else (if (xs x4.toNatClampNeg &&& (63 : Int32)) = (31 : Int32) then C_law_31 N xs x4 K M else (if (xs x4.toNatClampNeg &&& (63 : Int32)) = (32 : Int32) then C_law_32 N xs x4 K M else (if (xs x4.toNatClampNeg &&& (63 : Int32)) = (33 : Int32) then C_law_33 N xs x4 K M else (if (xs x4.toNatClampNeg &&& (63 : Int32)) = (34 : Int32) then C_law_34 N xs x4 K M else (if (xs x4.toNatClampNeg &&& (63 : Int32)) = (35 : Int32) then C_law_35 N xs x4 K M else (if (xs x4.toNatClampNeg &&& (63 : Int32)) = (36 : Int32) then C_law_36 N xs x4 K M else (if (xs x4.toNatClampNeg &&& (63 : Int32)) = (37 : Int32) then C_law_37 N xs x4 K M else (if (xs x4.toNatClampNeg &&& (63 : Int32)) = (38 : Int32) then C_law_38 N xs x4 K M else (if (xs x4.toNatClampNeg &&& (63 : Int32)) = (39 : Int32) then C_law_39 N xs x4 K M else (K M)))))))))))))))))))))))))))))))))))))))))
set_option maxRecDepth 20000 in
set_option maxHeartbeats 4000000 in
theorem zb_law {p : Program} {l : Launch} {e : Env} {s : State} {m : MethodId} {args : Array Value} {below : List Frame} {meth : Method} {c : Code} {A : Nat → Prop} {D : va_G} {ids : List (Nat × Nat)} {adr : Nat → Nat → Nat} {adV cA : Nat → Nat} {Q : State → Prop} {α : Type} {G0 : Option α} {b N : Nat} {xs : Nat → Int32} (hl0 : l.stackTraces = false) (hIL : hp_IL ids) (hC : hp_Cx p s m meth c cL_law 9 "HallPhoneLaw" A D adV cA G0) (hX : va_X b N xs s s.heap) (hbl : b < s.heap.size) (hbA : ¬ A b) (x4 : Int32) (K : hp_M → Option α) (M : hp_M) (cells slots : Nat) (hcs : cells + 45 ≤ 601024 ∧ slots + 9000 ≤ 7293034) (kk : ∀ (M' : hp_M) (adr' : Nat → Nat → Nat), hp_sim adr adr' → hp_Z p l e room_1 s m args below meth c 9 A D ids adr' adV cA (cells + 45) (slots + 9000) Q G0 none 2257 [(0, .ref b), (1, .ref (adr' 12 0)), (2, .ref (adr' 13 0)), (3, .ref (adr' 13 10)), (4, .int x4)] [] M' (K M')) : hp_Z p l e room_1 s m args below meth c 9 A D ids adr adV cA cells slots Q G0 none 40 [(0, .ref b), (1, .ref (adr 12 0)), (2, .ref (adr 13 0)), (3, .ref (adr 13 10)), (4, .int x4)] [.int (xs x4.toNatClampNeg &&& (63 : Int32))] M (B_law N xs x4 K M) := by
  unfold B_law
  refine hz_case (fun hk0 => ?_) (fun hk0 => ?_)
  · exact hz_tabIn (n := 216) hC hk0 dL_law_40 (by decide +kernel) (by decide +kernel) (by rfl) (by decide +kernel) (z_law_0 hl0 hIL hC hX hbl hbA x4 K M cells slots hcs kk)
  refine hz_case (fun hk1 => ?_) (fun hk1 => ?_)
  · exact hz_tabIn (n := 289) hC hk1 dL_law_40 (by decide +kernel) (by decide +kernel) (by rfl) (by decide +kernel) (z_law_1 hl0 hIL hC hX hbl hbA x4 K M cells slots hcs kk)
  refine hz_case (fun hk2 => ?_) (fun hk2 => ?_)
  · exact hz_tabIn (n := 345) hC hk2 dL_law_40 (by decide +kernel) (by decide +kernel) (by rfl) (by decide +kernel) (z_law_2 hl0 hIL hC hX hbl hbA x4 K M cells slots hcs kk)
  refine hz_case (fun hk3 => ?_) (fun hk3 => ?_)
  · exact hz_tabIn (n := 401) hC hk3 dL_law_40 (by decide +kernel) (by decide +kernel) (by rfl) (by decide +kernel) (z_law_3 hl0 hIL hC hX hbl hbA x4 K M cells slots hcs kk)
  refine hz_case (fun hk4 => ?_) (fun hk4 => ?_)
  · exact hz_tabIn (n := 457) hC hk4 dL_law_40 (by decide +kernel) (by decide +kernel) (by rfl) (by decide +kernel) (z_law_4 hl0 hIL hC hX hbl hbA x4 K M cells slots hcs kk)
  refine hz_case (fun hk5 => ?_) (fun hk5 => ?_)
  · exact hz_tabIn (n := 513) hC hk5 dL_law_40 (by decide +kernel) (by decide +kernel) (by rfl) (by decide +kernel) (z_law_5 hl0 hIL hC hX hbl hbA x4 K M cells slots hcs kk)
  refine hz_case (fun hk6 => ?_) (fun hk6 => ?_)
  · exact hz_tabIn (n := 581) hC hk6 dL_law_40 (by decide +kernel) (by decide +kernel) (by rfl) (by decide +kernel) (z_law_6 hl0 hIL hC hX hbl hbA x4 K M cells slots hcs kk)
  refine hz_case (fun hk7 => ?_) (fun hk7 => ?_)
  · exact hz_tabIn (n := 606) hC hk7 dL_law_40 (by decide +kernel) (by decide +kernel) (by rfl) (by decide +kernel) (z_law_7 hl0 hIL hC hX hbl hbA x4 K M cells slots hcs kk)
  refine hz_case (fun hk8 => ?_) (fun hk8 => ?_)
  · exact hz_tabIn (n := 674) hC hk8 dL_law_40 (by decide +kernel) (by decide +kernel) (by rfl) (by decide +kernel) (z_law_8 hl0 hIL hC hX hbl hbA x4 K M cells slots hcs kk)
  refine hz_case (fun hk9 => ?_) (fun hk9 => ?_)
  · exact hz_tabIn (n := 742) hC hk9 dL_law_40 (by decide +kernel) (by decide +kernel) (by rfl) (by decide +kernel) (z_law_9 hl0 hIL hC hX hbl hbA x4 K M cells slots hcs kk)
  refine hz_case (fun hk10 => ?_) (fun hk10 => ?_)
  · exact hz_tabIn (n := 798) hC hk10 dL_law_40 (by decide +kernel) (by decide +kernel) (by rfl) (by decide +kernel) (z_law_10 hl0 hIL hC hX hbl hbA x4 K M cells slots hcs kk)
  refine hz_case (fun hk11 => ?_) (fun hk11 => ?_)
  · exact hz_tabIn (n := 854) hC hk11 dL_law_40 (by decide +kernel) (by decide +kernel) (by rfl) (by decide +kernel) (z_law_11 hl0 hIL hC hX hbl hbA x4 K M cells slots hcs kk)
  refine hz_case (fun hk12 => ?_) (fun hk12 => ?_)
  · exact hz_tabIn (n := 867) hC hk12 dL_law_40 (by decide +kernel) (by decide +kernel) (by rfl) (by decide +kernel) (z_law_12 hl0 hIL hC hX hbl hbA x4 K M cells slots hcs kk)
  refine hz_case (fun hk13 => ?_) (fun hk13 => ?_)
  · exact hz_tabIn (n := 923) hC hk13 dL_law_40 (by decide +kernel) (by decide +kernel) (by rfl) (by decide +kernel) (z_law_13 hl0 hIL hC hX hbl hbA x4 K M cells slots hcs kk)
  refine hz_case (fun hk14 => ?_) (fun hk14 => ?_)
  · exact hz_tabIn (n := 991) hC hk14 dL_law_40 (by decide +kernel) (by decide +kernel) (by rfl) (by decide +kernel) (z_law_14 hl0 hIL hC hX hbl hbA x4 K M cells slots hcs kk)
  refine hz_case (fun hk15 => ?_) (fun hk15 => ?_)
  · exact hz_tabIn (n := 1047) hC hk15 dL_law_40 (by decide +kernel) (by decide +kernel) (by rfl) (by decide +kernel) (z_law_15 hl0 hIL hC hX hbl hbA x4 K M cells slots hcs kk)
  refine hz_case (fun hk16 => ?_) (fun hk16 => ?_)
  · exact hz_tabIn (n := 1060) hC hk16 dL_law_40 (by decide +kernel) (by decide +kernel) (by rfl) (by decide +kernel) (z_law_16 hl0 hIL hC hX hbl hbA x4 K M cells slots hcs kk)
  refine hz_case (fun hk17 => ?_) (fun hk17 => ?_)
  · exact hz_tabIn (n := 1128) hC hk17 dL_law_40 (by decide +kernel) (by decide +kernel) (by rfl) (by decide +kernel) (z_law_17 hl0 hIL hC hX hbl hbA x4 K M cells slots hcs kk)
  refine hz_case (fun hk18 => ?_) (fun hk18 => ?_)
  · exact hz_tabIn (n := 1196) hC hk18 dL_law_40 (by decide +kernel) (by decide +kernel) (by rfl) (by decide +kernel) (z_law_18 hl0 hIL hC hX hbl hbA x4 K M cells slots hcs kk)
  refine hz_case (fun hk19 => ?_) (fun hk19 => ?_)
  · exact hz_tabIn (n := 1252) hC hk19 dL_law_40 (by decide +kernel) (by decide +kernel) (by rfl) (by decide +kernel) (z_law_19 hl0 hIL hC hX hbl hbA x4 K M cells slots hcs kk)
  refine hz_case (fun hk20 => ?_) (fun hk20 => ?_)
  · exact hz_tabIn (n := 1265) hC hk20 dL_law_40 (by decide +kernel) (by decide +kernel) (by rfl) (by decide +kernel) (z_law_20 hl0 hIL hC hX hbl hbA x4 K M cells slots hcs kk)
  refine hz_case (fun hk21 => ?_) (fun hk21 => ?_)
  · exact hz_tabIn (n := 1333) hC hk21 dL_law_40 (by decide +kernel) (by decide +kernel) (by rfl) (by decide +kernel) (z_law_21 hl0 hIL hC hX hbl hbA x4 K M cells slots hcs kk)
  refine hz_case (fun hk22 => ?_) (fun hk22 => ?_)
  · exact hz_tabIn (n := 1389) hC hk22 dL_law_40 (by decide +kernel) (by decide +kernel) (by rfl) (by decide +kernel) (z_law_22 hl0 hIL hC hX hbl hbA x4 K M cells slots hcs kk)
  refine hz_case (fun hk23 => ?_) (fun hk23 => ?_)
  · exact hz_tabIn (n := 1445) hC hk23 dL_law_40 (by decide +kernel) (by decide +kernel) (by rfl) (by decide +kernel) (z_law_23 hl0 hIL hC hX hbl hbA x4 K M cells slots hcs kk)
  refine hz_case (fun hk24 => ?_) (fun hk24 => ?_)
  · exact hz_tabIn (n := 1486) hC hk24 dL_law_40 (by decide +kernel) (by decide +kernel) (by rfl) (by decide +kernel) (z_law_24 hl0 hIL hC hX hbl hbA x4 K M cells slots hcs kk)
  refine hz_case (fun hk25 => ?_) (fun hk25 => ?_)
  · exact hz_tabIn (n := 1529) hC hk25 dL_law_40 (by decide +kernel) (by decide +kernel) (by rfl) (by decide +kernel) (z_law_25 hl0 hIL hC hX hbl hbA x4 K M cells slots hcs kk)
  refine hz_case (fun hk26 => ?_) (fun hk26 => ?_)
  · exact hz_tabIn (n := 1542) hC hk26 dL_law_40 (by decide +kernel) (by decide +kernel) (by rfl) (by decide +kernel) (z_law_26 hl0 hIL hC hX hbl hbA x4 K M cells slots hcs kk)
  refine hz_case (fun hk27 => ?_) (fun hk27 => ?_)
  · exact hz_tabIn (n := 1555) hC hk27 dL_law_40 (by decide +kernel) (by decide +kernel) (by rfl) (by decide +kernel) (z_law_27 hl0 hIL hC hX hbl hbA x4 K M cells slots hcs kk)
  refine hz_case (fun hk28 => ?_) (fun hk28 => ?_)
  · exact hz_tabIn (n := 1580) hC hk28 dL_law_40 (by decide +kernel) (by decide +kernel) (by rfl) (by decide +kernel) (z_law_28 hl0 hIL hC hX hbl hbA x4 K M cells slots hcs kk)
  refine hz_case (fun hk29 => ?_) (fun hk29 => ?_)
  · exact hz_tabIn (n := 1648) hC hk29 dL_law_40 (by decide +kernel) (by decide +kernel) (by rfl) (by decide +kernel) (z_law_29 hl0 hIL hC hX hbl hbA x4 K M cells slots hcs kk)
  refine hz_case (fun hk30 => ?_) (fun hk30 => ?_)
  · exact hz_tabIn (n := 1704) hC hk30 dL_law_40 (by decide +kernel) (by decide +kernel) (by rfl) (by decide +kernel) (z_law_30 hl0 hIL hC hX hbl hbA x4 K M cells slots hcs kk)
  refine hz_case (fun hk31 => ?_) (fun hk31 => ?_)
  · exact hz_tabIn (n := 1760) hC hk31 dL_law_40 (by decide +kernel) (by decide +kernel) (by rfl) (by decide +kernel) (z_law_31 hl0 hIL hC hX hbl hbA x4 K M cells slots hcs kk)
  refine hz_case (fun hk32 => ?_) (fun hk32 => ?_)
  · exact hz_tabIn (n := 1828) hC hk32 dL_law_40 (by decide +kernel) (by decide +kernel) (by rfl) (by decide +kernel) (z_law_32 hl0 hIL hC hX hbl hbA x4 K M cells slots hcs kk)
  refine hz_case (fun hk33 => ?_) (fun hk33 => ?_)
  · exact hz_tabIn (n := 1896) hC hk33 dL_law_40 (by decide +kernel) (by decide +kernel) (by rfl) (by decide +kernel) (z_law_33 hl0 hIL hC hX hbl hbA x4 K M cells slots hcs kk)
  refine hz_case (fun hk34 => ?_) (fun hk34 => ?_)
  · exact hz_tabIn (n := 1987) hC hk34 dL_law_40 (by decide +kernel) (by decide +kernel) (by rfl) (by decide +kernel) (z_law_34 hl0 hIL hC hX hbl hbA x4 K M cells slots hcs kk)
  refine hz_case (fun hk35 => ?_) (fun hk35 => ?_)
  · exact hz_tabIn (n := 2055) hC hk35 dL_law_40 (by decide +kernel) (by decide +kernel) (by rfl) (by decide +kernel) (z_law_35 hl0 hIL hC hX hbl hbA x4 K M cells slots hcs kk)
  refine hz_case (fun hk36 => ?_) (fun hk36 => ?_)
  · exact hz_tabIn (n := 2111) hC hk36 dL_law_40 (by decide +kernel) (by decide +kernel) (by rfl) (by decide +kernel) (z_law_36 hl0 hIL hC hX hbl hbA x4 K M cells slots hcs kk)
  refine hz_case (fun hk37 => ?_) (fun hk37 => ?_)
  · exact hz_tabIn (n := 2124) hC hk37 dL_law_40 (by decide +kernel) (by decide +kernel) (by rfl) (by decide +kernel) (z_law_37 hl0 hIL hC hX hbl hbA x4 K M cells slots hcs kk)
  refine hz_case (fun hk38 => ?_) (fun hk38 => ?_)
  · exact hz_tabIn (n := 2187) hC hk38 dL_law_40 (by decide +kernel) (by decide +kernel) (by rfl) (by decide +kernel) (z_law_38 hl0 hIL hC hX hbl hbA x4 K M cells slots hcs kk)
  refine hz_case (fun hk39 => ?_) (fun hk39 => ?_)
  · exact hz_tabIn (n := 2243) hC hk39 dL_law_40 (by decide +kernel) (by decide +kernel) (by rfl) (by decide +kernel) (z_law_39 hl0 hIL hC hX hbl hbA x4 K M cells slots hcs kk)
  refine hz_tabOut (n := 2257) hC (hp_out 40 (by decide) (fun k hk => by
    rcases (show k = 0 ∨ k = 1 ∨ k = 2 ∨ k = 3 ∨ k = 4 ∨ k = 5 ∨ k = 6 ∨ k = 7 ∨ k = 8 ∨ k = 9 ∨ k = 10 ∨ k = 11 ∨ k = 12 ∨ k = 13 ∨ k = 14 ∨ k = 15 ∨ k = 16 ∨ k = 17 ∨ k = 18 ∨ k = 19 ∨ k = 20 ∨ k = 21 ∨ k = 22 ∨ k = 23 ∨ k = 24 ∨ k = 25 ∨ k = 26 ∨ k = 27 ∨ k = 28 ∨ k = 29 ∨ k = 30 ∨ k = 31 ∨ k = 32 ∨ k = 33 ∨ k = 34 ∨ k = 35 ∨ k = 36 ∨ k = 37 ∨ k = 38 ∨ k = 39 by omega) with rfl | rfl | rfl | rfl | rfl | rfl | rfl | rfl | rfl | rfl | rfl | rfl | rfl | rfl | rfl | rfl | rfl | rfl | rfl | rfl | rfl | rfl | rfl | rfl | rfl | rfl | rfl | rfl | rfl | rfl | rfl | rfl | rfl | rfl | rfl | rfl | rfl | rfl | rfl | rfl
    · exact fun e => hk0 (Int32.toInt_inj.mp (e.trans (by decide +kernel)))
    · exact fun e => hk1 (Int32.toInt_inj.mp (e.trans (by decide +kernel)))
    · exact fun e => hk2 (Int32.toInt_inj.mp (e.trans (by decide +kernel)))
    · exact fun e => hk3 (Int32.toInt_inj.mp (e.trans (by decide +kernel)))
    · exact fun e => hk4 (Int32.toInt_inj.mp (e.trans (by decide +kernel)))
    · exact fun e => hk5 (Int32.toInt_inj.mp (e.trans (by decide +kernel)))
    · exact fun e => hk6 (Int32.toInt_inj.mp (e.trans (by decide +kernel)))
    · exact fun e => hk7 (Int32.toInt_inj.mp (e.trans (by decide +kernel)))
    · exact fun e => hk8 (Int32.toInt_inj.mp (e.trans (by decide +kernel)))
    · exact fun e => hk9 (Int32.toInt_inj.mp (e.trans (by decide +kernel)))
    · exact fun e => hk10 (Int32.toInt_inj.mp (e.trans (by decide +kernel)))
    · exact fun e => hk11 (Int32.toInt_inj.mp (e.trans (by decide +kernel)))
    · exact fun e => hk12 (Int32.toInt_inj.mp (e.trans (by decide +kernel)))
    · exact fun e => hk13 (Int32.toInt_inj.mp (e.trans (by decide +kernel)))
    · exact fun e => hk14 (Int32.toInt_inj.mp (e.trans (by decide +kernel)))
    · exact fun e => hk15 (Int32.toInt_inj.mp (e.trans (by decide +kernel)))
    · exact fun e => hk16 (Int32.toInt_inj.mp (e.trans (by decide +kernel)))
    · exact fun e => hk17 (Int32.toInt_inj.mp (e.trans (by decide +kernel)))
    · exact fun e => hk18 (Int32.toInt_inj.mp (e.trans (by decide +kernel)))
    · exact fun e => hk19 (Int32.toInt_inj.mp (e.trans (by decide +kernel)))
    · exact fun e => hk20 (Int32.toInt_inj.mp (e.trans (by decide +kernel)))
    · exact fun e => hk21 (Int32.toInt_inj.mp (e.trans (by decide +kernel)))
    · exact fun e => hk22 (Int32.toInt_inj.mp (e.trans (by decide +kernel)))
    · exact fun e => hk23 (Int32.toInt_inj.mp (e.trans (by decide +kernel)))
    · exact fun e => hk24 (Int32.toInt_inj.mp (e.trans (by decide +kernel)))
    · exact fun e => hk25 (Int32.toInt_inj.mp (e.trans (by decide +kernel)))
    · exact fun e => hk26 (Int32.toInt_inj.mp (e.trans (by decide +kernel)))
    · exact fun e => hk27 (Int32.toInt_inj.mp (e.trans (by decide +kernel)))
    · exact fun e => hk28 (Int32.toInt_inj.mp (e.trans (by decide +kernel)))
    · exact fun e => hk29 (Int32.toInt_inj.mp (e.trans (by decide +kernel)))
    · exact fun e => hk30 (Int32.toInt_inj.mp (e.trans (by decide +kernel)))
    · exact fun e => hk31 (Int32.toInt_inj.mp (e.trans (by decide +kernel)))
    · exact fun e => hk32 (Int32.toInt_inj.mp (e.trans (by decide +kernel)))
    · exact fun e => hk33 (Int32.toInt_inj.mp (e.trans (by decide +kernel)))
    · exact fun e => hk34 (Int32.toInt_inj.mp (e.trans (by decide +kernel)))
    · exact fun e => hk35 (Int32.toInt_inj.mp (e.trans (by decide +kernel)))
    · exact fun e => hk36 (Int32.toInt_inj.mp (e.trans (by decide +kernel)))
    · exact fun e => hk37 (Int32.toInt_inj.mp (e.trans (by decide +kernel)))
    · exact fun e => hk38 (Int32.toInt_inj.mp (e.trans (by decide +kernel)))
    · exact fun e => hk39 (Int32.toInt_inj.mp (e.trans (by decide +kernel)))
    )) dL_law_40 (by decide +kernel) ?_
  exact hz_widen (k0 := cells + 45) (s0 := slots + 9000) ⟨by omega, by omega⟩ (kk M adr hp_sim.rf)
/-- the law's whole loop, a call of the script at each turn -/
def L_law : Nat → Nat → (Nat → Int32) → Int32 → hp_M → Option Unit
  | 0, _, _, _, _ => none
  | n + 1, N, xs, x4, M => if nI N - (6 : Int32) < x4 then some () else (if x4 < 0 ∨ N ≤ x4.toNatClampNeg then none else B_law N xs x4 (fun M1 => L_law n N xs (x4 + (6 : Int32)) M1) M)
set_option maxRecDepth 20000 in
theorem zl_law {p : Program} {l : Launch} {e : Env} {s : State} {m : MethodId} {args : Array Value} {below : List Frame} {meth : Method} {c : Code} {A : Nat → Prop} {D : va_G} {ids : List (Nat × Nat)} {adV cA : Nat → Nat} {Q : State → Prop} {G0 : Option Unit} {b N : Nat} {xs : Nat → Int32} (hl0 : l.stackTraces = false) (hIL : hp_IL ids) (hC : hp_Cx p s m meth c cL_law 9 "HallPhoneLaw" A D adV cA G0) (hX : va_X b N xs s s.heap) (hbl : b < s.heap.size) (hbA : ¬ A b) (hE : ∀ (H : Heap) (locs : List Loc) (ls : Array Slot) (k0 s0 : Nat), k0 ≤ 601024 → s0 ≤ 7293034 → va_S A s.heap H locs → W p l e room_1 s m args below meth c H locs k0 s0 Q (F0 m 2264 ls [.int 1])) : ∀ (n : Nat) (x4 : Int32) (M : hp_M) (adr : Nat → Nat → Nat) (cells slots : Nat), cells + 45 * n ≤ 601024 → slots + 9000 * n ≤ 7293034 → hp_Z p l e room_1 s m args below meth c 9 A D ids adr adV cA cells slots Q G0 none 23 [(0, .ref b), (1, .ref (adr 12 0)), (2, .ref (adr 13 0)), (3, .ref (adr 13 10)), (4, .int x4)] [] M (L_law n N xs x4 M) := by
  intro n
  induction n with
  | zero => exact fun x4 M adr cells slots _ _ => hz_none hC
  | succ n ih =>
    intro x4 M adr cells slots hc hs
    show hp_Z p l e room_1 s m args below meth c 9 A D ids adr adV cA cells slots Q G0 none 23 _ [] M (if nI N - (6 : Int32) < x4 then some () else (if x4 < 0 ∨ N ≤ x4.toNatClampNeg then none else B_law N xs x4 (fun M1 => L_law n N xs (x4 + (6 : Int32)) M1) M))
    refine hz_iload (a := 4) (n := 25) hC dL_law_23 rfl rfl ?_
    refine hz_aload_n (a := 0) (n := 26) hC dL_law_25 rfl rfl rfl ?_
    refine hz_slen (n := 27) hC hX hbl hbA dL_law_26 rfl ?_
    refine hz_bipush (v := (6 : Int32)) (n := 29) hC dL_law_27 (by decide +kernel) rfl ?_
    refine hz_isub (n := 30) hC dL_law_29 rfl ?_
    refine hz_icmp_gt (tgt := 2263) (n := 33) hC dL_law_30 (by decide) rfl (fun _ => ?_) (fun _ => ?_)
    · refine hz_iconst (v := (1 : Int32)) (n := 2264) hC dL_law_2263 (by decide +kernel) rfl ?_
      exact fun H locs ls _ _ hS _ => hE H locs ls cells slots (by omega) (by omega) hS
    · refine hz_aload_n (a := 0) (n := 34) hC dL_law_33 rfl rfl rfl ?_
      refine hz_iload (a := 4) (n := 36) hC dL_law_34 rfl rfl ?_
      refine hz_sld (n := 37) hC hX hbl hbA dL_law_36 rfl ?_
      refine hz_bipush (v := (63 : Int32)) (n := 39) hC dL_law_37 (by decide +kernel) rfl ?_
      refine hz_iand (n := 40) hC dL_law_39 rfl ?_
      refine zb_law hl0 hIL hC hX hbl hbA x4 (fun M1 => L_law n N xs (x4 + (6 : Int32)) M1) M cells slots ⟨by omega, by omega⟩ (fun M1 adr1 _ => ?_)
      refine hz_iinc (a := 4) (v := (x4 + (6 : Int32))) (L' := [(4, .int (x4 + (6 : Int32))), (0, .ref b), (1, .ref (adr1 12 0)), (2, .ref (adr1 13 0)), (3, .ref (adr1 13 10))]) (n := 2260) hC dL_law_2257 rfl rfl (by decide) rfl rfl ?_
      refine hz_goto (n := 23) hC dL_law_2260 (by decide) ?_
      refine hz_L (L' := [(0, .ref b), (1, .ref (adr1 12 0)), (2, .ref (adr1 13 0)), (3, .ref (adr1 13 10)), (4, .int (x4 + (6 : Int32)))]) [1, 2, 3, 4, 0] rfl ?_
      exact ih (x4 + (6 : Int32)) M1 adr1 (cells + 45) (slots + 9000) (by omega) (by omega)
/-- the law's own end -/
theorem zl_end {p : Program} {l : Launch} {e : Env} {s : State} {m : MethodId} {below : List Frame} {meth : Method} {c : Code} {b : Nat} {d0 : Drawn} (hd0 : s.drawn.sameBut d0 lw_cs) (hx : p.tables.exec = Jvm.exec) (hb : c.code = code) (hr : meth.sig.returnType = ret) (hlocks : meth.locks = false) : ∀ (H : Heap) (locs : List Loc) (ls : Array Slot) (k0 s0 : Nat), k0 ≤ 601024 → s0 ≤ 7293034 → va_S (fun q : Nat => s.heap.size ≤ q) s.heap H locs → W p l e room_1 (s.setDrawn d0) m #[Value.ref b] below meth c H locs k0 s0 (lw_Z below #[Value.ref b] s) (F0 m 2264 ls [.int 1]) := by
  intro H locs ls k0 s0 h1 h2 hS
  refine va_forget (fun q hq => hS.2.2 q hq) ?_
  refine W.widen (k := 601024) (n := 7293034) h1 h2 ?_
  exact lw_ret hd0 hx hb hr hlocks dL_law_2264
