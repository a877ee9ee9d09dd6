abbrev hp_pr0 : Cond := Jvm.Cond.and given_1 narrow_1
/-- a part of a conjunction, by its place: a number's bits say left or right -/
def hp_at : Nat → Nat → Cond → Option Cond
  | 0, _, _ => none
  | f + 1, n, c => if n = 1 then some c else match c with
    | .and a b => hp_at f (n / 2) (if n % 2 = 0 then a else b)
    | _ => none
def hp_is (c : Cond) : Prop := ∃ n : Nat, hp_at 60 n hp_pr0 = some c
theorem hp_at_b {args : Array Value} {s : State} : ∀ (f n : Nat) (T c : Cond), hp_at f n T = some c → T.before args s = true → c.before args s = true := by
  intro f
  induction f with
  | zero => intro n T c h; cases h
  | succ f ih =>
    intro n T c h hT
    unfold hp_at at h
    split at h
    · cases h; exact hT
    · split at h
      · rename_i a b
        rw [Cond.before_and, Bool.and_eq_true] at hT
        split at h
        · exact ih _ _ _ h hT.1
        · exact ih _ _ _ h hT.2
      · cases h
theorem hp_is_b {args : Array Value} {s : State} {c : Cond} (h : hp_is c) (hT : hp_pr0.before args s = true) : c.before args s = true := by
  obtain ⟨n, hn⟩ := h
  exact hp_at_b _ _ _ _ hn hT
theorem hp_prem {A : Nat → Prop} {D : va_G} {adV cA : Nat → Nat} {s : State} {H : Heap} (h : hp_Tab A D adV cA s H) : ∃ (u0 : State) (b0 : Nat), (∀ w ∈ lw_tbl, w.before #[Value.ref b0] u0 = true) ∧ (∀ c : Cond, hp_is c → c.before #[Value.ref b0] u0 = true) ∧ u0.WarmedH s.vm ∧ (∀ a : Nat, a < u0.heap.size → ¬ A a) ∧ (∀ a : Nat, a < u0.heap.size → ¬ A a → H[a]? = u0.heap[a]?) ∧ hp_E adV u0 b0 := by
  obtain ⟨u0, b0, h1, h2, h3, h4, h5, h6⟩ := h
  exact ⟨u0, b0, h1, fun c hc => hp_is_b hc h2, h3, fun a ha => (h4 a ha).1, fun a ha _ => (h4 a ha).2, h6⟩
theorem hp_TZ {A : Nat → Prop} {D : va_G} {adV cA : Nat → Nat} {s : State} {H : Heap} {C n d : String} {k : Nat} (h : hp_Tab A D adV cA s H) (hl : Cond.laysStatic C n d ∈ lw_tbl) (hi : Cond.initialized C ∈ lw_tbl) (hk : (k, Term.static C n d) ∈ hp_st) : va_Z C n d (.ref (adV k)) A s H := by
  obtain ⟨u0, b0, h1, h2, h3, h4, h5, h6⟩ := hp_prem h
  exact ((va_Zof (h1 _ hl) (h1 _ hi) (h6 _ hk) h4).moved h3.alike).kept h5
theorem hp_TT {A : Nat → Prop} {D : va_G} {adV cA : Nat → Nat} {s : State} {H : Heap} {tm : Term} {ty : FieldType} {k : Nat} (N : Nat) (vals : List Int32) (h : hp_Tab A D adV cA s H) (hN : N < 2 ^ 31) (hk : (k, tm) ∈ hp_st) (ha : hp_is (Cond.arrayOf tm ty)) (hl : hp_is (Cond.eq (.length tm) (.int (Int32.ofNat N)))) (he : ∀ j, j < N → hp_is (Cond.eq (.elem tm (.int (Int32.ofNat j))) (.int (vals.getD j 0)))) : va_T ty (adV k) N (fun j => .int (vals.getD j 0)) A s H := by
  obtain ⟨u0, b0, h1, h2, h3, h4, h5, h6⟩ := hp_prem h
  obtain ⟨t, e1, hT⟩ := va_Tof (f := fun j => .int (vals.getD j 0)) (A := A) hN (h2 _ ha) (va_eqt (h2 _ hl)) (fun j hj => va_eqt (h2 _ (he j hj))) h4
  have e2 := h6 _ hk
  rw [e1] at e2
  cases e2
  exact (hT.moved h3.alike).kept h5
theorem hp_TOF {A : Nat → Prop} {D : va_G} {adV cA : Nat → Nat} {s : State} {H : Heap} {tm : Term} {o n d : String} {z : Int32} {k : Nat} (h : hp_Tab A D adV cA s H) (hk : (k, tm) ∈ hp_st) (hv : hp_is (Cond.eq (.field tm o n d) (.int z))) : va_OF o n d (.int z) (adV k) A s H := by
  obtain ⟨u0, b0, h1, h2, h3, h4, h5, h6⟩ := hp_prem h
  exact ((vk_OFof (h6 _ hk) (va_eqt (h2 _ hv)) h4).moved h3.alike).kept h5
theorem hp_TOFv {A : Nat → Prop} {D : va_G} {adV cA : Nat → Nat} {s : State} {H : Heap} {tm : Term} {o n d : String} {k k2 : Nat} (h : hp_Tab A D adV cA s H) (hk : (k, tm) ∈ hp_st) (hv : (k2, Term.field tm o n d) ∈ hp_st) : va_OF o n d (.ref (adV k2)) (adV k) A s H := by
  obtain ⟨u0, b0, h1, h2, h3, h4, h5, h6⟩ := hp_prem h
  exact ((vk_OFof (h6 _ hk) (h6 _ hv) h4).moved h3.alike).kept h5
theorem hp_eqr {args : Array Value} {s : State} {t u : Term} {a : Nat} (h : (Cond.eq t u).before args s = true) (hu : u.eval args s none [] s = some (.ref a)) : t.eval args s none [] s = some (.ref a) := by
  cases hv : t.eval args s none [] s with
  | none => simp [Cond.before, Cond.holds, Cond.value, hv] at h
  | some w =>
    simp only [Cond.before, Cond.holds, Cond.value, hv, hu] at h
    cases w <;> simp_all
theorem hp_TOFr {A : Nat → Prop} {D : va_G} {adV cA : Nat → Nat} {s : State} {H : Heap} {tm tu : Term} {o n d : String} {k k2 : Nat} (h : hp_Tab A D adV cA s H) (hk : (k, tm) ∈ hp_st) (hk2 : (k2, tu) ∈ hp_st) (hv : hp_is (Cond.eq (.field tm o n d) tu)) : va_OF o n d (.ref (adV k2)) (adV k) A s H := by
  obtain ⟨u0, b0, h1, h2, h3, h4, h5, h6⟩ := hp_prem h
  exact ((vk_OFof (h6 _ hk) (hp_eqr (h2 _ hv) (h6 _ hk2)) h4).moved h3.alike).kept h5
theorem hp_TO {A : Nat → Prop} {D : va_G} {adV cA : Nat → Nat} {s : State} {H : Heap} {tm : Term} {cls : String} {k : Nat} (h : hp_Tab A D adV cA s H) (hk : (k, tm) ∈ hp_st) (hv : hp_is (Cond.exactly tm cls)) : va_O cls (adV k) A s H := by
  obtain ⟨u0, b0, h1, h2, h3, h4, h5, h6⟩ := hp_prem h
  obtain ⟨a, c, cA, kA, q1, q2, q3, q4, q5, q6, -⟩ := Cond.exactly_spec (args := #[Value.ref b0]) (first := u0) (o := none) (s := u0) (idx := []) (t := tm) (cls := cls) (h2 _ hv)
  have e2 := h6 _ hk
  rw [q1] at e2
  cases e2
  have hO : va_O cls (adV k) A u0 u0.heap := ⟨cA, q3, q5, by rw [q6]; exact q2, h4 _ (Array.getElem?_eq_some_iff.mp q3).1⟩
  exact (hO.moved h3.alike).kept h5
theorem hp_TR {A : Nat → Prop} {D : va_G} {adV cA : Nat → Nat} {s : State} {H : Heap} {own tx : String} {i k : Nat} (h : hp_Tab A D adV cA s H) (hw : Cond.stringRef own i tx ∈ lw_tbl) (hk : (k, Term.string own i) ∈ hp_st) : vk_R own i tx (adV k) s := by
  obtain ⟨u0, b0, h1, h2, h3, h4, h5, h6⟩ := hp_prem h
  exact vk_R.warm h3 (vk_R.of (h1 _ hw) (h6 _ hk))
theorem hp_TT0 {A : Nat → Prop} {D : va_G} {adV cA : Nat → Nat} {s : State} {H : Heap} {C : String} {tm : Term} {k : Nat} (N : Nat) (vals : Nat → Nat) (h : hp_Tab A D adV cA s H) (hN : N < 2 ^ 31) (hk : (k, tm) ∈ hp_st) (ha : hp_is (Cond.arrayOf tm (.object C))) (hl : hp_is (Cond.eq (.length tm) (.int (Int32.ofNat N)))) (he : ∀ j, j < N → ∃ tu : Term, (vals j, tu) ∈ hp_st ∧ hp_is (Cond.eq (.elem tm (.int (Int32.ofNat j))) tu)) : va_T (.object C) (adV k) N (fun j => .ref (adV (vals j))) A s H := by
  obtain ⟨u0, b0, h1, h2, h3, h4, h5, h6⟩ := hp_prem h
  obtain ⟨t, e1, hT⟩ := va_Tof (f := fun j => .ref (adV (vals j))) (A := A) hN (h2 _ ha) (va_eqt (h2 _ hl)) (fun j hj => by obtain ⟨tu, g1, g2⟩ := he j hj; exact hp_eqr (h2 _ g2) (h6 _ g1)) h4
  have e2 := h6 _ hk
  rw [e1] at e2
  cases e2
  exact (hT.moved h3.alike).kept h5

def hp_vset : List Int32 := [0, 1, 2, 3, 4, 5, -1, -1, -1, -1, -1, -1]
def hp_vnam : List Int32 := [0, 0, 0, 0, 0, 0, 1, 1, 1, 1, 1, 0]
def hp_vlea : List Int32 := [0, 1, 0, 0, 1, 0, 1, 0, 0, 1, 1, 1]
def hp_vgre : List Int32 := [60, 30, 99, 9, 99, 20, 99, 0, 0, 99, 9999, 999]
def hp_vwor : List Nat := [30, 31, 32, 33, 34, 35, 36, 37, 38, 39, 40, 41]
def hp_fs : List Int32 := [0, 3, 4, 1, 5, 3]
def hp_sm : List Int32 := [0, 0, 0, 0, 0, 0, 1, 2, 3, 4, 5, 6]
def hp_do : List Int32 := [48, 49, 50, 51, 52, 53, 54, 55, 56, 57, 48, 49, 50, 51, 52, 53, 54, 55, 56, 57, 48, 49, 50, 51, 52, 53, 54, 55, 56, 57, 48, 49, 50, 51, 52, 53, 54, 55, 56, 57, 48, 49, 50, 51, 52, 53, 54, 55, 56, 57, 48, 49, 50, 51, 52, 53, 54, 55, 56, 57, 48, 49, 50, 51, 52, 53, 54, 55, 56, 57, 48, 49, 50, 51, 52, 53, 54, 55, 56, 57, 48, 49, 50, 51, 52, 53, 54, 55, 56, 57, 48, 49, 50, 51, 52, 53, 54, 55, 56, 57]
def hp_dt : List Int32 := [48, 48, 48, 48, 48, 48, 48, 48, 48, 48, 49, 49, 49, 49, 49, 49, 49, 49, 49, 49, 50, 50, 50, 50, 50, 50, 50, 50, 50, 50, 51, 51, 51, 51, 51, 51, 51, 51, 51, 51, 52, 52, 52, 52, 52, 52, 52, 52, 52, 52, 53, 53, 53, 53, 53, 53, 53, 53, 53, 53, 54, 54, 54, 54, 54, 54, 54, 54, 54, 54, 55, 55, 55, 55, 55, 55, 55, 55, 55, 55, 56, 56, 56, 56, 56, 56, 56, 56, 56, 56, 57, 57, 57, 57, 57, 57, 57, 57, 57, 57]
/-- the texts, from number 20 on -/
def hp_txs : List (List Int32) := [[104, 111, 117, 115, 101, 32, 48, 32, 99, 117, 114, 105, 111, 117, 115, 32, 49, 32, 51, 32, 50, 32, 99, 117, 114, 105, 111, 117, 115, 32, 52, 59, 32, 108, 105, 109, 105, 116, 32, 54, 59, 32, 114, 105, 110, 103, 32, 52, 32, 53, 59, 32, 119, 97, 110, 116, 32, 49, 32, 56, 59, 32, 119, 97, 110, 116, 32, 51, 32, 52, 59, 32, 112, 97, 115, 115, 32, 51, 59, 32, 119, 97, 110, 116, 32, 48, 32, 49, 48, 59],
  [104, 111, 117, 115, 101, 32, 49, 32, 99, 117, 114, 105, 111, 117, 115, 32, 49, 32, 99, 117, 114, 105, 111, 117, 115, 32, 53, 32, 48, 59, 32, 117, 110, 105, 116, 32, 50, 59, 32, 114, 97, 116, 101, 32, 49, 48, 59, 32, 115, 101, 99, 114, 101, 116, 32, 51, 59, 32, 112, 97, 116, 105, 101, 110, 99, 101, 32, 50, 59, 32, 119, 97, 110, 116, 32, 50, 32, 57, 59, 32, 114, 105, 110, 103, 32, 49, 32, 52, 59, 32, 112, 97, 115, 115, 32, 56, 59, 32, 119, 97, 110, 116, 32, 51, 32, 51, 48, 59, 32, 112, 97, 115, 115, 32, 50, 59, 32, 108, 105, 109, 105, 116, 32, 54, 59, 32, 112, 97, 115, 115, 32, 51, 59, 32, 104, 97, 110, 103, 32, 51, 59, 32, 114, 105, 110, 103, 32, 50, 32, 51, 59, 32, 114, 105, 110, 103, 32, 51, 32, 53, 59, 32, 112, 97, 115, 115, 32, 49, 59, 32, 112, 97, 121, 32, 50, 32, 49, 50, 59],
  [104, 111, 117, 115, 101, 32, 57, 59, 32, 114, 97, 116, 101, 32, 48, 59, 32, 101, 97, 114, 32, 48, 59, 32, 112, 97, 116, 105, 101, 110, 99, 101, 32, 48, 59, 32, 119, 97, 110, 116, 32, 48, 32, 57, 57, 59, 32, 112, 97, 115, 115, 32, 50, 48, 59],
  [110, 111, 32, 115, 117, 99, 104, 32, 109, 101, 115, 115, 97, 103, 101],
  [110, 111, 32, 115, 117, 99, 104, 32, 115, 101, 116, 116, 105, 110, 103],
  [116, 104, 101, 32, 115, 108, 111, 116, 32, 105, 115, 32, 101, 109, 112, 116, 121],
  [110, 111, 32, 115, 117, 99, 104, 32, 102, 108, 97, 116],
  [111, 117, 116, 32, 111, 102, 32, 114, 97, 110, 103, 101],
  [104, 111, 117, 115, 101],
  [99, 117, 114, 105, 111, 117, 115],
  [108, 105, 109, 105, 116],
  [117, 110, 105, 116],
  [114, 97, 116, 101],
  [101, 97, 114],
  [115, 101, 99, 114, 101, 116],
  [112, 97, 116, 105, 101, 110, 99, 101],
  [119, 97, 110, 116],
  [100, 114, 111, 112],
  [104, 97, 110, 103],
  [114, 105, 110, 103],
  [112, 97, 121],
  [112, 97, 115, 115],
  [104, 111, 117, 115, 101, 32, 48, 32, 99, 117, 114, 105, 111, 117, 115, 32, 49, 32, 51, 32, 50, 32, 99, 117, 114, 105, 111, 117, 115, 32, 52, 59, 32, 108, 105, 109, 105, 116, 32, 54, 59, 32, 114, 105, 110, 103, 32, 52, 32, 53, 59, 32, 119, 97, 110, 116, 32, 49, 32, 56, 59, 32, 119, 97, 110, 116, 32, 51, 32, 52, 59, 32, 112, 97, 115, 115, 32, 51, 59, 32, 119, 97, 110, 116, 32, 48, 32, 49, 48, 59],
  [104, 111, 117, 115, 101, 32, 49, 32, 99, 117, 114, 105, 111, 117, 115, 32, 49, 32, 99, 117, 114, 105, 111, 117, 115, 32, 53, 32, 48, 59, 32, 117, 110, 105, 116, 32, 50, 59, 32, 114, 97, 116, 101, 32, 49, 48, 59, 32, 115, 101, 99, 114, 101, 116, 32, 51, 59, 32, 112, 97, 116, 105, 101, 110, 99, 101, 32, 50, 59, 32, 119, 97, 110, 116, 32, 50, 32, 57, 59, 32, 114, 105, 110, 103, 32, 49, 32, 52, 59, 32, 112, 97, 115, 115, 32, 56, 59, 32, 119, 97, 110, 116, 32, 51, 32, 51, 48, 59, 32, 112, 97, 115, 115, 32, 50, 59, 32, 108, 105, 109, 105, 116, 32, 54, 59, 32],
  [112, 97, 115, 115, 32, 51, 59, 32, 104, 97, 110, 103, 32, 51, 59, 32, 114, 105, 110, 103, 32, 50, 32, 51, 59, 32, 114, 105, 110, 103, 32, 51, 32, 53, 59, 32, 112, 97, 115, 115, 32, 49, 59, 32, 112, 97, 121, 32, 50, 32, 49, 50, 59],
  [104, 111, 117, 115, 101, 32, 57, 59, 32, 114, 97, 116, 101, 32, 48, 59, 32, 101, 97, 114, 32, 48, 59, 32, 112, 97, 116, 105, 101, 110, 99, 101, 32, 48, 59, 32, 119, 97, 110, 116, 32, 48, 32, 57, 57, 59, 32, 112, 97, 115, 115, 32, 50, 48, 59],
  [104, 111, 117, 115, 101],
  [99, 117, 114, 105, 111, 117, 115],
  [108, 105, 109, 105, 116],
  [117, 110, 105, 116],
  [114, 97, 116, 101],
  [101, 97, 114],
  [115, 101, 99, 114, 101, 116],
  [112, 97, 116, 105, 101, 110, 99, 101],
  [119, 97, 110, 116],
  [100, 114, 111, 112],
  [104, 97, 110, 103],
  [114, 105, 110, 103],
  [112, 97, 121],
  [112, 97, 115, 115],
  [65, 114, 114, 97, 121, 32, 105, 110, 100, 101, 120, 32, 111, 117, 116, 32, 111, 102, 32, 114, 97, 110, 103, 101, 58, 32],
  [83, 116, 114, 105, 110, 103, 32, 105, 110, 100, 101, 120, 32, 111, 117, 116, 32, 111, 102, 32, 114, 97, 110, 103, 101, 58, 32],
  [102, 114, 111, 109, 73, 110, 100, 101, 120, 40],
  [41, 32, 62, 32, 116, 111, 73, 110, 100, 101, 120, 40],
  [41],
  [32, 62, 32]]
def hp_tx (k : Nat) : List Int32 := hp_txs.getD (k - 20) []
theorem hp_st_v : ∀ i, i < 12 → (i, Term.static "HallPhone$Verb" (["LIMIT", "UNIT", "RATE", "EAR", "SECRET", "PATIENCE", "WANT", "DROP", "HANG", "RING", "PAY", "PASS"].getD i "") "LHallPhone$Verb;") ∈ hp_st := by decide +kernel
def hp_vn (i : Nat) : Term := Term.static "HallPhone$Verb" (["LIMIT", "UNIT", "RATE", "EAR", "SECRET", "PATIENCE", "WANT", "DROP", "HANG", "RING", "PAY", "PASS"].getD i "") "LHallPhone$Verb;"
theorem hp_st_vn : ∀ i, i < 12 → (i, hp_vn i) ∈ hp_st := by decide +kernel
def hp_vset_t : List Nat := [5785, 5721, 2521, 7481, 8121, 5881, 2857, 8105, 7529, 5801, 2537, 5657]
theorem hp_vset_p : ∀ i, i < 12 → hp_is (Cond.eq (.field (hp_vn i) "HallPhone$Verb" "setting" "I") (.int (hp_vset.getD i 0))) := fun i h => ⟨hp_vset_t.getD i 0, (by decide +kernel : ∀ i, i < 12 → hp_at 60 (hp_vset_t.getD i 0) hp_pr0 = some (Cond.eq (.field (hp_vn i) "HallPhone$Verb" "setting" "I") (.int (hp_vset.getD i 0)))) i h⟩
def hp_vnam_t : List Nat := [7833, 7769, 5593, 2873, 2169, 7929, 5929, 2153, 2921, 7849, 5609, 7705]
theorem hp_vnam_p : ∀ i, i < 12 → hp_is (Cond.eq (.field (hp_vn i) "HallPhone$Verb" "namesFlat" "Z") (.int (hp_vnam.getD i 0))) := fun i h => ⟨hp_vnam_t.getD i 0, (by decide +kernel : ∀ i, i < 12 → hp_at 60 (hp_vnam_t.getD i 0) hp_pr0 = some (Cond.eq (.field (hp_vn i) "HallPhone$Verb" "namesFlat" "Z") (.int (hp_vnam.getD i 0)))) i h⟩
def hp_vlea_t : List Nat := [2457, 2393, 7641, 5945, 5241, 2553, 7977, 5225, 5993, 2473, 7657, 2329]
theorem hp_vlea_p : ∀ i, i < 12 → hp_is (Cond.eq (.field (hp_vn i) "HallPhone$Verb" "least" "I") (.int (hp_vlea.getD i 0))) := fun i h => ⟨hp_vlea_t.getD i 0, (by decide +kernel : ∀ i, i < 12 → hp_at 60 (hp_vlea_t.getD i 0) hp_pr0 = some (Cond.eq (.field (hp_vn i) "HallPhone$Verb" "least" "I") (.int (hp_vlea.getD i 0)))) i h⟩
def hp_vgre_t : List Nat := [5529, 5465, 5081, 7993, 7289, 5625, 2217, 7273, 8041, 5545, 5097, 5401]
theorem hp_vgre_p : ∀ i, i < 12 → hp_is (Cond.eq (.field (hp_vn i) "HallPhone$Verb" "greatest" "I") (.int (hp_vgre.getD i 0))) := fun i h => ⟨hp_vgre_t.getD i 0, (by decide +kernel : ∀ i, i < 12 → hp_at 60 (hp_vgre_t.getD i 0) hp_pr0 = some (Cond.eq (.field (hp_vn i) "HallPhone$Verb" "greatest" "I") (.int (hp_vgre.getD i 0)))) i h⟩
def hp_vord_t : List Nat := [7321, 7257, 5849, 2361, 7097, 7417, 5417, 7081, 2409, 7337, 5865, 7193]
theorem hp_vord_p : ∀ i, i < 12 → hp_is (Cond.eq (.field (hp_vn i) "java/lang/Enum" "ordinal" "I") (.int (Int32.ofNat i))) := fun i h => ⟨hp_vord_t.getD i 0, (by decide +kernel : ∀ i, i < 12 → hp_at 60 (hp_vord_t.getD i 0) hp_pr0 = some (Cond.eq (.field (hp_vn i) "java/lang/Enum" "ordinal" "I") (.int (Int32.ofNat i)))) i h⟩
def hp_vexa_t : List Nat := [5273, 5209, 2777, 7737, 5049, 5369, 2345, 5033, 7785, 5289, 2793, 5145]
theorem hp_vexa_p : ∀ i, i < 12 → hp_is (Cond.exactly (hp_vn i) "HallPhone$Verb") := fun i h => ⟨hp_vexa_t.getD i 0, (by decide +kernel : ∀ i, i < 12 → hp_at 60 (hp_vexa_t.getD i 0) hp_pr0 = some (Cond.exactly (hp_vn i) "HallPhone$Verb")) i h⟩
def hp_sn : List (String × Nat) := [("HallPhone", 57), ("HallPhone", 79), ("HallPhone", 81), ("HallPhone", 122), ("HallPhone", 253), ("HallPhone", 276), ("HallPhone", 292), ("HallPhone", 295), ("HallPhone$Reader", 70), ("HallPhone$Reader", 85), ("HallPhone$Verb", 83), ("HallPhone$Verb", 89), ("HallPhone$Verb", 92), ("HallPhone$Verb", 95), ("HallPhone$Verb", 98), ("HallPhone$Verb", 101), ("HallPhone$Verb", 104), ("HallPhone$Verb", 107), ("HallPhone$Verb", 110), ("HallPhone$Verb", 113), ("HallPhone$Verb", 116), ("HallPhone$Verb", 119), ("HallPhoneModel", 121), ("HallPhoneModel", 127), ("HallPhoneModel", 129), ("HallPhoneModel", 131), ("HallPhoneModel", 170), ("HallPhoneModel", 176), ("HallPhoneModel", 178), ("HallPhoneModel", 180), ("HallPhoneModel", 182), ("HallPhoneModel", 184), ("HallPhoneModel", 186), ("HallPhoneModel", 188), ("HallPhoneModel", 202), ("HallPhoneModel", 216), ("HallPhoneModel", 221), ("HallPhoneModel", 226), ("HallPhoneModel", 231), ("HallPhoneModel", 236), ("java/lang/ArrayIndexOutOfBoundsException", 13), ("java/lang/StringIndexOutOfBoundsException", 13), ("java/util/Arrays", 48), ("java/util/Arrays", 57), ("java/util/Arrays", 59), ("java/util/Arrays", 337)]
def hp_ts (j : Nat) : Term := .string (hp_sn.getD j ("", 0)).1 (hp_sn.getD j ("", 0)).2
theorem hp_st_s : ∀ j, j < 46 → (20 + j, hp_ts j) ∈ hp_st := by decide +kernel
theorem hp_st_b : ∀ j, j < 46 → (120 + j, Term.field (hp_ts j) "java/lang/String" "value" "[B") ∈ hp_st := by decide +kernel
def hp_vwor_t : List Nat := [2713, 2649, 7897, 5433, 6073, 2809, 7465, 6057, 5481, 2729, 7913, 2585]
theorem hp_vwor_p : ∀ i, i < 12 → hp_is (Cond.eq (.field (hp_vn i) "HallPhone$Verb" "word" "Ljava/lang/String;") (hp_ts (hp_vwor.getD i 0 - 20))) := fun i h => ⟨hp_vwor_t.getD i 0, (by decide +kernel : ∀ i, i < 12 → hp_at 60 (hp_vwor_t.getD i 0) hp_pr0 = some (Cond.eq (.field (hp_vn i) "HallPhone$Verb" "word" "Ljava/lang/String;") (hp_ts (hp_vwor.getD i 0 - 20)))) i h⟩
def hp_s_ex_t : List Nat := [8133, 5485, 2723, 2771, 2867, 2675, 8083, 5805, 2517, 7221, 15671, 14519, 16055, 15287, 5239, 14711, 14679, 10967, 11735, 12119, 4151, 14903, 8179, 5611, 16135, 4807, 11687, 10343, 10599, 14183, 15591, 10727, 15335, 15383, 15639, 4247, 14999, 11671, 16279, 4695, 8013, 5301, 5133, 2701, 2381, 5621]
theorem hp_s_ex_p : ∀ j, j < 46 → hp_is (Cond.exactly (hp_ts j) "java/lang/String") := fun j h => ⟨hp_s_ex_t.getD j 0, (by decide +kernel : ∀ j, j < 46 → hp_at 60 (hp_s_ex_t.getD j 0) hp_pr0 = some (Cond.exactly (hp_ts j) "java/lang/String")) j h⟩
def hp_s_co_t : List Nat := [2085, 7533, 5795, 5843, 5939, 5747, 2131, 7853, 5589, 2613, 4919, 5303, 4535, 10167, 11383, 5495, 5463, 15063, 15831, 16215, 10295, 5687, 2059, 7659, 4231, 10951, 15783, 14439, 14695, 12135, 4839, 14823, 10215, 4631, 4887, 10391, 5783, 15767, 4183, 10839, 2253, 7349, 7181, 5773, 5453, 7669]
theorem hp_s_co_p : ∀ j, j < 46 → hp_is (Cond.eq (.field (hp_ts j) "java/lang/String" "coder" "B") (.int 0)) := fun j h => ⟨hp_s_co_t.getD j 0, (by decide +kernel : ∀ j, j < 46 → hp_at 60 (hp_s_co_t.getD j 0) hp_pr0 = some (Cond.eq (.field (hp_ts j) "java/lang/String" "coder" "B") (.int 0))) j h⟩
def hp_s_ar_t : List Nat := [5157, 2925, 7843, 7891, 7987, 7795, 5203, 2477, 7637, 5685, 11063, 11447, 10679, 14263, 15479, 11639, 11607, 5847, 5079, 4311, 14391, 11831, 5131, 5099, 10375, 15047, 5031, 5223, 5479, 16231, 10983, 5607, 14311, 10775, 11031, 14487, 11927, 5015, 10327, 14935, 5325, 2741, 2573, 7821, 7501, 5109]
theorem hp_s_ar_p : ∀ j, j < 46 → hp_is (Cond.arrayOf (.field (hp_ts j) "java/lang/String" "value" "[B") .byte) := fun j h => ⟨hp_s_ar_t.getD j 0, (by decide +kernel : ∀ j, j < 46 → hp_at 60 (hp_s_ar_t.getD j 0) hp_pr0 = some (Cond.arrayOf (.field (hp_ts j) "java/lang/String" "value" "[B") .byte)) j h⟩
def hp_s_le_t : List Nat := [7205, 5997, 2467, 2515, 2227, 2419, 7251, 5549, 5077, 7733, 15159, 15543, 14775, 12215, 4727, 15735, 15703, 11991, 11223, 10455, 5175, 15927, 7179, 7147, 14471, 5831, 11175, 11367, 11623, 4327, 15079, 11751, 12263, 14871, 15127, 5271, 16023, 11159, 14423, 5719, 7373, 5813, 5645, 2445, 2893, 7157]
theorem hp_s_le_p : ∀ j, j < 46 → hp_is (Cond.eq (.length (.field (hp_ts j) "java/lang/String" "value" "[B")) (.int (Int32.ofNat (hp_tx (20 + j)).length))) := fun j h => ⟨hp_s_le_t.getD j 0, (by decide +kernel : ∀ j, j < 46 → hp_at 60 (hp_s_le_t.getD j 0) hp_pr0 = some (Cond.eq (.length (.field (hp_ts j) "java/lang/String" "value" "[B")) (.int (Int32.ofNat (hp_tx (20 + j)).length)))) j h⟩
def hp_s_el_t : List (List Nat) := [[2597, 5669, 7717, 2341, 5413, 7461, 2853, 5925, 7973, 2213, 5285, 7333, 2725, 5797, 7845, 2469, 5541, 7589, 5029, 7077, 6053, 8101, 2149, 5221, 7269, 2661, 5733, 7781, 2405, 5477, 7525, 2917, 5989, 8037, 2277, 5349, 7397, 2789, 5861, 7909, 2533, 5605, 7653, 5093, 7141, 6117, 8165, 2069, 5141, 7189, 2581, 5653, 7701, 2325, 5397, 7445, 2837, 5909, 7957, 2197, 5269, 7317, 2709, 5781, 7829, 2453, 5525, 7573, 5013, 7061, 6037, 8085, 2133, 5205, 7253, 2645, 5717, 7765, 2389, 5461, 7509, 2901, 5973, 8021, 2261, 5333, 7381, 2773, 5845, 7893], [8045, 2285, 5357, 7405, 2797, 5869, 7917, 2541, 5613, 7661, 5101, 7149, 6125, 8173, 2077, 5149, 7197, 2589, 5661, 7709, 2333, 5405, 7453, 2845, 5917, 7965, 2205, 5277, 7325, 2717, 5789, 7837, 2461, 5533, 7581, 5021, 7069, 6045, 8093, 2141, 5213, 7261, 2653, 5725, 7773, 2397, 5469, 7517, 2909, 5981, 8029, 2269, 5341, 7389, 2781, 5853, 7901, 2525, 5597, 7645, 5085, 7133, 6109, 8157, 2109, 5181, 7229, 2621, 5693, 7741, 2365, 5437, 7485, 2877, 5949, 7997, 2237, 5309, 7357, 2749, 5821, 7869, 2493, 5565, 7613, 5053, 7101, 6077, 8125, 2173, 5245, 7293, 2685, 5757, 7805, 2429, 5501, 7549, 2941, 6013, 8061, 2301, 5373, 7421, 2813, 5885, 7933, 2557, 5629, 7677, 5117, 7165, 6141, 8189, 2051, 5123, 7171, 2563, 5635, 7683, 2307, 5379, 7427, 2819, 5891, 7939, 2179, 5251, 7299, 2691, 5763, 7811, 2435, 5507, 7555, 4995, 7043, 6019, 8067, 2115, 5187, 7235, 2627, 5699, 7747, 2371, 5443, 7491, 2883, 5955, 8003, 2243, 5315, 7363, 2755, 5827, 7875, 2499, 5571, 7619, 5059, 7107, 6083, 8131, 2083, 5155, 7203, 2595, 5667, 7715, 2339, 5411, 7459, 2851, 5923, 7971, 2211, 5283, 7331], [5539, 7587, 5027, 7075, 6051, 8099, 2147, 5219, 7267, 2659, 5731, 7779, 2403, 5475, 7523, 2915, 5987, 8035, 2275, 5347, 7395, 2787, 5859, 7907, 2531, 5603, 7651, 5091, 7139, 6115, 8163, 2067, 5139, 7187, 2579, 5651, 7699, 2323, 5395, 7443, 2835, 5907, 7955, 2195, 5267, 7315, 2707, 5779, 7827, 2451, 5523, 7571, 5011, 7059, 6035], [5587, 7635, 5075, 7123, 6099, 8147, 2099, 5171, 7219, 2611, 5683, 7731, 2355, 5427, 7475], [5299, 7347, 2739, 5811, 7859, 2483, 5555, 7603, 5043, 7091, 6067, 8115, 2163, 5235, 7283], [5491, 7539, 2931, 6003, 8051, 2291, 5363, 7411, 2803, 5875, 7923, 2547, 5619, 7667, 5107, 7155, 6131], [2643, 5715, 7763, 2387, 5459, 7507, 2899, 5971, 8019, 2259, 5331, 7379], [7597, 5037, 7085, 6061, 8109, 2157, 5229, 7277, 2669, 5741, 7789, 2413], [7125, 6101, 8149, 2101, 5173], [2357, 5429, 7477, 2869, 5941, 7989, 2229], [10039, 14135, 12087, 16183, 4279], [4791, 10935, 15031, 5815], [5559, 11703, 15799, 5047], [16311, 4215, 10359], [10871, 14967, 5751, 11895, 15991, 4471], [4983, 11127, 15223, 10103, 14199, 12151, 16247, 4343], [4951, 11095, 15191, 10071], [16087, 4567, 10711, 14807], [15319, 10199, 14295, 12247], [14551, 5335, 11479, 15575], [11319, 15415, 4663], [4407, 10551, 14647, 5431], [2571, 5643, 7691, 2315, 5387, 7435, 2827, 5899, 7947, 2187, 5259, 7307, 2699, 5771, 7819, 2443, 5515, 7563, 5003, 7051, 6027, 8075, 2123, 5195, 7243, 2635, 5707, 7755, 2379, 5451, 7499, 2891, 5963, 8011, 2251, 5323, 7371, 2763, 5835, 7883, 2507, 5579, 7627, 5067, 7115, 6091, 8139, 2091, 5163, 7211, 2603, 5675, 7723, 2347, 5419, 7467, 2859, 5931, 7979, 2219, 5291, 7339, 2731, 5803, 7851, 2475, 5547, 7595, 5035, 7083, 6059, 8107, 2155, 5227, 7275, 2667, 5739, 7787, 2411, 5483, 7531, 2923, 5995, 8043, 2283, 5355, 7403, 2795, 5867, 7915], [6123, 8171, 2075, 5147, 7195, 2587, 5659, 7707, 2331, 5403, 7451, 2843, 5915, 7963, 2203, 5275, 7323, 2715, 5787, 7835, 2459, 5531, 7579, 5019, 7067, 6043, 8091, 2139, 5211, 7259, 2651, 5723, 7771, 2395, 5467, 7515, 2907, 5979, 8027, 2267, 5339, 7387, 2779, 5851, 7899, 2523, 5595, 7643, 5083, 7131, 6107, 8155, 2107, 5179, 7227, 2619, 5691, 7739, 2363, 5435, 7483, 2875, 5947, 7995, 2235, 5307, 7355, 2747, 5819, 7867, 2491, 5563, 7611, 5051, 7099, 6075, 8123, 2171, 5243, 7291, 2683, 5755, 7803, 2427, 5499, 7547, 2939, 6011, 8059, 2299, 5371, 7419, 2811, 5883, 7931, 2555, 5627, 7675, 5115, 7163, 6139, 8187, 4103, 10247, 14343, 5127, 11271, 15367, 4615, 10759, 14855, 5639, 11783, 15879, 4359, 10503, 14599, 5383, 11527, 15623, 4871, 11015, 15111, 9991, 14087, 12039], [5255, 11399, 15495, 4743, 10887, 14983, 5767, 11911, 16007, 4487, 10631, 14727, 5511, 11655, 15751, 4999, 11143, 15239, 10119, 14215, 12167, 16263, 4167, 10311, 14407, 5191, 11335, 15431, 4679, 10823, 14919, 5703, 11847, 15943, 4423, 10567, 14663, 5447, 11591, 15687, 4935, 11079, 15175, 10055, 14151, 12103, 16199, 4295, 10439, 14535, 5319, 11463, 15559], [11975, 16071, 4551, 10695, 14791, 5575, 11719, 15815, 5063, 11207, 15303, 10183, 14279, 12231, 16327, 4135, 10279, 14375, 5159, 11303, 15399, 4647, 10791, 14887, 5671, 11815, 15911, 4391, 10535, 14631, 5415, 11559, 15655, 4903, 11047, 15143, 10023, 14119, 12071, 16167, 4263, 10407, 14503, 5287, 11431, 15527, 4775, 10919, 15015, 5799, 11943, 16039, 4519, 10663, 14759], [15271, 10151, 14247, 12199, 16295], [15463, 4711, 10855, 14951, 5735, 11879, 15975], [15719, 4967, 11111, 15207, 10087], [10471, 14567, 5351, 11495], [5863, 12007, 16103, 4583], [15847, 5095, 11239], [16359, 4119, 10263, 14359, 5143, 11287], [5655, 11799, 15895, 4375, 10519, 14615, 5399, 11543], [10007, 14103, 12055, 16151], [11415, 15511, 4759, 10903], [4503, 10647, 14743, 5527], [15255, 10135, 14231, 12183], [5207, 11351, 15447], [11863, 15959, 4439, 10583], [2765, 5837, 7885, 2509, 5581, 7629, 5069, 7117, 6093, 8141, 2093, 5165, 7213, 2605, 5677, 7725, 2349, 5421, 7469, 2861, 5933, 7981, 2221, 5293, 7341, 2733], [7861, 2485, 5557, 7605, 5045, 7093, 6069, 8117, 2165, 5237, 7285, 2677, 5749, 7797, 2421, 5493, 7541, 2933, 6005, 8053, 2293, 5365, 7413, 2805, 5877, 7925, 2549], [7693, 2317, 5389, 7437, 2829, 5901, 7949, 2189, 5261, 7309], [5517, 7565, 5005, 7053, 6029, 8077, 2125, 5197, 7245, 2637, 5709, 7757], [5965], [6133, 8181, 2061]]
theorem hp_s_el_p : ∀ j, j < 46 → ∀ i, i < (hp_tx (20 + j)).length → hp_is (Cond.eq (.elem (.field (hp_ts j) "java/lang/String" "value" "[B") (.int (Int32.ofNat i))) (.int ((hp_tx (20 + j)).getD i 0))) := fun j hj i hi => ⟨(hp_s_el_t.getD j []).getD i 0, (by decide +kernel : ∀ j, j < 46 → ∀ i, i < (hp_tx (20 + j)).length → hp_at 60 ((hp_s_el_t.getD j []).getD i 0) hp_pr0 = some (Cond.eq (.elem (.field (hp_ts j) "java/lang/String" "value" "[B") (.int (Int32.ofNat i))) (.int ((hp_tx (20 + j)).getD i 0)))) j hj i hi⟩
theorem hp_s_len : ∀ j, j < 46 → (hp_tx (20 + j)).length < 200 := by decide +kernel
def hp_fs_e_t : List Nat := [5889, 7937, 2177, 5249, 7297, 2689]
theorem hp_fs_e_p : ∀ i, i < 6 → hp_is (Cond.eq (.elem (Term.static "HallPhone" "FIRST_SETTINGS" "[I") (.int (Int32.ofNat i))) (.int (hp_fs.getD i 0))) := fun i h => ⟨hp_fs_e_t.getD i 0, (by decide +kernel : ∀ i, i < 6 → hp_at 60 (hp_fs_e_t.getD i 0) hp_pr0 = some (Cond.eq (.elem (Term.static "HallPhone" "FIRST_SETTINGS" "[I") (.int (Int32.ofNat i))) (.int (hp_fs.getD i 0)))) i h⟩
theorem hp_fs_T {A : Nat → Prop} {D : va_G} {adV cA : Nat → Nat} {s : State} {H : Heap} (h : hp_Tab A D adV cA s H) : va_T .int (adV 12) 6 (fun j => .int (hp_fs.getD j 0)) A s H := hp_TT (tm := Term.static "HallPhone" "FIRST_SETTINGS" "[I") 6 hp_fs h (by decide) (by decide +kernel) ⟨7425, by decide +kernel⟩ ⟨2817, by decide +kernel⟩ hp_fs_e_p
def hp_sm_e_t : List Nat := [8001, 2241, 5313, 7361, 2753, 5825, 7873, 2497, 5569, 7617, 5057, 7105]
theorem hp_sm_e_p : ∀ i, i < 12 → hp_is (Cond.eq (.elem (Term.static "HallPhone$1" "$SwitchMap$HallPhone$Verb" "[I") (.int (Int32.ofNat i))) (.int (hp_sm.getD i 0))) := fun i h => ⟨hp_sm_e_t.getD i 0, (by decide +kernel : ∀ i, i < 12 → hp_at 60 (hp_sm_e_t.getD i 0) hp_pr0 = some (Cond.eq (.elem (Term.static "HallPhone$1" "$SwitchMap$HallPhone$Verb" "[I") (.int (Int32.ofNat i))) (.int (hp_sm.getD i 0)))) i h⟩
theorem hp_sm_T {A : Nat → Prop} {D : va_G} {adV cA : Nat → Nat} {s : State} {H : Heap} (h : hp_Tab A D adV cA s H) : va_T .int (adV 13) 12 (fun j => .int (hp_sm.getD j 0)) A s H := hp_TT (tm := Term.static "HallPhone$1" "$SwitchMap$HallPhone$Verb" "[I") 12 hp_sm h (by decide) (by decide +kernel) ⟨2881, by decide +kernel⟩ ⟨5953, by decide +kernel⟩ hp_sm_e_p
def hp_do_e_t : List Nat := [5153, 7201, 2593, 5665, 7713, 2337, 5409, 7457, 2849, 5921, 7969, 2209, 5281, 7329, 2721, 5793, 7841, 2465, 5537, 7585, 5025, 7073, 6049, 8097, 2145, 5217, 7265, 2657, 5729, 7777, 2401, 5473, 7521, 2913, 5985, 8033, 2273, 5345, 7393, 2785, 5857, 7905, 2529, 5601, 7649, 5089, 7137, 6113, 8161, 2065, 5137, 7185, 2577, 5649, 7697, 2321, 5393, 7441, 2833, 5905, 7953, 2193, 5265, 7313, 2705, 5777, 7825, 2449, 5521, 7569, 5009, 7057, 6033, 8081, 2129, 5201, 7249, 2641, 5713, 7761, 2385, 5457, 7505, 2897, 5969, 8017, 2257, 5329, 7377, 2769, 5841, 7889, 2513, 5585, 7633, 5073, 7121, 6097, 8145, 2097]
theorem hp_do_e_p : ∀ i, i < 100 → hp_is (Cond.eq (.elem (Term.static "java/lang/Integer" "DigitOnes" "[B") (.int (Int32.ofNat i))) (.int (hp_do.getD i 0))) := fun i h => ⟨hp_do_e_t.getD i 0, (by decide +kernel : ∀ i, i < 100 → hp_at 60 (hp_do_e_t.getD i 0) hp_pr0 = some (Cond.eq (.elem (Term.static "java/lang/Integer" "DigitOnes" "[B") (.int (Int32.ofNat i))) (.int (hp_do.getD i 0)))) i h⟩
theorem hp_do_T {A : Nat → Prop} {D : va_G} {adV cA : Nat → Nat} {s : State} {H : Heap} (h : hp_Tab A D adV cA s H) : va_T .byte (adV 15) 100 (fun j => .int (hp_do.getD j 0)) A s H := hp_TT (tm := Term.static "java/lang/Integer" "DigitOnes" "[B") 100 hp_do h (by decide) (by decide +kernel) ⟨8129, by decide +kernel⟩ ⟨2081, by decide +kernel⟩ hp_do_e_p
def hp_dt_e_t : List Nat := [5681, 7729, 2353, 5425, 7473, 2865, 5937, 7985, 2225, 5297, 7345, 2737, 5809, 7857, 2481, 5553, 7601, 5041, 7089, 6065, 8113, 2161, 5233, 7281, 2673, 5745, 7793, 2417, 5489, 7537, 2929, 6001, 8049, 2289, 5361, 7409, 2801, 5873, 7921, 2545, 5617, 7665, 5105, 7153, 6129, 8177, 2057, 5129, 7177, 2569, 5641, 7689, 2313, 5385, 7433, 2825, 5897, 7945, 2185, 5257, 7305, 2697, 5769, 7817, 2441, 5513, 7561, 5001, 7049, 6025, 8073, 2121, 5193, 7241, 2633, 5705, 7753, 2377, 5449, 7497, 2889, 5961, 8009, 2249, 5321, 7369, 2761, 5833, 7881, 2505, 5577, 7625, 5065, 7113, 6089, 8137, 2089, 5161, 7209, 2601]
theorem hp_dt_e_p : ∀ i, i < 100 → hp_is (Cond.eq (.elem (Term.static "java/lang/Integer" "DigitTens" "[B") (.int (Int32.ofNat i))) (.int (hp_dt.getD i 0))) := fun i h => ⟨hp_dt_e_t.getD i 0, (by decide +kernel : ∀ i, i < 100 → hp_at 60 (hp_dt_e_t.getD i 0) hp_pr0 = some (Cond.eq (.elem (Term.static "java/lang/Integer" "DigitTens" "[B") (.int (Int32.ofNat i))) (.int (hp_dt.getD i 0)))) i h⟩
theorem hp_dt_T {A : Nat → Prop} {D : va_G} {adV cA : Nat → Nat} {s : State} {H : Heap} (h : hp_Tab A D adV cA s H) : va_T .byte (adV 16) 100 (fun j => .int (hp_dt.getD j 0)) A s H := hp_TT (tm := Term.static "java/lang/Integer" "DigitTens" "[B") 100 hp_dt h (by decide) (by decide +kernel) ⟨7217, by decide +kernel⟩ ⟨2609, by decide +kernel⟩ hp_dt_e_p
def hp_all_e_t : List Nat := [4993, 7041, 6017, 8065, 2113, 5185, 7233, 2625, 5697, 7745, 2369, 5441]
theorem hp_all_e_p : ∀ i, i < 12 → hp_is (Cond.eq (.elem (Term.static "HallPhone$Verb" "ALL" "[LHallPhone$Verb;") (.int (Int32.ofNat i))) (hp_vn i)) := fun i h => ⟨hp_all_e_t.getD i 0, (by decide +kernel : ∀ i, i < 12 → hp_at 60 (hp_all_e_t.getD i 0) hp_pr0 = some (Cond.eq (.elem (Term.static "HallPhone$Verb" "ALL" "[LHallPhone$Verb;") (.int (Int32.ofNat i))) (hp_vn i))) i h⟩
theorem hp_all_T {A : Nat → Prop} {D : va_G} {adV cA : Nat → Nat} {s : State} {H : Heap} (h : hp_Tab A D adV cA s H) : va_T (.object "HallPhone$Verb") (adV 14) 12 (fun j => .ref (adV j)) A s H := hp_TT0 (tm := Term.static "HallPhone$Verb" "ALL" "[LHallPhone$Verb;") 12 (fun j => j) h (by decide) (by decide +kernel) ⟨2433, by decide +kernel⟩ ⟨5505, by decide +kernel⟩ (fun j hj => ⟨hp_vn j, hp_st_vn j hj, hp_all_e_p j hj⟩)
theorem hp_tx_T {A : Nat → Prop} {D : va_G} {adV cA : Nat → Nat} {s : State} {H : Heap} (h : hp_Tab A D adV cA s H) {j : Nat} (hj : j < 46) : va_T .byte (adV (120 + j)) (hp_tx (20 + j)).length (fun i => .int ((hp_tx (20 + j)).getD i 0)) A s H := hp_TT (tm := .field (hp_ts j) "java/lang/String" "value" "[B") _ (hp_tx (20 + j)) h (by have := hp_s_len j hj; omega) (hp_st_b j hj) (hp_s_ar_p j hj) (hp_s_le_p j hj) (hp_s_el_p j hj)
