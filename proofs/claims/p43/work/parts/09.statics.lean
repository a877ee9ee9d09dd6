abbrev hp_pr0 : Cond := Jvm.Cond.and given_1 narrow_1
/-- a part of a conjunction, by its place: a number's bits say left or right -/
def hp_at : Nat → Nat → Cond → Option Cond
  | 0, _, _ => none
  | f + 1, n, c => if n = 1 then some c else match c with
    | .and a b => hp_at f (n / 2) (if n % 2 = 0 then a else b)
    | _ => none
def hp_is (c : Cond) : Prop := ∃ n : Nat, hp_at 60 n hp_pr0 = some c
theorem hp_at_b {args : Array Value} {s : State} : ∀ (f n : Nat) (T c : Cond), hp_at f n T = some c → T.before args s = true → c.before args s = true := by
  intro f
  induction f with
  | zero => intro n T c h; cases h
  | succ f ih =>
    intro n T c h hT
    unfold hp_at at h
    split at h
    · cases h; exact hT
    · split at h
      · rename_i a b
        rw [Cond.before_and, Bool.and_eq_true] at hT
        split at h
        · exact ih _ _ _ h hT.1
        · exact ih _ _ _ h hT.2
      · cases h
theorem hp_is_b {args : Array Value} {s : State} {c : Cond} (h : hp_is c) (hT : hp_pr0.before args s = true) : c.before args s = true := by
  obtain ⟨n, hn⟩ := h
  exact hp_at_b _ _ _ _ hn hT
theorem hp_prem {A : Nat → Prop} {D : va_G} {adV cA : Nat → Nat} {s : State} {H : Heap} (h : hp_Tab A D adV cA s H) : ∃ (u0 : State) (b0 : Nat), (∀ w ∈ lw_tbl, w.before #[Value.ref b0] u0 = true) ∧ (∀ c : Cond, hp_is c → c.before #[Value.ref b0] u0 = true) ∧ u0.WarmedH s.vm ∧ (∀ a : Nat, a < u0.heap.size → ¬ A a) ∧ (∀ a : Nat, a < u0.heap.size → ¬ A a → H[a]? = u0.heap[a]?) ∧ hp_E adV u0 b0 := by
  obtain ⟨u0, b0, h1, h2, h3, h4, h5, h6⟩ := h
  exact ⟨u0, b0, h1, fun c hc => hp_is_b hc h2, h3, fun a ha => (h4 a ha).1, fun a ha _ => (h4 a ha).2, h6⟩
theorem hp_TZ {A : Nat → Prop} {D : va_G} {adV cA : Nat → Nat} {s : State} {H : Heap} {C n d : String} {k : Nat} (h : hp_Tab A D adV cA s H) (hl : Cond.laysStatic C n d ∈ lw_tbl) (hi : Cond.initialized C ∈ lw_tbl) (hk : (k, Term.static C n d) ∈ hp_st) : va_Z C n d (.ref (adV k)) A s H := by
  obtain ⟨u0, b0, h1, h2, h3, h4, h5, h6⟩ := hp_prem h
  exact ((va_Zof (h1 _ hl) (h1 _ hi) (h6 _ hk) h4).moved h3.alike).kept h5
theorem hp_TT {A : Nat → Prop} {D : va_G} {adV cA : Nat → Nat} {s : State} {H : Heap} {tm : Term} {ty : FieldType} {k : Nat} (N : Nat) (vals : List Int32) (h : hp_Tab A D adV cA s H) (hN : N < 2 ^ 31) (hk : (k, tm) ∈ hp_st) (ha : hp_is (Cond.arrayOf tm ty)) (hl : hp_is (Cond.eq (.length tm) (.int (Int32.ofNat N)))) (he : ∀ j, j < N → hp_is (Cond.eq (.elem tm (.int (Int32.ofNat j))) (.int (vals.getD j 0)))) : va_T ty (adV k) N (fun j => .int (vals.getD j 0)) A s H := by
  obtain ⟨u0, b0, h1, h2, h3, h4, h5, h6⟩ := hp_prem h
  obtain ⟨t, e1, hT⟩ := va_Tof (f := fun j => .int (vals.getD j 0)) (A := A) hN (h2 _ ha) (va_eqt (h2 _ hl)) (fun j hj => va_eqt (h2 _ (he j hj))) h4
  have e2 := h6 _ hk
  rw [e1] at e2
  cases e2
  exact (hT.moved h3.alike).kept h5
theorem hp_TOF {A : Nat → Prop} {D : va_G} {adV cA : Nat → Nat} {s : State} {H : Heap} {tm : Term} {o n d : String} {z : Int32} {k : Nat} (h : hp_Tab A D adV cA s H) (hk : (k, tm) ∈ hp_st) (hv : hp_is (Cond.eq (.field tm o n d) (.int z))) : va_OF o n d (.int z) (adV k) A s H := by
  obtain ⟨u0, b0, h1, h2, h3, h4, h5, h6⟩ := hp_prem h
  exact ((vk_OFof (h6 _ hk) (va_eqt (h2 _ hv)) h4).moved h3.alike).kept h5
theorem hp_TOFv {A : Nat → Prop} {D : va_G} {adV cA : Nat → Nat} {s : State} {H : Heap} {tm : Term} {o n d : String} {k k2 : Nat} (h : hp_Tab A D adV cA s H) (hk : (k, tm) ∈ hp_st) (hv : (k2, Term.field tm o n d) ∈ hp_st) : va_OF o n d (.ref (adV k2)) (adV k) A s H := by
  obtain ⟨u0, b0, h1, h2, h3, h4, h5, h6⟩ := hp_prem h
  exact ((vk_OFof (h6 _ hk) (h6 _ hv) h4).moved h3.alike).kept h5
theorem hp_eqr {args : Array Value} {s : State} {t u : Term} {a : Nat} (h : (Cond.eq t u).before args s = true) (hu : u.eval args s none [] s = some (.ref a)) : t.eval args s none [] s = some (.ref a) := by
  cases hv : t.eval args s none [] s with
  | none => simp [Cond.before, Cond.holds, Cond.value, hv] at h
  | some w =>
    simp only [Cond.before, Cond.holds, Cond.value, hv, hu] at h
    cases w <;> simp_all
theorem hp_TOFr {A : Nat → Prop} {D : va_G} {adV cA : Nat → Nat} {s : State} {H : Heap} {tm tu : Term} {o n d : String} {k k2 : Nat} (h : hp_Tab A D adV cA s H) (hk : (k, tm) ∈ hp_st) (hk2 : (k2, tu) ∈ hp_st) (hv : hp_is (Cond.eq (.field tm o n d) tu)) : va_OF o n d (.ref (adV k2)) (adV k) A s H := by
  obtain ⟨u0, b0, h1, h2, h3, h4, h5, h6⟩ := hp_prem h
  exact ((vk_OFof (h6 _ hk) (hp_eqr (h2 _ hv) (h6 _ hk2)) h4).moved h3.alike).kept h5
theorem hp_TO {A : Nat → Prop} {D : va_G} {adV cA : Nat → Nat} {s : State} {H : Heap} {tm : Term} {cls : String} {k : Nat} (h : hp_Tab A D adV cA s H) (hk : (k, tm) ∈ hp_st) (hv : hp_is (Cond.exactly tm cls)) : va_O cls (adV k) A s H := by
  obtain ⟨u0, b0, h1, h2, h3, h4, h5, h6⟩ := hp_prem h
  obtain ⟨a, c, cA, kA, q1, q2, q3, q4, q5, q6, -⟩ := Cond.exactly_spec (args := #[Value.ref b0]) (first := u0) (o := none) (s := u0) (idx := []) (t := tm) (cls := cls) (h2 _ hv)
  have e2 := h6 _ hk
  rw [q1] at e2
  cases e2
  have hO : va_O cls (adV k) A u0 u0.heap := ⟨cA, q3, q5, by rw [q6]; exact q2, h4 _ (Array.getElem?_eq_some_iff.mp q3).1⟩
  exact (hO.moved h3.alike).kept h5
theorem hp_TR {A : Nat → Prop} {D : va_G} {adV cA : Nat → Nat} {s : State} {H : Heap} {own tx : String} {i k : Nat} (h : hp_Tab A D adV cA s H) (hw : Cond.stringRef own i tx ∈ lw_tbl) (hk : (k, Term.string own i) ∈ hp_st) : vk_R own i tx (adV k) s := by
  obtain ⟨u0, b0, h1, h2, h3, h4, h5, h6⟩ := hp_prem h
  exact vk_R.warm h3 (vk_R.of (h1 _ hw) (h6 _ hk))
theorem hp_TT0 {A : Nat → Prop} {D : va_G} {adV cA : Nat → Nat} {s : State} {H : Heap} {C : String} {tm : Term} {k : Nat} (N : Nat) (vals : Nat → Nat) (h : hp_Tab A D adV cA s H) (hN : N < 2 ^ 31) (hk : (k, tm) ∈ hp_st) (ha : hp_is (Cond.arrayOf tm (.object C))) (hl : hp_is (Cond.eq (.length tm) (.int (Int32.ofNat N)))) (he : ∀ j, j < N → ∃ tu : Term, (vals j, tu) ∈ hp_st ∧ hp_is (Cond.eq (.elem tm (.int (Int32.ofNat j))) tu)) : va_T (.object C) (adV k) N (fun j => .ref (adV (vals j))) A s H := by
  obtain ⟨u0, b0, h1, h2, h3, h4, h5, h6⟩ := hp_prem h
  obtain ⟨t, e1, hT⟩ := va_Tof (f := fun j => .ref (adV (vals j))) (A := A) hN (h2 _ ha) (va_eqt (h2 _ hl)) (fun j hj => by obtain ⟨tu, g1, g2⟩ := he j hj; exact hp_eqr (h2 _ g2) (h6 _ g1)) h4
  have e2 := h6 _ hk
  rw [e1] at e2
  cases e2
  exact (hT.moved h3.alike).kept h5

def hp_vset : List Int32 := [0, 1, 2, 3, 4, 5, -1, -1, -1, -1, -1, -1]
def hp_vnam : List Int32 := [0, 0, 0, 0, 0, 0, 1, 1, 1, 1, 1, 0]
def hp_vlea : List Int32 := [0, 1, 0, 0, 1, 0, 1, 0, 0, 1, 1, 1]
def hp_vgre : List Int32 := [60, 30, 99, 9, 99, 20, 99, 0, 0, 99, 9999, 999]
def hp_vwor : List Nat := [29, 30, 31, 32, 33, 34, 35, 36, 37, 38, 39, 40]
def hp_fs : List Int32 := [0, 3, 4, 1, 5, 3]
def hp_sm : List Int32 := [0, 0, 0, 0, 0, 0, 1, 2, 3, 4, 5, 6]
/-- the texts, from number 20 on -/
def hp_txs : List (List Int32) := [[104, 111, 117, 115, 101, 32, 48, 32, 99, 117, 114, 105, 111, 117, 115, 32, 49, 32, 51, 32, 50, 32, 99, 117, 114, 105, 111, 117, 115, 32, 52, 59, 32, 108, 105, 109, 105, 116, 32, 54, 59, 32, 114, 105, 110, 103, 32, 52, 32, 53, 59, 32, 119, 97, 110, 116, 32, 49, 32, 56, 59, 32, 119, 97, 110, 116, 32, 51, 32, 52, 59, 32, 112, 97, 115, 115, 32, 51, 59, 32, 119, 97, 110, 116, 32, 48, 32, 49, 48, 59],
  [104, 111, 117, 115, 101, 32, 49, 32, 99, 117, 114, 105, 111, 117, 115, 32, 49, 32, 99, 117, 114, 105, 111, 117, 115, 32, 53, 32, 48, 59, 32, 117, 110, 105, 116, 32, 50, 59, 32, 114, 97, 116, 101, 32, 49, 48, 59, 32, 115, 101, 99, 114, 101, 116, 32, 51, 59, 32, 112, 97, 116, 105, 101, 110, 99, 101, 32, 50, 59, 32, 119, 97, 110, 116, 32, 50, 32, 57, 59, 32, 114, 105, 110, 103, 32, 49, 32, 52, 59, 32, 112, 97, 115, 115, 32, 56, 59, 32, 119, 97, 110, 116, 32, 51, 32, 51, 48, 59, 32, 112, 97, 115, 115, 32, 50, 59, 32, 108, 105, 109, 105, 116, 32, 54, 59, 32, 112, 97, 115, 115, 32, 51, 59, 32, 104, 97, 110, 103, 32, 51, 59, 32, 114, 105, 110, 103, 32, 50, 32, 51, 59, 32, 114, 105, 110, 103, 32, 51, 32, 53, 59, 32, 112, 97, 115, 115, 32, 49, 59, 32, 112, 97, 121, 32, 50, 32, 49, 50, 59],
  [104, 111, 117, 115, 101, 32, 57, 59, 32, 114, 97, 116, 101, 32, 48, 59, 32, 101, 97, 114, 32, 48, 59, 32, 112, 97, 116, 105, 101, 110, 99, 101, 32, 48, 59, 32, 119, 97, 110, 116, 32, 48, 32, 57, 57, 59, 32, 112, 97, 115, 115, 32, 50, 48, 59],
  [110, 111, 32, 115, 117, 99, 104, 32, 109, 101, 115, 115, 97, 103, 101],
  [110, 111, 32, 115, 117, 99, 104, 32, 115, 101, 116, 116, 105, 110, 103],
  [110, 111, 32, 115, 117, 99, 104, 32, 102, 108, 97, 116],
  [111, 117, 116, 32, 111, 102, 32, 114, 97, 110, 103, 101],
  [104, 111, 117, 115, 101],
  [99, 117, 114, 105, 111, 117, 115],
  [108, 105, 109, 105, 116],
  [117, 110, 105, 116],
  [114, 97, 116, 101],
  [101, 97, 114],
  [115, 101, 99, 114, 101, 116],
  [112, 97, 116, 105, 101, 110, 99, 101],
  [119, 97, 110, 116],
  [100, 114, 111, 112],
  [104, 97, 110, 103],
  [114, 105, 110, 103],
  [112, 97, 121],
  [112, 97, 115, 115]]
def hp_tx (k : Nat) : List Int32 := hp_txs.getD (k - 20) []
theorem hp_st_v : ∀ i, i < 12 → (i, Term.static "HallPhone$Verb" (["LIMIT", "UNIT", "RATE", "EAR", "SECRET", "PATIENCE", "WANT", "DROP", "HANG", "RING", "PAY", "PASS"].getD i "") "LHallPhone$Verb;") ∈ hp_st := by decide +kernel
def hp_vn (i : Nat) : Term := Term.static "HallPhone$Verb" (["LIMIT", "UNIT", "RATE", "EAR", "SECRET", "PATIENCE", "WANT", "DROP", "HANG", "RING", "PAY", "PASS"].getD i "") "LHallPhone$Verb;"
theorem hp_st_vn : ∀ i, i < 12 → (i, hp_vn i) ∈ hp_st := by decide +kernel
def hp_vset_t : List Nat := [3313, 3849, 3913, 3881, 3305, 2457, 3601, 2449, 2897, 3809, 1073, 2481]
theorem hp_vset_p : ∀ i, i < 12 → hp_is (Cond.eq (.field (hp_vn i) "HallPhone$Verb" "setting" "I") (.int (hp_vset.getD i 0))) := fun i h => ⟨hp_vset_t.getD i 0, (by decide +kernel : ∀ i, i < 12 → hp_at 60 (hp_vset_t.getD i 0) hp_pr0 = some (Cond.eq (.field (hp_vn i) "HallPhone$Verb" "setting" "I") (.int (hp_vset.getD i 0)))) i h⟩
def hp_vnam_t : List Nat := [2801, 1161, 2249, 1193, 2793, 3481, 2321, 3473, 3921, 2529, 2609, 3505]
theorem hp_vnam_p : ∀ i, i < 12 → hp_is (Cond.eq (.field (hp_vn i) "HallPhone$Verb" "namesFlat" "Z") (.int (hp_vnam.getD i 0))) := fun i h => ⟨hp_vnam_t.getD i 0, (by decide +kernel : ∀ i, i < 12 → hp_at 60 (hp_vnam_t.getD i 0) hp_pr0 = some (Cond.eq (.field (hp_vn i) "HallPhone$Verb" "namesFlat" "Z") (.int (hp_vnam.getD i 0)))) i h⟩
def hp_vlea_t : List Nat := [3825, 2697, 3273, 2729, 3817, 2969, 3345, 2961, 2257, 3553, 3633, 2993]
theorem hp_vlea_p : ∀ i, i < 12 → hp_is (Cond.eq (.field (hp_vn i) "HallPhone$Verb" "least" "I") (.int (hp_vlea.getD i 0))) := fun i h => ⟨hp_vlea_t.getD i 0, (by decide +kernel : ∀ i, i < 12 → hp_at 60 (hp_vlea_t.getD i 0) hp_pr0 = some (Cond.eq (.field (hp_vn i) "HallPhone$Verb" "least" "I") (.int (hp_vlea.getD i 0)))) i h⟩
def hp_vgre_t : List Nat := [2545, 3721, 2761, 3753, 2537, 3993, 2833, 3985, 3281, 3041, 2353, 4017]
theorem hp_vgre_p : ∀ i, i < 12 → hp_is (Cond.eq (.field (hp_vn i) "HallPhone$Verb" "greatest" "I") (.int (hp_vgre.getD i 0))) := fun i h => ⟨hp_vgre_t.getD i 0, (by decide +kernel : ∀ i, i < 12 → hp_at 60 (hp_vgre_t.getD i 0) hp_pr0 = some (Cond.eq (.field (hp_vn i) "HallPhone$Verb" "greatest" "I") (.int (hp_vgre.getD i 0)))) i h⟩
def hp_vord_t : List Nat := [3953, 3337, 3401, 3369, 3945, 2713, 1041, 2705, 2385, 3297, 3025, 2737]
theorem hp_vord_p : ∀ i, i < 12 → hp_is (Cond.eq (.field (hp_vn i) "java/lang/Enum" "ordinal" "I") (.int (Int32.ofNat i))) := fun i h => ⟨hp_vord_t.getD i 0, (by decide +kernel : ∀ i, i < 12 → hp_at 60 (hp_vord_t.getD i 0) hp_pr0 = some (Cond.eq (.field (hp_vn i) "java/lang/Enum" "ordinal" "I") (.int (Int32.ofNat i)))) i h⟩
def hp_vexa_t : List Nat := [2929, 2313, 2377, 2345, 2921, 1177, 4065, 1169, 3665, 2273, 3537, 3249]
theorem hp_vexa_p : ∀ i, i < 12 → hp_is (Cond.exactly (hp_vn i) "HallPhone$Verb") := fun i h => ⟨hp_vexa_t.getD i 0, (by decide +kernel : ∀ i, i < 12 → hp_at 60 (hp_vexa_t.getD i 0) hp_pr0 = some (Cond.exactly (hp_vn i) "HallPhone$Verb")) i h⟩
def hp_sn : List (String × Nat) := [("HallPhone", 57), ("HallPhone", 79), ("HallPhone", 81), ("HallPhone", 122), ("HallPhone", 253), ("HallPhone", 292), ("HallPhone", 295), ("HallPhone$Reader", 70), ("HallPhone$Reader", 85), ("HallPhone$Verb", 83), ("HallPhone$Verb", 89), ("HallPhone$Verb", 92), ("HallPhone$Verb", 95), ("HallPhone$Verb", 98), ("HallPhone$Verb", 101), ("HallPhone$Verb", 104), ("HallPhone$Verb", 107), ("HallPhone$Verb", 110), ("HallPhone$Verb", 113), ("HallPhone$Verb", 116), ("HallPhone$Verb", 119)]
def hp_ts (j : Nat) : Term := .string (hp_sn.getD j ("", 0)).1 (hp_sn.getD j ("", 0)).2
theorem hp_st_s : ∀ j, j < 21 → (20 + j, hp_ts j) ∈ hp_st := by decide +kernel
theorem hp_st_b : ∀ j, j < 21 → (120 + j, Term.field (hp_ts j) "java/lang/String" "value" "[B") ∈ hp_st := by decide +kernel
def hp_vwor_t : List Nat := [2289, 2825, 2889, 2857, 2281, 3737, 2577, 3729, 3409, 2785, 4049, 3761]
theorem hp_vwor_p : ∀ i, i < 12 → hp_is (Cond.eq (.field (hp_vn i) "HallPhone$Verb" "word" "Ljava/lang/String;") (hp_ts (hp_vwor.getD i 0 - 20))) := fun i h => ⟨hp_vwor_t.getD i 0, (by decide +kernel : ∀ i, i < 12 → hp_at 60 (hp_vwor_t.getD i 0) hp_pr0 = some (Cond.eq (.field (hp_vn i) "HallPhone$Verb" "word" "Ljava/lang/String;") (hp_ts (hp_vwor.getD i 0 - 20)))) i h⟩
def hp_s_ex_t : List Nat := [2521, 1141, 2531, 2923, 2763, 2571, 2517, 3605, 2965, 3671, 2487, 2831, 2607, 2543, 2527, 2875, 3323, 2951, 2395, 2343, 2791]
theorem hp_s_ex_p : ∀ j, j < 21 → hp_is (Cond.exactly (hp_ts j) "java/lang/String") := fun j h => ⟨hp_s_ex_t.getD j 0, (by decide +kernel : ∀ j, j < 21 → hp_at 60 (hp_s_ex_t.getD j 0) hp_pr0 = some (Cond.exactly (hp_ts j) "java/lang/String")) j h⟩
def hp_s_co_t : List Nat := [3545, 2677, 3555, 3947, 3787, 3595, 3541, 2325, 3989, 2391, 3511, 3855, 3631, 3567, 3551, 3899, 2811, 3975, 3419, 3367, 3815]
theorem hp_s_co_p : ∀ j, j < 21 → hp_is (Cond.eq (.field (hp_ts j) "java/lang/String" "coder" "B") (.int 0)) := fun j h => ⟨hp_s_co_t.getD j 0, (by decide +kernel : ∀ j, j < 21 → hp_at 60 (hp_s_co_t.getD j 0) hp_pr0 = some (Cond.eq (.field (hp_ts j) "java/lang/String" "coder" "B") (.int 0))) j h⟩
def hp_s_ar_t : List Nat := [3033, 3701, 3043, 2283, 2507, 2315, 3029, 3349, 1109, 3415, 2999, 1167, 2351, 3055, 3039, 2235, 3835, 1095, 2907, 2855, 2535]
theorem hp_s_ar_p : ∀ j, j < 21 → hp_is (Cond.arrayOf (.field (hp_ts j) "java/lang/String" "value" "[B") .byte) := fun j h => ⟨hp_s_ar_t.getD j 0, (by decide +kernel : ∀ j, j < 21 → hp_at 60 (hp_s_ar_t.getD j 0) hp_pr0 = some (Cond.arrayOf (.field (hp_ts j) "java/lang/String" "value" "[B") .byte)) j h⟩
def hp_s_le_t : List Nat := [4057, 2421, 4067, 3307, 3531, 3339, 4053, 2837, 2645, 2903, 4023, 2703, 3375, 4079, 4063, 3259, 2555, 2631, 3931, 3879, 3559]
theorem hp_s_le_p : ∀ j, j < 21 → hp_is (Cond.eq (.length (.field (hp_ts j) "java/lang/String" "value" "[B")) (.int (Int32.ofNat (hp_tx (20 + j)).length))) := fun j h => ⟨hp_s_le_t.getD j 0, (by decide +kernel : ∀ j, j < 21 → hp_at 60 (hp_s_le_t.getD j 0) hp_pr0 = some (Cond.eq (.length (.field (hp_ts j) "java/lang/String" "value" "[B")) (.int (Int32.ofNat (hp_tx (20 + j)).length)))) j h⟩
def hp_s_el_t : List (List Nat) := [[1081, 2617, 3641, 2361, 3385, 2873, 3897, 2233, 3257, 2745, 3769, 2489, 3513, 3001, 4025, 1145, 2681, 3705, 2425, 3449, 2937, 3961, 2297, 3321, 2809, 3833, 2553, 3577, 3065, 4089, 1029, 2565, 3589, 2309, 3333, 2821, 3845, 1157, 2693, 3717, 2437, 3461, 2949, 3973, 1093, 2629, 3653, 2373, 3397, 2885, 3909, 2245, 3269, 2757, 3781, 2501, 3525, 3013, 4037, 1061, 2597, 3621, 2341, 3365, 2853, 3877, 1189, 2725, 3749, 2469, 3493, 2981, 4005, 1125, 2661, 3685, 2405, 3429, 2917, 3941, 2277, 3301, 2789, 3813, 2533, 3557, 3045, 4069, 1045, 2581], [3445, 2933, 3957, 2293, 3317, 2805, 3829, 2549, 3573, 3061, 4085, 1037, 2573, 3597, 2317, 3341, 2829, 3853, 1165, 2701, 3725, 2445, 3469, 2957, 3981, 1101, 2637, 3661, 2381, 3405, 2893, 3917, 2253, 3277, 2765, 3789, 2509, 3533, 3021, 4045, 1069, 2605, 3629, 2349, 3373, 2861, 3885, 2221, 3245, 2733, 3757, 2477, 3501, 2989, 4013, 1133, 2669, 3693, 2413, 3437, 2925, 3949, 2285, 3309, 2797, 3821, 2541, 3565, 3053, 4077, 1053, 2589, 3613, 2333, 3357, 2845, 3869, 1181, 2717, 3741, 2461, 3485, 2973, 3997, 1117, 2653, 3677, 2397, 3421, 2909, 3933, 2269, 3293, 2781, 3805, 2525, 3549, 3037, 4061, 1085, 2621, 3645, 2365, 3389, 2877, 3901, 2237, 3261, 2749, 3773, 2493, 3517, 3005, 4029, 1149, 2685, 3709, 2429, 3453, 2941, 3965, 2301, 3325, 2813, 3837, 2557, 3581, 3069, 4093, 1027, 2563, 3587, 2307, 3331, 2819, 3843, 1155, 2691, 3715, 2435, 3459, 2947, 3971, 1091, 2627, 3651, 2371, 3395, 2883, 3907, 2243, 3267, 2755, 3779, 2499, 3523, 3011, 4035, 1059, 2595, 3619, 2339, 3363, 2851, 3875, 1187, 2723, 3747, 2467, 3491, 2979, 4003, 1123, 2659, 3683, 2403, 3427, 2915, 3939], [1043, 2579, 3603, 2323, 3347, 2835, 3859, 1171, 2707, 3731, 2451, 3475, 2963, 3987, 1107, 2643, 3667, 2387, 3411, 2899, 3923, 2259, 3283, 2771, 3795, 2515, 3539, 3027, 4051, 1075, 2611, 3635, 2355, 3379, 2867, 3891, 2227, 3251, 2739, 3763, 2483, 3507, 2995, 4019, 1139, 2675, 3699, 2419, 3443, 2931, 3955, 2291, 3315, 2803, 3827], [2795, 3819, 2539, 3563, 3051, 4075, 1051, 2587, 3611, 2331, 3355, 2843, 3867, 1179, 2715], [3019, 4043, 1067, 2603, 3627, 2347, 3371, 2859, 3883, 2219, 3243, 2731, 3755, 2475, 3499], [2827, 3851, 1163, 2699, 3723, 2443, 3467, 2955, 3979, 1099, 2635, 3659], [1077, 2613, 3637, 2357, 3381, 2869, 3893, 2229, 3253, 2741, 3765, 2485], [3861, 1173, 2709, 3733, 2453], [3669, 2389, 3413, 2901, 3925, 2261, 3285], [3927, 2263, 3287, 2775, 3799], [1143, 2679, 3703, 2423], [3727, 2447, 3471, 2959], [2863, 3887, 2223], [1055, 2591, 3615, 2335, 3359, 2847], [1087, 2623, 3647, 2367, 3391, 2879, 3903, 2239], [2747, 3771, 2491, 3515], [3579, 3067, 4091, 1031], [3655, 2375, 3399, 2887], [2267, 3291, 2779, 3803], [1191, 2727, 3751], [3047, 4071, 1047, 2583]]
theorem hp_s_el_p : ∀ j, j < 21 → ∀ i, i < (hp_tx (20 + j)).length → hp_is (Cond.eq (.elem (.field (hp_ts j) "java/lang/String" "value" "[B") (.int (Int32.ofNat i))) (.int ((hp_tx (20 + j)).getD i 0))) := fun j hj i hi => ⟨(hp_s_el_t.getD j []).getD i 0, (by decide +kernel : ∀ j, j < 21 → ∀ i, i < (hp_tx (20 + j)).length → hp_at 60 ((hp_s_el_t.getD j []).getD i 0) hp_pr0 = some (Cond.eq (.elem (.field (hp_ts j) "java/lang/String" "value" "[B") (.int (Int32.ofNat i))) (.int ((hp_tx (20 + j)).getD i 0)))) j hj i hi⟩
theorem hp_s_len : ∀ j, j < 21 → (hp_tx (20 + j)).length < 200 := by decide +kernel
def hp_fs_e_t : List Nat := [2433, 3457, 2945, 3969, 1089, 2625]
theorem hp_fs_e_p : ∀ i, i < 6 → hp_is (Cond.eq (.elem (Term.static "HallPhone" "FIRST_SETTINGS" "[I") (.int (Int32.ofNat i))) (.int (hp_fs.getD i 0))) := fun i h => ⟨hp_fs_e_t.getD i 0, (by decide +kernel : ∀ i, i < 6 → hp_at 60 (hp_fs_e_t.getD i 0) hp_pr0 = some (Cond.eq (.elem (Term.static "HallPhone" "FIRST_SETTINGS" "[I") (.int (Int32.ofNat i))) (.int (hp_fs.getD i 0)))) i h⟩
theorem hp_fs_T {A : Nat → Prop} {D : va_G} {adV cA : Nat → Nat} {s : State} {H : Heap} (h : hp_Tab A D adV cA s H) : va_T .int (adV 12) 6 (fun j => .int (hp_fs.getD j 0)) A s H := hp_TT (tm := Term.static "HallPhone" "FIRST_SETTINGS" "[I") 6 hp_fs h (by decide) (by decide +kernel) ⟨2689, by decide +kernel⟩ ⟨3713, by decide +kernel⟩ hp_fs_e_p
def hp_sm_e_t : List Nat := [1185, 2721, 3745, 2465, 3489, 2977, 4001, 1121, 2657, 3681, 2401, 3425]
theorem hp_sm_e_p : ∀ i, i < 12 → hp_is (Cond.eq (.elem (Term.static "HallPhone$1" "$SwitchMap$HallPhone$Verb" "[I") (.int (Int32.ofNat i))) (.int (hp_sm.getD i 0))) := fun i h => ⟨hp_sm_e_t.getD i 0, (by decide +kernel : ∀ i, i < 12 → hp_at 60 (hp_sm_e_t.getD i 0) hp_pr0 = some (Cond.eq (.elem (Term.static "HallPhone$1" "$SwitchMap$HallPhone$Verb" "[I") (.int (Int32.ofNat i))) (.int (hp_sm.getD i 0)))) i h⟩
theorem hp_sm_T {A : Nat → Prop} {D : va_G} {adV cA : Nat → Nat} {s : State} {H : Heap} (h : hp_Tab A D adV cA s H) : va_T .int (adV 13) 12 (fun j => .int (hp_sm.getD j 0)) A s H := hp_TT (tm := Term.static "HallPhone$1" "$SwitchMap$HallPhone$Verb" "[I") 12 hp_sm h (by decide) (by decide +kernel) ⟨2849, by decide +kernel⟩ ⟨3873, by decide +kernel⟩ hp_sm_e_p
def hp_all_e_t : List Nat := [2241, 3265, 2753, 3777, 2497, 3521, 3009, 4033, 1057, 2593, 3617, 2337]
theorem hp_all_e_p : ∀ i, i < 12 → hp_is (Cond.eq (.elem (Term.static "HallPhone$Verb" "ALL" "[LHallPhone$Verb;") (.int (Int32.ofNat i))) (hp_vn i)) := fun i h => ⟨hp_all_e_t.getD i 0, (by decide +kernel : ∀ i, i < 12 → hp_at 60 (hp_all_e_t.getD i 0) hp_pr0 = some (Cond.eq (.elem (Term.static "HallPhone$Verb" "ALL" "[LHallPhone$Verb;") (.int (Int32.ofNat i))) (hp_vn i))) i h⟩
theorem hp_all_T {A : Nat → Prop} {D : va_G} {adV cA : Nat → Nat} {s : State} {H : Heap} (h : hp_Tab A D adV cA s H) : va_T (.object "HallPhone$Verb") (adV 14) 12 (fun j => .ref (adV j)) A s H := hp_TT0 (tm := Term.static "HallPhone$Verb" "ALL" "[LHallPhone$Verb;") 12 (fun j => j) h (by decide) (by decide +kernel) ⟨3393, by decide +kernel⟩ ⟨2881, by decide +kernel⟩ (fun j hj => ⟨hp_vn j, hp_st_vn j hj, hp_all_e_p j hj⟩)
theorem hp_tx_T {A : Nat → Prop} {D : va_G} {adV cA : Nat → Nat} {s : State} {H : Heap} (h : hp_Tab A D adV cA s H) {j : Nat} (hj : j < 21) : va_T .byte (adV (120 + j)) (hp_tx (20 + j)).length (fun i => .int ((hp_tx (20 + j)).getD i 0)) A s H := hp_TT (tm := .field (hp_ts j) "java/lang/String" "value" "[B") _ (hp_tx (20 + j)) h (by have := hp_s_len j hj; omega) (hp_st_b j hj) (hp_s_ar_p j hj) (hp_s_le_p j hj) (hp_s_el_p j hj)
