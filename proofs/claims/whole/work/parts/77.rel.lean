/-! the relation between the two memories, piece by piece -/
/-- a thread's parts: how many, kinds, numbers, counts by kinds, the year -/
def z_thB (N : Nat) (K A B : Nat → Int32) (Y : Nat) : Prop := 1 ≤ N ∧ N ≤ 24 ∧ Y ≤ 99 ∧ ∀ p, p < N → (∃ k, k < 4 ∧ K p = Int32.ofNat k) ∧ (∃ a, a ≤ 40000 ∧ A p = Int32.ofNat a) ∧ (∃ b, b ≤ 30000 ∧ B p = Int32.ofNat b) ∧ (K p = 1 → A p = 0)
def z_thC (c : mm_M) (t N : Nat) (K A B H : Nat → Int32) (Y : Nat) : Prop := c 5 t 4 = Int32.ofNat N ∧ c 5 t 5 = Int32.ofNat Y ∧ ∀ p, p < N → c 37 t p = K p ∧ c 38 t p = A p ∧ c 39 t p = B p ∧ c 40 t p = H p
def z_thM (m : mm_M) (t N : Nat) (K A B H : Nat → Int32) (Y : Nat) : Prop := m 67 0 t = Int32.ofNat N ∧ m 68 0 t = Int32.ofNat Y ∧ ∀ p, p < N → m 69 0 (24 * t + p) = K p ∧ m 70 0 (24 * t + p) = A p ∧ m 71 0 (24 * t + p) = B p ∧ m 72 0 (24 * t + p) = H p
def j_str (c m : mm_M) : Prop := ∃ T, T ≤ 8 ∧ c 0 0 2 = Int32.ofNat T ∧ m 12 0 4 = Int32.ofNat T ∧ ∀ t, t < T → ∃ N K A B H Y, z_thB N K A B Y ∧ z_thC c t N K A B H Y ∧ z_thM m t N K A B H Y
def j_tap (c m : mm_M) : Prop := ∃ n, n ≤ 400 ∧ c 1 0 1 = Int32.ofNat n ∧ m 12 0 21 = Int32.ofNat n ∧ ∀ k, k < n → ∃ b, b < 256 ∧ m 80 0 k = Int32.ofNat b ∧ c 15 0 k = (Int32.ofNat b).toInt8.toInt32
/-- a law's code: a row of signs and numbers; what the reference keeps of each -/
def z_op (s : Int32) : Int32 := if s = 43 then 1 else if s = 45 then 2 else if s = 42 then 3 else if s = 47 then 4 else if s = 60 then 5 else if s = 61 then 6 else if s = 262 then 7 else if s = 263 then 9 else 8
def z_en (e : Int32 × Int32) : List Int32 := if e.1 = 2 then [0, e.2] else if 264 ≤ e.1.toInt ∧ e.1.toInt ≤ 268 then [20 + (e.1 - 264)] else [z_op e.1]
def z_enc : List (Int32 × Int32) → List Int32
  | [] => []
  | e :: r => z_en e ++ z_enc r
/-- how many are held behind the code, if no more than 40 are held at once and none is wanting -/
def z_dep : List (Int32 × Int32) → Nat → Option Nat
  | [], h => some h
  | e :: r, h => if e.1 = 2 ∨ (264 ≤ e.1.toInt ∧ e.1.toInt ≤ 268) then (if h < 40 then z_dep r (h + 1) else none) else if e.1 = 263 then (if 0 < h then z_dep r h else none) else if e.1 = 43 ∨ e.1 = 45 ∨ e.1 = 42 ∨ e.1 = 47 ∨ e.1 = 60 ∨ e.1 = 61 ∨ e.1 = 262 ∨ e.1 = 261 then (if 1 < h then z_dep r (h - 1) else none) else none
def z_cdC (c : mm_M) (i k : Nat) (o : Option (List (Int32 × Int32))) : Prop := match o with
  | none => c 21 i k = -1
  | some cd => ∃ b, c 21 i k = Int32.ofNat b ∧ c 22 i k = Int32.ofNat (b + cd.length) ∧ b + cd.length ≤ 400 ∧ ∀ j e, cd[j]? = some e → c 19 i (b + j) = e.1 ∧ c 20 i (b + j) = e.2
def z_cdM (m : mm_M) (k : Nat) (o : Option (List (Int32 × Int32))) : Prop := match o with
  | none => m 86 0 k = 0
  | some cd => m 86 0 k = 1 ∧ ∃ b, m 81 0 k = Int32.ofNat b ∧ m 82 0 k = Int32.ofNat (b + (z_enc cd).length) ∧ b + (z_enc cd).length ≤ 800 ∧ ∀ j e, (z_enc cd)[j]? = some e → m 83 0 (b + j) = e
def j_law (c m : mm_M) : Prop := ∃ (lw : Nat → Option (List (Int32 × Int32))) (r : Nat), r < 2 ∧ c 0 0 3 = Int32.ofNat r ∧ c 0 0 4 = Int32.ofNat (1 - r) ∧ (∀ k, k < 4 → z_cdC c r k (lw k)) ∧ (∀ k, k < 4 → z_cdM m k (lw k)) ∧ ∀ k cd, lw k = some cd → z_dep cd 0 = some 1
def z_ev (c m : mm_M) (e : Nat) : Prop := c 25 0 e = m 73 0 e ∧ c 26 0 e = m 74 0 e ∧ c 27 0 e = m 75 0 e ∧ c 28 0 e = m 76 0 e ∧ c 29 0 e = m 77 0 e ∧ c 30 0 e = m 78 0 e ∧ c 31 0 e = m 79 0 e ∧ (∃ k, k < 4 ∧ c 25 0 e = Int32.ofNat k) ∧ (∃ t, t < 8 ∧ Int32.ofNat t < c 0 0 2 ∧ c 26 0 e = Int32.ofNat t ∧ ∃ p, p < 24 ∧ c 27 0 e = Int32.ofNat p ∧ (c 25 0 e = 1 → c 37 t p = 0)) ∧ (∃ x, x ≤ 40000 ∧ c 28 0 e = Int32.ofNat x) ∧ ∃ d, d ≤ 36499 ∧ c 29 0 e = Int32.ofNat d
/-- told ahead of another one, by days, of like ones by number -/
def z_bf (c : mm_M) (a b : Nat) : Prop := (c 29 0 a).toInt < (c 29 0 b).toInt ∨ ((c 29 0 a).toInt = (c 29 0 b).toInt ∧ a < b)
def j_ev (c m : mm_M) : Prop := ∃ E, E ≤ 120 ∧ c 3 0 8 = Int32.ofNat E ∧ m 12 0 6 = Int32.ofNat E ∧ (∀ e, e < E → z_ev c m e) ∧ ∃ l : List Nat, l.Perm (List.range E) ∧ (∀ i e, l[i]? = some e → c 32 0 i = Int32.ofNat e) ∧ l.Pairwise (z_bf c)
def j_row (c m : mm_M) : Prop := (c 6 0 3 = -1 ∧ m 12 0 46 = 0) ∨ ∃ n, n ≤ 49 ∧ c 6 0 3 = Int32.ofNat n ∧ m 12 0 46 = 1 ∧ m 12 0 57 = Int32.ofNat n ∧ ∀ i, i < n → c 41 0 i = m 98 0 i ∧ c 42 0 i = m 99 0 i ∧ c 43 0 i = m 100 0 i
def z_told (c m : mm_M) (s : Nat) : Prop := (c 6 (1 + s) 3 = -1 ∧ m 105 0 s = -1) ∨ ∃ n, n ≤ 49 ∧ c 6 (1 + s) 3 = Int32.ofNat n ∧ m 105 0 s = Int32.ofNat n ∧ ∀ i, i < n → c 41 (1 + s) i = m 106 0 (60 * s + i) ∧ c 42 (1 + s) i = m 107 0 (60 * s + i)
def j_inq (c m : mm_M) : Prop := ((c 7 0 0 = -1 ∧ m 12 0 61 = -1) ∨ ∃ t, t < 8 ∧ Int32.ofNat t < c 0 0 2 ∧ c 7 0 0 = Int32.ofNat t ∧ m 12 0 61 = Int32.ofNat t) ∧ (∃ s, s ≤ 8 ∧ c 7 0 3 = Int32.ofNat s ∧ m 12 0 62 = Int32.ofNat s ∧ ∀ i, i < s → c 45 0 i = m 103 0 i ∧ c 46 0 i = m 104 0 i ∧ (∃ p, p < 24 ∧ c 45 0 i = Int32.ofNat p) ∧ ∃ x, x ≤ 20000 ∧ c 46 0 i = Int32.ofNat x) ∧ z_told c m 0 ∧ z_told c m 1
def j_net (c m : mm_M) : Prop := ∃ C, C ≤ 10 ∧ c 9 0 5 = Int32.ofNat C ∧ m 12 0 77 = Int32.ofNat C ∧ ∀ i, i < C → c 52 0 i = m 112 0 i ∧ c 53 0 i = m 113 0 i ∧ c 54 0 i = m 114 0 i ∧ c 55 0 i = m 115 0 i ∧ (∃ a, a < 8 ∧ c 52 0 i = Int32.ofNat a) ∧ (∃ b, b < 8 ∧ c 53 0 i = Int32.ofNat b) ∧ (∃ t, t < 8 ∧ Int32.ofNat t < c 0 0 2 ∧ c 54 0 i = Int32.ofNat t) ∧ ∃ x, 1 ≤ x ∧ x ≤ 8 ∧ c 55 0 i = Int32.ofNat x
def j_tsk (c m : mm_M) : Prop := ∃ k, k ≤ 6 ∧ c 9 0 8 = Int32.ofNat k ∧ m 12 0 78 = Int32.ofNat k ∧ ∀ i, i < k → c 57 0 i = m 117 0 i ∧ c 58 0 i = m 118 0 i ∧ (∃ a, a < 8 ∧ c 57 0 i = Int32.ofNat a) ∧ ∃ b, b < 8 ∧ c 58 0 i = Int32.ofNat b
def j_dl (c m : mm_M) : Prop := c 9 0 18 = m 12 0 94 ∧ ∀ k : Nat, (k : Int) < (c 9 0 18).toInt → c 61 0 k = m 128 0 k
def j_alo (c m : mm_M) : Prop := ∃ a b, a ≤ 8 ∧ b ≤ 8 ∧ c 10 3 1 = Int32.ofNat a ∧ c 10 4 1 = Int32.ofNat b ∧ m 12 0 80 = Int32.ofNat (a + b) ∧ (∀ i, i < a → c 62 3 i = m 124 0 i) ∧ ∀ i, i < b → c 62 4 i = m 124 0 (a + i)
def j_she (c m : mm_M) : Prop := ∃ S, S ≤ 8 ∧ c 0 0 15 = Int32.ofNat S ∧ m 12 0 99 = Int32.ofNat S ∧ (∀ s, s < S → (∃ x, x < 3 ∧ c 11 s 1 = Int32.ofNat x ∧ m 129 0 s = Int32.ofNat x) ∧ (c 11 s 2 = m 130 0 s ∧ -1 ≤ (c 11 s 2).toInt ∧ (c 11 s 2).toInt ≤ 24) ∧ ∀ k, k < 24 → c 63 s k = m 131 0 (24 * s + k)) ∧ ∀ s, S ≤ s → s < 8 → ∀ k, k < 24 → c 63 s k = 0
/-! each piece speaks of its own places alone -/
theorem j_day_fr {c m c' m' : mm_M} (hc : ∀ g i k, z_in [(0, none, some 6)] g i k = true → c' g i k = c g i k) (hm : ∀ g i k, z_in [(12, none, some 5)] g i k = true → m' g i k = m g i k) (h : j_day c m) : j_day c' m' := by
  unfold j_day at h ⊢
  simp only [fun i => hc 0 i 6 rfl, fun i => hm 12 i 5 rfl]
  exact h
theorem j_fault_fr {c m c' m' : mm_M} (hc : ∀ g i k, z_in [(0, none, some 5)] g i k = true → c' g i k = c g i k) (hm : ∀ g i k, z_in [(12, none, some 31)] g i k = true → m' g i k = m g i k) (h : j_fault c m) : j_fault c' m' := by
  unfold j_fault at h ⊢
  simp only [fun i => hc 0 i 5 rfl, fun i => hm 12 i 31 rfl]
  exact h
theorem j_dead_fr {c m c' m' : mm_M} (hc : ∀ g i k, z_in [(0, none, some 9)] g i k = true → c' g i k = c g i k) (hm : ∀ g i k, z_in [(12, none, some 43)] g i k = true → m' g i k = m g i k) (h : j_dead c m) : j_dead c' m' := by
  unfold j_dead at h ⊢
  simp only [fun i => hc 0 i 9 rfl, fun i => hm 12 i 43 rfl]
  exact h
theorem j_str_fr {c m c' m' : mm_M} (hc : ∀ g i k, z_in [(0, none, some 2), (5, none, none), (37, none, none), (38, none, none), (39, none, none), (40, none, none)] g i k = true → c' g i k = c g i k) (hm : ∀ g i k, z_in [(12, none, some 4), (67, none, none), (68, none, none), (69, none, none), (70, none, none), (71, none, none), (72, none, none)] g i k = true → m' g i k = m g i k) (h : j_str c m) : j_str c' m' := by
  unfold j_str at h ⊢
  simp only [z_thC, z_thM] at h ⊢
  simp only [fun i => hc 0 i 2 rfl, fun i k => hc 5 i k rfl, fun i k => hc 37 i k rfl, fun i k => hc 38 i k rfl, fun i k => hc 39 i k rfl, fun i k => hc 40 i k rfl, fun i => hm 12 i 4 rfl, fun i k => hm 67 i k rfl, fun i k => hm 68 i k rfl, fun i k => hm 69 i k rfl, fun i k => hm 70 i k rfl, fun i k => hm 71 i k rfl, fun i k => hm 72 i k rfl]
  exact h
theorem j_tap_fr {c m c' m' : mm_M} (hc : ∀ g i k, z_in [(1, none, some 1), (15, none, none)] g i k = true → c' g i k = c g i k) (hm : ∀ g i k, z_in [(12, none, some 21), (80, none, none)] g i k = true → m' g i k = m g i k) (h : j_tap c m) : j_tap c' m' := by
  unfold j_tap at h ⊢
  simp only [fun i => hc 1 i 1 rfl, fun i k => hc 15 i k rfl, fun i => hm 12 i 21 rfl, fun i k => hm 80 i k rfl]
  exact h
theorem j_ev_fr {c m c' m' : mm_M} (hc : ∀ g i k, z_in [(0, none, some 2), (37, none, none), (3, none, some 8), (25, none, none), (26, none, none), (27, none, none), (28, none, none), (29, none, none), (30, none, none), (31, none, none), (32, none, none)] g i k = true → c' g i k = c g i k) (hm : ∀ g i k, z_in [(12, none, some 6), (73, none, none), (74, none, none), (75, none, none), (76, none, none), (77, none, none), (78, none, none), (79, none, none)] g i k = true → m' g i k = m g i k) (h : j_ev c m) : j_ev c' m' := by
  unfold j_ev at h ⊢
  have eb : z_bf c' = z_bf c := by
    funext a b
    unfold z_bf
    simp only [fun i => hc 0 i 2 rfl, fun i k => hc 37 i k rfl, fun i => hc 3 i 8 rfl, fun i k => hc 25 i k rfl, fun i k => hc 26 i k rfl, fun i k => hc 27 i k rfl, fun i k => hc 28 i k rfl, fun i k => hc 29 i k rfl, fun i k => hc 30 i k rfl, fun i k => hc 31 i k rfl, fun i k => hc 32 i k rfl]
  rw [eb]
  simp only [z_ev] at h ⊢
  simp only [fun i => hc 0 i 2 rfl, fun i k => hc 37 i k rfl, fun i => hc 3 i 8 rfl, fun i k => hc 25 i k rfl, fun i k => hc 26 i k rfl, fun i k => hc 27 i k rfl, fun i k => hc 28 i k rfl, fun i k => hc 29 i k rfl, fun i k => hc 30 i k rfl, fun i k => hc 31 i k rfl, fun i k => hc 32 i k rfl, fun i => hm 12 i 6 rfl, fun i k => hm 73 i k rfl, fun i k => hm 74 i k rfl, fun i k => hm 75 i k rfl, fun i k => hm 76 i k rfl, fun i k => hm 77 i k rfl, fun i k => hm 78 i k rfl, fun i k => hm 79 i k rfl]
  exact h
theorem j_row_fr {c m c' m' : mm_M} (hc : ∀ g i k, z_in [(6, some 0, some 3), (41, some 0, none), (42, some 0, none), (43, some 0, none)] g i k = true → c' g i k = c g i k) (hm : ∀ g i k, z_in [(12, none, some 46), (12, none, some 57), (98, none, none), (99, none, none), (100, none, none)] g i k = true → m' g i k = m g i k) (h : j_row c m) : j_row c' m' := by
  unfold j_row at h ⊢
  simp only [hc 6 0 3 rfl, fun k => hc 41 0 k rfl, fun k => hc 42 0 k rfl, fun k => hc 43 0 k rfl, fun i => hm 12 i 46 rfl, fun i => hm 12 i 57 rfl, fun i k => hm 98 i k rfl, fun i k => hm 99 i k rfl, fun i k => hm 100 i k rfl]
  exact h
theorem j_inq_fr {c m c' m' : mm_M} (hc : ∀ g i k, z_in [(0, none, some 2), (7, none, some 0), (7, none, some 3), (45, none, none), (46, none, none), (6, some 1, some 3), (6, some 2, some 3), (41, some 1, none), (42, some 1, none), (41, some 2, none), (42, some 2, none)] g i k = true → c' g i k = c g i k) (hm : ∀ g i k, z_in [(12, none, some 61), (12, none, some 62), (103, none, none), (104, none, none), (105, none, none), (106, none, none), (107, none, none)] g i k = true → m' g i k = m g i k) (h : j_inq c m) : j_inq c' m' := by
  unfold j_inq at h ⊢
  simp only [z_told] at h ⊢
  simp only [fun i => hc 0 i 2 rfl, fun i => hc 7 i 0 rfl, fun i => hc 7 i 3 rfl, fun i k => hc 45 i k rfl, fun i k => hc 46 i k rfl, hc 6 1 3 rfl, hc 6 2 3 rfl, fun k => hc 41 1 k rfl, fun k => hc 42 1 k rfl, fun k => hc 41 2 k rfl, fun k => hc 42 2 k rfl, fun i => hm 12 i 61 rfl, fun i => hm 12 i 62 rfl, fun i k => hm 103 i k rfl, fun i k => hm 104 i k rfl, fun i k => hm 105 i k rfl, fun i k => hm 106 i k rfl, fun i k => hm 107 i k rfl]
  exact h
theorem j_found_fr {c m c' m' : mm_M} (hc : ∀ g i k, z_in [(7, none, some 7), (7, none, some 8), (7, none, some 9), (7, none, some 10)] g i k = true → c' g i k = c g i k) (hm : ∀ g i k, z_in [(12, none, some 63), (12, none, some 64), (12, none, some 65), (12, none, some 66)] g i k = true → m' g i k = m g i k) (h : j_found c m) : j_found c' m' := by
  unfold j_found at h ⊢
  simp only [fun i => hc 7 i 7 rfl, fun i => hc 7 i 8 rfl, fun i => hc 7 i 9 rfl, fun i => hc 7 i 10 rfl, fun i => hm 12 i 63 rfl, fun i => hm 12 i 64 rfl, fun i => hm 12 i 65 rfl, fun i => hm 12 i 66 rfl]
  exact h
theorem j_lamps_fr {c m c' m' : mm_M} (hc : ∀ g i k, z_in [(8, none, some 4), (51, none, none)] g i k = true → c' g i k = c g i k) (hm : ∀ g i k, z_in [(12, none, some 72), (108, none, none)] g i k = true → m' g i k = m g i k) (h : j_lamps c m) : j_lamps c' m' := by
  unfold j_lamps at h ⊢
  simp only [fun i => hc 8 i 4 rfl, fun i k => hc 51 i k rfl, fun i => hm 12 i 72 rfl, fun i k => hm 108 i k rfl]
  exact h
theorem j_net_fr {c m c' m' : mm_M} (hc : ∀ g i k, z_in [(0, none, some 2), (9, none, some 5), (52, none, none), (53, none, none), (54, none, none), (55, none, none)] g i k = true → c' g i k = c g i k) (hm : ∀ g i k, z_in [(12, none, some 77), (112, none, none), (113, none, none), (114, none, none), (115, none, none)] g i k = true → m' g i k = m g i k) (h : j_net c m) : j_net c' m' := by
  unfold j_net at h ⊢
  simp only [fun i => hc 0 i 2 rfl, fun i => hc 9 i 5 rfl, fun i k => hc 52 i k rfl, fun i k => hc 53 i k rfl, fun i k => hc 54 i k rfl, fun i k => hc 55 i k rfl, fun i => hm 12 i 77 rfl, fun i k => hm 112 i k rfl, fun i k => hm 113 i k rfl, fun i k => hm 114 i k rfl, fun i k => hm 115 i k rfl]
  exact h
theorem j_tsk_fr {c m c' m' : mm_M} (hc : ∀ g i k, z_in [(9, none, some 8), (57, none, none), (58, none, none)] g i k = true → c' g i k = c g i k) (hm : ∀ g i k, z_in [(12, none, some 78), (117, none, none), (118, none, none)] g i k = true → m' g i k = m g i k) (h : j_tsk c m) : j_tsk c' m' := by
  unfold j_tsk at h ⊢
  simp only [fun i => hc 9 i 8 rfl, fun i k => hc 57 i k rfl, fun i k => hc 58 i k rfl, fun i => hm 12 i 78 rfl, fun i k => hm 117 i k rfl, fun i k => hm 118 i k rfl]
  exact h
theorem j_dl_fr {c m c' m' : mm_M} (hc : ∀ g i k, z_in [(9, none, some 18), (61, none, none)] g i k = true → c' g i k = c g i k) (hm : ∀ g i k, z_in [(12, none, some 94), (128, none, none)] g i k = true → m' g i k = m g i k) (h : j_dl c m) : j_dl c' m' := by
  unfold j_dl at h ⊢
  simp only [fun i => hc 9 i 18 rfl, fun i k => hc 61 i k rfl, fun i => hm 12 i 94 rfl, fun i k => hm 128 i k rfl]
  exact h
theorem j_alo_fr {c m c' m' : mm_M} (hc : ∀ g i k, z_in [(10, some 3, some 1), (10, some 4, some 1), (62, some 3, none), (62, some 4, none)] g i k = true → c' g i k = c g i k) (hm : ∀ g i k, z_in [(12, none, some 80), (124, none, none)] g i k = true → m' g i k = m g i k) (h : j_alo c m) : j_alo c' m' := by
  unfold j_alo at h ⊢
  simp only [hc 10 3 1 rfl, hc 10 4 1 rfl, fun k => hc 62 3 k rfl, fun k => hc 62 4 k rfl, fun i => hm 12 i 80 rfl, fun i k => hm 124 i k rfl]
  exact h
theorem j_she_fr {c m c' m' : mm_M} (hc : ∀ g i k, z_in [(0, none, some 15), (11, none, some 1), (11, none, some 2), (63, none, none)] g i k = true → c' g i k = c g i k) (hm : ∀ g i k, z_in [(12, none, some 99), (129, none, none), (130, none, none), (131, none, none)] g i k = true → m' g i k = m g i k) (h : j_she c m) : j_she c' m' := by
  unfold j_she at h ⊢
  simp only [fun i => hc 0 i 15 rfl, fun i => hc 11 i 1 rfl, fun i => hc 11 i 2 rfl, fun i k => hc 63 i k rfl, fun i => hm 12 i 99 rfl, fun i k => hm 129 i k rfl, fun i k => hm 130 i k rfl, fun i k => hm 131 i k rfl]
  exact h
theorem z_cdC_fr {c c' : mm_M} {i k : Nat} {o : Option (List (Int32 × Int32))} (hc : ∀ g i k, z_in [(19, none, none), (20, none, none), (21, none, none), (22, none, none)] g i k = true → c' g i k = c g i k) (h : z_cdC c i k o) : z_cdC c' i k o := by
  unfold z_cdC at h ⊢
  cases o with
  | none =>
    simp only [fun i k => hc 19 i k rfl, fun i k => hc 20 i k rfl, fun i k => hc 21 i k rfl, fun i k => hc 22 i k rfl]
    exact h
  | some cd =>
    simp only [fun i k => hc 19 i k rfl, fun i k => hc 20 i k rfl, fun i k => hc 21 i k rfl, fun i k => hc 22 i k rfl]
    exact h
theorem z_cdM_fr {m m' : mm_M} {k : Nat} {o : Option (List (Int32 × Int32))} (hm : ∀ g i k, z_in [(81, none, none), (82, none, none), (83, none, none), (86, none, none)] g i k = true → m' g i k = m g i k) (h : z_cdM m k o) : z_cdM m' k o := by
  unfold z_cdM at h ⊢
  cases o with
  | none =>
    simp only [fun i k => hm 81 i k rfl, fun i k => hm 82 i k rfl, fun i k => hm 83 i k rfl, fun i k => hm 86 i k rfl]
    exact h
  | some cd =>
    simp only [fun i k => hm 81 i k rfl, fun i k => hm 82 i k rfl, fun i k => hm 83 i k rfl, fun i k => hm 86 i k rfl]
    exact h
theorem j_law_fr {c m c' m' : mm_M} (hc : ∀ g i k, z_in [(0, none, some 3), (0, none, some 4), (19, none, none), (20, none, none), (21, none, none), (22, none, none)] g i k = true → c' g i k = c g i k) (hm : ∀ g i k, z_in [(81, none, none), (82, none, none), (83, none, none), (86, none, none)] g i k = true → m' g i k = m g i k) (h : j_law c m) : j_law c' m' := by
  obtain ⟨lw, r, h0, h1, h2, h3, h4, h5⟩ := h
  refine ⟨lw, r, h0, ?_, ?_, fun k hk => z_cdC_fr (fun g i k hg => hc g i k (z_sub_of (by decide) hg)) (h3 k hk), fun k hk => z_cdM_fr hm (h4 k hk), h5⟩
  · rw [hc 0 0 3 rfl]
    exact h1
  · rw [hc 0 0 4 rfl]
    exact h2
/-- the whole relation -/
def qJ (c m : mm_M) : Prop := j_day c m ∧ j_fault c m ∧ j_dead c m ∧ j_str c m ∧ j_tap c m ∧ j_law c m ∧ j_ev c m ∧ j_row c m ∧ j_inq c m ∧ j_found c m ∧ j_lamps c m ∧ j_net c m ∧ j_tsk c m ∧ j_dl c m ∧ j_alo c m ∧ j_she c m
theorem j_day_kp {LC LM : zT} {c m c' m' : mm_M} (hC : fp LC c c') (hM : fp LM m m') (d1 : z_dis [(0, none, some 6)] LC = true) (d2 : z_dis [(12, none, some 5)] LM = true) (h : j_day c m) : j_day c' m' := j_day_fr (fp_d hC d1) (fp_d hM d2) h
theorem j_fault_kp {LC LM : zT} {c m c' m' : mm_M} (hC : fp LC c c') (hM : fp LM m m') (d1 : z_dis [(0, none, some 5)] LC = true) (d2 : z_dis [(12, none, some 31)] LM = true) (h : j_fault c m) : j_fault c' m' := j_fault_fr (fp_d hC d1) (fp_d hM d2) h
theorem j_dead_kp {LC LM : zT} {c m c' m' : mm_M} (hC : fp LC c c') (hM : fp LM m m') (d1 : z_dis [(0, none, some 9)] LC = true) (d2 : z_dis [(12, none, some 43)] LM = true) (h : j_dead c m) : j_dead c' m' := j_dead_fr (fp_d hC d1) (fp_d hM d2) h
theorem j_str_kp {LC LM : zT} {c m c' m' : mm_M} (hC : fp LC c c') (hM : fp LM m m') (d1 : z_dis [(0, none, some 2), (5, none, none), (37, none, none), (38, none, none), (39, none, none), (40, none, none)] LC = true) (d2 : z_dis [(12, none, some 4), (67, none, none), (68, none, none), (69, none, none), (70, none, none), (71, none, none), (72, none, none)] LM = true) (h : j_str c m) : j_str c' m' := j_str_fr (fp_d hC d1) (fp_d hM d2) h
theorem j_tap_kp {LC LM : zT} {c m c' m' : mm_M} (hC : fp LC c c') (hM : fp LM m m') (d1 : z_dis [(1, none, some 1), (15, none, none)] LC = true) (d2 : z_dis [(12, none, some 21), (80, none, none)] LM = true) (h : j_tap c m) : j_tap c' m' := j_tap_fr (fp_d hC d1) (fp_d hM d2) h
theorem j_law_kp {LC LM : zT} {c m c' m' : mm_M} (hC : fp LC c c') (hM : fp LM m m') (d1 : z_dis [(0, none, some 3), (0, none, some 4), (19, none, none), (20, none, none), (21, none, none), (22, none, none)] LC = true) (d2 : z_dis [(81, none, none), (82, none, none), (83, none, none), (86, none, none)] LM = true) (h : j_law c m) : j_law c' m' := j_law_fr (fp_d hC d1) (fp_d hM d2) h
theorem j_ev_kp {LC LM : zT} {c m c' m' : mm_M} (hC : fp LC c c') (hM : fp LM m m') (d1 : z_dis [(0, none, some 2), (37, none, none), (3, none, some 8), (25, none, none), (26, none, none), (27, none, none), (28, none, none), (29, none, none), (30, none, none), (31, none, none), (32, none, none)] LC = true) (d2 : z_dis [(12, none, some 6), (73, none, none), (74, none, none), (75, none, none), (76, none, none), (77, none, none), (78, none, none), (79, none, none)] LM = true) (h : j_ev c m) : j_ev c' m' := j_ev_fr (fp_d hC d1) (fp_d hM d2) h
theorem j_row_kp {LC LM : zT} {c m c' m' : mm_M} (hC : fp LC c c') (hM : fp LM m m') (d1 : z_dis [(6, some 0, some 3), (41, some 0, none), (42, some 0, none), (43, some 0, none)] LC = true) (d2 : z_dis [(12, none, some 46), (12, none, some 57), (98, none, none), (99, none, none), (100, none, none)] LM = true) (h : j_row c m) : j_row c' m' := j_row_fr (fp_d hC d1) (fp_d hM d2) h
theorem j_inq_kp {LC LM : zT} {c m c' m' : mm_M} (hC : fp LC c c') (hM : fp LM m m') (d1 : z_dis [(0, none, some 2), (7, none, some 0), (7, none, some 3), (45, none, none), (46, none, none), (6, some 1, some 3), (6, some 2, some 3), (41, some 1, none), (42, some 1, none), (41, some 2, none), (42, some 2, none)] LC = true) (d2 : z_dis [(12, none, some 61), (12, none, some 62), (103, none, none), (104, none, none), (105, none, none), (106, none, none), (107, none, none)] LM = true) (h : j_inq c m) : j_inq c' m' := j_inq_fr (fp_d hC d1) (fp_d hM d2) h
theorem j_found_kp {LC LM : zT} {c m c' m' : mm_M} (hC : fp LC c c') (hM : fp LM m m') (d1 : z_dis [(7, none, some 7), (7, none, some 8), (7, none, some 9), (7, none, some 10)] LC = true) (d2 : z_dis [(12, none, some 63), (12, none, some 64), (12, none, some 65), (12, none, some 66)] LM = true) (h : j_found c m) : j_found c' m' := j_found_fr (fp_d hC d1) (fp_d hM d2) h
theorem j_lamps_kp {LC LM : zT} {c m c' m' : mm_M} (hC : fp LC c c') (hM : fp LM m m') (d1 : z_dis [(8, none, some 4), (51, none, none)] LC = true) (d2 : z_dis [(12, none, some 72), (108, none, none)] LM = true) (h : j_lamps c m) : j_lamps c' m' := j_lamps_fr (fp_d hC d1) (fp_d hM d2) h
theorem j_net_kp {LC LM : zT} {c m c' m' : mm_M} (hC : fp LC c c') (hM : fp LM m m') (d1 : z_dis [(0, none, some 2), (9, none, some 5), (52, none, none), (53, none, none), (54, none, none), (55, none, none)] LC = true) (d2 : z_dis [(12, none, some 77), (112, none, none), (113, none, none), (114, none, none), (115, none, none)] LM = true) (h : j_net c m) : j_net c' m' := j_net_fr (fp_d hC d1) (fp_d hM d2) h
theorem j_tsk_kp {LC LM : zT} {c m c' m' : mm_M} (hC : fp LC c c') (hM : fp LM m m') (d1 : z_dis [(9, none, some 8), (57, none, none), (58, none, none)] LC = true) (d2 : z_dis [(12, none, some 78), (117, none, none), (118, none, none)] LM = true) (h : j_tsk c m) : j_tsk c' m' := j_tsk_fr (fp_d hC d1) (fp_d hM d2) h
theorem j_dl_kp {LC LM : zT} {c m c' m' : mm_M} (hC : fp LC c c') (hM : fp LM m m') (d1 : z_dis [(9, none, some 18), (61, none, none)] LC = true) (d2 : z_dis [(12, none, some 94), (128, none, none)] LM = true) (h : j_dl c m) : j_dl c' m' := j_dl_fr (fp_d hC d1) (fp_d hM d2) h
theorem j_alo_kp {LC LM : zT} {c m c' m' : mm_M} (hC : fp LC c c') (hM : fp LM m m') (d1 : z_dis [(10, some 3, some 1), (10, some 4, some 1), (62, some 3, none), (62, some 4, none)] LC = true) (d2 : z_dis [(12, none, some 80), (124, none, none)] LM = true) (h : j_alo c m) : j_alo c' m' := j_alo_fr (fp_d hC d1) (fp_d hM d2) h
theorem j_she_kp {LC LM : zT} {c m c' m' : mm_M} (hC : fp LC c c') (hM : fp LM m m') (d1 : z_dis [(0, none, some 15), (11, none, some 1), (11, none, some 2), (63, none, none)] LC = true) (d2 : z_dis [(12, none, some 99), (129, none, none), (130, none, none), (131, none, none)] LM = true) (h : j_she c m) : j_she c' m' := j_she_fr (fp_d hC d1) (fp_d hM d2) h
theorem qJ_tie : q_Tie qJ := by
  intro mC mM m' hM hC h
  have eM : ∀ g, fr_SM g = true → ∀ i k, m' g i k = mM g i k := fun g hg i k => by rw [hM g hg]
  have eC : ∀ g, (fr_SC g && Nat.blt g 134) = true → ∀ i k, m' g i k = mC g i k := fun g hg i k => by
    rw [Bool.and_eq_true] at hg
    rw [hC g hg.1 (Nat.blt_eq.mp hg.2)]
  have tM : ∀ (L : zT), L.all (fun e => fr_SM e.1) = true → ∀ g i k, z_in L g i k = true → m' g i k = mM g i k := fun L hL g i k h => by
    obtain ⟨e, he, a1, _⟩ := z_in_ex h
    have := List.all_eq_true.mp hL e he
    exact eM g (by rw [← a1]; exact this) i k
  have tC : ∀ (L : zT), L.all (fun e => fr_SC e.1 && Nat.blt e.1 134) = true → ∀ g i k, z_in L g i k = true → m' g i k = mC g i k := fun L hL g i k h => by
    obtain ⟨e, he, a1, _⟩ := z_in_ex h
    have := List.all_eq_true.mp hL e he
    exact eC g (by rw [← a1]; exact this) i k
  obtain ⟨h0, h1, h2, h3, h4, h5, h6, h7, h8, h9, h10, h11, h12, h13, h14, h15⟩ := h
  exact ⟨j_day_fr (tC _ (by decide)) (tM _ (by decide)) h0, j_fault_fr (tC _ (by decide)) (tM _ (by decide)) h1, j_dead_fr (tC _ (by decide)) (tM _ (by decide)) h2, j_str_fr (tC _ (by decide)) (tM _ (by decide)) h3, j_tap_fr (tC _ (by decide)) (tM _ (by decide)) h4, j_law_fr (tC _ (by decide)) (tM _ (by decide)) h5, j_ev_fr (tC _ (by decide)) (tM _ (by decide)) h6, j_row_fr (tC _ (by decide)) (tM _ (by decide)) h7, j_inq_fr (tC _ (by decide)) (tM _ (by decide)) h8, j_found_fr (tC _ (by decide)) (tM _ (by decide)) h9, j_lamps_fr (tC _ (by decide)) (tM _ (by decide)) h10, j_net_fr (tC _ (by decide)) (tM _ (by decide)) h11, j_tsk_fr (tC _ (by decide)) (tM _ (by decide)) h12, j_dl_fr (tC _ (by decide)) (tM _ (by decide)) h13, j_alo_fr (tC _ (by decide)) (tM _ (by decide)) h14, j_she_fr (tC _ (by decide)) (tM _ (by decide)) h15⟩
def z_m0 : List (Nat × Nat × Nat × Int32) := [(0, 0, 6, 0), (12, 0, 5, 0), (0, 0, 5, (-1)), (12, 0, 31, (-1)), (0, 0, 9, 5), (12, 0, 43, 5), (0, 0, 2, 0), (12, 0, 4, 0), (1, 0, 1, 0), (12, 0, 21, 0), (0, 0, 3, 0), (0, 0, 4, 1), (3, 0, 8, 0), (12, 0, 6, 0), (6, 0, 3, (-1)), (12, 0, 46, 0), (7, 0, 0, (-1)), (12, 0, 61, (-1)), (7, 0, 3, 0), (12, 0, 62, 0), (6, 1, 3, (-1)), (105, 0, 0, (-1)), (6, 2, 3, (-1)), (105, 0, 1, (-1)), (7, 0, 7, (-1)), (12, 0, 66, 0), (8, 0, 4, 0), (12, 0, 72, 0), (9, 0, 5, 0), (12, 0, 77, 0), (9, 0, 8, 0), (12, 0, 78, 0), (9, 0, 18, 0), (12, 0, 94, 0), (10, 3, 1, 0), (10, 4, 1, 0), (12, 0, 80, 0), (0, 0, 15, 0), (12, 0, 99, 0), (21, 0, 0, (-1)), (21, 0, 1, (-1)), (21, 0, 2, (-1)), (21, 0, 3, (-1)), (86, 0, 0, 0), (86, 0, 1, 0), (86, 0, 2, 0), (86, 0, 3, 0)]
theorem z_m0_ok : z_m0.all (fun e => decide (st_mb e.1 e.2.1 e.2.2.1 = e.2.2.2)) = true := by decide +kernel
theorem z_m0_at {xs : Nat → Int32} {n g i k : Nat} {v : Int32} (h : (g, i, k, v) ∈ z_m0) (hg : g < 134) : st_m0 xs n g i k = v := by
  rw [st_m0_lt hg]
  exact of_decide_eq_true (List.all_eq_true.mp z_m0_ok _ h)
theorem z_m0_63 : ((List.range 8).all fun s => (List.range 24).all fun k => decide (st_mb 63 s k = 0)) = true := by decide +kernel
theorem qJ_0 (xs : Nat → Int32) (n : Nat) : qJ (st_m0 xs n) (st_m0 xs n) := by
  have e : ∀ g i k v, (g, i, k, v) ∈ z_m0 → g < 134 → st_m0 xs n g i k = v := fun g i k v h hg => z_m0_at h hg
  have e21 : ∀ k, k < 4 → st_m0 xs n 21 0 k = -1 := fun k hk => by
    rcases (by omega : k = 0 ∨ k = 1 ∨ k = 2 ∨ k = 3) with rfl | rfl | rfl | rfl
    · exact e 21 0 0 (-1) (by decide) (by decide)
    · exact e 21 0 1 (-1) (by decide) (by decide)
    · exact e 21 0 2 (-1) (by decide) (by decide)
    · exact e 21 0 3 (-1) (by decide) (by decide)
  have e86 : ∀ k, k < 4 → st_m0 xs n 86 0 k = 0 := fun k hk => by
    rcases (by omega : k = 0 ∨ k = 1 ∨ k = 2 ∨ k = 3) with rfl | rfl | rfl | rfl
    · exact e 86 0 0 0 (by decide) (by decide)
    · exact e 86 0 1 0 (by decide) (by decide)
    · exact e 86 0 2 0 (by decide) (by decide)
    · exact e 86 0 3 0 (by decide) (by decide)
  have e63 : ∀ s, s < 8 → ∀ k, k < 24 → st_m0 xs n 63 s k = 0 := fun s hs k hk => by
    rw [st_m0_lt (by decide)]
    exact of_decide_eq_true (List.all_eq_true.mp (List.all_eq_true.mp z_m0_63 s (List.mem_range.mpr hs)) k (List.mem_range.mpr hk))
  refine ⟨?_, ?_, ?_, ?_, ?_, ?_, ?_, ?_, ?_, ?_, ?_, ?_, ?_, ?_, ?_, ?_⟩
  · unfold j_day
    rw [e 0 0 6 0 (by decide) (by decide), e 12 0 5 0 (by decide) (by decide)]
    decide
  · unfold j_fault
    rw [e 0 0 5 (-1) (by decide) (by decide), e 12 0 31 (-1) (by decide) (by decide)]
  · unfold j_dead
    rw [e 0 0 9 5 (by decide) (by decide), e 12 0 43 5 (by decide) (by decide)]
    decide
  · exact ⟨0, by decide, e 0 0 2 0 (by decide) (by decide), e 12 0 4 0 (by decide) (by decide), fun t ht => absurd ht (Nat.not_lt_zero t)⟩
  · exact ⟨0, by decide, e 1 0 1 0 (by decide) (by decide), e 12 0 21 0 (by decide) (by decide), fun t ht => absurd ht (Nat.not_lt_zero t)⟩
  · exact ⟨fun _ => none, 0, by decide, e 0 0 3 0 (by decide) (by decide), e 0 0 4 1 (by decide) (by decide), fun k hk => e21 k hk, fun k hk => e86 k hk, fun k cd h => by cases h⟩
  · exact ⟨0, by decide, e 3 0 8 0 (by decide) (by decide), e 12 0 6 0 (by decide) (by decide), fun t ht => absurd ht (Nat.not_lt_zero t), [], List.Perm.refl _, fun i e h => (by cases h), List.Pairwise.nil⟩
  · exact Or.inl ⟨e 6 0 3 (-1) (by decide) (by decide), e 12 0 46 0 (by decide) (by decide)⟩
  · exact ⟨Or.inl ⟨e 7 0 0 (-1) (by decide) (by decide), e 12 0 61 (-1) (by decide) (by decide)⟩, ⟨0, by decide, e 7 0 3 0 (by decide) (by decide), e 12 0 62 0 (by decide) (by decide), fun t ht => absurd ht (Nat.not_lt_zero t)⟩, Or.inl ⟨e 6 1 3 (-1) (by decide) (by decide), e 105 0 0 (-1) (by decide) (by decide)⟩, Or.inl ⟨e 6 2 3 (-1) (by decide) (by decide), e 105 0 1 (-1) (by decide) (by decide)⟩⟩
  · exact ⟨⟨fun _ => e 12 0 66 0 (by decide) (by decide), fun _ => e 7 0 7 (-1) (by decide) (by decide)⟩, fun h => absurd (e 12 0 66 0 (by decide) (by decide)) h⟩
  · unfold j_lamps
    rw [e 8 0 4 0 (by decide) (by decide), e 12 0 72 0 (by decide) (by decide)]
    exact ⟨rfl, by decide, by decide, fun k hk => by rw [i_0] at hk; omega⟩
  · exact ⟨0, by decide, e 9 0 5 0 (by decide) (by decide), e 12 0 77 0 (by decide) (by decide), fun t ht => absurd ht (Nat.not_lt_zero t)⟩
  · exact ⟨0, by decide, e 9 0 8 0 (by decide) (by decide), e 12 0 78 0 (by decide) (by decide), fun t ht => absurd ht (Nat.not_lt_zero t)⟩
  · unfold j_dl
    rw [e 9 0 18 0 (by decide) (by decide), e 12 0 94 0 (by decide) (by decide)]
    exact ⟨rfl, fun k hk => by rw [i_0] at hk; omega⟩
  · exact ⟨0, 0, by decide, by decide, e 10 3 1 0 (by decide) (by decide), e 10 4 1 0 (by decide) (by decide), e 12 0 80 0 (by decide) (by decide), fun t ht => absurd ht (Nat.not_lt_zero t), fun t ht => absurd ht (Nat.not_lt_zero t)⟩
  · exact ⟨0, by decide, e 0 0 15 0 (by decide) (by decide), e 12 0 99 0 (by decide) (by decide), fun t ht => absurd ht (Nat.not_lt_zero t), fun s _ hs k hk => e63 s hs k hk⟩
