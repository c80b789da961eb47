/-! losses by the law: both programs work out the same code -/
def z_bi (s x y : Int32) : Int32 := if s = 43 then x + y else if s = 45 then x - y else if s = 42 then x * y else if s = 47 then (if y = 0 then 0 else x / y) else if s = 60 then (if x < y then 1 else 0) else if s = 61 then (if x = y then 1 else 0) else if s = 262 then (if x = 0 then 0 else if y = 0 then 0 else 1) else (if x = 0 then (if y = 0 then 0 else 1) else 1)
def z_s1 (v : Nat → Int32) (e : Int32 × Int32) (st : List Int32) : List Int32 := if e.1 = 2 then e.2 :: st else if 264 ≤ e.1.toInt ∧ e.1.toInt ≤ 268 then v (e.1 - 264).toNatClampNeg :: st else if e.1 = 263 then (match st with
  | x :: r => (if x = 0 then 1 else 0) :: r
  | [] => []) else (match st with
  | y :: x :: r => z_bi e.1 x y :: r
  | r => r)
def z_rn (v : Nat → Int32) : List (Int32 × Int32) → List Int32 → List Int32
  | [], st => st
  | e :: r, st => z_rn v r (z_s1 v e st)
theorem z_rn_c {v : Nat → Int32} {e : Int32 × Int32} {r : List (Int32 × Int32)} {st : List Int32} : z_rn v (e :: r) st = z_rn v r (z_s1 v e st) := rfl
theorem z_s1_n {v : Nat → Int32} {e : Int32 × Int32} {st : List Int32} (h : e.1 = 2) : z_s1 v e st = e.2 :: st := if_pos h
theorem z_s1_v {v : Nat → Int32} {e : Int32 × Int32} {st : List Int32} (h : ¬ e.1 = 2) (h2 : 264 ≤ e.1.toInt ∧ e.1.toInt ≤ 268) : z_s1 v e st = v (e.1 - 264).toNatClampNeg :: st := (if_neg h).trans (if_pos h2)
theorem z_s1_o {v : Nat → Int32} {e : Int32 × Int32} {x : Int32} {r : List Int32} (h : e.1 = 263) : z_s1 v e (x :: r) = (if x = 0 then 1 else 0) :: r := by
  unfold z_s1
  rw [if_neg (by rw [h]; decide), if_neg (by rw [h]; decide), if_pos h]
theorem z_s1_b {v : Nat → Int32} {e : Int32 × Int32} {y x : Int32} {r : List Int32} (h : ¬ e.1 = 2) (h2 : ¬ (264 ≤ e.1.toInt ∧ e.1.toInt ≤ 268)) (h3 : ¬ e.1 = 263) : z_s1 v e (y :: x :: r) = z_bi e.1 x y :: r := by
  unfold z_s1
  rw [if_neg h, if_neg h2, if_neg h3]
/-- an array that holds a stack -/
def z_sk (f : Nat → Int32) : List Int32 → Prop
  | [] => True
  | x :: r => f r.length = x ∧ z_sk f r
theorem z_sk_up {f g : Nat → Int32} : ∀ {st : List Int32}, z_sk f st → (∀ k, k < st.length → g k = f k) → z_sk g st
  | [], _, _ => trivial
  | x :: r, h, hg => ⟨(hg r.length (Nat.lt_succ_self _)).trans h.1, z_sk_up h.2 (fun k hk => hg k (Nat.lt_succ_of_lt hk))⟩
/-- what a step of code can be -/
theorem z_dep_c {e : Int32 × Int32} {r : List (Int32 × Int32)} {h x : Nat} (hd : z_dep (e :: r) h = some x) : (e.1 = 2 ∧ h < 40 ∧ z_dep r (h + 1) = some x) ∨ (¬ e.1 = 2 ∧ (264 ≤ e.1.toInt ∧ e.1.toInt ≤ 268) ∧ h < 40 ∧ z_dep r (h + 1) = some x) ∨ (e.1 = 263 ∧ 0 < h ∧ z_dep r h = some x) ∨ ((e.1 = 43 ∨ e.1 = 45 ∨ e.1 = 42 ∨ e.1 = 47 ∨ e.1 = 60 ∨ e.1 = 61 ∨ e.1 = 262 ∨ e.1 = 261) ∧ 1 < h ∧ z_dep r (h - 1) = some x) := by
  unfold z_dep at hd
  by_cases h1 : e.1 = 2 ∨ (264 ≤ e.1.toInt ∧ e.1.toInt ≤ 268)
  · rw [if_pos h1] at hd
    by_cases h2 : h < 40
    · rw [if_pos h2] at hd
      by_cases h3 : e.1 = 2
      · exact Or.inl ⟨h3, h2, hd⟩
      · exact Or.inr (Or.inl ⟨h3, h1.resolve_left h3, h2, hd⟩)
    · rw [if_neg h2] at hd
      cases hd
  · rw [if_neg h1] at hd
    by_cases h2 : e.1 = 263
    · rw [if_pos h2] at hd
      by_cases h3 : 0 < h
      · rw [if_pos h3] at hd
        exact Or.inr (Or.inr (Or.inl ⟨h2, h3, hd⟩))
      · rw [if_neg h3] at hd
        cases hd
    · rw [if_neg h2] at hd
      by_cases h3 : e.1 = 43 ∨ e.1 = 45 ∨ e.1 = 42 ∨ e.1 = 47 ∨ e.1 = 60 ∨ e.1 = 61 ∨ e.1 = 262 ∨ e.1 = 261
      · rw [if_pos h3] at hd
        by_cases h4 : 1 < h
        · rw [if_pos h4] at hd
          exact Or.inr (Or.inr (Or.inr ⟨h3, h4, hd⟩))
        · rw [if_neg h4] at hd
          cases hd
      · rw [if_neg h3] at hd
        cases hd
theorem c_isVal {a : Int32} {m : mm_M} : f_X3_isValue a m = some (if 264 ≤ a.toInt ∧ a.toInt ≤ 268 then 1 else 0) := by
  unfold f_X3_isValue
  by_cases h1 : a.toInt < 264
  · simp (disch := first | omega | decide | fail) only [v_in, iA_le, iA_lt, iA_cl, nJ_T, n_1, n_0, n_0N, n_a1, n_24, nJ_a, n_sb, Int.toNat_natCast, Int32.reduceToInt, ne_eq, not_true_eq_false, not_false_eq_true, eq_self, v_tle, v_fle, v_tlt, v_flt, v_tln, v_fln, v_feq, true_and, and_true, false_and, and_false, true_or, or_true, false_or, or_false, v_fan, ↓ml_let, ml_b1, ml_b2, ml_bxr, ml_bxl, ↓reduceIte, v_some, ↓v_let, v_b1, v_b2, v_pr, v_pl]
  by_cases h2 : a.toInt ≤ 268
  · simp (disch := first | omega | decide | fail) only [v_in, iA_le, iA_lt, iA_cl, nJ_T, n_1, n_0, n_0N, n_a1, n_24, nJ_a, n_sb, Int.toNat_natCast, Int32.reduceToInt, ne_eq, not_true_eq_false, not_false_eq_true, eq_self, v_tle, v_fle, v_tlt, v_flt, v_tln, v_fln, v_feq, true_and, and_true, false_and, and_false, true_or, or_true, false_or, or_false, v_fan, ↓ml_let, ml_b1, ml_b2, ml_bxr, ml_bxl, ↓reduceIte, v_some, ↓v_let, v_b1, v_b2, v_pr, v_pl]
  · simp (disch := first | omega | decide | fail) only [v_in, iA_le, iA_lt, iA_cl, nJ_T, n_1, n_0, n_0N, n_a1, n_24, nJ_a, n_sb, Int.toNat_natCast, Int32.reduceToInt, ne_eq, not_true_eq_false, not_false_eq_true, eq_self, v_tle, v_fle, v_tlt, v_flt, v_tln, v_fln, v_feq, true_and, and_true, false_and, and_false, true_or, or_true, false_or, or_false, v_fan, ↓ml_let, ml_b1, ml_b2, ml_bxr, ml_bxl, ↓reduceIte, v_some, ↓v_let, v_b1, v_b2, v_pr, v_pl]
theorem b_isVal {β : Type} {a : Int32} {m : mm_M} {B : Int32 → Option β} : mm_b1 (f_X3_isValue a m) B = B (if 264 ≤ a.toInt ∧ a.toInt ≤ 268 then 1 else 0) := by
  rw [c_isVal]
  rfl
theorem c_join {s x y : Int32} {m : mm_M} (h : s = 43 ∨ s = 45 ∨ s = 42 ∨ s = 47 ∨ s = 60 ∨ s = 61 ∨ s = 262 ∨ s = 261) : f_X3_joined s x y m = some (z_bi s x y) := by
  unfold f_X3_joined z_bi
  rcases h with rfl | rfl | rfl | rfl | rfl | rfl | rfl | rfl
  · simp
  · simp
  · simp
  · by_cases hy : y = 0
    · simp [hy]
    · simp [hy]
  · by_cases hy : y ≤ x
    · have hn : ¬ x < y := by rw [iA_lt]; rw [iA_le] at hy; omega
      simp [hy, hn, f_X3_truth, mm_b1]
    · have hn : x < y := by rw [iA_lt]; rw [iA_le] at hy; omega
      simp [hy, hn, f_X3_truth, mm_b1]
  · by_cases hy : x = y
    · simp [hy, f_X3_truth, mm_b1]
    · simp [hy, f_X3_truth, mm_b1]
  · by_cases hx : x = 0
    · simp [hx, f_X3_truth, mm_b1]
    · by_cases hy : y = 0
      · simp [hx, hy, f_X3_truth, mm_b1]
      · simp [hx, hy, f_X3_truth, mm_b1]
  · by_cases hx : x = 0
    · by_cases hy : y = 0
      · simp [hx, hy, f_X3_truth, mm_b1]
      · simp [hx, hy, f_X3_truth, mm_b1]
    · simp [hx, f_X3_truth, mm_b1]
theorem r_two {s x y : Int32} {m : mm_M} (h : s = 43 ∨ s = 45 ∨ s = 42 ∨ s = 47 ∨ s = 60 ∨ s = 61 ∨ s = 262 ∨ s = 261) : f_X12_two (z_op s) x y m = some (z_bi s x y) := by
  unfold f_X12_two z_bi z_op
  rcases h with rfl | rfl | rfl | rfl | rfl | rfl | rfl | rfl
  · simp
  · simp
  · simp
  · by_cases hy : y = 0
    · simp [hy]
    · simp [hy]
  · by_cases hy : y ≤ x
    · have hn : ¬ x < y := by rw [iA_lt]; rw [iA_le] at hy; omega
      simp [hy, hn]
    · have hn : x < y := by rw [iA_lt]; rw [iA_le] at hy; omega
      simp [hy, hn]
  · by_cases hy : x = y
    · simp [hy]
    · simp [hy]
  · by_cases hx : x = 0
    · simp [hx]
    · by_cases hy : y = 0
      · simp [hx, hy]
      · simp [hx, hy]
  · by_cases hx : x = 0
    · by_cases hy : y = 0
      · simp [hx, hy]
      · simp [hx, hy]
    · simp [hx]
theorem z_len1 {st : List Int32} (h : 0 < st.length) : ∃ x r, st = x :: r := by
  cases st with
  | nil => exact absurd h (Nat.not_lt_zero _)
  | cons x r => exact ⟨x, r, rfl⟩
theorem z_len2 {st : List Int32} (h : 1 < st.length) : ∃ y x r, st = y :: x :: r := by
  obtain ⟨y, s, rfl⟩ := z_len1 (st := st) (by omega)
  obtain ⟨x, r, rfl⟩ := z_len1 (st := s) (by simpa using h)
  exact ⟨y, x, r, rfl⟩
theorem z_len11 {st : List Int32} (h : st.length = 1) : ∃ x, st = [x] := by
  obtain ⟨x, r, rfl⟩ := z_len1 (st := st) (by omega)
  cases r with
  | nil => exact ⟨x, rfl⟩
  | cons y r => simp at h
/-- the code's worth -/
def z_wo (v : Nat → Int32) (cd : List (Int32 × Int32)) : Int32 := (z_rn v cd []).headD 0
theorem c_worth {m : mm_M} {i b : Nat} {cd : List (Int32 × Int32)} {a1 a2 : Int32} (ha1 : a1.toInt = (b : Int)) (ha2 : a2.toInt = ((b + cd.length : Nat) : Int)) (h1 : b + cd.length ≤ 400) (h2 : ∀ j e, cd[j]? = some e → m 19 i (b + j) = e.1 ∧ m 20 i (b + j) = e.2) (h3 : z_dep cd 0 = some 1) : vW (f_X3_worthOf i a1 a2 m) (fun q => q.1 = z_wo (fun k => m 23 i k) cd ∧ fp [(24, none, none)] m q.2) := by
  unfold f_X3_worthOf
  refine v_s1 (P := fun s => ∃ x, s.1.toInt = 1 ∧ z_rn (fun k => m 23 i k) cd [] = [x] ∧ s.2 24 i 0 = x ∧ fp [(24, none, none)] m s.2) ?_ ?_
  · refine v_for (fun j s => ∃ st : List Int32, s.1.toInt = ((st.length : Nat) : Int) ∧ s.2.1.toInt = ((b + j : Nat) : Int) ∧ z_sk (s.2.2 24 i) st ∧ z_rn (fun k => m 23 i k) cd [] = z_rn (fun k => m 23 i k) (cd.drop j) st ∧ z_dep (cd.drop j) st.length = some 1 ∧ st.length ≤ 40 ∧ fp [(24, none, none)] m s.2.2) 0 cd.length (Nat.zero_le _) (by omega) ⟨[], i_0, ha1, trivial, rfl, h3, Nat.zero_le _, fp_rf⟩ ?_ ?_
    · rintro j ⟨v2, v3, m'⟩ hj ⟨st, hv2, hv3, hk, hr, hd, h40, hf⟩
      dsimp only at hv2 hv3 hk hr hd hf ⊢
      have hg : cd[j]? = some cd[j] := List.getElem?_eq_getElem hj
      rw [List.drop_eq_getElem_cons hj] at hr hd
      obtain ⟨g1, g2⟩ := h2 j _ hg
      revert hr hd g1 g2
      generalize cd[j] = e
      intro hr hd g1 g2
      have k3 : v3.toNatClampNeg = b + j := n_k hv3
      have g3 : m' 19 i v3.toNatClampNeg = e.1 := by rw [k3, hf 19 i _ rfl, g1]
      have g4 : m' 20 i v3.toNatClampNeg = e.2 := by rw [k3, hf 20 i _ rfl, g2]
      have k2 : v2.toNatClampNeg = st.length := n_k hv2
      have p3 : (v3 + 1).toInt = ((b + (j + 1) : Nat) : Int) := by rw [n_1 (by omega)]; omega
      rcases z_dep_c hd with ⟨c1, c2, c3⟩ | ⟨c1, c2, c3, c4⟩ | ⟨c1, c2, c3⟩ | ⟨c1, c2, c3⟩
      · (repeat (first | with_reducible refine v_l1 ?_ | with_reducible refine v_lN ?_ | with_reducible refine v_lO ?_ | with_reducible refine v_lM ?_ | with_reducible refine v_lF ?_ | with_reducible refine v_ifp (by first | assumption | omega | (simp (disch := first | omega | fail) only [v_in, iA_le, iA_lt, n_1, n_0, n_p1, Int32.reduceToInt, ne_eq, not_true_eq_false, not_false_eq_true, eq_self, Int.toNat_natCast, hv2, hv3, ha2, g3, c1] <;> omega) | decide | fail) ?_ | with_reducible refine v_ifn (by first | assumption | omega | (simp (disch := first | omega | fail) only [v_in, iA_le, iA_lt, n_1, n_0, n_p1, Int32.reduceToInt, ne_eq, not_true_eq_false, not_false_eq_true, eq_self, Int.toNat_natCast, hv2, hv3, ha2, g3, c1] <;> omega) | decide | fail) ?_))
        refine v_lI (fun v5 h5 => ?_)
        have h6 : v5 = e.1 := h5.trans g3
        clear h5
        subst h6
        (repeat (first | with_reducible refine v_l1 ?_ | with_reducible refine v_lN ?_ | with_reducible refine v_lO ?_ | with_reducible refine v_lM ?_ | with_reducible refine v_lF ?_ | with_reducible refine v_ifp (by first | assumption | omega | (simp (disch := first | omega | fail) only [v_in, iA_le, iA_lt, n_1, n_0, n_p1, Int32.reduceToInt, ne_eq, not_true_eq_false, not_false_eq_true, eq_self, Int.toNat_natCast, hv2, hv3, ha2, c1] <;> omega) | decide | fail) ?_ | with_reducible refine v_ifn (by first | assumption | omega | (simp (disch := first | omega | fail) only [v_in, iA_le, iA_lt, n_1, n_0, n_p1, Int32.reduceToInt, ne_eq, not_true_eq_false, not_false_eq_true, eq_self, Int.toNat_natCast, hv2, hv3, ha2, c1] <;> omega) | decide | fail) ?_))
        refine v_il ⟨e.2 :: st, ?_, p3, ⟨by dsimp only; rw [k2, mw_s, g4], z_sk_up hk (fun k hk => by dsimp only; rw [k2]; exact mw_k (by omega))⟩, ?_, c3, by rw [List.length_cons]; omega, fp_w rfl hf⟩
        · rw [List.length_cons, n_1 (by omega)]
          omega
        · rw [hr, z_rn_c, z_s1_n c1]
      · have s1 : (e.1 - 264).toInt = e.1.toInt - 264 := by
          rw [iA_sub (by simp (disch := first | omega | decide | fail) only [v_in, iA_le, iA_lt, iA_cl, nJ_T, n_1, n_0, n_0N, n_a1, n_24, nJ_a, n_sb, Int.toNat_natCast, Int32.reduceToInt, ne_eq, not_true_eq_false, not_false_eq_true, eq_self, v_tle, v_fle, v_tlt, v_flt, v_tln, v_fln, v_feq, true_and, and_true, false_and, and_false, true_or, or_true, false_or, or_false, v_fan] <;> omega) (by simp (disch := first | omega | decide | fail) only [v_in, iA_le, iA_lt, iA_cl, nJ_T, n_1, n_0, n_0N, n_a1, n_24, nJ_a, n_sb, Int.toNat_natCast, Int32.reduceToInt, ne_eq, not_true_eq_false, not_false_eq_true, eq_self, v_tle, v_fle, v_tlt, v_flt, v_tln, v_fln, v_feq, true_and, and_true, false_and, and_false, true_or, or_true, false_or, or_false, v_fan] <;> omega)]
          simp (disch := first | omega | decide | fail) only [v_in, iA_le, iA_lt, iA_cl, nJ_T, n_1, n_0, n_0N, n_a1, n_24, nJ_a, n_sb, Int.toNat_natCast, Int32.reduceToInt, ne_eq, not_true_eq_false, not_false_eq_true, eq_self, v_tle, v_fle, v_tlt, v_flt, v_tln, v_fln, v_feq, true_and, and_true, false_and, and_false, true_or, or_true, false_or, or_false, v_fan]
        (repeat (first | with_reducible refine v_l1 ?_ | with_reducible refine v_lN ?_ | with_reducible refine v_lO ?_ | with_reducible refine v_lM ?_ | with_reducible refine v_lF ?_ | with_reducible refine v_ifp (by first | assumption | omega | (simp (disch := first | omega | fail) only [v_in, iA_le, iA_lt, n_1, n_0, n_p1, Int32.reduceToInt, ne_eq, not_true_eq_false, not_false_eq_true, eq_self, Int.toNat_natCast, hv2, hv3, ha2, g3, c1] <;> omega) | decide | fail) ?_ | with_reducible refine v_ifn (by first | assumption | omega | (simp (disch := first | omega | fail) only [v_in, iA_le, iA_lt, n_1, n_0, n_p1, Int32.reduceToInt, ne_eq, not_true_eq_false, not_false_eq_true, eq_self, Int.toNat_natCast, hv2, hv3, ha2, g3, c1] <;> omega) | decide | fail) ?_))
        refine v_lI (fun v5 h5 => ?_)
        have h6 : v5 = e.1 := h5.trans g3
        clear h5
        subst h6
        have hi : ∀ m, f_X3_isValue e.1 m = some 1 := fun m => by rw [c_isVal, if_pos c2]
        (repeat (first | with_reducible refine v_l1 ?_ | with_reducible refine v_lN ?_ | with_reducible refine v_lO ?_ | with_reducible refine v_lM ?_ | with_reducible refine v_lF ?_ | with_reducible refine v_ifp (by first | assumption | omega | (simp (disch := first | omega | fail) only [v_in, iA_le, iA_lt, n_1, n_0, n_p1, Int32.reduceToInt, ne_eq, not_true_eq_false, not_false_eq_true, eq_self, Int.toNat_natCast, hv2, hv3, ha2, c1, s1] <;> omega) | decide | fail) ?_ | with_reducible refine v_ifn (by first | assumption | omega | (simp (disch := first | omega | fail) only [v_in, iA_le, iA_lt, n_1, n_0, n_p1, Int32.reduceToInt, ne_eq, not_true_eq_false, not_false_eq_true, eq_self, Int.toNat_natCast, hv2, hv3, ha2, c1, s1] <;> omega) | decide | fail) ?_ | with_reducible refine v_b1e (hi _) ?_))
        refine v_il ⟨m' 23 i (e.1 - 264).toNatClampNeg :: st, ?_, p3, ⟨by dsimp only; rw [k2, mw_s], z_sk_up hk (fun k hk => by dsimp only; rw [k2]; exact mw_k (by omega))⟩, ?_, c4, by rw [List.length_cons]; omega, fp_w rfl hf⟩
        · rw [List.length_cons, n_1 (by omega)]
          omega
        · rw [hr, z_rn_c, z_s1_v c1 c2, hf 23 i _ rfl]
      · obtain ⟨x, r, rfl⟩ := z_len1 c2
        rw [List.length_cons] at hv2 h40
        have kk : (v2 - 1).toNatClampNeg = r.length := n_k (by rw [n_0 (by omega)]; omega)
        have hx : m' 24 i (v2 - 1).toNatClampNeg = x := by rw [kk]; exact hk.1
        have n2 : ¬ e.1 = 2 := by rw [c1]; decide
        have ht0 : ∀ m, f_X3_truth 0 m = some 0 := fun m => rfl
        have ht1 : ∀ m, f_X3_truth 1 m = some 1 := fun m => rfl
        (repeat (first | with_reducible refine v_l1 ?_ | with_reducible refine v_lN ?_ | with_reducible refine v_lO ?_ | with_reducible refine v_lM ?_ | with_reducible refine v_lF ?_ | with_reducible refine v_ifp (by first | assumption | omega | (simp (disch := first | omega | fail) only [v_in, iA_le, iA_lt, n_1, n_0, n_p1, Int32.reduceToInt, ne_eq, not_true_eq_false, not_false_eq_true, eq_self, Int.toNat_natCast, hv2, hv3, ha2, g3, c1] <;> omega) | decide | fail) ?_ | with_reducible refine v_ifn (by first | assumption | omega | (simp (disch := first | omega | fail) only [v_in, iA_le, iA_lt, n_1, n_0, n_p1, Int32.reduceToInt, ne_eq, not_true_eq_false, not_false_eq_true, eq_self, Int.toNat_natCast, hv2, hv3, ha2, g3, c1] <;> omega) | decide | fail) ?_))
        refine v_lI (fun v5 h5 => ?_)
        have h6 : v5 = e.1 := h5.trans g3
        clear h5
        subst h6
        have nv : ∀ m, f_X3_isValue e.1 m = some 0 := fun m => by
          rw [c1, c_isVal]
          rfl
        by_cases h0 : x = 0
        · (repeat (first | with_reducible refine v_l1 ?_ | with_reducible refine v_lN ?_ | with_reducible refine v_lO ?_ | with_reducible refine v_lM ?_ | with_reducible refine v_lF ?_ | with_reducible refine v_ifp (by first | assumption | omega | (simp (disch := first | omega | fail) only [v_in, iA_le, iA_lt, n_1, n_0, n_p1, Int32.reduceToInt, ne_eq, not_true_eq_false, not_false_eq_true, eq_self, Int.toNat_natCast, hv2, hv3, ha2, c1, n2, hx, h0] <;> omega) | decide | fail) ?_ | with_reducible refine v_ifn (by first | assumption | omega | (simp (disch := first | omega | fail) only [v_in, iA_le, iA_lt, n_1, n_0, n_p1, Int32.reduceToInt, ne_eq, not_true_eq_false, not_false_eq_true, eq_self, Int.toNat_natCast, hv2, hv3, ha2, c1, n2, hx, h0] <;> omega) | decide | fail) ?_ | with_reducible refine v_b1e (nv _) ?_ | with_reducible refine v_b1e (ht1 _) ?_ | with_reducible refine v_b1e (ht0 _) ?_))
          refine v_il ⟨1 :: r, by rw [List.length_cons]; exact hv2, p3, ⟨by dsimp only; rw [kk, mw_s], z_sk_up hk.2 (fun k hk => by dsimp only; rw [kk]; exact mw_k (by omega))⟩, ?_, c3, h40, fp_w rfl hf⟩
          rw [hr, z_rn_c, z_s1_o c1, if_pos h0]
        · (repeat (first | with_reducible refine v_l1 ?_ | with_reducible refine v_lN ?_ | with_reducible refine v_lO ?_ | with_reducible refine v_lM ?_ | with_reducible refine v_lF ?_ | with_reducible refine v_ifp (by first | assumption | omega | (simp (disch := first | omega | fail) only [v_in, iA_le, iA_lt, n_1, n_0, n_p1, Int32.reduceToInt, ne_eq, not_true_eq_false, not_false_eq_true, eq_self, Int.toNat_natCast, hv2, hv3, ha2, c1, n2, hx, h0] <;> omega) | decide | fail) ?_ | with_reducible refine v_ifn (by first | assumption | omega | (simp (disch := first | omega | fail) only [v_in, iA_le, iA_lt, n_1, n_0, n_p1, Int32.reduceToInt, ne_eq, not_true_eq_false, not_false_eq_true, eq_self, Int.toNat_natCast, hv2, hv3, ha2, c1, n2, hx, h0] <;> omega) | decide | fail) ?_ | with_reducible refine v_b1e (nv _) ?_ | with_reducible refine v_b1e (ht1 _) ?_ | with_reducible refine v_b1e (ht0 _) ?_))
          refine v_il ⟨0 :: r, by rw [List.length_cons]; exact hv2, p3, ⟨by dsimp only; rw [kk, mw_s], z_sk_up hk.2 (fun k hk => by dsimp only; rw [kk]; exact mw_k (by omega))⟩, ?_, c3, h40, fp_w rfl hf⟩
          rw [hr, z_rn_c, z_s1_o c1, if_neg h0]
      · obtain ⟨y, x, r, rfl⟩ := z_len2 c2
        rw [List.length_cons, List.length_cons] at hv2 h40 c3
        have n2 : ¬ e.1 = 2 := by rcases c1 with h | h | h | h | h | h | h | h <;> rw [h] <;> decide
        have n3 : ¬ (264 ≤ e.1.toInt ∧ e.1.toInt ≤ 268) := by rcases c1 with h | h | h | h | h | h | h | h <;> rw [h] <;> decide
        have n4 : ¬ e.1 = 263 := by rcases c1 with h | h | h | h | h | h | h | h <;> rw [h] <;> decide
        have nv : ∀ m, f_X3_isValue e.1 m = some 0 := fun m => by rw [c_isVal, if_neg n3]
        have hz := z_s1_b (v := fun k => m 23 i k) (y := y) (x := x) (r := r) n2 n3 n4
        have hj2 : ∀ m, f_X3_joined e.1 x y m = some (z_bi e.1 x y) := fun m => c_join c1
        clear c1 n3
        (repeat (first | with_reducible refine v_l1 ?_ | with_reducible refine v_lN ?_ | with_reducible refine v_lO ?_ | with_reducible refine v_lM ?_ | with_reducible refine v_lF ?_ | with_reducible refine v_ifp (by first | assumption | omega | (simp (disch := first | omega | fail) only [v_in, iA_le, iA_lt, n_1, n_0, n_p1, Int32.reduceToInt, ne_eq, not_true_eq_false, not_false_eq_true, eq_self, Int.toNat_natCast, hv2, hv3, ha2, g3, n2] <;> omega) | decide | fail) ?_ | with_reducible refine v_ifn (by first | assumption | omega | (simp (disch := first | omega | fail) only [v_in, iA_le, iA_lt, n_1, n_0, n_p1, Int32.reduceToInt, ne_eq, not_true_eq_false, not_false_eq_true, eq_self, Int.toNat_natCast, hv2, hv3, ha2, g3, n2] <;> omega) | decide | fail) ?_))
        refine v_lI (fun v5 h5 => ?_)
        have h6 : v5 = e.1 := h5.trans g3
        clear h5
        subst h6
        (repeat (first | with_reducible refine v_l1 ?_ | with_reducible refine v_lN ?_ | with_reducible refine v_lO ?_ | with_reducible refine v_lM ?_ | with_reducible refine v_lF ?_ | with_reducible refine v_ifp (by first | assumption | omega | (simp (disch := first | omega | fail) only [v_in, iA_le, iA_lt, n_1, n_0, n_p1, Int32.reduceToInt, ne_eq, not_true_eq_false, not_false_eq_true, eq_self, Int.toNat_natCast, hv2, hv3, ha2, n2, n4] <;> omega) | decide | fail) ?_ | with_reducible refine v_ifn (by first | assumption | omega | (simp (disch := first | omega | fail) only [v_in, iA_le, iA_lt, n_1, n_0, n_p1, Int32.reduceToInt, ne_eq, not_true_eq_false, not_false_eq_true, eq_self, Int.toNat_natCast, hv2, hv3, ha2, n2, n4] <;> omega) | decide | fail) ?_ | with_reducible refine v_b1e (nv _) ?_))
        refine v_lI (fun w hw => ?_)
        have e2 : w.toInt = ((r.length + 1 : Nat) : Int) := by
          rw [hw]
          exact n_s2 hv2
        clear hw
        have k1 : w.toNatClampNeg = r.length + 1 := n_k e2
        have e3 : (w - 1).toInt = (r.length : Int) := n_s1 e2
        have k0 : (w - 1).toNatClampNeg = r.length := n_k e3
        have hy : m' 24 i w.toNatClampNeg = y := by rw [k1]; exact hk.1
        have hx : m' 24 i (w - 1).toNatClampNeg = x := by rw [k0]; exact hk.2.1
        rw [← hx, ← hy] at hj2
        (repeat (first | with_reducible refine v_l1 ?_ | with_reducible refine v_lN ?_ | with_reducible refine v_lO ?_ | with_reducible refine v_lM ?_ | with_reducible refine v_lF ?_ | with_reducible refine v_ifp (by first | assumption | omega | (simp (disch := first | omega | fail) only [v_in, iA_le, iA_lt, n_1, n_0, n_p1, Int32.reduceToInt, ne_eq, not_true_eq_false, not_false_eq_true, eq_self, Int.toNat_natCast, hv2, hv3, ha2, e2, e3] <;> omega) | decide | fail) ?_ | with_reducible refine v_ifn (by first | assumption | omega | (simp (disch := first | omega | fail) only [v_in, iA_le, iA_lt, n_1, n_0, n_p1, Int32.reduceToInt, ne_eq, not_true_eq_false, not_false_eq_true, eq_self, Int.toNat_natCast, hv2, hv3, ha2, e2, e3] <;> omega) | decide | fail) ?_ | with_reducible refine v_b1e (hj2 _) ?_))
        refine v_il ⟨z_bi e.1 x y :: r, by rw [List.length_cons]; exact e2, p3, ⟨by dsimp only; rw [k0, mw_s, ← k0, hx, hy], z_sk_up hk.2.2 (fun k hk => by dsimp only; rw [k0]; exact mw_k (by omega))⟩, ?_, c3, by rw [List.length_cons]; omega, fp_w rfl hf⟩
        rw [hr, z_rn_c, hz]
    · rintro ⟨v2, v3, m'⟩ ⟨st, hv2, hv3, hk, hr, hd, h40, hf⟩
      dsimp only at hv2 hv3 hk hr hd hf ⊢
      (repeat (first | with_reducible refine v_l1 ?_ | with_reducible refine v_lN ?_ | with_reducible refine v_lO ?_ | with_reducible refine v_lM ?_ | with_reducible refine v_lF ?_ | with_reducible refine v_ifp (by first | assumption | omega | (simp (disch := first | omega | fail) only [v_in, iA_le, iA_lt, n_1, n_0, n_p1, Int32.reduceToInt, ne_eq, not_true_eq_false, not_false_eq_true, eq_self, Int.toNat_natCast, hv2, hv3, ha2] <;> omega) | decide | fail) ?_ | with_reducible refine v_ifn (by first | assumption | omega | (simp (disch := first | omega | fail) only [v_in, iA_le, iA_lt, n_1, n_0, n_p1, Int32.reduceToInt, ne_eq, not_true_eq_false, not_false_eq_true, eq_self, Int.toNat_natCast, hv2, hv3, ha2] <;> omega) | decide | fail) ?_))
      rw [List.drop_length] at hr hd
      obtain ⟨x, rfl⟩ := z_len11 (Option.some.inj hd)
      exact v_ir ⟨x, hv2, hr, hk.1, hf⟩
  · rintro ⟨v, m'⟩ ⟨x, hv, hr, hx, hf⟩
    dsimp only at hv hr hx hf ⊢
    (repeat (first | with_reducible refine v_l1 ?_ | with_reducible refine v_lN ?_ | with_reducible refine v_lO ?_ | with_reducible refine v_lM ?_ | with_reducible refine v_lF ?_ | with_reducible refine v_ifp (by first | assumption | omega | (simp (disch := first | omega | fail) only [v_in, iA_le, iA_lt, n_1, n_0, n_p1, Int32.reduceToInt, ne_eq, not_true_eq_false, not_false_eq_true, eq_self, Int.toNat_natCast, hv] <;> omega) | decide | fail) ?_ | with_reducible refine v_ifn (by first | assumption | omega | (simp (disch := first | omega | fail) only [v_in, iA_le, iA_lt, n_1, n_0, n_p1, Int32.reduceToInt, ne_eq, not_true_eq_false, not_false_eq_true, eq_self, Int.toNat_natCast, hv] <;> omega) | decide | fail) ?_))
    refine v_so ⟨?_, hf⟩
    have k : (v - 1).toNatClampNeg = 0 := n_k (by rw [n_0 (by omega)]; omega)
    unfold z_wo
    dsimp only
    rw [k, hr, hx]
    rfl
theorem z_s1_cg {v w : Nat → Int32} {e : Int32 × Int32} {st : List Int32} (h : ∀ k, k < 5 → v k = w k) : z_s1 v e st = z_s1 w e st := by
  unfold z_s1
  by_cases h1 : e.1 = 2
  · rw [if_pos h1, if_pos h1]
  · rw [if_neg h1, if_neg h1]
    by_cases h2 : 264 ≤ e.1.toInt ∧ e.1.toInt ≤ 268
    · rw [if_pos h2, if_pos h2, h]
      have s1 : (e.1 - 264).toInt = e.1.toInt - 264 := by
        rw [iA_sub (by simp (disch := first | omega | decide | fail) only [v_in, iA_le, iA_lt, iA_cl, nJ_T, n_1, n_0, n_0N, n_a1, n_24, nJ_a, n_sb, Int.toNat_natCast, Int32.reduceToInt, ne_eq, not_true_eq_false, not_false_eq_true, eq_self, v_tle, v_fle, v_tlt, v_flt, v_tln, v_fln, v_feq, true_and, and_true, false_and, and_false, true_or, or_true, false_or, or_false, v_fan] <;> omega) (by simp (disch := first | omega | decide | fail) only [v_in, iA_le, iA_lt, iA_cl, nJ_T, n_1, n_0, n_0N, n_a1, n_24, nJ_a, n_sb, Int.toNat_natCast, Int32.reduceToInt, ne_eq, not_true_eq_false, not_false_eq_true, eq_self, v_tle, v_fle, v_tlt, v_flt, v_tln, v_fln, v_feq, true_and, and_true, false_and, and_false, true_or, or_true, false_or, or_false, v_fan] <;> omega)]
        simp (disch := first | omega | decide | fail) only [v_in, iA_le, iA_lt, iA_cl, nJ_T, n_1, n_0, n_0N, n_a1, n_24, nJ_a, n_sb, Int.toNat_natCast, Int32.reduceToInt, ne_eq, not_true_eq_false, not_false_eq_true, eq_self, v_tle, v_fle, v_tlt, v_flt, v_tln, v_fln, v_feq, true_and, and_true, false_and, and_false, true_or, or_true, false_or, or_false, v_fan]
      rw [iA_cl, s1]
      omega
    · rw [if_neg h2, if_neg h2]
theorem z_rn_cg {v w : Nat → Int32} (h : ∀ k, k < 5 → v k = w k) : ∀ (cd : List (Int32 × Int32)) (st : List Int32), z_rn v cd st = z_rn w cd st
  | [], _ => rfl
  | e :: r, st => by
    show z_rn v r (z_s1 v e st) = z_rn w r (z_s1 w e st)
    rw [z_s1_cg h, z_rn_cg h r]
theorem z_wo_cg {v w : Nat → Int32} {cd : List (Int32 × Int32)} (h : ∀ k, k < 5 → v k = w k) : z_wo v cd = z_wo w cd := by
  unfold z_wo
  rw [z_rn_cg h]
theorem z_enc_app : ∀ (a b : List (Int32 × Int32)), z_enc (a ++ b) = z_enc a ++ z_enc b
  | [], _ => rfl
  | e :: r, b => by
    show z_en e ++ z_enc (r ++ b) = z_en e ++ z_enc r ++ z_enc b
    rw [z_enc_app r b, List.append_assoc]
theorem z_enc_cut {cd : List (Int32 × Int32)} {j : Nat} (hj : j < cd.length) : z_enc cd = z_enc (cd.take j) ++ (z_en cd[j] ++ z_enc (cd.drop (j + 1))) := by
  have e : cd = cd.take j ++ cd[j] :: cd.drop (j + 1) := by rw [← List.drop_eq_getElem_cons hj, List.take_append_drop]
  calc z_enc cd = z_enc (cd.take j ++ cd[j] :: cd.drop (j + 1)) := by rw [← e]
    _ = _ := by
      rw [z_enc_app]
      rfl
theorem z_enc_at {cd : List (Int32 × Int32)} {j i : Nat} {x : Int32} (hj : j < cd.length) (hx : (z_en cd[j])[i]? = some x) : (z_enc cd)[(z_enc (cd.take j)).length + i]? = some x := by
  rw [z_enc_cut hj, List.getElem?_append_right (by omega), Nat.add_sub_cancel_left]
  rw [List.getElem?_append_left (List.getElem?_eq_some_iff.mp hx).1]
  exact hx
theorem z_enc_ln {cd : List (Int32 × Int32)} {j : Nat} (hj : j < cd.length) : (z_enc (cd.take (j + 1))).length = (z_enc (cd.take j)).length + (z_en cd[j]).length ∧ (z_enc (cd.take j)).length + (z_en cd[j]).length ≤ (z_enc cd).length := by
  constructor
  · rw [List.take_succ_eq_append_getElem hj, z_enc_app, List.length_append]
    show _ + (z_en cd[j] ++ []).length = _
    rw [List.append_nil]
  · have := congrArg List.length (z_enc_cut hj)
    rw [List.length_append, List.length_append] at this
    omega
theorem z_en_pos (e : Int32 × Int32) : 1 ≤ (z_en e).length := by
  unfold z_en
  split
  · exact Nat.le_succ 1
  · split
    · exact Nat.le_refl 1
    · exact Nat.le_refl 1
theorem z_len400 : ∀ (cd : List (Int32 × Int32)) {b : Nat}, b + (z_enc cd).length ≤ 800 → cd.length ≤ 800
  | [], _, _ => Nat.zero_le _
  | e :: r, b, h => by
    have h4 : ∀ cd : List (Int32 × Int32), cd.length ≤ (z_enc cd).length := by
      intro cd
      induction cd with
      | nil => exact Nat.le_refl 0
      | cons e r ih =>
        have h1 : (z_enc (e :: r)).length = (z_en e).length + (z_enc r).length := List.length_append
        have h2 := z_en_pos e
        rw [List.length_cons]
        omega
    have := h4 (e :: r)
    omega
theorem r_worth {m : mm_M} {k b : Nat} {cd : List (Int32 × Int32)} {a1 : Int32} (ha1 : a1.toInt = (k : Int)) (hk4 : k < 4) (h81 : (m 81 0 k).toInt = (b : Int)) (h82 : (m 82 0 k).toInt = ((b + (z_enc cd).length : Nat) : Int)) (h1 : b + (z_enc cd).length ≤ 800) (h2 : ∀ j e, (z_enc cd)[j]? = some e → m 83 0 (b + j) = e) (h3 : z_dep cd 0 = some 1) (hlen : cd.length ≤ 800) : vW (f_X12_worked a1 m) (fun q => q.1 = z_wo (fun k => m 84 0 k) cd ∧ fp [(85, none, none)] m q.2) := by
  unfold f_X12_worked
  have ka : a1.toNatClampNeg = k := n_k ha1
  (repeat (first | with_reducible refine v_l1 ?_ | with_reducible refine v_lN ?_ | with_reducible refine v_lO ?_ | with_reducible refine v_lM ?_ | with_reducible refine v_lF ?_ | with_reducible refine v_ifp (by first | assumption | omega | (simp (disch := first | omega | fail) only [v_in, iA_le, iA_lt, n_1, n_0, n_p1, Int32.reduceToInt, ne_eq, not_true_eq_false, not_false_eq_true, eq_self, Int.toNat_natCast, ha1] <;> omega) | decide | fail) ?_ | with_reducible refine v_ifn (by first | assumption | omega | (simp (disch := first | omega | fail) only [v_in, iA_le, iA_lt, n_1, n_0, n_p1, Int32.reduceToInt, ne_eq, not_true_eq_false, not_false_eq_true, eq_self, Int.toNat_natCast, ha1] <;> omega) | decide | fail) ?_))
  refine v_lI (fun w1 hw1 => ?_)
  have hw2 : w1.toInt = (b : Int) := by rw [hw1, ka, h81]
  clear hw1
  refine v_s1 (P := fun c => ∃ x, z_rn (fun k => m 84 0 k) cd [] = [x] ∧ c 85 0 0 = x ∧ fp [(85, none, none)] m c) ?_ ?_
  · refine v_for (fun j s => ∃ st : List Int32, s.1.toInt = ((st.length : Nat) : Int) ∧ s.2.1.toInt = ((b + (z_enc (cd.take j)).length : Nat) : Int) ∧ z_sk (s.2.2 85 0) st ∧ z_rn (fun k => m 84 0 k) cd [] = z_rn (fun k => m 84 0 k) (cd.drop j) st ∧ z_dep (cd.drop j) st.length = some 1 ∧ st.length ≤ 40 ∧ fp [(85, none, none)] m s.2.2) 0 cd.length (Nat.zero_le _) (by omega) ⟨[], i_0, hw2, trivial, rfl, h3, Nat.zero_le _, fp_rf⟩ ?_ ?_
    · rintro j ⟨v2, v3, m'⟩ hj ⟨st, hv2, hv3, hk, hr, hd, h40, hf⟩
      dsimp only at hv2 hv3 hk hr hd hf ⊢
      have hat := fun i x => z_enc_at (i := i) (x := x) hj
      have hln := z_enc_ln hj
      rw [List.drop_eq_getElem_cons hj] at hr hd
      have g82 : (m' 82 0 a1.toNatClampNeg).toInt = ((b + (z_enc cd).length : Nat) : Int) := by rw [ka, hf 82 0 k rfl, h82]
      rw [show (z_enc (cd.take (j + 1))).length = (z_enc (cd.take j)).length + (z_en cd[j]).length from hln.1]
      replace hln := hln.2
      revert hr hd hat hln hv3
      generalize (z_enc (cd.take j)).length = P
      generalize cd[j] = e
      intro hv3 hr hd hat hln
      have hrd : ∀ i x, (z_en e)[i]? = some x → m' 83 0 (b + P + i) = x := fun i x hx => by
        rw [hf 83 0 _ rfl, Nat.add_assoc]
        exact h2 _ _ (hat i x hx)
      have k3 : v3.toNatClampNeg = b + P := n_k hv3
      have k2 : v2.toNatClampNeg = st.length := n_k hv2
      rcases z_dep_c hd with ⟨c1, c2, c3⟩ | ⟨c1, c2, c3, c4⟩ | ⟨c1, c2, c3⟩ | ⟨c1, c2, c3⟩
      · have en : z_en e = [0, e.2] := if_pos c1
        have eln : (z_en e).length = 2 := by rw [en]; rfl
        rw [eln] at hln ⊢
        rw [en] at hrd
        have r0 : m' 83 0 v3.toNatClampNeg = 0 := by rw [k3]; exact hrd 0 0 rfl
        (repeat (first | with_reducible refine v_l1 ?_ | with_reducible refine v_lN ?_ | with_reducible refine v_lO ?_ | with_reducible refine v_lM ?_ | with_reducible refine v_lF ?_ | with_reducible refine v_ifp (by first | assumption | omega | (simp (disch := first | omega | fail) only [v_in, iA_le, iA_lt, n_1, n_0, n_p1, Int32.reduceToInt, ne_eq, not_true_eq_false, not_false_eq_true, eq_self, Int.toNat_natCast, ha1, hv2, hv3, g82] <;> omega) | decide | fail) ?_ | with_reducible refine v_ifn (by first | assumption | omega | (simp (disch := first | omega | fail) only [v_in, iA_le, iA_lt, n_1, n_0, n_p1, Int32.reduceToInt, ne_eq, not_true_eq_false, not_false_eq_true, eq_self, Int.toNat_natCast, ha1, hv2, hv3, g82] <;> omega) | decide | fail) ?_))
        refine v_lI (fun w hw => ?_)
        have h0 : w = 0 := hw.trans r0
        clear hw
        subst h0
        have q3 : (v3 + 1).toInt = ((b + P + 1 : Nat) : Int) := n_s3 hv3 (by omega)
        have kq : (v3 + 1).toNatClampNeg = b + P + 1 := n_k q3
        (repeat (first | with_reducible refine v_l1 ?_ | with_reducible refine v_lN ?_ | with_reducible refine v_lO ?_ | with_reducible refine v_lM ?_ | with_reducible refine v_lF ?_ | with_reducible refine v_ifp (by first | assumption | omega | (simp (disch := first | omega | fail) only [v_in, iA_le, iA_lt, n_1, n_0, n_p1, Int32.reduceToInt, ne_eq, not_true_eq_false, not_false_eq_true, eq_self, Int.toNat_natCast, ha1, hv2, hv3, g82, q3] <;> omega) | decide | fail) ?_ | with_reducible refine v_ifn (by first | assumption | omega | (simp (disch := first | omega | fail) only [v_in, iA_le, iA_lt, n_1, n_0, n_p1, Int32.reduceToInt, ne_eq, not_true_eq_false, not_false_eq_true, eq_self, Int.toNat_natCast, ha1, hv2, hv3, g82, q3] <;> omega) | decide | fail) ?_))
        refine v_il ⟨e.2 :: st, ?_, ?_, ⟨by dsimp only; rw [k2, mw_s, kq]; exact hrd 1 _ rfl, z_sk_up hk (fun k hk => by dsimp only; rw [k2]; exact mw_k (by omega))⟩, ?_, c3, by rw [List.length_cons]; omega, fp_w rfl hf⟩
        · rw [List.length_cons]
          exact n_s3 hv2 (by omega)
        · exact n_s3 (k := b + P + 1) q3 (by omega)
        · rw [hr, z_rn_c, z_s1_n c1]
      · have en : z_en e = [20 + (e.1 - 264)] := by
          unfold z_en
          rw [if_neg c1, if_pos c2]
        have eln : (z_en e).length = 1 := by rw [en]; rfl
        rw [eln] at hln ⊢
        rw [en] at hrd
        have r0 : m' 83 0 v3.toNatClampNeg = 20 + (e.1 - 264) := by rw [k3]; exact hrd 0 _ rfl
        have s1 : (e.1 - 264).toInt = e.1.toInt - 264 := by
          rw [iA_sub (by simp (disch := first | omega | decide | fail) only [v_in, iA_le, iA_lt, iA_cl, nJ_T, n_1, n_0, n_0N, n_a1, n_24, nJ_a, n_sb, Int.toNat_natCast, Int32.reduceToInt, ne_eq, not_true_eq_false, not_false_eq_true, eq_self, v_tle, v_fle, v_tlt, v_flt, v_tln, v_fln, v_feq, true_and, and_true, false_and, and_false, true_or, or_true, false_or, or_false, v_fan] <;> omega) (by simp (disch := first | omega | decide | fail) only [v_in, iA_le, iA_lt, iA_cl, nJ_T, n_1, n_0, n_0N, n_a1, n_24, nJ_a, n_sb, Int.toNat_natCast, Int32.reduceToInt, ne_eq, not_true_eq_false, not_false_eq_true, eq_self, v_tle, v_fle, v_tlt, v_flt, v_tln, v_fln, v_feq, true_and, and_true, false_and, and_false, true_or, or_true, false_or, or_false, v_fan] <;> omega)]
          simp (disch := first | omega | decide | fail) only [v_in, iA_le, iA_lt, iA_cl, nJ_T, n_1, n_0, n_0N, n_a1, n_24, nJ_a, n_sb, Int.toNat_natCast, Int32.reduceToInt, ne_eq, not_true_eq_false, not_false_eq_true, eq_self, v_tle, v_fle, v_tlt, v_flt, v_tln, v_fln, v_feq, true_and, and_true, false_and, and_false, true_or, or_true, false_or, or_false, v_fan]
        have s2 : (20 + (e.1 - 264)).toInt = e.1.toInt - 244 := by
          rw [iA_add (by rw [s1]; simp (disch := first | omega | decide | fail) only [v_in, iA_le, iA_lt, iA_cl, nJ_T, n_1, n_0, n_0N, n_a1, n_24, nJ_a, n_sb, Int.toNat_natCast, Int32.reduceToInt, ne_eq, not_true_eq_false, not_false_eq_true, eq_self, v_tle, v_fle, v_tlt, v_flt, v_tln, v_fln, v_feq, true_and, and_true, false_and, and_false, true_or, or_true, false_or, or_false, v_fan] <;> omega) (by rw [s1]; simp (disch := first | omega | decide | fail) only [v_in, iA_le, iA_lt, iA_cl, nJ_T, n_1, n_0, n_0N, n_a1, n_24, nJ_a, n_sb, Int.toNat_natCast, Int32.reduceToInt, ne_eq, not_true_eq_false, not_false_eq_true, eq_self, v_tle, v_fle, v_tlt, v_flt, v_tln, v_fln, v_feq, true_and, and_true, false_and, and_false, true_or, or_true, false_or, or_false, v_fan] <;> omega), s1]
          simp (disch := first | omega | decide | fail) only [v_in, iA_le, iA_lt, iA_cl, nJ_T, n_1, n_0, n_0N, n_a1, n_24, nJ_a, n_sb, Int.toNat_natCast, Int32.reduceToInt, ne_eq, not_true_eq_false, not_false_eq_true, eq_self, v_tle, v_fle, v_tlt, v_flt, v_tln, v_fln, v_feq, true_and, and_true, false_and, and_false, true_or, or_true, false_or, or_false, v_fan]
          omega
        have s3 : 20 + (e.1 - 264) - 20 = e.1 - 264 := by rw [Int32.add_comm, Int32.add_sub_cancel]
        have q3 := n_s3 hv3 (by omega)
        (repeat (first | with_reducible refine v_l1 ?_ | with_reducible refine v_lN ?_ | with_reducible refine v_lO ?_ | with_reducible refine v_lM ?_ | with_reducible refine v_lF ?_ | with_reducible refine v_ifp (by first | assumption | omega | (simp (disch := first | omega | fail) only [v_in, iA_le, iA_lt, n_1, n_0, n_p1, Int32.reduceToInt, ne_eq, not_true_eq_false, not_false_eq_true, eq_self, Int.toNat_natCast, ha1, hv2, hv3, g82] <;> omega) | decide | fail) ?_ | with_reducible refine v_ifn (by first | assumption | omega | (simp (disch := first | omega | fail) only [v_in, iA_le, iA_lt, n_1, n_0, n_p1, Int32.reduceToInt, ne_eq, not_true_eq_false, not_false_eq_true, eq_self, Int.toNat_natCast, ha1, hv2, hv3, g82] <;> omega) | decide | fail) ?_))
        refine v_lI (fun w hw => ?_)
        have h6 : w.toInt = e.1.toInt - 244 := by rw [hw, r0, s2]
        have h7 : w - 20 = e.1 - 264 := by rw [hw, r0, s3]
        have h8 : (w - 20).toInt = e.1.toInt - 264 := by rw [h7, s1]
        have h9 : ¬ w = 0 := n_ne (by rw [h6, i_0]; omega)
        clear hw r0 s1 s2 s3
        (repeat (first | with_reducible refine v_l1 ?_ | with_reducible refine v_lN ?_ | with_reducible refine v_lO ?_ | with_reducible refine v_lM ?_ | with_reducible refine v_lF ?_ | with_reducible refine v_ifp (by first | assumption | omega | (simp (disch := first | omega | fail) only [v_in, iA_le, iA_lt, n_1, n_0, n_p1, Int32.reduceToInt, ne_eq, not_true_eq_false, not_false_eq_true, eq_self, Int.toNat_natCast, ha1, hv2, hv3, g82, h6, h8, h9] <;> omega) | decide | fail) ?_ | with_reducible refine v_ifn (by first | assumption | omega | (simp (disch := first | omega | fail) only [v_in, iA_le, iA_lt, n_1, n_0, n_p1, Int32.reduceToInt, ne_eq, not_true_eq_false, not_false_eq_true, eq_self, Int.toNat_natCast, ha1, hv2, hv3, g82, h6, h8, h9] <;> omega) | decide | fail) ?_))
        refine v_il ⟨m' 84 0 (e.1 - 264).toNatClampNeg :: st, ?_, q3, ⟨by dsimp only; rw [k2, mw_s, h7], z_sk_up hk (fun k hk => by dsimp only; rw [k2]; exact mw_k (by omega))⟩, ?_, c4, by rw [List.length_cons]; omega, fp_w rfl hf⟩
        · rw [List.length_cons]
          exact n_s3 hv2 (by omega)
        · rw [hr, z_rn_c, z_s1_v c1 c2, hf 84 0 _ rfl]
      · obtain ⟨x, r, rfl⟩ := z_len1 c2
        rw [List.length_cons] at hv2 h40
        have kk : (v2 - 1).toNatClampNeg = r.length := n_k (n_s1 hv2)
        have kj := n_s1 hv2
        have hx : m' 85 0 (v2 - 1).toNatClampNeg = x := by rw [kk]; exact hk.1
        have n2 : ¬ e.1 = 2 := by rw [c1]; decide
        have en : z_en e = [9] := by
          unfold z_en
          rw [if_neg n2, if_neg (by rw [c1]; decide), c1]
          rfl
        have eln : (z_en e).length = 1 := by rw [en]; rfl
        rw [eln] at hln ⊢
        rw [en] at hrd
        have r0 : m' 83 0 v3.toNatClampNeg = 9 := by rw [k3]; exact hrd 0 _ rfl
        have q3 := n_s3 hv3 (by omega)
        (repeat (first | with_reducible refine v_l1 ?_ | with_reducible refine v_lN ?_ | with_reducible refine v_lO ?_ | with_reducible refine v_lM ?_ | with_reducible refine v_lF ?_ | with_reducible refine v_ifp (by first | assumption | omega | (simp (disch := first | omega | fail) only [v_in, iA_le, iA_lt, n_1, n_0, n_p1, Int32.reduceToInt, ne_eq, not_true_eq_false, not_false_eq_true, eq_self, Int.toNat_natCast, ha1, hv2, hv3, g82] <;> omega) | decide | fail) ?_ | with_reducible refine v_ifn (by first | assumption | omega | (simp (disch := first | omega | fail) only [v_in, iA_le, iA_lt, n_1, n_0, n_p1, Int32.reduceToInt, ne_eq, not_true_eq_false, not_false_eq_true, eq_self, Int.toNat_natCast, ha1, hv2, hv3, g82] <;> omega) | decide | fail) ?_))
        refine v_lI (fun w hw => ?_)
        have h0 : w = 9 := hw.trans r0
        clear hw
        subst h0
        by_cases h0 : x = 0
        · (repeat (first | with_reducible refine v_l1 ?_ | with_reducible refine v_lN ?_ | with_reducible refine v_lO ?_ | with_reducible refine v_lM ?_ | with_reducible refine v_lF ?_ | with_reducible refine v_ifp (by first | assumption | omega | (simp (disch := first | omega | fail) only [v_in, iA_le, iA_lt, n_1, n_0, n_p1, Int32.reduceToInt, ne_eq, not_true_eq_false, not_false_eq_true, eq_self, Int.toNat_natCast, ha1, hv2, hv3, g82, hx, h0, kj] <;> omega) | decide | fail) ?_ | with_reducible refine v_ifn (by first | assumption | omega | (simp (disch := first | omega | fail) only [v_in, iA_le, iA_lt, n_1, n_0, n_p1, Int32.reduceToInt, ne_eq, not_true_eq_false, not_false_eq_true, eq_self, Int.toNat_natCast, ha1, hv2, hv3, g82, hx, h0, kj] <;> omega) | decide | fail) ?_))
          refine v_il ⟨1 :: r, by rw [List.length_cons]; exact hv2, q3, ⟨by dsimp only; rw [kk, mw_s], z_sk_up hk.2 (fun k hk => by dsimp only; rw [kk]; exact mw_k (by omega))⟩, ?_, c3, h40, fp_w rfl hf⟩
          rw [hr, z_rn_c, z_s1_o c1, if_pos h0]
        · (repeat (first | with_reducible refine v_l1 ?_ | with_reducible refine v_lN ?_ | with_reducible refine v_lO ?_ | with_reducible refine v_lM ?_ | with_reducible refine v_lF ?_ | with_reducible refine v_ifp (by first | assumption | omega | (simp (disch := first | omega | fail) only [v_in, iA_le, iA_lt, n_1, n_0, n_p1, Int32.reduceToInt, ne_eq, not_true_eq_false, not_false_eq_true, eq_self, Int.toNat_natCast, ha1, hv2, hv3, g82, hx, h0, kj] <;> omega) | decide | fail) ?_ | with_reducible refine v_ifn (by first | assumption | omega | (simp (disch := first | omega | fail) only [v_in, iA_le, iA_lt, n_1, n_0, n_p1, Int32.reduceToInt, ne_eq, not_true_eq_false, not_false_eq_true, eq_self, Int.toNat_natCast, ha1, hv2, hv3, g82, hx, h0, kj] <;> omega) | decide | fail) ?_))
          refine v_il ⟨0 :: r, by rw [List.length_cons]; exact hv2, q3, ⟨by dsimp only; rw [kk, mw_s], z_sk_up hk.2 (fun k hk => by dsimp only; rw [kk]; exact mw_k (by omega))⟩, ?_, c3, h40, fp_w rfl hf⟩
          rw [hr, z_rn_c, z_s1_o c1, if_neg h0]
      · obtain ⟨y, x, r, rfl⟩ := z_len2 c2
        rw [List.length_cons, List.length_cons] at hv2 h40 c3
        have n2 : ¬ e.1 = 2 := by rcases c1 with h | h | h | h | h | h | h | h <;> rw [h] <;> decide
        have n3 : ¬ (264 ≤ e.1.toInt ∧ e.1.toInt ≤ 268) := by rcases c1 with h | h | h | h | h | h | h | h <;> rw [h] <;> decide
        have n4 : ¬ e.1 = 263 := by rcases c1 with h | h | h | h | h | h | h | h <;> rw [h] <;> decide
        have en : z_en e = [z_op e.1] := by
          unfold z_en
          rw [if_neg n2, if_neg n3]
        have eln : (z_en e).length = 1 := by rw [en]; rfl
        rw [eln] at hln ⊢
        rw [en] at hrd
        have r0 : m' 83 0 v3.toNatClampNeg = z_op e.1 := by rw [k3]; exact hrd 0 _ rfl
        have o1 : ¬ z_op e.1 = 0 := by rcases c1 with h | h | h | h | h | h | h | h <;> rw [h] <;> decide
        have o2 : (z_op e.1).toInt < 20 := by rcases c1 with h | h | h | h | h | h | h | h <;> rw [h] <;> decide
        have o3 : ¬ z_op e.1 = 9 := by rcases c1 with h | h | h | h | h | h | h | h <;> rw [h] <;> decide
        have hj2 : ∀ m, f_X12_two (z_op e.1) x y m = some (z_bi e.1 x y) := fun m => r_two c1
        have hz := z_s1_b (v := fun k => m 84 0 k) (y := y) (x := x) (r := r) n2 n3 n4
        clear c1 n3
        have q3 := n_s3 hv3 (by omega)
        (repeat (first | with_reducible refine v_l1 ?_ | with_reducible refine v_lN ?_ | with_reducible refine v_lO ?_ | with_reducible refine v_lM ?_ | with_reducible refine v_lF ?_ | with_reducible refine v_ifp (by first | assumption | omega | (simp (disch := first | omega | fail) only [v_in, iA_le, iA_lt, n_1, n_0, n_p1, Int32.reduceToInt, ne_eq, not_true_eq_false, not_false_eq_true, eq_self, Int.toNat_natCast, ha1, hv2, hv3, g82] <;> omega) | decide | fail) ?_ | with_reducible refine v_ifn (by first | assumption | omega | (simp (disch := first | omega | fail) only [v_in, iA_le, iA_lt, n_1, n_0, n_p1, Int32.reduceToInt, ne_eq, not_true_eq_false, not_false_eq_true, eq_self, Int.toNat_natCast, ha1, hv2, hv3, g82] <;> omega) | decide | fail) ?_))
        refine v_lI (fun u hu => ?_)
        have h6 : u = z_op e.1 := hu.trans r0
        rw [← h6] at o1 o2 o3 hj2
        clear hu
        (repeat (first | with_reducible refine v_l1 ?_ | with_reducible refine v_lN ?_ | with_reducible refine v_lO ?_ | with_reducible refine v_lM ?_ | with_reducible refine v_lF ?_ | with_reducible refine v_ifp (by first | assumption | omega | (simp (disch := first | omega | fail) only [v_in, iA_le, iA_lt, n_1, n_0, n_p1, Int32.reduceToInt, ne_eq, not_true_eq_false, not_false_eq_true, eq_self, Int.toNat_natCast, ha1, hv2, hv3, g82, o1, o3] <;> omega) | decide | fail) ?_ | with_reducible refine v_ifn (by first | assumption | omega | (simp (disch := first | omega | fail) only [v_in, iA_le, iA_lt, n_1, n_0, n_p1, Int32.reduceToInt, ne_eq, not_true_eq_false, not_false_eq_true, eq_self, Int.toNat_natCast, ha1, hv2, hv3, g82, o1, o3] <;> omega) | decide | fail) ?_))
        refine v_lI (fun w hw => ?_)
        have e2 : w.toInt = ((r.length + 1 : Nat) : Int) := by
          rw [hw]
          exact n_s2 hv2
        clear hw
        have k1 : w.toNatClampNeg = r.length + 1 := n_k e2
        have e3 : (w - 1).toInt = (r.length : Int) := n_s1 e2
        have k0 : (w - 1).toNatClampNeg = r.length := n_k e3
        have hy : m' 85 0 w.toNatClampNeg = y := by rw [k1]; exact hk.1
        have hx : m' 85 0 (w - 1).toNatClampNeg = x := by rw [k0]; exact hk.2.1
        rw [← hx, ← hy] at hj2
        (repeat (first | with_reducible refine v_l1 ?_ | with_reducible refine v_lN ?_ | with_reducible refine v_lO ?_ | with_reducible refine v_lM ?_ | with_reducible refine v_lF ?_ | with_reducible refine v_ifp (by first | assumption | omega | (simp (disch := first | omega | fail) only [v_in, iA_le, iA_lt, n_1, n_0, n_p1, Int32.reduceToInt, ne_eq, not_true_eq_false, not_false_eq_true, eq_self, Int.toNat_natCast, hv2, hv3, e2, e3] <;> omega) | decide | fail) ?_ | with_reducible refine v_ifn (by first | assumption | omega | (simp (disch := first | omega | fail) only [v_in, iA_le, iA_lt, n_1, n_0, n_p1, Int32.reduceToInt, ne_eq, not_true_eq_false, not_false_eq_true, eq_self, Int.toNat_natCast, hv2, hv3, e2, e3] <;> omega) | decide | fail) ?_ | with_reducible refine v_b1e (hj2 _) ?_))
        refine v_il ⟨z_bi e.1 x y :: r, by rw [List.length_cons]; exact e2, q3, ⟨by dsimp only; rw [k0, mw_s, ← k0, hx, hy], z_sk_up hk.2.2 (fun k hk => by dsimp only; rw [k0]; exact mw_k (by omega))⟩, ?_, c3, by rw [List.length_cons]; omega, fp_w rfl hf⟩
        rw [hr, z_rn_c, hz]
    · rintro ⟨v2, v3, m'⟩ ⟨st, hv2, hv3, hk, hr, hd, h40, hf⟩
      dsimp only at hv2 hv3 hk hr hd hf ⊢
      have g82 : (m' 82 0 a1.toNatClampNeg).toInt = ((b + (z_enc cd).length : Nat) : Int) := by rw [ka, hf 82 0 k rfl, h82]
      rw [List.take_length] at hv3
      (repeat (first | with_reducible refine v_l1 ?_ | with_reducible refine v_lN ?_ | with_reducible refine v_lO ?_ | with_reducible refine v_lM ?_ | with_reducible refine v_lF ?_ | with_reducible refine v_ifp (by first | assumption | omega | (simp (disch := first | omega | fail) only [v_in, iA_le, iA_lt, n_1, n_0, n_p1, Int32.reduceToInt, ne_eq, not_true_eq_false, not_false_eq_true, eq_self, Int.toNat_natCast, ha1, hv2, hv3, g82] <;> omega) | decide | fail) ?_ | with_reducible refine v_ifn (by first | assumption | omega | (simp (disch := first | omega | fail) only [v_in, iA_le, iA_lt, n_1, n_0, n_p1, Int32.reduceToInt, ne_eq, not_true_eq_false, not_false_eq_true, eq_self, Int.toNat_natCast, ha1, hv2, hv3, g82] <;> omega) | decide | fail) ?_))
      rw [List.drop_length] at hr hd
      obtain ⟨x, rfl⟩ := z_len11 (Option.some.inj hd)
      exact v_ir ⟨x, hr, hk.1, hf⟩
  · rintro m' ⟨x, hr, hx, hf⟩
    refine v_so ⟨?_, hf⟩
    unfold z_wo
    dsimp only
    rw [hr, hx]
    rfl
theorem z_thC_fr {c c' : mm_M} {t N Y : Nat} {K A B H : Nat → Int32} (hc : ∀ g i k, z_in [(5, none, none), (37, none, none), (38, none, none), (39, none, none), (40, none, none)] g i k = true → c' g i k = c g i k) (h : z_thC c t N K A B H Y) : z_thC c' t N K A B H Y := by
  unfold z_thC at h ⊢
  simp only [fun i k => hc 5 i k rfl, fun i k => hc 37 i k rfl, fun i k => hc 38 i k rfl, fun i k => hc 39 i k rfl, fun i k => hc 40 i k rfl]
  exact h
theorem z_thM_fr {m m' : mm_M} {t N Y : Nat} {K A B H : Nat → Int32} (hm : ∀ g i k, z_in [(67, none, none), (68, none, none), (69, none, none), (70, none, none), (71, none, none), (72, none, none)] g i k = true → m' g i k = m g i k) (h : z_thM m t N K A B H Y) : z_thM m' t N K A B H Y := by
  unfold z_thM at h ⊢
  simp only [fun i k => hm 67 i k rfl, fun i k => hm 68 i k rfl, fun i k => hm 69 i k rfl, fun i k => hm 70 i k rfl, fun i k => hm 71 i k rfl, fun i k => hm 72 i k rfl]
  exact h
