/-! what calls look at first -/
theorem z_arg (a : Int32) (T : Nat) (hT : T < 100000) : (∃ t, t < T ∧ a = Int32.ofNat t) ∨ ¬ (0 ≤ a.toInt ∧ a.toInt < (T : Int)) := by
  by_cases h : 0 ≤ a.toInt ∧ a.toInt < (T : Int)
  · exact Or.inl ⟨a.toInt.toNat, by omega, n_of h.1⟩
  · exact Or.inr h
theorem z_c2 (a : Int32) : a = 0 ∨ a = 1 ∨ (¬ a = 0 ∧ ¬ a = 1 ∧ ¬ (0 ≤ a.toInt ∧ a.toInt ≤ 1)) := by
  by_cases h0 : a = 0
  · exact Or.inl h0
  by_cases h1 : a = 1
  · exact Or.inr (Or.inl h1)
  refine Or.inr (Or.inr ⟨h0, h1, ?_⟩)
  rw [iA_eq, i_0] at h0
  rw [iA_eq, i_1] at h1
  omega
theorem z_c3 (a : Int32) : a = 0 ∨ a = 1 ∨ a = 2 ∨ (¬ a = 0 ∧ ¬ a = 1 ∧ ¬ a = 2 ∧ ¬ (0 ≤ a.toInt ∧ a.toInt ≤ 2)) := by
  by_cases h0 : a = 0
  · exact Or.inl h0
  by_cases h1 : a = 1
  · exact Or.inr (Or.inl h1)
  by_cases h2 : a = 2
  · exact Or.inr (Or.inr (Or.inl h2))
  refine Or.inr (Or.inr (Or.inr ⟨h0, h1, h2, ?_⟩))
  rw [iA_eq, i_0] at h0
  rw [iA_eq, i_1] at h1
  rw [iA_eq, i_2] at h2
  omega
theorem c_sOk {m : mm_M} {T t : Nat} (hT : m 0 0 2 = Int32.ofNat T) (h8 : T ≤ 8) (ht : t < T) : f_X11_strandOf (Int32.ofNat t) m = some (.inr t) := by
  unfold f_X11_strandOf
  simp (disch := first | omega | decide | fail) only [hT, v_in, iA_le, iA_lt, iA_cl, nJ_T, n_1, n_0, n_0N, n_a1, n_24, nJ_a, n_sb, Int.toNat_natCast, Int32.reduceToInt, ne_eq, not_true_eq_false, not_false_eq_true, eq_self, v_tle, v_fle, v_tlt, v_flt, v_tln, v_fln, v_feq, true_and, and_true, false_and, and_false, true_or, or_true, false_or, or_false, v_fan, ↓ml_let, ml_b1, ml_b2, ml_bxr, ml_bxl, ↓reduceIte, v_some, ↓v_let, v_b1, v_b2, v_pr, v_pl, nJ_N, Nat.zero_add]
theorem c_sOn {m : mm_M} {T : Nat} {a : Int32} (hT : m 0 0 2 = Int32.ofNat T) (h8 : T ≤ 8) (ha : ¬ (0 ≤ a.toInt ∧ a.toInt < (T : Int))) : f_X11_strandOf a m = some (.inl 1) := by
  unfold f_X11_strandOf
  by_cases h : a.toInt < 0
  · simp (disch := first | omega | decide | fail) only [hT, v_in, iA_le, iA_lt, iA_cl, nJ_T, n_1, n_0, n_0N, n_a1, n_24, nJ_a, n_sb, Int.toNat_natCast, Int32.reduceToInt, ne_eq, not_true_eq_false, not_false_eq_true, eq_self, v_tle, v_fle, v_tlt, v_flt, v_tln, v_fln, v_feq, true_and, and_true, false_and, and_false, true_or, or_true, false_or, or_false, v_fan, ↓ml_let, ml_b1, ml_b2, ml_bxr, ml_bxl, ↓reduceIte, v_some, ↓v_let, v_b1, v_b2, v_pr, v_pl]
  · simp (disch := first | omega | decide | fail) only [hT, v_in, iA_le, iA_lt, iA_cl, nJ_T, n_1, n_0, n_0N, n_a1, n_24, nJ_a, n_sb, Int.toNat_natCast, Int32.reduceToInt, ne_eq, not_true_eq_false, not_false_eq_true, eq_self, v_tle, v_fle, v_tlt, v_flt, v_tln, v_fln, v_feq, true_and, and_true, false_and, and_false, true_or, or_true, false_or, or_false, v_fan, ↓ml_let, ml_b1, ml_b2, ml_bxr, ml_bxl, ↓reduceIte, v_some, ↓v_let, v_b1, v_b2, v_pr, v_pl]
theorem c_nPk {m : mm_M} {i N p : Nat} (hN : m 5 i 4 = Int32.ofNat N) (h24 : N ≤ 24) (hp : p < N) : f_X11_needPart i (Int32.ofNat p) m = some (.inr ()) := by
  unfold f_X11_needPart
  simp (disch := first | omega | decide | fail) only [hN, v_in, iA_le, iA_lt, iA_cl, nJ_T, n_1, n_0, n_0N, n_a1, n_24, nJ_a, n_sb, Int.toNat_natCast, Int32.reduceToInt, ne_eq, not_true_eq_false, not_false_eq_true, eq_self, v_tle, v_fle, v_tlt, v_flt, v_tln, v_fln, v_feq, true_and, and_true, false_and, and_false, true_or, or_true, false_or, or_false, v_fan, ↓ml_let, ml_b1, ml_b2, ml_bxr, ml_bxl, ↓reduceIte, v_some, ↓v_let, v_b1, v_b2, v_pr, v_pl]
theorem c_nPn {m : mm_M} {i N : Nat} {a : Int32} (hN : m 5 i 4 = Int32.ofNat N) (h24 : N ≤ 24) (ha : ¬ (0 ≤ a.toInt ∧ a.toInt < (N : Int))) : f_X11_needPart i a m = some (.inl 1) := by
  unfold f_X11_needPart
  by_cases h : a.toInt < 0
  · simp (disch := first | omega | decide | fail) only [hN, v_in, iA_le, iA_lt, iA_cl, nJ_T, n_1, n_0, n_0N, n_a1, n_24, nJ_a, n_sb, Int.toNat_natCast, Int32.reduceToInt, ne_eq, not_true_eq_false, not_false_eq_true, eq_self, v_tle, v_fle, v_tlt, v_flt, v_tln, v_fln, v_feq, true_and, and_true, false_and, and_false, true_or, or_true, false_or, or_false, v_fan, ↓ml_let, ml_b1, ml_b2, ml_bxr, ml_bxl, ↓reduceIte, v_some, ↓v_let, v_b1, v_b2, v_pr, v_pl]
  · simp (disch := first | omega | decide | fail) only [hN, v_in, iA_le, iA_lt, iA_cl, nJ_T, n_1, n_0, n_0N, n_a1, n_24, nJ_a, n_sb, Int.toNat_natCast, Int32.reduceToInt, ne_eq, not_true_eq_false, not_false_eq_true, eq_self, v_tle, v_fle, v_tlt, v_flt, v_tln, v_fln, v_feq, true_and, and_true, false_and, and_false, true_or, or_true, false_or, or_false, v_fan, ↓ml_let, ml_b1, ml_b2, ml_bxr, ml_bxl, ↓reduceIte, v_some, ↓v_let, v_b1, v_b2, v_pr, v_pl]
theorem r_is1 {a lo hi : Int32} {m : mm_M} (h : lo.toInt ≤ a.toInt ∧ a.toInt ≤ hi.toInt) : f_X12_isIn a lo hi m = some 1 := by rw [r_isIn, if_pos h]
theorem r_is0 {a lo hi : Int32} {m : mm_M} (h : ¬ (lo.toInt ≤ a.toInt ∧ a.toInt ≤ hi.toInt)) : f_X12_isIn a lo hi m = some 0 := by rw [r_isIn, if_neg h]
theorem r_iTk {m : mm_M} {T t : Nat} (hT : m 12 0 4 = Int32.ofNat T) (h8 : T ≤ 8) (ht : t < T) : f_X12_isThread (Int32.ofNat t) m = some 1 := by
  unfold f_X12_isThread
  rw [hT, r_is1 (by simp (disch := first | omega | decide | fail) only [v_in, iA_le, iA_lt, iA_cl, nJ_T, n_1, n_0, n_0N, n_a1, n_24, nJ_a, n_sb, Int.toNat_natCast, Int32.reduceToInt, ne_eq, not_true_eq_false, not_false_eq_true, eq_self, v_tle, v_fle, v_tlt, v_flt, v_tln, v_fln, v_feq, true_and, and_true, false_and, and_false, true_or, or_true, false_or, or_false, v_fan])]
  rfl
theorem r_iTn {m : mm_M} {T : Nat} {a : Int32} (hT : m 12 0 4 = Int32.ofNat T) (h8 : T ≤ 8) (ha : ¬ (0 ≤ a.toInt ∧ a.toInt < (T : Int))) : f_X12_isThread a m = some 0 := by
  unfold f_X12_isThread
  rw [hT, r_is0 (by simp (disch := first | omega | decide | fail) only [v_in, iA_le, iA_lt, iA_cl, nJ_T, n_1, n_0, n_0N, n_a1, n_24, nJ_a, n_sb, Int.toNat_natCast, Int32.reduceToInt, ne_eq, not_true_eq_false, not_false_eq_true, eq_self, v_tle, v_fle, v_tlt, v_flt, v_tln, v_fln, v_feq, true_and, and_true, false_and, and_false, true_or, or_true, false_or, or_false, v_fan])]
  rfl
theorem r_iPk {m : mm_M} {T t N p : Nat} (hT : m 12 0 4 = Int32.ofNat T) (h8 : T ≤ 8) (ht : t < T) (hN : m 67 0 t = Int32.ofNat N) (h24 : N ≤ 24) (hp : p < N) : f_X12_isPart (Int32.ofNat t) (Int32.ofNat p) m = some 1 := by
  unfold f_X12_isPart
  rw [r_iTk hT h8 ht]
  simp (disch := first | omega | decide | fail) only [ml_b1, v_in, iA_le, iA_lt, iA_cl, nJ_T, n_1, n_0, n_0N, n_a1, n_24, nJ_a, n_sb, Int.toNat_natCast, Int32.reduceToInt, ne_eq, not_true_eq_false, not_false_eq_true, eq_self, v_tle, v_fle, v_tlt, v_flt, v_tln, v_fln, v_feq, true_and, and_true, false_and, and_false, true_or, or_true, false_or, or_false, v_fan, ↓ml_let, ml_b1, ml_b2, ml_bxr, ml_bxl, ↓reduceIte, v_some, ↓v_let, v_b1, v_b2, v_pr, v_pl, nJ_N, hN, r_isIn]
theorem r_iPn {m : mm_M} {T t N : Nat} {a : Int32} (hT : m 12 0 4 = Int32.ofNat T) (h8 : T ≤ 8) (ht : t < T) (hN : m 67 0 t = Int32.ofNat N) (h24 : N ≤ 24) (ha : ¬ (0 ≤ a.toInt ∧ a.toInt < (N : Int))) : f_X12_isPart (Int32.ofNat t) a m = some 0 := by
  unfold f_X12_isPart
  rw [r_iTk hT h8 ht]
  have e : f_X12_isIn a 0 (Int32.ofNat N - 1) m = some 0 := r_is0 (by simp (disch := first | omega | decide | fail) only [v_in, iA_le, iA_lt, iA_cl, nJ_T, n_1, n_0, n_0N, n_a1, n_24, nJ_a, n_sb, Int.toNat_natCast, Int32.reduceToInt, ne_eq, not_true_eq_false, not_false_eq_true, eq_self, v_tle, v_fle, v_tlt, v_flt, v_tln, v_fln, v_feq, true_and, and_true, false_and, and_false, true_or, or_true, false_or, or_false, v_fan])
  simp (disch := first | omega | decide | fail) only [ml_b1, v_in, iA_le, iA_lt, iA_cl, nJ_T, n_1, n_0, n_0N, n_a1, n_24, nJ_a, n_sb, Int.toNat_natCast, Int32.reduceToInt, ne_eq, not_true_eq_false, not_false_eq_true, eq_self, v_tle, v_fle, v_tlt, v_flt, v_tln, v_fln, v_feq, true_and, and_true, false_and, and_false, true_or, or_true, false_or, or_false, v_fan, ↓ml_let, ml_b1, ml_b2, ml_bxr, ml_bxl, ↓reduceIte, v_some, ↓v_let, v_b1, v_b2, v_pr, v_pl, nJ_N, hN, e]
theorem r_iPt {m : mm_M} {T : Nat} {a b : Int32} (hT : m 12 0 4 = Int32.ofNat T) (h8 : T ≤ 8) (ha : ¬ (0 ≤ a.toInt ∧ a.toInt < (T : Int))) : f_X12_isPart a b m = some 0 := by
  unfold f_X12_isPart
  rw [r_iTn hT h8 ha]
  rfl
theorem c_lev {a : Int32} {m : mm_M} : f_X11_needLevel a m = some (if -60000 ≤ a.toInt ∧ a.toInt ≤ 30000 then .inr () else .inl 0) := by
  unfold f_X11_needLevel
  by_cases h1 : a.toInt < -60000
  · simp (disch := first | omega | decide | fail) only [v_in, iA_le, iA_lt, iA_cl, nJ_T, n_1, n_0, n_0N, n_a1, n_24, nJ_a, n_sb, Int.toNat_natCast, Int32.reduceToInt, ne_eq, not_true_eq_false, not_false_eq_true, eq_self, v_tle, v_fle, v_tlt, v_flt, v_tln, v_fln, v_feq, true_and, and_true, false_and, and_false, true_or, or_true, false_or, or_false, v_fan, ↓ml_let, ml_b1, ml_b2, ml_bxr, ml_bxl, ↓reduceIte, v_some, ↓v_let, v_b1, v_b2, v_pr, v_pl]
  by_cases h2 : a.toInt ≤ 30000
  · simp (disch := first | omega | decide | fail) only [v_in, iA_le, iA_lt, iA_cl, nJ_T, n_1, n_0, n_0N, n_a1, n_24, nJ_a, n_sb, Int.toNat_natCast, Int32.reduceToInt, ne_eq, not_true_eq_false, not_false_eq_true, eq_self, v_tle, v_fle, v_tlt, v_flt, v_tln, v_fln, v_feq, true_and, and_true, false_and, and_false, true_or, or_true, false_or, or_false, v_fan, ↓ml_let, ml_b1, ml_b2, ml_bxr, ml_bxl, ↓reduceIte, v_some, ↓v_let, v_b1, v_b2, v_pr, v_pl]
  · simp (disch := first | omega | decide | fail) only [v_in, iA_le, iA_lt, iA_cl, nJ_T, n_1, n_0, n_0N, n_a1, n_24, nJ_a, n_sb, Int.toNat_natCast, Int32.reduceToInt, ne_eq, not_true_eq_false, not_false_eq_true, eq_self, v_tle, v_fle, v_tlt, v_flt, v_tln, v_fln, v_feq, true_and, and_true, false_and, and_false, true_or, or_true, false_or, or_false, v_fan, ↓ml_let, ml_b1, ml_b2, ml_bxr, ml_bxl, ↓reduceIte, v_some, ↓v_let, v_b1, v_b2, v_pr, v_pl]
theorem r_lev {a : Int32} {m : mm_M} : f_X12_isLevel a m = some (if -60000 ≤ a.toInt ∧ a.toInt ≤ 30000 then 1 else 0) := by
  unfold f_X12_isLevel
  rw [r_isIn]
  by_cases h : -60000 ≤ a.toInt ∧ a.toInt ≤ 30000
  · simp (disch := first | omega | decide | fail) only [v_in, iA_le, iA_lt, iA_cl, nJ_T, n_1, n_0, n_0N, n_a1, n_24, nJ_a, n_sb, Int.toNat_natCast, Int32.reduceToInt, ne_eq, not_true_eq_false, not_false_eq_true, eq_self, v_tle, v_fle, v_tlt, v_flt, v_tln, v_fln, v_feq, true_and, and_true, false_and, and_false, true_or, or_true, false_or, or_false, v_fan, ↓ml_let, ml_b1, ml_b2, ml_bxr, ml_bxl, ↓reduceIte, v_some, ↓v_let, v_b1, v_b2, v_pr, v_pl]
  · simp (disch := first | omega | decide | fail) only [v_in, iA_le, iA_lt, iA_cl, nJ_T, n_1, n_0, n_0N, n_a1, n_24, nJ_a, n_sb, Int.toNat_natCast, Int32.reduceToInt, ne_eq, not_true_eq_false, not_false_eq_true, eq_self, v_tle, v_fle, v_tlt, v_flt, v_tln, v_fln, v_feq, true_and, and_true, false_and, and_false, true_or, or_true, false_or, or_false, v_fan, ↓ml_let, ml_b1, ml_b2, ml_bxr, ml_bxl, ↓reduceIte, v_some, ↓v_let, v_b1, v_b2, v_pr, v_pl]
theorem c_iday {a : Int32} {m : mm_M} : f_X11_isDay a m = some (if 0 ≤ a.toInt ∧ a.toInt ≤ 36499 then 1 else 0) := by
  unfold f_X11_isDay
  by_cases h1 : a.toInt < 0
  · simp (disch := first | omega | decide | fail) only [v_in, iA_le, iA_lt, iA_cl, nJ_T, n_1, n_0, n_0N, n_a1, n_24, nJ_a, n_sb, Int.toNat_natCast, Int32.reduceToInt, ne_eq, not_true_eq_false, not_false_eq_true, eq_self, v_tle, v_fle, v_tlt, v_flt, v_tln, v_fln, v_feq, true_and, and_true, false_and, and_false, true_or, or_true, false_or, or_false, v_fan, ↓ml_let, ml_b1, ml_b2, ml_bxr, ml_bxl, ↓reduceIte, v_some, ↓v_let, v_b1, v_b2, v_pr, v_pl]
  by_cases h2 : a.toInt ≤ 36499
  · simp (disch := first | omega | decide | fail) only [v_in, iA_le, iA_lt, iA_cl, nJ_T, n_1, n_0, n_0N, n_a1, n_24, nJ_a, n_sb, Int.toNat_natCast, Int32.reduceToInt, ne_eq, not_true_eq_false, not_false_eq_true, eq_self, v_tle, v_fle, v_tlt, v_flt, v_tln, v_fln, v_feq, true_and, and_true, false_and, and_false, true_or, or_true, false_or, or_false, v_fan, ↓ml_let, ml_b1, ml_b2, ml_bxr, ml_bxl, ↓reduceIte, v_some, ↓v_let, v_b1, v_b2, v_pr, v_pl]
  · simp (disch := first | omega | decide | fail) only [v_in, iA_le, iA_lt, iA_cl, nJ_T, n_1, n_0, n_0N, n_a1, n_24, nJ_a, n_sb, Int.toNat_natCast, Int32.reduceToInt, ne_eq, not_true_eq_false, not_false_eq_true, eq_self, v_tle, v_fle, v_tlt, v_flt, v_tln, v_fln, v_feq, true_and, and_true, false_and, and_false, true_or, or_true, false_or, or_false, v_fan, ↓ml_let, ml_b1, ml_b2, ml_bxr, ml_bxl, ↓reduceIte, v_some, ↓v_let, v_b1, v_b2, v_pr, v_pl]
theorem c_nday {a : Int32} {m : mm_M} : f_X11_needDay a m = some (if 0 ≤ a.toInt ∧ a.toInt ≤ 36499 then .inr () else .inl 1) := by
  unfold f_X11_needDay
  rw [c_iday, ml_b1]
  by_cases h : 0 ≤ a.toInt ∧ a.toInt ≤ 36499
  · simp (disch := first | omega | decide | fail) only [v_in, iA_le, iA_lt, iA_cl, nJ_T, n_1, n_0, n_0N, n_a1, n_24, nJ_a, n_sb, Int.toNat_natCast, Int32.reduceToInt, ne_eq, not_true_eq_false, not_false_eq_true, eq_self, v_tle, v_fle, v_tlt, v_flt, v_tln, v_fln, v_feq, true_and, and_true, false_and, and_false, true_or, or_true, false_or, or_false, v_fan, ↓ml_let, ml_b1, ml_b2, ml_bxr, ml_bxl, ↓reduceIte, v_some, ↓v_let, v_b1, v_b2, v_pr, v_pl]
  · simp (disch := first | omega | decide | fail) only [v_in, iA_le, iA_lt, iA_cl, nJ_T, n_1, n_0, n_0N, n_a1, n_24, nJ_a, n_sb, Int.toNat_natCast, Int32.reduceToInt, ne_eq, not_true_eq_false, not_false_eq_true, eq_self, v_tle, v_fle, v_tlt, v_flt, v_tln, v_fln, v_feq, true_and, and_true, false_and, and_false, true_or, or_true, false_or, or_false, v_fan, ↓ml_let, ml_b1, ml_b2, ml_bxr, ml_bxl, ↓reduceIte, v_some, ↓v_let, v_b1, v_b2, v_pr, v_pl]
theorem c_eve {a : Int32} {m : mm_M} : f_X11_needEvening a m = some (if 0 ≤ a.toInt ∧ a.toInt ≤ (m 0 0 6).toInt then .inr () else .inl 0) := by
  unfold f_X11_needEvening
  by_cases h1 : a.toInt < 0
  · simp (disch := first | omega | decide | fail) only [v_in, iA_le, iA_lt, iA_cl, nJ_T, n_1, n_0, n_0N, n_a1, n_24, nJ_a, n_sb, Int.toNat_natCast, Int32.reduceToInt, ne_eq, not_true_eq_false, not_false_eq_true, eq_self, v_tle, v_fle, v_tlt, v_flt, v_tln, v_fln, v_feq, true_and, and_true, false_and, and_false, true_or, or_true, false_or, or_false, v_fan, ↓ml_let, ml_b1, ml_b2, ml_bxr, ml_bxl, ↓reduceIte, v_some, ↓v_let, v_b1, v_b2, v_pr, v_pl]
  by_cases h2 : a.toInt ≤ (m 0 0 6).toInt
  · simp (disch := first | omega | decide | fail) only [v_in, iA_le, iA_lt, iA_cl, nJ_T, n_1, n_0, n_0N, n_a1, n_24, nJ_a, n_sb, Int.toNat_natCast, Int32.reduceToInt, ne_eq, not_true_eq_false, not_false_eq_true, eq_self, v_tle, v_fle, v_tlt, v_flt, v_tln, v_fln, v_feq, true_and, and_true, false_and, and_false, true_or, or_true, false_or, or_false, v_fan, ↓ml_let, ml_b1, ml_b2, ml_bxr, ml_bxl, ↓reduceIte, v_some, ↓v_let, v_b1, v_b2, v_pr, v_pl]
  · simp (disch := first | omega | decide | fail) only [v_in, iA_le, iA_lt, iA_cl, nJ_T, n_1, n_0, n_0N, n_a1, n_24, nJ_a, n_sb, Int.toNat_natCast, Int32.reduceToInt, ne_eq, not_true_eq_false, not_false_eq_true, eq_self, v_tle, v_fle, v_tlt, v_flt, v_tln, v_fln, v_feq, true_and, and_true, false_and, and_false, true_or, or_true, false_or, or_false, v_fan, ↓ml_let, ml_b1, ml_b2, ml_bxr, ml_bxl, ↓reduceIte, v_some, ↓v_let, v_b1, v_b2, v_pr, v_pl]
/-- an op that refuses or answers without a change of the class's memory keeps the relation -/
theorem qJ_3 {m mM : mm_M} (hM : fp [(12, none, some 3)] m mM) (h : qJ m m) : qJ m mM := by
  obtain ⟨h0, h1, h2, h3, h4, h5, h6, h7, h8, h9, h10, h11, h12, h13, h14, h15⟩ := h
  have hC : fp [] m m := fp_rf
  exact ⟨j_day_kp hC hM (by decide) (by decide) h0, j_fault_kp hC hM (by decide) (by decide) h1, j_dead_kp hC hM (by decide) (by decide) h2, j_str_kp hC hM (by decide) (by decide) h3, j_tap_kp hC hM (by decide) (by decide) h4, j_law_kp hC hM (by decide) (by decide) h5, j_ev_kp hC hM (by decide) (by decide) h6, j_row_kp hC hM (by decide) (by decide) h7, j_inq_kp hC hM (by decide) (by decide) h8, j_found_kp hC hM (by decide) (by decide) h9, j_lamps_kp hC hM (by decide) (by decide) h10, j_net_kp hC hM (by decide) (by decide) h11, j_tsk_kp hC hM (by decide) (by decide) h12, j_dl_kp hC hM (by decide) (by decide) h13, j_alo_kp hC hM (by decide) (by decide) h14, j_she_kp hC hM (by decide) (by decide) h15⟩
theorem fp_30 {m : mm_M} : fp [(12, none, some 3)] m (mm_w m 12 0 3 0) := fp_w rfl fp_rf
theorem fp_31 {m : mm_M} {x : Int32} : fp [(12, none, some 3)] m (mm_w (mm_w m 12 0 3 0) 12 0 3 x) := fp_w rfl (fp_w rfl fp_rf)
/-- queries: both answer alike -/
def z_qy (m : mm_M) (oC : Option (Nat ⊕ Int32)) (oM : Option (Int32 × mm_M)) : Prop := (∃ x, oC = some (.inr x) ∧ oM = some (x, mm_w m 12 0 3 0)) ∨ (oC = some (.inl 1) ∧ oM = some (0, mm_w (mm_w m 12 0 3 0) 12 0 3 1))
theorem z_qyJ {m : mm_M} {a : Nat → Int32} {oC : Option (Nat ⊕ Int32)} {oM : Option (Int32 × mm_M)} (hJ : qJ m m) (h : z_qy m oC oM) (T : ∀ (o : Nat ⊕ Int32) (v : Int32) (mM : mm_M), oC = some o → oM = some (v, mM) → (∀ e9, o = .inl e9 → (e9 = 1 ∧ mM 12 0 3 = 1)) → (∀ t, o = .inr t → mM 12 0 3 = 0 ∧ v = t) → q_To m a m mM) : ∃ mC mM, q_To m a mC mM ∧ qJ mC mM := by
  rcases h with ⟨x, hC, hM⟩ | ⟨hC, hM⟩
  · refine ⟨m, _, T _ _ _ hC hM (fun e9 h => by cases h) (fun t h => ?_), qJ_3 fp_30 hJ⟩
    cases h
    exact ⟨mw_s, rfl⟩
  · refine ⟨m, _, T _ _ _ hC hM (fun e9 h => ?_) (fun t h => by cases h), qJ_3 fp_31 hJ⟩
    cases h
    exact ⟨rfl, mw_s⟩
theorem o_14 : q_Sim qJ 14 := fun m a hJ hop => z_qyJ hJ (by
  have hrow := hJ.2.2.2.2.2.2.2.1
  have hF : z_qy m (some (.inl 1)) (some (0, mm_w (mm_w m 12 0 3 0) 12 0 3 1)) := Or.inr ⟨rfl, rfl⟩
  rcases hrow with ⟨h1, h2⟩ | ⟨n, hn, h1, h2, h3, h4⟩
  · have e1 : f_X11_echoed (a 1) (a 2) m = some (.inl 1) := by
      unfold f_X11_echoed
      by_cases h : (a 1).toInt < 0
      · simp (disch := first | omega | decide | fail) only [h1, v_in, iA_le, iA_lt, iA_cl, nJ_T, n_1, n_0, n_0N, n_a1, n_24, nJ_a, n_sb, Int.toNat_natCast, Int32.reduceToInt, ne_eq, not_true_eq_false, not_false_eq_true, eq_self, v_tle, v_fle, v_tlt, v_flt, v_tln, v_fln, v_feq, true_and, and_true, false_and, and_false, true_or, or_true, false_or, or_false, v_fan, ↓ml_let, ml_b1, ml_b2, ml_bxr, ml_bxl, ↓reduceIte, v_some, ↓v_let, v_b1, v_b2, v_pr, v_pl]
      · simp (disch := first | omega | decide | fail) only [h1, v_in, iA_le, iA_lt, iA_cl, nJ_T, n_1, n_0, n_0N, n_a1, n_24, nJ_a, n_sb, Int.toNat_natCast, Int32.reduceToInt, ne_eq, not_true_eq_false, not_false_eq_true, eq_self, v_tle, v_fle, v_tlt, v_flt, v_tln, v_fln, v_feq, true_and, and_true, false_and, and_false, true_or, or_true, false_or, or_false, v_fan, ↓ml_let, ml_b1, ml_b2, ml_bxr, ml_bxl, ↓reduceIte, v_some, ↓v_let, v_b1, v_b2, v_pr, v_pl]
    have e2 : f_X12_echoed (a 1) (a 2) m = some (0, mm_w (mm_w m 12 0 3 0) 12 0 3 1) := by
      unfold f_X12_echoed
      simp (disch := first | omega | decide | fail) only [h2, v_in, iA_le, iA_lt, iA_cl, nJ_T, n_1, n_0, n_0N, n_a1, n_24, nJ_a, n_sb, Int.toNat_natCast, Int32.reduceToInt, ne_eq, not_true_eq_false, not_false_eq_true, eq_self, v_tle, v_fle, v_tlt, v_flt, v_tln, v_fln, v_feq, true_and, and_true, false_and, and_false, true_or, or_true, false_or, or_false, v_fan, ↓ml_let, ml_b1, ml_b2, ml_bxr, ml_bxl, ↓reduceIte, v_some, ↓v_let, v_b1, v_b2, v_pr, v_pl, mw_s, mw_k, mw_i, mw_g, f_X12_fail]
    rw [e1, e2]
    exact hF
  · rcases z_arg (a 1) n (by omega) with ⟨i, hi, ha⟩ | ha
    · obtain ⟨e1, e2, e3⟩ := h4 i hi
      rw [ha]
      rcases z_c3 (a 2) with hb | hb | hb | ⟨b0, b1, b2, b3⟩
      · refine Or.inl ⟨m 41 0 i, ?_, ?_⟩
        · unfold f_X11_echoed
          simp (disch := first | omega | decide | fail) only [hb, h1, v_in, iA_le, iA_lt, iA_cl, nJ_T, n_1, n_0, n_0N, n_a1, n_24, nJ_a, n_sb, Int.toNat_natCast, Int32.reduceToInt, ne_eq, not_true_eq_false, not_false_eq_true, eq_self, v_tle, v_fle, v_tlt, v_flt, v_tln, v_fln, v_feq, true_and, and_true, false_and, and_false, true_or, or_true, false_or, or_false, v_fan, ↓ml_let, ml_b1, ml_b2, ml_bxr, ml_bxl, ↓reduceIte, v_some, ↓v_let, v_b1, v_b2, v_pr, v_pl, nJ_N]
        · unfold f_X12_echoed
          simp (disch := first | omega | decide | fail) only [hb, h2, h3, v_in, iA_le, iA_lt, iA_cl, nJ_T, n_1, n_0, n_0N, n_a1, n_24, nJ_a, n_sb, Int.toNat_natCast, Int32.reduceToInt, ne_eq, not_true_eq_false, not_false_eq_true, eq_self, v_tle, v_fle, v_tlt, v_flt, v_tln, v_fln, v_feq, true_and, and_true, false_and, and_false, true_or, or_true, false_or, or_false, v_fan, ↓ml_let, ml_b1, ml_b2, ml_bxr, ml_bxl, ↓reduceIte, v_some, ↓v_let, v_b1, v_b2, v_pr, v_pl, mw_s, mw_k, mw_i, mw_g, nJ_N, r_isIn, e1]
      · refine Or.inl ⟨m 42 0 i, ?_, ?_⟩
        · unfold f_X11_echoed
          simp (disch := first | omega | decide | fail) only [hb, h1, v_in, iA_le, iA_lt, iA_cl, nJ_T, n_1, n_0, n_0N, n_a1, n_24, nJ_a, n_sb, Int.toNat_natCast, Int32.reduceToInt, ne_eq, not_true_eq_false, not_false_eq_true, eq_self, v_tle, v_fle, v_tlt, v_flt, v_tln, v_fln, v_feq, true_and, and_true, false_and, and_false, true_or, or_true, false_or, or_false, v_fan, ↓ml_let, ml_b1, ml_b2, ml_bxr, ml_bxl, ↓reduceIte, v_some, ↓v_let, v_b1, v_b2, v_pr, v_pl, nJ_N]
        · unfold f_X12_echoed
          simp (disch := first | omega | decide | fail) only [hb, h2, h3, v_in, iA_le, iA_lt, iA_cl, nJ_T, n_1, n_0, n_0N, n_a1, n_24, nJ_a, n_sb, Int.toNat_natCast, Int32.reduceToInt, ne_eq, not_true_eq_false, not_false_eq_true, eq_self, v_tle, v_fle, v_tlt, v_flt, v_tln, v_fln, v_feq, true_and, and_true, false_and, and_false, true_or, or_true, false_or, or_false, v_fan, ↓ml_let, ml_b1, ml_b2, ml_bxr, ml_bxl, ↓reduceIte, v_some, ↓v_let, v_b1, v_b2, v_pr, v_pl, mw_s, mw_k, mw_i, mw_g, nJ_N, r_isIn, e2]
      · refine Or.inl ⟨m 43 0 i, ?_, ?_⟩
        · unfold f_X11_echoed
          simp (disch := first | omega | decide | fail) only [hb, h1, v_in, iA_le, iA_lt, iA_cl, nJ_T, n_1, n_0, n_0N, n_a1, n_24, nJ_a, n_sb, Int.toNat_natCast, Int32.reduceToInt, ne_eq, not_true_eq_false, not_false_eq_true, eq_self, v_tle, v_fle, v_tlt, v_flt, v_tln, v_fln, v_feq, true_and, and_true, false_and, and_false, true_or, or_true, false_or, or_false, v_fan, ↓ml_let, ml_b1, ml_b2, ml_bxr, ml_bxl, ↓reduceIte, v_some, ↓v_let, v_b1, v_b2, v_pr, v_pl, nJ_N]
        · unfold f_X12_echoed
          simp (disch := first | omega | decide | fail) only [hb, h2, h3, v_in, iA_le, iA_lt, iA_cl, nJ_T, n_1, n_0, n_0N, n_a1, n_24, nJ_a, n_sb, Int.toNat_natCast, Int32.reduceToInt, ne_eq, not_true_eq_false, not_false_eq_true, eq_self, v_tle, v_fle, v_tlt, v_flt, v_tln, v_fln, v_feq, true_and, and_true, false_and, and_false, true_or, or_true, false_or, or_false, v_fan, ↓ml_let, ml_b1, ml_b2, ml_bxr, ml_bxl, ↓reduceIte, v_some, ↓v_let, v_b1, v_b2, v_pr, v_pl, mw_s, mw_k, mw_i, mw_g, nJ_N, r_isIn, e3]
      · refine Or.inr ⟨?_, ?_⟩
        · unfold f_X11_echoed
          simp (disch := first | omega | decide | fail) only [b0, b1, b2, h1, v_in, iA_le, iA_lt, iA_cl, nJ_T, n_1, n_0, n_0N, n_a1, n_24, nJ_a, n_sb, Int.toNat_natCast, Int32.reduceToInt, ne_eq, not_true_eq_false, not_false_eq_true, eq_self, v_tle, v_fle, v_tlt, v_flt, v_tln, v_fln, v_feq, true_and, and_true, false_and, and_false, true_or, or_true, false_or, or_false, v_fan, ↓ml_let, ml_b1, ml_b2, ml_bxr, ml_bxl, ↓reduceIte, v_some, ↓v_let, v_b1, v_b2, v_pr, v_pl, nJ_N]
        · unfold f_X12_echoed
          simp (disch := first | omega | decide | fail) only [b0, b1, b2, h2, h3, v_in, iA_le, iA_lt, iA_cl, nJ_T, n_1, n_0, n_0N, n_a1, n_24, nJ_a, n_sb, Int.toNat_natCast, Int32.reduceToInt, ne_eq, not_true_eq_false, not_false_eq_true, eq_self, v_tle, v_fle, v_tlt, v_flt, v_tln, v_fln, v_feq, true_and, and_true, false_and, and_false, true_or, or_true, false_or, or_false, v_fan, ↓ml_let, ml_b1, ml_b2, ml_bxr, ml_bxl, ↓reduceIte, v_some, ↓v_let, v_b1, v_b2, v_pr, v_pl, mw_s, mw_k, mw_i, mw_g, nJ_N, r_isIn, f_X12_fail]
    · refine Or.inr ⟨?_, ?_⟩
      · unfold f_X11_echoed
        by_cases h : (a 1).toInt < 0
        · simp (disch := first | omega | decide | fail) only [h1, v_in, iA_le, iA_lt, iA_cl, nJ_T, n_1, n_0, n_0N, n_a1, n_24, nJ_a, n_sb, Int.toNat_natCast, Int32.reduceToInt, ne_eq, not_true_eq_false, not_false_eq_true, eq_self, v_tle, v_fle, v_tlt, v_flt, v_tln, v_fln, v_feq, true_and, and_true, false_and, and_false, true_or, or_true, false_or, or_false, v_fan, ↓ml_let, ml_b1, ml_b2, ml_bxr, ml_bxl, ↓reduceIte, v_some, ↓v_let, v_b1, v_b2, v_pr, v_pl]
        · simp (disch := first | omega | decide | fail) only [h1, v_in, iA_le, iA_lt, iA_cl, nJ_T, n_1, n_0, n_0N, n_a1, n_24, nJ_a, n_sb, Int.toNat_natCast, Int32.reduceToInt, ne_eq, not_true_eq_false, not_false_eq_true, eq_self, v_tle, v_fle, v_tlt, v_flt, v_tln, v_fln, v_feq, true_and, and_true, false_and, and_false, true_or, or_true, false_or, or_false, v_fan, ↓ml_let, ml_b1, ml_b2, ml_bxr, ml_bxl, ↓reduceIte, v_some, ↓v_let, v_b1, v_b2, v_pr, v_pl]
      · unfold f_X12_echoed
        simp (disch := first | omega | decide | fail) only [h2, h3, v_in, iA_le, iA_lt, iA_cl, nJ_T, n_1, n_0, n_0N, n_a1, n_24, nJ_a, n_sb, Int.toNat_natCast, Int32.reduceToInt, ne_eq, not_true_eq_false, not_false_eq_true, eq_self, v_tle, v_fle, v_tlt, v_flt, v_tln, v_fln, v_feq, true_and, and_true, false_and, and_false, true_or, or_true, false_or, or_false, v_fan, ↓ml_let, ml_b1, ml_b2, ml_bxr, ml_bxl, ↓reduceIte, v_some, ↓v_let, v_b1, v_b2, v_pr, v_pl, mw_s, mw_k, mw_i, mw_g, nJ_N, r_isIn, f_X12_fail]) (fun o v mM hC hM hX hR => t_op14 hop hC hM (thrown_eq _) hX hR)
