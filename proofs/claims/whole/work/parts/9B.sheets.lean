/-! looked for: suspects -/
theorem c_sht {m : mm_M} {S s : Nat} (h : m 0 0 15 = Int32.ofNat S) (hS : S ≤ 8) (hs : s < S) : f_X11_sheetOf (Int32.ofNat s) m = some (.inr s) := by
  apply v_is
  unfold f_X11_sheetOf
  refine v_ifn (by rw [iA_lt, i_0, nJ_T (by omega)]; omega) ?_
  refine v_ifp (by rw [iA_lt, h, nJ_T (by omega), nJ_T (by omega)]; omega) ?_
  refine v_ifp (nJ_in (by omega) (by decide)) ?_
  refine v_lN ?_
  rw [nJ_N (by omega), Nat.zero_add]
  exact v_so rfl
theorem c_shn {m : mm_M} {S : Nat} {a : Int32} (h : m 0 0 15 = Int32.ofNat S) (hS : S ≤ 8) (ha : ¬ (0 ≤ a.toInt ∧ a.toInt < (S : Int))) : f_X11_sheetOf a m = some (.inl 1) := by
  apply v_is
  unfold f_X11_sheetOf
  by_cases h0 : a.toInt < 0
  · exact v_ifp (by rw [iA_lt, i_0]; omega) (v_so rfl)
  · refine v_ifn (by rw [iA_lt, i_0]; omega) ?_
    exact v_ifn (by rw [iA_lt, h, nJ_T (by omega)]; omega) (v_so rfl)
theorem r_sht {m : mm_M} {S s : Nat} (h : m 12 0 99 = Int32.ofNat S) (hS : S ≤ 8) (hs : s < S) : f_X12_isSheet (Int32.ofNat s) m = some 1 := by
  unfold f_X12_isSheet
  rw [h, r_is1 (by rw [i_0, nJ_T (by omega), n_0N (by omega)]; omega)]
  rfl
theorem r_shn {m : mm_M} {S : Nat} {a : Int32} (h : m 12 0 99 = Int32.ofNat S) (hS : S ≤ 8) (ha : ¬ (0 ≤ a.toInt ∧ a.toInt < (S : Int))) : f_X12_isSheet a m = some 0 := by
  unfold f_X12_isSheet
  rw [h, r_is0 (by rw [i_0, n_0N (by omega)]; omega)]
  rfl
