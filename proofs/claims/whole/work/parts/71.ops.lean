/-! small ops: what each of the two functions comes to -/
theorem c_evenings {m : mm_M} {a : Int32} (h0 : 0 ≤ (m 0 0 6).toInt) (h1 : (m 0 0 6).toInt ≤ 999) : f_X11_evenings a m = some (if 0 ≤ a.toInt ∧ (m 0 0 6).toInt + a.toInt ≤ 999 then .inr (m 0 0 6 + a, mm_w m 0 0 6 (m 0 0 6 + a)) else .inl 0) := by
  have e999 : (999 : Int32).toInt = 999 := by decide
  have e0 : (0 : Int32).toInt = 0 := by decide
  have hs : (999 - m 0 0 6 : Int32).toInt = 999 - (m 0 0 6).toInt := by
    rw [iA_sub (by omega) (by omega), e999]
  unfold f_X11_evenings
  by_cases h2 : a < 0
  · rw [if_pos h2]
    rw [iA_lt, e0] at h2
    rw [if_neg (by omega)]
  · rw [if_neg h2]
    rw [iA_lt, e0] at h2
    by_cases h3 : a ≤ 999 - m 0 0 6
    · rw [if_pos h3]
      rw [iA_le, hs] at h3
      rw [if_pos (by omega)]
      simp only [ml_let, mw_get, and_self, if_true]
    · rw [if_neg h3]
      rw [iA_le, hs] at h3
      rw [if_neg (by omega)]
theorem r_evenings {m : mm_M} {a : Int32} (h0 : 0 ≤ (m 12 0 5).toInt) (h1 : (m 12 0 5).toInt ≤ 999) : f_X12_evenings a m = some (if 0 ≤ a.toInt ∧ (m 12 0 5).toInt + a.toInt ≤ 999 then (m 12 0 5 + a, mm_w (mm_w m 12 0 3 0) 12 0 5 (m 12 0 5 + a)) else (0, mm_w (mm_w m 12 0 3 0) 12 0 3 1)) := by
  have e999 : (999 : Int32).toInt = 999 := by decide
  have e0 : (0 : Int32).toInt = 0 := by decide
  unfold f_X12_evenings
  simp only [ml_let, f_X12_fail, ml_b2]
  by_cases h2 : a < 0
  · rw [if_pos h2]
    rw [iA_lt, e0] at h2
    rw [if_neg (by omega)]
  · rw [if_neg h2]
    rw [iA_lt, e0] at h2
    by_cases h3 : 999 < a
    · rw [if_pos h3]
      rw [iA_lt, e999] at h3
      rw [if_neg (by omega)]
    · rw [if_neg h3]
      rw [iA_lt, e999] at h3
      have e5 : mm_w m 12 0 3 0 12 0 5 = m 12 0 5 := by simp [mw_get]
      have hs : (m 12 0 5 + a).toInt = (m 12 0 5).toInt + a.toInt := iA_add (by omega) (by omega)
      rw [e5]
      by_cases h4 : m 12 0 5 + a ≤ 999
      · rw [if_pos h4]
        rw [iA_le, hs, e999] at h4
        rw [if_pos (by omega)]
        simp [mw_get]
      · rw [if_neg h4]
        rw [iA_le, hs, e999] at h4
        rw [if_neg (by omega)]
