/-! small ops: what each of the two functions comes to -/
theorem c_evenings {m : mm_M} {a : Int32} (h0 : 0 ≤ (m 0 0 6).toInt) (h1 : (m 0 0 6).toInt ≤ 999) : f_X11_evenings a m = some (if 0 ≤ a.toInt ∧ (m 0 0 6).toInt + a.toInt ≤ 999 then .inr (m 0 0 6 + a, mm_w m 0 0 6 (m 0 0 6 + a)) else .inl 0) := by
  have e999 : (999 : Int32).toInt = 999 := by decide
  have e0 : (0 : Int32).toInt = 0 := by decide
  have hs : (999 - m 0 0 6 : Int32).toInt = 999 - (m 0 0 6).toInt := by
    rw [iA_sub (by omega) (by omega), e999]
  unfold f_X11_evenings
  by_cases h2 : a < 0
  · rw [if_pos h2]
    rw [iA_lt, e0] at h2
    rw [if_neg (by omega)]
  · rw [if_neg h2]
    rw [iA_lt, e0] at h2
    by_cases h3 : a ≤ 999 - m 0 0 6
    · rw [if_pos h3]
      rw [iA_le, hs] at h3
      rw [if_pos (by omega)]
      simp only [ml_let, mw_get, and_self, if_true]
    · rw [if_neg h3]
      rw [iA_le, hs] at h3
      rw [if_neg (by omega)]
theorem r_evenings {m : mm_M} {a : Int32} (h0 : 0 ≤ (m 12 0 5).toInt) (h1 : (m 12 0 5).toInt ≤ 999) : f_X12_evenings a m = some (if 0 ≤ a.toInt ∧ (m 12 0 5).toInt + a.toInt ≤ 999 then (m 12 0 5 + a, mm_w (mm_w m 12 0 3 0) 12 0 5 (m 12 0 5 + a)) else (0, mm_w (mm_w m 12 0 3 0) 12 0 3 1)) := by
  have e999 : (999 : Int32).toInt = 999 := by decide
  have e0 : (0 : Int32).toInt = 0 := by decide
  unfold f_X12_evenings
  simp only [ml_let, f_X12_fail, ml_b2]
  by_cases h2 : a < 0
  · rw [if_pos h2]
    rw [iA_lt, e0] at h2
    rw [if_neg (by omega)]
  · rw [if_neg h2]
    rw [iA_lt, e0] at h2
    by_cases h3 : 999 < a
    · rw [if_pos h3]
      rw [iA_lt, e999] at h3
      rw [if_neg (by omega)]
    · rw [if_neg h3]
      rw [iA_lt, e999] at h3
      have e5 : mm_w m 12 0 3 0 12 0 5 = m 12 0 5 := by simp [mw_get]
      have hs : (m 12 0 5 + a).toInt = (m 12 0 5).toInt + a.toInt := iA_add (by omega) (by omega)
      rw [e5]
      by_cases h4 : m 12 0 5 + a ≤ 999
      · rw [if_pos h4]
        rw [iA_le, hs, e999] at h4
        rw [if_pos (by omega)]
        simp [mw_get]
      · rw [if_neg h4]
        rw [iA_le, hs, e999] at h4
        rw [if_neg (by omega)]
/-- the evening: the two programs' counts of evenings -/
def j_day (c m : mm_M) : Prop := c 0 0 6 = m 12 0 5 ∧ 0 ≤ (c 0 0 6).toInt ∧ (c 0 0 6).toInt ≤ 999
theorem thrown_eq (m : mm_M) : f_X12_thrown m = some (m 12 0 3) := rfl
theorem day_op6 {m : mm_M} {a : Nat → Int32} (hj : j_day m m) (hop : a 0 &&& 63 = 6) : ∃ mC mM, q_To m a mC mM ∧ j_day mC mM ∧ ((mC = m ∧ mM = mm_w (mm_w m 12 0 3 0) 12 0 3 1) ∨ ∃ x, mC = mm_w m 0 0 6 x ∧ mM = mm_w (mm_w m 12 0 3 0) 12 0 5 x) := by
  obtain ⟨h0, h1, h2⟩ := hj
  have hC := c_evenings (a := a 1) h1 h2
  rw [h0] at h1 h2
  have hM := r_evenings (a := a 1) h1 h2
  rw [h0] at hC
  by_cases hb : 0 ≤ (a 1).toInt ∧ (m 12 0 5).toInt + (a 1).toInt ≤ 999
  · rw [if_pos hb] at hC hM
    have hs : (m 12 0 5 + a 1).toInt = (m 12 0 5).toInt + (a 1).toInt := iA_add (by omega) (by omega)
    refine ⟨mm_w m 0 0 6 _, _, t_op6 hop hC hM (thrown_eq _) (fun e9 h => by cases h) (fun t h => ?_), ?_, Or.inr ⟨_, rfl, rfl⟩⟩
    · cases h
      exact ⟨by simp [mw_get], rfl⟩
    · refine ⟨by simp [mw_get], ?_, ?_⟩
      · simp only [mw_get, and_self, if_true, hs]
        omega
      · simp only [mw_get, and_self, if_true, hs]
        omega
  · rw [if_neg hb] at hC hM
    refine ⟨m, _, t_op6 hop hC hM (thrown_eq _) (fun e9 h => ?_) (fun t h => by cases h), ?_, Or.inl ⟨rfl, rfl⟩⟩
    · cases h
      exact ⟨rfl, by simp [mw_get]⟩
    · exact ⟨by simpa [mw_get] using h0, by rw [h0]; exact h1, by rw [h0]; exact h2⟩
