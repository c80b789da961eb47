/-! small ops: dead, fault, count -/
theorem i_0 : (0 : Int32).toInt = 0 := by decide
theorem i_1 : (1 : Int32).toInt = 1 := by decide
theorem i_99 : (99 : Int32).toInt = 99 := by decide
/-- the reference's test of a range -/
theorem r_isIn {a lo hi : Int32} {m : mm_M} : f_X12_isIn a lo hi m = some (if lo.toInt ≤ a.toInt ∧ a.toInt ≤ hi.toInt then 1 else 0) := by
  unfold f_X12_isIn
  by_cases h1 : a < lo
  · rw [if_pos h1]
    rw [iA_lt] at h1
    rw [if_neg (by omega)]
  · rw [if_neg h1]
    rw [iA_lt] at h1
    by_cases h2 : hi < a
    · rw [if_pos h2]
      rw [iA_lt] at h2
      rw [if_neg (by omega)]
    · rw [if_neg h2]
      rw [iA_lt] at h2
      rw [if_pos (by omega)]
theorem c_dead {m : mm_M} {a : Int32} : f_X11_dead a m = some (if 0 ≤ a.toInt ∧ a.toInt ≤ 99 then .inr (m 0 0 9, mm_w m 0 0 9 a) else .inl 0) := by
  unfold f_X11_dead
  by_cases h1 : a < 0
  · rw [if_pos h1]
    rw [iA_lt, i_0] at h1
    rw [if_neg (by omega)]
  · rw [if_neg h1]
    rw [iA_lt, i_0] at h1
    by_cases h2 : a ≤ 99
    · rw [if_pos h2]
      rw [iA_le, i_99] at h2
      rw [if_pos (by omega)]
      rfl
    · rw [if_neg h2]
      rw [iA_le, i_99] at h2
      rw [if_neg (by omega)]
theorem r_dead {m : mm_M} {a : Int32} : f_X12_dead a m = some (if 0 ≤ a.toInt ∧ a.toInt ≤ 99 then (m 12 0 43, mm_w (mm_w m 12 0 3 0) 12 0 43 a) else (0, mm_w (mm_w m 12 0 3 0) 12 0 3 1)) := by
  unfold f_X12_dead
  simp only [ml_let, r_isIn, ml_b1, i_0, i_99, f_X12_fail, ml_b2]
  by_cases h : 0 ≤ a.toInt ∧ a.toInt ≤ 99
  · rw [if_pos h, if_pos (by decide), if_pos h]
    simp [mw_get]
  · rw [if_neg h, if_neg (by decide), if_neg h]
def j_dead (c m : mm_M) : Prop := c 0 0 9 = m 12 0 43 ∧ 0 ≤ (c 0 0 9).toInt ∧ (c 0 0 9).toInt ≤ 99
theorem dead_op12 {m : mm_M} {a : Nat → Int32} (hj : j_dead m m) (hop : a 0 &&& 63 = 12) : ∃ mC mM, q_To m a mC mM ∧ j_dead mC mM ∧ ((mC = m ∧ mM = mm_w (mm_w m 12 0 3 0) 12 0 3 1) ∨ ∃ x, mC = mm_w m 0 0 9 x ∧ mM = mm_w (mm_w m 12 0 3 0) 12 0 43 x) := by
  obtain ⟨h0, h1, h2⟩ := hj
  have hC := c_dead (m := m) (a := a 1)
  have hM := r_dead (m := m) (a := a 1)
  by_cases hb : 0 ≤ (a 1).toInt ∧ (a 1).toInt ≤ 99
  · rw [if_pos hb] at hC hM
    refine ⟨mm_w m 0 0 9 (a 1), _, t_op12 hop hC hM (thrown_eq _) (fun e9 h => by cases h) (fun t h => ?_), ?_, Or.inr ⟨_, rfl, rfl⟩⟩
    · cases h
      exact ⟨by simp [mw_get], h0.symm⟩
    · refine ⟨by simp [mw_get], ?_, ?_⟩
      · simp only [mw_get, and_self, if_true]
        omega
      · simp only [mw_get, and_self, if_true]
        omega
  · rw [if_neg hb] at hC hM
    refine ⟨m, _, t_op12 hop hC hM (thrown_eq _) (fun e9 h => ?_) (fun t h => by cases h), ?_, Or.inl ⟨rfl, rfl⟩⟩
    · cases h
      exact ⟨rfl, by simp [mw_get]⟩
    · exact ⟨by simpa [mw_get] using h0, h1, h2⟩
/-- the place of the last refusal -/
def j_fault (c m : mm_M) : Prop := c 0 0 5 = m 12 0 31
theorem fault_op3 {m : mm_M} {a : Nat → Int32} (hj : j_fault m m) (hop : a 0 &&& 63 = 3) : q_To m a m (mm_w m 12 0 3 0) := by
  have hC : f_X11_fault m = some (m 0 0 5) := rfl
  have hM : f_X12_fault m = some (m 0 0 5, mm_w m 12 0 3 0) := by
    unfold f_X12_fault
    simp only [ml_let]
    rw [show m 0 0 5 = m 12 0 31 from hj]
    simp [mw_get]
  exact t_op3 hop hC hM
/-- what is counted -/
def j_count (c m : mm_M) : Prop := c 0 0 6 = m 12 0 5 ∧ c 0 0 2 = m 12 0 4 ∧ c 3 0 8 = m 12 0 6 ∧ c 9 0 5 = m 12 0 77 ∧ c 9 0 8 = m 12 0 78 ∧ c 0 0 15 = m 12 0 99 ∧ c 7 0 3 = m 12 0 62 ∧ c 1 0 1 = m 12 0 21
theorem count_op37 {m : mm_M} {a : Nat → Int32} (hj : j_count m m) (hop : a 0 &&& 63 = 37) : q_To m a m (mm_w m 12 0 3 0) ∨ q_To m a m (mm_w (mm_w m 12 0 3 0) 12 0 3 1) := by
  obtain ⟨h0, h1, h2, h3, h4, h5, h6, h7⟩ := hj
  have key : (∃ x, f_X11_count (a 1) m = some (.inr x) ∧ f_X12_count (a 1) m = some (x, mm_w m 12 0 3 0)) ∨ (f_X11_count (a 1) m = some (.inl 1) ∧ f_X12_count (a 1) m = some (0, mm_w (mm_w m 12 0 3 0) 12 0 3 1)) := by
    unfold f_X11_count f_X12_count
    simp only [ml_let, f_X12_fail, ml_b2, mw_get]
    split
    · exact Or.inl ⟨_, rfl, by simp [h0]⟩
    split
    · exact Or.inl ⟨_, rfl, by simp [h1]⟩
    split
    · exact Or.inl ⟨_, rfl, by simp [h2]⟩
    split
    · exact Or.inl ⟨_, rfl, by simp [h3]⟩
    split
    · exact Or.inl ⟨_, rfl, by simp [h4]⟩
    split
    · exact Or.inl ⟨_, rfl, by simp [h5]⟩
    split
    · exact Or.inl ⟨_, rfl, by simp [h6]⟩
    split
    · exact Or.inl ⟨_, rfl, by simp [h7]⟩
    · exact Or.inr ⟨rfl, rfl⟩
  rcases key with ⟨x, hC, hM⟩ | ⟨hC, hM⟩
  · refine Or.inl (t_op37 hop hC hM (thrown_eq _) (fun e9 h => by cases h) (fun t h => ?_))
    cases h
    exact ⟨by simp [mw_get], rfl⟩
  · refine Or.inr (t_op37 hop hC hM (thrown_eq _) (fun e9 h => ?_) (fun t h => by cases h))
    cases h
    exact ⟨rfl, by simp [mw_get]⟩
