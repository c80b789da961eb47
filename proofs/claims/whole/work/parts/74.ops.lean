/-! small ops: task -/
theorem i_6 : (6 : Int32).toInt = 6 := by decide
def j_task (c m : mm_M) : Prop := c 9 0 8 = m 12 0 78 ∧ 0 ≤ (c 9 0 8).toInt ∧ (c 9 0 8).toInt ≤ 6 ∧ ∀ k : Nat, (k : Int) < (c 9 0 8).toInt → c 57 0 k = m 117 0 k ∧ c 58 0 k = m 118 0 k
def c_taskM (m : mm_M) (a b : Int32) : mm_M := mm_w (mm_w (mm_w m 57 0 (m 9 0 8).toNatClampNeg a) 58 0 (m 9 0 8).toNatClampNeg b) 9 0 8 (m 9 0 8 + 1)
def r_taskM (m : mm_M) (a b : Int32) : mm_M := mm_w (mm_w (mm_w (mm_w m 12 0 3 0) 117 0 (m 12 0 78).toNatClampNeg a) 118 0 (m 12 0 78).toNatClampNeg b) 12 0 78 (m 12 0 78 + 1)
theorem c_task {m : mm_M} {a b : Int32} (h1 : 0 ≤ (m 9 0 8).toInt) (h2 : (m 9 0 8).toInt ≤ 6) : f_X11_task a b m = some (if (0 ≤ a.toInt ∧ a.toInt ≤ 7) ∧ (0 ≤ b.toInt ∧ b.toInt ≤ 7) then (if a ≠ b ∧ (m 9 0 8).toInt < 6 then .inr (m 9 0 8 + 1 - 1, c_taskM m a b) else .inr (-1, m)) else .inl 1) := by
  unfold f_X11_task
  rw [c_needNode, c_needNode]
  by_cases ha : 0 ≤ a.toInt ∧ a.toInt ≤ 7
  · rw [if_pos ha, ml_bxr]
    by_cases hb : 0 ≤ b.toInt ∧ b.toInt ≤ 7
    · rw [if_pos hb, ml_bxr, if_pos (show ((0 ≤ a.toInt ∧ a.toInt ≤ 7) ∧ (0 ≤ b.toInt ∧ b.toInt ≤ 7)) from ⟨ha, hb⟩)]
      by_cases hne : a ≠ b
      · rw [if_pos hne]
        unfold f_X4_addTask
        by_cases hn : m 9 0 8 < 6
        · rw [if_pos hn]
          rw [iA_lt, i_6] at hn
          have hin : mm_in (m 9 0 8) 6 := ⟨by rw [iA_le, i_0]; exact h1, by rw [iA_cl]; omega⟩
          rw [if_pos hin, if_pos (show a ≠ b ∧ (m 9 0 8).toInt < 6 from ⟨hne, hn⟩)]
          simp only [ml_let]
          rw [if_pos (by simp only [mw_get]; simpa using hin)]
          simp [mw_get, ml_b2, c_taskM]
        · rw [if_neg hn]
          rw [iA_lt, i_6] at hn
          rw [if_neg (show ¬ (a ≠ b ∧ (m 9 0 8).toInt < 6) from fun z => hn z.2)]
          rfl
      · rw [if_neg hne, if_neg (show ¬ (a ≠ b ∧ (m 9 0 8).toInt < 6) from fun z => hne z.1)]
    · rw [if_neg hb, ml_bxl, if_neg (show ¬ ((0 ≤ a.toInt ∧ a.toInt ≤ 7) ∧ (0 ≤ b.toInt ∧ b.toInt ≤ 7)) from fun z => hb z.2)]
  · rw [if_neg ha, ml_bxl, if_neg (show ¬ ((0 ≤ a.toInt ∧ a.toInt ≤ 7) ∧ (0 ≤ b.toInt ∧ b.toInt ≤ 7)) from fun z => ha z.1)]
theorem r_task {m : mm_M} {a b : Int32} (h1 : 0 ≤ (m 12 0 78).toInt) (h2 : (m 12 0 78).toInt ≤ 6) : f_X12_task a b m = some (if (0 ≤ a.toInt ∧ a.toInt ≤ 7) ∧ (0 ≤ b.toInt ∧ b.toInt ≤ 7) then (if a ≠ b ∧ (m 12 0 78).toInt < 6 then (m 12 0 78 + 1 - 1, r_taskM m a b) else (-1, mm_w m 12 0 3 0)) else (0, mm_w (mm_w m 12 0 3 0) 12 0 3 1)) := by
  unfold f_X12_task
  have e1 : mm_w m 12 0 3 0 12 0 78 = m 12 0 78 := by simp [mw_get]
  simp only [ml_let, r_isNode, ml_b1, f_X12_fail, ml_b2, e1]
  by_cases ha : 0 ≤ a.toInt ∧ a.toInt ≤ 7
  · rw [if_pos ha, if_neg (show ¬ ((1 : Int32) = 0) by decide)]
    by_cases hb : 0 ≤ b.toInt ∧ b.toInt ≤ 7
    · rw [if_pos hb, if_pos (show (1 : Int32) ≠ 0 by decide), if_pos (show ((0 ≤ a.toInt ∧ a.toInt ≤ 7) ∧ (0 ≤ b.toInt ∧ b.toInt ≤ 7)) from ⟨ha, hb⟩)]
      by_cases hn : m 12 0 78 = 6
      · rw [if_pos hn, if_neg (show ¬ (a ≠ b ∧ (m 12 0 78).toInt < 6) from fun z => by have := z.2; rw [hn, i_6] at this; omega)]
      · rw [if_neg hn]
        have hn6 : (m 12 0 78).toInt < 6 := by
          rw [iA_eq, i_6] at hn
          omega
        by_cases hne : a ≠ b
        · have hin : mm_in (m 12 0 78) 6 := ⟨by rw [iA_le, i_0]; exact h1, by rw [iA_cl]; omega⟩
          rw [if_pos hne, if_pos hin, if_pos (show a ≠ b ∧ (m 12 0 78).toInt < 6 from ⟨hne, hn6⟩), if_pos (by simp only [mw_get]; simpa using hin)]
          simp [mw_get, r_taskM]
        · rw [if_neg hne, if_neg (show ¬ (a ≠ b ∧ (m 12 0 78).toInt < 6) from fun z => hne z.1)]
    · rw [if_neg hb, if_neg (show ¬ ((0 : Int32) ≠ 0) by decide), if_neg (show ¬ ((0 ≤ a.toInt ∧ a.toInt ≤ 7) ∧ (0 ≤ b.toInt ∧ b.toInt ≤ 7)) from fun z => hb z.2)]
  · rw [if_neg ha, if_pos rfl, if_neg (show ¬ ((0 ≤ a.toInt ∧ a.toInt ≤ 7) ∧ (0 ≤ b.toInt ∧ b.toInt ≤ 7)) from fun z => ha z.1)]
theorem task_op25 {m : mm_M} {a : Nat → Int32} (hj : j_task m m) (hop : a 0 &&& 63 = 25) : q_To m a m (mm_w (mm_w m 12 0 3 0) 12 0 3 1) ∨ q_To m a m (mm_w m 12 0 3 0) ∨ (q_To m a (c_taskM m (a 1) (a 2)) (r_taskM m (a 1) (a 2)) ∧ j_task (c_taskM m (a 1) (a 2)) (r_taskM m (a 1) (a 2))) := by
  obtain ⟨h0, h1, h2, h3⟩ := hj
  have hC := c_task (a := a 1) (b := a 2) h1 h2
  rw [h0] at h1 h2
  have hM := r_task (a := a 1) (b := a 2) h1 h2
  rw [h0] at hC
  by_cases hab : (0 ≤ (a 1).toInt ∧ (a 1).toInt ≤ 7) ∧ (0 ≤ (a 2).toInt ∧ (a 2).toInt ≤ 7)
  · rw [if_pos hab] at hC hM
    by_cases hn : a 1 ≠ a 2 ∧ (m 12 0 78).toInt < 6
    · rw [if_pos hn] at hC hM
      refine Or.inr (Or.inr ⟨t_op25 hop hC hM (thrown_eq _) (fun e9 h => by cases h) (fun t h => ?_), ?_⟩)
      · cases h
        exact ⟨by simp [r_taskM, mw_get], rfl⟩
      · have hs : (m 12 0 78 + 1).toInt = (m 12 0 78).toInt + 1 := by
          rw [iA_add (by rw [i_1]; omega) (by rw [i_1]; omega), i_1]
        refine ⟨by simp [c_taskM, r_taskM, mw_get, h0], ?_, ?_, fun k hk => ?_⟩
        · simp only [c_taskM, mw_get, and_self, if_true, h0, hs]
          omega
        · simp only [c_taskM, mw_get, and_self, if_true, h0, hs]
          omega
        · simp only [c_taskM, mw_get, and_self, if_true, h0, hs] at hk
          have h4 := h3 k
          rw [h0] at h4
          by_cases hkn : k = (m 12 0 78).toNatClampNeg
          · simp [c_taskM, r_taskM, mw_get, h0, hkn]
          · have h5 := h4 (by rw [iA_cl] at hkn; omega)
            simp [c_taskM, r_taskM, mw_get, h0, hkn, h5.1, h5.2]
    · rw [if_neg hn] at hC hM
      refine Or.inr (Or.inl (t_op25 hop hC hM (thrown_eq _) (fun e9 h => by cases h) (fun t h => ?_)))
      cases h
      exact ⟨by simp [mw_get], rfl⟩
  · rw [if_neg hab] at hC hM
    refine Or.inl (t_op25 hop hC hM (thrown_eq _) (fun e9 h => ?_) (fun t h => by cases h))
    cases h
    exact ⟨rfl, by simp [mw_get]⟩
