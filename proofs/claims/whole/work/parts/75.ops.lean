/-! small ops: found, dealt -/
theorem i_2 : (2 : Int32).toInt = 2 := by decide
def j_found (c m : mm_M) : Prop := (c 7 0 7 = -1 ↔ m 12 0 66 = 0) ∧ (¬ m 12 0 66 = 0 → c 7 0 8 = m 12 0 63 ∧ c 7 0 9 = m 12 0 64 ∧ c 7 0 10 = m 12 0 65)
theorem found_op19 {m : mm_M} {a : Nat → Int32} (hj : j_found m m) (hop : a 0 &&& 63 = 19) : q_To m a m (mm_w m 12 0 3 0) ∨ q_To m a m (mm_w (mm_w m 12 0 3 0) 12 0 3 1) := by
  obtain ⟨h0, h1⟩ := hj
  have key : (∃ x, f_X11_found (a 1) m = some (.inr x) ∧ f_X12_found (a 1) m = some (x, mm_w m 12 0 3 0)) ∨ (f_X11_found (a 1) m = some (.inl 1) ∧ f_X12_found (a 1) m = some (0, mm_w (mm_w m 12 0 3 0) 12 0 3 1)) := by
    unfold f_X11_found f_X12_found
    have e : ∀ k, k ≠ 3 → mm_w m 12 0 3 0 12 0 k = m 12 0 k := fun k hk => by simp [mw_get, hk]
    simp only [ml_let, r_isIn, ml_b1, f_X12_fail, ml_b2, e 66 (by decide), e 65 (by decide), e 64 (by decide), e 63 (by decide)]
    by_cases hz : m 12 0 66 = 0
    · rw [if_neg (show ¬ (m 7 0 7 ≠ -1) from fun z => z (h0.mpr hz)), if_pos hz]
      exact Or.inr ⟨rfl, rfl⟩
    · rw [if_pos (show m 7 0 7 ≠ -1 from fun z => hz (h0.mp z)), if_neg hz]
      obtain ⟨g1, g2, g3⟩ := h1 hz
      rw [g1, g2, g3]
      by_cases ha0 : a 1 = 0
      · rw [if_pos ha0, if_neg (show ¬ (a 1 ≠ 0) from fun z => z ha0), if_pos (show (0 : Int32).toInt ≤ (a 1).toInt ∧ (a 1).toInt ≤ (2 : Int32).toInt by rw [ha0]; decide), if_pos (show (1 : Int32) ≠ 0 by decide)]
        exact Or.inl ⟨_, rfl, rfl⟩
      · rw [if_neg ha0, if_pos (show a 1 ≠ 0 from ha0)]
        by_cases ha1 : a 1 = 1
        · rw [if_pos ha1, if_neg (show ¬ (a 1 ≠ 1) from fun z => z ha1), if_pos (show (0 : Int32).toInt ≤ (a 1).toInt ∧ (a 1).toInt ≤ (2 : Int32).toInt by rw [ha1]; decide), if_pos (show (1 : Int32) ≠ 0 by decide)]
          exact Or.inl ⟨_, rfl, rfl⟩
        · rw [if_neg ha1, if_pos (show a 1 ≠ 1 from ha1)]
          by_cases ha2 : a 1 = 2
          · rw [if_pos ha2, if_pos (show (0 : Int32).toInt ≤ (a 1).toInt ∧ (a 1).toInt ≤ (2 : Int32).toInt by rw [ha2]; decide), if_pos (show (1 : Int32) ≠ 0 by decide)]
            exact Or.inl ⟨_, rfl, rfl⟩
          · rw [if_neg ha2, if_neg (show ¬ ((0 : Int32).toInt ≤ (a 1).toInt ∧ (a 1).toInt ≤ (2 : Int32).toInt) from fun z => by
              rw [i_0, i_2] at z
              rw [iA_eq, i_0] at ha0
              rw [iA_eq, i_1] at ha1
              rw [iA_eq, i_2] at ha2
              omega), if_neg (show ¬ ((0 : Int32) ≠ 0) by decide)]
            exact Or.inr ⟨rfl, rfl⟩
  rcases key with ⟨x, hC, hM⟩ | ⟨hC, hM⟩
  · refine Or.inl (t_op19 hop hC hM (thrown_eq _) (fun e9 h => by cases h) (fun t h => ?_))
    cases h
    exact ⟨by simp [mw_get], rfl⟩
  · refine Or.inr (t_op19 hop hC hM (thrown_eq _) (fun e9 h => ?_) (fun t h => by cases h))
    cases h
    exact ⟨rfl, by simp [mw_get]⟩
def j_dealt (c m : mm_M) : Prop := c 9 0 8 = m 12 0 78 ∧ 0 ≤ (c 9 0 8).toInt ∧ (c 9 0 8).toInt ≤ 6 ∧ c 9 0 18 = m 12 0 94 ∧ ∀ k : Nat, (k : Int) < (c 9 0 18).toInt → c 61 0 k = m 128 0 k
theorem dealt_op30 {m : mm_M} {a : Nat → Int32} (hj : j_dealt m m) (hop : a 0 &&& 63 = 30) : q_To m a m (mm_w m 12 0 3 0) ∨ q_To m a m (mm_w (mm_w m 12 0 3 0) 12 0 3 1) := by
  obtain ⟨h0, h1, h2, h3, h4⟩ := hj
  have key : (∃ x, f_X11_dealt (a 1) m = some (.inr x) ∧ f_X12_dealt (a 1) m = some (x, mm_w m 12 0 3 0)) ∨ (f_X11_dealt (a 1) m = some (.inl 1) ∧ f_X12_dealt (a 1) m = some (0, mm_w (mm_w m 12 0 3 0) 12 0 3 1)) := by
    unfold f_X11_dealt f_X12_dealt
    have e : ∀ k, k ≠ 3 → mm_w m 12 0 3 0 12 0 k = m 12 0 k := fun k hk => by simp [mw_get, hk]
    have e2 : ∀ k, mm_w m 12 0 3 0 128 0 k = m 128 0 k := fun k => by simp [mw_get]
    simp only [ml_let, r_isIn, ml_b1, f_X12_fail, ml_b2, e 78 (by decide), e 94 (by decide), e2, h3, ← h0]
    have hs : (m 9 0 8 - 1).toInt = (m 9 0 8).toInt - 1 := by rw [iA_sub (by rw [i_1]; omega) (by rw [i_1]; omega), i_1]
    rw [hs, i_0]
    by_cases ha : a 1 < 0
    · rw [if_pos ha]
      rw [iA_lt, i_0] at ha
      rw [if_neg (show ¬ (0 ≤ (a 1).toInt ∧ (a 1).toInt ≤ (m 9 0 8).toInt - 1) by omega), if_neg (show ¬ ((0 : Int32) ≠ 0) by decide)]
      exact Or.inr ⟨rfl, rfl⟩
    · rw [if_neg ha]
      rw [iA_lt, i_0] at ha
      by_cases hb : a 1 < m 9 0 8
      · rw [if_pos hb]
        rw [iA_lt] at hb
        rw [if_pos (show 0 ≤ (a 1).toInt ∧ (a 1).toInt ≤ (m 9 0 8).toInt - 1 by omega), if_pos (show (1 : Int32) ≠ 0 by decide)]
        by_cases hn : m 12 0 94 ≤ a 1
        · rw [if_pos hn, if_pos hn]
          exact Or.inl ⟨_, rfl, rfl⟩
        · rw [if_neg hn, if_neg hn]
          rw [iA_le, ← h3] at hn
          have hin : mm_in (a 1) 6 := ⟨by rw [iA_le, i_0]; omega, by rw [iA_cl]; omega⟩
          rw [if_pos hin, if_pos hin, h4 _ (by rw [iA_cl]; omega)]
          exact Or.inl ⟨_, rfl, rfl⟩
      · rw [if_neg hb]
        rw [iA_lt] at hb
        rw [if_neg (show ¬ (0 ≤ (a 1).toInt ∧ (a 1).toInt ≤ (m 9 0 8).toInt - 1) by omega), if_neg (show ¬ ((0 : Int32) ≠ 0) by decide)]
        exact Or.inr ⟨rfl, rfl⟩
  rcases key with ⟨x, hC, hM⟩ | ⟨hC, hM⟩
  · refine Or.inl (t_op30 hop hC hM (thrown_eq _) (fun e9 h => by cases h) (fun t h => ?_))
    cases h
    exact ⟨by simp [mw_get], rfl⟩
  · refine Or.inr (t_op30 hop hC hM (thrown_eq _) (fun e9 h => ?_) (fun t h => by cases h))
    cases h
    exact ⟨rfl, by simp [mw_get]⟩
