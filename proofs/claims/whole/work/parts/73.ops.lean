/-! small ops: steps, task -/
theorem i_7 : (7 : Int32).toInt = 7 := by decide
theorem i_8 : (8 : Int32).toInt = 8 := by decide
theorem i_m1 : (-1 : Int32).toInt = -1 := by decide
theorem ml_bxr {α β : Type} (a : α) (B : α → Option (Nat ⊕ β)) : mm_bx (some (.inr a)) B = B a := rfl
theorem ml_bxl {α β : Type} (e : Nat) (B : α → Option (Nat ⊕ β)) : mm_bx (some (.inl e)) B = some (.inl e) := rfl
theorem c_needColour {a : Int32} {m : mm_M} : f_X11_needColour a m = some (if 0 ≤ a.toInt ∧ a.toInt ≤ 7 then .inr () else .inl 1) := by
  unfold f_X11_needColour
  by_cases h1 : a < 0
  · rw [if_pos h1]
    rw [iA_lt, i_0] at h1
    rw [if_neg (by omega)]
  · rw [if_neg h1]
    rw [iA_lt, i_0] at h1
    by_cases h2 : a < 8
    · rw [if_pos h2]
      rw [iA_lt, i_8] at h2
      rw [if_pos (by omega)]
    · rw [if_neg h2]
      rw [iA_lt, i_8] at h2
      rw [if_neg (by omega)]
theorem c_needNode {a : Int32} {m : mm_M} : f_X11_needNode a m = some (if 0 ≤ a.toInt ∧ a.toInt ≤ 7 then .inr () else .inl 1) := c_needColour (m := m)
theorem r_isColour {a : Int32} {m : mm_M} : f_X12_isColour a m = some (if 0 ≤ a.toInt ∧ a.toInt ≤ 7 then 1 else 0) := by
  unfold f_X12_isColour
  simp only [r_isIn, ml_b1, i_0, i_7]
  by_cases h : 0 ≤ a.toInt ∧ a.toInt ≤ 7
  · rw [if_pos h, if_pos (Or.inr rfl)]
  · rw [if_neg h, if_pos (Or.inl rfl)]
theorem r_isNode {a : Int32} {m : mm_M} : f_X12_isNode a m = some (if 0 ≤ a.toInt ∧ a.toInt ≤ 7 then 1 else 0) := r_isColour (m := m)
/-- the steps kept of the lamps -/
def j_lamps (c m : mm_M) : Prop := c 8 0 4 = m 12 0 72 ∧ 0 ≤ (c 8 0 4).toInt ∧ (c 8 0 4).toInt ≤ 4 ∧ ∀ k : Nat, (k : Int) < (c 8 0 4).toInt → c 51 0 k = m 108 0 k
theorem steps_op23 {m : mm_M} {a : Nat → Int32} (hj : j_lamps m m) (hop : a 0 &&& 63 = 23) : q_To m a m (mm_w m 12 0 3 0) ∨ q_To m a m (mm_w (mm_w m 12 0 3 0) 12 0 3 1) := by
  obtain ⟨h0, h1, h2, h3⟩ := hj
  have key : (∃ x, f_X11_steps (a 1) m = some (.inr x) ∧ f_X12_steps (a 1) m = some (x, mm_w m 12 0 3 0)) ∨ (f_X11_steps (a 1) m = some (.inl 1) ∧ f_X12_steps (a 1) m = some (0, mm_w (mm_w m 12 0 3 0) 12 0 3 1)) := by
    unfold f_X11_steps f_X12_steps
    simp only [ml_let, c_needColour, r_isColour, ml_b1, f_X12_fail, ml_b2]
    by_cases hc : 0 ≤ (a 1).toInt ∧ (a 1).toInt ≤ 7
    · rw [if_pos hc, if_pos hc, ml_bxr, if_pos (show (1 : Int32) ≠ 0 by decide)]
      have e1 : mm_w m 12 0 3 0 12 0 72 = m 12 0 72 := by simp [mw_get]
      have e2 : ∀ k, mm_w m 12 0 3 0 108 0 k = m 108 0 k := fun k => by simp [mw_get]
      rw [e1, e2, h0]
      by_cases hn : m 12 0 72 ≤ a 1
      · rw [if_pos hn, if_pos hn]
        exact Or.inl ⟨_, rfl, rfl⟩
      · rw [if_neg hn, if_neg hn]
        rw [iA_le, ← h0] at hn
        have hin : mm_in (a 1) 4 := ⟨by rw [iA_le, i_0]; exact hc.1, by rw [iA_cl]; omega⟩
        rw [if_pos hin, if_pos hin, h3 _ (by rw [iA_cl]; omega)]
        exact Or.inl ⟨_, rfl, rfl⟩
    · rw [if_neg hc, if_neg hc, ml_bxl, if_neg (show ¬ ((0 : Int32) ≠ 0) by decide)]
      exact Or.inr ⟨rfl, rfl⟩
  rcases key with ⟨x, hC, hM⟩ | ⟨hC, hM⟩
  · refine Or.inl (t_op23 hop hC hM (thrown_eq _) (fun e9 h => by cases h) (fun t h => ?_))
    cases h
    exact ⟨by simp [mw_get], rfl⟩
  · refine Or.inr (t_op23 hop hC hM (thrown_eq _) (fun e9 h => ?_) (fun t h => by cases h))
    cases h
    exact ⟨rfl, by simp [mw_get]⟩
