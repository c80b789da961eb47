/-! where to dig -/
theorem z_dg {x b : Int32} : x + (1000 + b) - 1 = x + 999 + b := by
  rw [show (1000 : Int32) = 1 + 999 by decide, Int32.add_assoc 1 999 b, ← Int32.add_assoc x 1 (999 + b), Int32.add_assoc x 999 b]
  rw [Int32.add_comm x 1, Int32.add_assoc 1 x (999 + b), Int32.add_comm 1 (x + (999 + b)), Int32.add_sub_cancel]
theorem z_n0 {b : Int32} (h0 : 0 ≤ b.toInt) (h1 : b.toInt ≤ 500) : ¬ 1000 + b = 0 := n_ne (by
  have e : (1000 : Int32).toInt = 1000 := by decide
  rw [iA_add (by rw [e]; omega) (by rw [e]; omega), e, i_0]
  omega)
theorem c_end {d b : Int32} {m : mm_M} (h0 : 0 ≤ b.toInt) (h1 : b.toInt ≤ 500) : f_X11_groundEnd d b m = some ((d * 1000 + 999 + b) / (1000 + b)) := by
  apply v_is
  unfold f_X11_groundEnd
  refine v_lI (fun w hw => ?_)
  subst hw
  refine v_ifn (z_n0 h0 h1) ?_
  rw [z_dg]
  exact v_so rfl
theorem c_beg {d b : Int32} {m : mm_M} (h0 : 0 ≤ b.toInt) (h1 : b.toInt ≤ 500) : f_X11_groundBegin d b m = some (d * 1000 / (1000 + b)) := by
  apply v_is
  unfold f_X11_groundBegin
  refine v_ifn (z_n0 h0 h1) ?_
  exact v_so rfl
theorem r_most {d b : Int32} {m : mm_M} (h0 : 0 ≤ b.toInt) (h1 : b.toInt ≤ 500) : f_X12_most d b m = some ((d * 1000 + 999 + b) / (1000 + b)) := by
  apply v_is
  unfold f_X12_most
  refine v_ifn (z_n0 h0 h1) ?_
  exact v_so rfl
theorem r_least {d b : Int32} {m : mm_M} (h0 : 0 ≤ b.toInt) (h1 : b.toInt ≤ 500) : f_X12_least d b m = some (d * 1000 / (1000 + b)) := by
  apply v_is
  unfold f_X12_least
  refine v_ifn (z_n0 h0 h1) ?_
  exact v_so rfl
theorem i_99999 : (99999 : Int32).toInt = 99999 := by decide
theorem i_500 : (500 : Int32).toInt = 500 := by decide
theorem c_dik {a : Int32} {m : mm_M} (h : 0 ≤ a.toInt ∧ a.toInt ≤ 99999) : f_X11_needDistance a m = some (.inr ()) := by
  apply v_is
  unfold f_X11_needDistance
  refine v_ifn (by rw [iA_lt, i_0]; omega) ?_
  refine v_ifp (by rw [iA_le, i_99999]; omega) ?_
  exact v_so rfl
theorem c_din {a : Int32} {m : mm_M} (h : ¬ (0 ≤ a.toInt ∧ a.toInt ≤ 99999)) : f_X11_needDistance a m = some (.inl 0) := by
  apply v_is
  unfold f_X11_needDistance
  by_cases h0 : a.toInt < 0
  · refine v_ifp (by rw [iA_lt, i_0]; omega) ?_
    exact v_so rfl
  · refine v_ifn (by rw [iA_lt, i_0]; omega) ?_
    refine v_ifn (by rw [iA_le, i_99999]; omega) ?_
    exact v_so rfl
theorem c_slk {a b : Int32} {m : mm_M} (h : 0 ≤ a.toInt ∧ b.toInt ≤ 500 ∧ a.toInt ≤ b.toInt) : f_X11_needSlack a b m = some (.inr ()) := by
  apply v_is
  unfold f_X11_needSlack
  refine v_ifn (by rw [iA_lt, i_0]; omega) ?_
  refine v_ifn (by rw [iA_lt, i_500]; omega) ?_
  refine v_ifp (by rw [iA_le]; omega) ?_
  exact v_so rfl
theorem c_sln {a b : Int32} {m : mm_M} (h : ¬ (0 ≤ a.toInt ∧ b.toInt ≤ 500 ∧ a.toInt ≤ b.toInt)) : f_X11_needSlack a b m = some (.inl 0) := by
  apply v_is
  unfold f_X11_needSlack
  by_cases h0 : a.toInt < 0
  · refine v_ifp (by rw [iA_lt, i_0]; omega) ?_
    exact v_so rfl
  · refine v_ifn (by rw [iA_lt, i_0]; omega) ?_
    by_cases h1 : 500 < b.toInt
    · refine v_ifp (by rw [iA_lt, i_500]; omega) ?_
      exact v_so rfl
    · refine v_ifn (by rw [iA_lt, i_500]; omega) ?_
      refine v_ifn (by rw [iA_le]; omega) ?_
      exact v_so rfl
theorem r_dug {d a b : Int32} {m : mm_M} : f_X12_isDug d a b m = some (if (0 ≤ d.toInt ∧ d.toInt ≤ 99999) ∧ 0 ≤ a.toInt ∧ b.toInt ≤ 500 ∧ a.toInt ≤ b.toInt then 1 else 0) := by
  apply v_is
  unfold f_X12_isDug
  by_cases h : 0 ≤ d.toInt ∧ d.toInt ≤ 99999
  · refine v_b1e (r_is1 (by rw [i_0, i_99999]; exact h)) ?_
    refine v_ifn (by decide) ?_
    by_cases h0 : a.toInt < 0
    · refine v_ifp (by rw [iA_lt, i_0]; omega) ?_
      exact v_so (if_neg (fun z => by omega)).symm
    · refine v_ifn (by rw [iA_lt, i_0]; omega) ?_
      by_cases h1 : b.toInt < a.toInt
      · refine v_ifp (by rw [iA_lt]; omega) ?_
        exact v_so (if_neg (fun z => by omega)).symm
      · refine v_ifn (by rw [iA_lt]; omega) ?_
        by_cases h2 : 500 < b.toInt
        · refine v_ifp (by rw [iA_lt, i_500]; omega) ?_
          exact v_so (if_neg (fun z => by omega)).symm
        · refine v_ifn (by rw [iA_lt, i_500]; omega) ?_
          exact v_so (if_pos ⟨h, by omega, by omega, by omega⟩).symm
  · refine v_b1e (r_is0 (by rw [i_0, i_99999]; exact h)) ?_
    refine v_ifp rfl ?_
    exact v_so (if_neg (fun z => h z.1)).symm
theorem c_sdn {a : Int32} {m : mm_M} (h0 : ¬ a = 0) (h1 : ¬ a = 1) : f_X11_needSide a m = some (.inl 1) := by
  apply v_is
  unfold f_X11_needSide
  refine v_ifn h0 ?_
  refine v_ifn h1 ?_
  exact v_so rfl
/-- queries with the other order of exceptions -/
def z_qz (m : mm_M) (oC : Option (Nat ⊕ Int32)) (oM : Option (Int32 × mm_M)) : Prop := (∃ x, oC = some (.inr x) ∧ oM = some (x, mm_w m 12 0 3 0)) ∨ (oC = some (.inl 0) ∧ oM = some (0, mm_w (mm_w m 12 0 3 0) 12 0 3 1)) ∨ (oC = some (.inl 1) ∧ oM = some (0, mm_w (mm_w m 12 0 3 0) 12 0 3 2))
theorem z_qzJ {m : mm_M} {a : Nat → Int32} {oC : Option (Nat ⊕ Int32)} {oM : Option (Int32 × mm_M)} (hJ : qJ m m) (h : z_qz m oC oM) (T : ∀ (o : Nat ⊕ Int32) (v : Int32) (mM : mm_M), oC = some o → oM = some (v, mM) → (∀ e9, o = .inl e9 → (e9 = 0 ∧ mM 12 0 3 = 1) ∨ (e9 = 1 ∧ mM 12 0 3 = 2)) → (∀ t, o = .inr t → mM 12 0 3 = 0 ∧ v = t) → q_To m a m mM) : ∃ mC mM, q_To m a mC mM ∧ qJ mC mM := by
  rcases h with ⟨x, hC, hM⟩ | ⟨hC, hM⟩ | ⟨hC, hM⟩
  · refine ⟨m, _, T _ _ _ hC hM (fun e9 h => by cases h) (fun t h => ?_), qJ_3 fp_30 hJ⟩
    cases h
    exact ⟨mw_s, rfl⟩
  · refine ⟨m, _, T _ _ _ hC hM (fun e9 h => ?_) (fun t h => by cases h), qJ_3 fp_31 hJ⟩
    cases h
    exact Or.inl ⟨rfl, mw_s⟩
  · refine ⟨m, _, T _ _ _ hC hM (fun e9 h => ?_) (fun t h => by cases h), qJ_3 fp_31 hJ⟩
    cases h
    exact Or.inr ⟨rfl, mw_s⟩
theorem o_20 : q_Sim qJ 20 := fun m a hJ hop => z_qzJ hJ (by
  by_cases hd : 0 ≤ (a 1).toInt ∧ (a 1).toInt ≤ 99999
  · by_cases hs : 0 ≤ (a 2).toInt ∧ (a 3).toInt ≤ 500 ∧ (a 2).toInt ≤ (a 3).toInt
    · have hg : f_X12_isDug (a 1) (a 2) (a 3) (mm_w m 12 0 3 0) = some 1 := by rw [r_dug, if_pos ⟨hd, hs⟩]
      rcases z_c2 (a 4) with hb | hb | ⟨b0, b1, b2⟩
      · refine Or.inl ⟨(a 1) * 1000 / (1000 + a 3), v_is ?_, v_is ?_⟩
        · unfold f_X11_dig
          refine v_bxe (c_dik hd) ?_
          refine v_bxe (c_slk hs) ?_
          refine v_bxe (by rw [hb]; rfl) ?_
          refine v_ifn (fun h => h hb) ?_
          exact v_b1e (c_beg (by omega) (by omega)) (v_so rfl)
        · unfold f_X12_dig
          refine v_lM ?_
          refine v_b1e hg ?_
          refine v_ifp (by decide) ?_
          refine v_ifn (by rw [hb]; decide) ?_
          refine v_ifp (by rw [hb]; decide) ?_
          refine v_ifn (fun h => h hb) ?_
          exact v_b1e (r_least (by omega) (by omega)) (v_so rfl)
      · refine Or.inl ⟨((a 1) * 1000 + 999 + a 2) / (1000 + a 2), v_is ?_, v_is ?_⟩
        · unfold f_X11_dig
          refine v_bxe (c_dik hd) ?_
          refine v_bxe (c_slk hs) ?_
          refine v_bxe (by rw [hb]; rfl) ?_
          refine v_ifp (by rw [hb]; decide) ?_
          exact v_b1e (c_end (by omega) (by omega)) (v_so rfl)
        · unfold f_X12_dig
          refine v_lM ?_
          refine v_b1e hg ?_
          refine v_ifp (by decide) ?_
          refine v_ifn (by rw [hb]; decide) ?_
          refine v_ifp (by rw [hb]; decide) ?_
          refine v_ifp (by rw [hb]; decide) ?_
          exact v_b1e (r_most (by omega) (by omega)) (v_so rfl)
      · refine Or.inr (Or.inr ⟨v_is ?_, v_is ?_⟩)
        · unfold f_X11_dig
          refine v_bxe (c_dik hd) ?_
          refine v_bxe (c_slk hs) ?_
          exact v_bxi (c_sdn b0 b1) rfl
        · unfold f_X12_dig
          refine v_lM ?_
          refine v_b1e hg ?_
          refine v_ifp (by decide) ?_
          by_cases h0 : (a 4).toInt < 0
          · refine v_ifp (by rw [iA_lt, i_0]; omega) ?_
            exact v_b2e r_fail2 (v_so rfl)
          · refine v_ifn (by rw [iA_lt, i_0]; omega) ?_
            refine v_ifn (by rw [iA_le, i_1]; omega) ?_
            exact v_b2e r_fail2 (v_so rfl)
    · refine Or.inr (Or.inl ⟨v_is ?_, v_is ?_⟩)
      · unfold f_X11_dig
        refine v_bxe (c_dik hd) ?_
        exact v_bxi (c_sln hs) rfl
      · unfold f_X12_dig
        refine v_lM ?_
        refine v_b1e (show _ = some 0 by rw [r_dug, if_neg (fun z => hs z.2)]) ?_
        refine v_ifn (by decide) ?_
        exact v_b2e r_fail1 (v_so rfl)
  · refine Or.inr (Or.inl ⟨v_is ?_, v_is ?_⟩)
    · unfold f_X11_dig
      exact v_bxi (c_din hd) rfl
    · unfold f_X12_dig
      refine v_lM ?_
      refine v_b1e (show _ = some 0 by rw [r_dug, if_neg (fun z => hd z.1)]) ?_
      refine v_ifn (by decide) ?_
      exact v_b2e r_fail1 (v_so rfl)) (fun o v mM hC hM hX hR => t_op20 hop hC hM (thrown_eq _) hX hR)
