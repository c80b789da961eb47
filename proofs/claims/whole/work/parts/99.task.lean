/-! tasks -/
theorem o_25 : q_Sim qJ 25 := fun m a hJ hop => by
  have hJ0 := hJ
  obtain ⟨hday, hfault, hdead, hstr, htap, hlaw, hev, hrow, hinq, hfound, hlamps, hnet, htsk, hdl, halo, hshe⟩ := hJ
  obtain ⟨k, hk6, k1, k2, hks⟩ := htsk
  have eC := c_task (m := m) (a := a 1) (b := a 2) (by rw [k1, nJ_T (by omega)]; omega) (by rw [k1, nJ_T (by omega)]; omega)
  have eM := r_task (m := m) (a := a 1) (b := a 2) (by rw [k2, nJ_T (by omega)]; omega) (by rw [k2, nJ_T (by omega)]; omega)
  by_cases hab : (0 ≤ (a 1).toInt ∧ (a 1).toInt ≤ 7) ∧ (0 ≤ (a 2).toInt ∧ (a 2).toInt ≤ 7)
  · rw [if_pos hab] at eC eM
    by_cases hn : a 1 ≠ a 2 ∧ k < 6
    · rw [if_pos (show a 1 ≠ a 2 ∧ (m 9 0 8).toInt < 6 from ⟨hn.1, by rw [k1, nJ_T (by omega)]; omega⟩)] at eC
      rw [if_pos (show a 1 ≠ a 2 ∧ (m 12 0 78).toInt < 6 from ⟨hn.1, by rw [k2, nJ_T (by omega)]; omega⟩)] at eM
      have kk : (Int32.ofNat k).toNatClampNeg = k := nJ_N (by omega)
      have rC : c_taskM m (a 1) (a 2) = mm_w (mm_w (mm_w m 57 0 k (a 1)) 58 0 k (a 2)) 9 0 8 (Int32.ofNat (k + 1)) := by
        unfold c_taskM
        rw [k1, kk, n_a1]
      have rM : r_taskM m (a 1) (a 2) = mm_w (mm_w (mm_w (mm_w m 12 0 3 0) 117 0 k (a 1)) 118 0 k (a 2)) 12 0 78 (Int32.ofNat (k + 1)) := by
        unfold r_taskM
        rw [k2, kk, n_a1]
      rw [rC, k1] at eC
      rw [rM, k2] at eM
      have hC : fp [(9, none, some 8), (57, none, none), (58, none, none)] m (mm_w (mm_w (mm_w m 57 0 k (a 1)) 58 0 k (a 2)) 9 0 8 (Int32.ofNat (k + 1))) := fp_w rfl (fp_w rfl (fp_w rfl fp_rf))
      have hM : fp [(12, none, some 3), (12, none, some 78), (117, none, none), (118, none, none)] m (mm_w (mm_w (mm_w (mm_w m 12 0 3 0) 117 0 k (a 1)) 118 0 k (a 2)) 12 0 78 (Int32.ofNat (k + 1))) := fp_w rfl (fp_w rfl (fp_w rfl (fp_w rfl fp_rf)))
      have hj : j_tsk (mm_w (mm_w (mm_w m 57 0 k (a 1)) 58 0 k (a 2)) 9 0 8 (Int32.ofNat (k + 1))) (mm_w (mm_w (mm_w (mm_w m 12 0 3 0) 117 0 k (a 1)) 118 0 k (a 2)) 12 0 78 (Int32.ofNat (k + 1))) := by
        refine ⟨k + 1, by omega, mw_s, mw_s, fun i hi => ?_⟩
        by_cases hik : i = k
        · subst hik
          simp (disch := first | omega | decide | fail) only [mw_s, mw_k, mw_i, mw_g]
          exact ⟨trivial, trivial, ⟨(a 1).toInt.toNat, by omega, n_of hab.1.1⟩, ⟨(a 2).toInt.toNat, by omega, n_of hab.2.1⟩⟩
        · have := hks i (by omega)
          simp (disch := first | omega | decide | fail) only [mw_s, mw_k, mw_i, mw_g]
          exact this
      refine ⟨_, _, t_op25 hop eC eM (thrown_eq _) (fun e9 h => by cases h) (fun t h => ?_), ⟨j_day_kp hC hM (by decide) (by decide) hday, j_fault_kp hC hM (by decide) (by decide) hfault, j_dead_kp hC hM (by decide) (by decide) hdead, j_str_kp hC hM (by decide) (by decide) hstr, j_tap_kp hC hM (by decide) (by decide) htap, j_law_kp hC hM (by decide) (by decide) hlaw, j_ev_kp hC hM (by decide) (by decide) hev, j_row_kp hC hM (by decide) (by decide) hrow, j_inq_kp hC hM (by decide) (by decide) hinq, j_found_kp hC hM (by decide) (by decide) hfound, j_lamps_kp hC hM (by decide) (by decide) hlamps, j_net_kp hC hM (by decide) (by decide) hnet, hj, j_dl_kp hC hM (by decide) (by decide) hdl, j_alo_kp hC hM (by decide) (by decide) halo, j_she_kp hC hM (by decide) (by decide) hshe⟩⟩
      cases h
      exact ⟨by simp (disch := first | omega | decide | fail) only [mw_s, mw_k, mw_i, mw_g], rfl⟩
    · rw [if_neg (show ¬ (a 1 ≠ a 2 ∧ (m 9 0 8).toInt < 6) from fun z => hn ⟨z.1, by have := z.2; rw [k1, nJ_T (by omega)] at this; omega⟩)] at eC
      rw [if_neg (show ¬ (a 1 ≠ a 2 ∧ (m 12 0 78).toInt < 6) from fun z => hn ⟨z.1, by have := z.2; rw [k2, nJ_T (by omega)] at this; omega⟩)] at eM
      refine ⟨_, _, t_op25 hop eC eM (thrown_eq _) (fun e9 h => by cases h) (fun t h => ?_), qJ_3 fp_30 hJ0⟩
      cases h
      exact ⟨mw_s, rfl⟩
  · rw [if_neg hab] at eC eM
    refine ⟨_, _, t_op25 hop eC eM (thrown_eq _) (fun e9 h => ?_) (fun t h => by cases h), qJ_3 fp_31 hJ0⟩
    cases h
    exact ⟨rfl, mw_s⟩
