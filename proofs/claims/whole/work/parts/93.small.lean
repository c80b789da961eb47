/-! ops that were done before, under the relation -/
theorem o_3 : q_Sim qJ 3 := fun m a hJ hop => ⟨m, _, fault_op3 hJ.2.1 hop, qJ_3 fp_30 hJ⟩
theorem o_6 : q_Sim qJ 6 := fun m a hJ hop => by
  have hJ0 := hJ
  obtain ⟨hday, hfault, hdead, hstr, htap, hlaw, hev, hrow, hinq, hfound, hlamps, hnet, htsk, hdl, halo, hshe⟩ := hJ
  obtain ⟨mC, mM, hq, hj, ⟨e1, e2⟩ | ⟨x, e1, e2⟩⟩ := day_op6 hday hop
  · subst e1
    subst e2
    exact ⟨_, _, hq, qJ_3 fp_31 hJ0⟩
  · subst e1
    subst e2
    have hC : fp [(0, none, some 6)] m (mm_w m 0 0 6 x) := fp_w rfl fp_rf
    have hM : fp [(12, none, some 3), (12, none, some 5)] m (mm_w (mm_w m 12 0 3 0) 12 0 5 x) := fp_w rfl (fp_w rfl fp_rf)
    exact ⟨_, _, hq, ⟨hj, j_fault_kp hC hM (by decide) (by decide) hfault, j_dead_kp hC hM (by decide) (by decide) hdead, j_str_kp hC hM (by decide) (by decide) hstr, j_tap_kp hC hM (by decide) (by decide) htap, j_law_kp hC hM (by decide) (by decide) hlaw, j_ev_kp hC hM (by decide) (by decide) hev, j_row_kp hC hM (by decide) (by decide) hrow, j_inq_kp hC hM (by decide) (by decide) hinq, j_found_kp hC hM (by decide) (by decide) hfound, j_lamps_kp hC hM (by decide) (by decide) hlamps, j_net_kp hC hM (by decide) (by decide) hnet, j_tsk_kp hC hM (by decide) (by decide) htsk, j_dl_kp hC hM (by decide) (by decide) hdl, j_alo_kp hC hM (by decide) (by decide) halo, j_she_kp hC hM (by decide) (by decide) hshe⟩⟩
theorem o_12 : q_Sim qJ 12 := fun m a hJ hop => by
  have hJ0 := hJ
  obtain ⟨hday, hfault, hdead, hstr, htap, hlaw, hev, hrow, hinq, hfound, hlamps, hnet, htsk, hdl, halo, hshe⟩ := hJ
  obtain ⟨mC, mM, hq, hj, ⟨e1, e2⟩ | ⟨x, e1, e2⟩⟩ := dead_op12 hdead hop
  · subst e1
    subst e2
    exact ⟨_, _, hq, qJ_3 fp_31 hJ0⟩
  · subst e1
    subst e2
    have hC : fp [(0, none, some 9)] m (mm_w m 0 0 9 x) := fp_w rfl fp_rf
    have hM : fp [(12, none, some 3), (12, none, some 43)] m (mm_w (mm_w m 12 0 3 0) 12 0 43 x) := fp_w rfl (fp_w rfl fp_rf)
    exact ⟨_, _, hq, ⟨j_day_kp hC hM (by decide) (by decide) hday, j_fault_kp hC hM (by decide) (by decide) hfault, hj, j_str_kp hC hM (by decide) (by decide) hstr, j_tap_kp hC hM (by decide) (by decide) htap, j_law_kp hC hM (by decide) (by decide) hlaw, j_ev_kp hC hM (by decide) (by decide) hev, j_row_kp hC hM (by decide) (by decide) hrow, j_inq_kp hC hM (by decide) (by decide) hinq, j_found_kp hC hM (by decide) (by decide) hfound, j_lamps_kp hC hM (by decide) (by decide) hlamps, j_net_kp hC hM (by decide) (by decide) hnet, j_tsk_kp hC hM (by decide) (by decide) htsk, j_dl_kp hC hM (by decide) (by decide) hdl, j_alo_kp hC hM (by decide) (by decide) halo, j_she_kp hC hM (by decide) (by decide) hshe⟩⟩
theorem z_two {m : mm_M} {a : Nat → Int32} (hJ : qJ m m) (h : q_To m a m (mm_w m 12 0 3 0) ∨ q_To m a m (mm_w (mm_w m 12 0 3 0) 12 0 3 1)) : ∃ mC mM, q_To m a mC mM ∧ qJ mC mM := by
  rcases h with h | h
  · exact ⟨_, _, h, qJ_3 fp_30 hJ⟩
  · exact ⟨_, _, h, qJ_3 fp_31 hJ⟩
theorem o_19 : q_Sim qJ 19 := fun m a hJ hop => z_two hJ (found_op19 hJ.2.2.2.2.2.2.2.2.2.1 hop)
theorem o_23 : q_Sim qJ 23 := fun m a hJ hop => z_two hJ (steps_op23 hJ.2.2.2.2.2.2.2.2.2.2.1 hop)
theorem o_30 : q_Sim qJ 30 := fun m a hJ hop => z_two hJ (by
  obtain ⟨hday, hfault, hdead, hstr, htap, hlaw, hev, hrow, hinq, hfound, hlamps, hnet, htsk, hdl, halo, hshe⟩ := hJ
  obtain ⟨k, hk, k1, k2, _⟩ := htsk
  refine dealt_op30 ⟨by rw [k1, k2], by rw [k1, nJ_T (by omega)]; omega, by rw [k1, nJ_T (by omega)]; omega, hdl.1, hdl.2⟩ hop)
theorem o_37 : q_Sim qJ 37 := fun m a hJ hop => z_two hJ (by
  obtain ⟨hday, hfault, hdead, hstr, htap, hlaw, hev, hrow, hinq, hfound, hlamps, hnet, htsk, hdl, halo, hshe⟩ := hJ
  obtain ⟨T, _, a1, a2, _⟩ := hstr
  obtain ⟨n, _, b1, b2, _⟩ := htap
  obtain ⟨E, _, c1, c2, _⟩ := hev
  obtain ⟨_, ⟨s, _, d1, d2, _⟩, _⟩ := hinq
  obtain ⟨C, _, e1, e2, _⟩ := hnet
  obtain ⟨k, _, f1, f2, _⟩ := htsk
  obtain ⟨S, _, g1, g2, _⟩ := hshe
  exact count_op37 ⟨hday.1, by rw [a1, a2], by rw [c1, c2], by rw [e1, e2], by rw [f1, f2], by rw [g1, g2], by rw [d1, d2], by rw [b1, b2]⟩ hop)
