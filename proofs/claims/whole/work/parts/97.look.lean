/-! look, back -/
theorem o_15 : q_Sim qJ 15 := fun m a hJ hop => by
  have hJ0 := hJ
  obtain ⟨hday, hfault, hdead, hstr, htap, hlaw, hev, hrow, hinq, hfound, hlamps, hnet, htsk, hdl, halo, hshe⟩ := hJ
  obtain ⟨T, hT8, hT1, hT2, hth⟩ := hstr
  have hstr : j_str m m := ⟨T, hT8, hT1, hT2, hth⟩
  have hT2' : mm_w m 12 0 3 0 12 0 4 = Int32.ofNat T := (w3 (by decide)).trans hT2
  rcases z_arg (a 1) T (by omega) with ⟨t, ht, ha1⟩ | ha1
  · have eC : f_X11_look (a 1) m = some (.inr (mm_w (mm_w (mm_w (mm_w m 7 0 0 (Int32.ofNat t)) 7 0 3 0) 6 1 3 (-1)) 6 2 3 (-1))) := v_is (by
      rw [ha1]
      unfold f_X11_look
      refine v_bxe (c_sOk hT1 hT8 ht) ?_
      unfold f_X1_beginWith
      exact v_so rfl)
    have eM : f_X12_look (a 1) m = some (mm_w (mm_w (mm_w (mm_w (mm_w m 12 0 3 0) 12 0 61 (Int32.ofNat t)) 12 0 62 0) 105 0 0 (-1)) 105 0 1 (-1)) := v_is (by
      rw [ha1]
      unfold f_X12_look
      refine v_lM ?_
      refine v_b1e (r_iTk hT2' hT8 ht) ?_
      refine v_ifp (by decide) ?_
      exact v_so rfl)
    have hC : fp [(7, none, some 0), (7, none, some 3), (6, some 1, some 3), (6, some 2, some 3)] m (mm_w (mm_w (mm_w (mm_w m 7 0 0 (Int32.ofNat t)) 7 0 3 0) 6 1 3 (-1)) 6 2 3 (-1)) := fp_w rfl (fp_w rfl (fp_w rfl (fp_w rfl fp_rf)))
    have hM : fp [(12, none, some 3), (12, none, some 61), (12, none, some 62), (105, none, none)] m (mm_w (mm_w (mm_w (mm_w (mm_w m 12 0 3 0) 12 0 61 (Int32.ofNat t)) 12 0 62 0) 105 0 0 (-1)) 105 0 1 (-1)) := fp_w rfl (fp_w rfl (fp_w rfl (fp_w rfl (fp_w rfl fp_rf))))
    have hi : j_inq (mm_w (mm_w (mm_w (mm_w m 7 0 0 (Int32.ofNat t)) 7 0 3 0) 6 1 3 (-1)) 6 2 3 (-1)) (mm_w (mm_w (mm_w (mm_w (mm_w m 12 0 3 0) 12 0 61 (Int32.ofNat t)) 12 0 62 0) 105 0 0 (-1)) 105 0 1 (-1)) := by
      refine ⟨Or.inr ⟨t, by omega, ?_, ?_, ?_⟩, ⟨0, by decide, ?_, ?_, fun i hi => absurd hi (Nat.not_lt_zero i)⟩, Or.inl ⟨?_, ?_⟩, Or.inl ⟨?_, ?_⟩⟩
      · simp (disch := first | omega | decide | fail) only [mw_s, mw_k, mw_i, mw_g, hT1]
        rw [iA_lt, nJ_T (by omega), nJ_T (by omega)]
        omega
      · simp (disch := first | omega | decide | fail) only [mw_s, mw_k, mw_i, mw_g]
      · simp (disch := first | omega | decide | fail) only [mw_s, mw_k, mw_i, mw_g]
      · simp (disch := first | omega | decide | fail) only [mw_s, mw_k, mw_i, mw_g]
        rfl
      · simp (disch := first | omega | decide | fail) only [mw_s, mw_k, mw_i, mw_g]
        rfl
      · simp (disch := first | omega | decide | fail) only [mw_s, mw_k, mw_i, mw_g]
      · simp (disch := first | omega | decide | fail) only [mw_s, mw_k, mw_i, mw_g]
      · simp (disch := first | omega | decide | fail) only [mw_s, mw_k, mw_i, mw_g]
      · simp (disch := first | omega | decide | fail) only [mw_s, mw_k, mw_i, mw_g]
    refine ⟨_, _, t_op15 hop eC eM (thrown_eq _) (fun e9 h => by cases h) (fun t h => ?_), ⟨j_day_kp hC hM (by decide) (by decide) hday, j_fault_kp hC hM (by decide) (by decide) hfault, j_dead_kp hC hM (by decide) (by decide) hdead, j_str_kp hC hM (by decide) (by decide) hstr, j_tap_kp hC hM (by decide) (by decide) htap, j_law_kp hC hM (by decide) (by decide) hlaw, j_ev_kp hC hM (by decide) (by decide) hev, j_row_kp hC hM (by decide) (by decide) hrow, hi, j_found_kp hC hM (by decide) (by decide) hfound, j_lamps_kp hC hM (by decide) (by decide) hlamps, j_net_kp hC hM (by decide) (by decide) hnet, j_tsk_kp hC hM (by decide) (by decide) htsk, j_dl_kp hC hM (by decide) (by decide) hdl, j_alo_kp hC hM (by decide) (by decide) halo, j_she_kp hC hM (by decide) (by decide) hshe⟩⟩
    simp (disch := first | omega | decide | fail) only [mw_s, mw_k, mw_i, mw_g]
  · have eC : f_X11_look (a 1) m = some (.inl 1) := v_is (by
      unfold f_X11_look
      exact v_bxi (c_sOn hT1 hT8 ha1) rfl)
    have eM : f_X12_look (a 1) m = some (mm_w (mm_w m 12 0 3 0) 12 0 3 1) := v_is (by
      unfold f_X12_look
      refine v_lM ?_
      refine v_b1e (r_iTn hT2' hT8 ha1) ?_
      refine v_ifn (by decide) ?_
      exact v_b2e r_fail1 (v_so rfl))
    refine ⟨_, _, t_op15 hop eC eM (thrown_eq _) (fun e9 h => ?_) (fun t h => by cases h), qJ_3 fp_31 hJ0⟩
    cases h
    exact ⟨rfl, mw_s⟩
theorem o_8 : q_Sim qJ 8 := fun m a hJ hop => by
  have hJ0 := hJ
  obtain ⟨hday, hfault, hdead, hstr, htap, hlaw, hev, hrow, hinq, hfound, hlamps, hnet, htsk, hdl, halo, hshe⟩ := hJ
  obtain ⟨E, hE, h38, h126, hz, l, hl, h32, hpw⟩ := hev
  have h126' : mm_w m 12 0 3 0 12 0 6 = Int32.ofNat E := (w3 (by decide)).trans h126
  rcases z_arg (a 1) E (by omega) with ⟨e, he, ha1⟩ | ha1
  · have ke : (Int32.ofNat e).toNatClampNeg = e := nJ_N (by omega)
    have ie : mm_in (Int32.ofNat e) 120 := nJ_in (by omega) (by decide)
    have e79 : mm_w m 12 0 3 0 79 0 e = m 79 0 e := w3 (fun z => by cases z.1)
    have e31 : m 31 0 e = m 79 0 e := (hz e he).2.2.2.2.2.2.1
    have hr1 : f_X12_isIn (Int32.ofNat e) 0 (Int32.ofNat E - 1) (mm_w m 12 0 3 0) = some 1 := r_is1 (by rw [i_0, nJ_T (by omega), n_0N (by omega)]; omega)
    by_cases hb : m 31 0 e = -1
    · have eC : f_X11_back (a 1) m = some (.inr (1, (mm_w m 31 0 e (m 0 0 6)))) := v_is (by
        rw [ha1]
        unfold f_X11_back
        refine v_ifn (by rw [iA_lt, i_0, nJ_T (by omega)]; omega) ?_
        refine v_ifp (by rw [iA_lt, h38, nJ_T (by omega), nJ_T (by omega)]; omega) ?_
        unfold f_X0_takeBack
        refine v_b2.mpr ?_
        refine v_ifp ie ?_
        refine v_ifp (by rw [ke]; exact hb) ?_
        refine v_ifp ie ?_
        refine v_lM ?_
        refine v_so ?_
        dsimp only
        refine v_ifp (Or.inr rfl) ?_
        rw [ke]
        exact v_so rfl)
      have eM : f_X12_back (a 1) m = some (1, (mm_w (mm_w m 12 0 3 0) 79 0 e (m 0 0 6))) := v_is (by
        rw [ha1]
        unfold f_X12_back
        refine v_lM ?_
        rw [h126']
        refine v_b1e hr1 ?_
        refine v_ifp (by decide) ?_
        refine v_ifp ie ?_
        refine v_ifp (by rw [ke, e79, ← e31]; exact hb) ?_
        refine v_ifp ie ?_
        rw [ke, show mm_w m 12 0 3 0 12 0 5 = m 0 0 6 from (w3 (by decide)).trans hday.1.symm]
        exact v_so rfl)
      have hC : fp [(31, none, none)] m (mm_w m 31 0 e (m 0 0 6)) := fp_w rfl fp_rf
      have hM : fp [(12, none, some 3), (79, none, none)] m (mm_w (mm_w m 12 0 3 0) 79 0 e (m 0 0 6)) := fp_w rfl (fp_w rfl fp_rf)
      have hj : j_ev (mm_w m 31 0 e (m 0 0 6)) (mm_w (mm_w m 12 0 3 0) 79 0 e (m 0 0 6)) := by
        refine ⟨E, hE, (hC 3 0 8 rfl).trans h38, (hM 12 0 6 rfl).trans h126, fun x hx => ?_, l, hl, fun i y hy => (hC 32 0 i rfl).trans (h32 i y hy), ?_⟩
        · obtain ⟨b0, b1, b2, b3, b4, b5, b6, b7⟩ := hz x hx
          refine ⟨by rw [hC 25 0 x rfl, hM 73 0 x rfl]; exact b0, by rw [hC 26 0 x rfl, hM 74 0 x rfl]; exact b1, by rw [hC 27 0 x rfl, hM 75 0 x rfl]; exact b2, by rw [hC 28 0 x rfl, hM 76 0 x rfl]; exact b3, by rw [hC 29 0 x rfl, hM 77 0 x rfl]; exact b4, by rw [hC 30 0 x rfl, hM 78 0 x rfl]; exact b5, ?_, ?_⟩
          · by_cases hxe : x = e
            · subst hxe
              rw [mw_s, mw_s]
            · rw [mw_k hxe, mw_k hxe, w3 (fun z => by cases z.1)]
              exact b6
          · simp only [hC 0 0 2 rfl, hC 25 0 x rfl, hC 26 0 x rfl, hC 27 0 x rfl, hC 28 0 x rfl, hC 29 0 x rfl, fun i k => hC 37 i k rfl]
            exact b7
        · have ez : z_bf (mm_w m 31 0 e (m 0 0 6)) = z_bf m := by
            funext u v
            unfold z_bf
            rw [hC 29 0 u rfl, hC 29 0 v rfl]
          rw [ez]
          exact hpw
      refine ⟨_, _, t_op8 hop eC eM (thrown_eq _) (fun e9 h => by cases h) (fun t h => ?_), ⟨j_day_kp hC hM (by decide) (by decide) hday, j_fault_kp hC hM (by decide) (by decide) hfault, j_dead_kp hC hM (by decide) (by decide) hdead, j_str_kp hC hM (by decide) (by decide) hstr, j_tap_kp hC hM (by decide) (by decide) htap, j_law_kp hC hM (by decide) (by decide) hlaw, hj, j_row_kp hC hM (by decide) (by decide) hrow, j_inq_kp hC hM (by decide) (by decide) hinq, j_found_kp hC hM (by decide) (by decide) hfound, j_lamps_kp hC hM (by decide) (by decide) hlamps, j_net_kp hC hM (by decide) (by decide) hnet, j_tsk_kp hC hM (by decide) (by decide) htsk, j_dl_kp hC hM (by decide) (by decide) hdl, j_alo_kp hC hM (by decide) (by decide) halo, j_she_kp hC hM (by decide) (by decide) hshe⟩⟩
      cases h
      exact ⟨by rw [mw_g (by decide), mw_s], rfl⟩
    · have eC : f_X11_back (a 1) m = some (.inr (0, m)) := v_is (by
        rw [ha1]
        unfold f_X11_back
        refine v_ifn (by rw [iA_lt, i_0, nJ_T (by omega)]; omega) ?_
        refine v_ifp (by rw [iA_lt, h38, nJ_T (by omega), nJ_T (by omega)]; omega) ?_
        unfold f_X0_takeBack
        refine v_b2.mpr ?_
        refine v_ifp ie ?_
        refine v_ifn (by rw [ke]; exact hb) ?_
        refine v_so ?_
        dsimp only
        refine v_ifp (Or.inl rfl) ?_
        exact v_so rfl)
      have eM : f_X12_back (a 1) m = some (0, mm_w m 12 0 3 0) := v_is (by
        rw [ha1]
        unfold f_X12_back
        refine v_lM ?_
        rw [h126']
        refine v_b1e hr1 ?_
        refine v_ifp (by decide) ?_
        refine v_ifp ie ?_
        refine v_ifn (by rw [ke, e79, ← e31]; exact hb) ?_
        exact v_so rfl)
      refine ⟨_, _, t_op8 hop eC eM (thrown_eq _) (fun e9 h => by cases h) (fun t h => ?_), qJ_3 fp_30 hJ0⟩
      cases h
      exact ⟨mw_s, rfl⟩
  · have eC : f_X11_back (a 1) m = some (.inl 1) := v_is (by
      unfold f_X11_back
      by_cases h0 : (a 1).toInt < 0
      · refine v_ifp (by rw [iA_lt, i_0]; omega) ?_
        exact v_so rfl
      · refine v_ifn (by rw [iA_lt, i_0]; omega) ?_
        refine v_ifn (by rw [iA_lt, h38, nJ_T (by omega)]; omega) ?_
        exact v_so rfl)
    have eM : f_X12_back (a 1) m = some (0, mm_w (mm_w m 12 0 3 0) 12 0 3 1) := v_is (by
      unfold f_X12_back
      refine v_lM ?_
      rw [h126']
      refine v_b1e (r_is0 (by rw [i_0, n_0N (by omega)]; omega)) ?_
      refine v_ifn (by decide) ?_
      exact v_b2e (show f_X12_refuse 1 _ = some (0, _) from rfl) (v_so rfl))
    refine ⟨_, _, t_op8 hop eC eM (thrown_eq _) (fun e9 h => ?_) (fun t h => by cases h), qJ_3 fp_31 hJ0⟩
    cases h
    exact ⟨rfl, mw_s⟩
