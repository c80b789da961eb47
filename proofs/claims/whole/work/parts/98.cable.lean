/-! cables -/
theorem c_nok {a : Int32} {m : mm_M} (h : 0 ≤ a.toInt ∧ a.toInt ≤ 7) : f_X11_needNode a m = some (.inr ()) := by rw [c_needNode, if_pos h]
theorem c_non {a : Int32} {m : mm_M} (h : ¬ (0 ≤ a.toInt ∧ a.toInt ≤ 7)) : f_X11_needNode a m = some (.inl 1) := by rw [c_needNode, if_neg h]
theorem r_nok {a : Int32} {m : mm_M} (h : 0 ≤ a.toInt ∧ a.toInt ≤ 7) : f_X12_isNode a m = some 1 := by rw [r_isNode, if_pos h]
theorem r_non {a : Int32} {m : mm_M} (h : ¬ (0 ≤ a.toInt ∧ a.toInt ≤ 7)) : f_X12_isNode a m = some 0 := by rw [r_isNode, if_neg h]
theorem c_addC {m : mm_M} {C : Nat} {x y z w : Int32} (h : m 9 0 5 = Int32.ofNat C) (hC : C < 10) : f_X4_addCable x y z w m = some (Int32.ofNat C, mm_w (mm_w (mm_w (mm_w (mm_w m 52 0 C x) 53 0 C y) 54 0 C z) 55 0 C w) 9 0 5 (Int32.ofNat (C + 1))) := by
  have kC : (Int32.ofNat C).toNatClampNeg = C := nJ_N (by omega)
  have iC : mm_in (Int32.ofNat C) 10 := nJ_in (by omega) (by decide)
  have lC : Int32.ofNat C < 10 := by rw [iA_lt, nJ_T (by omega)]; show (C : Int) < 10; omega
  have e1 : ∀ q : Int32, mm_w m 52 0 C q 9 0 5 = Int32.ofNat C := fun q => (mw_g (by decide)).trans h
  unfold f_X4_addCable
  simp only [ml_let, h, if_pos lC, if_pos iC, kC, mw_g (show 9 ≠ 52 by decide), mw_g (show 9 ≠ 53 by decide), mw_g (show 9 ≠ 54 by decide), mw_g (show 9 ≠ 55 by decide), mw_s, n_a1, n_d (show 0 < C + 1 by omega), Nat.add_sub_cancel]
theorem o_24 : q_Sim qJ 24 := fun m a hJ hop => by
  have hJ0 := hJ
  obtain ⟨hday, hfault, hdead, hstr, htap, hlaw, hev, hrow, hinq, hfound, hlamps, hnet, htsk, hdl, halo, hshe⟩ := hJ
  obtain ⟨T, hT8, hT1, hT2, hth⟩ := hstr
  have hstr : j_str m m := ⟨T, hT8, hT1, hT2, hth⟩
  obtain ⟨C, hC10, hC1, hC2, hcs⟩ := hnet
  have hT2' : mm_w m 12 0 3 0 12 0 4 = Int32.ofNat T := (w3 (by decide)).trans hT2
  have h77 : mm_w m 12 0 3 0 12 0 77 = Int32.ofNat C := (w3 (by decide)).trans hC2
  have bad : f_X11_cable (a 1) (a 2) (a 3) (a 4) m = some (.inl 1) → f_X12_cable (a 1) (a 2) (a 3) (a 4) m = some (0, mm_w (mm_w m 12 0 3 0) 12 0 3 1) → ∃ mC mM, q_To m a mC mM ∧ qJ mC mM := fun eC eM => by
    refine ⟨_, _, t_op24 hop eC eM (thrown_eq _) (fun e9 h => ?_) (fun t h => by cases h), qJ_3 fp_31 hJ0⟩
    cases h
    exact ⟨rfl, mw_s⟩
  have non : f_X11_cable (a 1) (a 2) (a 3) (a 4) m = some (.inr (-1, m)) → f_X12_cable (a 1) (a 2) (a 3) (a 4) m = some (-1, mm_w m 12 0 3 0) → ∃ mC mM, q_To m a mC mM ∧ qJ mC mM := fun eC eM => by
    refine ⟨_, _, t_op24 hop eC eM (thrown_eq _) (fun e9 h => by cases h) (fun t h => ?_), qJ_3 fp_30 hJ0⟩
    cases h
    exact ⟨mw_s, rfl⟩
  by_cases h1 : 0 ≤ (a 1).toInt ∧ (a 1).toInt ≤ 7
  · by_cases h2 : 0 ≤ (a 2).toInt ∧ (a 2).toInt ≤ 7
    · rcases z_arg (a 3) T (by omega) with ⟨t, ht, ha3⟩ | ha3
      · have stepC : ∀ R, vW (if a 1 = a 2 then (some (.inr ((-1), m))) else (if a 4 < 1 then (some (.inr ((-1), m))) else (if a 4 ≤ 8 then (mm_b2 (f_X4_addCable (a 1) (a 2) (Int32.ofNat t) (a 4) m) fun r4 m5 => some (.inr (r4, m5))) else (some (.inr ((-1), m)))))) (fun r => r = R) → f_X11_cable (a 1) (a 2) (a 3) (a 4) m = some R := fun R h => v_is (by
          rw [ha3]
          unfold f_X11_cable
          refine v_bxe (c_nok h1) ?_
          refine v_bxe (c_nok h2) ?_
          refine v_bxe (c_sOk hT1 hT8 ht) ?_
          exact h)
        by_cases h12 : a 1 = a 2
        · refine non (stepC _ (v_ifp h12 (v_so rfl))) (v_is ?_)
          rw [ha3]
          unfold f_X12_cable
          refine v_lM ?_
          refine v_b1e (r_nok h1) ?_
          refine v_ifn (by decide) ?_
          refine v_b1e (r_nok h2) ?_
          refine v_ifn (by decide) ?_
          refine v_b1e (r_iTk hT2' hT8 ht) ?_
          refine v_ifp (by decide) ?_
          by_cases h10 : mm_w m 12 0 3 0 12 0 77 = 10
          · exact v_ifp h10 (v_so rfl)
          · exact v_ifn h10 (v_ifp h12 (v_so rfl))
        · by_cases h4 : 1 ≤ (a 4).toInt ∧ (a 4).toInt ≤ 8
          · by_cases hlt : C < 10
            · have eC := stepC (.inr (Int32.ofNat C, (mm_w (mm_w (mm_w (mm_w (mm_w m 52 0 C (a 1)) 53 0 C (a 2)) 54 0 C (Int32.ofNat t)) 55 0 C (a 4)) 9 0 5 (Int32.ofNat (C + 1))))) (v_ifn h12 (v_ifn (by rw [iA_lt, i_1]; omega) (v_ifp (by rw [iA_le, i_8]; omega) (v_b2e (c_addC hC1 hlt) (v_so rfl)))))
              have eM : f_X12_cable (a 1) (a 2) (a 3) (a 4) m = some (Int32.ofNat C, (mm_w (mm_w (mm_w (mm_w (mm_w (mm_w m 12 0 3 0) 112 0 C (a 1)) 113 0 C (a 2)) 114 0 C (Int32.ofNat t)) 115 0 C (a 4)) 12 0 77 (Int32.ofNat (C + 1)))) := v_is (by
                have kC : (Int32.ofNat C).toNatClampNeg = C := nJ_N (by omega)
                have iC : mm_in (Int32.ofNat C) 10 := nJ_in (by omega) (by decide)
                rw [ha3]
                unfold f_X12_cable
                refine v_lM ?_
                refine v_b1e (r_nok h1) ?_
                refine v_ifn (by decide) ?_
                refine v_b1e (r_nok h2) ?_
                refine v_ifn (by decide) ?_
                refine v_b1e (r_iTk hT2' hT8 ht) ?_
                refine v_ifp (by decide) ?_
                refine v_ifn (by rw [h77]; exact n_ne (by rw [nJ_T (by omega)]; show ¬ (C : Int) = 10; omega)) ?_
                refine v_ifn h12 ?_
                refine v_b1e (r_is1 (by rw [i_1, i_8]; exact h4)) ?_
                refine v_ifp (by decide) ?_
                simp only [ml_let, h77, if_pos iC, kC, mw_g (show 12 ≠ 112 by decide), mw_g (show 12 ≠ 113 by decide), mw_g (show 12 ≠ 114 by decide), mw_g (show 12 ≠ 115 by decide), mw_s, n_a1, n_d (show 0 < C + 1 by omega), Nat.add_sub_cancel]
                exact v_so rfl)
              have hC : fp [(9, none, some 5), (52, none, none), (53, none, none), (54, none, none), (55, none, none)] m (mm_w (mm_w (mm_w (mm_w (mm_w m 52 0 C (a 1)) 53 0 C (a 2)) 54 0 C (Int32.ofNat t)) 55 0 C (a 4)) 9 0 5 (Int32.ofNat (C + 1))) := fp_w rfl (fp_w rfl (fp_w rfl (fp_w rfl (fp_w rfl fp_rf))))
              have hM : fp [(12, none, some 3), (12, none, some 77), (112, none, none), (113, none, none), (114, none, none), (115, none, none)] m (mm_w (mm_w (mm_w (mm_w (mm_w (mm_w m 12 0 3 0) 112 0 C (a 1)) 113 0 C (a 2)) 114 0 C (Int32.ofNat t)) 115 0 C (a 4)) 12 0 77 (Int32.ofNat (C + 1))) := fp_w rfl (fp_w rfl (fp_w rfl (fp_w rfl (fp_w rfl (fp_w rfl fp_rf)))))
              have hj : j_net (mm_w (mm_w (mm_w (mm_w (mm_w m 52 0 C (a 1)) 53 0 C (a 2)) 54 0 C (Int32.ofNat t)) 55 0 C (a 4)) 9 0 5 (Int32.ofNat (C + 1))) (mm_w (mm_w (mm_w (mm_w (mm_w (mm_w m 12 0 3 0) 112 0 C (a 1)) 113 0 C (a 2)) 114 0 C (Int32.ofNat t)) 115 0 C (a 4)) 12 0 77 (Int32.ofNat (C + 1))) := by
                refine ⟨C + 1, by omega, mw_s, mw_s, fun i hi => ?_⟩
                by_cases hiC : i = C
                · subst hiC
                  simp (disch := first | omega | decide | fail) only [mw_s, mw_k, mw_i, mw_g, hT1]
                  refine ⟨trivial, trivial, trivial, trivial, ⟨(a 1).toInt.toNat, by omega, n_of h1.1⟩, ⟨(a 2).toInt.toNat, by omega, n_of h2.1⟩, ⟨t, by omega, ?_, rfl⟩, ⟨(a 4).toInt.toNat, by omega, by omega, n_of (by omega)⟩⟩
                  rw [iA_lt, nJ_T (by omega), nJ_T (by omega)]
                  omega
                · have := hcs i (by omega)
                  simp (disch := first | omega | decide | fail) only [mw_s, mw_k, mw_i, mw_g]
                  exact this
              refine ⟨_, _, t_op24 hop eC eM (thrown_eq _) (fun e9 h => by cases h) (fun t h => ?_), ⟨j_day_kp hC hM (by decide) (by decide) hday, j_fault_kp hC hM (by decide) (by decide) hfault, j_dead_kp hC hM (by decide) (by decide) hdead, j_str_kp hC hM (by decide) (by decide) hstr, j_tap_kp hC hM (by decide) (by decide) htap, j_law_kp hC hM (by decide) (by decide) hlaw, j_ev_kp hC hM (by decide) (by decide) hev, j_row_kp hC hM (by decide) (by decide) hrow, j_inq_kp hC hM (by decide) (by decide) hinq, j_found_kp hC hM (by decide) (by decide) hfound, j_lamps_kp hC hM (by decide) (by decide) hlamps, hj, j_tsk_kp hC hM (by decide) (by decide) htsk, j_dl_kp hC hM (by decide) (by decide) hdl, j_alo_kp hC hM (by decide) (by decide) halo, j_she_kp hC hM (by decide) (by decide) hshe⟩⟩
              cases h
              exact ⟨by simp (disch := first | omega | decide | fail) only [mw_s, mw_k, mw_i, mw_g], rfl⟩
            · have hCe : C = 10 := by omega
              refine non (stepC _ (v_ifn h12 (v_ifn (by rw [iA_lt, i_1]; omega) (v_ifp (by rw [iA_le, i_8]; omega) (v_b2e (show f_X4_addCable _ _ _ _ m = some (-1, m) from ?_) (v_so rfl)))))) (v_is ?_)
              · unfold f_X4_addCable
                rw [if_neg (by rw [hC1, hCe]; decide)]
              · rw [ha3]
                unfold f_X12_cable
                refine v_lM ?_
                refine v_b1e (r_nok h1) ?_
                refine v_ifn (by decide) ?_
                refine v_b1e (r_nok h2) ?_
                refine v_ifn (by decide) ?_
                refine v_b1e (r_iTk hT2' hT8 ht) ?_
                refine v_ifp (by decide) ?_
                exact v_ifp (by rw [h77, hCe]; decide) (v_so rfl)
          · refine non (stepC _ (v_ifn h12 ?_)) (v_is ?_)
            · by_cases h0 : (a 4).toInt < 1
              · exact v_ifp (by rw [iA_lt, i_1]; omega) (v_so rfl)
              · exact v_ifn (by rw [iA_lt, i_1]; omega) (v_ifn (by rw [iA_le, i_8]; omega) (v_so rfl))
            · rw [ha3]
              unfold f_X12_cable
              refine v_lM ?_
              refine v_b1e (r_nok h1) ?_
              refine v_ifn (by decide) ?_
              refine v_b1e (r_nok h2) ?_
              refine v_ifn (by decide) ?_
              refine v_b1e (r_iTk hT2' hT8 ht) ?_
              refine v_ifp (by decide) ?_
              by_cases h10 : mm_w m 12 0 3 0 12 0 77 = 10
              · exact v_ifp h10 (v_so rfl)
              · refine v_ifn h10 (v_ifn h12 ?_)
                refine v_b1e (r_is0 (by rw [i_1, i_8]; exact h4)) ?_
                exact v_ifn (by decide) (v_so rfl)
      · refine bad (v_is ?_) (v_is ?_)
        · unfold f_X11_cable
          refine v_bxe (c_nok h1) ?_
          refine v_bxe (c_nok h2) ?_
          exact v_bxi (c_sOn hT1 hT8 ha3) rfl
        · unfold f_X12_cable
          refine v_lM ?_
          refine v_b1e (r_nok h1) ?_
          refine v_ifn (by decide) ?_
          refine v_b1e (r_nok h2) ?_
          refine v_ifn (by decide) ?_
          refine v_b1e (r_iTn hT2' hT8 ha3) ?_
          refine v_ifn (by decide) ?_
          exact v_b2e r_fail1 (v_so rfl)
    · refine bad (v_is ?_) (v_is ?_)
      · unfold f_X11_cable
        refine v_bxe (c_nok h1) ?_
        exact v_bxi (c_non h2) rfl
      · unfold f_X12_cable
        refine v_lM ?_
        refine v_b1e (r_nok h1) ?_
        refine v_ifn (by decide) ?_
        refine v_b1e (r_non h2) ?_
        refine v_ifp rfl ?_
        exact v_b2e r_fail1 (v_so rfl)
  · refine bad (v_is ?_) (v_is ?_)
    · unfold f_X11_cable
      exact v_bxi (c_non h1) rfl
    · unfold f_X12_cable
      refine v_lM ?_
      refine v_b1e (r_non h1) ?_
      refine v_ifp rfl ?_
      exact v_b2e r_fail1 (v_so rfl)
