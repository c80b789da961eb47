/-! sheets -/
theorem i_24 : (24 : Int32).toInt = 24 := by decide
theorem o_33 : q_Sim qJ 33 := fun m a hJ hop => by
  have hJ0 := hJ
  obtain ⟨hday, hfault, hdead, hstr, htap, hlaw, hev, hrow, hinq, hfound, hlamps, hnet, htsk, hdl, halo, hshe⟩ := hJ
  obtain ⟨S, hS8, hS1, hS2, hss, hsf⟩ := hshe
  have h99 : mm_w m 12 0 3 0 12 0 99 = Int32.ofNat S := (w3 (by decide)).trans hS2
  have non : ∀ x, f_X11_sheet (a 1) (a 2) m = some (x, m) → f_X12_sheet (a 1) (a 2) m = some (x, mm_w m 12 0 3 0) → ∃ mC mM, q_To m a mC mM ∧ qJ mC mM := fun x eC eM => ⟨_, _, t_op33 hop eC eM, qJ_3 fp_30 hJ0⟩
  by_cases h8 : S = 8
  · refine non (-1) (v_is ?_) (v_is ?_)
    · unfold f_X11_sheet
      refine v_ifp (by rw [hS1, h8]; decide) ?_
      exact v_so rfl
    · unfold f_X12_sheet
      refine v_lM ?_
      refine v_ifp (by rw [h99, h8]; decide) ?_
      exact v_so rfl
  · have n8 : ¬ 8 ≤ m 0 0 15 := by rw [iA_le, i_8, hS1, nJ_T (by omega)]; omega
    have n8' : ¬ mm_w m 12 0 3 0 12 0 99 = 8 := by rw [h99]; exact n_ne (by rw [nJ_T (by omega), i_8]; omega)
    by_cases h1 : 0 ≤ (a 1).toInt ∧ (a 1).toInt ≤ 2
    · have g1 : ¬ a 1 < 0 := by rw [iA_lt, i_0]; omega
      have g2 : a 1 ≤ 2 := by rw [iA_le, i_2]; omega
      have r1 : f_X12_isIn (a 1) 0 2 (mm_w m 12 0 3 0) = some 1 := r_is1 (by rw [i_0, i_2]; exact h1)
      by_cases h2 : -1 ≤ (a 2).toInt ∧ (a 2).toInt ≤ 24
      · have g3 : ¬ a 2 < -1 := by rw [iA_lt, i_m1]; omega
        have g4 : a 2 ≤ 24 := by rw [iA_le, i_24]; omega
        have kS : (Int32.ofNat S).toNatClampNeg = S := nJ_N (by omega)
        have iS : mm_in (Int32.ofNat S) 8 := nJ_in (by omega) (by decide)
        have eC : f_X11_sheet (a 1) (a 2) m = some (Int32.ofNat S, (mm_w (mm_w (mm_w m 11 S 1 (a 1)) 11 S 2 (a 2)) 0 0 15 (Int32.ofNat (S + 1)))) := v_is (by
          unfold f_X11_sheet
          refine v_ifn n8 ?_
          refine v_ifn g1 ?_
          refine v_ifp g2 ?_
          refine v_ifn g3 ?_
          refine v_ifp g4 ?_
          simp only [ml_let, hS1, if_pos iS, kS, Nat.zero_add, mw_g (show 0 ≠ 11 by decide), mw_s, n_a1, n_d (show 0 < S + 1 by omega), Nat.add_sub_cancel]
          exact v_so rfl)
        have eM : vW (f_X12_sheet (a 1) (a 2) m) (fun q => q.1 = Int32.ofNat S ∧ fp [(12, none, some 3), (12, none, some 99), (129, none, none), (130, none, none), (131, none, none)] m q.2 ∧ q.2 12 0 99 = Int32.ofNat (S + 1) ∧ q.2 129 0 S = a 1 ∧ q.2 130 0 S = a 2 ∧ (∀ s, ¬ s = S → q.2 129 0 s = m 129 0 s ∧ q.2 130 0 s = m 130 0 s) ∧ (∀ k, k < 24 → q.2 131 0 (24 * S + k) = 0) ∧ ∀ k, (k < 24 * S ∨ 24 * S + 24 ≤ k) → q.2 131 0 k = m 131 0 k) := by
          unfold f_X12_sheet
          refine v_lM ?_
          refine v_ifn n8' ?_
          refine v_b1e r1 ?_
          refine v_ifp (by decide) ?_
          refine v_ifn g3 ?_
          refine v_ifp g4 ?_
          refine v_ifp (by rw [h99]; exact iS) ?_
          rw [h99, kS]
          refine v_lM ?_
          have e2 : mm_w (mm_w m 12 0 3 0) 129 0 S (a 1) 12 0 99 = Int32.ofNat S := (mw_g (by decide)).trans h99
          rw [e2]
          refine v_ifp iS ?_
          rw [kS]
          refine v_lM ?_
          refine v_s1 (P := fun c => fp [(131, none, none)] (mm_w (mm_w (mm_w m 12 0 3 0) 129 0 S (a 1)) 130 0 S (a 2)) c ∧ (∀ k, k < 24 → c 131 0 (24 * S + k) = 0) ∧ ∀ k, (k < 24 * S ∨ 24 * S + 24 ≤ k) → c 131 0 k = m 131 0 k) ?_ ?_
          · refine v_for (fun j q => q.1.toInt = (j : Int) ∧ fp [(131, none, none)] (mm_w (mm_w (mm_w m 12 0 3 0) 129 0 S (a 1)) 130 0 S (a 2)) q.2 ∧ (∀ k, k < j → q.2 131 0 (24 * S + k) = 0) ∧ ∀ k, (k < 24 * S ∨ 24 * S + 24 ≤ k) → q.2 131 0 k = m 131 0 k) 0 24 (by decide) (by decide) ⟨i_0, fp_rf, fun k hk => absurd hk (Nat.not_lt_zero k), fun k _ => by simp (disch := first | omega | decide | fail) only [mw_s, mw_k, mw_i, mw_g]⟩ ?_ ?_
            · rintro j ⟨v, c⟩ hj ⟨hv, hf, hz, ho⟩
              dsimp only at hv hf hz ho ⊢
              have e3 : c 12 0 99 = Int32.ofNat S := by rw [hf 12 0 99 rfl, mw_g (by decide)]; exact e2
              have hix : (24 * c 12 0 99 + v).toInt = ((24 * S + j : Nat) : Int) := z_ix (by rw [e3, nJ_T (by omega)]) hv (by omega) (by omega)
              have kix := n_k hix
              refine v_ifn (by rw [iA_le, i_24]; omega) ?_
              refine v_ifp (v_in.mpr (by rw [hix]; omega)) ?_
              rw [kix]
              refine v_lM (v_l1 (v_il ⟨n_s3 hv (by omega), fp_w rfl hf, fun k hk => ?_, fun k hk => ?_⟩))
              · dsimp only
                by_cases hkj : k = j
                · rw [hkj, mw_s]
                · rw [mw_k (by omega)]
                  exact hz k (by omega)
              · dsimp only
                rw [mw_k (by omega)]
                exact ho k hk
            · rintro ⟨v, c⟩ ⟨hv, hf, hz, ho⟩
              dsimp only at hv hf hz ho ⊢
              refine v_ifp (by rw [iA_le, i_24]; omega) ?_
              exact v_ir ⟨hf, hz, ho⟩
          · rintro c ⟨hf, hz, ho⟩
            have e3 : c 12 0 99 = Int32.ofNat S := by rw [hf 12 0 99 rfl, mw_g (by decide)]; exact e2
            refine v_lM (v_so ?_)
            dsimp only
            rw [mw_s, e3, n_a1]
            refine ⟨by rw [n_d (by omega), Nat.add_sub_cancel], fp_w rfl (fp_tr (fp_w rfl (fp_w rfl (fp_w rfl fp_rf))) (fp_sb (by decide) hf)), rfl, ?_, ?_, fun s hs => ⟨?_, ?_⟩, fun k hk => (mw_g (by decide)).trans (hz k hk), fun k hk => (mw_g (by decide)).trans (ho k hk)⟩
            · rw [mw_g (by decide), hf 129 0 S rfl]
              simp (disch := first | omega | decide | fail) only [mw_s, mw_k, mw_i, mw_g]
            · rw [mw_g (by decide), hf 130 0 S rfl]
              simp (disch := first | omega | decide | fail) only [mw_s, mw_k, mw_i, mw_g]
            · rw [mw_g (by decide), hf 129 0 s rfl]
              simp (disch := first | omega | decide | fail) only [mw_s, mw_k, mw_i, mw_g]
            · rw [mw_g (by decide), hf 130 0 s rfl]
              simp (disch := first | omega | decide | fail) only [mw_s, mw_k, mw_i, mw_g]
        obtain ⟨⟨v, mM⟩, hM1, hM2, hM, m1, m2, m3, m4, m5, m6⟩ := eM
        dsimp only at hM2 hM m1 m2 m3 m4 m5 m6
        subst hM2
        have hC : fp [(0, none, some 15), (11, none, none)] m (mm_w (mm_w (mm_w m 11 S 1 (a 1)) 11 S 2 (a 2)) 0 0 15 (Int32.ofNat (S + 1))) := fp_w rfl (fp_w rfl (fp_w rfl fp_rf))
        have hj : j_she (mm_w (mm_w (mm_w m 11 S 1 (a 1)) 11 S 2 (a 2)) 0 0 15 (Int32.ofNat (S + 1))) mM := by
          refine ⟨S + 1, by omega, mw_s, m1, fun s hs => ?_, fun s h1 h2 k hk => ?_⟩
          · by_cases hsS : s = S
            · subst hsS
              refine ⟨⟨(a 1).toInt.toNat, by omega, ?_, ?_⟩, ⟨?_, ?_, ?_⟩, fun k hk => ?_⟩
              · simp (disch := first | omega | decide | fail) only [mw_s, mw_k, mw_i, mw_g]
                exact n_of h1.1
              · rw [m2]
                exact n_of h1.1
              · simp (disch := first | omega | decide | fail) only [mw_s, mw_k, mw_i, mw_g]
                exact m3.symm
              · simp (disch := first | omega | decide | fail) only [mw_s, mw_k, mw_i, mw_g]
                exact h2.1
              · simp (disch := first | omega | decide | fail) only [mw_s, mw_k, mw_i, mw_g]
                exact h2.2
              · rw [m5 k hk]
                simp (disch := first | omega | decide | fail) only [mw_s, mw_k, mw_i, mw_g]
                exact hsf s (Nat.le_refl s) (by omega) k hk
            · obtain ⟨b1, b2, b3⟩ := hss s (by omega)
              rw [(m4 s hsS).1, (m4 s hsS).2]
              simp (disch := first | omega | decide | fail) only [mw_s, mw_k, mw_i, mw_g]
              exact ⟨b1, b2, fun k hk => by rw [m6 _ (by omega)]; exact b3 k hk⟩
          · simp (disch := first | omega | decide | fail) only [mw_s, mw_k, mw_i, mw_g]
            exact hsf s (by omega) h2 k hk
        exact ⟨_, _, t_op33 hop eC hM1, ⟨j_day_kp hC hM (by decide) (by decide) hday, j_fault_kp hC hM (by decide) (by decide) hfault, j_dead_kp hC hM (by decide) (by decide) hdead, j_str_kp hC hM (by decide) (by decide) hstr, j_tap_kp hC hM (by decide) (by decide) htap, j_law_kp hC hM (by decide) (by decide) hlaw, j_ev_kp hC hM (by decide) (by decide) hev, j_row_kp hC hM (by decide) (by decide) hrow, j_inq_kp hC hM (by decide) (by decide) hinq, j_found_kp hC hM (by decide) (by decide) hfound, j_lamps_kp hC hM (by decide) (by decide) hlamps, j_net_kp hC hM (by decide) (by decide) hnet, j_tsk_kp hC hM (by decide) (by decide) htsk, j_dl_kp hC hM (by decide) (by decide) hdl, j_alo_kp hC hM (by decide) (by decide) halo, hj⟩⟩
      · refine non (-2) (v_is ?_) (v_is ?_)
        · unfold f_X11_sheet
          refine v_ifn n8 ?_
          refine v_ifn g1 ?_
          refine v_ifp g2 ?_
          by_cases h3 : (a 2).toInt < -1
          · exact v_ifp (by rw [iA_lt, i_m1]; omega) (v_so rfl)
          · exact v_ifn (by rw [iA_lt, i_m1]; omega) (v_ifn (by rw [iA_le, i_24]; omega) (v_so rfl))
        · unfold f_X12_sheet
          refine v_lM ?_
          refine v_ifn n8' ?_
          refine v_b1e r1 ?_
          refine v_ifp (by decide) ?_
          by_cases h3 : (a 2).toInt < -1
          · exact v_ifp (by rw [iA_lt, i_m1]; omega) (v_so rfl)
          · exact v_ifn (by rw [iA_lt, i_m1]; omega) (v_ifn (by rw [iA_le, i_24]; omega) (v_so rfl))
    · refine non (-1) (v_is ?_) (v_is ?_)
      · unfold f_X11_sheet
        refine v_ifn n8 ?_
        by_cases h3 : (a 1).toInt < 0
        · exact v_ifp (by rw [iA_lt, i_0]; omega) (v_so rfl)
        · exact v_ifn (by rw [iA_lt, i_0]; omega) (v_ifn (by rw [iA_le, i_2]; omega) (v_so rfl))
      · unfold f_X12_sheet
        refine v_lM ?_
        refine v_ifn n8' ?_
        refine v_b1e (r_is0 (by rw [i_0, i_2]; exact h1)) ?_
        exact v_ifn (by decide) (v_so rfl)
