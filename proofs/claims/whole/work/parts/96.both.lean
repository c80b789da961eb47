/-! both ends; the look of a thread -/
theorem o_21 : q_Sim qJ 21 := fun m a hJ hop => z_qzJ hJ (by
  by_cases h1 : 0 ≤ (a 1).toInt ∧ (a 1).toInt ≤ 99999
  · by_cases hs : 0 ≤ (a 4).toInt ∧ (a 5).toInt ≤ 500 ∧ (a 4).toInt ≤ (a 5).toInt
    · have hg : f_X12_isDug (a 1) (a 4) (a 5) (mm_w m 12 0 3 0) = some 1 := by rw [r_dug, if_pos ⟨h1, hs⟩]
      by_cases h2 : 0 ≤ (a 2).toInt ∧ (a 2).toInt ≤ 99999
      · by_cases h3 : 0 ≤ (a 3).toInt ∧ (a 3).toInt ≤ 99999
        · rcases z_c2 (a 6) with hb | hb | ⟨b0, b1, b2⟩
          · by_cases hle : (mm_max (a 1 * 1000 / (1000 + a 5)) (a 3 - (a 2 * 1000 + 999 + a 4) / (1000 + a 4))) ≤ (mm_min ((a 1 * 1000 + 999 + a 4) / (1000 + a 4)) (a 3 - a 2 * 1000 / (1000 + a 5)))
            · refine Or.inl ⟨(mm_max (a 1 * 1000 / (1000 + a 5)) (a 3 - (a 2 * 1000 + 999 + a 4) / (1000 + a 4))), v_is ?_, v_is ?_⟩
              · unfold f_X11_both
                refine v_bxe (c_dik h1) ?_
                refine v_bxe (c_dik h2) ?_
                refine v_bxe (c_dik h3) ?_
                refine v_bxe (c_slk hs) ?_
                refine v_bxe (by rw [hb]; rfl) ?_
                refine v_b1e (c_beg (by omega) (by omega)) ?_
                refine v_b1e (c_end (by omega) (by omega)) ?_
                refine v_lI (fun u hu => ?_)
                subst hu
                refine v_b1e (c_end (by omega) (by omega)) ?_
                refine v_b1e (c_beg (by omega) (by omega)) ?_
                refine v_lI (fun w hw => ?_)
                subst hw
                refine v_ifp hle ?_
                refine v_ifn (fun h => h hb) ?_
                exact v_so rfl
              · unfold f_X12_both
                refine v_lM ?_
                refine v_b1e hg ?_
                refine v_ifn (by decide) ?_
                refine v_b1e (r_is1 (by rw [i_0, i_99999]; exact h2)) ?_
                refine v_ifn (by decide) ?_
                refine v_b1e (r_is1 (by rw [i_0, i_99999]; exact h3)) ?_
                refine v_ifp (by decide) ?_
                refine v_ifn (by rw [hb]; decide) ?_
                refine v_ifp (by rw [hb]; decide) ?_
                refine v_b1e (r_least (by omega) (by omega)) ?_
                refine v_b1e (r_most (by omega) (by omega)) ?_
                refine v_lI (fun u hu => ?_)
                subst hu
                refine v_b1e (r_most (by omega) (by omega)) ?_
                refine v_b1e (r_least (by omega) (by omega)) ?_
                refine v_lI (fun w hw => ?_)
                subst hw
                refine v_ifp hle ?_
                refine v_ifn (fun h => h hb) ?_
                exact v_so rfl
            · refine Or.inl ⟨(-1), v_is ?_, v_is ?_⟩
              · unfold f_X11_both
                refine v_bxe (c_dik h1) ?_
                refine v_bxe (c_dik h2) ?_
                refine v_bxe (c_dik h3) ?_
                refine v_bxe (c_slk hs) ?_
                refine v_bxe (by rw [hb]; rfl) ?_
                refine v_b1e (c_beg (by omega) (by omega)) ?_
                refine v_b1e (c_end (by omega) (by omega)) ?_
                refine v_lI (fun u hu => ?_)
                subst hu
                refine v_b1e (c_end (by omega) (by omega)) ?_
                refine v_b1e (c_beg (by omega) (by omega)) ?_
                refine v_lI (fun w hw => ?_)
                subst hw
                refine v_ifn hle ?_
                exact v_so rfl
              · unfold f_X12_both
                refine v_lM ?_
                refine v_b1e hg ?_
                refine v_ifn (by decide) ?_
                refine v_b1e (r_is1 (by rw [i_0, i_99999]; exact h2)) ?_
                refine v_ifn (by decide) ?_
                refine v_b1e (r_is1 (by rw [i_0, i_99999]; exact h3)) ?_
                refine v_ifp (by decide) ?_
                refine v_ifn (by rw [hb]; decide) ?_
                refine v_ifp (by rw [hb]; decide) ?_
                refine v_b1e (r_least (by omega) (by omega)) ?_
                refine v_b1e (r_most (by omega) (by omega)) ?_
                refine v_lI (fun u hu => ?_)
                subst hu
                refine v_b1e (r_most (by omega) (by omega)) ?_
                refine v_b1e (r_least (by omega) (by omega)) ?_
                refine v_lI (fun w hw => ?_)
                subst hw
                refine v_ifn hle ?_
                exact v_so rfl
          · by_cases hle : (mm_max (a 1 * 1000 / (1000 + a 5)) (a 3 - (a 2 * 1000 + 999 + a 4) / (1000 + a 4))) ≤ (mm_min ((a 1 * 1000 + 999 + a 4) / (1000 + a 4)) (a 3 - a 2 * 1000 / (1000 + a 5)))
            · refine Or.inl ⟨(mm_min ((a 1 * 1000 + 999 + a 4) / (1000 + a 4)) (a 3 - a 2 * 1000 / (1000 + a 5))), v_is ?_, v_is ?_⟩
              · unfold f_X11_both
                refine v_bxe (c_dik h1) ?_
                refine v_bxe (c_dik h2) ?_
                refine v_bxe (c_dik h3) ?_
                refine v_bxe (c_slk hs) ?_
                refine v_bxe (by rw [hb]; rfl) ?_
                refine v_b1e (c_beg (by omega) (by omega)) ?_
                refine v_b1e (c_end (by omega) (by omega)) ?_
                refine v_lI (fun u hu => ?_)
                subst hu
                refine v_b1e (c_end (by omega) (by omega)) ?_
                refine v_b1e (c_beg (by omega) (by omega)) ?_
                refine v_lI (fun w hw => ?_)
                subst hw
                refine v_ifp hle ?_
                refine v_ifp (by rw [hb]; decide) ?_
                exact v_so rfl
              · unfold f_X12_both
                refine v_lM ?_
                refine v_b1e hg ?_
                refine v_ifn (by decide) ?_
                refine v_b1e (r_is1 (by rw [i_0, i_99999]; exact h2)) ?_
                refine v_ifn (by decide) ?_
                refine v_b1e (r_is1 (by rw [i_0, i_99999]; exact h3)) ?_
                refine v_ifp (by decide) ?_
                refine v_ifn (by rw [hb]; decide) ?_
                refine v_ifp (by rw [hb]; decide) ?_
                refine v_b1e (r_least (by omega) (by omega)) ?_
                refine v_b1e (r_most (by omega) (by omega)) ?_
                refine v_lI (fun u hu => ?_)
                subst hu
                refine v_b1e (r_most (by omega) (by omega)) ?_
                refine v_b1e (r_least (by omega) (by omega)) ?_
                refine v_lI (fun w hw => ?_)
                subst hw
                refine v_ifp hle ?_
                refine v_ifp (by rw [hb]; decide) ?_
                exact v_so rfl
            · refine Or.inl ⟨(-1), v_is ?_, v_is ?_⟩
              · unfold f_X11_both
                refine v_bxe (c_dik h1) ?_
                refine v_bxe (c_dik h2) ?_
                refine v_bxe (c_dik h3) ?_
                refine v_bxe (c_slk hs) ?_
                refine v_bxe (by rw [hb]; rfl) ?_
                refine v_b1e (c_beg (by omega) (by omega)) ?_
                refine v_b1e (c_end (by omega) (by omega)) ?_
                refine v_lI (fun u hu => ?_)
                subst hu
                refine v_b1e (c_end (by omega) (by omega)) ?_
                refine v_b1e (c_beg (by omega) (by omega)) ?_
                refine v_lI (fun w hw => ?_)
                subst hw
                refine v_ifn hle ?_
                exact v_so rfl
              · unfold f_X12_both
                refine v_lM ?_
                refine v_b1e hg ?_
                refine v_ifn (by decide) ?_
                refine v_b1e (r_is1 (by rw [i_0, i_99999]; exact h2)) ?_
                refine v_ifn (by decide) ?_
                refine v_b1e (r_is1 (by rw [i_0, i_99999]; exact h3)) ?_
                refine v_ifp (by decide) ?_
                refine v_ifn (by rw [hb]; decide) ?_
                refine v_ifp (by rw [hb]; decide) ?_
                refine v_b1e (r_least (by omega) (by omega)) ?_
                refine v_b1e (r_most (by omega) (by omega)) ?_
                refine v_lI (fun u hu => ?_)
                subst hu
                refine v_b1e (r_most (by omega) (by omega)) ?_
                refine v_b1e (r_least (by omega) (by omega)) ?_
                refine v_lI (fun w hw => ?_)
                subst hw
                refine v_ifn hle ?_
                exact v_so rfl
          · refine Or.inr (Or.inr ⟨v_is ?_, v_is ?_⟩)
            · unfold f_X11_both
              refine v_bxe (c_dik h1) ?_
              refine v_bxe (c_dik h2) ?_
              refine v_bxe (c_dik h3) ?_
              refine v_bxe (c_slk hs) ?_
              exact v_bxi (c_sdn b0 b1) rfl
            · unfold f_X12_both
              refine v_lM ?_
              refine v_b1e hg ?_
              refine v_ifn (by decide) ?_
              refine v_b1e (r_is1 (by rw [i_0, i_99999]; exact h2)) ?_
              refine v_ifn (by decide) ?_
              refine v_b1e (r_is1 (by rw [i_0, i_99999]; exact h3)) ?_
              refine v_ifp (by decide) ?_
              by_cases h0 : (a 6).toInt < 0
              · refine v_ifp (by rw [iA_lt, i_0]; omega) ?_
                exact v_b2e r_fail2 (v_so rfl)
              · refine v_ifn (by rw [iA_lt, i_0]; omega) ?_
                refine v_ifn (by rw [iA_le, i_1]; omega) ?_
                exact v_b2e r_fail2 (v_so rfl)
        · refine Or.inr (Or.inl ⟨v_is ?_, v_is ?_⟩)
          · unfold f_X11_both
            refine v_bxe (c_dik h1) ?_
            refine v_bxe (c_dik h2) ?_
            exact v_bxi (c_din h3) rfl
          · unfold f_X12_both
            refine v_lM ?_
            refine v_b1e hg ?_
            refine v_ifn (by decide) ?_
            refine v_b1e (r_is1 (by rw [i_0, i_99999]; exact h2)) ?_
            refine v_ifn (by decide) ?_
            refine v_b1e (r_is0 (by rw [i_0, i_99999]; exact h3)) ?_
            refine v_ifn (by decide) ?_
            exact v_b2e r_fail1 (v_so rfl)
      · refine Or.inr (Or.inl ⟨v_is ?_, v_is ?_⟩)
        · unfold f_X11_both
          refine v_bxe (c_dik h1) ?_
          exact v_bxi (c_din h2) rfl
        · unfold f_X12_both
          refine v_lM ?_
          refine v_b1e hg ?_
          refine v_ifn (by decide) ?_
          refine v_b1e (r_is0 (by rw [i_0, i_99999]; exact h2)) ?_
          refine v_ifp rfl ?_
          exact v_b2e r_fail1 (v_so rfl)
    · refine Or.inr (Or.inl ⟨v_is ?_, v_is ?_⟩)
      · unfold f_X11_both
        refine v_bxe (c_dik h1) ?_
        by_cases h2 : 0 ≤ (a 2).toInt ∧ (a 2).toInt ≤ 99999
        · refine v_bxe (c_dik h2) ?_
          by_cases h3 : 0 ≤ (a 3).toInt ∧ (a 3).toInt ≤ 99999
          · refine v_bxe (c_dik h3) ?_
            exact v_bxi (c_sln hs) rfl
          · exact v_bxi (c_din h3) rfl
        · exact v_bxi (c_din h2) rfl
      · unfold f_X12_both
        refine v_lM ?_
        refine v_b1e (show _ = some 0 by rw [r_dug, if_neg (fun z => hs z.2)]) ?_
        refine v_ifp rfl ?_
        exact v_b2e r_fail1 (v_so rfl)
  · refine Or.inr (Or.inl ⟨v_is ?_, v_is ?_⟩)
    · unfold f_X11_both
      exact v_bxi (c_din h1) rfl
    · unfold f_X12_both
      refine v_lM ?_
      refine v_b1e (show _ = some 0 by rw [r_dug, if_neg (fun z => h1 z.1)]) ?_
      refine v_ifp rfl ?_
      exact v_b2e r_fail1 (v_so rfl)) (fun o v mM hC hM hX hR => t_op21 hop hC hM (thrown_eq _) hX hR)
