/-! ops of levels and margins -/
theorem i_36499 : (36499 : Int32).toInt = 36499 := by decide
theorem c_dayk {a : Int32} {m : mm_M} (h : 0 ≤ a.toInt ∧ a.toInt ≤ 36499) : f_X11_needDay a m = some (.inr ()) := by rw [c_nday, if_pos h]
theorem c_dayn {a : Int32} {m : mm_M} (h : ¬ (0 ≤ a.toInt ∧ a.toInt ≤ 36499)) : f_X11_needDay a m = some (.inl 1) := by rw [c_nday, if_neg h]
theorem c_levk {a : Int32} {m : mm_M} (h : -60000 ≤ a.toInt ∧ a.toInt ≤ 30000) : f_X11_needLevel a m = some (.inr ()) := by rw [c_lev, if_pos h]
theorem c_levn {a : Int32} {m : mm_M} (h : ¬ (-60000 ≤ a.toInt ∧ a.toInt ≤ 30000)) : f_X11_needLevel a m = some (.inl 0) := by rw [c_lev, if_neg h]
theorem r_levk {a : Int32} {m : mm_M} (h : -60000 ≤ a.toInt ∧ a.toInt ≤ 30000) : f_X12_isLevel a m = some 1 := by rw [r_lev, if_pos h]
theorem r_levn {a : Int32} {m : mm_M} (h : ¬ (-60000 ≤ a.toInt ∧ a.toInt ≤ 30000)) : f_X12_isLevel a m = some 0 := by rw [r_lev, if_neg h]
theorem c_evek {a : Int32} {m : mm_M} (h : 0 ≤ a.toInt ∧ a.toInt ≤ (m 0 0 6).toInt) : f_X11_needEvening a m = some (.inr ()) := by rw [c_eve, if_pos h]
theorem c_even {a : Int32} {m : mm_M} (h : ¬ (0 ≤ a.toInt ∧ a.toInt ≤ (m 0 0 6).toInt)) : f_X11_needEvening a m = some (.inl 0) := by rw [c_eve, if_neg h]
theorem r_evek {a : Int32} {m : mm_M} (hd : j_day m m) (h : 0 ≤ a.toInt ∧ a.toInt ≤ (m 0 0 6).toInt) : f_X12_isIn a 0 (mm_w m 12 0 3 0 12 0 5) (mm_w m 12 0 3 0) = some 1 := r_is1 (by rw [w3 (by decide), ← hd.1, i_0]; exact h)
theorem r_even {a : Int32} {m : mm_M} (hd : j_day m m) (h : ¬ (0 ≤ a.toInt ∧ a.toInt ≤ (m 0 0 6).toInt)) : f_X12_isIn a 0 (mm_w m 12 0 3 0 12 0 5) (mm_w m 12 0 3 0) = some 0 := r_is0 (by rw [w3 (by decide), ← hd.1, i_0]; exact h)
theorem c_age {a : Int32} {m : mm_M} {t Y : Nat} (h : m 5 t 5 = Int32.ofNat Y) : f_X11_ageOn a t m = some (mm_max 0 (a / 365 - Int32.ofNat Y)) := by
  unfold f_X11_ageOn
  rw [h]
theorem r_age {a b : Int32} {m : mm_M} {t Y : Nat} (ha : b.toInt = (t : Int)) (ht : t < 8) (h : m 68 0 t = Int32.ofNat Y) : f_X12_ageOn b a m = some (mm_max 0 (a / 365 - Int32.ofNat Y)) := by
  apply v_is
  unfold f_X12_ageOn
  (repeat (first | with_reducible refine v_l1 ?_ | with_reducible refine v_lN ?_ | with_reducible refine v_lO ?_ | with_reducible refine v_lM ?_ | with_reducible refine v_lF ?_ | with_reducible refine v_ifp (by first | assumption | omega | (simp (disch := first | omega | fail) only [v_in, iA_le, iA_lt, n_1, n_0, n_p1, Int32.reduceToInt, ne_eq, not_true_eq_false, not_false_eq_true, eq_self, Int.toNat_natCast, ha] <;> first | omega | decide) | decide | fail) ?_ | with_reducible refine v_ifn (by first | assumption | omega | (simp (disch := first | omega | fail) only [v_in, iA_le, iA_lt, n_1, n_0, n_p1, Int32.reduceToInt, ne_eq, not_true_eq_false, not_false_eq_true, eq_self, Int.toNat_natCast, ha] <;> first | omega | decide) | decide | fail) ?_))
  refine v_so ?_
  rw [n_k ha, h]
theorem o_9 : q_Sim qJ 9 := fun m a hJ hop => z_r9J hJ (by
  have hJ0 := hJ
  obtain ⟨hday, hfau, hdea, ⟨T, hT8, hT1, hT2, hth⟩, htap, ⟨lw, r, hr2, hr3, hr4, hlC, hlM, hdp⟩, hev, _⟩ := hJ
  have hT2' : mm_w m 12 0 3 0 12 0 4 = Int32.ofNat T := (w3 (by decide)).trans hT2
  rcases z_arg (a 1) T (by omega) with ⟨t, ht, ha1⟩ | ha1
  · obtain ⟨N, K, A, B, H, Y, hB, hC, hM⟩ := hth t ht
    have h24 := hB.2.1
    have hM' : z_thM (mm_w m 12 0 3 0) t N K A B H Y := z_thM_fr (fun g i k hg => w3 (fun z => by rw [z.1] at hg; cases hg)) hM
    rw [ha1]
    rcases z_arg (a 2) N (by omega) with ⟨p, hp, ha2⟩ | ha2
    · rw [ha2]
      by_cases h3 : 0 ≤ (a 3).toInt ∧ (a 3).toInt ≤ 7
      · by_cases h6 : 0 ≤ (a 6).toInt ∧ (a 6).toInt ≤ 36499
        · by_cases h4 : -60000 ≤ (a 4).toInt ∧ (a 4).toInt ≤ 30000
          · by_cases h7 : 0 ≤ (a 7).toInt ∧ (a 7).toInt ≤ (m 0 0 6).toInt
            · obtain ⟨bn, ct, o, hsC, hsM⟩ := z_scene (t := t) (D := a 6) (k := a 7) hev
              refine Or.inr (Or.inr ⟨(z_li (z_pa K A B (z_lv lw K A H (a 3) (mm_max 0 (a 6 / 365 - Int32.ofNat Y))) bn o) ct (z_at N (mm_bz (a 5))) (a 4) (z_mt N (mm_bz (a 5)) p)).getD (-100000), ?_, ?_⟩)
              · unfold f_X11_level
                refine v_bxe (c_sOk hT1 hT8 ht) ?_
                refine v_bxe (c_nPk hC.1 h24 hp) ?_
                refine v_bxe (c_colk h3) ?_
                refine v_bxe (c_dayk h6) ?_
                refine v_bxe (c_levk h4) ?_
                refine v_bxe (c_evek h7) ?_
                refine v_sx (hsC T hT1 hT8 ht) (fun e h => by obtain ⟨_, h, _⟩ := h; cases h) ?_
                rintro c ⟨_, hc1, hf, h4, hsc⟩
                cases hc1
                have hTc := z_thC_fr (fun g i k hg => hf g i k (z_dis_of (by decide) hg)) hC
                have hlc : ∀ k, k < 4 → z_cdC c r k (lw k) := fun k hk => z_cdC_fr (fun g i k hg => hf g i k (z_dis_of (by decide) hg)) (hlC k hk)
                have h03 : c 0 0 3 = Int32.ofNat r := (hf 0 0 3 rfl).trans hr3
                refine v_ifn (by rw [h03]; exact n_m1 (by omega)) ?_
                refine v_lN ?_
                rw [h03, nJ_N (by omega)]
                refine v_b1e (c_age hTc.2.1) ?_
                refine v_s1 (c_weigh h4 (by omega) hlc hdp hB hTc) ?_
                rintro c2 ⟨hf2, hL⟩
                have h4b : c2 4 0 4 = Int32.ofNat t := (hf2 4 0 4 rfl).trans h4
                have hTb := z_thC_fr (fun g i k hg => hf2 g i k (z_dis_of (by decide) hg)) hTc
                have hsb := z_scC_fr (fun g i k hg => hf2 g i k (z_dis_of (by decide) hg)) hsc
                refine v_b1e (c_level (s := a 4) (e := mm_bz (a 5)) h4b (by omega) h24 hTb hsb hL (nJ_T (by omega)) hp) ?_
                exact v_so ⟨c2, rfl, fp_tr (fp_sb (by decide) hf) (fp_sb (by decide) hf2)⟩
              · unfold f_X12_level
                refine v_lM ?_
                refine v_b1e (r_iPk hT2' hT8 ht hM'.1 h24 hp) ?_
                first | refine v_ifn (by decide) ?_ | refine v_ifp (by decide) ?_
                refine v_b1e (r_colk h3) ?_
                first | refine v_ifn (by decide) ?_ | refine v_ifp (by decide) ?_
                refine v_b1e (r_is1 (by rw [i_0, i_36499]; exact h6)) ?_
                first | refine v_ifn (by decide) ?_ | refine v_ifp (by decide) ?_
                refine v_b1e (r_levk h4) ?_
                first | refine v_ifn (by decide) ?_ | refine v_ifp (by decide) ?_
                refine v_b1e (r_evek hday h7) ?_
                first | refine v_ifn (by decide) ?_ | refine v_ifp (by decide) ?_
                refine v_s1 (hsM _ fp_30) ?_
                rintro c ⟨hf, hsc⟩
                have hTc := z_thM_fr (fun g i k hg => hf g i k (z_dis_of (by decide) hg)) hM'
                have hlc : ∀ k, k < 4 → z_cdM c k (lw k) := fun k hk => z_cdM_fr (fun g i k hg => (hf g i k (z_dis_of (by decide) hg)).trans (w3 (fun z => by rw [z.1] at hg; cases hg))) (hlM k hk)
                have kt : (Int32.ofNat t).toNatClampNeg = t := nJ_N (by omega)
                have hmt := z_mt_le (e := mm_bz (a 5)) hp
                have key : ∀ w : Int32, w.toInt = (z_mt N (mm_bz (a 5)) p : Int) → vW (mm_b1 (f_X12_ageOn (Int32.ofNat t) (a 6) c) fun r17 => mm_b2 (f_X12_through (Int32.ofNat t) w (a 3) (a 4) (mm_bz (a 5)) r17 c) fun r18 m19 => some (r18, m19)) (fun q => q.1 = (z_li (z_pa K A B (z_lv lw K A H (a 3) (mm_max 0 (a 6 / 365 - Int32.ofNat Y))) bn o) ct (z_at N (mm_bz (a 5))) (a 4) (z_mt N (mm_bz (a 5)) p)).getD (-100000) ∧ fp zM9 m q.2 ∧ q.2 12 0 3 = 0) := fun w hw => by
                  refine v_b1e (r_age (nJ_T (by omega)) (by omega) hTc.2.1) ?_
                  refine v_s2 (r_through (by omega) hlc hdp hB hTc hsc (nJ_T (by omega)) hw hmt.1) ?_
                  rintro x c2 ⟨hx, hf2⟩
                  exact v_so ⟨hx, fp_tr (fp_w rfl fp_rf) (fp_tr (fp_sb (by decide) hf) (fp_sb (by decide) hf2)), ((hf2 12 0 3 rfl).trans (hf 12 0 3 rfl)).trans mw_s⟩
                refine v_lF ?_
                by_cases he : mm_bz (a 5) = 0
                · refine v_ifp he ?_
                  refine key _ ?_
                  rw [n_s3 (nJ_T (by omega)) (by omega)]
                  unfold z_mt
                  rw [if_pos he]
                · refine v_ifn he ?_
                  refine v_ifp (nJ_in (by omega) (by decide)) ?_
                  refine key _ ?_
                  rw [kt, hTc.1, n_sb (by omega), nJ_T (by omega)]
                  unfold z_mt
                  rw [if_neg he]
            · refine Or.inr (Or.inl ⟨v_is ?_, v_is ?_⟩)
              · unfold f_X11_level
                refine v_bxe (c_sOk hT1 hT8 ht) ?_
                refine v_bxe (c_nPk hC.1 h24 hp) ?_
                refine v_bxe (c_colk h3) ?_
                refine v_bxe (c_dayk h6) ?_
                refine v_bxe (c_levk h4) ?_
                exact v_bxi (c_even h7) rfl
              · unfold f_X12_level
                refine v_lM ?_
                refine v_b1e (r_iPk hT2' hT8 ht hM'.1 h24 hp) ?_
                first | refine v_ifn (by decide) ?_ | refine v_ifp (by decide) ?_
                refine v_b1e (r_colk h3) ?_
                first | refine v_ifn (by decide) ?_ | refine v_ifp (by decide) ?_
                refine v_b1e (r_is1 (by rw [i_0, i_36499]; exact h6)) ?_
                first | refine v_ifn (by decide) ?_ | refine v_ifp (by decide) ?_
                refine v_b1e (r_levk h4) ?_
                first | refine v_ifn (by decide) ?_ | refine v_ifp (by decide) ?_
                refine v_b1e (r_even hday h7) ?_
                first | refine v_ifn (by decide) ?_ | refine v_ifp (by decide) ?_
                exact v_b2e r_fail2 (v_so rfl)
          · refine Or.inr (Or.inl ⟨v_is ?_, v_is ?_⟩)
            · unfold f_X11_level
              refine v_bxe (c_sOk hT1 hT8 ht) ?_
              refine v_bxe (c_nPk hC.1 h24 hp) ?_
              refine v_bxe (c_colk h3) ?_
              refine v_bxe (c_dayk h6) ?_
              exact v_bxi (c_levn h4) rfl
            · unfold f_X12_level
              refine v_lM ?_
              refine v_b1e (r_iPk hT2' hT8 ht hM'.1 h24 hp) ?_
              first | refine v_ifn (by decide) ?_ | refine v_ifp (by decide) ?_
              refine v_b1e (r_colk h3) ?_
              first | refine v_ifn (by decide) ?_ | refine v_ifp (by decide) ?_
              refine v_b1e (r_is1 (by rw [i_0, i_36499]; exact h6)) ?_
              first | refine v_ifn (by decide) ?_ | refine v_ifp (by decide) ?_
              refine v_b1e (r_levn h4) ?_
              first | refine v_ifn (by decide) ?_ | refine v_ifp (by decide) ?_
              exact v_b2e r_fail2 (v_so rfl)
        · refine Or.inl ⟨v_is ?_, v_is ?_⟩
          · unfold f_X11_level
            refine v_bxe (c_sOk hT1 hT8 ht) ?_
            refine v_bxe (c_nPk hC.1 h24 hp) ?_
            refine v_bxe (c_colk h3) ?_
            exact v_bxi (c_dayn h6) rfl
          · unfold f_X12_level
            refine v_lM ?_
            refine v_b1e (r_iPk hT2' hT8 ht hM'.1 h24 hp) ?_
            first | refine v_ifn (by decide) ?_ | refine v_ifp (by decide) ?_
            refine v_b1e (r_colk h3) ?_
            first | refine v_ifn (by decide) ?_ | refine v_ifp (by decide) ?_
            refine v_b1e (r_is0 (by rw [i_0, i_36499]; exact h6)) ?_
            first | refine v_ifn (by decide) ?_ | refine v_ifp (by decide) ?_
            exact v_b2e r_fail1 (v_so rfl)
      · refine Or.inl ⟨v_is ?_, v_is ?_⟩
        · unfold f_X11_level
          refine v_bxe (c_sOk hT1 hT8 ht) ?_
          refine v_bxe (c_nPk hC.1 h24 hp) ?_
          exact v_bxi (c_coln h3) rfl
        · unfold f_X12_level
          refine v_lM ?_
          refine v_b1e (r_iPk hT2' hT8 ht hM'.1 h24 hp) ?_
          first | refine v_ifn (by decide) ?_ | refine v_ifp (by decide) ?_
          refine v_b1e (r_coln h3) ?_
          first | refine v_ifn (by decide) ?_ | refine v_ifp (by decide) ?_
          exact v_b2e r_fail1 (v_so rfl)
    · refine Or.inl ⟨v_is ?_, v_is ?_⟩
      · unfold f_X11_level
        refine v_bxe (c_sOk hT1 hT8 ht) ?_
        exact v_bxi (c_nPn hC.1 h24 ha2) rfl
      · unfold f_X12_level
        refine v_lM ?_
        refine v_b1e (r_iPn hT2' hT8 ht hM'.1 h24 ha2) ?_
        first | refine v_ifn (by decide) ?_ | refine v_ifp (by decide) ?_
        exact v_b2e r_fail1 (v_so rfl)
  · refine Or.inl ⟨v_is ?_, v_is ?_⟩
    · unfold f_X11_level
      exact v_bxi (c_sOn hT1 hT8 ha1) rfl
    · unfold f_X12_level
      refine v_lM ?_
      refine v_b1e (r_iPt hT2' hT8 ha1) ?_
      first | refine v_ifn (by decide) ?_ | refine v_ifp (by decide) ?_
      exact v_b2e r_fail1 (v_so rfl)) (fun o v mM hC hM hX hR => t_op9 hop hC hM (thrown_eq _) hX hR)
theorem o_10 : q_Sim qJ 10 := fun m a hJ hop => z_r9J hJ (by
  have hJ0 := hJ
  obtain ⟨hday, hfau, hdea, ⟨T, hT8, hT1, hT2, hth⟩, htap, ⟨lw, r, hr2, hr3, hr4, hlC, hlM, hdp⟩, hev, _⟩ := hJ
  have hT2' : mm_w m 12 0 3 0 12 0 4 = Int32.ofNat T := (w3 (by decide)).trans hT2
  rcases z_arg (a 1) T (by omega) with ⟨t, ht, ha1⟩ | ha1
  · obtain ⟨N, K, A, B, H, Y, hB, hC, hM⟩ := hth t ht
    have h24 := hB.2.1
    have hM' : z_thM (mm_w m 12 0 3 0) t N K A B H Y := z_thM_fr (fun g i k hg => w3 (fun z => by rw [z.1] at hg; cases hg)) hM
    rw [ha1]
    by_cases h2 : 0 ≤ (a 2).toInt ∧ (a 2).toInt ≤ 7
    · by_cases h5 : 0 ≤ (a 5).toInt ∧ (a 5).toInt ≤ 36499
      · by_cases h3 : -60000 ≤ (a 3).toInt ∧ (a 3).toInt ≤ 30000
        · by_cases h4 : -60000 ≤ (a 4).toInt ∧ (a 4).toInt ≤ 30000
          · by_cases h6 : 0 ≤ (a 6).toInt ∧ (a 6).toInt ≤ (m 0 0 6).toInt
            · obtain ⟨bn, ct, o, hsC, hsM⟩ := z_scene (t := t) (D := a 5) (k := a 6) hev
              refine Or.inr (Or.inr ⟨z_mg N K A B (z_lv lw K A H (a 2) (mm_max 0 (a 5 / 365 - Int32.ofNat Y))) bn ct o (a 3) (a 4), ?_, ?_⟩)
              · unfold f_X11_margin
                refine v_bxe (c_sOk hT1 hT8 ht) ?_
                refine v_bxe (c_colk h2) ?_
                refine v_bxe (c_dayk h5) ?_
                refine v_bxe (c_levk h3) ?_
                refine v_bxe (c_levk h4) ?_
                refine v_bxe (c_evek h6) ?_
                refine v_sx (hsC T hT1 hT8 ht) (fun e h => by obtain ⟨_, h, _⟩ := h; cases h) ?_
                rintro c ⟨_, hc1, hf, h4, hsc⟩
                cases hc1
                have hTc := z_thC_fr (fun g i k hg => hf g i k (z_dis_of (by decide) hg)) hC
                have hlc : ∀ k, k < 4 → z_cdC c r k (lw k) := fun k hk => z_cdC_fr (fun g i k hg => hf g i k (z_dis_of (by decide) hg)) (hlC k hk)
                have h03 : c 0 0 3 = Int32.ofNat r := (hf 0 0 3 rfl).trans hr3
                refine v_ifn (by rw [h03]; exact n_m1 (by omega)) ?_
                refine v_lN ?_
                rw [h03, nJ_N (by omega)]
                refine v_b1e (c_age hTc.2.1) ?_
                refine v_s1 (c_weigh h4 (by omega) hlc hdp hB hTc) ?_
                rintro c2 ⟨hf2, hL⟩
                have h4b : c2 4 0 4 = Int32.ofNat t := (hf2 4 0 4 rfl).trans h4
                have hTb := z_thC_fr (fun g i k hg => hf2 g i k (z_dis_of (by decide) hg)) hTc
                have hsb := z_scC_fr (fun g i k hg => hf2 g i k (z_dis_of (by decide) hg)) hsc
                refine v_b1e (c_margin (s := a 3) (w := a 4) h4b (by omega) hB.1 h24 hTb hsb hL) ?_
                exact v_so ⟨c2, rfl, fp_tr (fp_sb (by decide) hf) (fp_sb (by decide) hf2)⟩
              · unfold f_X12_margin
                refine v_lM ?_
                refine v_b1e (r_iTk hT2' hT8 ht) ?_
                first | refine v_ifn (by decide) ?_ | refine v_ifp (by decide) ?_
                refine v_b1e (r_colk h2) ?_
                first | refine v_ifn (by decide) ?_ | refine v_ifp (by decide) ?_
                refine v_b1e (r_is1 (by rw [i_0, i_36499]; exact h5)) ?_
                first | refine v_ifn (by decide) ?_ | refine v_ifp (by decide) ?_
                refine v_b1e (r_levk h3) ?_
                first | refine v_ifn (by decide) ?_ | refine v_ifp (by decide) ?_
                refine v_b1e (r_levk h4) ?_
                first | refine v_ifn (by decide) ?_ | refine v_ifp (by decide) ?_
                refine v_b1e (r_evek hday h6) ?_
                first | refine v_ifn (by decide) ?_ | refine v_ifp (by decide) ?_
                refine v_s1 (hsM _ fp_30) ?_
                rintro c ⟨hf, hsc⟩
                have hTc := z_thM_fr (fun g i k hg => hf g i k (z_dis_of (by decide) hg)) hM'
                have hlc : ∀ k, k < 4 → z_cdM c k (lw k) := fun k hk => z_cdM_fr (fun g i k hg => (hf g i k (z_dis_of (by decide) hg)).trans (w3 (fun z => by rw [z.1] at hg; cases hg))) (hlM k hk)
                refine v_b1e (r_age (nJ_T (by omega)) (by omega) hTc.2.1) ?_
                refine v_s2 (r_margin (by omega) hlc hdp hB hTc hsc (nJ_T (by omega))) ?_
                rintro x c2 ⟨hx, hf2⟩
                exact v_so ⟨hx, fp_tr (fp_w rfl fp_rf) (fp_tr (fp_sb (by decide) hf) (fp_sb (by decide) hf2)), ((hf2 12 0 3 rfl).trans (hf 12 0 3 rfl)).trans mw_s⟩
            · refine Or.inr (Or.inl ⟨v_is ?_, v_is ?_⟩)
              · unfold f_X11_margin
                refine v_bxe (c_sOk hT1 hT8 ht) ?_
                refine v_bxe (c_colk h2) ?_
                refine v_bxe (c_dayk h5) ?_
                refine v_bxe (c_levk h3) ?_
                refine v_bxe (c_levk h4) ?_
                exact v_bxi (c_even h6) rfl
              · unfold f_X12_margin
                refine v_lM ?_
                refine v_b1e (r_iTk hT2' hT8 ht) ?_
                first | refine v_ifn (by decide) ?_ | refine v_ifp (by decide) ?_
                refine v_b1e (r_colk h2) ?_
                first | refine v_ifn (by decide) ?_ | refine v_ifp (by decide) ?_
                refine v_b1e (r_is1 (by rw [i_0, i_36499]; exact h5)) ?_
                first | refine v_ifn (by decide) ?_ | refine v_ifp (by decide) ?_
                refine v_b1e (r_levk h3) ?_
                first | refine v_ifn (by decide) ?_ | refine v_ifp (by decide) ?_
                refine v_b1e (r_levk h4) ?_
                first | refine v_ifn (by decide) ?_ | refine v_ifp (by decide) ?_
                refine v_b1e (r_even hday h6) ?_
                first | refine v_ifn (by decide) ?_ | refine v_ifp (by decide) ?_
                exact v_b2e r_fail2 (v_so rfl)
          · refine Or.inr (Or.inl ⟨v_is ?_, v_is ?_⟩)
            · unfold f_X11_margin
              refine v_bxe (c_sOk hT1 hT8 ht) ?_
              refine v_bxe (c_colk h2) ?_
              refine v_bxe (c_dayk h5) ?_
              refine v_bxe (c_levk h3) ?_
              exact v_bxi (c_levn h4) rfl
            · unfold f_X12_margin
              refine v_lM ?_
              refine v_b1e (r_iTk hT2' hT8 ht) ?_
              first | refine v_ifn (by decide) ?_ | refine v_ifp (by decide) ?_
              refine v_b1e (r_colk h2) ?_
              first | refine v_ifn (by decide) ?_ | refine v_ifp (by decide) ?_
              refine v_b1e (r_is1 (by rw [i_0, i_36499]; exact h5)) ?_
              first | refine v_ifn (by decide) ?_ | refine v_ifp (by decide) ?_
              refine v_b1e (r_levk h3) ?_
              first | refine v_ifn (by decide) ?_ | refine v_ifp (by decide) ?_
              refine v_b1e (r_levn h4) ?_
              first | refine v_ifn (by decide) ?_ | refine v_ifp (by decide) ?_
              exact v_b2e r_fail2 (v_so rfl)
        · refine Or.inr (Or.inl ⟨v_is ?_, v_is ?_⟩)
          · unfold f_X11_margin
            refine v_bxe (c_sOk hT1 hT8 ht) ?_
            refine v_bxe (c_colk h2) ?_
            refine v_bxe (c_dayk h5) ?_
            exact v_bxi (c_levn h3) rfl
          · unfold f_X12_margin
            refine v_lM ?_
            refine v_b1e (r_iTk hT2' hT8 ht) ?_
            first | refine v_ifn (by decide) ?_ | refine v_ifp (by decide) ?_
            refine v_b1e (r_colk h2) ?_
            first | refine v_ifn (by decide) ?_ | refine v_ifp (by decide) ?_
            refine v_b1e (r_is1 (by rw [i_0, i_36499]; exact h5)) ?_
            first | refine v_ifn (by decide) ?_ | refine v_ifp (by decide) ?_
            refine v_b1e (r_levn h3) ?_
            first | refine v_ifn (by decide) ?_ | refine v_ifp (by decide) ?_
            exact v_b2e r_fail2 (v_so rfl)
      · refine Or.inl ⟨v_is ?_, v_is ?_⟩
        · unfold f_X11_margin
          refine v_bxe (c_sOk hT1 hT8 ht) ?_
          refine v_bxe (c_colk h2) ?_
          exact v_bxi (c_dayn h5) rfl
        · unfold f_X12_margin
          refine v_lM ?_
          refine v_b1e (r_iTk hT2' hT8 ht) ?_
          first | refine v_ifn (by decide) ?_ | refine v_ifp (by decide) ?_
          refine v_b1e (r_colk h2) ?_
          first | refine v_ifn (by decide) ?_ | refine v_ifp (by decide) ?_
          refine v_b1e (r_is0 (by rw [i_0, i_36499]; exact h5)) ?_
          first | refine v_ifn (by decide) ?_ | refine v_ifp (by decide) ?_
          exact v_b2e r_fail1 (v_so rfl)
    · refine Or.inl ⟨v_is ?_, v_is ?_⟩
      · unfold f_X11_margin
        refine v_bxe (c_sOk hT1 hT8 ht) ?_
        exact v_bxi (c_coln h2) rfl
      · unfold f_X12_margin
        refine v_lM ?_
        refine v_b1e (r_iTk hT2' hT8 ht) ?_
        first | refine v_ifn (by decide) ?_ | refine v_ifp (by decide) ?_
        refine v_b1e (r_coln h2) ?_
        first | refine v_ifn (by decide) ?_ | refine v_ifp (by decide) ?_
        exact v_b2e r_fail1 (v_so rfl)
  · refine Or.inl ⟨v_is ?_, v_is ?_⟩
    · unfold f_X11_margin
      exact v_bxi (c_sOn hT1 hT8 ha1) rfl
    · unfold f_X12_margin
      refine v_lM ?_
      refine v_b1e (r_iTn hT2' hT8 ha1) ?_
      first | refine v_ifn (by decide) ?_ | refine v_ifp (by decide) ?_
      exact v_b2e r_fail1 (v_so rfl)) (fun o v mM hC hM hX hR => t_op10 hop hC hM (thrown_eq _) hX hR)
