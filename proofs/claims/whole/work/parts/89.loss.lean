/-! calls that change nothing that is kept; ops of losses and levels -/
def z_allC : zT := [(0, none, some 6), (0, none, some 5), (0, none, some 9), (0, none, some 2), (5, none, none), (37, none, none), (38, none, none), (39, none, none), (40, none, none), (1, none, some 1), (15, none, none), (0, none, some 3), (0, none, some 4), (19, none, none), (20, none, none), (21, none, none), (22, none, none), (3, none, some 8), (25, none, none), (26, none, none), (27, none, none), (28, none, none), (29, none, none), (30, none, none), (31, none, none), (32, none, none), (6, some 0, some 3), (41, some 0, none), (42, some 0, none), (43, some 0, none), (7, none, some 0), (7, none, some 3), (45, none, none), (46, none, none), (6, some 1, some 3), (6, some 2, some 3), (41, some 1, none), (42, some 1, none), (41, some 2, none), (42, some 2, none), (7, none, some 7), (7, none, some 8), (7, none, some 9), (7, none, some 10), (8, none, some 4), (51, none, none), (9, none, some 5), (52, none, none), (53, none, none), (54, none, none), (55, none, none), (9, none, some 8), (57, none, none), (58, none, none), (9, none, some 18), (61, none, none), (10, some 3, some 1), (10, some 4, some 1), (62, some 3, none), (62, some 4, none), (0, none, some 15), (11, none, some 1), (11, none, some 2), (63, none, none)]
def z_allM : zT := [(12, none, some 5), (12, none, some 31), (12, none, some 43), (12, none, some 4), (67, none, none), (68, none, none), (69, none, none), (70, none, none), (71, none, none), (72, none, none), (12, none, some 21), (80, none, none), (81, none, none), (82, none, none), (83, none, none), (86, none, none), (12, none, some 6), (73, none, none), (74, none, none), (75, none, none), (76, none, none), (77, none, none), (78, none, none), (79, none, none), (12, none, some 46), (12, none, some 57), (98, none, none), (99, none, none), (100, none, none), (12, none, some 61), (12, none, some 62), (103, none, none), (104, none, none), (105, none, none), (106, none, none), (107, none, none), (12, none, some 63), (12, none, some 64), (12, none, some 65), (12, none, some 66), (12, none, some 72), (108, none, none), (12, none, some 77), (112, none, none), (113, none, none), (114, none, none), (115, none, none), (12, none, some 78), (117, none, none), (118, none, none), (12, none, some 94), (128, none, none), (12, none, some 80), (124, none, none), (12, none, some 99), (129, none, none), (130, none, none), (131, none, none)]
theorem qJ_all {LC LM : zT} {m c' m' : mm_M} (hC : fp LC m c') (hM : fp LM m m') (d1 : z_dis z_allC LC = true) (d2 : z_dis z_allM LM = true) (h : qJ m m) : qJ c' m' := by
  have eC : ∀ (L : zT), z_sub L z_allC = true → ∀ g i k, z_in L g i k = true → c' g i k = m g i k := fun L hL g i k hg => hC g i k (z_dis_of d1 (z_sub_of hL hg))
  have eM : ∀ (L : zT), z_sub L z_allM = true → ∀ g i k, z_in L g i k = true → m' g i k = m g i k := fun L hL g i k hg => hM g i k (z_dis_of d2 (z_sub_of hL hg))
  obtain ⟨h0, h1, h2, h3, h4, h5, h6, h7, h8, h9, h10, h11, h12, h13, h14, h15⟩ := h
  exact ⟨j_day_fr (eC _ (by decide)) (eM _ (by decide)) h0, j_fault_fr (eC _ (by decide)) (eM _ (by decide)) h1, j_dead_fr (eC _ (by decide)) (eM _ (by decide)) h2, j_str_fr (eC _ (by decide)) (eM _ (by decide)) h3, j_tap_fr (eC _ (by decide)) (eM _ (by decide)) h4, j_law_fr (eC _ (by decide)) (eM _ (by decide)) h5, j_ev_fr (eC _ (by decide)) (eM _ (by decide)) h6, j_row_fr (eC _ (by decide)) (eM _ (by decide)) h7, j_inq_fr (eC _ (by decide)) (eM _ (by decide)) h8, j_found_fr (eC _ (by decide)) (eM _ (by decide)) h9, j_lamps_fr (eC _ (by decide)) (eM _ (by decide)) h10, j_net_fr (eC _ (by decide)) (eM _ (by decide)) h11, j_tsk_fr (eC _ (by decide)) (eM _ (by decide)) h12, j_dl_fr (eC _ (by decide)) (eM _ (by decide)) h13, j_alo_fr (eC _ (by decide)) (eM _ (by decide)) h14, j_she_fr (eC _ (by decide)) (eM _ (by decide)) h15⟩
/-- what calls that look at a scene may change -/
abbrev zC9 : zT := [(4, none, some 4), (33, none, none), (34, none, none), (35, none, none), (36, none, none), (23, none, none), (24, none, none)]
abbrev zM9 : zT := [(12, none, some 3), (84, none, none), (85, none, none), (87, none, none), (88, none, none), (89, none, none), (90, none, none)]
theorem qJ_9 {m c' m' : mm_M} (hC : fp zC9 m c') (hM : fp zM9 m m') (h : qJ m m) : qJ c' m' := qJ_all hC hM (by decide) (by decide) h
def z_r9 (m : mm_M) (oC : Option (Nat ⊕ (Int32 × mm_M))) (oM : Option (Int32 × mm_M)) : Prop := (oC = some (.inl 1) ∧ oM = some (0, mm_w (mm_w m 12 0 3 0) 12 0 3 1)) ∨ (oC = some (.inl 0) ∧ oM = some (0, mm_w (mm_w m 12 0 3 0) 12 0 3 2)) ∨ ∃ x, vW oC (fun o => ∃ c, o = .inr (x, c) ∧ fp zC9 m c) ∧ vW oM (fun q => q.1 = x ∧ fp zM9 m q.2 ∧ q.2 12 0 3 = 0)
theorem z_r9J {m : mm_M} {a : Nat → Int32} {oC : Option (Nat ⊕ (Int32 × mm_M))} {oM : Option (Int32 × mm_M)} (hJ : qJ m m) (h : z_r9 m oC oM) (T : ∀ (o : Nat ⊕ (Int32 × mm_M)) (v : Int32) (mM : mm_M), oC = some o → oM = some (v, mM) → (∀ e9, o = .inl e9 → (e9 = 1 ∧ mM 12 0 3 = 1) ∨ (e9 = 0 ∧ mM 12 0 3 = 2)) → (∀ t, o = .inr t → mM 12 0 3 = 0 ∧ v = t.1) → q_To m a (q_c2 m o) mM) : ∃ mC mM, q_To m a mC mM ∧ qJ mC mM := by
  rcases h with ⟨hC, hM⟩ | ⟨hC, hM⟩ | ⟨x, ⟨o, hC, c, rfl, hf⟩, ⟨⟨v, mM⟩, hM, hv, hf2, h3⟩⟩
  · refine ⟨m, _, T _ _ _ hC hM (fun e9 h => ?_) (fun t h => by cases h), qJ_3 fp_31 hJ⟩
    cases h
    exact Or.inl ⟨rfl, mw_s⟩
  · refine ⟨m, _, T _ _ _ hC hM (fun e9 h => ?_) (fun t h => by cases h), qJ_3 fp_31 hJ⟩
    cases h
    exact Or.inr ⟨rfl, mw_s⟩
  · dsimp only at hv hf2 h3
    refine ⟨c, mM, T _ _ _ hC hM (fun e9 h => by cases h) (fun t h => ?_), qJ_9 hf hf2 hJ⟩
    cases h
    exact ⟨h3, hv⟩
theorem w3 {m : mm_M} {g i k : Nat} (h : ¬ (g = 12 ∧ i = 0 ∧ k = 3)) : mm_w m 12 0 3 0 g i k = m g i k := by
  rw [mw_get, if_neg h]
theorem c_colk {a : Int32} {m : mm_M} (h : 0 ≤ a.toInt ∧ a.toInt ≤ 7) : f_X11_needColour a m = some (.inr ()) := by rw [c_needColour, if_pos h]
theorem c_coln {a : Int32} {m : mm_M} (h : ¬ (0 ≤ a.toInt ∧ a.toInt ≤ 7)) : f_X11_needColour a m = some (.inl 1) := by rw [c_needColour, if_neg h]
theorem r_colk {a : Int32} {m : mm_M} (h : 0 ≤ a.toInt ∧ a.toInt ≤ 7) : f_X12_isColour a m = some 1 := by rw [r_isColour, if_pos h]
theorem r_coln {a : Int32} {m : mm_M} (h : ¬ (0 ≤ a.toInt ∧ a.toInt ≤ 7)) : f_X12_isColour a m = some 0 := by rw [r_isColour, if_neg h]
theorem i_m7 {t p : Nat} : (24 : Int32) * Int32.ofNat t + Int32.ofNat p = Int32.ofNat (24 * t + p) := by rw [n_24, nJ_a]
theorem r_fail1 {m : mm_M} : f_X12_fail 1 m = some (0, mm_w m 12 0 3 1) := rfl
theorem r_fail2 {m : mm_M} : f_X12_fail 2 m = some (0, mm_w m 12 0 3 2) := rfl
theorem o_5 : q_Sim qJ 5 := fun m a hJ hop => z_r9J hJ (by
  obtain ⟨hday, hfau, hdea, ⟨T, hT8, hT1, hT2, hth⟩, htap, ⟨lw, r, hr2, hr3, hr4, hlC, hlM, hdp⟩, _⟩ := hJ
  have hT2' : mm_w m 12 0 3 0 12 0 4 = Int32.ofNat T := (w3 (by decide)).trans hT2
  rcases z_arg (a 1) T (by omega) with ⟨t, ht, ha1⟩ | ha1
  · obtain ⟨N, K, A, B, H, Y, hB, hC, hM⟩ := hth t ht
    have h24 := hB.2.1
    have hM' : z_thM (mm_w m 12 0 3 0) t N K A B H Y := z_thM_fr (fun g i k hg => w3 (fun z => by rw [z.1] at hg; cases hg)) hM
    rw [ha1]
    rcases z_arg (a 2) N (by omega) with ⟨p, hp, ha2⟩ | ha2
    · rw [ha2]
      have hpk := r_iPk hT2' hT8 ht hM'.1 h24 hp
      by_cases h3 : 0 ≤ (a 3).toInt ∧ (a 3).toInt ≤ 7
      · by_cases h4 : 0 ≤ (a 4).toInt ∧ (a 4).toInt ≤ 99
        · refine Or.inr (Or.inr ⟨z_lv lw K A H (a 3) (a 4) p, ?_, ?_⟩)
          · unfold f_X11_loss
            refine v_bxe (c_sOk hT1 hT8 ht) ?_
            refine v_bxe (c_nPk hC.1 h24 hp) ?_
            refine v_bxe (c_colk h3) ?_
            refine v_ifn (by rw [iA_lt, i_0]; omega) ?_
            refine v_ifp (by rw [iA_le, i_99]; omega) ?_
            refine v_ifn (by rw [hr3]; exact n_m1 (by omega)) ?_
            refine v_lN ?_
            rw [hr3, nJ_N (by omega)]
            refine v_s2 (c_loss hlC hdp hB hC (nJ_T (by omega)) hp) ?_
            rintro x c ⟨hx, hf⟩
            dsimp only at hx hf
            rw [hx]
            exact v_so ⟨c, rfl, fp_sb (by decide) hf⟩
          · unfold f_X12_loss
            refine v_lM ?_
            refine v_b1e hpk ?_
            refine v_ifn (by decide) ?_
            refine v_b1e (r_colk h3) ?_
            refine v_ifp (by decide) ?_
            refine v_b1e (r_is1 (by rw [i_0, i_99]; exact h4)) ?_
            refine v_ifp (by decide) ?_
            rw [i_m7]
            refine v_s2 (r_loss (by omega) (fun k hk => z_cdM_fr (fun g i k hg => w3 (fun z => by rw [z.1] at hg; cases hg)) (hlM k hk)) hdp hB hM' (nJ_T (by omega)) hp) ?_
            rintro x c ⟨hx, hf⟩
            dsimp only at hx hf
            rw [hx]
            exact v_so ⟨rfl, fp_tr (fp_w rfl fp_rf) (fp_sb (by decide) hf), (hf 12 0 3 rfl).trans mw_s⟩
        · refine Or.inr (Or.inl ⟨v_is ?_, v_is ?_⟩)
          · unfold f_X11_loss
            refine v_bxe (c_sOk hT1 hT8 ht) ?_
            refine v_bxe (c_nPk hC.1 h24 hp) ?_
            refine v_bxe (c_colk h3) ?_
            by_cases h5 : (a 4).toInt < 0
            · refine v_ifp (by rw [iA_lt, i_0]; omega) ?_
              exact v_so rfl
            · refine v_ifn (by rw [iA_lt, i_0]; omega) ?_
              refine v_ifn (by rw [iA_le, i_99]; omega) ?_
              exact v_so rfl
          · unfold f_X12_loss
            refine v_lM ?_
            refine v_b1e hpk ?_
            refine v_ifn (by decide) ?_
            refine v_b1e (r_colk h3) ?_
            refine v_ifp (by decide) ?_
            refine v_b1e (r_is0 (by rw [i_0, i_99]; exact h4)) ?_
            refine v_ifn (by decide) ?_
            exact v_b2e r_fail2 (v_so rfl)
      · refine Or.inl ⟨v_is ?_, v_is ?_⟩
        · unfold f_X11_loss
          refine v_bxe (c_sOk hT1 hT8 ht) ?_
          refine v_bxe (c_nPk hC.1 h24 hp) ?_
          exact v_bxi (c_coln h3) rfl
        · unfold f_X12_loss
          refine v_lM ?_
          refine v_b1e hpk ?_
          refine v_ifn (by decide) ?_
          refine v_b1e (r_coln h3) ?_
          refine v_ifn (by decide) ?_
          exact v_b2e r_fail1 (v_so rfl)
    · refine Or.inl ⟨v_is ?_, v_is ?_⟩
      · unfold f_X11_loss
        refine v_bxe (c_sOk hT1 hT8 ht) ?_
        exact v_bxi (c_nPn hC.1 h24 ha2) rfl
      · unfold f_X12_loss
        refine v_lM ?_
        refine v_b1e (r_iPn hT2' hT8 ht hM'.1 h24 ha2) ?_
        refine v_ifp rfl ?_
        exact v_b2e r_fail1 (v_so rfl)
  · refine Or.inl ⟨v_is ?_, v_is ?_⟩
    · unfold f_X11_loss
      exact v_bxi (c_sOn hT1 hT8 ha1) rfl
    · unfold f_X12_loss
      refine v_lM ?_
      refine v_b1e (r_iPt hT2' hT8 ha1) ?_
      refine v_ifp rfl ?_
      exact v_b2e r_fail1 (v_so rfl)) (fun o v mM hC hM hX hR => t_op5 hop hC hM (thrown_eq _) hX hR)
