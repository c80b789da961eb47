/-! rowOf -/
theorem o_36 : q_Sim qJ 36 := fun m a hJ hop => by
  have hJ0 := hJ
  obtain ⟨hday, hfault, hdead, hstr, htap, hlaw, hev, hrow, hinq, hfound, hlamps, hnet, htsk, hdl, halo, hshe⟩ := hJ
  have hshe0 := hshe
  obtain ⟨S, hS8, hS1, hS2, hss, hsf⟩ := hshe
  have hshe := hshe0
  have h99 : mm_w m 12 0 3 0 12 0 99 = Int32.ofNat S := (w3 (by decide)).trans hS2
  have non : ∀ x, f_X11_rowOf (a 1) (a 2) (a 3) m = some (.inr (x, m)) → f_X12_rowOf (a 1) (a 2) (a 3) m = some (x, mm_w m 12 0 3 0) → ∃ mC mM, q_To m a mC mM ∧ qJ mC mM := fun x eC eM => ⟨_, _, t_op36 hop eC eM (thrown_eq _) (fun e9 h => by cases h) (fun t h => by cases h; exact ⟨mw_s, rfl⟩), qJ_3 fp_30 hJ0⟩
  rcases z_arg (a 1) S (by omega) with ⟨s, hs, ha1⟩ | ha1
  · have cs : f_X11_sheetOf (a 1) m = some (.inr s) := by rw [ha1]; exact c_sht hS1 hS8 hs
    have rs : f_X12_isSheet (a 1) (mm_w m 12 0 3 0) = some 1 := by rw [ha1]; exact r_sht h99 hS8 hs
    have ta1 : (a 1).toInt = (s : Int) := by rw [ha1, nJ_T (by omega)]
    clear ha1
    have k1 := n_k ta1
    have i1 : mm_in (a 1) 8 := v_in.mpr (by omega)
    by_cases h3 : 0 ≤ (a 3).toInt ∧ (a 3).toInt ≤ 8
    · have g1 : ¬ a 3 < 0 := by rw [iA_lt, i_0]; omega
      have g2 : a 3 ≤ 8 := by rw [iA_le, i_8]; omega
      have r3 : f_X12_isIn (a 3) 0 8 (mm_w m 12 0 3 0) = some 1 := r_is1 (by rw [i_0, i_8]; exact h3)
      obtain ⟨n, hn⟩ : ∃ n : Nat, (a 3).toInt = (n : Int) := ⟨(a 3).toInt.toNat, by omega⟩
      have hn3 : (a 3 * 3).toInt = ((3 * n : Nat) : Int) := by rw [iA_mulN hn (show (3 : Int32).toInt = ((3 : Nat) : Int) by decide) (by omega)]; omega
      have h3n : (3 * a 3).toInt = ((3 * n : Nat) : Int) := iA_mulN (show (3 : Int32).toInt = ((3 : Nat) : Int) by decide) hn (by omega)
      obtain ⟨⟨x, hx3, hx1, hx2⟩, ⟨hl, hl1, hl2⟩, hk⟩ := hss s hs
      have w1 : mm_w m 12 0 3 0 130 0 s = m 11 s 2 := (w3 (fun z => by cases z.1)).trans hl.symm
      rcases z_len hl1 hl2 with hL | ⟨L, hL24, hL⟩
      · refine non 1 (v_is ?_) (v_is ?_)
        · unfold f_X11_rowOf
          refine v_bxe cs ?_
          refine v_ifn g1 (v_ifp g2 ?_)
          exact v_ifn (fun z => z hL) (v_so rfl)
        · unfold f_X12_rowOf
          refine v_lM ?_
          refine v_b1e rs (v_ifp (by decide) ?_)
          refine v_b1e r3 (v_ifp (by decide) ?_)
          refine v_ifp i1 ?_
          exact v_ifn (by rw [k1, w1, hL]; decide) (v_so rfl)
      · have nL : ¬ m 11 s 2 = -1 := by rw [hL]; exact n_m1 (by omega)
        have v1 : 0 ≤ mm_w m 12 0 3 0 130 0 (a 1).toNatClampNeg := by rw [k1, w1, hL, iA_le, i_0, nJ_T (by omega)]; omega
        by_cases gp : 0 ≤ (a 2).toInt ∧ (a 2).toInt + (3 * n : Nat) ≤ (L : Int)
        · have cp : f_X7_hasPart s (a 2) (a 3 * 3) m = some 1 := by rw [c_hp hL hL24, if_pos (by omega)]
          have rp : f_X12_hasPart (a 1) (a 2) (3 * a 3) (mm_w m 12 0 3 0) = some 1 := by rw [r_hp ta1 (by omega) (w1.trans hL) hL24, if_pos (by omega)]
          obtain ⟨p, hp⟩ : ∃ p : Nat, (a 2).toInt = (p : Int) := ⟨(a 2).toInt.toNat, by omega⟩
          have hix : (24 * a 1 + a 2).toInt = ((24 * s + p : Nat) : Int) := z_ixg ta1 hp (by omega) (by omega)
          have w131 : ∀ k, k < 24 → mm_w m 12 0 3 0 131 0 (24 * s + k) = m 63 s k := fun k hk2 => (w3 (fun z => by cases z.1)).trans (hk k hk2).symm
          by_cases hg : ∀ j, j < n → z_gd (fun k => m 63 s (p + k)) j
          · have eC : vW (f_X11_rowOf (a 1) (a 2) (a 3) m) (fun q => ∃ r, q = .inr (0, r) ∧ c_fr 0 m r ∧ r 6 0 3 = Int32.ofNat n ∧ ∀ k, k < n → r 41 0 k = m 63 s (p + 3 * k) ∧ r 42 0 k = m 63 s (p + 3 * k + 1) ∧ r 43 0 k = m 63 s (p + 3 * k + 2)) := by
              unfold f_X11_rowOf
              refine v_bxe cs ?_
              refine v_ifn g1 (v_ifp g2 ?_)
              refine v_ifp nL ?_
              refine v_b1e cp (v_ifp (by decide) ?_)
              refine v_s1 (c_tells hp hn (by omega)) ?_
              rintro r (⟨rfl, _⟩ | ⟨_, j, hj, hb⟩)
              · refine v_ifp (by decide) ?_
                refine v_s1 (c_read hp hn (by omega)) ?_
                exact fun r h => v_so ⟨r, rfl, h⟩
              · exact absurd (hg j hj) hb
            have eM : vW (f_X12_rowOf (a 1) (a 2) (a 3) m) (fun q => q.1 = 0 ∧ fp [(12, none, some 3), (12, none, some 46), (12, none, some 57), (98, none, none), (99, none, none), (100, none, none)] m q.2 ∧ q.2 12 0 3 = 0 ∧ q.2 12 0 46 = 1 ∧ q.2 12 0 57 = Int32.ofNat n ∧ ∀ k, k < n → q.2 98 0 k = m 63 s (p + 3 * k) ∧ q.2 99 0 k = m 63 s (p + 3 * k + 1) ∧ q.2 100 0 k = m 63 s (p + 3 * k + 2)) := by
              unfold f_X12_rowOf
              refine v_lM ?_
              refine v_b1e rs (v_ifp (by decide) ?_)
              refine v_b1e r3 (v_ifp (by decide) ?_)
              refine v_ifp i1 ?_
              refine v_ifp v1 ?_
              refine v_b1e rp (v_ifp (by decide) ?_)
              generalize 24 * a 1 + a 2 = b1 at hix ⊢
              generalize hm1 : mm_w m 12 0 3 0 = m1 at w131 ⊢
              have f1 : fp [(12, none, some 3)] m m1 := by rw [← hm1]; exact fp_30
              have t1 : m1 12 0 3 = 0 := by rw [← hm1, mw_s]
              clear v1 rp rs r3 w1 h99 hm1 non cs cp
              refine v_s1 (P := fun t => t = .inr ()) ?_ ?_
              · refine v_for (fun j v => v.toInt = (j : Int)) 0 n (Nat.zero_le _) (by omega) i_0 ?_ ?_
                · rintro j v hj hv
                  have hv3 : (3 * v).toInt = ((3 * j : Nat) : Int) := iA_mulN (show (3 : Int32).toInt = ((3 : Nat) : Int) by decide) hv (by omega)
                  have hx0 : (b1 + 3 * v).toInt = ((24 * s + p + 3 * j : Nat) : Int) := iA_addN hix hv3 (by omega)
                  refine v_ifn (by rw [iA_le]; omega) ?_
                  refine v_lI (fun x hx => ?_)
                  rw [← hx] at hx0
                  clear hx
                  have hx1 : (x + 1).toInt = ((24 * s + p + 3 * j + 1 : Nat) : Int) := iA_addN hx0 (show (1 : Int32).toInt = ((1 : Nat) : Int) by decide) (by omega)
                  have hx2 : (x + 2).toInt = ((24 * s + p + 3 * j + 2 : Nat) : Int) := iA_addN hx0 (show (2 : Int32).toInt = ((2 : Nat) : Int) by decide) (by omega)
                  obtain ⟨g5, g6, g7, g8, g9⟩ := hg j hj
                  have e0 : m1 131 0 x.toNatClampNeg = m 63 s (p + 3 * j) := by rw [n_k hx0, show 24 * s + p + 3 * j = 24 * s + (p + 3 * j) by omega]; exact w131 _ (by omega)
                  have e1 : m1 131 0 (x + 1).toNatClampNeg = m 63 s (p + (3 * j + 1)) := by rw [n_k hx1, show 24 * s + p + 3 * j + 1 = 24 * s + (p + (3 * j + 1)) by omega]; exact w131 _ (by omega)
                  have e2 : m1 131 0 (x + 2).toNatClampNeg = m 63 s (p + (3 * j + 2)) := by rw [n_k hx2, show 24 * s + p + 3 * j + 2 = 24 * s + (p + (3 * j + 2)) by omega]; exact w131 _ (by omega)
                  refine v_ifp (v_in.mpr (by omega)) ?_
                  refine v_ifn (by rw [e0, iA_lt, i_0]; exact Int.not_lt.mpr g5) ?_
                  refine v_ifp (v_in.mpr (by omega)) ?_
                  refine v_ifn (by rw [e1, iA_lt, i_0]; exact Int.not_lt.mpr g6) ?_
                  refine v_ifp (v_in.mpr (by omega)) ?_
                  refine v_ifn (by rw [e2, iA_lt, i_0]; exact Int.not_lt.mpr g7) ?_
                  refine v_ifp (v_in.mpr (by omega)) ?_
                  refine v_ifn (by rw [e2, iA_lt, show (4 : Int32).toInt = 4 by decide]; exact Int.not_lt.mpr g8) ?_
                  by_cases hj0 : 0 < j
                  · refine v_ifn (by rw [iA_le, i_0]; omega) ?_
                    have hx3 : (x - 3).toInt = ((24 * s + p + 3 * (j - 1) : Nat) : Int) := by
                      rw [iA_sub (by rw [hx0, show (3 : Int32).toInt = 3 by decide]; omega) (by rw [hx0, show (3 : Int32).toInt = 3 by decide]; omega), hx0, show (3 : Int32).toInt = 3 by decide]
                      omega
                    have e3 : m1 131 0 (x - 3).toNatClampNeg = m 63 s (p + 3 * (j - 1)) := by rw [n_k hx3, show 24 * s + p + 3 * (j - 1) = 24 * s + (p + 3 * (j - 1)) by omega]; exact w131 _ (by omega)
                    refine v_ifp (v_in.mpr (by omega)) ?_
                    refine v_ifp (v_in.mpr (by omega)) ?_
                    refine v_ifp (by rw [e0, e3, iA_le]; exact g9 hj0) ?_
                    exact v_l1 (v_il (n_s3 hv (by omega)))
                  · refine v_ifp (by rw [iA_le, i_0]; omega) ?_
                    exact v_l1 (v_il (n_s3 hv (by omega)))
                · rintro v hv
                  exact v_ifp (by rw [iA_le]; omega) (v_ir rfl)
              · rintro t rfl
                refine v_lM (v_lM ?_)
                generalize hm2 : mm_w (mm_w m1 12 0 46 1) 12 0 57 (a 3) = m2
                have f2 : fp [(12, none, some 3), (12, none, some 46), (12, none, some 57)] m m2 := by rw [← hm2]; exact fp_w rfl (fp_w rfl (fp_sb (by decide) f1))
                have t2 : m2 12 0 3 = 0 := by rw [← hm2, mw_k (by decide), mw_k (by decide)]; exact t1
                have t3 : m2 12 0 46 = 1 := by rw [← hm2, mw_k (by decide), mw_s]
                have t4 : m2 12 0 57 = Int32.ofNat n := by rw [← hm2, mw_s, iA_eq, hn, nJ_T (by omega)]
                have w131' : ∀ k, k < 24 → m2 131 0 (24 * s + k) = m 63 s k := fun k hk2 => by rw [← hm2, mw_g (by decide), mw_g (by decide)]; exact w131 k hk2
                clear hm2 w131
                refine v_s1 (P := fun c => fp [(98, none, none), (99, none, none), (100, none, none)] m2 c ∧ ∀ k, k < n → c 98 0 k = m 63 s (p + 3 * k) ∧ c 99 0 k = m 63 s (p + 3 * k + 1) ∧ c 100 0 k = m 63 s (p + 3 * k + 2)) ?_ ?_
                · refine v_for (fun j q => q.1.toInt = (j : Int) ∧ fp [(98, none, none), (99, none, none), (100, none, none)] m2 q.2 ∧ ∀ k, k < j → q.2 98 0 k = m 63 s (p + 3 * k) ∧ q.2 99 0 k = m 63 s (p + 3 * k + 1) ∧ q.2 100 0 k = m 63 s (p + 3 * k + 2)) 0 n (Nat.zero_le _) (by omega) ⟨i_0, fp_rf, fun k hk => absurd hk (Nat.not_lt_zero k)⟩ ?_ ?_
                  · rintro j ⟨v, c⟩ hj ⟨hv, hf, hz⟩
                    dsimp only at hv hf hz ⊢
                    have hv3 : (3 * v).toInt = ((3 * j : Nat) : Int) := iA_mulN (show (3 : Int32).toInt = ((3 : Nat) : Int) by decide) hv (by omega)
                    have hx0 : (b1 + 3 * v).toInt = ((24 * s + p + 3 * j : Nat) : Int) := iA_addN hix hv3 (by omega)
                    refine v_ifn (by rw [iA_le]; omega) ?_
                    refine v_lI (fun x hx => ?_)
                    rw [← hx] at hx0
                    clear hx
                    have hx1 : (x + 1).toInt = ((24 * s + p + 3 * j + 1 : Nat) : Int) := iA_addN hx0 (show (1 : Int32).toInt = ((1 : Nat) : Int) by decide) (by omega)
                    have hx2 : (x + 2).toInt = ((24 * s + p + 3 * j + 2 : Nat) : Int) := iA_addN hx0 (show (2 : Int32).toInt = ((2 : Nat) : Int) by decide) (by omega)
                    refine v_ifp (v_in.mpr (by omega)) ?_
                    refine v_ifp (v_in.mpr (by omega)) (v_lM ?_)
                    refine v_ifp (v_in.mpr (by omega)) ?_
                    refine v_ifp (v_in.mpr (by omega)) (v_lM ?_)
                    refine v_ifp (v_in.mpr (by omega)) ?_
                    refine v_ifp (v_in.mpr (by omega)) (v_lM ?_)
                    rw [n_k hx0, n_k hx1, n_k hx2, n_k hv]
                    have e0 : c 131 0 (24 * s + p + 3 * j) = m 63 s (p + 3 * j) := by rw [hf 131 0 _ rfl, show 24 * s + p + 3 * j = 24 * s + (p + 3 * j) by omega]; exact w131' _ (by omega)
                    have e1 : c 131 0 (24 * s + p + 3 * j + 1) = m 63 s (p + 3 * j + 1) := by rw [hf 131 0 _ rfl, show 24 * s + p + 3 * j + 1 = 24 * s + (p + 3 * j + 1) by omega]; exact w131' _ (by omega)
                    have e2 : c 131 0 (24 * s + p + 3 * j + 2) = m 63 s (p + 3 * j + 2) := by rw [hf 131 0 _ rfl, show 24 * s + p + 3 * j + 2 = 24 * s + (p + 3 * j + 2) by omega]; exact w131' _ (by omega)
                    refine v_l1 (v_il ⟨n_s3 hv (by omega), fp_w rfl (fp_w rfl (fp_w rfl hf)), fun k hk2 => ?_⟩)
                    dsimp only
                    rw [mw_g (show 98 ≠ 100 by decide), mw_g (show 98 ≠ 99 by decide), mw_g (show 99 ≠ 100 by decide), mw_g (show 131 ≠ 99 by decide), mw_g (show 131 ≠ 98 by decide), mw_g (show 131 ≠ 98 by decide), e0, e1, e2]
                    by_cases e : k = j
                    · rw [e, mw_s, mw_s, mw_s]
                      exact ⟨rfl, rfl, rfl⟩
                    · rw [mw_k e, mw_k e, mw_k e, mw_g (show 99 ≠ 98 by decide), mw_g (show 100 ≠ 99 by decide), mw_g (show 100 ≠ 98 by decide)]
                      exact hz k (by omega)
                  · rintro ⟨v, c⟩ ⟨hv, hf, hz⟩
                    dsimp only at hv hf hz ⊢
                    refine v_ifp (by rw [iA_le]; omega) ?_
                    exact v_ir ⟨hf, hz⟩
                · rintro c ⟨hf, hz⟩
                  exact v_so ⟨rfl, fp_tr (fp_sb (by decide) f2) (fp_sb (by decide) hf), (hf 12 0 3 rfl).trans t2, (hf 12 0 46 rfl).trans t3, (hf 12 0 57 rfl).trans t4, hz⟩
            obtain ⟨q, hC1, mC, rfl, hfC, c1, c2⟩ := eC
            have hC := c_fr0 hfC
            obtain ⟨⟨v, mM⟩, hM1, hM2, hM, hM3, m1, m2, m3⟩ := eM
            dsimp only at hM2 hM hM3 m1 m2 m3
            subst hM2
            have hj : j_row mC mM := by
              refine Or.inr ⟨n, by omega, c1, m1, m2, fun i hi => ?_⟩
              obtain ⟨y1, y2, y3⟩ := c2 i hi
              obtain ⟨z1, z2, z3⟩ := m3 i hi
              exact ⟨y1.trans z1.symm, y2.trans z2.symm, y3.trans z3.symm⟩
            refine ⟨_, _, t_op36 hop hC1 hM1 (thrown_eq _) (fun e9 h => by cases h) (fun t h => ?_), ⟨j_day_kp hC hM (by decide) (by decide) hday, j_fault_kp hC hM (by decide) (by decide) hfault, j_dead_kp hC hM (by decide) (by decide) hdead, j_str_kp hC hM (by decide) (by decide) hstr, j_tap_kp hC hM (by decide) (by decide) htap, j_law_kp hC hM (by decide) (by decide) hlaw, j_ev_kp hC hM (by decide) (by decide) hev, hj, j_inq_kp hC hM (by decide) (by decide) hinq, j_found_kp hC hM (by decide) (by decide) hfound, j_lamps_kp hC hM (by decide) (by decide) hlamps, j_net_kp hC hM (by decide) (by decide) hnet, j_tsk_kp hC hM (by decide) (by decide) htsk, j_dl_kp hC hM (by decide) (by decide) hdl, j_alo_kp hC hM (by decide) (by decide) halo, j_she_kp hC hM (by decide) (by decide) hshe⟩⟩
            cases h
            exact ⟨hM3, rfl⟩
          · have hg' : ∃ j, j < n ∧ ¬ z_gd (fun k => m 63 s (p + k)) j := by
              apply Classical.byContradiction
              intro h
              exact hg (fun j hj => Classical.byContradiction (fun h2 => h ⟨j, hj, h2⟩))
            refine non 4 (v_is ?_) (v_is ?_)
            · unfold f_X11_rowOf
              refine v_bxe cs ?_
              refine v_ifn g1 (v_ifp g2 ?_)
              refine v_ifp nL ?_
              refine v_b1e cp (v_ifp (by decide) ?_)
              refine v_s1 (c_tells hp hn (by omega)) ?_
              rintro r (⟨rfl, h⟩ | ⟨rfl, _⟩)
              · exact absurd h hg
              · exact v_ifn (by decide) (v_so rfl)
            · unfold f_X12_rowOf
              refine v_lM ?_
              refine v_b1e rs (v_ifp (by decide) ?_)
              refine v_b1e r3 (v_ifp (by decide) ?_)
              refine v_ifp i1 ?_
              refine v_ifp v1 ?_
              refine v_b1e rp (v_ifp (by decide) ?_)
              generalize 24 * a 1 + a 2 = b1 at hix ⊢
              generalize hm1 : mm_w m 12 0 3 0 = m1 at w131 ⊢
              clear v1 rp rs r3 w1 h99 hm1 non cs cp
              refine v_s1 (P := fun t => t = .inl ()) ?_ ?_
              · refine v_for (fun j v => v.toInt = (j : Int) ∧ ∀ k, k < j → z_gd (fun k => m 63 s (p + k)) k) 0 n (Nat.zero_le _) (by omega) ⟨i_0, fun k hk => absurd hk (Nat.not_lt_zero k)⟩ ?_ ?_
                · rintro j v hj ⟨hv, hz⟩
                  have hv3 : (3 * v).toInt = ((3 * j : Nat) : Int) := iA_mulN (show (3 : Int32).toInt = ((3 : Nat) : Int) by decide) hv (by omega)
                  have hx0 : (b1 + 3 * v).toInt = ((24 * s + p + 3 * j : Nat) : Int) := iA_addN hix hv3 (by omega)
                  refine v_ifn (by rw [iA_le]; omega) ?_
                  refine v_lI (fun x hx => ?_)
                  rw [← hx] at hx0
                  clear hx
                  have hx1 : (x + 1).toInt = ((24 * s + p + 3 * j + 1 : Nat) : Int) := iA_addN hx0 (show (1 : Int32).toInt = ((1 : Nat) : Int) by decide) (by omega)
                  have hx2 : (x + 2).toInt = ((24 * s + p + 3 * j + 2 : Nat) : Int) := iA_addN hx0 (show (2 : Int32).toInt = ((2 : Nat) : Int) by decide) (by omega)
                  have e0 : m1 131 0 x.toNatClampNeg = m 63 s (p + 3 * j) := by rw [n_k hx0, show 24 * s + p + 3 * j = 24 * s + (p + 3 * j) by omega]; exact w131 _ (by omega)
                  have e1 : m1 131 0 (x + 1).toNatClampNeg = m 63 s (p + (3 * j + 1)) := by rw [n_k hx1, show 24 * s + p + 3 * j + 1 = 24 * s + (p + (3 * j + 1)) by omega]; exact w131 _ (by omega)
                  have e2 : m1 131 0 (x + 2).toNatClampNeg = m 63 s (p + (3 * j + 2)) := by rw [n_k hx2, show 24 * s + p + 3 * j + 2 = 24 * s + (p + (3 * j + 2)) by omega]; exact w131 _ (by omega)
                  refine v_ifp (v_in.mpr (by omega)) ?_
                  by_cases g5 : (m 63 s (p + 3 * j)).toInt < 0
                  · exact v_ifp (by rw [e0, iA_lt, i_0]; exact g5) (v_ir rfl)
                  refine v_ifn (by rw [e0, iA_lt, i_0]; exact g5) ?_
                  refine v_ifp (v_in.mpr (by omega)) ?_
                  by_cases g6 : (m 63 s (p + (3 * j + 1))).toInt < 0
                  · exact v_ifp (by rw [e1, iA_lt, i_0]; exact g6) (v_ir rfl)
                  refine v_ifn (by rw [e1, iA_lt, i_0]; exact g6) ?_
                  refine v_ifp (v_in.mpr (by omega)) ?_
                  by_cases g7 : (m 63 s (p + (3 * j + 2))).toInt < 0
                  · exact v_ifp (by rw [e2, iA_lt, i_0]; exact g7) (v_ir rfl)
                  refine v_ifn (by rw [e2, iA_lt, i_0]; exact g7) ?_
                  refine v_ifp (v_in.mpr (by omega)) ?_
                  by_cases g8 : 4 < (m 63 s (p + (3 * j + 2))).toInt
                  · exact v_ifp (by rw [e2, iA_lt, show (4 : Int32).toInt = 4 by decide]; exact g8) (v_ir rfl)
                  refine v_ifn (by rw [e2, iA_lt, show (4 : Int32).toInt = 4 by decide]; exact g8) ?_
                  have gg : (0 < j → (m 63 s (p + 3 * (j - 1))).toInt ≤ (m 63 s (p + 3 * j)).toInt) → ∀ k, k < j + 1 → z_gd (fun k => m 63 s (p + k)) k := fun g9 k hk2 => by
                    by_cases e : k = j
                    · rw [e]
                      exact ⟨Int.not_lt.mp g5, Int.not_lt.mp g6, Int.not_lt.mp g7, Int.not_lt.mp g8, g9⟩
                    · exact hz k (by omega)
                  by_cases hj0 : 0 < j
                  · refine v_ifn (by rw [iA_le, i_0]; omega) ?_
                    have hx3 : (x - 3).toInt = ((24 * s + p + 3 * (j - 1) : Nat) : Int) := by
                      rw [iA_sub (by rw [hx0, show (3 : Int32).toInt = 3 by decide]; omega) (by rw [hx0, show (3 : Int32).toInt = 3 by decide]; omega), hx0, show (3 : Int32).toInt = 3 by decide]
                      omega
                    have e3 : m1 131 0 (x - 3).toNatClampNeg = m 63 s (p + 3 * (j - 1)) := by rw [n_k hx3, show 24 * s + p + 3 * (j - 1) = 24 * s + (p + 3 * (j - 1)) by omega]; exact w131 _ (by omega)
                    refine v_ifp (v_in.mpr (by omega)) ?_
                    refine v_ifp (v_in.mpr (by omega)) ?_
                    by_cases g9 : (m 63 s (p + 3 * (j - 1))).toInt ≤ (m 63 s (p + 3 * j)).toInt
                    · refine v_ifp (by rw [e0, e3, iA_le]; exact g9) ?_
                      exact v_l1 (v_il ⟨n_s3 hv (by omega), gg (fun _ => g9)⟩)
                    · exact v_ifn (by rw [e0, e3, iA_le]; exact g9) (v_ir rfl)
                  · refine v_ifp (by rw [iA_le, i_0]; omega) ?_
                    exact v_l1 (v_il ⟨n_s3 hv (by omega), gg (fun h => absurd h hj0)⟩)
                · rintro v ⟨hv, hz⟩
                  exact absurd hz hg
              · rintro t rfl
                exact v_so rfl
        · have cp : f_X7_hasPart s (a 2) (a 3 * 3) m = some 0 := by rw [c_hp hL hL24, if_neg (by omega)]
          have rp : f_X12_hasPart (a 1) (a 2) (3 * a 3) (mm_w m 12 0 3 0) = some 0 := by rw [r_hp ta1 (by omega) (w1.trans hL) hL24, if_neg (by omega)]
          refine non 3 (v_is ?_) (v_is ?_)
          · unfold f_X11_rowOf
            refine v_bxe cs ?_
            refine v_ifn g1 (v_ifp g2 ?_)
            refine v_ifp nL ?_
            exact v_b1e cp (v_ifn (by decide) (v_so rfl))
          · unfold f_X12_rowOf
            refine v_lM ?_
            refine v_b1e rs (v_ifp (by decide) ?_)
            refine v_b1e r3 (v_ifp (by decide) ?_)
            refine v_ifp i1 ?_
            refine v_ifp v1 ?_
            exact v_b1e rp (v_ifn (by decide) (v_so rfl))
    · have eC : f_X11_rowOf (a 1) (a 2) (a 3) m = some (.inl 0) := v_is (by
        unfold f_X11_rowOf
        refine v_bxe cs ?_
        by_cases h0 : (a 3).toInt < 0
        · exact v_ifp (by rw [iA_lt, i_0]; exact h0) (v_so rfl)
        · exact v_ifn (by rw [iA_lt, i_0]; exact h0) (v_ifn (by rw [iA_le, i_8]; omega) (v_so rfl)))
      have eM : f_X12_rowOf (a 1) (a 2) (a 3) m = some (0, mm_w (mm_w m 12 0 3 0) 12 0 3 2) := v_is (by
        unfold f_X12_rowOf
        refine v_lM ?_
        refine v_b1e rs (v_ifp (by decide) ?_)
        refine v_b1e (r_is0 (by rw [i_0, i_8]; exact h3)) (v_ifn (by decide) ?_)
        exact v_b2e r_fail2 (v_so rfl))
      refine ⟨_, _, t_op36 hop eC eM (thrown_eq _) (fun e9 h => ?_) (fun t h => by cases h), qJ_3 fp_31 hJ0⟩
      cases h
      exact Or.inr ⟨rfl, mw_s⟩
  · have eC : f_X11_rowOf (a 1) (a 2) (a 3) m = some (.inl 1) := v_is (by
      unfold f_X11_rowOf
      exact v_bxi (c_shn hS1 hS8 ha1) rfl)
    have eM : f_X12_rowOf (a 1) (a 2) (a 3) m = some (0, mm_w (mm_w m 12 0 3 0) 12 0 3 1) := v_is (by
      unfold f_X12_rowOf
      refine v_lM ?_
      refine v_b1e (r_shn h99 hS8 ha1) (v_ifn (by decide) ?_)
      exact v_b2e r_fail1 (v_so rfl))
    refine ⟨_, _, t_op36 hop eC eM (thrown_eq _) (fun e9 h => ?_) (fun t h => by cases h), qJ_3 fp_31 hJ0⟩
    cases h
    exact Or.inl ⟨rfl, mw_s⟩
