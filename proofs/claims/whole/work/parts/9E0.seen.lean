/-! seen, suspect -/
theorem o_17_0 {m : mm_M} {a : Nat → Int32} (hJ : qJ m m) (hop : a 0 &&& 63 = 17) {n t : Nat} (hn49 : n ≤ 49) (hn1 : m 6 0 3 = Int32.ofNat n) (hn2 : m 12 0 46 = 1) (hn3 : m 12 0 57 = Int32.ofNat n) (hnr : ∀ i, i < n → m 41 0 i = m 98 0 i ∧ m 42 0 i = m 99 0 i ∧ m 43 0 i = m 100 0 i) (ht8 : t < 8) (ht1 : m 7 0 0 = Int32.ofNat t) (ht2 : m 12 0 61 = Int32.ofNat t) (hb : mm_bz (a 1) = 0) : ∃ mC mM, q_To m a mC mM ∧ qJ mC mM := by
  obtain ⟨hday, hfault, hdead, hstr, htap, hlaw, hev, hrow, hinq, hfound, hlamps, hnet, htsk, hdl, halo, hshe⟩ := hJ
  have eC : vW (f_X11_seen (mm_bz (a 1)) m) (fun q => ∃ r, q = .inr (1, r) ∧ c_fr 1 m r ∧ r 6 1 3 = Int32.ofNat n ∧ ∀ k, k < n → r 41 1 k = m 41 0 k ∧ r 42 1 k = m 42 0 k ∧ r 43 1 k = m 43 0 k) := by
    rw [hb]
    unfold f_X11_seen
    refine v_bxe (a := ()) ?_ ?_
    · apply v_is
      unfold f_X11_needLook
      refine v_ifn (by rw [ht1]; exact n_m1 (by omega)) ?_
      exact v_lN (v_so rfl)
    · refine v_ifp (by rw [hn1]; exact n_m1 (by omega)) ?_
      refine v_b1e (a := 1) rfl ?_
      refine v_s1 (c_over (by decide) hn1 hn49) ?_
      exact fun r h => v_so ⟨r, rfl, h⟩
  have eM : vW (f_X12_seen (mm_bz (a 1)) m) (fun q => q.1 = 1 ∧ fp [(12, none, some 3), (105, none, some 0), (106, none, none), (107, none, none)] m q.2 ∧ q.2 12 0 3 = 0 ∧ q.2 105 0 0 = Int32.ofNat n ∧ ∀ k, (q.2 106 0 k = if 60 * 0 ≤ k ∧ k < 60 * 0 + n then m 98 0 (k - 60 * 0) else m 106 0 k) ∧ (q.2 107 0 k = if 60 * 0 ≤ k ∧ k < 60 * 0 + n then m 99 0 (k - 60 * 0) else m 107 0 k)) := by
    rw [hb]
    unfold f_X12_seen
    refine v_lM ?_
    refine v_ifp (by rw [w3 (by decide), ht2]; exact n_m1 (by omega)) ?_
    refine v_ifp (by rw [w3 (by decide), hn2]; decide) ?_
    refine v_lF ?_
    refine v_ifp (by decide) ?_
    refine v_ifp (show mm_in 0 2 by decide) ?_
    rw [show (0 : Int32).toNatClampNeg = 0 by decide]
    refine v_lM ?_
    have e57 : mm_w m 12 0 3 0 12 0 57 = Int32.ofNat n := (w3 (by decide)).trans hn3
    rw [e57]
    generalize hm1 : mm_w (mm_w m 12 0 3 0) 105 0 0 (Int32.ofNat n) = m1
    have f1 : fp [(12, none, some 3), (105, none, some 0)] m m1 := by rw [← hm1]; exact fp_w rfl (fp_w rfl fp_rf)
    have t1 : m1 12 0 3 = 0 := by rw [← hm1, mw_g (by decide), mw_s]
    have t2 : m1 105 0 0 = Int32.ofNat n := by rw [← hm1, mw_s]
    have t3 : m1 12 0 57 = Int32.ofNat n := (f1 12 0 57 rfl).trans hn3
    clear hm1 e57
    refine v_s1 (P := fun c => fp [(106, none, none), (107, none, none)] m1 c ∧ ∀ k, (c 106 0 k = if 60 * 0 ≤ k ∧ k < 60 * 0 + n then m 98 0 (k - 60 * 0) else m 106 0 k) ∧ (c 107 0 k = if 60 * 0 ≤ k ∧ k < 60 * 0 + n then m 99 0 (k - 60 * 0) else m 107 0 k)) ?_ ?_
    · refine v_for (fun j q => q.1.toInt = (j : Int) ∧ fp [(106, none, none), (107, none, none)] m1 q.2 ∧ ∀ k, (q.2 106 0 k = if 60 * 0 ≤ k ∧ k < 60 * 0 + j then m 98 0 (k - 60 * 0) else m 106 0 k) ∧ (q.2 107 0 k = if 60 * 0 ≤ k ∧ k < 60 * 0 + j then m 99 0 (k - 60 * 0) else m 107 0 k)) 0 n (Nat.zero_le _) (by omega) ⟨i_0, fp_rf, fun k => ⟨by rw [if_neg (by omega)]; exact f1 106 0 k rfl, by rw [if_neg (by omega)]; exact f1 107 0 k rfl⟩⟩ ?_ ?_
      · rintro j ⟨v, c⟩ hj ⟨hv, hf, hz⟩
        dsimp only at hv hf hz ⊢
        have e57 : c 12 0 57 = Int32.ofNat n := (hf 12 0 57 rfl).trans t3
        have hx : (60 * (0 : Int32) + v).toInt = ((60 * 0 + j : Nat) : Int) := iA_addN (show (60 * (0 : Int32)).toInt = ((60 * 0 : Nat) : Int) by decide) hv (by omega)
        refine v_ifn (by rw [e57, iA_le, nJ_T (by omega)]; omega) ?_
        refine v_ifp (v_in.mpr (by omega)) ?_
        refine v_ifp (v_in.mpr (by omega)) (v_lM ?_)
        refine v_ifp (v_in.mpr (by omega)) ?_
        refine v_ifp (v_in.mpr (by omega)) (v_lM ?_)
        rw [n_k hx, n_k hv]
        refine v_l1 (v_il ⟨n_s3 hv (by omega), fp_w rfl (fp_w rfl hf), fun k => ?_⟩)
        dsimp only
        obtain ⟨z1, z2⟩ := hz k
        rw [mw_g (show 106 ≠ 107 by decide), mw_g (show 99 ≠ 106 by decide)]
        by_cases e : k = 60 * 0 + j
        · rw [e, mw_s, mw_s, if_pos (by omega), if_pos (by omega), Nat.add_sub_cancel_left, hf 98 0 j rfl, hf 99 0 j rfl, f1 98 0 j rfl, f1 99 0 j rfl]
          exact ⟨rfl, rfl⟩
        · rw [mw_k e, mw_k e, mw_g (show 107 ≠ 106 by decide), z1, z2]
          by_cases e2 : 60 * 0 ≤ k ∧ k < 60 * 0 + j
          · rw [if_pos e2, if_pos (by omega), if_pos e2, if_pos (by omega)]
            exact ⟨rfl, rfl⟩
          · rw [if_neg e2, if_neg (by omega), if_neg e2, if_neg (by omega)]
            exact ⟨rfl, rfl⟩
      · rintro ⟨v, c⟩ ⟨hv, hf, hz⟩
        dsimp only at hv hf hz ⊢
        have e57 : c 12 0 57 = Int32.ofNat n := (hf 12 0 57 rfl).trans t3
        refine v_ifp (by rw [e57, iA_le, nJ_T (by omega)]; omega) ?_
        exact v_ir ⟨hf, hz⟩
    · rintro c ⟨hf, hz⟩
      exact v_so ⟨rfl, fp_tr (fp_sb (by decide) f1) (fp_sb (by decide) hf), (hf 12 0 3 rfl).trans t1, (hf 105 0 0 rfl).trans t2, hz⟩
  obtain ⟨q, hC1, mC, rfl, hfC, c1, c2⟩ := eC
  have hC := c_fr1 hfC
  obtain ⟨⟨v, mM⟩, hM1, hM2, hM, hM3, m1, m2⟩ := eM
  dsimp only at hM2 hM hM3 m1 m2
  subst hM2
  have hj : j_inq mC mM := by
    obtain ⟨b1, b2, b3, b4⟩ := hinq
    have told : z_told mC mM 0 := by
      refine Or.inr ⟨n, hn49, c1, m1, fun i hi => ?_⟩
      obtain ⟨y1, y2, _⟩ := c2 i hi
      obtain ⟨z1, z2⟩ := m2 (60 * 0 + i)
      obtain ⟨x1, x2, _⟩ := hnr i hi
      rw [if_pos (by omega), Nat.add_sub_cancel_left] at z1 z2
      exact ⟨y1.trans (x1.trans z1.symm), y2.trans (x2.trans z2.symm)⟩
    have other : z_told mC mM 1 := by
      rcases b4 with ⟨d1, d2⟩ | ⟨l, l1, l2, l3, l4⟩
      · exact Or.inl ⟨(hC 6 2 3 rfl).trans d1, (hM 105 0 1 rfl).trans d2⟩
      · refine Or.inr ⟨l, l1, (hC 6 2 3 rfl).trans l2, (hM 105 0 1 rfl).trans l3, fun i hi => ?_⟩
        obtain ⟨z1, z2⟩ := m2 (60 * 1 + i)
        obtain ⟨y1, y2⟩ := l4 i hi
        rw [if_neg (by omega)] at z1 z2
        exact ⟨(hC 41 2 i rfl).trans (y1.trans z1.symm), (hC 42 2 i rfl).trans (y2.trans z2.symm)⟩
    refine ⟨?_, ?_, told, other⟩
    · rw [hC 7 0 0 rfl, hM 12 0 61 rfl, hC 0 0 2 rfl]
      exact b1
    · rw [hC 7 0 3 rfl, hM 12 0 62 rfl]
      obtain ⟨l, l1, l2, l3, l4⟩ := b2
      refine ⟨l, l1, l2, l3, fun i hi => ?_⟩
      rw [hC 45 0 i rfl, hC 46 0 i rfl, hM 103 0 i rfl, hM 104 0 i rfl]
      exact l4 i hi
  refine ⟨_, _, t_op17 hop hC1 hM1 (thrown_eq _) (fun e9 h => by cases h) (fun t h => ?_), ⟨j_day_kp hC hM (by decide) (by decide) hday, j_fault_kp hC hM (by decide) (by decide) hfault, j_dead_kp hC hM (by decide) (by decide) hdead, j_str_kp hC hM (by decide) (by decide) hstr, j_tap_kp hC hM (by decide) (by decide) htap, j_law_kp hC hM (by decide) (by decide) hlaw, j_ev_kp hC hM (by decide) (by decide) hev, j_row_kp hC hM (by decide) (by decide) hrow, hj, j_found_kp hC hM (by decide) (by decide) hfound, j_lamps_kp hC hM (by decide) (by decide) hlamps, j_net_kp hC hM (by decide) (by decide) hnet, j_tsk_kp hC hM (by decide) (by decide) htsk, j_dl_kp hC hM (by decide) (by decide) hdl, j_alo_kp hC hM (by decide) (by decide) halo, j_she_kp hC hM (by decide) (by decide) hshe⟩⟩
  cases h
  exact ⟨hM3, rfl⟩
theorem o_17_1 {m : mm_M} {a : Nat → Int32} (hJ : qJ m m) (hop : a 0 &&& 63 = 17) {n t : Nat} (hn49 : n ≤ 49) (hn1 : m 6 0 3 = Int32.ofNat n) (hn2 : m 12 0 46 = 1) (hn3 : m 12 0 57 = Int32.ofNat n) (hnr : ∀ i, i < n → m 41 0 i = m 98 0 i ∧ m 42 0 i = m 99 0 i ∧ m 43 0 i = m 100 0 i) (ht8 : t < 8) (ht1 : m 7 0 0 = Int32.ofNat t) (ht2 : m 12 0 61 = Int32.ofNat t) (hb : mm_bz (a 1) = 1) : ∃ mC mM, q_To m a mC mM ∧ qJ mC mM := by
  obtain ⟨hday, hfault, hdead, hstr, htap, hlaw, hev, hrow, hinq, hfound, hlamps, hnet, htsk, hdl, halo, hshe⟩ := hJ
  have eC : vW (f_X11_seen (mm_bz (a 1)) m) (fun q => ∃ r, q = .inr (1, r) ∧ c_fr 2 m r ∧ r 6 2 3 = Int32.ofNat n ∧ ∀ k, k < n → r 41 2 k = m 41 0 k ∧ r 42 2 k = m 42 0 k ∧ r 43 2 k = m 43 0 k) := by
    rw [hb]
    unfold f_X11_seen
    refine v_bxe (a := ()) ?_ ?_
    · apply v_is
      unfold f_X11_needLook
      refine v_ifn (by rw [ht1]; exact n_m1 (by omega)) ?_
      exact v_lN (v_so rfl)
    · refine v_ifp (by rw [hn1]; exact n_m1 (by omega)) ?_
      refine v_b1e (a := 2) rfl ?_
      refine v_s1 (c_over (by decide) hn1 hn49) ?_
      exact fun r h => v_so ⟨r, rfl, h⟩
  have eM : vW (f_X12_seen (mm_bz (a 1)) m) (fun q => q.1 = 1 ∧ fp [(12, none, some 3), (105, none, some 1), (106, none, none), (107, none, none)] m q.2 ∧ q.2 12 0 3 = 0 ∧ q.2 105 0 1 = Int32.ofNat n ∧ ∀ k, (q.2 106 0 k = if 60 * 1 ≤ k ∧ k < 60 * 1 + n then m 98 0 (k - 60 * 1) else m 106 0 k) ∧ (q.2 107 0 k = if 60 * 1 ≤ k ∧ k < 60 * 1 + n then m 99 0 (k - 60 * 1) else m 107 0 k)) := by
    rw [hb]
    unfold f_X12_seen
    refine v_lM ?_
    refine v_ifp (by rw [w3 (by decide), ht2]; exact n_m1 (by omega)) ?_
    refine v_ifp (by rw [w3 (by decide), hn2]; decide) ?_
    refine v_lF ?_
    refine v_ifn (by decide) ?_
    refine v_ifp (show mm_in 1 2 by decide) ?_
    rw [show (1 : Int32).toNatClampNeg = 1 by decide]
    refine v_lM ?_
    have e57 : mm_w m 12 0 3 0 12 0 57 = Int32.ofNat n := (w3 (by decide)).trans hn3
    rw [e57]
    generalize hm1 : mm_w (mm_w m 12 0 3 0) 105 0 1 (Int32.ofNat n) = m1
    have f1 : fp [(12, none, some 3), (105, none, some 1)] m m1 := by rw [← hm1]; exact fp_w rfl (fp_w rfl fp_rf)
    have t1 : m1 12 0 3 = 0 := by rw [← hm1, mw_g (by decide), mw_s]
    have t2 : m1 105 0 1 = Int32.ofNat n := by rw [← hm1, mw_s]
    have t3 : m1 12 0 57 = Int32.ofNat n := (f1 12 0 57 rfl).trans hn3
    clear hm1 e57
    refine v_s1 (P := fun c => fp [(106, none, none), (107, none, none)] m1 c ∧ ∀ k, (c 106 0 k = if 60 * 1 ≤ k ∧ k < 60 * 1 + n then m 98 0 (k - 60 * 1) else m 106 0 k) ∧ (c 107 0 k = if 60 * 1 ≤ k ∧ k < 60 * 1 + n then m 99 0 (k - 60 * 1) else m 107 0 k)) ?_ ?_
    · refine v_for (fun j q => q.1.toInt = (j : Int) ∧ fp [(106, none, none), (107, none, none)] m1 q.2 ∧ ∀ k, (q.2 106 0 k = if 60 * 1 ≤ k ∧ k < 60 * 1 + j then m 98 0 (k - 60 * 1) else m 106 0 k) ∧ (q.2 107 0 k = if 60 * 1 ≤ k ∧ k < 60 * 1 + j then m 99 0 (k - 60 * 1) else m 107 0 k)) 0 n (Nat.zero_le _) (by omega) ⟨i_0, fp_rf, fun k => ⟨by rw [if_neg (by omega)]; exact f1 106 0 k rfl, by rw [if_neg (by omega)]; exact f1 107 0 k rfl⟩⟩ ?_ ?_
      · rintro j ⟨v, c⟩ hj ⟨hv, hf, hz⟩
        dsimp only at hv hf hz ⊢
        have e57 : c 12 0 57 = Int32.ofNat n := (hf 12 0 57 rfl).trans t3
        have hx : (60 * (1 : Int32) + v).toInt = ((60 * 1 + j : Nat) : Int) := iA_addN (show (60 * (1 : Int32)).toInt = ((60 * 1 : Nat) : Int) by decide) hv (by omega)
        refine v_ifn (by rw [e57, iA_le, nJ_T (by omega)]; omega) ?_
        refine v_ifp (v_in.mpr (by omega)) ?_
        refine v_ifp (v_in.mpr (by omega)) (v_lM ?_)
        refine v_ifp (v_in.mpr (by omega)) ?_
        refine v_ifp (v_in.mpr (by omega)) (v_lM ?_)
        rw [n_k hx, n_k hv]
        refine v_l1 (v_il ⟨n_s3 hv (by omega), fp_w rfl (fp_w rfl hf), fun k => ?_⟩)
        dsimp only
        obtain ⟨z1, z2⟩ := hz k
        rw [mw_g (show 106 ≠ 107 by decide), mw_g (show 99 ≠ 106 by decide)]
        by_cases e : k = 60 * 1 + j
        · rw [e, mw_s, mw_s, if_pos (by omega), if_pos (by omega), Nat.add_sub_cancel_left, hf 98 0 j rfl, hf 99 0 j rfl, f1 98 0 j rfl, f1 99 0 j rfl]
          exact ⟨rfl, rfl⟩
        · rw [mw_k e, mw_k e, mw_g (show 107 ≠ 106 by decide), z1, z2]
          by_cases e2 : 60 * 1 ≤ k ∧ k < 60 * 1 + j
          · rw [if_pos e2, if_pos (by omega), if_pos e2, if_pos (by omega)]
            exact ⟨rfl, rfl⟩
          · rw [if_neg e2, if_neg (by omega), if_neg e2, if_neg (by omega)]
            exact ⟨rfl, rfl⟩
      · rintro ⟨v, c⟩ ⟨hv, hf, hz⟩
        dsimp only at hv hf hz ⊢
        have e57 : c 12 0 57 = Int32.ofNat n := (hf 12 0 57 rfl).trans t3
        refine v_ifp (by rw [e57, iA_le, nJ_T (by omega)]; omega) ?_
        exact v_ir ⟨hf, hz⟩
    · rintro c ⟨hf, hz⟩
      exact v_so ⟨rfl, fp_tr (fp_sb (by decide) f1) (fp_sb (by decide) hf), (hf 12 0 3 rfl).trans t1, (hf 105 0 1 rfl).trans t2, hz⟩
  obtain ⟨q, hC1, mC, rfl, hfC, c1, c2⟩ := eC
  have hC := c_fr2 hfC
  obtain ⟨⟨v, mM⟩, hM1, hM2, hM, hM3, m1, m2⟩ := eM
  dsimp only at hM2 hM hM3 m1 m2
  subst hM2
  have hj : j_inq mC mM := by
    obtain ⟨b1, b2, b3, b4⟩ := hinq
    have told : z_told mC mM 1 := by
      refine Or.inr ⟨n, hn49, c1, m1, fun i hi => ?_⟩
      obtain ⟨y1, y2, _⟩ := c2 i hi
      obtain ⟨z1, z2⟩ := m2 (60 * 1 + i)
      obtain ⟨x1, x2, _⟩ := hnr i hi
      rw [if_pos (by omega), Nat.add_sub_cancel_left] at z1 z2
      exact ⟨y1.trans (x1.trans z1.symm), y2.trans (x2.trans z2.symm)⟩
    have other : z_told mC mM 0 := by
      rcases b3 with ⟨d1, d2⟩ | ⟨l, l1, l2, l3, l4⟩
      · exact Or.inl ⟨(hC 6 1 3 rfl).trans d1, (hM 105 0 0 rfl).trans d2⟩
      · refine Or.inr ⟨l, l1, (hC 6 1 3 rfl).trans l2, (hM 105 0 0 rfl).trans l3, fun i hi => ?_⟩
        obtain ⟨z1, z2⟩ := m2 (60 * 0 + i)
        obtain ⟨y1, y2⟩ := l4 i hi
        rw [if_neg (by omega)] at z1 z2
        exact ⟨(hC 41 1 i rfl).trans (y1.trans z1.symm), (hC 42 1 i rfl).trans (y2.trans z2.symm)⟩
    refine ⟨?_, ?_, other, told⟩
    · rw [hC 7 0 0 rfl, hM 12 0 61 rfl, hC 0 0 2 rfl]
      exact b1
    · rw [hC 7 0 3 rfl, hM 12 0 62 rfl]
      obtain ⟨l, l1, l2, l3, l4⟩ := b2
      refine ⟨l, l1, l2, l3, fun i hi => ?_⟩
      rw [hC 45 0 i rfl, hC 46 0 i rfl, hM 103 0 i rfl, hM 104 0 i rfl]
      exact l4 i hi
  refine ⟨_, _, t_op17 hop hC1 hM1 (thrown_eq _) (fun e9 h => by cases h) (fun t h => ?_), ⟨j_day_kp hC hM (by decide) (by decide) hday, j_fault_kp hC hM (by decide) (by decide) hfault, j_dead_kp hC hM (by decide) (by decide) hdead, j_str_kp hC hM (by decide) (by decide) hstr, j_tap_kp hC hM (by decide) (by decide) htap, j_law_kp hC hM (by decide) (by decide) hlaw, j_ev_kp hC hM (by decide) (by decide) hev, j_row_kp hC hM (by decide) (by decide) hrow, hj, j_found_kp hC hM (by decide) (by decide) hfound, j_lamps_kp hC hM (by decide) (by decide) hlamps, j_net_kp hC hM (by decide) (by decide) hnet, j_tsk_kp hC hM (by decide) (by decide) htsk, j_dl_kp hC hM (by decide) (by decide) hdl, j_alo_kp hC hM (by decide) (by decide) halo, j_she_kp hC hM (by decide) (by decide) hshe⟩⟩
  cases h
  exact ⟨hM3, rfl⟩
theorem o_17 : q_Sim qJ 17 := fun m a hJ hop => by
  have hJ0 := hJ
  obtain ⟨hday, hfault, hdead, hstr, htap, hlaw, hev, hrow, hinq, hfound, hlamps, hnet, htsk, hdl, halo, hshe⟩ := hJ
  rcases hinq.1 with ⟨h1, h2⟩ | ⟨t, ht8, _, ht1, ht2⟩
  · have eC : f_X11_seen (mm_bz (a 1)) m = some (.inl 1) := v_is (by
      unfold f_X11_seen
      refine v_bxi (e := 1) ?_ rfl
      apply v_is
      unfold f_X11_needLook
      exact v_ifp h1 (v_so rfl))
    have eM : f_X12_seen (mm_bz (a 1)) m = some (0, mm_w (mm_w m 12 0 3 0) 12 0 3 1) := v_is (by
      unfold f_X12_seen
      refine v_lM ?_
      refine v_ifn (fun z => z ((w3 (by decide)).trans h2)) ?_
      refine v_b2e (show f_X12_refuse 1 _ = some (0, _) from rfl) ?_
      exact v_ifp (Or.inl rfl) (v_so rfl))
    refine ⟨_, _, t_op17 hop eC eM (thrown_eq _) (fun e9 h => ?_) (fun t h => by cases h), qJ_3 fp_31 hJ0⟩
    cases h
    exact ⟨rfl, mw_s⟩
  · rcases hrow with ⟨h1, h2⟩ | ⟨n, hn49, hn1, hn2, hn3, hnr⟩
    · have eC : f_X11_seen (mm_bz (a 1)) m = some (.inr (0, m)) := v_is (by
        unfold f_X11_seen
        refine v_bxe (a := ()) ?_ ?_
        · apply v_is
          unfold f_X11_needLook
          refine v_ifn (by rw [ht1]; exact n_m1 (by omega)) ?_
          exact v_lN (v_so rfl)
        · exact v_ifn (fun z => z h1) (v_so rfl))
      have eM : f_X12_seen (mm_bz (a 1)) m = some (0, mm_w m 12 0 3 0) := v_is (by
        unfold f_X12_seen
        refine v_lM ?_
        refine v_ifp (by rw [w3 (by decide), ht2]; exact n_m1 (by omega)) ?_
        exact v_ifn (fun z => z ((w3 (by decide)).trans h2)) (v_so rfl))
      refine ⟨_, _, t_op17 hop eC eM (thrown_eq _) (fun e9 h => by cases h) (fun t h => ?_), qJ_3 fp_30 hJ0⟩
      cases h
      exact ⟨mw_s, rfl⟩
    · by_cases hb : a 1 = 0
      · exact o_17_0 hJ0 hop hn49 hn1 hn2 hn3 hnr ht8 ht1 ht2 (mm_bz0 hb)
      · exact o_17_1 hJ0 hop hn49 hn1 hn2 hn3 hnr ht8 ht1 ht2 (mm_bz1 hb)
