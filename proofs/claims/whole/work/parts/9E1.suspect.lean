/-! suspect -/
theorem z_look {m : mm_M} {t : Nat} (ht8 : t < 8) (ht1 : m 7 0 0 = Int32.ofNat t) : f_X11_needLook m = some (.inr ()) := v_is (by
  unfold f_X11_needLook
  refine v_ifn (by rw [ht1]; exact n_m1 (by omega)) ?_
  exact v_lN (v_so rfl))
theorem c_isSus {m : mm_M} {s : Nat} {x : Int32} (hs : m 7 0 3 = Int32.ofNat s) (h8 : s ≤ 8) : vW (f_X1_isSuspect x m) (fun r => (r = 0 ∧ ∀ i, i < s → ¬ m 45 0 i = x) ∨ (r = 1 ∧ ∃ i, i < s ∧ m 45 0 i = x)) := by
  unfold f_X1_isSuspect
  refine v_s1 (P := fun t => (t = .inr () ∧ ∀ i, i < s → ¬ m 45 0 i = x) ∨ (t = .inl () ∧ ∃ i, i < s ∧ m 45 0 i = x)) ?_ ?_
  · refine v_for (fun j v => v.toInt = (j : Int) ∧ ∀ i, i < j → ¬ m 45 0 i = x) 0 s (Nat.zero_le _) (by omega) ⟨i_0, fun k hk => absurd hk (Nat.not_lt_zero k)⟩ ?_ ?_
    · rintro j v hj ⟨hv, hz⟩
      refine v_ifn (by rw [hs, iA_le, nJ_T (by omega)]; omega) ?_
      refine v_ifp (v_in.mpr (by omega)) ?_
      by_cases e : m 45 0 j = x
      · exact v_ifn (by rw [n_k hv]; exact fun z => z e) (v_ir (Or.inr ⟨rfl, j, hj, e⟩))
      · refine v_ifp (by rw [n_k hv]; exact e) ?_
        refine v_l1 (v_il ⟨n_s3 hv (by omega), fun i hi => ?_⟩)
        by_cases e2 : i = j
        · rw [e2]
          exact e
        · exact hz i (by omega)
    · rintro v ⟨hv, hz⟩
      exact v_ifp (by rw [hs, iA_le, nJ_T (by omega)]; omega) (v_ir (Or.inl ⟨rfl, hz⟩))
  · rintro t (⟨rfl, h⟩ | ⟨rfl, h⟩)
    · exact v_so (Or.inl ⟨rfl, h⟩)
    · exact v_so (Or.inr ⟨rfl, h⟩)
theorem o_16 : q_Sim qJ 16 := fun m a hJ hop => by
  have hJ0 := hJ
  obtain ⟨hday, hfault, hdead, hstr, htap, hlaw, hev, hrow, hinq, hfound, hlamps, hnet, htsk, hdl, halo, hshe⟩ := hJ
  have hinq0 := hinq
  obtain ⟨hlk, ⟨s, hs8, hs1, hs2, hsr⟩, htl0, htl1⟩ := hinq
  have e62 : mm_w m 12 0 3 0 12 0 62 = Int32.ofNat s := (w3 (by decide)).trans hs2
  have bad : f_X11_suspect (a 1) (a 2) m = some (.inl 1) → f_X12_suspect (a 1) (a 2) m = some (0, mm_w (mm_w m 12 0 3 0) 12 0 3 1) → ∃ mC mM, q_To m a mC mM ∧ qJ mC mM := fun eC eM => ⟨_, _, t_op16 hop eC eM (thrown_eq _) (fun e9 h => by cases h; exact ⟨rfl, mw_s⟩) (fun t h => by cases h), qJ_3 fp_31 hJ0⟩
  have non : f_X11_suspect (a 1) (a 2) m = some (.inr (-1, m)) → f_X12_suspect (a 1) (a 2) m = some (-1, mm_w m 12 0 3 0) → ∃ mC mM, q_To m a mC mM ∧ qJ mC mM := fun eC eM => ⟨_, _, t_op16 hop eC eM (thrown_eq _) (fun e9 h => by cases h) (fun t h => by cases h; exact ⟨mw_s, rfl⟩), qJ_3 fp_30 hJ0⟩
  rcases hlk with ⟨h1, h2⟩ | ⟨t, ht8, htT, ht1, ht2⟩
  · refine bad (v_is ?_) (v_is ?_)
    · unfold f_X11_suspect
      refine v_bxi (e := 1) ?_ rfl
      apply v_is
      unfold f_X11_needLook
      exact v_ifp h1 (v_so rfl)
    · unfold f_X12_suspect
      refine v_lM ?_
      refine v_ifp ((w3 (by decide)).trans h2) ?_
      exact v_b2e r_fail1 (v_so rfl)
  · obtain ⟨T, hT8, hT1, hT2, hth⟩ := hstr
    have hstr : j_str m m := ⟨T, hT8, hT1, hT2, hth⟩
    have htT' : t < T := by
      rw [hT1, iA_lt, nJ_T (by omega), nJ_T (by omega)] at htT
      omega
    obtain ⟨N, K, A, B, H, Y, hB, hC5, hM5⟩ := hth t htT'
    have h24 : N ≤ 24 := hB.2.1
    have e61 : mm_w m 12 0 3 0 12 0 61 = Int32.ofNat t := (w3 (by decide)).trans ht2
    have e124 : mm_w m 12 0 3 0 12 0 4 = Int32.ofNat T := (w3 (by decide)).trans hT2
    have e67 : mm_w m 12 0 3 0 67 0 t = Int32.ofNat N := (w3 (fun z => by cases z.1)).trans hM5.1
    have nt : ¬ Int32.ofNat t = -1 := n_m1 (by omega)
    have kt : (Int32.ofNat t).toNatClampNeg = t := nJ_N (by omega)
    have cl := z_look ht8 ht1
    rcases z_arg (a 1) N (by omega) with ⟨p, hp, ha1⟩ | ha1
    · have kp : (Int32.ofNat p).toNatClampNeg = p := nJ_N (by omega)
      have cp : f_X11_needPart t (a 1) m = some (.inr ()) := by rw [ha1]; exact c_nPk hC5.1 h24 hp
      have rp : f_X12_isPart (mm_w m 12 0 3 0 12 0 61) (a 1) (mm_w m 12 0 3 0) = some 1 := by rw [e61, ha1]; exact r_iPk e124 hT8 htT' e67 h24 hp
      have ip : mm_in (a 1) 24 := by rw [ha1]; exact nJ_in (by omega) (by decide)
      have kp1 : (a 1).toNatClampNeg = p := by rw [ha1]; exact kp
      have ix : mm_in (24 * mm_w m 12 0 3 0 12 0 61 + a 1) 216 := by rw [e61, ha1, i_m7]; exact nJ_in (by omega) (by decide)
      have kx : (24 * mm_w m 12 0 3 0 12 0 61 + a 1).toNatClampNeg = 24 * t + p := by rw [e61, ha1, i_m7]; exact nJ_N (by omega)
      have e69 : mm_w m 12 0 3 0 69 0 (24 * mm_w m 12 0 3 0 12 0 61 + a 1).toNatClampNeg = m 37 t p := by rw [kx, w3 (fun z => by cases z.1), (hM5.2.2 p hp).1, (hC5.2.2 p hp).1]
      have pC : ∀ {Q : (Nat ⊕ (Int32 × mm_M)) → Prop}, vW (if (m 37 t (a 1).toNatClampNeg) ≠ 0 then (some (.inr ((-1), m)))
else (if a 2 < 1 then (some (.inr ((-1), m)))
else (if a 2 ≤ 20000 then (mm_b2 (f_X1_accuse (a 1) (a 2) m) fun r5 m6 =>
some (.inr (r5, m6)))
else (some (.inr ((-1), m))))) : Option (Nat ⊕ (Int32 × mm_M))) Q → vW (f_X11_suspect (a 1) (a 2) m) Q := fun {Q} h => by
        unfold f_X11_suspect
        refine v_bxe cl ?_
        rw [ht1, kt]
        refine v_ifn nt (v_lN ?_)
        refine v_bxe cp ?_
        refine v_ifn nt (v_lN ?_)
        exact v_ifp ip h
      have qC : m 37 t (a 1).toNatClampNeg = m 37 t p := by rw [kp1]
      by_cases hk : m 37 t p = 0
      · by_cases h2 : 1 ≤ (a 2).toInt ∧ (a 2).toInt ≤ 20000
        · have g1 : ¬ a 2 < 1 := by rw [iA_lt, i_1]; omega
          have g2 : a 2 ≤ 20000 := by rw [iA_le, show (20000 : Int32).toInt = 20000 by decide]; omega
          have r2 : f_X12_isIn (a 2) 1 20000 (mm_w m 12 0 3 0) = some 1 := r_is1 (by rw [i_1, show (20000 : Int32).toInt = 20000 by decide]; omega)
          by_cases h8 : s = 8
          · refine non (v_is ?_) (v_is ?_)
            · refine pC ?_
              refine v_ifn (by rw [qC]; exact fun z => z hk) ?_
              refine v_ifn g1 (v_ifp g2 ?_)
              refine v_b2e (a := -1) (b := m) ?_ (v_so rfl)
              apply v_is
              unfold f_X1_accuse
              exact v_ifp (by rw [hs1, h8]; decide) (v_so rfl)
            · unfold f_X12_suspect
              refine v_lM ?_
              refine v_ifn (by rw [e61]; exact nt) ?_
              refine v_b1e rp (v_ifp (by decide) ?_)
              refine v_ifp ix ?_
              refine v_ifn (by rw [e69]; exact fun z => z hk) ?_
              refine v_b1e r2 (v_ifn (by decide) ?_)
              refine v_ifp (by rw [e62, h8]; decide) ?_
              clear pC bad non
              refine v_s1 (P := fun v => v = 0) ?_ ?_
              · refine v_for (fun j q => q.1 = 0 ∧ q.2.toInt = (j : Int)) 0 s (Nat.zero_le _) (by omega) ⟨rfl, i_0⟩ ?_ ?_
                · rintro j ⟨u, v⟩ hj ⟨hu, hv⟩
                  dsimp only at hu hv ⊢
                  refine v_ifn (by rw [e62, iA_le, nJ_T (by omega)]; omega) ?_
                  refine v_ifp hu ?_
                  exact v_l1 (v_il ⟨rfl, n_s3 hv (by omega)⟩)
                · rintro ⟨u, v⟩ ⟨hu, hv⟩
                  dsimp only at hu hv ⊢
                  refine v_ifp (by rw [e62, iA_le, nJ_T (by omega)]; omega) ?_
                  exact v_ir hu
              · rintro v rfl
                exact v_ifn (by decide) (v_so rfl)

          · have gc : ¬ 8 ≤ m 7 0 3 := by rw [hs1, iA_le, i_8, nJ_T (by omega)]; omega
            have gm : ¬ 8 ≤ mm_w m 12 0 3 0 12 0 62 := by rw [e62, iA_le, i_8, nJ_T (by omega)]; omega
            have ks : (Int32.ofNat s).toNatClampNeg = s := nJ_N (by omega)
            have is : mm_in (Int32.ofNat s) 8 := nJ_in (by omega) (by decide)
            have one : ∀ {Q : Int32 × mm_M → Prop}, (∀ v : Int32, (v = 1 ∧ ∀ i, i < s → ¬ m 45 0 i = a 1) ∨ (v = 0 ∧ ∃ i, i < s ∧ m 45 0 i = a 1) → vW (if v ≠ 0 then (if mm_in (mm_w m 12 0 3 0 12 0 62) 8 then (
mm_let (mm_w (mm_w m 12 0 3 0) 103 0 ((mm_w m 12 0 3 0 12 0 62).toNatClampNeg) (a 1)) fun m43 =>
if mm_in (m43 12 0 62) 8 then (
mm_let (mm_w m43 104 0 ((m43 12 0 62).toNatClampNeg) (a 2)) fun m44 =>
mm_let (mm_w m44 12 0 62 ((m44 12 0 62) + 1)) fun m45 =>
some ((m45 12 0 62), m45)) else none) else none)
else (some ((-1), mm_w m 12 0 3 0)) : Option (Int32 × mm_M)) Q) → vW (f_X12_suspect (a 1) (a 2) m) Q := fun {Q} h => by
              unfold f_X12_suspect
              refine v_lM ?_
              refine v_ifn (by rw [e61]; exact nt) ?_
              refine v_b1e rp (v_ifp (by decide) ?_)
              refine v_ifp ix ?_
              refine v_ifn (by rw [e69]; exact fun z => z hk) ?_
              refine v_b1e r2 (v_ifn (by decide) ?_)
              refine v_ifn gm ?_
              clear pC bad non
              refine v_s1 (P := fun v => (v = 1 ∧ ∀ i, i < s → ¬ m 45 0 i = a 1) ∨ (v = 0 ∧ ∃ i, i < s ∧ m 45 0 i = a 1)) ?_ h
              refine v_for (fun j q => q.2.toInt = (j : Int) ∧ ((q.1 = 1 ∧ ∀ i, i < j → ¬ m 45 0 i = a 1) ∨ (q.1 = 0 ∧ ∃ i, i < j ∧ m 45 0 i = a 1))) 0 s (Nat.zero_le _) (by omega) ⟨i_0, Or.inl ⟨rfl, fun k hk => absurd hk (Nat.not_lt_zero k)⟩⟩ ?_ ?_
              · rintro j ⟨u, v⟩ hj ⟨hv, hz⟩
                dsimp only at hv hz ⊢
                refine v_ifn (by rw [e62, iA_le, nJ_T (by omega)]; omega) ?_
                rcases hz with ⟨hu, hz⟩ | ⟨hu, i, hi, hz⟩
                · refine v_ifn (by rw [hu]; decide) ?_
                  refine v_ifp (v_in.mpr (by omega)) ?_
                  have e103 : mm_w m 12 0 3 0 103 0 v.toNatClampNeg = m 45 0 j := by rw [n_k hv, w3 (fun z => by cases z.1), (hsr j hj).1]
                  by_cases e : m 45 0 j = a 1
                  · refine v_ifp (by rw [e103]; exact e) ?_
                    exact v_l1 (v_il ⟨n_s3 hv (by omega), Or.inr ⟨rfl, j, by omega, e⟩⟩)
                  · refine v_ifn (by rw [e103]; exact e) ?_
                    refine v_l1 (v_il ⟨n_s3 hv (by omega), Or.inl ⟨rfl, fun i hi => ?_⟩⟩)
                    by_cases e2 : i = j
                    · rw [e2]
                      exact e
                    · exact hz i (by omega)
                · refine v_ifp hu ?_
                  exact v_l1 (v_il ⟨n_s3 hv (by omega), Or.inr ⟨rfl, i, by omega, hz⟩⟩)
              · rintro ⟨u, v⟩ ⟨hv, hz⟩
                dsimp only at hv hz ⊢
                refine v_ifp (by rw [e62, iA_le, nJ_T (by omega)]; omega) ?_
                exact v_ir hz
            by_cases hnew : ∀ i, i < s → ¬ m 45 0 i = a 1
            · have eC : f_X11_suspect (a 1) (a 2) m = some (.inr (Int32.ofNat (s + 1), (mm_w (mm_w (mm_w m 45 0 s (a 1)) 46 0 s (a 2)) 7 0 3 (Int32.ofNat (s + 1))))) := v_is (by
                refine pC ?_
                refine v_ifn (by rw [qC]; exact fun z => z hk) ?_
                refine v_ifn g1 (v_ifp g2 ?_)
                refine v_b2e (a := Int32.ofNat (s + 1)) (b := (mm_w (mm_w (mm_w m 45 0 s (a 1)) 46 0 s (a 2)) 7 0 3 (Int32.ofNat (s + 1)))) ?_ (v_so rfl)
                apply v_is
                unfold f_X1_accuse
                refine v_ifn gc ?_
                refine v_s1 (c_isSus hs1 hs8) ?_
                rintro r (⟨rfl, _⟩ | ⟨_, i, hi, hb⟩)
                · refine v_ifp rfl ?_
                  simp only [ml_let, hs1, if_pos is, ks, mw_g (show 7 ≠ 45 by decide), mw_g (show 7 ≠ 46 by decide), mw_s, n_a1]
                  exact v_so rfl
                · exact absurd hb (hnew i hi))
              have eM : f_X12_suspect (a 1) (a 2) m = some (Int32.ofNat (s + 1), (mm_w (mm_w (mm_w (mm_w m 12 0 3 0) 103 0 s (a 1)) 104 0 s (a 2)) 12 0 62 (Int32.ofNat (s + 1)))) := v_is (by
                refine one ?_
                rintro v (⟨rfl, _⟩ | ⟨_, i, hi, hb⟩)
                · refine v_ifp (by decide) ?_
                  simp only [ml_let, e62, if_pos is, ks, mw_g (show 12 ≠ 103 by decide), mw_g (show 12 ≠ 104 by decide), mw_s, n_a1]
                  exact v_so rfl
                · exact absurd hb (hnew i hi))
              have hC : fp [(7, none, some 3), (45, none, none), (46, none, none)] m (mm_w (mm_w (mm_w m 45 0 s (a 1)) 46 0 s (a 2)) 7 0 3 (Int32.ofNat (s + 1))) := fp_w rfl (fp_w rfl (fp_w rfl fp_rf))
              have hM : fp [(12, none, some 3), (12, none, some 62), (103, none, none), (104, none, none)] m (mm_w (mm_w (mm_w (mm_w m 12 0 3 0) 103 0 s (a 1)) 104 0 s (a 2)) 12 0 62 (Int32.ofNat (s + 1))) := fp_w rfl (fp_w rfl (fp_w rfl (fp_w rfl fp_rf)))
              have hj : j_inq (mm_w (mm_w (mm_w m 45 0 s (a 1)) 46 0 s (a 2)) 7 0 3 (Int32.ofNat (s + 1))) (mm_w (mm_w (mm_w (mm_w m 12 0 3 0) 103 0 s (a 1)) 104 0 s (a 2)) 12 0 62 (Int32.ofNat (s + 1))) := by
                refine ⟨Or.inr ⟨t, ht8, by rw [hC 0 0 2 rfl]; exact htT, (hC 7 0 0 rfl).trans ht1, (hM 12 0 61 rfl).trans ht2⟩, ⟨s + 1, by omega, mw_s, mw_s, fun i hi => ?_⟩, ?_, ?_⟩
                · rw [mw_g (show 45 ≠ 7 by decide), mw_g (show 45 ≠ 46 by decide), mw_g (show 46 ≠ 7 by decide), mw_g (show 103 ≠ 12 by decide), mw_g (show 103 ≠ 104 by decide), mw_g (show 104 ≠ 12 by decide)]
                  by_cases e : i = s
                  · rw [e, mw_s, mw_s, mw_s, mw_s]
                    refine ⟨rfl, rfl, ⟨p, by omega, ha1⟩, (a 2).toInt.toNat, by omega, n_of (by omega)⟩
                  · rw [mw_k e, mw_k e, mw_k e, mw_k e, mw_g (show 46 ≠ 45 by decide), mw_g (show 104 ≠ 103 by decide), w3 (fun z => by cases z.1), w3 (fun z => by cases z.1)]
                    exact hsr i (by omega)
                · unfold z_told at htl0 ⊢
                  simp only [hC 6 1 3 rfl, fun k => hC 41 1 k rfl, fun k => hC 42 1 k rfl, fun k => hM 105 0 k rfl, fun k => hM 106 0 k rfl, fun k => hM 107 0 k rfl]
                  exact htl0
                · unfold z_told at htl1 ⊢
                  simp only [hC 6 2 3 rfl, fun k => hC 41 2 k rfl, fun k => hC 42 2 k rfl, fun k => hM 105 0 k rfl, fun k => hM 106 0 k rfl, fun k => hM 107 0 k rfl]
                  exact htl1
              refine ⟨_, _, t_op16 hop eC eM (thrown_eq _) (fun e9 h => by cases h) (fun t h => ?_), ⟨j_day_kp hC hM (by decide) (by decide) hday, j_fault_kp hC hM (by decide) (by decide) hfault, j_dead_kp hC hM (by decide) (by decide) hdead, j_str_kp hC hM (by decide) (by decide) hstr, j_tap_kp hC hM (by decide) (by decide) htap, j_law_kp hC hM (by decide) (by decide) hlaw, j_ev_kp hC hM (by decide) (by decide) hev, j_row_kp hC hM (by decide) (by decide) hrow, hj, j_found_kp hC hM (by decide) (by decide) hfound, j_lamps_kp hC hM (by decide) (by decide) hlamps, j_net_kp hC hM (by decide) (by decide) hnet, j_tsk_kp hC hM (by decide) (by decide) htsk, j_dl_kp hC hM (by decide) (by decide) hdl, j_alo_kp hC hM (by decide) (by decide) halo, j_she_kp hC hM (by decide) (by decide) hshe⟩⟩
              cases h
              exact ⟨by rw [mw_k (by decide), mw_g (by decide), mw_g (by decide), mw_s], rfl⟩
            · have hold : ∃ i, i < s ∧ m 45 0 i = a 1 := by
                apply Classical.byContradiction
                intro h
                exact hnew (fun i hi e => h ⟨i, hi, e⟩)
              refine non (v_is ?_) (v_is ?_)
              · refine pC ?_
                refine v_ifn (by rw [qC]; exact fun z => z hk) ?_
                refine v_ifn g1 (v_ifp g2 ?_)
                refine v_b2e (a := -1) (b := m) ?_ (v_so rfl)
                apply v_is
                unfold f_X1_accuse
                refine v_ifn gc ?_
                refine v_s1 (c_isSus hs1 hs8) ?_
                rintro r (⟨_, hb⟩ | ⟨rfl, _⟩)
                · exact absurd hb hnew
                · exact v_ifn (by decide) (v_so rfl)
              · refine one ?_
                rintro v (⟨_, hb⟩ | ⟨rfl, _⟩)
                · exact absurd hb hnew
                · exact v_ifn (by decide) (v_so rfl)
        · refine non (v_is ?_) (v_is ?_)
          · refine pC ?_
            refine v_ifn (by rw [qC]; exact fun z => z hk) ?_
            by_cases h0 : (a 2).toInt < 1
            · exact v_ifp (by rw [iA_lt, i_1]; exact h0) (v_so rfl)
            · exact v_ifn (by rw [iA_lt, i_1]; exact h0) (v_ifn (by rw [iA_le, show (20000 : Int32).toInt = 20000 by decide]; omega) (v_so rfl))
          · unfold f_X12_suspect
            refine v_lM ?_
            refine v_ifn (by rw [e61]; exact nt) ?_
            refine v_b1e rp (v_ifp (by decide) ?_)
            refine v_ifp ix ?_
            refine v_ifn (by rw [e69]; exact fun z => z hk) ?_
            refine v_b1e (r_is0 (by rw [i_1, show (20000 : Int32).toInt = 20000 by decide]; exact h2)) (v_ifp (by decide) ?_)
            clear pC bad non
            refine v_s1 (P := fun v => v = 0) ?_ ?_
            · refine v_for (fun j q => q.1 = 0 ∧ q.2.toInt = (j : Int)) 0 s (Nat.zero_le _) (by omega) ⟨rfl, i_0⟩ ?_ ?_
              · rintro j ⟨u, v⟩ hj ⟨hu, hv⟩
                dsimp only at hu hv ⊢
                refine v_ifn (by rw [e62, iA_le, nJ_T (by omega)]; omega) ?_
                refine v_ifp hu ?_
                exact v_l1 (v_il ⟨rfl, n_s3 hv (by omega)⟩)
              · rintro ⟨u, v⟩ ⟨hu, hv⟩
                dsimp only at hu hv ⊢
                refine v_ifp (by rw [e62, iA_le, nJ_T (by omega)]; omega) ?_
                exact v_ir hu
            · rintro v rfl
              exact v_ifn (by decide) (v_so rfl)

      · refine non (v_is ?_) (v_is ?_)
        · refine pC ?_
          exact v_ifp (by rw [qC]; exact hk) (v_so rfl)
        · unfold f_X12_suspect
          refine v_lM ?_
          refine v_ifn (by rw [e61]; exact nt) ?_
          refine v_b1e rp (v_ifp (by decide) ?_)
          refine v_ifp ix ?_
          refine v_ifp (by rw [e69]; exact hk) ?_
          clear pC bad non
          refine v_s1 (P := fun v => v = 0) ?_ ?_
          · refine v_for (fun j q => q.1 = 0 ∧ q.2.toInt = (j : Int)) 0 s (Nat.zero_le _) (by omega) ⟨rfl, i_0⟩ ?_ ?_
            · rintro j ⟨u, v⟩ hj ⟨hu, hv⟩
              dsimp only at hu hv ⊢
              refine v_ifn (by rw [e62, iA_le, nJ_T (by omega)]; omega) ?_
              refine v_ifp hu ?_
              exact v_l1 (v_il ⟨rfl, n_s3 hv (by omega)⟩)
            · rintro ⟨u, v⟩ ⟨hu, hv⟩
              dsimp only at hu hv ⊢
              refine v_ifp (by rw [e62, iA_le, nJ_T (by omega)]; omega) ?_
              exact v_ir hu
          · rintro v rfl
            exact v_ifn (by decide) (v_so rfl)

    · refine bad (v_is ?_) (v_is ?_)
      · unfold f_X11_suspect
        refine v_bxe cl ?_
        rw [ht1, kt]
        refine v_ifn nt (v_lN ?_)
        exact v_bxi (c_nPn hC5.1 h24 ha1) rfl
      · unfold f_X12_suspect
        refine v_lM ?_
        refine v_ifn (by rw [e61]; exact nt) ?_
        refine v_b1e (a := 0) (by rw [e61]; exact r_iPn e124 hT8 htT' e67 h24 ha1) (v_ifn (by decide) ?_)
        exact v_b2e r_fail1 (v_so rfl)
