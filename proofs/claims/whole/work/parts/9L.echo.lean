/-! echo -/
theorem z_scene2 {m : mm_M} {t : Nat} {D k : Int32} (ht : t < 8) (hev : j_ev m m) : ∃ bn ct o : Nat → Int32, (∀ T, m 0 0 2 = Int32.ofNat T → T ≤ 8 → t < T → vW (f_X11_showDay (Int32.ofNat t) D k m) (fun q => ∃ c, q = .inr c ∧ fp zC4 m c ∧ c 4 0 4 = Int32.ofNat t ∧ z_scC c bn ct o)) ∧ (∀ m1, fp [(12, none, some 3)] m m1 → vW (f_X12_tellState (Int32.ofNat t) D k m1) (fun c => fp zM4 m1 c ∧ z_scM c bn ct o)) ∧ ∀ p, p < 24 → ct p = -1 ∨ (0 ≤ (ct p).toInt ∧ (ct p).toInt ≤ 40000 ∧ m 37 t p = 0) := by
  obtain ⟨bn, ct, o, h1, h2⟩ := z_scene (t := t) (D := D) (k := k) hev
  refine ⟨bn, ct, o, h1, h2, fun p hp => ?_⟩
  obtain ⟨c1, e1, f1, s1⟩ := h2 m fp_rf
  obtain ⟨E, hE, h38, h126, hz, l, hl, h32, hpw⟩ := hev
  have hkd : ∀ e, e < E → m 25 0 e = 0 ∨ m 25 0 e = 1 ∨ m 25 0 e = 2 ∨ m 25 0 e = 3 := fun e he => z_k4 (hz e he).2.2.2.2.2.2.2.1
  have hpt : ∀ e, e < E → ∃ p, p < 24 ∧ m 27 0 e = Int32.ofNat p := fun e he => by
    obtain ⟨t', _, _, _, p, hp, h2, _⟩ := (hz e he).2.2.2.2.2.2.2.2.1
    exact ⟨p, hp, h2⟩
  have hnum : ∀ e, e < E → ¬ m 28 0 e = -1 := fun e he => by
    obtain ⟨x, hx, h2⟩ := (hz e he).2.2.2.2.2.2.2.2.2.1
    rw [h2]
    exact n_m1 (by omega)
  have hevM : z_eM m (z_eC m) E := fun e he => by
    obtain ⟨b0, b1, b2, b3, b4, b5, b6, _⟩ := hz e he
    exact ⟨b0.symm, b1.symm, b2.symm, b3.symm, b4.symm, b5.symm, b6.symm⟩
  obtain ⟨c2, e2, f2, s2⟩ := r_tell (t := Int32.ofNat t) (D := D) (k := k) hevM (by rw [h126, nJ_T (by omega)]) hE hpt hkd hnum
  have ec : c1 = c2 := Option.some.inj (e1.symm.trans e2)
  subst ec
  have ect : c1 88 0 p = ct p := (s1 p hp).2.1
  rcases (s2 p hp).2.1 with ⟨e, he, ha, hk, hc, _⟩ | ⟨_, hc⟩
  · right
    have heE := List.mem_range.mp he
    have hc2 : c1 88 0 p = m 28 0 e := hc
    obtain ⟨b0, b1, b2, b3, b4, b5, b6, b7, ⟨t', ht', _, h26, p', hp', h27, h37⟩, ⟨x, hx, h28⟩, _⟩ := hz e heE
    have g1 : m 26 0 e = Int32.ofNat t := ha.1.1
    have g2 : m 27 0 e = Int32.ofNat p := ha.1.2.1
    have g3 : m 25 0 e = 1 := hk
    have et : t = t' := (n_eq (by omega) (by omega)).mp (g1.symm.trans h26)
    have ep : p = p' := (n_eq (by omega) (by omega)).mp (g2.symm.trans h27)
    subst et
    subst ep
    rw [← ect, hc2, h28, nJ_T (by omega)]
    exact ⟨by omega, by omega, h37 g3⟩
  · left
    have hc2 : c1 88 0 p = -1 := hc
    rw [← ect]
    exact hc2
theorem z_row_l {D len : Int32} {R : List zX} (h1 : z_so (R.map (·.1))) (h2 : ∀ y, y ∈ R → z_xb y) : (z_row D len R).length ≤ R.length + (z_mi R).length := by
  have := (z_gf_r (D := D) (len := len) (z_mi R) (R.map (·.1)) (z_rg_0 h1 h2)).2
  rw [List.length_map] at this
  exact this
theorem z_row_b {D : Int32} {N : Nat} {K A L bn ct : Nat → Int32} {e : Int32} (hD : 0 ≤ D.toInt) (hb : z_nb N K A ct) (h24 : N ≤ 24) : (z_row D (z_wk K A L bn ct e N N).2.1 (z_seen D (z_wk K A L bn ct e N N).1)).length ≤ 49 := by
  obtain ⟨_, _, w3', w4⟩ := z_wk_b (L := L) (bn := bn) (e := e) hb h24 N (Nat.le_refl N)
  obtain ⟨s1, s2, s3⟩ := z_seen_b hD w4
  have h1 := z_row_l (D := D) (len := (z_wk K A L bn ct e N N).2.1) s1 s2
  have h2 := z_wk_mi (D := D) (L := L) (bn := bn) (e := e) hD hb h24
  omega
theorem d_fr0 {m r : mm_M} (h : d_fr 0 m r) : fp [(6, some 0, some 3), (6, some 0, some 5), (41, some 0, none), (42, some 0, none), (43, some 0, none), (44, none, none)] m r := fun g i k hz => h g i k (fun z => by
  obtain ⟨rfl, rfl | rfl | rfl | rfl | ⟨rfl, rfl | rfl⟩⟩ := z
  · exact z_tf rfl hz
  · exact z_tf rfl hz
  · exact z_tf rfl hz
  · exact z_tf rfl hz
  · exact z_tf rfl hz
  · exact z_tf rfl hz)
theorem z_nb_i {N Y : Nat} {K A B ct : Nat → Int32} (hB : z_thB N K A B Y) (h : ∀ p, p < N → ct p = -1 ∨ (0 ≤ (ct p).toInt ∧ (ct p).toInt ≤ 40000 ∧ K p = 0)) : z_nb N K A ct := fun p hp => by
  obtain ⟨⟨k, hk, hK⟩, ⟨x, hx, hA⟩, _⟩ := hB.2.2.2 p hp
  refine ⟨by rw [hA, nJ_T (by omega)]; omega, h p hp, ?_⟩
  rw [hK]
  rcases (by omega : k = 0 ∨ k = 1 ∨ k = 2 ∨ k = 3) with rfl | rfl | rfl | rfl
  · exact Or.inl rfl
  · exact Or.inr (Or.inl rfl)
  · exact Or.inr (Or.inr (Or.inl rfl))
  · exact Or.inr (Or.inr (Or.inr rfl))
theorem o_13 : q_Sim qJ 13 := fun m a hJ hop => by
  have hJ0 := hJ
  obtain ⟨hday, hfault, hdead, hstr, htap, hlaw, hev, hrow, hinq, hfound, hlamps, hnet, htsk, hdl, halo, hshe⟩ := hJ
  have hstr0 := hstr
  have hlaw0 := hlaw
  obtain ⟨T, hT8, hT1, hT2, hth⟩ := hstr
  have hstr := hstr0
  obtain ⟨lw, r, hr2, hr3, hr4, hlC, hlM, hdp⟩ := hlaw
  have hlaw := hlaw0
  have e124 : mm_w m 12 0 3 0 12 0 4 = Int32.ofNat T := (w3 (by decide)).trans hT2
  have bad1 : f_X11_echo (a 1) (a 2) (mm_bz (a 3)) (a 4) (a 5) m = some (.inl 1) → f_X12_echo (a 1) (a 2) (mm_bz (a 3)) (a 4) (a 5) m = some (0, mm_w (mm_w m 12 0 3 0) 12 0 3 1) → ∃ mC mM, q_To m a mC mM ∧ qJ mC mM := fun eC eM => ⟨_, _, t_op13 hop eC eM (thrown_eq _) (fun e9 h => by cases h; exact Or.inl ⟨rfl, mw_s⟩) (fun t h => by cases h), qJ_3 fp_31 hJ0⟩
  have bad0 : f_X11_echo (a 1) (a 2) (mm_bz (a 3)) (a 4) (a 5) m = some (.inl 0) → f_X12_echo (a 1) (a 2) (mm_bz (a 3)) (a 4) (a 5) m = some (0, mm_w (mm_w m 12 0 3 0) 12 0 3 2) → ∃ mC mM, q_To m a mC mM ∧ qJ mC mM := fun eC eM => ⟨_, _, t_op13 hop eC eM (thrown_eq _) (fun e9 h => by cases h; exact Or.inr ⟨rfl, mw_s⟩) (fun t h => by cases h), qJ_3 fp_31 hJ0⟩
  rcases z_arg (a 1) T (by omega) with ⟨t, ht, ha1⟩ | ha1
  · obtain ⟨N, K, A, B, H, Y, hB, hC5, hM5⟩ := hth t ht
    have h24 : N ≤ 24 := hB.2.1
    have ht8 : t < 8 := by omega
    have hM' : z_thM (mm_w m 12 0 3 0) t N K A B H Y := z_thM_fr (fun g i k hg => w3 (fun z => by rw [z.1] at hg; cases hg)) hM5
    have cs : f_X11_strandOf (a 1) m = some (.inr t) := by rw [ha1]; exact c_sOk hT1 hT8 ht
    have rs : f_X12_isThread (a 1) (mm_w m 12 0 3 0) = some 1 := by rw [ha1]; exact r_iTk e124 hT8 ht
    have ta1 : (a 1).toInt = (t : Int) := by rw [ha1, nJ_T (by omega)]
    by_cases h2 : 0 ≤ (a 2).toInt ∧ (a 2).toInt ≤ 7
    · by_cases h4 : 0 ≤ (a 4).toInt ∧ (a 4).toInt ≤ 36499
      · by_cases h5 : 0 ≤ (a 5).toInt ∧ (a 5).toInt ≤ (m 0 0 6).toInt
        · obtain ⟨bn, ct, o, hsC, hsM, hct⟩ := z_scene2 (D := a 4) (k := a 5) ht8 hev
          have hb : z_nb N K A ct := z_nb_i hB (fun p hp => by
            rcases hct p (by omega) with h | ⟨g1, g2, g3⟩
            · exact Or.inl h
            · exact Or.inr ⟨g1, g2, by rw [← (hC5.2.2 p hp).1]; exact g3⟩)
          have hD0 := hdead.2
          generalize hDD : m 0 0 9 = D at hD0
          have hDM : m 12 0 43 = D := hdead.1.symm.trans hDD
          generalize hag : mm_max 0 (a 4 / 365 - Int32.ofNat Y) = age
          generalize hQ : z_row D (z_wk K A (z_lv lw K A H (a 2) age) bn ct (mm_bz (a 3)) N N).2.1 (z_seen D (z_wk K A (z_lv lw K A H (a 2) age) bn ct (mm_bz (a 3)) N N).1) = Q
          have hQ49 : Q.length ≤ 49 := by rw [← hQ]; exact z_row_b hD0.1 hb h24
          have eC : vW (f_X11_echo (a 1) (a 2) (mm_bz (a 3)) (a 4) (a 5) m) (fun q => ∃ c, q = .inr (Int32.ofNat Q.length, c) ∧ fp [(4, none, some 4), (33, none, none), (34, none, none), (35, none, none), (23, none, none), (24, none, none), (36, none, none), (6, some 0, some 3), (6, some 0, some 5), (41, some 0, none), (42, some 0, none), (43, some 0, none), (44, none, none)] m c ∧ c_rw c 0 Q) := by
            unfold f_X11_echo
            refine v_bxe cs ?_
            refine v_bxe (c_colk h2) ?_
            refine v_bxe (c_dayk h4) ?_
            refine v_bxe (c_evek h5) ?_
            rw [ha1]
            refine v_sx (hsC T hT1 hT8 ht) (fun e h => by obtain ⟨_, h, _⟩ := h; cases h) ?_
            rintro c ⟨_, hc1, hf, h44, hsc⟩
            cases hc1
            have hTc := z_thC_fr (fun g i k hg => hf g i k (z_dis_of (by decide) hg)) hC5
            have hlc : ∀ k, k < 4 → z_cdC c r k (lw k) := fun k hk => z_cdC_fr (fun g i k hg => hf g i k (z_dis_of (by decide) hg)) (hlC k hk)
            have h03 : c 0 0 3 = Int32.ofNat r := (hf 0 0 3 rfl).trans hr3
            refine v_ifn (by rw [h03]; exact n_m1 (by omega)) ?_
            refine v_lN ?_
            rw [h03, nJ_N (by omega)]
            refine v_b1e (c_age hTc.2.1) ?_
            rw [hag]
            refine v_s1 (c_weigh (age := age) h44 (by omega) hlc hdp hB hTc) ?_
            rintro c2 ⟨hf2, hL⟩
            have h4b : c2 4 0 4 = Int32.ofNat t := (hf2 4 0 4 rfl).trans h44
            have hTb := z_thC_fr (fun g i k hg => hf2 g i k (z_dis_of (by decide) hg)) hTc
            have hsb := z_scC_fr (fun g i k hg => hf2 g i k (z_dis_of (by decide) hg)) hsc
            have h09 : c2 0 0 9 = D := (hf2 0 0 9 rfl).trans ((hf 0 0 9 rfl).trans hDD)
            rw [h09]
            refine v_s1 (c_obs (i := 0) (e := mm_bz (a 3)) h4b ht8 h24 hTb hsb hb hL hD0.1) ?_
            rintro c3 ⟨hf3, hr3⟩
            rw [hQ] at hr3
            refine v_so ⟨c3, by rw [hr3.1], ?_, hr3⟩
            exact fp_tr (fp_sb (by decide) hf) (fp_tr (fp_sb (by decide) hf2) (fp_sb (by decide) (d_fr0 hf3)))
          have eM : vW (f_X12_echo (a 1) (a 2) (mm_bz (a 3)) (a 4) (a 5) m) (fun q => q.1 = Int32.ofNat Q.length ∧ fp [(12, none, some 3), (12, none, some 46), (12, none, some 57), (98, none, none), (99, none, none), (100, none, none), (87, none, none), (88, none, none), (89, none, none), (90, none, none), (12, none, some 44), (12, none, some 45), (12, none, some 58), (84, none, none), (85, none, none), (91, none, none), (92, none, none), (93, none, none), (94, none, none), (95, none, none), (96, none, none), (97, none, none), (101, none, none), (102, none, none)] m q.2 ∧ q.2 12 0 3 = 0 ∧ q.2 12 0 46 = 1 ∧ q.2 12 0 57 = Int32.ofNat Q.length ∧ ∀ k x, Q[k]? = some x → q.2 98 0 k = x.1 ∧ q.2 99 0 k = x.2.1 ∧ q.2 100 0 k = x.2.2) := by
            unfold f_X12_echo
            refine v_lM ?_
            refine v_b1e rs (v_ifn (by decide) ?_)
            refine v_b1e (r_colk h2) (v_ifn (by decide) ?_)
            refine v_b1e (r_is1 (by rw [i_0, i_36499]; exact h4)) (v_ifp (by decide) ?_)
            refine v_b1e (r_evek hday h5) (v_ifp (by decide) ?_)
            have hsM1 := hsM _ fp_30
            rw [← ha1] at hsM1
            refine v_s1 hsM1 ?_
            rintro c ⟨hf, hsc⟩
            have hTc := z_thM_fr (fun g i k hg => hf g i k (z_dis_of (by decide) hg)) hM'
            have hlc : ∀ k, k < 4 → z_cdM c k (lw k) := fun k hk => z_cdM_fr (fun g i k hg => (hf g i k (z_dis_of (by decide) hg)).trans (w3 (fun z => by rw [z.1] at hg; cases hg))) (hlM k hk)
            refine v_b1e (r_age ta1 ht8 hTc.2.1) ?_
            rw [hag]
            have c43 : c 12 0 43 = D := (hf 12 0 43 rfl).trans ((w3 (by decide)).trans hDM)
            refine v_s1 (r_row (e := mm_bz (a 3)) (col := a 2) (age := age) ht8 hlc hdp hB hTc hsc hb ta1 c43 hD0) ?_
            rintro m14 ⟨f14, r14⟩
            rw [hQ] at r14
            refine v_lM (v_lM ?_)
            have e45 : mm_w m14 12 0 46 1 12 0 45 = Int32.ofNat Q.length := (mw_k (by decide)).trans r14.1
            rw [e45]
            generalize hm16 : mm_w (mm_w m14 12 0 46 1) 12 0 57 (Int32.ofNat Q.length) = m16
            have f16 : fp [(12, none, some 3), (12, none, some 46), (12, none, some 57), (98, none, none), (99, none, none), (100, none, none), (87, none, none), (88, none, none), (89, none, none), (90, none, none), (12, none, some 44), (12, none, some 45), (12, none, some 58), (84, none, none), (85, none, none), (91, none, none), (92, none, none), (93, none, none), (94, none, none), (95, none, none), (96, none, none), (97, none, none), (101, none, none), (102, none, none)] m m16 := by
              rw [← hm16]
              exact fp_w rfl (fp_w rfl (fp_tr (fp_sb (by decide) fp_30) (fp_tr (fp_sb (by decide) hf) (fp_sb (by decide) f14))))
            have r16 : r_rw m16 Q := by
              rw [← hm16]
              exact r_rw_fr (L := [(12, none, some 46), (12, none, some 57)]) (fp_w rfl (fp_w rfl fp_rf)) (by decide) r14
            have t46 : m16 12 0 46 = 1 := by rw [← hm16, mw_k (by decide), mw_s]
            have t57 : m16 12 0 57 = Int32.ofNat Q.length := by rw [← hm16, mw_s]
            have t3 : m16 12 0 3 = 0 := by rw [← hm16, mw_k (by decide), mw_k (by decide), f14 12 0 3 rfl, hf 12 0 3 rfl, mw_s]
            clear hm16 e45 r14
            refine v_s1 (P := fun c => fp [(98, none, none), (99, none, none), (100, none, none)] m16 c ∧ ∀ k x, Q[k]? = some x → c 98 0 k = x.1 ∧ c 99 0 k = x.2.1 ∧ c 100 0 k = x.2.2) ?_ ?_
            · refine v_for (fun j q => q.1.toInt = (j : Int) ∧ fp [(98, none, none), (99, none, none), (100, none, none)] m16 q.2 ∧ ∀ k x, k < j → Q[k]? = some x → q.2 98 0 k = x.1 ∧ q.2 99 0 k = x.2.1 ∧ q.2 100 0 k = x.2.2) 0 Q.length (Nat.zero_le _) (by omega) ⟨i_0, fp_rf, fun k x hk => absurd hk (Nat.not_lt_zero k)⟩ ?_ ?_
              · rintro j ⟨v, c⟩ hj ⟨hv, hf9, hz⟩
                dsimp only at hv hf9 hz ⊢
                have rc := r_rw_fr hf9 (by decide) r16
                obtain ⟨x, hx⟩ := z_ex hj
                obtain ⟨x1, x2, x3⟩ := rc.2 j x hx
                have iv : mm_in v 60 := v_in.mpr (by omega)
                refine v_ifn (by rw [rc.1, iA_le, nJ_T (by omega)]; omega) ?_
                refine v_ifp iv (v_ifp iv (v_lM ?_))
                refine v_ifp iv (v_ifp iv (v_lM ?_))
                refine v_ifp iv (v_ifp iv (v_lM ?_))
                rw [n_k hv, mw_g (show 97 ≠ 99 by decide), mw_g (show 96 ≠ 98 by decide), mw_g (show 97 ≠ 98 by decide), x1, x2, x3]
                refine v_l1 (v_il ⟨n_s3 hv (by omega), fp_w rfl (fp_w rfl (fp_w rfl hf9)), fun k y hk hy => ?_⟩)
                dsimp only
                by_cases e : k = j
                · rw [e] at hy
                  rw [hx] at hy
                  cases hy
                  rw [e]
                  simp (disch := first | omega | decide | fail) only [mw_s, mw_k, mw_i, mw_g]
                  exact ⟨trivial, trivial, trivial⟩
                · obtain ⟨y1, y2, y3⟩ := hz k y (by omega) hy
                  simp (disch := first | omega | decide | fail) only [mw_s, mw_k, mw_i, mw_g]
                  exact ⟨y1, y2, y3⟩
              · rintro ⟨v, c⟩ ⟨hv, hf9, hz⟩
                dsimp only at hv hf9 hz ⊢
                have rc := r_rw_fr hf9 (by decide) r16
                exact v_ifp (by rw [rc.1, iA_le, nJ_T (by omega)]; omega) (v_ir ⟨hf9, fun k x hx => hz k x (z_lt hx) hx⟩)
            · rintro c9 ⟨hf9, hz9⟩
              exact v_so ⟨(r_rw_fr hf9 (by decide) r16).1, fp_tr f16 (fp_sb (by decide) hf9), (hf9 12 0 3 rfl).trans t3, (hf9 12 0 46 rfl).trans t46, (hf9 12 0 57 rfl).trans t57, hz9⟩
          obtain ⟨q, hC1, mC, rfl, hC, hrC⟩ := eC
          obtain ⟨⟨v, mM⟩, hM1, hM2, hM, hM3, m46, m57, hrM⟩ := eM
          dsimp only at hM2 hM hM3 m46 m57 hrM
          subst hM2
          have hj : j_row mC mM := by
            refine Or.inr ⟨Q.length, hQ49, hrC.1, m46, m57, fun i hi => ?_⟩
            obtain ⟨x, hx⟩ := z_ex hi
            obtain ⟨y1, y2, y3⟩ := hrC.2 i x hx
            obtain ⟨z1, z2, z3⟩ := hrM i x hx
            exact ⟨y1.trans z1.symm, y2.trans z2.symm, y3.trans z3.symm⟩
          refine ⟨_, _, t_op13 hop hC1 hM1 (thrown_eq _) (fun e9 h => by cases h) (fun t h => ?_), ⟨j_day_kp hC hM (by decide) (by decide) hday, j_fault_kp hC hM (by decide) (by decide) hfault, j_dead_kp hC hM (by decide) (by decide) hdead, j_str_kp hC hM (by decide) (by decide) hstr, j_tap_kp hC hM (by decide) (by decide) htap, j_law_kp hC hM (by decide) (by decide) hlaw, j_ev_kp hC hM (by decide) (by decide) hev, hj, j_inq_kp hC hM (by decide) (by decide) hinq, j_found_kp hC hM (by decide) (by decide) hfound, j_lamps_kp hC hM (by decide) (by decide) hlamps, j_net_kp hC hM (by decide) (by decide) hnet, j_tsk_kp hC hM (by decide) (by decide) htsk, j_dl_kp hC hM (by decide) (by decide) hdl, j_alo_kp hC hM (by decide) (by decide) halo, j_she_kp hC hM (by decide) (by decide) hshe⟩⟩
          cases h
          exact ⟨hM3, rfl⟩
        · refine bad0 (v_is ?_) (v_is ?_)
          · unfold f_X11_echo
            refine v_bxe cs ?_
            refine v_bxe (c_colk h2) ?_
            refine v_bxe (c_dayk h4) ?_
            exact v_bxi (c_even h5) rfl
          · unfold f_X12_echo
            refine v_lM ?_
            refine v_b1e rs (v_ifn (by decide) ?_)
            refine v_b1e (r_colk h2) (v_ifn (by decide) ?_)
            refine v_b1e (r_is1 (by rw [i_0, i_36499]; exact h4)) (v_ifp (by decide) ?_)
            refine v_b1e (r_even hday h5) ?_
            first | refine v_ifn (by decide) ?_ | refine v_ifp (by decide) ?_
            exact v_b2e r_fail2 (v_so rfl)
      · refine bad1 (v_is ?_) (v_is ?_)
        · unfold f_X11_echo
          refine v_bxe cs ?_
          refine v_bxe (c_colk h2) ?_
          exact v_bxi (c_dayn h4) rfl
        · unfold f_X12_echo
          refine v_lM ?_
          refine v_b1e rs (v_ifn (by decide) ?_)
          refine v_b1e (r_colk h2) (v_ifn (by decide) ?_)
          refine v_b1e (r_is0 (by rw [i_0, i_36499]; exact h4)) ?_
          first | refine v_ifn (by decide) ?_ | refine v_ifp (by decide) ?_
          exact v_b2e r_fail1 (v_so rfl)
    · refine bad1 (v_is ?_) (v_is ?_)
      · unfold f_X11_echo
        refine v_bxe cs ?_
        exact v_bxi (c_coln h2) rfl
      · unfold f_X12_echo
        refine v_lM ?_
        refine v_b1e rs (v_ifn (by decide) ?_)
        refine v_b1e (r_coln h2) ?_
        first | refine v_ifn (by decide) ?_ | refine v_ifp (by decide) ?_
        exact v_b2e r_fail1 (v_so rfl)
  · refine bad1 (v_is ?_) (v_is ?_)
    · unfold f_X11_echo
      exact v_bxi (c_sOn hT1 hT8 ha1) rfl
    · unfold f_X12_echo
      refine v_lM ?_
      refine v_b1e (r_iTn e124 hT8 ha1) ?_
      first | refine v_ifn (by decide) ?_ | refine v_ifp (by decide) ?_
      exact v_b2e r_fail1 (v_so rfl)
