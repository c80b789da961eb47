/-! lamps, the op -/
def z_need (a4 a5 a6 a7 : Int32) (i : Nat) : Int32 := if i = 0 then a4 else if i = 1 then a5 else if i = 2 then a6 else a7
def z_mar (N : Nat) (K A B H bn ct o : Nat → Int32) (lw : zL) (age a3 : Int32) (W : Nat → Int32) (i d : Nat) : Int32 := z_mg N K A B (z_lv lw K A H (Int32.ofNat i) age) bn ct o (a3 + Int32.ofNat d * 500) (W i)
theorem r_pow {n : Nat} {a : Int32} (ha : a.toInt = (n : Int)) (hn : n ≤ 4) : vW (mm_loop (σ := Int32 × Int32) (ρ := (Int32)) (fun (s : Int32 × Int32) => match s with
| (v44, v45) => (if a ≤ v45 then (some (.inr v44))
else (mm_let (v44 * 8) fun v46 =>
mm_let (v45 + 1) fun v47 =>
some (.inl (v46, v47))) : Option ((Int32 × Int32) ⊕ ((Int32))))) mm_fu (1, 0)) (fun r => r.toInt = ((8 ^ n : Nat) : Int)) := by
  refine v_for (fun j q => q.1.toInt = ((8 ^ j : Nat) : Int) ∧ q.2.toInt = (j : Int)) 0 n (Nat.zero_le _) (by omega) ⟨i_1, i_0⟩ ?_ ?_
  · rintro j ⟨u, v⟩ hj ⟨hu, hv⟩
    dsimp only at hu hv ⊢
    have h8j := z_8n (n := j) (by omega)
    refine v_ifn (by rw [iA_le]; omega) (v_l (v_l1 (v_il ⟨?_, n_s3 hv (by omega)⟩)))
    dsimp only
    rw [iA_mulN hu (show (8 : Int32).toInt = ((8 : Nat) : Int) by decide) (by omega), Nat.pow_succ]
  · rintro ⟨u, v⟩ ⟨hu, hv⟩
    dsimp only at hu hv ⊢
    exact v_ifp (by rw [iA_le]; omega) (v_ir hu)
theorem r_lstL {m : mm_M} {n : Nat} {a : Int32} {dg : Nat → Nat} {M : Nat → Nat → Int32} (ha : a.toInt = (n : Int)) (hn : n ≤ 4) (hd : ∀ i, i < n → m 110 0 i = Int32.ofNat (dg i)) (hd8 : ∀ i, dg i < 8) (hM : ∀ i d, i < n → d < 8 → m 111 0 (8 * i + d) = M i d) : vW (mm_loop (σ := Int32 × Int32) (ρ := (Int32)) (fun (s : Int32 × Int32) => match s with
| (v68, v69) => (if a ≤ v69 then (some (.inr v68))
else (if mm_in v69 4 then (
if mm_in ((8 * v69) + (m 110 0 v69.toNatClampNeg)) 32 then (
mm_b1 (f_X12_disturbed v69 a m) fun r70 =>
mm_let ((m 111 0 ((8 * v69) + (m 110 0 v69.toNatClampNeg)).toNatClampNeg) - r70) fun v71 =>
if v69 ≠ 0 then (mm_let (mm_min v68 v71) fun v72 =>
mm_let (v69 + 1) fun v73 =>
some (.inl (v72, v73)))
else (mm_let (v69 + 1) fun v74 =>
some (.inl (v71, v74)))) else none) else none) : Option ((Int32 × Int32) ⊕ ((Int32))))) mm_fu (0, 0)) (fun r => r = z_lm n M dg n) := by
  refine v_for (fun j q => q.1 = z_lm n M dg j ∧ q.2.toInt = (j : Int)) 0 n (Nat.zero_le _) (by omega) ⟨rfl, i_0⟩ ?_ ?_
  · rintro j ⟨u, v⟩ hj ⟨hu, hv⟩
    dsimp only at hu hv ⊢
    have iv : mm_in v 4 := v_in.mpr (by omega)
    have h8 := hd8 j
    have e110 : m 110 0 v.toNatClampNeg = Int32.ofNat (dg j) := by rw [n_k hv]; exact hd j hj
    have hix : (8 * v + m 110 0 v.toNatClampNeg).toInt = ((8 * j + dg j : Nat) : Int) := iA_addN (iA_mulN (show (8 : Int32).toInt = ((8 : Nat) : Int) by decide) hv (by omega)) (by rw [e110, nJ_T (by omega)]) (by omega)
    refine v_ifn (by rw [iA_le]; omega) (v_ifp iv (v_ifp (v_in.mpr (by omega)) ?_))
    refine v_b1e (r_dist ha hn hv hj hd) ?_
    rw [n_k hix, hM j (dg j) hj h8]
    refine v_lI (fun w hw => ?_)
    by_cases e : j = 0
    · refine v_ifn (fun z => z (by rw [iA_eq, i_0]; omega)) (v_l1 (v_il ⟨?_, n_s3 hv (by omega)⟩))
      show w = if j = 0 then _ else _
      rw [if_pos e, hw]
    · refine v_ifp (n_ne (by rw [i_0]; omega)) (v_l (v_l1 (v_il ⟨?_, n_s3 hv (by omega)⟩)))
      show mm_min u w = if j = 0 then _ else _
      rw [if_neg e, hw, hu]
  · rintro ⟨u, v⟩ ⟨hu, hv⟩
    dsimp only at hu hv ⊢
    exact v_ifp (by rw [iA_le]; omega) (v_ir hu)
theorem c_meas {m : mm_M} {lw : zL} {t N Y i : Nat} {K A B H bn ct o : Nat → Int32} {W : Nat → Int32} {a2 a3 age : Int32} (h4 : m 4 0 4 = Int32.ofNat t) (ht : t < 8) (hN : 1 ≤ N) (h24 : N ≤ 24) (hT : z_thC m t N K A B H Y) (hs : z_scC m bn ct o) (hL : ∀ p, p < N → m 36 0 p = z_lv lw K A H (Int32.ofNat i) age p) (ha : a2.toInt = (i : Int)) (hi : i < 4) (hW : m 47 0 i = W i) : vW (f_X2_measure a2 a3 m) (fun r => fp [(49, none, none)] m r ∧ (∀ d, d < 8 → r 49 i d = z_mar N K A B H bn ct o lw age a3 W i d) ∧ ∀ i' d, ¬ i' = i → r 49 i' d = m 49 i' d) := by
  unfold f_X2_measure
  refine v_s1 (P := fun r => fp [(49, none, none)] m r ∧ (∀ d, d < 8 → r 49 i d = z_mar N K A B H bn ct o lw age a3 W i d) ∧ ∀ i' d, ¬ i' = i → r 49 i' d = m 49 i' d) ?_ (fun r h => v_so h)
  refine v_for (fun j q => q.1.toInt = (j : Int) ∧ fp [(49, none, none)] m q.2 ∧ (∀ d, d < j → q.2 49 i d = z_mar N K A B H bn ct o lw age a3 W i d) ∧ ∀ i' d, ¬ i' = i → q.2 49 i' d = m 49 i' d) 0 8 (by decide) (by decide) ⟨i_0, fp_rf, fun d hd => absurd hd (Nat.not_lt_zero d), fun _ _ _ => rfl⟩ ?_ ?_
  · rintro j ⟨v, c⟩ hj ⟨hv, hf, hz, ho⟩
    dsimp only at hv hf hz ho ⊢
    have ia : mm_in a2 4 := v_in.mpr (by omega)
    have hTc := z_thC_fr (fun g i k hg => hf g i k (z_dis_of (by decide) hg)) hT
    have hsc := z_scC_fr (fun g i k hg => hf g i k (z_dis_of (by decide) hg)) hs
    refine v_ifn (by rw [iA_le, i_8]; omega) (v_ifp ia (v_lN (v_ifp ia ?_)))
    rw [n_k ha, Nat.zero_add, hf 47 0 i rfl, hW]
    refine v_b1e (c_margin (s := a3 + v * 500) (w := W i) ((hf 4 0 4 rfl).trans h4) ht hN h24 hTc hsc (fun p hp => (hf 36 0 p rfl).trans (hL p hp))) ?_
    refine v_ifp (v_in.mpr (by omega)) ?_
    rw [n_k hv]
    refine v_lM (v_l1 (v_il ⟨n_s3 hv (by omega), fp_w rfl hf, fun d hd => ?_, fun i' d hne => ?_⟩))
    · dsimp only
      by_cases e : d = j
      · rw [e, mw_s]
        unfold z_mar
        rw [n_0L (j := j) (by omega) hv]
      · rw [mw_k e]
        exact hz d (by omega)
    · dsimp only
      rw [mw_i hne]
      exact ho i' d hne
  · rintro ⟨v, c⟩ ⟨hv, hf, hz, ho⟩
    dsimp only at hv hf hz ho ⊢
    exact v_ifp (by rw [iA_le, i_8]; omega) (v_ir ⟨hf, hz, ho⟩)
theorem o_22 : q_Sim qJ 22 := fun m a hJ hop => by
  have hJ0 := hJ
  obtain ⟨hday, hfault, hdead, hstr, htap, hlaw, hev, hrow, hinq, hfound, hlamps, hnet, htsk, hdl, halo, hshe⟩ := hJ
  have hstr0 := hstr
  have hlaw0 := hlaw
  obtain ⟨T, hT8, hT1, hT2, hth⟩ := hstr
  have hstr := hstr0
  obtain ⟨lw, r, hr2, hr3, hr4, hlC, hlM, hdp⟩ := hlaw
  have hlaw := hlaw0
  have e124 : mm_w m 12 0 3 0 12 0 4 = Int32.ofNat T := (w3 (by decide)).trans hT2
  have i4 : (4 : Int32).toInt = 4 := by decide
  have i60 : (-60000 : Int32).toInt = -60000 := by decide
  have bad1 : f_X11_lamps (a 1) (a 2) (a 3) (a 4) (a 5) (a 6) (a 7) (a 8) m = some (.inl 1) → f_X12_lamps (a 1) (a 2) (a 3) (a 4) (a 5) (a 6) (a 7) (a 8) m = some (0, mm_w (mm_w m 12 0 3 0) 12 0 3 1) → ∃ mC mM, q_To m a mC mM ∧ qJ mC mM := fun eC eM => ⟨_, _, t_op22 hop eC eM (thrown_eq _) (fun e9 h => by cases h; exact Or.inl ⟨rfl, mw_s⟩) (fun t h => by cases h), qJ_3 fp_31 hJ0⟩
  have bad0 : f_X11_lamps (a 1) (a 2) (a 3) (a 4) (a 5) (a 6) (a 7) (a 8) m = some (.inl 0) → f_X12_lamps (a 1) (a 2) (a 3) (a 4) (a 5) (a 6) (a 7) (a 8) m = some (0, mm_w (mm_w m 12 0 3 0) 12 0 3 2) → ∃ mC mM, q_To m a mC mM ∧ qJ mC mM := fun eC eM => ⟨_, _, t_op22 hop eC eM (thrown_eq _) (fun e9 h => by cases h; exact Or.inr ⟨rfl, mw_s⟩) (fun t h => by cases h), qJ_3 fp_31 hJ0⟩
  rcases z_arg (a 1) T (by omega) with ⟨t, ht, ha1⟩ | ha1
  · obtain ⟨N, K, A, B, H, Y, hB, hC5, hM5⟩ := hth t ht
    have h24 : N ≤ 24 := hB.2.1
    have ht8 : t < 8 := by omega
    have hM' : z_thM (mm_w m 12 0 3 0) t N K A B H Y := z_thM_fr (fun g i k hg => w3 (fun z => by rw [z.1] at hg; cases hg)) hM5
    have cs : f_X11_strandOf (a 1) m = some (.inr t) := by rw [ha1]; exact c_sOk hT1 hT8 ht
    have rs : f_X12_isThread (a 1) (mm_w m 12 0 3 0) = some 1 := by rw [ha1]; exact r_iTk e124 hT8 ht
    have ta1 : (a 1).toInt = (t : Int) := by rw [ha1, nJ_T (by omega)]
    by_cases h8 : 0 ≤ (a 8).toInt ∧ (a 8).toInt ≤ 36499
    · by_cases h2 : 1 ≤ (a 2).toInt ∧ (a 2).toInt ≤ 4
      · have g21 : ¬ a 2 < 1 := by rw [iA_lt, i_1]; omega
        have g22 : ¬ 4 < a 2 := by rw [iA_lt, i4]; omega
        by_cases h3 : -60000 ≤ (a 3).toInt ∧ (a 3).toInt ≤ 20000
        · have g31 : ¬ a 3 < -60000 := by rw [iA_lt, i60]; omega
          have g32 : a 3 ≤ 20000 := by rw [iA_le, i_20000]; omega
          by_cases l4 : -60000 ≤ (a 4).toInt ∧ (a 4).toInt ≤ 30000
          · by_cases l5 : -60000 ≤ (a 5).toInt ∧ (a 5).toInt ≤ 30000
            · by_cases l6 : -60000 ≤ (a 6).toInt ∧ (a 6).toInt ≤ 30000
              · by_cases l7 : -60000 ≤ (a 7).toInt ∧ (a 7).toInt ≤ 30000
                · obtain ⟨bn, ct, o, hsC, hsM⟩ := z_scene (t := t) (D := a 8) (k := m 0 0 6) hev
                  have hNp : 1 ≤ N := hB.1
                  generalize hag : mm_max 0 (a 8 / 365 - Int32.ofNat Y) = age
                  have sC : vW (f_X11_showDay (a 1) (a 8) (m 0 0 6) m) (fun q => ∃ c, q = .inr c ∧ fp zC4 m c ∧ c 4 0 4 = Int32.ofNat t ∧ z_scC c bn ct o) := by rw [ha1]; exact hsC T hT1 hT8 ht
                  have sM : vW (f_X12_tellState (a 1) (a 8) (mm_w m 12 0 3 0 12 0 5) (mm_w m 12 0 3 0)) (fun c => fp zM4 (mm_w m 12 0 3 0) c ∧ z_scM c bn ct o) := by rw [ha1, w3 (by decide), ← hday.1]; exact hsM _ fp_30
                  have i9 : mm_in (a 1) 9 := v_in.mpr (by omega)
                  have k1 := n_k ta1
                  by_cases hw : ∀ p, p < N → ct p = -1
                  · obtain ⟨n, hn⟩ : ∃ n : Nat, (a 2).toInt = (n : Int) := ⟨(a 2).toInt.toNat, by omega⟩
                    have hn4 : n ≤ 4 := by omega
                    have h8n := z_8n hn4
                    have h8p : 0 < 8 ^ n := Nat.pow_pos (by decide)
                    generalize hW : z_need (a 4) (a 5) (a 6) (a 7) = W
                    obtain ⟨b, hb⟩ := z_ch_s (n := n) (M := z_mar N K A B H bn ct o lw age (a 3) W) (8 ^ n) h8p
                    have hbi := z_ch_i _ _ hb
                    have eC : vW (f_X11_lamps (a 1) (a 2) (a 3) (a 4) (a 5) (a 6) (a 7) (a 8) m) (fun q => ∃ c, q = .inr (b.1, c) ∧ fp [(4, none, some 4), (33, none, none), (34, none, none), (35, none, none), (23, none, none), (24, none, none), (36, none, none), (47, none, none), (49, none, none), (50, none, none), (51, none, none), (8, none, some 4)] m c ∧ c 8 0 4 = a 2 ∧ ∀ i, i < n → c 51 0 i = Int32.ofNat (z_dig n b.2.2 i)) := by
                      unfold f_X11_lamps
                      refine v_bxe cs ?_
                      refine v_bxe (c_dayk h8) ?_
                      refine v_ifn g21 (v_ifn g22 ?_)
                      refine v_ifn g31 (v_ifp g32 ?_)
                      refine v_bxe (c_levk l4) ?_
                      refine v_bxe (c_levk l5) ?_
                      refine v_bxe (c_levk l6) ?_
                      refine v_bxe (c_levk l7) ?_
                      refine v_sx sC (fun e h => by obtain ⟨_, h, _⟩ := h; cases h) ?_
                      rintro c ⟨_, hc1, hf, h44, hsc⟩
                      cases hc1
                      have hTc := z_thC_fr (fun g i k hg => hf g i k (z_dis_of (by decide) hg)) hC5
                      refine v_b1e (c_whole h44 ht8 h24 hTc.1 hsc) ?_
                      rw [if_pos hw]
                      refine v_ifp (by decide) ?_
                      refine v_s1 (P := fun r => fp [(47, none, none)] c r ∧ ∀ i, i < 4 → r 47 0 i = W i) ?_ ?_
                      · unfold f_X2_setNeeds
                        refine v_lM (v_lM (v_lM (v_lM (v_so ⟨fp_w rfl (fp_w rfl (fp_w rfl (fp_w rfl fp_rf))), fun i hi => ?_⟩))))
                        rw [← hW]
                        unfold z_need
                        rcases (by omega : i = 0 ∨ i = 1 ∨ i = 2 ∨ i = 3) with rfl | rfl | rfl | rfl
                        · simp (disch := first | omega | decide | fail) only [mw_s, mw_k, mw_i, mw_g]
                          rfl
                        · simp (disch := first | omega | decide | fail) only [mw_s, mw_k, mw_i, mw_g]
                          rfl
                        · simp (disch := first | omega | decide | fail) only [mw_s, mw_k, mw_i, mw_g]
                          rfl
                        · simp (disch := first | omega | decide | fail) only [mw_s, mw_k, mw_i, mw_g]
                          rfl
                      · rintro m11 ⟨hf11, hW11⟩
                        have f11 : fp [(4, none, some 4), (33, none, none), (34, none, none), (35, none, none), (23, none, none), (24, none, none), (36, none, none), (47, none, none), (49, none, none), (50, none, none), (51, none, none), (8, none, some 4)] m m11 := fp_tr (fp_sb (by decide) hf) (fp_sb (by decide) hf11)
                        refine v_s1 (P := fun r => fp [(23, none, none), (24, none, none), (36, none, none), (49, none, none)] m11 r ∧ ∀ i d, i < n → d < 8 → r 49 i d = z_mar N K A B H bn ct o lw age (a 3) W i d) ?_ ?_
                        · refine v_for (fun j q => q.1.toInt = (j : Int) ∧ fp [(23, none, none), (24, none, none), (36, none, none), (49, none, none)] m11 q.2 ∧ ∀ i d, i < j → d < 8 → q.2 49 i d = z_mar N K A B H bn ct o lw age (a 3) W i d) 0 n (Nat.zero_le _) (by omega) ⟨i_0, fp_rf, fun i d hi => absurd hi (Nat.not_lt_zero i)⟩ ?_ ?_
                          · rintro j ⟨v, c9⟩ hj ⟨hv, hf9, hz⟩
                            dsimp only at hv hf9 hz ⊢
                            have f9 : fp [(4, none, some 4), (33, none, none), (34, none, none), (35, none, none), (23, none, none), (24, none, none), (36, none, none), (47, none, none), (49, none, none), (50, none, none), (51, none, none), (8, none, some 4)] m c9 := fp_tr f11 (fp_sb (by decide) hf9)
                            have hT9 : z_thC c9 t N K A B H Y := z_thC_fr (fun g i k hg => f9 g i k (z_dis_of (by decide) hg)) hC5
                            have hl9 : ∀ k, k < 4 → z_cdC c9 r k (lw k) := fun k hk => z_cdC_fr (fun g i k hg => f9 g i k (z_dis_of (by decide) hg)) (hlC k hk)
                            have h03 : c9 0 0 3 = Int32.ofNat r := (f9 0 0 3 rfl).trans hr3
                            have h49 : c9 4 0 4 = Int32.ofNat t := (hf9 4 0 4 rfl).trans ((hf11 4 0 4 rfl).trans h44)
                            have hs9 : z_scC c9 bn ct o := z_scC_fr (fun g i k hg => hf9 g i k (z_dis_of (by decide) hg)) (z_scC_fr (fun g i k hg => hf11 g i k (z_dis_of (by decide) hg)) hsc)
                            have ev : v = Int32.ofNat j := n_0L (by omega) hv
                            refine v_ifn (by rw [iA_le]; omega) ?_
                            refine v_ifn (by rw [h03]; exact n_m1 (by omega)) (v_lN ?_)
                            rw [h03, nJ_N (by omega)]
                            refine v_b1e (c_age hT9.2.1) ?_
                            rw [hag]
                            refine v_s1 (c_weigh (age := age) (col := v) h49 ht8 hl9 hdp hB hT9) ?_
                            rintro m19 ⟨hf19, hL⟩
                            rw [ev] at hL
                            have hT19 : z_thC m19 t N K A B H Y := z_thC_fr (fun g i k hg => hf19 g i k (z_dis_of (by decide) hg)) hT9
                            have hs19 : z_scC m19 bn ct o := z_scC_fr (fun g i k hg => hf19 g i k (z_dis_of (by decide) hg)) hs9
                            refine v_s1 (c_meas (W := W) (a3 := a 3) ((hf19 4 0 4 rfl).trans h49) ht8 hNp h24 hT19 hs19 hL hv (by omega) ?_) ?_
                            · rw [hf19 47 0 j rfl, hf9 47 0 j rfl]
                              exact hW11 j (by omega)
                            · rintro m21 ⟨hf21, hz21, ho21⟩
                              refine v_l1 (v_il ⟨n_s3 hv (by omega), fp_tr hf9 (fp_tr (fp_sb (by decide) hf19) (fp_sb (by decide) hf21)), fun i d hi hd => ?_⟩)
                              dsimp only
                              by_cases e : i = j
                              · rw [e]
                                exact hz21 d hd
                              · rw [ho21 i d e, hf19 49 i d rfl]
                                exact hz i d (by omega) hd
                          · rintro ⟨v, c9⟩ ⟨hv, hf9, hz⟩
                            dsimp only at hv hf9 hz ⊢
                            exact v_ifp (by rw [iA_le]; omega) (v_ir ⟨hf9, hz⟩)
                        · rintro m23 ⟨hf23, hz23⟩
                          refine v_s2 (c_choose hn hn4 hz23 hb) ?_
                          rintro r24 m25 ⟨q1, q2, q3, q4⟩
                          dsimp only at q1 q2 q3 q4
                          exact v_so ⟨m25, by rw [q1], fp_tr f11 (fp_tr (fp_sb (by decide) hf23) (fp_sb (by decide) q2)), q3, q4⟩
                    have eM : vW (f_X12_lamps (a 1) (a 2) (a 3) (a 4) (a 5) (a 6) (a 7) (a 8) m) (fun q => q.1 = b.1 ∧ fp [(12, none, some 3), (87, none, none), (88, none, none), (89, none, none), (90, none, none), (84, none, none), (85, none, none), (108, none, none), (109, none, none), (110, none, none), (111, none, none), (12, none, some 72)] m q.2 ∧ q.2 12 0 3 = 0 ∧ q.2 12 0 72 = a 2 ∧ ∀ i, i < n → q.2 108 0 i = Int32.ofNat (z_dig n b.2.2 i)) := by
                      unfold f_X12_lamps
                      refine v_lM ?_
                      refine v_b1e rs (v_ifn (by decide) ?_)
                      refine v_b1e (r_is1 (by rw [i_0, i_36499]; exact h8)) (v_ifp (by decide) ?_)
                      refine v_b1e (r_is1 (by rw [i_1, i4]; exact h2)) (v_ifn (by decide) ?_)
                      refine v_b1e (r_is1 (by rw [i60, i_20000]; exact h3)) (v_ifn (by decide) ?_)
                      refine v_b1e (r_levk l4) (v_ifn (by decide) ?_)
                      refine v_b1e (r_levk l5) (v_ifn (by decide) ?_)
                      refine v_b1e (r_levk l6) (v_ifn (by decide) ?_)
                      refine v_b1e (r_levk l7) (v_ifp (by decide) ?_)
                      refine v_s1 sM ?_
                      rintro c ⟨hf, hsc⟩
                      have hTc := z_thM_fr (fun g i k hg => hf g i k (z_dis_of (by decide) hg)) hM'
                      have c67 : (c 67 0 (a 1).toNatClampNeg).toInt = (N : Int) := by rw [k1, hTc.1, nJ_T (by omega)]
                      refine v_ifp i9 ?_
                      refine v_b1e (r_dark h24 c67 hsc) ?_
                      rw [if_pos hw]
                      refine v_ifp rfl ?_
                      refine v_lM (v_lM (v_lM (v_lM ?_)))
                      have hf1 : fp [(12, none, some 3), (87, none, none), (88, none, none), (89, none, none), (90, none, none), (84, none, none), (85, none, none), (108, none, none), (109, none, none), (110, none, none), (111, none, none), (12, none, some 72)] m c := fp_tr (fp_sb (by decide) fp_30) (fp_sb (by decide) hf)
                      have c3 : c 12 0 3 = 0 := (hf 12 0 3 rfl).trans mw_s
                      generalize hm28 : mm_w (mm_w (mm_w (mm_w c 109 0 0 (a 4)) 109 0 1 (a 5)) 109 0 2 (a 6)) 109 0 3 (a 7) = m28
                      have f28c : fp [(109, none, none)] c m28 := by rw [← hm28]; exact fp_w rfl (fp_w rfl (fp_w rfl (fp_w rfl fp_rf)))
                      have W28 : ∀ i, i < 4 → m28 109 0 i = W i := fun i hi => by
                        rw [← hm28, ← hW]
                        unfold z_need
                        rcases (by omega : i = 0 ∨ i = 1 ∨ i = 2 ∨ i = 3) with rfl | rfl | rfl | rfl
                        · simp (disch := first | omega | decide | fail) only [mw_s, mw_k, mw_i, mw_g]
                          rfl
                        · simp (disch := first | omega | decide | fail) only [mw_s, mw_k, mw_i, mw_g]
                          rfl
                        · simp (disch := first | omega | decide | fail) only [mw_s, mw_k, mw_i, mw_g]
                          rfl
                        · simp (disch := first | omega | decide | fail) only [mw_s, mw_k, mw_i, mw_g]
                          rfl
                      clear hm28
                      have f28 : fp [(12, none, some 3), (87, none, none), (88, none, none), (89, none, none), (90, none, none), (84, none, none), (85, none, none), (108, none, none), (109, none, none), (110, none, none), (111, none, none), (12, none, some 72)] m m28 := fp_tr hf1 (fp_sb (by decide) f28c)
                      have s28 : z_scM m28 bn ct o := z_scM_fr (fun g i k hg => f28c g i k (z_dis_of (by decide) hg)) hsc
                      have t28 : m28 12 0 3 = 0 := (f28c 12 0 3 rfl).trans c3
                      refine v_s1 (P := fun r => fp [(84, none, none), (85, none, none), (111, none, none)] m28 r ∧ ∀ i d, i < n → d < 8 → r 111 0 (8 * i + d) = z_mar N K A B H bn ct o lw age (a 3) W i d) ?_ ?_
                      · refine v_for (fun j q => q.1.toInt = (j : Int) ∧ fp [(84, none, none), (85, none, none), (111, none, none)] m28 q.2 ∧ ∀ i d, i < j → d < 8 → q.2 111 0 (8 * i + d) = z_mar N K A B H bn ct o lw age (a 3) W i d) 0 n (Nat.zero_le _) (by omega) ⟨i_0, fp_rf, fun i d hi => absurd hi (Nat.not_lt_zero i)⟩ ?_ ?_
                        · rintro j ⟨v, c9⟩ hj ⟨hv, hf9, hz⟩
                          dsimp only at hv hf9 hz ⊢
                          have ev : v = Int32.ofNat j := n_0L (by omega) hv
                          refine v_ifn (by rw [iA_le]; omega) ?_
                          refine v_s1 (P := fun r => fp [(84, none, none), (85, none, none), (111, none, none)] m28 r ∧ (∀ i d, i < j → d < 8 → r 111 0 (8 * i + d) = z_mar N K A B H bn ct o lw age (a 3) W i d) ∧ ∀ d, d < 8 → r 111 0 (8 * j + d) = z_mar N K A B H bn ct o lw age (a 3) W j d) ?_ ?_
                          · refine v_for (fun e q => q.1.toInt = (e : Int) ∧ fp [(84, none, none), (85, none, none), (111, none, none)] m28 q.2 ∧ (∀ i d, i < j → d < 8 → q.2 111 0 (8 * i + d) = z_mar N K A B H bn ct o lw age (a 3) W i d) ∧ ∀ d, d < e → q.2 111 0 (8 * j + d) = z_mar N K A B H bn ct o lw age (a 3) W j d) 0 8 (by decide) (by decide) ⟨i_0, hf9, hz, fun d hd => absurd hd (Nat.not_lt_zero d)⟩ ?_ ?_
                            · rintro e ⟨u, c8⟩ he ⟨hu, hf8, hz8, hy8⟩
                              dsimp only at hu hf8 hz8 hy8 ⊢
                              have f8 : fp [(12, none, some 3), (87, none, none), (88, none, none), (89, none, none), (90, none, none), (84, none, none), (85, none, none), (108, none, none), (109, none, none), (110, none, none), (111, none, none), (12, none, some 72)] m c8 := fp_tr f28 (fp_sb (by decide) hf8)
                              have hT8' : z_thM c8 t N K A B H Y := z_thM_fr (fun g i k hg => f8 g i k (z_dis_of (by decide) hg)) hM5
                              have hl8 : ∀ k, k < 4 → z_cdM c8 k (lw k) := fun k hk => z_cdM_fr (fun g i k hg => f8 g i k (z_dis_of (by decide) hg)) (hlM k hk)
                              have hs8 : z_scM c8 bn ct o := z_scM_fr (fun g i k hg => hf8 g i k (z_dis_of (by decide) hg)) s28
                              refine v_ifn (by rw [iA_le, i_8]; omega) (v_ifp (v_in.mpr (by omega)) ?_)
                              refine v_b1e (r_age ta1 ht8 hT8'.2.1) ?_
                              rw [hag, n_k hv, hf8 109 0 j rfl, W28 j (by omega)]
                              refine v_s2 (r_margin (s := a 3 + 500 * u) (w := W j) (col := v) (age := age) ht8 hl8 hdp hB hT8' hs8 ta1) ?_
                              rintro r36 m37 ⟨h36, hf37⟩
                              dsimp only at h36 hf37
                              have hix : (8 * v + u).toInt = ((8 * j + e : Nat) : Int) := iA_addN (iA_mulN (show (8 : Int32).toInt = ((8 : Nat) : Int) by decide) hv (by omega)) hu (by omega)
                              refine v_ifp (v_in.mpr (by omega)) ?_
                              rw [n_k hix]
                              refine v_lM (v_l1 (v_il ⟨n_s3 hu (by omega), fp_w rfl (fp_tr hf8 (fp_sb (by decide) hf37)), fun i d hi hd => ?_, fun d hd => ?_⟩))
                              · dsimp only
                                rw [mw_k (by omega), hf37 111 0 _ rfl]
                                exact hz8 i d hi hd
                              · dsimp only
                                by_cases e2 : d = e
                                · rw [e2, mw_s, h36, ev]
                                  unfold z_mar
                                  rw [n_0L (j := e) (by omega) hu, Int32.mul_comm 500]
                                · rw [mw_k (by omega), hf37 111 0 _ rfl]
                                  exact hy8 d (by omega)
                            · rintro ⟨u, c8⟩ ⟨hu, hf8, hz8, hy8⟩
                              dsimp only at hu hf8 hz8 hy8 ⊢
                              exact v_ifp (by rw [iA_le, i_8]; omega) (v_ir ⟨hf8, hz8, hy8⟩)
                          · rintro c8 ⟨hf8, hz8, hy8⟩
                            refine v_l1 (v_il ⟨n_s3 hv (by omega), hf8, fun i d hi hd => ?_⟩)
                            dsimp only
                            by_cases e : i = j
                            · rw [e]
                              exact hy8 d hd
                            · exact hz8 i d (by omega) hd
                        · rintro ⟨v, c9⟩ ⟨hv, hf9, hz⟩
                          dsimp only at hv hf9 hz ⊢
                          exact v_ifp (by rw [iA_le]; omega) (v_ir ⟨hf9, hz⟩)
                      · rintro m42 ⟨hf42, hz42⟩
                        have f42 : fp [(12, none, some 3), (87, none, none), (88, none, none), (89, none, none), (90, none, none), (84, none, none), (85, none, none), (108, none, none), (109, none, none), (110, none, none), (111, none, none), (12, none, some 72)] m m42 := fp_tr f28 (fp_sb (by decide) hf42)
                        have t42 : m42 12 0 3 = 0 := (hf42 12 0 3 rfl).trans t28
                        clear hf42 f28 s28 t28 W28 f28c
                        refine v_s1 (r_pow hn hn4) ?_
                        intro v48 h48
                        refine v_s1 (P := fun q => q.1 = b.1 ∧ fp [(110, none, none), (108, none, none)] m42 q.2 ∧ ∀ i, i < n → q.2 108 0 i = Int32.ofNat (z_dig n b.2.2 i)) ?_ ?_
                        · refine v_for (fun k q => q.2.2.2.1.toInt = (k : Int) ∧ fp [(110, none, none), (108, none, none)] m42 q.2.2.2.2 ∧ ((z_ch n (z_mar N K A B H bn ct o lw age (a 3) W) k = none ∧ q.1 = 0) ∨ ∃ b, z_ch n (z_mar N K A B H bn ct o lw age (a 3) W) k = some b ∧ q.1 = 1 ∧ q.2.1 = b.1 ∧ q.2.2.1 = b.2.1 ∧ ∀ i, i < n → q.2.2.2.2 108 0 i = Int32.ofNat (z_dig n b.2.2 i))) 0 (8 ^ n) (Nat.zero_le _) (by omega) ⟨i_0, fp_rf, Or.inl ⟨rfl, rfl⟩⟩ ?_ ?_
                          · rintro k ⟨v50, v51, v52, v53, c⟩ hk ⟨hv, hf, hz⟩
                            dsimp only at hv hf hz ⊢
                            have ev : v53 = Int32.ofNat k := n_0L (by omega) hv
                            refine v_ifn (by rw [iA_le]; omega) ?_
                            refine v_lI (fun w hw => ?_)
                            have ew : w.toInt = (n : Int) - 1 := by rw [hw, n_0 (by omega), hn]
                            clear hw
                            refine v_s1 (P := fun q => q.1 = z_sm k n ∧ fp [(110, none, none)] c q.2 ∧ ∀ i, i < n → q.2 110 0 i = Int32.ofNat (z_dig n k i)) ?_ ?_
                            · refine v_for (fun j q => q.1 = Int32.ofNat (k / 8 ^ j) ∧ q.2.1 = z_sm k j ∧ q.2.2.1.toInt = (n : Int) - 1 - j ∧ fp [(110, none, none)] c q.2.2.2 ∧ ∀ i, i < n → n - j ≤ i → q.2.2.2 110 0 i = Int32.ofNat (z_dig n k i)) 0 n (Nat.zero_le _) (by omega) ⟨by rw [ev]; show _ = Int32.ofNat (k / 1); rw [Nat.div_one], rfl, by dsimp only; omega, fp_rf, fun i h1 h2 => by omega⟩ ?_ ?_
                              · rintro j ⟨v3, v4, v5, c5⟩ hj ⟨h3, h4, h5, hf5, hz5⟩
                                dsimp only at h3 h4 h5 hf5 hz5 ⊢
                                obtain ⟨u, hu⟩ : ∃ u, n = j + 1 + u := ⟨n - j - 1, by omega⟩
                                have h5' : v5.toInt = (u : Int) := by omega
                                have iv : mm_in v5 4 := v_in.mpr (by omega)
                                have hkj : k / 8 ^ j < 100000 := Nat.lt_of_le_of_lt (Nat.div_le_self _ _) (by omega)
                                refine v_ifn (by rw [iA_lt, i_0]; omega) (v_ifp iv (v_lM (v_l (v_ifp iv ?_))))
                                rw [n_k h5', h3, n_mod8 (by omega), n_div8 (by omega), h4]
                                refine v_l (v_l (v_il ⟨?_, ?_, ?_, fp_w rfl hf5, fun i h1 h2 => ?_⟩))
                                · rw [Nat.div_div_eq_div_mul, ← Nat.pow_succ]
                                · rw [mw_s]
                                  rfl
                                · dsimp only
                                  rw [n_p1 (by omega)]
                                  omega
                                · dsimp only
                                  by_cases e : i = u
                                  · rw [e, mw_s]
                                    unfold z_dig
                                    rw [show n - 1 - u = j by omega]
                                  · rw [mw_k e]
                                    exact hz5 i h1 (by omega)
                              · rintro ⟨v3, v4, v5, c5⟩ ⟨h3, h4, h5, hf5, hz5⟩
                                dsimp only at h3 h4 h5 hf5 hz5 ⊢
                                exact v_ifp (by rw [iA_lt, i_0]; omega) (v_ir ⟨h4, hf5, fun i hi => hz5 i hi (by omega)⟩)
                            · rintro ⟨v65, m66⟩ ⟨h65, hf66, hd⟩
                              dsimp only at h65 hf66 hd ⊢
                              have hM66 : ∀ i d, i < n → d < 8 → m66 111 0 (8 * i + d) = (z_mar N K A B H bn ct o lw age (a 3) W) i d := fun i d hi hd2 => by rw [hf66 111 0 _ rfl, hf 111 0 _ rfl]; exact hz42 i d hi hd2
                              have hf66' : fp [(110, none, none), (108, none, none)] m42 m66 := fp_tr hf (fp_sb (by decide) hf66)
                              refine v_s1 (r_lstL (M := (z_mar N K A B H bn ct o lw age (a 3) W)) hn hn4 hd (fun i => z_dig_lt) hM66) ?_
                              rintro v75 rfl
                              by_cases hup : z_ch n (z_mar N K A B H bn ct o lw age (a 3) W) (k + 1) = some (z_lm n (z_mar N K A B H bn ct o lw age (a 3) W) (z_dig n k) n, z_sm k n, k)
                              · refine v_lK0 ?_ (fun k76 hk76 => ?_)
                                · refine v_s1 (P := fun r => fp [(108, none, none)] m66 r ∧ ∀ i, i < n → r 108 0 i = Int32.ofNat (z_dig n k i)) ?_ ?_
                                  · refine v_for (fun j q => q.1.toInt = (j : Int) ∧ fp [(108, none, none)] m66 q.2 ∧ ∀ i, i < j → q.2 108 0 i = Int32.ofNat (z_dig n k i)) 0 n (Nat.zero_le _) (by omega) ⟨i_0, fp_rf, fun i hi => absurd hi (Nat.not_lt_zero i)⟩ ?_ ?_
                                    · rintro j ⟨u, c5⟩ hj ⟨hu, hf5, hz5⟩
                                      dsimp only at hu hf5 hz5 ⊢
                                      have iu : mm_in u 4 := v_in.mpr (by omega)
                                      refine v_ifn (by rw [iA_le]; omega) (v_ifp iu (v_ifp iu (v_lM ?_)))
                                      rw [n_k hu, hf5 110 0 j rfl, hd j hj]
                                      refine v_l1 (v_il ⟨n_s3 hu (by omega), fp_w rfl hf5, fun i hi => ?_⟩)
                                      dsimp only
                                      by_cases e : i = j
                                      · rw [e, mw_s]
                                      · rw [mw_k e]
                                        exact hz5 i (by omega)
                                    · rintro ⟨u, c5⟩ ⟨hu, hf5, hz5⟩
                                      dsimp only at hu hf5 hz5 ⊢
                                      exact v_ifp (by rw [iA_le]; omega) (v_ir ⟨hf5, hz5⟩)
                                  · rintro m82 ⟨hf82, hz82⟩
                                    exact v_l1 (v_il ⟨n_s3 hv (by omega), fp_tr hf66' (fp_sb (by decide) hf82), Or.inr ⟨_, hup, rfl, rfl, h65, hz82⟩⟩)
                                · rcases hz with ⟨hz1, h9⟩ | ⟨b0, hz1, g0, g1, g2, g3⟩
                                  · exact v_ifp h9 hk76
                                  · have hup2 := hup
                                    unfold z_ch at hup2
                                    rw [hz1] at hup2
                                    dsimp only at hup2
                                    have hcond : b0.1 < z_lm n (z_mar N K A B H bn ct o lw age (a 3) W) (z_dig n k) n ∨ (z_lm n (z_mar N K A B H bn ct o lw age (a 3) W) (z_dig n k) n = b0.1 ∧ z_sm k n < b0.2.1) := by
                                      apply Classical.byContradiction
                                      intro g
                                      rw [if_neg g] at hup2
                                      have hbe := Option.some.inj hup2
                                      have hlt : b0.2.2 < k := z_ch_i k b0 hz1
                                      rw [hbe] at hlt
                                      exact absurd hlt (Nat.lt_irrefl k)
                                    refine v_ifn (by rw [g0]; decide) ?_
                                    rcases hcond with h | ⟨h, h'⟩
                                    · refine v_ifn (by rw [g1, iA_lt]; rw [iA_lt] at h; omega) ?_
                                      exact v_ifp (by rw [g1]; intro z; rw [z, iA_lt] at h; omega) hk76
                                    · refine v_ifn (by rw [g1, h, iA_lt]; omega) ?_
                                      refine v_ifn (by rw [g1]; exact fun z => z h) ?_
                                      exact v_ifp (by rw [g2, h65]; exact h') hk76
                              · rcases hz with ⟨hz1, h9⟩ | ⟨b0, hz1, g0, g1, g2, g3⟩
                                · exfalso
                                  apply hup
                                  unfold z_ch
                                  rw [hz1]
                                · have hng : ¬ (b0.1 < z_lm n (z_mar N K A B H bn ct o lw age (a 3) W) (z_dig n k) n ∨ (z_lm n (z_mar N K A B H bn ct o lw age (a 3) W) (z_dig n k) n = b0.1 ∧ z_sm k n < b0.2.1)) := fun g => hup (by
                                    unfold z_ch
                                    rw [hz1]
                                    dsimp only
                                    rw [if_pos g])
                                  have hnx : z_ch n (z_mar N K A B H bn ct o lw age (a 3) W) (k + 1) = some b0 := by
                                    unfold z_ch
                                    rw [hz1]
                                    dsimp only
                                    rw [if_neg hng]
                                  have keep : (v53 + 1).toInt = ((k + 1 : Nat) : Int) ∧ fp [(110, none, none), (108, none, none)] m42 m66 ∧ ((z_ch n (z_mar N K A B H bn ct o lw age (a 3) W) (k + 1) = none ∧ v50 = 0) ∨ ∃ b, z_ch n (z_mar N K A B H bn ct o lw age (a 3) W) (k + 1) = some b ∧ v50 = 1 ∧ v51 = b.1 ∧ v52 = b.2.1 ∧ ∀ i, i < n → m66 108 0 i = Int32.ofNat (z_dig n b.2.2 i)) := ⟨n_s3 hv (by omega), hf66', Or.inr ⟨b0, hnx, g0, g1, g2, fun i hi => by rw [hf66 108 0 i rfl]; exact g3 i hi⟩⟩
                                  refine v_lO ?_
                                  refine v_ifn (by rw [g0]; decide) ?_
                                  by_cases e1 : z_lm n (z_mar N K A B H bn ct o lw age (a 3) W) (z_dig n k) n < b0.1
                                  · exact v_ifp (by rw [g1]; exact e1) (v_l1 (v_il keep))
                                  · refine v_ifn (by rw [g1]; exact e1) ?_
                                    have e2 : z_lm n (z_mar N K A B H bn ct o lw age (a 3) W) (z_dig n k) n = b0.1 := by
                                      have : ¬ b0.1 < z_lm n (z_mar N K A B H bn ct o lw age (a 3) W) (z_dig n k) n := fun z => hng (Or.inl z)
                                      rw [iA_lt] at e1 this
                                      rw [iA_eq]
                                      omega
                                    refine v_ifn (by rw [g1]; exact fun z => z e2) ?_
                                    exact v_ifn (by rw [g2, h65]; exact fun z => hng (Or.inr ⟨e2, z⟩)) (v_l1 (v_il keep))
                          · rintro ⟨v50, v51, v52, v53, c⟩ ⟨hv, hf, hz⟩
                            dsimp only at hv hf hz ⊢
                            refine v_ifp (by rw [iA_le]; omega) (v_ir ?_)
                            rcases hz with ⟨hz1, _⟩ | ⟨b0, hz1, g0, g1, g2, g3⟩
                            · rw [hb] at hz1
                              cases hz1
                            · rw [hb] at hz1
                              cases hz1
                              exact ⟨g1, hf, g3⟩
                        · rintro ⟨v86, m87⟩ ⟨h86, hf87, hz87⟩
                          dsimp only at h86 hf87 hz87 ⊢
                          refine v_lM (v_so ⟨h86, fp_w rfl (fp_tr f42 (fp_sb (by decide) hf87)), ?_, by dsimp only; exact mw_s, fun i hi => ?_⟩)
                          · dsimp only
                            rw [mw_k (by decide), hf87 12 0 3 rfl]
                            exact t42
                          · dsimp only
                            rw [mw_g (by decide)]
                            exact hz87 i hi
                    obtain ⟨q, hC1, mC, rfl, hC, c84, c51⟩ := eC
                    obtain ⟨⟨v, mM⟩, hM1, hM2, hM, hM3, m72, m108⟩ := eM
                    dsimp only at hM2 hM hM3 m72 m108
                    subst hM2
                    have hj : j_lamps mC mM := by
                      refine ⟨c84.trans m72.symm, by rw [c84]; omega, by rw [c84]; omega, fun k hk => ?_⟩
                      rw [c84] at hk
                      rw [c51 k (by omega), m108 k (by omega)]
                    refine ⟨_, _, t_op22 hop hC1 hM1 (thrown_eq _) (fun e9 h => by cases h) (fun t h => ?_), ⟨j_day_kp hC hM (by decide) (by decide) hday, j_fault_kp hC hM (by decide) (by decide) hfault, j_dead_kp hC hM (by decide) (by decide) hdead, j_str_kp hC hM (by decide) (by decide) hstr, j_tap_kp hC hM (by decide) (by decide) htap, j_law_kp hC hM (by decide) (by decide) hlaw, j_ev_kp hC hM (by decide) (by decide) hev, j_row_kp hC hM (by decide) (by decide) hrow, j_inq_kp hC hM (by decide) (by decide) hinq, j_found_kp hC hM (by decide) (by decide) hfound, hj, j_net_kp hC hM (by decide) (by decide) hnet, j_tsk_kp hC hM (by decide) (by decide) htsk, j_dl_kp hC hM (by decide) (by decide) hdl, j_alo_kp hC hM (by decide) (by decide) halo, j_she_kp hC hM (by decide) (by decide) hshe⟩⟩
                    cases h
                    exact ⟨hM3, rfl⟩
                  · have eC : vW (f_X11_lamps (a 1) (a 2) (a 3) (a 4) (a 5) (a 6) (a 7) (a 8) m) (fun q => ∃ c, q = .inr (-1000000, c) ∧ fp [(4, none, some 4), (33, none, none), (34, none, none), (35, none, none)] m c) := by
                      unfold f_X11_lamps
                      refine v_bxe cs ?_
                      refine v_bxe (c_dayk h8) ?_
                      refine v_ifn g21 (v_ifn g22 ?_)
                      refine v_ifn g31 (v_ifp g32 ?_)
                      refine v_bxe (c_levk l4) ?_
                      refine v_bxe (c_levk l5) ?_
                      refine v_bxe (c_levk l6) ?_
                      refine v_bxe (c_levk l7) ?_
                      refine v_sx sC (fun e h => by obtain ⟨_, h, _⟩ := h; cases h) ?_
                      rintro c ⟨_, hc1, hf, h44, hsc⟩
                      cases hc1
                      have hTc := z_thC_fr (fun g i k hg => hf g i k (z_dis_of (by decide) hg)) hC5
                      refine v_b1e (c_whole h44 ht8 h24 hTc.1 hsc) ?_
                      rw [if_neg hw]
                      exact v_ifn (by decide) (v_so ⟨c, rfl, hf⟩)
                    have eM : vW (f_X12_lamps (a 1) (a 2) (a 3) (a 4) (a 5) (a 6) (a 7) (a 8) m) (fun q => q.1 = -1000000 ∧ fp [(12, none, some 3), (87, none, none), (88, none, none), (89, none, none), (90, none, none)] m q.2 ∧ q.2 12 0 3 = 0) := by
                      unfold f_X12_lamps
                      refine v_lM ?_
                      refine v_b1e rs (v_ifn (by decide) ?_)
                      refine v_b1e (r_is1 (by rw [i_0, i_36499]; exact h8)) (v_ifp (by decide) ?_)
                      refine v_b1e (r_is1 (by rw [i_1, i4]; exact h2)) (v_ifn (by decide) ?_)
                      refine v_b1e (r_is1 (by rw [i60, i_20000]; exact h3)) (v_ifn (by decide) ?_)
                      refine v_b1e (r_levk l4) (v_ifn (by decide) ?_)
                      refine v_b1e (r_levk l5) (v_ifn (by decide) ?_)
                      refine v_b1e (r_levk l6) (v_ifn (by decide) ?_)
                      refine v_b1e (r_levk l7) (v_ifp (by decide) ?_)
                      refine v_s1 sM ?_
                      rintro c ⟨hf, hsc⟩
                      have hTc := z_thM_fr (fun g i k hg => hf g i k (z_dis_of (by decide) hg)) hM'
                      have c67 : (c 67 0 (a 1).toNatClampNeg).toInt = (N : Int) := by rw [k1, hTc.1, nJ_T (by omega)]
                      refine v_ifp i9 ?_
                      refine v_b1e (r_dark h24 c67 hsc) ?_
                      rw [if_neg hw]
                      exact v_ifn (by decide) (v_so ⟨rfl, fp_tr (fp_sb (by decide) fp_30) (fp_sb (by decide) hf), (hf 12 0 3 rfl).trans mw_s⟩)
                    obtain ⟨q, hC1, mC, rfl, hC⟩ := eC
                    obtain ⟨⟨v, mM⟩, hM1, hM2, hM, hM3⟩ := eM
                    dsimp only at hM2 hM hM3
                    subst hM2
                    refine ⟨_, _, t_op22 hop hC1 hM1 (thrown_eq _) (fun e9 h => by cases h) (fun t h => ?_), ⟨j_day_kp hC hM (by decide) (by decide) hday, j_fault_kp hC hM (by decide) (by decide) hfault, j_dead_kp hC hM (by decide) (by decide) hdead, j_str_kp hC hM (by decide) (by decide) hstr, j_tap_kp hC hM (by decide) (by decide) htap, j_law_kp hC hM (by decide) (by decide) hlaw, j_ev_kp hC hM (by decide) (by decide) hev, j_row_kp hC hM (by decide) (by decide) hrow, j_inq_kp hC hM (by decide) (by decide) hinq, j_found_kp hC hM (by decide) (by decide) hfound, j_lamps_kp hC hM (by decide) (by decide) hlamps, j_net_kp hC hM (by decide) (by decide) hnet, j_tsk_kp hC hM (by decide) (by decide) htsk, j_dl_kp hC hM (by decide) (by decide) hdl, j_alo_kp hC hM (by decide) (by decide) halo, j_she_kp hC hM (by decide) (by decide) hshe⟩⟩
                    cases h
                    exact ⟨hM3, rfl⟩
                · refine bad0 (v_is ?_) (v_is ?_)
                  · unfold f_X11_lamps
                    refine v_bxe cs ?_
                    refine v_bxe (c_dayk h8) ?_
                    refine v_ifn g21 (v_ifn g22 ?_)
                    refine v_ifn g31 (v_ifp g32 ?_)
                    refine v_bxe (c_levk l4) ?_
                    refine v_bxe (c_levk l5) ?_
                    refine v_bxe (c_levk l6) ?_
                    exact v_bxi (c_levn l7) rfl
                  · unfold f_X12_lamps
                    refine v_lM ?_
                    refine v_b1e rs (v_ifn (by decide) ?_)
                    refine v_b1e (r_is1 (by rw [i_0, i_36499]; exact h8)) (v_ifp (by decide) ?_)
                    refine v_b1e (r_is1 (by rw [i_1, i4]; exact h2)) (v_ifn (by decide) ?_)
                    refine v_b1e (r_is1 (by rw [i60, i_20000]; exact h3)) (v_ifn (by decide) ?_)
                    refine v_b1e (r_levk l4) (v_ifn (by decide) ?_)
                    refine v_b1e (r_levk l5) (v_ifn (by decide) ?_)
                    refine v_b1e (r_levk l6) (v_ifn (by decide) ?_)
                    refine v_b1e (r_levn l7) ?_
                    first | refine v_ifn (by decide) ?_ | refine v_ifp (by decide) ?_
                    exact v_b2e r_fail2 (v_so rfl)
              · refine bad0 (v_is ?_) (v_is ?_)
                · unfold f_X11_lamps
                  refine v_bxe cs ?_
                  refine v_bxe (c_dayk h8) ?_
                  refine v_ifn g21 (v_ifn g22 ?_)
                  refine v_ifn g31 (v_ifp g32 ?_)
                  refine v_bxe (c_levk l4) ?_
                  refine v_bxe (c_levk l5) ?_
                  exact v_bxi (c_levn l6) rfl
                · unfold f_X12_lamps
                  refine v_lM ?_
                  refine v_b1e rs (v_ifn (by decide) ?_)
                  refine v_b1e (r_is1 (by rw [i_0, i_36499]; exact h8)) (v_ifp (by decide) ?_)
                  refine v_b1e (r_is1 (by rw [i_1, i4]; exact h2)) (v_ifn (by decide) ?_)
                  refine v_b1e (r_is1 (by rw [i60, i_20000]; exact h3)) (v_ifn (by decide) ?_)
                  refine v_b1e (r_levk l4) (v_ifn (by decide) ?_)
                  refine v_b1e (r_levk l5) (v_ifn (by decide) ?_)
                  refine v_b1e (r_levn l6) ?_
                  first | refine v_ifn (by decide) ?_ | refine v_ifp (by decide) ?_
                  exact v_b2e r_fail2 (v_so rfl)
            · refine bad0 (v_is ?_) (v_is ?_)
              · unfold f_X11_lamps
                refine v_bxe cs ?_
                refine v_bxe (c_dayk h8) ?_
                refine v_ifn g21 (v_ifn g22 ?_)
                refine v_ifn g31 (v_ifp g32 ?_)
                refine v_bxe (c_levk l4) ?_
                exact v_bxi (c_levn l5) rfl
              · unfold f_X12_lamps
                refine v_lM ?_
                refine v_b1e rs (v_ifn (by decide) ?_)
                refine v_b1e (r_is1 (by rw [i_0, i_36499]; exact h8)) (v_ifp (by decide) ?_)
                refine v_b1e (r_is1 (by rw [i_1, i4]; exact h2)) (v_ifn (by decide) ?_)
                refine v_b1e (r_is1 (by rw [i60, i_20000]; exact h3)) (v_ifn (by decide) ?_)
                refine v_b1e (r_levk l4) (v_ifn (by decide) ?_)
                refine v_b1e (r_levn l5) ?_
                first | refine v_ifn (by decide) ?_ | refine v_ifp (by decide) ?_
                exact v_b2e r_fail2 (v_so rfl)
          · refine bad0 (v_is ?_) (v_is ?_)
            · unfold f_X11_lamps
              refine v_bxe cs ?_
              refine v_bxe (c_dayk h8) ?_
              refine v_ifn g21 (v_ifn g22 ?_)
              refine v_ifn g31 (v_ifp g32 ?_)
              exact v_bxi (c_levn l4) rfl
            · unfold f_X12_lamps
              refine v_lM ?_
              refine v_b1e rs (v_ifn (by decide) ?_)
              refine v_b1e (r_is1 (by rw [i_0, i_36499]; exact h8)) (v_ifp (by decide) ?_)
              refine v_b1e (r_is1 (by rw [i_1, i4]; exact h2)) (v_ifn (by decide) ?_)
              refine v_b1e (r_is1 (by rw [i60, i_20000]; exact h3)) (v_ifn (by decide) ?_)
              refine v_b1e (r_levn l4) ?_
              first | refine v_ifn (by decide) ?_ | refine v_ifp (by decide) ?_
              exact v_b2e r_fail2 (v_so rfl)
        · refine bad0 (v_is ?_) (v_is ?_)
          · unfold f_X11_lamps
            refine v_bxe cs ?_
            refine v_bxe (c_dayk h8) ?_
            refine v_ifn g21 (v_ifn g22 ?_)
            by_cases h0 : (a 3).toInt < -60000
            · exact v_ifp (by rw [iA_lt, i60]; exact h0) (v_so rfl)
            · exact v_ifn (by rw [iA_lt, i60]; exact h0) (v_ifn (by rw [iA_le, i_20000]; omega) (v_so rfl))
          · unfold f_X12_lamps
            refine v_lM ?_
            refine v_b1e rs (v_ifn (by decide) ?_)
            refine v_b1e (r_is1 (by rw [i_0, i_36499]; exact h8)) (v_ifp (by decide) ?_)
            refine v_b1e (r_is1 (by rw [i_1, i4]; exact h2)) (v_ifn (by decide) ?_)
            refine v_b1e (r_is0 (by rw [i60, i_20000]; exact h3)) ?_
            first | refine v_ifn (by decide) ?_ | refine v_ifp (by decide) ?_
            exact v_b2e r_fail2 (v_so rfl)
      · refine bad0 (v_is ?_) (v_is ?_)
        · unfold f_X11_lamps
          refine v_bxe cs ?_
          refine v_bxe (c_dayk h8) ?_
          by_cases h0 : (a 2).toInt < 1
          · exact v_ifp (by rw [iA_lt, i_1]; exact h0) (v_so rfl)
          · exact v_ifn (by rw [iA_lt, i_1]; exact h0) (v_ifp (by rw [iA_lt, i4]; omega) (v_so rfl))
        · unfold f_X12_lamps
          refine v_lM ?_
          refine v_b1e rs (v_ifn (by decide) ?_)
          refine v_b1e (r_is1 (by rw [i_0, i_36499]; exact h8)) (v_ifp (by decide) ?_)
          refine v_b1e (r_is0 (by rw [i_1, i4]; exact h2)) ?_
          first | refine v_ifn (by decide) ?_ | refine v_ifp (by decide) ?_
          exact v_b2e r_fail2 (v_so rfl)
    · refine bad1 (v_is ?_) (v_is ?_)
      · unfold f_X11_lamps
        refine v_bxe cs ?_
        exact v_bxi (c_dayn h8) rfl
      · unfold f_X12_lamps
        refine v_lM ?_
        refine v_b1e rs (v_ifn (by decide) ?_)
        refine v_b1e (r_is0 (by rw [i_0, i_36499]; exact h8)) ?_
        first | refine v_ifn (by decide) ?_ | refine v_ifp (by decide) ?_
        exact v_b2e r_fail1 (v_so rfl)
  · refine bad1 (v_is ?_) (v_is ?_)
    · unfold f_X11_lamps
      exact v_bxi (c_sOn hT1 hT8 ha1) rfl
    · unfold f_X12_lamps
      refine v_lM ?_
      refine v_b1e (r_iTn e124 hT8 ha1) ?_
      first | refine v_ifn (by decide) ?_ | refine v_ifp (by decide) ?_
      exact v_b2e r_fail1 (v_so rfl)
