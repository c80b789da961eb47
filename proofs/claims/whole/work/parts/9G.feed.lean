/-! feed -/
theorem n_255 (w : Int32) : 0 ≤ (w &&& 255).toInt ∧ (w &&& 255).toInt < 256 := by
  have h1 : (w &&& 255).toBitVec.toNat ≤ 255 := by
    rw [Int32.toBitVec_and, BitVec.toNat_and]
    exact Nat.le_trans Nat.and_le_right (by decide)
  have h2 : (w &&& 255).toInt = ((w &&& 255).toBitVec.toNat : Int) := by
    rw [← Int32.toInt_toBitVec]
    exact BitVec.toInt_eq_toNat_of_lt (by omega)
  omega
theorem n_by (w : Int32) : (w &&& 255).toInt8 = w.toInt8 := by
  rw [Int32.toInt8_and, show (255 : Int32).toInt8 = -1 by decide, Int8.and_neg_one]
/-- the j-th byte of a number, the highest first -/
def z_sh (x : Int32) (j : Nat) : Int32 := x >>> (Int32.ofNat (24 - 8 * j) &&& 31)
theorem c_app {m : mm_M} {n : Nat} {x : Int32} (hn : m 1 0 1 = Int32.ofNat n) (h : n ≤ 396) : vW (f_X9_append x m) (fun r => fp [(1, none, some 1), (15, none, none)] m r ∧ r 1 0 1 = Int32.ofNat (n + 4) ∧ (∀ j, j < 4 → r 15 0 (n + j) = (z_sh x j).toInt8.toInt32) ∧ ∀ k, ¬ (n ≤ k ∧ k < n + 4) → r 15 0 k = m 15 0 k) := by
  unfold f_X9_append
  refine v_s1 (P := fun r => fp [(1, none, some 1), (15, none, none)] m r ∧ r 1 0 1 = Int32.ofNat (n + 4) ∧ (∀ j, j < 4 → r 15 0 (n + j) = (z_sh x j).toInt8.toInt32) ∧ ∀ k, ¬ (n ≤ k ∧ k < n + 4) → r 15 0 k = m 15 0 k) ?_ (fun c h => v_so h)
  refine v_for (fun i q => q.1.toInt = 24 - 8 * (i : Int) ∧ fp [(1, none, some 1), (15, none, none)] m q.2 ∧ q.2 1 0 1 = Int32.ofNat (n + i) ∧ (∀ j, j < i → q.2 15 0 (n + j) = (z_sh x j).toInt8.toInt32) ∧ ∀ k, ¬ (n ≤ k ∧ k < n + i) → q.2 15 0 k = m 15 0 k) 0 4 (by decide) (by decide) ⟨by show (24 : Int32).toInt = 24 - 8 * ((0 : Nat) : Int); decide, fp_rf, hn, fun k hk => absurd hk (Nat.not_lt_zero k), fun _ _ => rfl⟩ ?_ ?_
  · rintro i ⟨v, c⟩ hi ⟨hv, hf, h1, hz, ho⟩
    dsimp only at hv hf h1 hz ho ⊢
    have ev : v = Int32.ofNat (24 - 8 * i) := n_0L (by omega) (by omega)
    have e1 : mm_in (c 1 0 1) 400 := by rw [h1]; exact nJ_in (by omega) (by decide)
    have k1 : (c 1 0 1).toNatClampNeg = n + i := by rw [h1]; exact nJ_N (by omega)
    have i8 : (-8 : Int32).toInt = -8 := by decide
    have hv8 : (v + (-8)).toInt = 24 - 8 * ((i + 1 : Nat) : Int) := by
      rw [iA_add (by rw [i8]; omega) (by rw [i8]; omega), i8]
      omega
    refine v_ifn (by rw [iA_lt, i_0]; omega) ?_
    refine v_ifn (by rw [iA_le, h1, nJ_T (by omega), show (400 : Int32).toInt = 400 by decide]; omega) ?_
    refine v_ifp e1 (v_lM (v_lM ?_))
    refine v_l (v_il ?_)
    rw [k1, mw_g (show 1 ≠ 15 by decide), h1, n_a1]
    refine ⟨hv8, fp_w rfl (fp_w rfl hf), by dsimp only; rw [mw_s]; rfl, fun j hj => ?_, fun k hk => ?_⟩
    · dsimp only
      rw [mw_g (show 15 ≠ 1 by decide)]
      by_cases e : j = i
      · rw [e, mw_s, Int8.toInt8_toInt32, ev]
        rfl
      · rw [mw_k (by omega)]
        exact hz j (by omega)
    · dsimp only
      rw [mw_g (show 15 ≠ 1 by decide), mw_k (by omega)]
      exact ho k (by omega)
  · rintro ⟨v, c⟩ ⟨hv, hf, h1, hz, ho⟩
    dsimp only at hv hf h1 hz ho ⊢
    refine v_ifp (by rw [iA_lt, i_0]; omega) ?_
    exact v_ir ⟨hf, h1, hz, ho⟩
theorem z_mod4 : ∀ i : Fin 20, (24 : Int32) - 8 * (Int32.ofNat i.val % 4) = Int32.ofNat (24 - 8 * (i.val % 4)) := by decide
/-- the i-th of the twenty bytes -/
def z_fb (a : Nat → Int32) (i : Nat) : Int32 := z_sh (a (i / 4 + 1)) (i % 4)
theorem o_0 : q_Sim qJ 0 := fun m a hJ hop => by
  have hJ0 := hJ
  obtain ⟨hday, hfault, hdead, hstr, htap, hlaw, hev, hrow, hinq, hfound, hlamps, hnet, htsk, hdl, halo, hshe⟩ := hJ
  obtain ⟨n, hn4, hn1, hn2, hb⟩ := htap
  by_cases h : n ≤ 380
  · have eC : vW (f_X11_feed (a 1) (a 2) (a 3) (a 4) (a 5) m) (fun q => q.1 = Int32.ofNat (n + 20) ∧ fp [(1, none, some 1), (15, none, none)] m q.2 ∧ q.2 1 0 1 = Int32.ofNat (n + 20) ∧ (∀ i, i < 20 → q.2 15 0 (n + i) = (z_fb a i).toInt8.toInt32) ∧ ∀ k, k < n → q.2 15 0 k = m 15 0 k) := by
      unfold f_X11_feed
      refine v_ifp (by rw [hn1, iA_le, nJ_T (by omega), show (380 : Int32).toInt = 380 by decide]; omega) ?_
      refine v_s1 (c_app hn1 (by omega)) ?_
      rintro m1 ⟨f1, n1, z1, o1⟩
      refine v_s1 (c_app n1 (by omega)) ?_
      rintro m2 ⟨f2, n2, z2, o2⟩
      refine v_s1 (c_app n2 (by omega)) ?_
      rintro m3 ⟨f3, n3, z3, o3⟩
      refine v_s1 (c_app n3 (by omega)) ?_
      rintro m4 ⟨f4, n4, z4, o4⟩
      refine v_s1 (c_app n4 (by omega)) ?_
      rintro m5 ⟨f5, n5, z5, o5⟩
      refine v_so ⟨n5, fp_tr f1 (fp_tr f2 (fp_tr f3 (fp_tr f4 f5))), n5, fun i hi => ?_, fun k hk => ?_⟩
      · dsimp only
        unfold z_fb
        rcases (by omega : i < 4 ∨ (4 ≤ i ∧ i < 8) ∨ (8 ≤ i ∧ i < 12) ∨ (12 ≤ i ∧ i < 16) ∨ (16 ≤ i ∧ i < 20)) with c | c | c | c | c
        · rw [show i / 4 = 0 by omega, show i % 4 = i by omega, o5 _ (by omega), o4 _ (by omega), o3 _ (by omega), o2 _ (by omega)]
          exact z1 i c
        · rw [show i / 4 = 1 by omega, show i % 4 = i - 4 by omega, o5 _ (by omega), o4 _ (by omega), o3 _ (by omega), show n + i = n + 4 + (i - 4) by omega]
          exact z2 (i - 4) (by omega)
        · rw [show i / 4 = 2 by omega, show i % 4 = i - 8 by omega, o5 _ (by omega), o4 _ (by omega), show n + i = n + 4 + 4 + (i - 8) by omega]
          exact z3 (i - 8) (by omega)
        · rw [show i / 4 = 3 by omega, show i % 4 = i - 12 by omega, o5 _ (by omega), show n + i = n + 4 + 4 + 4 + (i - 12) by omega]
          exact z4 (i - 12) (by omega)
        · rw [show i / 4 = 4 by omega, show i % 4 = i - 16 by omega, show n + i = n + 4 + 4 + 4 + 4 + (i - 16) by omega]
          exact z5 (i - 16) (by omega)
      · dsimp only
        rw [o5 _ (by omega), o4 _ (by omega), o3 _ (by omega), o2 _ (by omega), o1 _ (by omega)]
    have eM : vW (f_X12_feed (a 1) (a 2) (a 3) (a 4) (a 5) m) (fun q => q.1 = Int32.ofNat (n + 20) ∧ fp [(12, none, some 3), (12, none, some 21), (80, none, none)] m q.2 ∧ q.2 12 0 21 = Int32.ofNat (n + 20) ∧ (∀ i, i < 20 → q.2 80 0 (n + i) = z_fb a i &&& 255) ∧ ∀ k, k < n → q.2 80 0 k = m 80 0 k) := by
      unfold f_X12_feed
      refine v_lM ?_
      have e21 : mm_w m 12 0 3 0 12 0 21 = Int32.ofNat n := (w3 (by decide)).trans hn2
      have i20 : (20 : Int32).toInt = ((20 : Nat) : Int) := by decide
      refine v_ifp (by rw [e21, iA_le, iA_addN (nJ_T (by omega)) i20 (by omega), show (400 : Int32).toInt = 400 by decide]; omega) ?_
      generalize hm1 : mm_w m 12 0 3 0 = m1 at e21 ⊢
      have f1 : fp [(12, none, some 3)] m m1 := by rw [← hm1]; exact fp_30
      clear hm1
      refine v_s1 (P := fun c => fp [(12, none, some 21), (80, none, none)] m1 c ∧ c 12 0 21 = Int32.ofNat (n + 20) ∧ (∀ i, i < 20 → c 80 0 (n + i) = z_fb a i &&& 255) ∧ ∀ k, k < n → c 80 0 k = m 80 0 k) ?_ ?_
      · refine v_for (fun j q => q.1.toInt = (j : Int) ∧ fp [(12, none, some 21), (80, none, none)] m1 q.2 ∧ q.2 12 0 21 = Int32.ofNat (n + j) ∧ (∀ i, i < j → q.2 80 0 (n + i) = z_fb a i &&& 255) ∧ ∀ k, k < n → q.2 80 0 k = m 80 0 k) 0 20 (by decide) (by decide) ⟨i_0, fp_rf, e21, fun k hk => absurd hk (Nat.not_lt_zero k), fun k _ => f1 80 0 k rfl⟩ ?_ ?_
        · rintro j ⟨v, c⟩ hj ⟨hv, hf, h1, hz, ho⟩
          dsimp only at hv hf h1 hz ho ⊢
          have ev : v = Int32.ofNat j := n_0L (by omega) hv
          have es : (24 : Int32) - 8 * (v % 4) = Int32.ofNat (24 - 8 * (j % 4)) := by rw [ev]; exact z_mod4 ⟨j, hj⟩
          have e1 : mm_in (c 12 0 21) 400 := by rw [h1]; exact nJ_in (by omega) (by decide)
          have k1 : (c 12 0 21).toNatClampNeg = n + j := by rw [h1]; exact nJ_N (by omega)
          have i4 : (4 : Int32).toInt = 4 := by decide
          have i12 : (12 : Int32).toInt = 12 := by decide
          have i16 : (16 : Int32).toInt = 16 := by decide
          have fin : ∀ x, x = a (j / 4 + 1) → (mm_w (mm_w c 80 0 (c 12 0 21).toNatClampNeg ((x >>> ((24 - (8 * (v % 4))) &&& 31)) &&& 255)) 12 0 21 ((mm_w c 80 0 (c 12 0 21).toNatClampNeg ((x >>> ((24 - (8 * (v % 4))) &&& 31)) &&& 255)) 12 0 21 + 1)) = (mm_w (mm_w c 80 0 (n + j) (z_fb a j &&& 255)) 12 0 21 (Int32.ofNat (n + j + 1))) := fun x hx => by
            rw [mw_g (show 12 ≠ 80 by decide), k1, h1, n_a1, es, hx]
            rfl
          refine v_ifn (by rw [iA_le, i20]; omega) (v_lF ?_)
          have tail : (v + 1).toInt = ((j + 1 : Nat) : Int) ∧ fp [(12, none, some 21), (80, none, none)] m1 (mm_w (mm_w c 80 0 (n + j) (z_fb a j &&& 255)) 12 0 21 (Int32.ofNat (n + j + 1))) ∧ (mm_w (mm_w c 80 0 (n + j) (z_fb a j &&& 255)) 12 0 21 (Int32.ofNat (n + j + 1))) 12 0 21 = Int32.ofNat (n + (j + 1)) ∧ (∀ i, i < j + 1 → (mm_w (mm_w c 80 0 (n + j) (z_fb a j &&& 255)) 12 0 21 (Int32.ofNat (n + j + 1))) 80 0 (n + i) = z_fb a i &&& 255) ∧ ∀ k, k < n → (mm_w (mm_w c 80 0 (n + j) (z_fb a j &&& 255)) 12 0 21 (Int32.ofNat (n + j + 1))) 80 0 k = m 80 0 k := by
            refine ⟨n_s3 hv (by omega), fp_w rfl (fp_w rfl hf), mw_s, fun i hi => ?_, fun k hk => ?_⟩
            · rw [mw_g (show 80 ≠ 12 by decide)]
              by_cases e : i = j
              · rw [e, mw_s]
              · rw [mw_k (by omega)]
                exact hz i (by omega)
            · rw [mw_g (show 80 ≠ 12 by decide), mw_k (by omega)]
              exact ho k hk
          by_cases g4 : 4 ≤ j
          · refine v_ifp (by rw [iA_le, i4]; omega) ?_
            by_cases g8 : 8 ≤ j
            · refine v_ifp (by rw [iA_le, i_8]; omega) ?_
              by_cases g12 : 12 ≤ j
              · refine v_ifp (by rw [iA_le, i12]; omega) ?_
                by_cases g16 : 16 ≤ j
                · refine v_ifp (by rw [iA_le, i16]; omega) ?_
                  refine v_ifp e1 (v_lM (v_lM (v_l1 (v_il ?_))))
                  rw [fin (a 5) (by rw [show j / 4 + 1 = 5 by omega])]
                  exact tail
                · refine v_ifn (by rw [iA_le, i16]; omega) ?_
                  refine v_ifp e1 (v_lM (v_lM (v_l1 (v_il ?_))))
                  rw [fin (a 4) (by rw [show j / 4 + 1 = 4 by omega])]
                  exact tail
              · refine v_ifn (by rw [iA_le, i12]; omega) ?_
                refine v_ifp e1 (v_lM (v_lM (v_l1 (v_il ?_))))
                rw [fin (a 3) (by rw [show j / 4 + 1 = 3 by omega])]
                exact tail
            · refine v_ifn (by rw [iA_le, i_8]; omega) ?_
              refine v_ifp e1 (v_lM (v_lM (v_l1 (v_il ?_))))
              rw [fin (a 2) (by rw [show j / 4 + 1 = 2 by omega])]
              exact tail
          · refine v_ifn (by rw [iA_le, i4]; omega) ?_
            refine v_ifp e1 (v_lM (v_lM (v_l1 (v_il ?_))))
            rw [fin (a 1) (by rw [show j / 4 + 1 = 1 by omega])]
            exact tail
        · rintro ⟨v, c⟩ ⟨hv, hf, h1, hz, ho⟩
          dsimp only at hv hf h1 hz ho ⊢
          refine v_ifp (by rw [iA_le, i20]; omega) ?_
          exact v_ir ⟨hf, h1, hz, ho⟩
      · rintro c ⟨hf, h1, hz, ho⟩
        exact v_so ⟨h1, fp_tr (fp_sb (by decide) f1) (fp_sb (by decide) hf), h1, hz, ho⟩
    obtain ⟨⟨v, mC⟩, hC1, hv, hC, c1, c2, c3⟩ := eC
    dsimp only at hv hC c1 c2 c3
    subst hv
    obtain ⟨⟨u, mM⟩, hM1, hu, hM, m1, m2, m3⟩ := eM
    dsimp only at hu hM m1 m2 m3
    subst hu
    have hj : j_tap mC mM := by
      refine ⟨n + 20, by omega, c1, m1, fun k hk => ?_⟩
      by_cases hkn : k < n
      · rw [c3 k hkn, m3 k hkn]
        exact hb k hkn
      · obtain ⟨i, hi⟩ : ∃ i, k = n + i := ⟨k - n, by omega⟩
        rw [hi, c2 i (by omega), m2 i (by omega)]
        have h255 := n_255 (z_fb a i)
        refine ⟨(z_fb a i &&& 255).toInt.toNat, by omega, n_of h255.1, ?_⟩
        rw [← n_of h255.1, n_by]
    exact ⟨_, _, t_op0 hop hC1 hM1, ⟨j_day_kp hC hM (by decide) (by decide) hday, j_fault_kp hC hM (by decide) (by decide) hfault, j_dead_kp hC hM (by decide) (by decide) hdead, j_str_kp hC hM (by decide) (by decide) hstr, hj, j_law_kp hC hM (by decide) (by decide) hlaw, j_ev_kp hC hM (by decide) (by decide) hev, j_row_kp hC hM (by decide) (by decide) hrow, j_inq_kp hC hM (by decide) (by decide) hinq, j_found_kp hC hM (by decide) (by decide) hfound, j_lamps_kp hC hM (by decide) (by decide) hlamps, j_net_kp hC hM (by decide) (by decide) hnet, j_tsk_kp hC hM (by decide) (by decide) htsk, j_dl_kp hC hM (by decide) (by decide) hdl, j_alo_kp hC hM (by decide) (by decide) halo, j_she_kp hC hM (by decide) (by decide) hshe⟩⟩
  · have eC : f_X11_feed (a 1) (a 2) (a 3) (a 4) (a 5) m = some (-1, m) := v_is (by
      unfold f_X11_feed
      exact v_ifn (by rw [hn1, iA_le, nJ_T (by omega), show (380 : Int32).toInt = 380 by decide]; omega) (v_so rfl))
    have eM : f_X12_feed (a 1) (a 2) (a 3) (a 4) (a 5) m = some (-1, mm_w m 12 0 3 0) := v_is (by
      unfold f_X12_feed
      refine v_lM ?_
      have e21 : mm_w m 12 0 3 0 12 0 21 = Int32.ofNat n := (w3 (by decide)).trans hn2
      have i20 : (20 : Int32).toInt = ((20 : Nat) : Int) := by decide
      exact v_ifn (by rw [e21, iA_le, iA_addN (nJ_T (by omega)) i20 (by omega), show (400 : Int32).toInt = 400 by decide]; omega) (v_so rfl))
    exact ⟨_, _, t_op0 hop eC eM, qJ_3 fp_30 hJ0⟩
