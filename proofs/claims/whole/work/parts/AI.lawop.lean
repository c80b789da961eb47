/-! the op law -/
abbrev zLC : zT := [(1, none, some 1), (1, none, some 5), (1, none, some 6), (1, none, some 7), (1, none, some 8), (1, none, some 9), (1, none, some 10), (16, none, none), (17, none, none), (18, none, none), (0, none, some 5), (0, none, some 3), (0, none, some 4), (2, none, none), (19, none, none), (20, none, none), (21, none, none), (22, none, none)]
abbrev zLM : zT := [(12, none, some 3), (12, none, some 21), (12, none, some 22), (12, none, some 23), (12, none, some 24), (12, none, some 25), (12, none, some 26), (12, none, some 27), (12, none, some 28), (12, none, some 29), (12, none, some 30), (12, none, some 31), (12, none, some 32), (81, none, none), (82, none, none), (83, none, none), (86, none, none)]
theorem c_lg_fp {i : Nat} {c r : mm_M} (h : c_lg i c r) : fp zLC c r := fun g j k hz => h g j k (fun z => by
  rcases z with ⟨rfl, h1, h2⟩ | ⟨_, ⟨rfl, rfl⟩ | h3⟩
  · rcases (by omega : k = 6 ∨ k = 7 ∨ k = 8 ∨ k = 9 ∨ k = 10) with rfl | rfl | rfl | rfl | rfl <;> exact z_inf rfl hz
  · exact z_inf rfl hz
  · rcases (by omega : g = 19 ∨ g = 20 ∨ g = 21 ∨ g = 22) with rfl | rfl | rfl | rfl <;> exact z_inf rfl hz)
theorem r_lh_fp {m r : mm_M} (h : r_lh m r) : fp zLM m r := fun g j k hz => h g j k (fun z => by
  rcases z with ⟨rfl, h1⟩ | ⟨rfl, _⟩ | ⟨h3, _⟩
  · rcases (by omega : k = 22 ∨ k = 24 ∨ k = 25 ∨ k = 26 ∨ k = 27 ∨ k = 28 ∨ k = 29 ∨ k = 30 ∨ k = 32) with rfl | rfl | rfl | rfl | rfl | rfl | rfl | rfl | rfl <;> exact z_inf rfl hz
  · exact z_inf rfl hz
  · rcases h3 with rfl | rfl | rfl <;> exact z_inf rfl hz)
theorem law_J {m c r : mm_M} (hJ : qJ m m) (hC : fp zLC m c) (hM : fp zLM m r) (htC : c 1 0 1 = 0) (htM : r 12 0 21 = 0) (hf : c 0 0 5 = r 12 0 31) (jl : j_law c r) : qJ c r := by
  obtain ⟨hday, hfault, hdead, hstr, htap, hlaw, hev, hrow, hinq, hfound, hlamps, hnet, htsk, hdl, halo, hshe⟩ := hJ
  have jt : j_tap c r := ⟨0, by omega, htC, htM, fun k hk => absurd hk (Nat.not_lt_zero k)⟩
  exact ⟨j_day_kp hC hM (by decide) (by decide) hday, hf, j_dead_kp hC hM (by decide) (by decide) hdead, j_str_kp hC hM (by decide) (by decide) hstr, jt, jl, j_ev_kp hC hM (by decide) (by decide) hev, j_row_kp hC hM (by decide) (by decide) hrow, j_inq_kp hC hM (by decide) (by decide) hinq, j_found_kp hC hM (by decide) (by decide) hfound, j_lamps_kp hC hM (by decide) (by decide) hlamps, j_net_kp hC hM (by decide) (by decide) hnet, j_tsk_kp hC hM (by decide) (by decide) htsk, j_dl_kp hC hM (by decide) (by decide) hdl, j_alo_kp hC hM (by decide) (by decide) halo, j_she_kp hC hM (by decide) (by decide) hshe⟩
theorem law_jC {c : mm_M} {i : Nat} {x : zCd × zSl} (hg : z_gs x.1 x.2) (hl : x.1.length ≤ 400) (hcd : c_cd c i x.1) (hsl : c_sl c i x.2) : ∀ k, k < 4 → z_cdC c i k ((x.2 k).map (·.2)) := fun k hk => by
  obtain ⟨h1, h2⟩ := hsl k hk
  cases hx : x.2 k with
  | none => exact h1 hx
  | some y =>
    obtain ⟨⟨R, hR⟩, hd⟩ := hg k y hx
    obtain ⟨h3, h4⟩ := h2 y hx
    rw [hR, List.length_append, List.length_append] at hl
    refine ⟨y.1.length, h3, h4, by show y.1.length + y.2.length ≤ 400; omega, fun j e he => ?_⟩
    have hj := (List.getElem?_eq_some_iff.mp he).1
    refine hcd.2 (y.1.length + j) e ?_
    rw [hR, List.append_assoc, List.getElem?_append_right (by omega), Nat.add_sub_cancel_left, List.getElem?_append_left hj]
    exact he
theorem law_jM {r : mm_M} {x : zCd × zSl} (hg : z_gs x.1 x.2) (hl : x.1.length ≤ 400) (h83 : ∀ j e, (z_enc x.1)[j]? = some e → r 83 0 j = e) (hsl : ∀ k, k < 4 → (x.2 k = none → r 86 0 k = 0) ∧ ∀ y, x.2 k = some y → r 86 0 k = 1 ∧ r 81 0 k = Int32.ofNat (z_enc y.1).length ∧ r 82 0 k = Int32.ofNat ((z_enc y.1).length + (z_enc y.2).length)) : ∀ k, k < 4 → z_cdM r k ((x.2 k).map (·.2)) := fun k hk => by
  obtain ⟨h1, h2⟩ := hsl k hk
  cases hx : x.2 k with
  | none => exact h1 hx
  | some y =>
    obtain ⟨⟨R, hR⟩, hd⟩ := hg k y hx
    obtain ⟨h3, h4, h5⟩ := h2 y hx
    have h6 := z_enc_2 x.1
    have hE : z_enc x.1 = z_enc y.1 ++ z_enc y.2 ++ z_enc R := by rw [hR, z_enc_app, z_enc_app]
    rw [hE, List.length_append, List.length_append] at h6
    refine ⟨h3, (z_enc y.1).length, h4, h5, by show (z_enc y.1).length + (z_enc y.2).length ≤ 800; omega, fun j e he => ?_⟩
    have hj := (List.getElem?_eq_some_iff.mp he).1
    refine h83 ((z_enc y.1).length + j) e ?_
    rw [hE, List.append_assoc, List.getElem?_append_right (by omega), Nat.add_sub_cancel_left, List.getElem?_append_left hj]
    exact he
theorem z_cdC_k {c c' : mm_M} {i k : Nat} {o : Option (List (Int32 × Int32))} (h : ∀ g k, 19 ≤ g → g ≤ 22 → c' g i k = c g i k) (hz : z_cdC c i k o) : z_cdC c' i k o := by
  cases o with
  | none => exact (h 21 k (by omega) (by omega)).trans hz
  | some cd =>
    obtain ⟨b, h1, h2, h3, h4⟩ := hz
    exact ⟨b, (h 21 k (by omega) (by omega)).trans h1, (h 22 k (by omega) (by omega)).trans h2, h3, fun j e hj => ⟨(h 19 _ (by omega) (by omega)).trans (h4 j e hj).1, (h 20 _ (by omega) (by omega)).trans (h4 j e hj).2⟩⟩
theorem z_cdM_k {c c' : mm_M} {k : Nat} {o : Option (List (Int32 × Int32))} (hk : k < 4) (h : ∀ g k, (g = 81 ∨ g = 82 ∨ g = 86) → k < 4 → c' g 0 k = c g 0 k) (h83 : ∀ k, k < 800 → c' 83 0 k = c 83 0 k) (hz : z_cdM c k o) : z_cdM c' k o := by
  cases o with
  | none => exact (h 86 k (by omega) hk).trans hz
  | some cd =>
    obtain ⟨h0, b, h1, h2, h3, h4⟩ := hz
    refine ⟨(h 86 k (by omega) hk).trans h0, b, (h 81 k (by omega) hk).trans h1, (h 82 k (by omega) hk).trans h2, h3, fun j e hj => ?_⟩
    have hl := (List.getElem?_eq_some_iff.mp hj).1
    exact (h83 _ (by omega)).trans (h4 j e hj)
theorem o_2 : q_Sim qJ 2 := fun m a hJ hop => by
  have hJ0 := hJ
  obtain ⟨hday, hfault, hdead, hstr, htap, hlaw, hev, hrow, hinq, hfound, hlamps, hnet, htsk, hdl, halo, hshe⟩ := hJ
  obtain ⟨t, B, ht4, ht1, ht2, hBt⟩ := z_tapB htap
  obtain ⟨lw, r, hr2, hl3, hl4, hlC, hlM, hld⟩ := hlaw
  by_cases hok : 0 ≤ (a 1).toInt ∧ (a 1).toInt ≤ (t : Int)
  · obtain ⟨n, hn⟩ : ∃ n : Nat, (a 1).toInt = (n : Int) := ⟨(a 1).toInt.toNat, by omega⟩
    have hnt : n ≤ t := by omega
    have nb : f_X11_needBytes (a 1) m = some (.inr ()) := v_is (by
      unfold f_X11_needBytes
      refine v_ifn (by rw [iA_lt, i_0]; omega) ?_
      exact v_ifp (by rw [iA_le, ht1, nJ_T (by omega)]; omega) (v_so rfl))
    have opn := c_open (m := m) (B := B) ⟨by omega, fun k hk => ⟨(hBt k (by omega)).1, (hBt k (by omega)).2.2⟩⟩ hn ht1 ht4 hnt
    have bnd : ∀ x, z_cls B n 17 [] (fun _ => none) 0 = .inr x → z_gs x.1 x.2 ∧ x.1.length ≤ n := fun x hx => z_cls_b 17 [] (fun _ => none) 0 x (Nat.zero_le n) (Nat.le_refl 0) (fun k y hy => (by cases hy)) hx
    -- the class
    have eCx : vW (f_X11_law (a 1) m) (fun o => ∃ y c, o = .inr (y, c) ∧ fp zLC m c ∧ c 1 0 1 = 0 ∧ ((∃ x, z_cls B n 17 [] (fun _ => none) 0 = .inr x ∧ y = 0 ∧ c 0 0 5 = -1 ∧ c 0 0 3 = Int32.ofNat (1 - r) ∧ c 0 0 4 = Int32.ofNat r ∧ c_cd c (1 - r) x.1 ∧ c_sl c (1 - r) x.2) ∨ (∃ e, z_cls B n 17 [] (fun _ => none) 0 = .inl e ∧ y = Int32.ofNat e.1 ∧ c 0 0 5 = Int32.ofNat e.2 ∧ c 0 0 3 = Int32.ofNat r ∧ c 0 0 4 = Int32.ofNat (1 - r) ∧ ∀ g k, 19 ≤ g → g ≤ 22 → c g r k = m g r k))) := by
      unfold f_X11_law
      refine v_bxe nb ?_
      refine v_s1 opn ?_
      rintro m3 ⟨f3, t3, at3⟩
      refine v_lM ?_
      have f4 : fp zLC m (mm_w m3 0 0 5 (-1)) := fp_w rfl (fp_sb (by decide) f3)
      have g3 : mm_w m3 0 0 5 (-1) 0 0 3 = Int32.ofNat r := (mw_k (by decide)).trans ((f3 0 0 3 rfl).trans hl3)
      have g4 : mm_w m3 0 0 5 (-1) 0 0 4 = Int32.ofNat (1 - r) := (mw_k (by decide)).trans ((f3 0 0 4 rfl).trans hl4)
      have g5 : mm_w m3 0 0 5 (-1) 0 0 5 = -1 := mw_s
      have g1 : mm_w m3 0 0 5 (-1) 1 0 1 = 0 := (mw_g (by decide)).trans t3
      have g19 : ∀ g k, 19 ≤ g → g ≤ 22 → mm_w m3 0 0 5 (-1) g r k = m g r k := fun g k h1 h2 => (mw_g (by omega)).trans (by
        rcases (by omega : g = 19 ∨ g = 20 ∨ g = 21 ∨ g = 22) with rfl | rfl | rfl | rfl <;> exact f3 _ r k rfl)
      have at4 := c_at_fr (L := [(0, none, none)]) (r := mm_w m3 0 0 5 (-1)) (fp_w rfl fp_rf) (by decide) at3
      generalize mm_w m3 0 0 5 (-1) = m4 at f4 g3 g4 g5 g1 g19 at4 ⊢
      refine v_ifn (by rw [g4]; exact n_m1 (by omega)) ?_
      refine v_lN ?_
      rw [show (m4 0 0 4).toNatClampNeg = 1 - r by rw [g4, nJ_N (by omega)]]
      refine v_s2 (c_law (B := B) (n := n) (i := 1 - r) (by omega) at4) ?_
      rintro y m7 ⟨l7, hs⟩
      dsimp only at l7 hs
      have f7 := fp_tr f4 (c_lg_fp l7)
      have e1 : m7 1 0 1 = 0 := (l7 1 0 1 (fun z => by omega)).trans g1
      have e3 : m7 0 0 3 = Int32.ofNat r := (l7 0 0 3 (fun z => by omega)).trans g3
      have e4 : m7 0 0 4 = Int32.ofNat (1 - r) := (l7 0 0 4 (fun z => by omega)).trans g4
      have e5 : m7 0 0 5 = -1 := (l7 0 0 5 (fun z => by omega)).trans g5
      rcases hs with ⟨x, hx, h1, hcd, hsl⟩ | ⟨e, hx, h1, h9, h10⟩
      · refine v_ifp (by rw [h1]; decide) ?_
        refine v_ifn (by rw [e3]; exact n_m1 (by omega)) ?_
        refine v_lN ?_
        rw [show (m7 0 0 3).toNatClampNeg = r by rw [e3, nJ_N (by omega)]]
        refine v_ifn (by rw [e4]; exact n_m1 (by omega)) ?_
        refine v_lN ?_
        rw [show (m7 0 0 4).toNatClampNeg = 1 - r by rw [e4, nJ_N (by omega)]]
        refine v_lM ?_
        refine v_lM ?_
        have ff : fp [(0, none, some 3), (0, none, some 4)] m7 (mm_w (mm_w m7 0 0 3 (Int32.ofNat (1 - r))) 0 0 4 (Int32.ofNat r)) := fp_w rfl (fp_w rfl fp_rf)
        refine v_so ⟨_, _, rfl, fp_tr f7 (fp_sb (by decide) ff), (ff 1 0 1 rfl).trans e1, Or.inl ⟨x, hx, rfl, (ff 0 0 5 rfl).trans e5, ?_, mw_s, c_cd_fr ff (by decide) hcd, fun k hk => ?_⟩⟩
        · rw [mw_k (by decide)]
          exact mw_s
        · rw [ff 21 (1 - r) k rfl, ff 22 (1 - r) k rfl]
          exact hsl k hk
      · refine v_ifn (fun z => z h1) ?_
        rw [h10]
        refine v_lM ?_
        rw [show mm_w m7 0 0 5 (Int32.ofNat e.2) 1 0 9 = Int32.ofNat e.1 from (mw_g (by decide)).trans h9]
        refine v_so ⟨_, _, rfl, fp_w rfl f7, (mw_g (by decide)).trans e1, Or.inr ⟨e, hx, rfl, mw_s, (mw_k (by decide)).trans e3, (mw_k (by decide)).trans e4, fun g k h1 h2 => ?_⟩⟩
        rw [mw_g (by omega), l7 g r k (fun z => by omega)]
        exact g19 g k h1 h2
    -- the reference
    have eMx : vW (f_X12_law (a 1) m) (fun q => q.2 12 0 3 = 0 ∧ fp zLM m q.2 ∧ q.2 12 0 21 = 0 ∧ ((∃ x, z_cls B n 17 [] (fun _ => none) 0 = .inr x ∧ q.1 = 0 ∧ q.2 12 0 31 = -1 ∧ ∀ k, k < 4 → z_cdM q.2 k ((x.2 k).map (·.2))) ∨ (∃ e, z_cls B n 17 [] (fun _ => none) 0 = .inl e ∧ q.1 = Int32.ofNat e.1 ∧ q.2 12 0 31 = Int32.ofNat e.2 ∧ (∀ g k, (g = 81 ∨ g = 82 ∨ g = 86) → k < 4 → q.2 g 0 k = m g 0 k) ∧ ∀ k, k < 800 → q.2 83 0 k = m 83 0 k))) := by
      have i4 : (4 : Int32).toInt = 4 := by decide
      have i800 : (800 : Int32).toInt = ((800 : Nat) : Int) := by decide
      unfold f_X12_law
      refine v_lM ?_
      have e21 : mm_w m 12 0 3 0 12 0 21 = Int32.ofNat t := (w3 (by decide)).trans ht2
      refine v_ifn (by rw [iA_lt, i_0]; omega) ?_
      refine v_ifp (by rw [iA_le, e21, nJ_T (by omega)]; omega) ?_
      refine v_s1 (r_begin (B := B) (n := n) (by omega) hn (fun k hk => ⟨(hBt k (by omega)).1, (fp_30 80 0 k rfl).trans (hBt k (by omega)).2.1⟩)) ?_
      rintro m5 ⟨f5, g21, g29, g31, hat⟩
      refine v_lM ?_
      have f6 : fp [(12, none, some 32)] m5 (mm_w m5 12 0 32 0) := fp_w rfl fp_rf
      have g32 : mm_w m5 12 0 32 0 12 0 32 = 0 := mw_s
      generalize mm_w m5 12 0 32 0 = m6 at f6 g32 ⊢
      have f36 : fp [(12, none, some 3), (12, none, some 21), (12, none, some 22), (12, none, some 23), (12, none, some 24), (12, none, some 25), (12, none, some 26), (12, none, some 27), (12, none, some 28), (12, none, some 29), (12, none, some 31), (12, none, some 32)] m m6 := fp_tr (fp_sb (by decide) fp_30) (fp_tr (fp_sb (by decide) f5) (fp_sb (by decide) f6))
      have g3 : m6 12 0 3 = 0 := (f6 12 0 3 rfl).trans ((f5 12 0 3 rfl).trans mw_s)
      refine v_s1 (P := fun d => fp [(86, none, none)] m6 d ∧ (∀ k, k < 4 → d 86 0 k = m6 86 0 k) ∧ ∀ k, k < 4 → d 86 0 (4 + k) = 0) ?_ ?_
      · refine v_for (fun j s => s.1.toInt = (j : Int) ∧ fp [(86, none, none)] m6 s.2 ∧ (∀ k, k < 4 → s.2 86 0 k = m6 86 0 k) ∧ ∀ k, k < j → s.2 86 0 (4 + k) = 0) 0 4 (by omega) (by omega) ⟨i_0, fp_rf, fun k _ => rfl, fun k hk => absurd hk (Nat.not_lt_zero k)⟩ ?_ ?_
        · rintro j ⟨v, d⟩ hj ⟨hv, h1, h2, h3⟩
          dsimp only at hv h1 h2 h3 ⊢
          have hI : (4 + v).toInt = ((4 + j : Nat) : Int) := iA_addN (show (4 : Int32).toInt = ((4 : Nat) : Int) by decide) hv (by omega)
          refine v_ifn (by rw [iA_le, i4, hv]; omega) ?_
          refine v_ifp (v_in.mpr (by rw [hI]; omega)) ?_
          rw [n_k hI]
          refine v_lM ?_
          refine v_l1 ?_
          refine v_il ⟨n_s3 hv (by omega), fp_w rfl h1, fun k hk => ?_, fun k hk => ?_⟩
          · dsimp only
            rw [mw_k (by omega)]
            exact h2 k hk
          · dsimp only
            by_cases hkj : k = j
            · rw [hkj]
              exact mw_s
            · rw [mw_k (by omega)]
              exact h3 k (by omega)
        · rintro ⟨v, d⟩ ⟨hv, h1, h2, h3⟩
          dsimp only at hv h1 h2 h3 ⊢
          refine v_ifp (by rw [iA_le, i4, hv]; omega) ?_
          exact v_ir ⟨h1, h2, h3⟩
      rintro m12 ⟨f12, h12a, h12b⟩
      have at12 : r_at m12 B n 0 := r_at_fr f12 (by decide) (r_at_fr f6 (by decide) hat)
      refine v_s1 (r_clauses (B := B) (n := n) (by omega) at12 ((f12 12 0 29 rfl).trans ((f6 12 0 29 rfl).trans g29)) ((f12 12 0 32 rfl).trans g32) h12b) ?_
      rintro m33 ⟨l33, hs⟩
      have f33 : fp zLM m m33 := fp_tr (fp_sb (by decide) f36) (fp_tr (fp_sb (by decide) f12) (r_lh_fp l33))
      have k3 : m33 12 0 3 = 0 := (l33 12 0 3 (fun z => by omega)).trans ((f12 12 0 3 rfl).trans g3)
      have k21 : m33 12 0 21 = 0 := (l33 12 0 21 (fun z => by omega)).trans ((f12 12 0 21 rfl).trans ((f6 12 0 21 rfl).trans g21))
      have k31 : m33 12 0 31 = -1 := (l33 12 0 31 (fun z => by omega)).trans ((f12 12 0 31 rfl).trans ((f6 12 0 31 rfl).trans g31))
      rcases hs with ⟨x, hx, k29, ken, ksl⟩ | ⟨e, hx, her⟩
      · obtain ⟨hg, hl⟩ := bnd x hx
        have hE2 := z_enc_2 x.1
        have hE8 : (z_enc x.1).length ≤ 800 := by omega
        refine v_ifp k29 ?_
        refine v_s1 (P := fun d => fp [(81, none, none), (82, none, none), (86, none, none)] m33 d ∧ ∀ g k, (g = 81 ∨ g = 82 ∨ g = 86) → k < 4 → d g 0 k = m33 g 0 (4 + k)) ?_ ?_
        · refine v_for (fun j s => s.1.toInt = (j : Int) ∧ fp [(81, none, none), (82, none, none), (86, none, none)] m33 s.2 ∧ (∀ g k, 4 ≤ k → s.2 g 0 k = m33 g 0 k) ∧ ∀ g k, (g = 81 ∨ g = 82 ∨ g = 86) → k < j → s.2 g 0 k = m33 g 0 (4 + k)) 0 4 (by omega) (by omega) ⟨i_0, fp_rf, fun g k _ => rfl, fun g k _ hk => absurd hk (Nat.not_lt_zero k)⟩ ?_ ?_
          · rintro j ⟨v, d⟩ hj ⟨hv, h1, h2, h3⟩
            dsimp only at hv h1 h2 h3 ⊢
            have hI : (4 + v).toInt = ((4 + j : Nat) : Int) := iA_addN (show (4 : Int32).toInt = ((4 : Nat) : Int) by decide) hv (by omega)
            have iI : mm_in (4 + v) 8 := v_in.mpr (by rw [hI]; omega)
            have iV : mm_in v 8 := v_in.mpr (by omega)
            have kI := n_k hI
            have kV := n_k hv
            have h01 : m33 86 0 (4 + j) = 0 ∨ m33 86 0 (4 + j) = 1 := by
              obtain ⟨y1, y2⟩ := ksl j hj
              cases hy : x.2 j with
              | none => exact Or.inl (y1 hy)
              | some y => exact Or.inr (y2 y hy).1
            refine v_ifn (by rw [iA_le, i4, hv]; omega) ?_
            refine v_ifp iI ?_
            refine v_ifp iV ?_
            rw [show mm_w d 81 0 v.toNatClampNeg (d 81 0 (4 + v).toNatClampNeg) = mm_w d 81 0 j (m33 81 0 (4 + j)) by rw [kV, kI, h2 81 _ (by omega)]]
            refine v_lM ?_
            refine v_ifp iI ?_
            refine v_ifp iV ?_
            rw [show mm_w (mm_w d 81 0 j (m33 81 0 (4 + j))) 82 0 v.toNatClampNeg (mm_w d 81 0 j (m33 81 0 (4 + j)) 82 0 (4 + v).toNatClampNeg) = mm_w (mm_w d 81 0 j (m33 81 0 (4 + j))) 82 0 j (m33 82 0 (4 + j)) by rw [kV, kI, mw_g (by decide), h2 82 _ (by omega)]]
            refine v_lM ?_
            have e86 : mm_w (mm_w d 81 0 j (m33 81 0 (4 + j))) 82 0 j (m33 82 0 (4 + j)) 86 0 (4 + v).toNatClampNeg = m33 86 0 (4 + j) := by rw [kI, mw_g (by decide), mw_g (by decide), h2 86 _ (by omega)]
            have d86 : ∀ g k, ¬ k = j → mm_w (mm_w d 81 0 j (m33 81 0 (4 + j))) 82 0 j (m33 82 0 (4 + j)) g 0 k = d g 0 k := fun g k hk => by
              rw [mw_get, if_neg (fun z => hk z.2.2), mw_get, if_neg (fun z => hk z.2.2)]
            have p81 : mm_w (mm_w d 81 0 j (m33 81 0 (4 + j))) 82 0 j (m33 82 0 (4 + j)) 81 0 j = m33 81 0 (4 + j) := (mw_g (by decide)).trans mw_s
            have p82 : mm_w (mm_w d 81 0 j (m33 81 0 (4 + j))) 82 0 j (m33 82 0 (4 + j)) 82 0 j = m33 82 0 (4 + j) := mw_s
            have fd : fp [(81, none, none), (82, none, none), (86, none, none)] m33 (mm_w (mm_w d 81 0 j (m33 81 0 (4 + j))) 82 0 j (m33 82 0 (4 + j))) := fp_w rfl (fp_w rfl h1)
            generalize mm_w (mm_w d 81 0 j (m33 81 0 (4 + j))) 82 0 j (m33 82 0 (4 + j)) = w at e86 d86 p81 p82 fd ⊢
            refine v_ifp iI ?_
            refine v_ifp iV ?_
            refine v_ifp (by rw [e86]; exact h01) ?_
            rw [e86, kV]
            refine v_lM ?_
            refine v_l1 ?_
            refine v_il ⟨n_s3 hv (by omega), fp_w rfl fd, fun g k hk => ?_, fun g k hg hk => ?_⟩
            · dsimp only
              rw [mw_get, if_neg (fun z => by omega), d86 g k (by omega)]
              exact h2 g k hk
            · dsimp only
              by_cases hkj : k = j
              · rw [hkj]
                rcases hg with rfl | rfl | rfl
                · exact (mw_g (by decide)).trans p81
                · exact (mw_g (by decide)).trans p82
                · exact mw_s
              · rw [mw_get, if_neg (fun z => hkj z.2.2), d86 g k hkj]
                exact h3 g k hg (by omega)
          · rintro ⟨v, d⟩ ⟨hv, h1, h2, h3⟩
            dsimp only at hv h1 h2 h3 ⊢
            refine v_ifp (by rw [iA_le, i4, hv]; omega) ?_
            exact v_ir ⟨h1, h3⟩
        rintro m41 ⟨f41, h41⟩
        refine v_s1 (P := fun d => fp [(83, none, none)] m41 d ∧ ∀ k, k < (z_enc x.1).length → d 83 0 k = m41 83 0 (800 + k)) ?_ ?_
        · have e32 : m41 12 0 32 = Int32.ofNat (z_enc x.1).length := (f41 12 0 32 rfl).trans ken.1
          refine v_for (fun j s => s.1.toInt = (j : Int) ∧ fp [(83, none, none)] m41 s.2 ∧ (∀ k, 800 ≤ k → s.2 83 0 k = m41 83 0 k) ∧ ∀ k, k < j → s.2 83 0 k = m41 83 0 (800 + k)) 0 (z_enc x.1).length (Nat.zero_le _) (by omega) ⟨i_0, fp_rf, fun k _ => rfl, fun k hk => absurd hk (Nat.not_lt_zero k)⟩ ?_ ?_
          · rintro j ⟨v, d⟩ hj ⟨hv, h1, h2, h3⟩
            dsimp only at hv h1 h2 h3 ⊢
            have hI : (800 + v).toInt = ((800 + j : Nat) : Int) := iA_addN i800 hv (by omega)
            refine v_ifn (by rw [iA_le, h1 12 0 32 rfl, e32, hv, nJ_T (by omega)]; omega) ?_
            refine v_ifp (v_in.mpr (by rw [hI]; omega)) ?_
            refine v_ifp (v_in.mpr (by omega)) ?_
            rw [show mm_w d 83 0 v.toNatClampNeg (d 83 0 (800 + v).toNatClampNeg) = mm_w d 83 0 j (m41 83 0 (800 + j)) by rw [n_k hv, n_k hI, h2 _ (by omega)]]
            refine v_lM ?_
            refine v_l1 ?_
            refine v_il ⟨n_s3 hv (by omega), fp_w rfl h1, fun k hk => ?_, fun k hk => ?_⟩
            · dsimp only
              rw [mw_k (by omega)]
              exact h2 k hk
            · dsimp only
              by_cases hkj : k = j
              · rw [hkj]
                exact mw_s
              · rw [mw_k hkj]
                exact h3 k (by omega)
          · rintro ⟨v, d⟩ ⟨hv, h1, h2, h3⟩
            dsimp only at hv h1 h2 h3 ⊢
            refine v_ifp (by rw [iA_le, h1 12 0 32 rfl, e32, hv, nJ_T (by omega)]; omega) ?_
            exact v_ir ⟨h1, h3⟩
        rintro m47 ⟨f47, h47⟩
        refine v_so ⟨(f47 12 0 3 rfl).trans ((f41 12 0 3 rfl).trans k3), fp_tr f33 (fp_tr (fp_sb (by decide) f41) (fp_sb (by decide) f47)), (f47 12 0 21 rfl).trans ((f41 12 0 21 rfl).trans k21), Or.inl ⟨x, hx, rfl, (f47 12 0 31 rfl).trans ((f41 12 0 31 rfl).trans k31), ?_⟩⟩
        refine law_jM hg (by omega) (fun j e hj => ?_) (fun k hk => ?_)
        · have hl2 := (List.getElem?_eq_some_iff.mp hj).1
          exact (h47 j hl2).trans ((f41 83 0 _ rfl).trans (ken.2 j e hj))
        · dsimp only
          rw [f47 86 0 k rfl, f47 81 0 k rfl, f47 82 0 k rfl, h41 86 k (by omega) hk, h41 81 k (by omega) hk, h41 82 k (by omega) hk]
          exact ksl k hk
      · refine v_ifn (r_e3n her) ?_
        rw [her.2.2]
        refine v_lM ?_
        rw [show mm_w m33 12 0 31 (Int32.ofNat e.2) 12 0 29 = Int32.ofNat e.1 from (mw_k (by decide)).trans her.2.1]
        refine v_so ⟨by dsimp only; exact (mw_k (by decide)).trans k3, fp_w rfl f33, by dsimp only; exact (mw_k (by decide)).trans k21, Or.inr ⟨e, hx, rfl, by dsimp only; exact mw_s, fun g k hg hk => ?_, fun k hk => ?_⟩⟩
        · dsimp only
          rw [mw_g (by omega), l33 g 0 k (fun z => by omega)]
          rcases hg with rfl | rfl | rfl
          · exact (f12 81 0 k rfl).trans (f36 81 0 k rfl)
          · exact (f12 82 0 k rfl).trans (f36 82 0 k rfl)
          · exact (h12a k hk).trans (f36 86 0 k rfl)
        · dsimp only
          rw [mw_g (by omega), l33 83 0 k (fun z => by omega)]
          exact (f12 83 0 k rfl).trans (f36 83 0 k rfl)
    obtain ⟨o, eC, y, c, ho, fC, tC, hcs⟩ := eCx
    obtain ⟨⟨w, mM⟩, eM, h3, fM, tM, hms⟩ := eMx
    dsimp only at h3 fM tM hms
    subst ho
    have key : w = y ∧ c 0 0 5 = mM 12 0 31 ∧ j_law c mM := by
      rcases hcs with ⟨x, hx, h1, h5, c3, c4, ccd, csl⟩ | ⟨e, hx, h1, h5, c3, c4, cfr⟩
      · rcases hms with ⟨x2, hx2, k1, k5, kM⟩ | ⟨e2, hx2, _⟩
        · rw [hx] at hx2
          have hxx := Sum.inr.inj hx2
          subst hxx
          obtain ⟨hg, hl⟩ := bnd x hx
          refine ⟨by rw [h1, k1], by rw [h5, k5], fun k => (x.2 k).map (·.2), 1 - r, by omega, c3, ?_, law_jC hg (by omega) ccd csl, kM, fun k cd hk => ?_⟩
          · rw [show 1 - (1 - r) = r by omega]
            exact c4
          · dsimp only at hk
            cases hy : x.2 k with
            | none =>
              rw [hy] at hk
              cases hk
            | some y =>
              rw [hy] at hk
              rw [← Option.some.inj hk]
              exact (hg k y hy).2
        · rw [hx] at hx2
          cases hx2
      · rcases hms with ⟨x2, hx2, _⟩ | ⟨e2, hx2, k1, k5, kM, k83⟩
        · rw [hx] at hx2
          cases hx2
        · rw [hx] at hx2
          have hee := Sum.inl.inj hx2
          subst hee
          exact ⟨by rw [h1, k1], by rw [h5, k5], lw, r, hr2, c3, c4, fun k hk => z_cdC_k cfr (hlC k hk), fun k hk => z_cdM_k hk kM k83 (hlM k hk), hld⟩
    obtain ⟨k1, k2, k3⟩ := key
    refine ⟨_, _, t_op2 hop eC eM (thrown_eq _) (fun e9 h => by cases h) (fun t h => ?_), law_J hJ0 fC fM tC tM k2 k3⟩
    cases h
    exact ⟨h3, k1⟩
  · have eC : f_X11_law (a 1) m = some (.inl 0) := v_is (by
      unfold f_X11_law
      refine v_bxi ?_ rfl
      refine v_is ?_
      unfold f_X11_needBytes
      by_cases h1 : (a 1).toInt < 0
      · exact v_ifp (by rw [iA_lt, i_0]; exact h1) (v_so rfl)
      · refine v_ifn (by rw [iA_lt, i_0]; exact h1) ?_
        exact v_ifn (by rw [iA_le, ht1, nJ_T (by omega)]; omega) (v_so rfl))
    have eM : f_X12_law (a 1) m = some (0, mm_w (mm_w m 12 0 3 0) 12 0 3 1) := v_is (by
      unfold f_X12_law
      refine v_lM ?_
      have e21 : mm_w m 12 0 3 0 12 0 21 = Int32.ofNat t := (w3 (by decide)).trans ht2
      by_cases h1 : (a 1).toInt < 0
      · refine v_ifp (by rw [iA_lt, i_0]; exact h1) ?_
        exact v_b2e r_fail1 (v_so rfl)
      · refine v_ifn (by rw [iA_lt, i_0]; exact h1) ?_
        refine v_ifn (by rw [iA_le, e21, nJ_T (by omega)]; omega) ?_
        exact v_b2e r_fail1 (v_so rfl))
    refine ⟨_, _, t_op2 hop eC eM (thrown_eq _) (fun e9 h => ?_) (fun t h => by cases h), qJ_3 fp_31 hJ0⟩
    cases h
    exact ⟨rfl, mw_s⟩
