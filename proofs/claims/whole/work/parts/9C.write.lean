/-! write, copy -/
theorem iA_addN {a b : Int32} {x y : Nat} (ha : a.toInt = (x : Int)) (hb : b.toInt = (y : Int)) (h : x + y < 2147483648) : (a + b).toInt = ((x + y : Nat) : Int) := by
  rw [iA_add (by rw [ha, hb]; omega) (by rw [ha, hb]; omega), ha, hb]
  omega
theorem iA_mulN {a b : Int32} {x y : Nat} (ha : a.toInt = (x : Int)) (hb : b.toInt = (y : Int)) (h : x * y < 2147483648) : (a * b).toInt = ((x * y : Nat) : Int) := by
  have e : (x : Int) * (y : Int) = ((x * y : Nat) : Int) := (Int.natCast_mul x y).symm
  rw [iA_mul (by rw [ha, hb, e]; omega) (by rw [ha, hb, e]; omega), ha, hb, e]
theorem z_ixg {a b : Int32} {t p : Nat} (ha : a.toInt = (t : Int)) (hb : b.toInt = (p : Int)) (ht : t < 9) (hp : p < 100) : (24 * a + b).toInt = ((24 * t + p : Nat) : Int) := iA_addN (iA_mulN (show (24 : Int32).toInt = ((24 : Nat) : Int) by decide) ha (by omega)) hb (by omega)
theorem n_i8 {x : Int32} : x.toInt8.toInt32 = x ↔ -128 ≤ x.toInt ∧ x.toInt ≤ 127 := by
  rw [iA_eq, Int8.toInt_toInt32, Int32.toInt_toInt8, Int.bmod_def]
  split <;> omega
theorem n_i16 {x : Int32} : x.toInt16.toInt32 = x ↔ -32768 ≤ x.toInt ∧ x.toInt ≤ 32767 := by
  rw [iA_eq, Int16.toInt_toInt32, Int32.toInt_toInt16, Int.bmod_def]
  split <;> omega
theorem c_hp {m : mm_M} {i L : Nat} {a b : Int32} (hL : m 11 i 2 = Int32.ofNat L) (h24 : L ≤ 24) : f_X7_hasPart i a b m = some (if 0 ≤ a.toInt ∧ 0 ≤ b.toInt ∧ a.toInt + b.toInt ≤ (L : Int) then 1 else 0) := by
  apply v_is
  unfold f_X7_hasPart
  by_cases h1 : a.toInt < 0
  · exact v_ifp (by rw [iA_lt, i_0]; exact h1) (v_so (if_neg (by omega)).symm)
  refine v_ifn (by rw [iA_lt, i_0]; exact h1) ?_
  by_cases h2 : b.toInt < 0
  · exact v_ifp (by rw [iA_lt, i_0]; exact h2) (v_so (if_neg (by omega)).symm)
  refine v_ifn (by rw [iA_lt, i_0]; exact h2) ?_
  by_cases h3 : (L : Int) < a.toInt
  · exact v_ifp (by rw [iA_lt, hL, nJ_T (by omega)]; exact h3) (v_so (if_neg (by omega)).symm)
  refine v_ifn (by rw [iA_lt, hL, nJ_T (by omega)]; exact h3) ?_
  have e : (m 11 i 2 - a).toInt = (L : Int) - a.toInt := by rw [hL, iA_sub (by rw [nJ_T (by omega)]; omega) (by rw [nJ_T (by omega)]; omega), nJ_T (by omega)]
  by_cases h4 : (L : Int) - a.toInt < b.toInt
  · exact v_ifp (by rw [iA_lt, e]; exact h4) (v_so (if_neg (by omega)).symm)
  · exact v_ifn (by rw [iA_lt, e]; exact h4) (v_so (if_pos (by omega)).symm)
theorem r_hp {m : mm_M} {i L : Nat} {t a b : Int32} (ht : t.toInt = (i : Int)) (hi : i < 8) (hL : m 130 0 i = Int32.ofNat L) (h24 : L ≤ 24) : f_X12_hasPart t a b m = some (if 0 ≤ a.toInt ∧ 0 ≤ b.toInt ∧ a.toInt + b.toInt ≤ (L : Int) then 1 else 0) := by
  apply v_is
  have it : mm_in t 8 := v_in.mpr (by omega)
  have kt := n_k ht
  unfold f_X12_hasPart
  by_cases h1 : a.toInt < 0
  · exact v_ifp (by rw [iA_lt, i_0]; exact h1) (v_so (if_neg (by omega)).symm)
  refine v_ifn (by rw [iA_lt, i_0]; exact h1) ?_
  by_cases h2 : b.toInt < 0
  · exact v_ifp (by rw [iA_lt, i_0]; exact h2) (v_so (if_neg (by omega)).symm)
  refine v_ifn (by rw [iA_lt, i_0]; exact h2) ?_
  refine v_ifp it ?_
  by_cases h3 : (L : Int) < a.toInt
  · exact v_ifp (by rw [kt, iA_lt, hL, nJ_T (by omega)]; exact h3) (v_so (if_neg (by omega)).symm)
  refine v_ifn (by rw [kt, iA_lt, hL, nJ_T (by omega)]; exact h3) ?_
  refine v_ifp it ?_
  have e : (m 130 0 i - a).toInt = (L : Int) - a.toInt := by rw [hL, iA_sub (by rw [nJ_T (by omega)]; omega) (by rw [nJ_T (by omega)]; omega), nJ_T (by omega)]
  by_cases h4 : (L : Int) - a.toInt < b.toInt
  · exact v_ifp (by rw [kt, iA_lt, e]; exact h4) (v_so (if_neg (by omega)).symm)
  · exact v_ifn (by rw [kt, iA_lt, e]; exact h4) (v_so (if_pos (by omega)).symm)
/-- a number fits a sheet of this kind -/
def z_fit (x : Nat) (v : Int) : Prop := (x = 0 → -128 ≤ v ∧ v ≤ 127) ∧ (x = 1 → -32768 ≤ v ∧ v ≤ 32767)
theorem c_fit1 {m : mm_M} {i x : Nat} {v : Int32} (hx : m 11 i 1 = Int32.ofNat x) (h3 : x < 3) (h : z_fit x v.toInt) : f_X7_canHold i v m = some 1 := by
  apply v_is
  unfold f_X7_canHold
  rcases (by omega : x = 0 ∨ x = 1 ∨ x = 2) with rfl | rfl | rfl
  · refine v_ifp (by rw [hx]; decide) ?_
    exact v_ifn (fun z => z (n_i8.mpr (h.1 rfl)).symm) (v_so rfl)
  · refine v_ifn (by rw [hx]; decide) ?_
    refine v_ifp (by rw [hx]; decide) ?_
    exact v_ifn (fun z => z (n_i16.mpr (h.2 rfl)).symm) (v_so rfl)
  · refine v_ifn (by rw [hx]; decide) ?_
    refine v_ifn (by rw [hx]; decide) ?_
    exact v_so rfl
theorem c_fit0 {m : mm_M} {i x : Nat} {v : Int32} (hx : m 11 i 1 = Int32.ofNat x) (h3 : x < 3) (h : ¬ z_fit x v.toInt) : f_X7_canHold i v m = some 0 := by
  apply v_is
  unfold f_X7_canHold
  rcases (by omega : x = 0 ∨ x = 1 ∨ x = 2) with rfl | rfl | rfl
  · refine v_ifp (by rw [hx]; decide) ?_
    exact v_ifp (fun z => h ⟨fun _ => n_i8.mp z.symm, fun z => absurd z (by decide)⟩) (v_so rfl)
  · refine v_ifn (by rw [hx]; decide) ?_
    refine v_ifp (by rw [hx]; decide) ?_
    exact v_ifp (fun z => h ⟨fun z => absurd z (by decide), fun _ => n_i16.mp z.symm⟩) (v_so rfl)
  · exact absurd ⟨fun z => absurd z (by decide), fun z => absurd z (by decide)⟩ h
theorem i_m128 : (-128 : Int32).toInt = -128 := by decide
theorem i_127 : (127 : Int32).toInt = 127 := by decide
theorem i_m32768 : (-32768 : Int32).toInt = -32768 := by decide
theorem i_32767 : (32767 : Int32).toInt = 32767 := by decide
/-- a sheet's length -/
theorem z_len {x : Int32} (h0 : -1 ≤ x.toInt) (h1 : x.toInt ≤ 24) : x = -1 ∨ ∃ L, L ≤ 24 ∧ x = Int32.ofNat L := by
  by_cases h : x.toInt = -1
  · exact Or.inl (by rw [iA_eq, i_m1]; exact h)
  · exact Or.inr ⟨x.toInt.toNat, by omega, n_of (by omega)⟩
theorem o_34 : q_Sim qJ 34 := fun m a hJ hop => by
  have hJ0 := hJ
  obtain ⟨hday, hfault, hdead, hstr, htap, hlaw, hev, hrow, hinq, hfound, hlamps, hnet, htsk, hdl, halo, hshe⟩ := hJ
  obtain ⟨S, hS8, hS1, hS2, hss, hsf⟩ := hshe
  have h99 : mm_w m 12 0 3 0 12 0 99 = Int32.ofNat S := (w3 (by decide)).trans hS2
  rcases z_arg (a 1) S (by omega) with ⟨s, hs, ha1⟩ | ha1
  · obtain ⟨⟨x, hx3, hx1, hx2⟩, ⟨hl, hl1, hl2⟩, hk⟩ := hss s hs
    have ks : (Int32.ofNat s).toNatClampNeg = s := nJ_N (by omega)
    have is : mm_in (Int32.ofNat s) 8 := nJ_in (by omega) (by decide)
    have w130 : mm_w m 12 0 3 0 130 0 s = m 11 s 2 := (w3 (fun z => by cases z.1)).trans hl.symm
    have w129 : mm_w m 12 0 3 0 129 0 s = m 129 0 s := w3 (fun z => by cases z.1)
    have non : ∀ x, f_X11_write (a 1) (a 2) (a 3) m = some (.inr (x, m)) → f_X12_write (a 1) (a 2) (a 3) m = some (x, mm_w m 12 0 3 0) → ∃ mC mM, q_To m a mC mM ∧ qJ mC mM := fun x eC eM => ⟨_, _, t_op34 hop eC eM (thrown_eq _) (fun e9 h => by cases h) (fun t h => by cases h; exact ⟨mw_s, rfl⟩), qJ_3 fp_30 hJ0⟩
    rcases z_len hl1 hl2 with hL | ⟨L, hL24, hL⟩
    · refine non 1 (v_is ?_) (v_is ?_)
      · rw [ha1]
        unfold f_X11_write
        refine v_bxe (c_sht hS1 hS8 hs) ?_
        exact v_ifn (fun z => z hL) (v_so rfl)
      · rw [ha1]
        unfold f_X12_write
        refine v_lM ?_
        refine v_b1e (r_sht h99 hS8 hs) ?_
        refine v_ifp (by decide) ?_
        refine v_ifp is ?_
        exact v_ifn (by rw [ks, w130, hL]; decide) (v_so rfl)
    · have nL : ¬ m 11 s 2 = -1 := by rw [hL]; exact n_m1 (by omega)
      have pC : ∀ {Q : (Nat ⊕ (Int32 × mm_M)) → Prop} (B : Nat → Option (Nat ⊕ (Int32 × mm_M))), vW (B s) Q → vW (mm_bx (f_X11_sheetOf (Int32.ofNat s) m) B) Q := fun B h => v_bxe (c_sht hS1 hS8 hs) h
      have z130 : 0 ≤ mm_w m 12 0 3 0 130 0 (Int32.ofNat s).toNatClampNeg := by rw [ks, w130, hL, iA_le, i_0, nJ_T (by omega)]; omega
      have e130 : mm_w m 12 0 3 0 130 0 (Int32.ofNat s).toNatClampNeg = Int32.ofNat L := by rw [ks, w130, hL]
      rcases z_arg (a 2) L (by omega) with ⟨p, hp, ha2⟩ | ha2
      · have kp : (Int32.ofNat p).toNatClampNeg = p := nJ_N (by omega)
        have ip : mm_in (Int32.ofNat p) 24 := nJ_in (by omega) (by decide)
        have ix : mm_in (24 * Int32.ofNat s + Int32.ofNat p) 192 := by rw [i_m7]; exact nJ_in (by omega) (by decide)
        have kx : (24 * Int32.ofNat s + Int32.ofNat p).toNatClampNeg = 24 * s + p := by rw [i_m7]; exact nJ_N (by omega)
        have t1 : ¬ Int32.ofNat p < 0 := by rw [iA_lt, i_0, nJ_T (by omega)]; omega
        have t2 : Int32.ofNat p < m 11 s 2 := by rw [hL, iA_lt, nJ_T (by omega), nJ_T (by omega)]; omega
        have t3 : f_X12_isIn (Int32.ofNat p) 0 (mm_w m 12 0 3 0 130 0 (Int32.ofNat s).toNatClampNeg - 1) (mm_w m 12 0 3 0) = some 1 := by rw [e130]; exact r_is1 (by rw [i_0, nJ_T (by omega), n_0N (by omega)]; omega)
        by_cases hf : z_fit x (a 3).toInt
        · have eC : f_X11_write (a 1) (a 2) (a 3) m = some (.inr (0, (mm_w m 63 s p (a 3)))) := v_is (by
            rw [ha1, ha2]
            unfold f_X11_write
            refine v_bxe (c_sht hS1 hS8 hs) ?_
            refine v_ifp nL ?_
            refine v_ifn t1 ?_
            refine v_ifp t2 ?_
            refine v_b1e (c_fit1 hx1 hx3 hf) ?_
            refine v_ifp (by decide) ?_
            refine v_ifp ip ?_
            rw [kp]
            exact v_lM (v_so rfl))
          have eM : f_X12_write (a 1) (a 2) (a 3) m = some (0, (mm_w (mm_w m 12 0 3 0) 131 0 (24 * s + p) (a 3))) := v_is (by
            rw [ha1, ha2]
            unfold f_X12_write
            refine v_lM ?_
            refine v_b1e (r_sht h99 hS8 hs) ?_
            refine v_ifp (by decide) ?_
            refine v_ifp is ?_
            refine v_ifp z130 ?_
            refine v_ifp is ?_
            refine v_b1e t3 ?_
            refine v_ifp (by decide) ?_
            refine v_ifp is ?_
            refine v_lF ?_
            clear nL t1 t2 t3 pC z130 e130 eC
            rcases (by omega : x = 0 ∨ x = 1 ∨ x = 2) with rfl | rfl | rfl
            · refine v_ifn (by rw [ks, w129, hx2]; decide) ?_
              refine v_ifp is ?_
              refine v_ifp (by rw [ks, w129, hx2]; decide) ?_
              refine v_b1e (r_is1 (by rw [i_m128, i_127]; exact hf.1 rfl)) ?_
              refine v_ifn (by decide) ?_
              refine v_ifp (by decide) ?_
              refine v_ifp ix ?_
              rw [kx]
              exact v_lM (v_so rfl)
            · refine v_ifn (by rw [ks, w129, hx2]; decide) ?_
              refine v_ifp is ?_
              refine v_ifn (by rw [ks, w129, hx2]; decide) ?_
              refine v_b1e (r_is1 (by rw [i_m32768, i_32767]; exact hf.2 rfl)) ?_
              refine v_ifn (by decide) ?_
              refine v_ifp (by decide) ?_
              refine v_ifp ix ?_
              rw [kx]
              exact v_lM (v_so rfl)
            · refine v_ifp (by rw [ks, w129, hx2]; decide) ?_
              refine v_ifp (by decide) ?_
              refine v_ifp ix ?_
              rw [kx]
              exact v_lM (v_so rfl))
          have hC : fp [(63, none, none)] m (mm_w m 63 s p (a 3)) := fp_w rfl fp_rf
          have hM : fp [(12, none, some 3), (131, none, none)] m (mm_w (mm_w m 12 0 3 0) 131 0 (24 * s + p) (a 3)) := fp_w rfl (fp_w rfl fp_rf)
          have hj : j_she (mm_w m 63 s p (a 3)) (mm_w (mm_w m 12 0 3 0) 131 0 (24 * s + p) (a 3)) := by
            refine ⟨S, hS8, (hC 0 0 15 rfl).trans hS1, (hM 12 0 99 rfl).trans hS2, fun y hy => ?_, fun y hy1 hy2 k hk2 => ?_⟩
            · obtain ⟨b1, b2, b3⟩ := hss y hy
              refine ⟨by rw [hC 11 y 1 rfl, hM 129 0 y rfl]; exact b1, by rw [hC 11 y 2 rfl, hM 130 0 y rfl]; exact b2, fun k hk2 => ?_⟩
              by_cases e1 : y = s ∧ k = p
              · obtain ⟨rfl, rfl⟩ := e1
                rw [mw_s, mw_s]
              · rw [mw_k (show 24 * y + k ≠ 24 * s + p by omega), w3 (fun z => by cases z.1)]
                rw [mw_get, if_neg (fun z => e1 ⟨z.2.1, z.2.2⟩)]
                exact b3 k hk2
            · rw [mw_i (show y ≠ s by omega)]
              exact hsf y hy1 hy2 k hk2
          refine ⟨_, _, t_op34 hop eC eM (thrown_eq _) (fun e9 h => by cases h) (fun t h => ?_), ⟨j_day_kp hC hM (by decide) (by decide) hday, j_fault_kp hC hM (by decide) (by decide) hfault, j_dead_kp hC hM (by decide) (by decide) hdead, j_str_kp hC hM (by decide) (by decide) hstr, j_tap_kp hC hM (by decide) (by decide) htap, j_law_kp hC hM (by decide) (by decide) hlaw, j_ev_kp hC hM (by decide) (by decide) hev, j_row_kp hC hM (by decide) (by decide) hrow, j_inq_kp hC hM (by decide) (by decide) hinq, j_found_kp hC hM (by decide) (by decide) hfound, j_lamps_kp hC hM (by decide) (by decide) hlamps, j_net_kp hC hM (by decide) (by decide) hnet, j_tsk_kp hC hM (by decide) (by decide) htsk, j_dl_kp hC hM (by decide) (by decide) hdl, j_alo_kp hC hM (by decide) (by decide) halo, hj⟩⟩
          cases h
          exact ⟨by rw [mw_g (by decide), mw_s], rfl⟩
        · refine non 4 (v_is ?_) (v_is ?_)
          · rw [ha1, ha2]
            unfold f_X11_write
            refine v_bxe (c_sht hS1 hS8 hs) ?_
            refine v_ifp nL ?_
            refine v_ifn t1 ?_
            refine v_ifp t2 ?_
            refine v_b1e (c_fit0 hx1 hx3 hf) ?_
            refine v_ifn (by decide) ?_
            exact v_so rfl
          · rw [ha1, ha2]
            unfold f_X12_write
            refine v_lM ?_
            refine v_b1e (r_sht h99 hS8 hs) ?_
            refine v_ifp (by decide) ?_
            refine v_ifp is ?_
            refine v_ifp z130 ?_
            refine v_ifp is ?_
            refine v_b1e t3 ?_
            refine v_ifp (by decide) ?_
            refine v_ifp is ?_
            refine v_lF ?_
            clear nL t1 t2 t3 pC z130 e130
            rcases (by omega : x = 0 ∨ x = 1 ∨ x = 2) with rfl | rfl | rfl
            · refine v_ifn (by rw [ks, w129, hx2]; decide) ?_
              refine v_ifp is ?_
              refine v_ifp (by rw [ks, w129, hx2]; decide) ?_
              refine v_b1e (r_is0 (by rw [i_m128, i_127]; exact fun z => hf ⟨fun _ => by exact z, fun _ => by omega⟩)) ?_
              refine v_ifp (by decide) ?_
              refine v_ifn (by decide) ?_
              exact v_so rfl
            · refine v_ifn (by rw [ks, w129, hx2]; decide) ?_
              refine v_ifp is ?_
              refine v_ifn (by rw [ks, w129, hx2]; decide) ?_
              refine v_b1e (r_is0 (by rw [i_m32768, i_32767]; exact fun z => hf ⟨fun _ => by omega, fun _ => by exact z⟩)) ?_
              refine v_ifp (by decide) ?_
              refine v_ifn (by decide) ?_
              exact v_so rfl
            · exact absurd ⟨fun z => absurd z (by decide), fun z => absurd z (by decide)⟩ hf
      · refine non 3 (v_is ?_) (v_is ?_)
        · rw [ha1]
          unfold f_X11_write
          refine v_bxe (c_sht hS1 hS8 hs) ?_
          refine v_ifp nL ?_
          by_cases h0 : (a 2).toInt < 0
          · exact v_ifp (by rw [iA_lt, i_0]; exact h0) (v_so rfl)
          · refine v_ifn (by rw [iA_lt, i_0]; exact h0) ?_
            exact v_ifn (by rw [hL, iA_lt, nJ_T (by omega)]; omega) (v_so rfl)
        · rw [ha1]
          unfold f_X12_write
          refine v_lM ?_
          refine v_b1e (r_sht h99 hS8 hs) ?_
          refine v_ifp (by decide) ?_
          refine v_ifp is ?_
          refine v_ifp z130 ?_
          refine v_ifp is ?_
          refine v_b1e (a := 0) (by rw [e130]; exact r_is0 (by rw [i_0, n_0N (by omega)]; omega)) ?_
          exact v_ifn (by decide) (v_so rfl)
  · have eC : f_X11_write (a 1) (a 2) (a 3) m = some (.inl 1) := v_is (by
      unfold f_X11_write
      exact v_bxi (c_shn hS1 hS8 ha1) rfl)
    have eM : f_X12_write (a 1) (a 2) (a 3) m = some (0, mm_w (mm_w m 12 0 3 0) 12 0 3 1) := v_is (by
      unfold f_X12_write
      refine v_lM ?_
      refine v_b1e (r_shn h99 hS8 ha1) ?_
      refine v_ifn (by decide) ?_
      exact v_b2e r_fail1 (v_so rfl))
    refine ⟨_, _, t_op34 hop eC eM (thrown_eq _) (fun e9 h => ?_) (fun t h => by cases h), qJ_3 fp_31 hJ0⟩
    cases h
    exact ⟨rfl, mw_s⟩
theorem o_35 : q_Sim qJ 35 := fun m a hJ hop => by
  have hJ0 := hJ
  obtain ⟨hday, hfault, hdead, hstr, htap, hlaw, hev, hrow, hinq, hfound, hlamps, hnet, htsk, hdl, halo, hshe⟩ := hJ
  obtain ⟨S, hS8, hS1, hS2, hss, hsf⟩ := hshe
  have h99 : mm_w m 12 0 3 0 12 0 99 = Int32.ofNat S := (w3 (by decide)).trans hS2
  have non : ∀ x, f_X11_copy (a 1) (a 2) (a 3) (a 4) (a 5) m = some (.inr (x, m)) → f_X12_copy (a 1) (a 2) (a 3) (a 4) (a 5) m = some (x, mm_w m 12 0 3 0) → ∃ mC mM, q_To m a mC mM ∧ qJ mC mM := fun x eC eM => ⟨_, _, t_op35 hop eC eM (thrown_eq _) (fun e9 h => by cases h) (fun t h => by cases h; exact ⟨mw_s, rfl⟩), qJ_3 fp_30 hJ0⟩
  have bad : f_X11_copy (a 1) (a 2) (a 3) (a 4) (a 5) m = some (.inl 1) → f_X12_copy (a 1) (a 2) (a 3) (a 4) (a 5) m = some (0, mm_w (mm_w m 12 0 3 0) 12 0 3 1) → ∃ mC mM, q_To m a mC mM ∧ qJ mC mM := fun eC eM => ⟨_, _, t_op35 hop eC eM (thrown_eq _) (fun e9 h => by cases h; exact ⟨rfl, mw_s⟩) (fun t h => by cases h), qJ_3 fp_31 hJ0⟩
  rcases z_arg (a 1) S (by omega) with ⟨s1, hs1, ha1⟩ | ha1
  · have cs1 : f_X11_sheetOf (a 1) m = some (.inr s1) := by rw [ha1]; exact c_sht hS1 hS8 hs1
    have rs1 : f_X12_isSheet (a 1) (mm_w m 12 0 3 0) = some 1 := by rw [ha1]; exact r_sht h99 hS8 hs1
    have ta1 : (a 1).toInt = (s1 : Int) := by rw [ha1, nJ_T (by omega)]
    clear ha1
    have k1 := n_k ta1
    have i1 : mm_in (a 1) 8 := v_in.mpr (by omega)
    rcases z_arg (a 3) S (by omega) with ⟨s2, hs2, ha3⟩ | ha3
    · have cs2 : f_X11_sheetOf (a 3) m = some (.inr s2) := by rw [ha3]; exact c_sht hS1 hS8 hs2
      have rs2 : f_X12_isSheet (a 3) (mm_w m 12 0 3 0) = some 1 := by rw [ha3]; exact r_sht h99 hS8 hs2
      have ta3 : (a 3).toInt = (s2 : Int) := by rw [ha3, nJ_T (by omega)]
      clear ha3
      have k3 := n_k ta3
      have i3 : mm_in (a 3) 8 := v_in.mpr (by omega)
      obtain ⟨⟨x1, hx31, hx11, hx21⟩, ⟨hl1, hl11, hl21⟩, hk1⟩ := hss s1 hs1
      obtain ⟨⟨x2, hx32, hx12, hx22⟩, ⟨hl2, hl12, hl22⟩, hk2⟩ := hss s2 hs2
      have w1 : mm_w m 12 0 3 0 130 0 s1 = m 11 s1 2 := (w3 (fun z => by cases z.1)).trans hl1.symm
      have w2 : mm_w m 12 0 3 0 130 0 s2 = m 11 s2 2 := (w3 (fun z => by cases z.1)).trans hl2.symm
      have u1 : mm_w m 12 0 3 0 129 0 s1 = m 11 s1 1 := (w3 (fun z => by cases z.1)).trans (hx21.trans hx11.symm)
      have u2 : mm_w m 12 0 3 0 129 0 s2 = m 11 s2 1 := (w3 (fun z => by cases z.1)).trans (hx22.trans hx12.symm)
      rcases z_len hl11 hl21 with hL1 | ⟨L1, hL124, hL1⟩
      · refine non 1 (v_is ?_) (v_is ?_)
        · unfold f_X11_copy
          refine v_bxe cs1 ?_
          refine v_bxe cs2 ?_
          exact v_ifp hL1 (v_so rfl)
        · unfold f_X12_copy
          refine v_lM ?_
          refine v_b1e rs1 ?_
          refine v_ifn (by decide) ?_
          refine v_b1e rs2 ?_
          refine v_ifp (by decide) ?_
          refine v_ifp i1 ?_
          exact v_ifp (by rw [k1, w1, hL1]; decide) (v_so rfl)
      · have nL1 : ¬ m 11 s1 2 = -1 := by rw [hL1]; exact n_m1 (by omega)
        have v1 : ¬ mm_w m 12 0 3 0 130 0 (a 1).toNatClampNeg < 0 := by rw [k1, w1, hL1, iA_lt, i_0, nJ_T (by omega)]; omega
        rcases z_len hl12 hl22 with hL2 | ⟨L2, hL224, hL2⟩
        · refine non 1 (v_is ?_) (v_is ?_)
          · unfold f_X11_copy
            refine v_bxe cs1 ?_
            refine v_bxe cs2 ?_
            refine v_ifn nL1 ?_
            exact v_ifn (fun z => z hL2) (v_so rfl)
          · unfold f_X12_copy
            refine v_lM ?_
            refine v_b1e rs1 ?_
            refine v_ifn (by decide) ?_
            refine v_b1e rs2 ?_
            refine v_ifp (by decide) ?_
            refine v_ifp i1 ?_
            refine v_ifn v1 ?_
            refine v_ifp i3 ?_
            exact v_ifn (by rw [k3, w2, hL2]; decide) (v_so rfl)
        · have nL2 : ¬ m 11 s2 2 = -1 := by rw [hL2]; exact n_m1 (by omega)
          have v2 : 0 ≤ mm_w m 12 0 3 0 130 0 (a 3).toNatClampNeg := by rw [k3, w2, hL2, iA_le, i_0, nJ_T (by omega)]; omega
          by_cases hx : m 11 s1 1 = m 11 s2 1
          · have hx' : mm_w m 12 0 3 0 129 0 (a 1).toNatClampNeg = mm_w m 12 0 3 0 129 0 (a 3).toNatClampNeg := by rw [k1, k3, u1, u2]; exact hx
            by_cases g1 : 0 ≤ (a 2).toInt ∧ 0 ≤ (a 5).toInt ∧ (a 2).toInt + (a 5).toInt ≤ (L1 : Int)
            · have cp1 : f_X7_hasPart s1 (a 2) (a 5) m = some 1 := by rw [c_hp hL1 hL124, if_pos g1]
              have rp1 : f_X12_hasPart (a 1) (a 2) (a 5) (mm_w m 12 0 3 0) = some 1 := by rw [r_hp ta1 (by omega) (w1.trans hL1) hL124, if_pos g1]
              by_cases g2 : 0 ≤ (a 4).toInt ∧ 0 ≤ (a 5).toInt ∧ (a 4).toInt + (a 5).toInt ≤ (L2 : Int)
              · have cp2 : f_X7_hasPart s2 (a 4) (a 5) m = some 1 := by rw [c_hp hL2 hL224, if_pos g2]
                have rp2 : f_X12_hasPart (a 3) (a 4) (a 5) (mm_w m 12 0 3 0) = some 1 := by rw [r_hp ta3 (by omega) (w2.trans hL2) hL224, if_pos g2]
                obtain ⟨p, hp⟩ : ∃ p : Nat, (a 2).toInt = (p : Int) := ⟨(a 2).toInt.toNat, by omega⟩
                obtain ⟨q, hq⟩ : ∃ q : Nat, (a 4).toInt = (q : Int) := ⟨(a 4).toInt.toNat, by omega⟩
                obtain ⟨n, hn⟩ : ∃ n : Nat, (a 5).toInt = (n : Int) := ⟨(a 5).toInt.toNat, by omega⟩
                have kp := n_k hp
                have kq := n_k hq
                have kn := n_k hn
                have eC : f_X11_copy (a 1) (a 2) (a 3) (a 4) (a 5) m = some (.inr (0, (mm_wa m 63 s2 (va_cpy (m 63 s1) (m 63 s2) (a 2).toNatClampNeg (a 4).toNatClampNeg (a 5).toNatClampNeg)))) := v_is (by
                  unfold f_X11_copy
                  refine v_bxe cs1 ?_
                  refine v_bxe cs2 ?_
                  refine v_ifn nL1 ?_
                  refine v_ifp nL2 ?_
                  refine v_ifp hx ?_
                  refine v_b1e cp1 ?_
                  refine v_ifn (by decide) ?_
                  refine v_b1e cp2 ?_
                  refine v_ifp (by decide) ?_
                  refine v_ifp ⟨⟨by rw [iA_le, i_0]; omega, by rw [iA_le, i_0]; omega, by rw [iA_le, i_0]; omega⟩, by rw [kp, kn]; omega, by rw [kq, kn]; omega⟩ ?_
                  exact v_lM (v_so rfl))
                have eM : vW (f_X12_copy (a 1) (a 2) (a 3) (a 4) (a 5) m) (fun r => r.1 = 0 ∧ fp [(12, none, some 3), (131, none, none), (132, none, none)] m r.2 ∧ r.2 12 0 3 = 0 ∧ ∀ k, r.2 131 0 k = if 24 * s2 + q ≤ k ∧ k < 24 * s2 + q + n then m 131 0 (24 * s1 + p + (k - (24 * s2 + q))) else m 131 0 k) := by
                  unfold f_X12_copy
                  refine v_lM ?_
                  refine v_b1e rs1 ?_
                  refine v_ifn (by decide) ?_
                  refine v_b1e rs2 ?_
                  refine v_ifp (by decide) ?_
                  refine v_ifp i1 ?_
                  refine v_ifn v1 ?_
                  refine v_ifp i3 ?_
                  refine v_ifp v2 ?_
                  refine v_ifp i1 ?_
                  refine v_ifp i3 ?_
                  refine v_ifp hx' ?_
                  refine v_b1e rp1 ?_
                  refine v_ifn (by decide) ?_
                  refine v_b1e rp2 ?_
                  refine v_ifp (by decide) ?_
                  have hix1 : (24 * a 1 + a 2).toInt = ((24 * s1 + p : Nat) : Int) := z_ixg ta1 hp (by omega) (by omega)
                  have hix2 : (24 * a 3 + a 4).toInt = ((24 * s2 + q : Nat) : Int) := z_ixg ta3 hq (by omega) (by omega)
                  generalize 24 * a 1 + a 2 = b1 at hix1 ⊢
                  generalize 24 * a 3 + a 4 = b2 at hix2 ⊢
                  generalize hm1 : mm_w m 12 0 3 0 = m1
                  have f1 : fp [(12, none, some 3)] m m1 := by rw [← hm1]; exact fp_30
                  have t1 : m1 12 0 3 = 0 := by rw [← hm1, mw_s]
                  clear v1 v2 hx' rp1 rp2 rs1 rs2 w1 w2 u1 u2 h99 hm1
                  refine v_s1 (P := fun c => fp [(132, none, none)] m1 c ∧ ∀ j, j < n → c 132 0 j = m 131 0 (24 * s1 + p + j)) ?_ ?_
                  · refine v_for (fun j r => r.1.toInt = (j : Int) ∧ fp [(132, none, none)] m1 r.2 ∧ ∀ k, k < j → r.2 132 0 k = m 131 0 (24 * s1 + p + k)) 0 n (Nat.zero_le _) (by omega) ⟨i_0, fp_rf, fun k hk => absurd hk (Nat.not_lt_zero k)⟩ ?_ ?_
                    · rintro j ⟨v, c⟩ hj ⟨hv, hf, hz⟩
                      dsimp only at hv hf hz ⊢
                      have hb := iA_addN hix1 hv (by omega)
                      refine v_ifn (by rw [iA_le]; omega) ?_
                      refine v_ifp (v_in.mpr (by omega)) ?_
                      refine v_ifp (v_in.mpr (by omega)) ?_
                      rw [n_k hb, n_k hv]
                      refine v_lM (v_l1 (v_il ⟨n_s3 hv (by omega), fp_w rfl hf, fun k hk => ?_⟩))
                      dsimp only
                      by_cases hkj : k = j
                      · rw [hkj, mw_s, hf 131 0 _ rfl, f1 131 0 _ rfl]
                      · rw [mw_k (by omega)]
                        exact hz k (by omega)
                    · rintro ⟨v, c⟩ ⟨hv, hf, hz⟩
                      dsimp only at hv hf hz ⊢
                      refine v_ifp (by rw [iA_le]; omega) ?_
                      exact v_ir ⟨hf, hz⟩
                  · rintro c ⟨hf0, hz0⟩
                    refine v_s1 (P := fun d => fp [(131, none, none)] c d ∧ ∀ k, d 131 0 k = if 24 * s2 + q ≤ k ∧ k < 24 * s2 + q + n then m 131 0 (24 * s1 + p + (k - (24 * s2 + q))) else m 131 0 k) ?_ ?_
                    · refine v_for (fun j r => r.1.toInt = (j : Int) ∧ fp [(131, none, none)] c r.2 ∧ ∀ k, r.2 131 0 k = if 24 * s2 + q ≤ k ∧ k < 24 * s2 + q + j then m 131 0 (24 * s1 + p + (k - (24 * s2 + q))) else m 131 0 k) 0 n (Nat.zero_le _) (by omega) ⟨i_0, fp_rf, fun k => by dsimp only; rw [if_neg (by omega), hf0 131 0 k rfl, f1 131 0 k rfl]⟩ ?_ ?_
                      · rintro j ⟨v, d⟩ hj ⟨hv, hf, hz⟩
                        dsimp only at hv hf hz ⊢
                        have hb := iA_addN hix2 hv (by omega)
                        refine v_ifn (by rw [iA_le]; omega) ?_
                        refine v_ifp (v_in.mpr (by omega)) ?_
                        refine v_ifp (v_in.mpr (by omega)) ?_
                        rw [n_k hb, n_k hv]
                        refine v_lM (v_l1 (v_il ⟨n_s3 hv (by omega), fp_w rfl hf, fun k => ?_⟩))
                        dsimp only
                        by_cases hkj : k = 24 * s2 + q + j
                        · rw [hkj, mw_s, if_pos (by omega), hf 132 0 _ rfl, hz0 j hj, Nat.add_sub_cancel_left]
                        · rw [mw_k hkj, hz k]
                          by_cases hkk : 24 * s2 + q ≤ k ∧ k < 24 * s2 + q + j
                          · rw [if_pos hkk, if_pos (by omega)]
                          · rw [if_neg hkk, if_neg (by omega)]
                      · rintro ⟨v, d⟩ ⟨hv, hf, hz⟩
                        dsimp only at hv hf hz ⊢
                        refine v_ifp (by rw [iA_le]; omega) ?_
                        exact v_ir ⟨hf, hz⟩
                    · rintro d ⟨hf, hz⟩
                      refine v_so ⟨rfl, fp_tr (fp_sb (by decide) f1) (fp_tr (fp_sb (by decide) hf0) (fp_sb (by decide) hf)), ?_, hz⟩
                      dsimp only
                      rw [hf 12 0 3 rfl, hf0 12 0 3 rfl]
                      exact t1
                obtain ⟨⟨v, mM⟩, hM1, hM2, hM, hM3, m1⟩ := eM
                dsimp only at hM2 hM hM3 m1
                subst hM2
                have hC : fp [(63, none, none)] m (mm_wa m 63 s2 (va_cpy (m 63 s1) (m 63 s2) (a 2).toNatClampNeg (a 4).toNatClampNeg (a 5).toNatClampNeg)) := fp_wa (fun k => rfl) fp_rf
                have hj : j_she (mm_wa m 63 s2 (va_cpy (m 63 s1) (m 63 s2) (a 2).toNatClampNeg (a 4).toNatClampNeg (a 5).toNatClampNeg)) mM := by
                  refine ⟨S, hS8, (hC 0 0 15 rfl).trans hS1, (hM 12 0 99 rfl).trans hS2, fun y hy => ?_, fun y hy1 hy2 k hk2 => ?_⟩
                  · obtain ⟨b1, b2, b3⟩ := hss y hy
                    refine ⟨by rw [hC 11 y 1 rfl, hM 129 0 y rfl]; exact b1, by rw [hC 11 y 2 rfl, hM 130 0 y rfl]; exact b2, fun k hkz => ?_⟩
                    rw [m1]
                    by_cases e1 : y = s2
                    · subst e1
                      rw [mwa_s, kp, kq, kn]
                      by_cases e2 : q ≤ k ∧ k < q + n
                      · rw [pk_cpy_in e2.1 e2.2, if_pos (by omega), hk1 _ (by omega)]
                        congr 1
                        omega
                      · rw [pk_cpy_out (by omega), if_neg (by omega)]
                        exact b3 k hkz
                    · rw [mwa_i e1, if_neg (by omega)]
                      exact b3 k hkz
                  · rw [mwa_i (show y ≠ s2 by omega)]
                    exact hsf y hy1 hy2 k hk2
                refine ⟨_, _, t_op35 hop eC hM1 (thrown_eq _) (fun e9 h => by cases h) (fun t h => ?_), ⟨j_day_kp hC hM (by decide) (by decide) hday, j_fault_kp hC hM (by decide) (by decide) hfault, j_dead_kp hC hM (by decide) (by decide) hdead, j_str_kp hC hM (by decide) (by decide) hstr, j_tap_kp hC hM (by decide) (by decide) htap, j_law_kp hC hM (by decide) (by decide) hlaw, j_ev_kp hC hM (by decide) (by decide) hev, j_row_kp hC hM (by decide) (by decide) hrow, j_inq_kp hC hM (by decide) (by decide) hinq, j_found_kp hC hM (by decide) (by decide) hfound, j_lamps_kp hC hM (by decide) (by decide) hlamps, j_net_kp hC hM (by decide) (by decide) hnet, j_tsk_kp hC hM (by decide) (by decide) htsk, j_dl_kp hC hM (by decide) (by decide) hdl, j_alo_kp hC hM (by decide) (by decide) halo, hj⟩⟩
                cases h
                exact ⟨hM3, rfl⟩
              · have cp2 : f_X7_hasPart s2 (a 4) (a 5) m = some 0 := by rw [c_hp hL2 hL224, if_neg g2]
                have rp2 : f_X12_hasPart (a 3) (a 4) (a 5) (mm_w m 12 0 3 0) = some 0 := by rw [r_hp ta3 (by omega) (w2.trans hL2) hL224, if_neg g2]
                refine non 3 (v_is ?_) (v_is ?_)
                · unfold f_X11_copy
                  refine v_bxe cs1 ?_
                  refine v_bxe cs2 ?_
                  refine v_ifn nL1 ?_
                  refine v_ifp nL2 ?_
                  refine v_ifp hx ?_
                  refine v_b1e cp1 ?_
                  refine v_ifn (by decide) ?_
                  refine v_b1e cp2 ?_
                  exact v_ifn (by decide) (v_so rfl)
                · unfold f_X12_copy
                  refine v_lM ?_
                  refine v_b1e rs1 ?_
                  refine v_ifn (by decide) ?_
                  refine v_b1e rs2 ?_
                  refine v_ifp (by decide) ?_
                  refine v_ifp i1 ?_
                  refine v_ifn v1 ?_
                  refine v_ifp i3 ?_
                  refine v_ifp v2 ?_
                  refine v_ifp i1 ?_
                  refine v_ifp i3 ?_
                  refine v_ifp hx' ?_
                  refine v_b1e rp1 ?_
                  refine v_ifn (by decide) ?_
                  refine v_b1e rp2 ?_
                  exact v_ifn (by decide) (v_so rfl)
            · have cp1 : f_X7_hasPart s1 (a 2) (a 5) m = some 0 := by rw [c_hp hL1 hL124, if_neg g1]
              have rp1 : f_X12_hasPart (a 1) (a 2) (a 5) (mm_w m 12 0 3 0) = some 0 := by rw [r_hp ta1 (by omega) (w1.trans hL1) hL124, if_neg g1]
              refine non 3 (v_is ?_) (v_is ?_)
              · unfold f_X11_copy
                refine v_bxe cs1 ?_
                refine v_bxe cs2 ?_
                refine v_ifn nL1 ?_
                refine v_ifp nL2 ?_
                refine v_ifp hx ?_
                refine v_b1e cp1 ?_
                exact v_ifp (by decide) (v_so rfl)
              · unfold f_X12_copy
                refine v_lM ?_
                refine v_b1e rs1 ?_
                refine v_ifn (by decide) ?_
                refine v_b1e rs2 ?_
                refine v_ifp (by decide) ?_
                refine v_ifp i1 ?_
                refine v_ifn v1 ?_
                refine v_ifp i3 ?_
                refine v_ifp v2 ?_
                refine v_ifp i1 ?_
                refine v_ifp i3 ?_
                refine v_ifp hx' ?_
                refine v_b1e rp1 ?_
                exact v_ifp (by decide) (v_so rfl)
          · refine non 2 (v_is ?_) (v_is ?_)
            · unfold f_X11_copy
              refine v_bxe cs1 ?_
              refine v_bxe cs2 ?_
              refine v_ifn nL1 ?_
              refine v_ifp nL2 ?_
              exact v_ifn hx (v_so rfl)
            · unfold f_X12_copy
              refine v_lM ?_
              refine v_b1e rs1 ?_
              refine v_ifn (by decide) ?_
              refine v_b1e rs2 ?_
              refine v_ifp (by decide) ?_
              refine v_ifp i1 ?_
              refine v_ifn v1 ?_
              refine v_ifp i3 ?_
              refine v_ifp v2 ?_
              refine v_ifp i1 ?_
              refine v_ifp i3 ?_
              exact v_ifn (by rw [k1, k3, u1, u2]; exact hx) (v_so rfl)
    · refine bad (v_is ?_) (v_is ?_)
      · unfold f_X11_copy
        refine v_bxe cs1 ?_
        exact v_bxi (c_shn hS1 hS8 ha3) rfl
      · unfold f_X12_copy
        refine v_lM ?_
        refine v_b1e rs1 ?_
        refine v_ifn (by decide) ?_
        refine v_b1e (r_shn h99 hS8 ha3) ?_
        refine v_ifn (by decide) ?_
        exact v_b2e r_fail1 (v_so rfl)
  · refine bad (v_is ?_) (v_is ?_)
    · unfold f_X11_copy
      exact v_bxi (c_shn hS1 hS8 ha1) rfl
    · unfold f_X12_copy
      refine v_lM ?_
      refine v_b1e (r_shn h99 hS8 ha1) ?_
      refine v_ifp (by decide) ?_
      exact v_b2e r_fail1 (v_so rfl)
