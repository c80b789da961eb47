/-! queries: part, along -/
theorem o_4 : q_Sim qJ 4 := fun m a hJ hop => z_qyJ hJ (by
  obtain ⟨_, _, _, ⟨T, hT8, hT1, hT2, hth⟩, _⟩ := hJ
  have hT2' : mm_w m 12 0 3 0 12 0 4 = Int32.ofNat T := (w3 (by decide)).trans hT2
  rcases z_arg (a 1) T (by omega) with ⟨t, ht, ha1⟩ | ha1
  · obtain ⟨N, K, A, B, H, Y, hB, hC, hM⟩ := hth t ht
    have h24 := hB.2.1
    have hM' : z_thM (mm_w m 12 0 3 0) t N K A B H Y := z_thM_fr (fun g i k hg => w3 (fun z => by rw [z.1] at hg; cases hg)) hM
    rw [ha1]
    by_cases hm : a 2 = -1
    · by_cases h3 : a 3 = 0
      · refine Or.inl ⟨Int32.ofNat N, v_is ?_, v_is ?_⟩
        · unfold f_X11_part
          refine v_bxe (c_sOk hT1 hT8 ht) ?_
          refine v_lO ?_
          refine v_ifn (fun h => h hm) ?_
          refine v_ifn (fun h => h h3) ?_
          rw [hC.1]
          exact v_so rfl
        · unfold f_X12_part
          refine v_lM ?_
          refine v_b1e (r_iTk hT2' hT8 ht) ?_
          refine v_ifn (by decide) ?_
          refine v_lO ?_
          refine v_ifn (fun h => h hm) ?_
          refine v_ifp h3 ?_
          refine v_ifn (fun h => h hm) ?_
          refine v_ifp (nJ_in (by omega) (by decide)) ?_
          rw [nJ_N (by omega), hM'.1]
          exact v_so rfl
      · refine Or.inr ⟨v_is ?_, v_is ?_⟩
        · unfold f_X11_part
          refine v_bxe (c_sOk hT1 hT8 ht) ?_
          refine v_lO ?_
          refine v_ifn (fun h => h hm) ?_
          refine v_ifp h3 ?_
          exact v_bxi (c_nPn hC.1 h24 (by rw [hm, i_m1]; omega)) rfl
        · unfold f_X12_part
          refine v_lM ?_
          refine v_b1e (r_iTk hT2' hT8 ht) ?_
          refine v_ifn (by decide) ?_
          refine v_lO ?_
          refine v_ifn (fun h => h hm) ?_
          refine v_ifn h3 ?_
          exact v_b2e r_fail1 (v_so rfl)
    · rcases z_arg (a 2) N (by omega) with ⟨p, hp, ha2⟩ | ha2
      · rw [ha2] at hm ⊢
        obtain ⟨e1, e2, e3, e4⟩ := hC.2.2 p hp
        obtain ⟨g1, g2, g3, g4⟩ := hM'.2.2 p hp
        have kp : (Int32.ofNat p).toNatClampNeg = p := nJ_N (by omega)
        have ip : mm_in (Int32.ofNat p) 24 := nJ_in (by omega) (by decide)
        have kx : (Int32.ofNat (24 * t + p)).toNatClampNeg = 24 * t + p := nJ_N (by omega)
        have ix : mm_in (Int32.ofNat (24 * t + p)) 216 := nJ_in (by omega) (by decide)
        have hpk := r_iPk hT2' hT8 ht hM'.1 h24 hp
        rcases z_c3 (a 3) with hb | hb | hb | ⟨b0, b1, b2, b3⟩
        · refine Or.inl ⟨K p, v_is ?_, v_is ?_⟩
          · unfold f_X11_part
            refine v_bxe (c_sOk hT1 hT8 ht) ?_
            refine v_lO ?_
            refine v_ifp hm ?_
            refine v_bxe (c_nPk hC.1 h24 hp) ?_
            refine v_ifp hb ?_
            refine v_ifp ip ?_
            rw [kp, e1]
            exact v_so rfl
          · unfold f_X12_part
            refine v_lM ?_
            refine v_b1e (r_iTk hT2' hT8 ht) ?_
            refine v_ifn (by decide) ?_
            refine v_lO ?_
            refine v_ifp hm ?_
            refine v_b1e hpk ?_
            refine v_ifn (by decide) ?_
            refine v_b1e (r_is1 (by rw [hb]; decide)) ?_
            refine v_ifp (by decide) ?_
            refine v_ifp hm ?_
            rw [i_m7]
            refine v_lI (fun w hw => ?_)
            subst hw
            refine v_ifn (fun h => h hb) ?_
            refine v_ifp ix ?_
            rw [kx, g1]
            exact v_so rfl
        · refine Or.inl ⟨A p, v_is ?_, v_is ?_⟩
          · unfold f_X11_part
            refine v_bxe (c_sOk hT1 hT8 ht) ?_
            refine v_lO ?_
            refine v_ifp hm ?_
            refine v_bxe (c_nPk hC.1 h24 hp) ?_
            refine v_ifn (by rw [hb]; decide) ?_
            refine v_ifp hb ?_
            refine v_ifp ip ?_
            rw [kp, e2]
            exact v_so rfl
          · unfold f_X12_part
            refine v_lM ?_
            refine v_b1e (r_iTk hT2' hT8 ht) ?_
            refine v_ifn (by decide) ?_
            refine v_lO ?_
            refine v_ifp hm ?_
            refine v_b1e hpk ?_
            refine v_ifn (by decide) ?_
            refine v_b1e (r_is1 (by rw [hb]; decide)) ?_
            refine v_ifp (by decide) ?_
            refine v_ifp hm ?_
            rw [i_m7]
            refine v_lI (fun w hw => ?_)
            subst hw
            refine v_ifp (by rw [hb]; decide) ?_
            refine v_ifn (fun h => h hb) ?_
            refine v_ifp ix ?_
            rw [kx, g2]
            exact v_so rfl
        · refine Or.inl ⟨B p, v_is ?_, v_is ?_⟩
          · unfold f_X11_part
            refine v_bxe (c_sOk hT1 hT8 ht) ?_
            refine v_lO ?_
            refine v_ifp hm ?_
            refine v_bxe (c_nPk hC.1 h24 hp) ?_
            refine v_ifn (by rw [hb]; decide) ?_
            refine v_ifn (by rw [hb]; decide) ?_
            refine v_ifp hb ?_
            refine v_ifp ip ?_
            rw [kp, e3]
            exact v_so rfl
          · unfold f_X12_part
            refine v_lM ?_
            refine v_b1e (r_iTk hT2' hT8 ht) ?_
            refine v_ifn (by decide) ?_
            refine v_lO ?_
            refine v_ifp hm ?_
            refine v_b1e hpk ?_
            refine v_ifn (by decide) ?_
            refine v_b1e (r_is1 (by rw [hb]; decide)) ?_
            refine v_ifp (by decide) ?_
            refine v_ifp hm ?_
            rw [i_m7]
            refine v_lI (fun w hw => ?_)
            subst hw
            refine v_ifp (by rw [hb]; decide) ?_
            refine v_ifp (by rw [hb]; decide) ?_
            refine v_ifp ix ?_
            rw [kx, g3]
            exact v_so rfl
        · refine Or.inr ⟨v_is ?_, v_is ?_⟩
          · unfold f_X11_part
            refine v_bxe (c_sOk hT1 hT8 ht) ?_
            refine v_lO ?_
            refine v_ifp hm ?_
            refine v_bxe (c_nPk hC.1 h24 hp) ?_
            refine v_ifn b0 ?_
            refine v_ifn b1 ?_
            refine v_ifn b2 ?_
            exact v_so rfl
          · unfold f_X12_part
            refine v_lM ?_
            refine v_b1e (r_iTk hT2' hT8 ht) ?_
            refine v_ifn (by decide) ?_
            refine v_lO ?_
            refine v_ifp hm ?_
            refine v_b1e hpk ?_
            refine v_ifn (by decide) ?_
            refine v_b1e (r_is0 (by rw [i_0, i_2]; exact b3)) ?_
            refine v_ifn (by decide) ?_
            exact v_b2e r_fail1 (v_so rfl)
      · refine Or.inr ⟨v_is ?_, v_is ?_⟩
        · unfold f_X11_part
          refine v_bxe (c_sOk hT1 hT8 ht) ?_
          refine v_lO ?_
          refine v_ifp hm ?_
          exact v_bxi (c_nPn hC.1 h24 ha2) rfl
        · unfold f_X12_part
          refine v_lM ?_
          refine v_b1e (r_iTk hT2' hT8 ht) ?_
          refine v_ifn (by decide) ?_
          refine v_lO ?_
          refine v_ifp hm ?_
          refine v_b1e (r_iPn hT2' hT8 ht hM'.1 h24 ha2) ?_
          refine v_ifp rfl ?_
          exact v_b2e r_fail1 (v_so rfl)
  · refine Or.inr ⟨v_is ?_, v_is ?_⟩
    · unfold f_X11_part
      exact v_bxi (c_sOn hT1 hT8 ha1) rfl
    · unfold f_X12_part
      refine v_lM ?_
      refine v_b1e (r_iTn hT2' hT8 ha1) ?_
      refine v_ifp rfl ?_
      exact v_b2e r_fail1 (v_so rfl)) (fun o v mM hC hM hX hR => t_op4 hop hC hM (thrown_eq _) hX hR)
theorem o_28 : q_Sim qJ 28 := fun m a hJ hop => z_qyJ hJ (by
  obtain ⟨x, y, hx, hy, c1, c2, m1, hfx, hfy⟩ := hJ.2.2.2.2.2.2.2.2.2.2.2.2.2.2.1
  have e80 : mm_w m 12 0 3 0 12 0 80 = Int32.ofNat (x + y) := (w3 (by decide)).trans m1
  have e124 : ∀ i, mm_w m 12 0 3 0 124 0 i = m 124 0 i := fun i => w3 (fun z => by cases z.1)
  by_cases hm : a 1 = -1
  · refine Or.inl ⟨Int32.ofNat (x + y), v_is ?_, v_is ?_⟩
    · unfold f_X11_along
      rw [c1, c2]
      refine v_lI (fun u hu => ?_)
      refine v_lI (fun w hw => ?_)
      refine v_ifn (fun h => h hm) ?_
      rw [hw, hu, nJ_a]
      exact v_so rfl
    · unfold f_X12_along
      refine v_lM ?_
      refine v_ifn (fun h => h hm) ?_
      rw [e80]
      exact v_so rfl
  · rcases z_arg (a 1) (x + y) (by omega) with ⟨i, hi, ha1⟩ | ha1
    · rw [ha1] at hm ⊢
      have ki : (Int32.ofNat i).toNatClampNeg = i := nJ_N (by omega)
      have hM : ∀ v, m 124 0 i = v → f_X12_along (Int32.ofNat i) m = some (v, mm_w m 12 0 3 0) := fun v hv => v_is (by
        unfold f_X12_along
        refine v_lM ?_
        refine v_ifp hm ?_
        rw [e80]
        refine v_b1e (r_is1 (by rw [nJ_T (by omega), i_0, n_0N (by omega)]; omega)) ?_
        refine v_ifn (by decide) ?_
        refine v_ifp (nJ_in (by omega) (by decide)) ?_
        rw [ki, e124, hv]
        exact v_so rfl)
      by_cases hix : i < x
      · refine Or.inl ⟨m 62 3 i, v_is ?_, hM _ (hfx i hix).symm⟩
        unfold f_X11_along
        rw [c1, c2]
        refine v_lI (fun u hu => ?_)
        refine v_lI (fun w hw => ?_)
        have hu2 : u.toInt = (x : Int) := by rw [hu, nJ_T (by omega)]
        have hw2 : w.toInt = ((x + y : Nat) : Int) := by rw [hw, hu, nJ_a, nJ_T (by omega)]
        refine v_ifp hm ?_
        refine v_ifn (by rw [iA_lt, i_0, nJ_T (by omega)]; omega) ?_
        refine v_ifp (by rw [iA_lt, hw2, nJ_T (by omega)]; omega) ?_
        refine v_ifn (by rw [iA_le, hu2, nJ_T (by omega)]; omega) ?_
        refine v_ifp (nJ_in (by omega) (by decide)) ?_
        rw [ki]
        exact v_so rfl
      · refine Or.inl ⟨m 62 4 (i - x), v_is ?_, hM _ (by rw [hfy (i - x) (by omega), show x + (i - x) = i by omega])⟩
        unfold f_X11_along
        rw [c1, c2]
        refine v_lI (fun u hu => ?_)
        refine v_lI (fun w hw => ?_)
        have hu2 : u.toInt = (x : Int) := by rw [hu, nJ_T (by omega)]
        have hw2 : w.toInt = ((x + y : Nat) : Int) := by rw [hw, hu, nJ_a, nJ_T (by omega)]
        refine v_ifp hm ?_
        refine v_ifn (by rw [iA_lt, i_0, nJ_T (by omega)]; omega) ?_
        refine v_ifp (by rw [iA_lt, hw2, nJ_T (by omega)]; omega) ?_
        refine v_ifp (by rw [iA_le, hu2, nJ_T (by omega)]; omega) ?_
        rw [hu, n_sb (by omega)]
        refine v_ifp (nJ_in (by omega) (by decide)) ?_
        rw [nJ_N (by omega)]
        exact v_so rfl
    · refine Or.inr ⟨v_is ?_, v_is ?_⟩
      · unfold f_X11_along
        rw [c1, c2]
        refine v_lI (fun u hu => ?_)
        refine v_lI (fun w hw => ?_)
        have hw2 : w.toInt = ((x + y : Nat) : Int) := by rw [hw, hu, nJ_a, nJ_T (by omega)]
        refine v_ifp hm ?_
        by_cases h0 : (a 1).toInt < 0
        · refine v_ifp (by rw [iA_lt, i_0]; omega) ?_
          exact v_so rfl
        · refine v_ifn (by rw [iA_lt, i_0]; omega) ?_
          refine v_ifn (by rw [iA_lt, hw2]; omega) ?_
          exact v_so rfl
      · unfold f_X12_along
        refine v_lM ?_
        refine v_ifp hm ?_
        rw [e80]
        refine v_b1e (r_is0 (by rw [i_0, n_0N (by omega)]; omega)) ?_
        refine v_ifp rfl ?_
        exact v_b2e r_fail1 (v_so rfl)) (fun o v mM hC hM hX hR => t_op28 hop hC hM (thrown_eq _) hX hR)
