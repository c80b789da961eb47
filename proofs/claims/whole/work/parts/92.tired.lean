/-! the year in which it is too little -/
/-- the margin in a year -/
def z_tg (N : Nat) (K A B H : Nat → Int32) (lw : zL) (Y : Nat) (col s w : Int32) (i : Nat) : Int32 := z_mg N K A B (z_lv lw K A H col (Int32.ofNat (Y + i) - Int32.ofNat Y)) (fun _ => 0) (fun _ => -1) (fun _ => 0) s w
def z_tir (Y : Nat) (g : Nat → Int32) (r : Int32) : Prop := (∃ i, Y + i ≤ 99 ∧ r = Int32.ofNat (Y + i) ∧ (g i).toInt < 0 ∧ ∀ x, x < i → ¬ (g x).toInt < 0) ∨ (r = -1 ∧ ∀ i, Y + i ≤ 99 → ¬ (g i).toInt < 0)
theorem z_tir_u {Y : Nat} {g : Nat → Int32} {r s : Int32} (h : z_tir Y g r) (h2 : z_tir Y g s) : r = s := by
  rcases h with ⟨i, a1, a2, a3, a4⟩ | ⟨a1, a2⟩
  · rcases h2 with ⟨j, b1, b2, b3, b4⟩ | ⟨b1, b2⟩
    · have : i = j := by
        rcases Nat.lt_trichotomy i j with h | h | h
        · exact (b4 i h a3).elim
        · exact h
        · exact (a4 j h b3).elim
      rw [a2, b2, this]
    · exact (b2 i a1 a3).elim
  · rcases h2 with ⟨j, b1, b2, b3, b4⟩ | ⟨b1, b2⟩
    · exact (a2 j b1 b3).elim
    · rw [a1, b1]
theorem o_11 : q_Sim qJ 11 := fun m a hJ hop => z_r9J hJ (by
  have hJ0 := hJ
  obtain ⟨hday, hfau, hdea, ⟨T, hT8, hT1, hT2, hth⟩, htap, ⟨lw, r, hr2, hr3, hr4, hlC, hlM, hdp⟩, hev, _⟩ := hJ
  have hT2' : mm_w m 12 0 3 0 12 0 4 = Int32.ofNat T := (w3 (by decide)).trans hT2
  rcases z_arg (a 1) T (by omega) with ⟨t, ht, ha1⟩ | ha1
  · obtain ⟨N, K, A, B, H, Y, hB, hC, hM⟩ := hth t ht
    have h24 := hB.2.1
    have hM' : z_thM (mm_w m 12 0 3 0) t N K A B H Y := z_thM_fr (fun g i k hg => w3 (fun z => by rw [z.1] at hg; cases hg)) hM
    rw [ha1]
    by_cases h2 : 0 ≤ (a 2).toInt ∧ (a 2).toInt ≤ 7
    · by_cases h3 : -60000 ≤ (a 3).toInt ∧ (a 3).toInt ≤ 30000
      · by_cases h4 : -60000 ≤ (a 4).toInt ∧ (a 4).toInt ≤ 30000
        · have HC : vW (f_X11_tired (Int32.ofNat t) (a 2) (a 3) (a 4) m) (fun o => ∃ x c, o = .inr (x, c) ∧ fp zC9 m c ∧ z_tir Y (z_tg N K A B H lw Y (a 2) (a 3) (a 4)) x) := by
            unfold f_X11_tired
            refine v_bxe (c_sOk hT1 hT8 ht) ?_
            refine v_bxe (c_colk h2) ?_
            refine v_bxe (c_levk h3) ?_
            refine v_bxe (c_levk h4) ?_
            refine v_s1 c_show ?_
            rintro c ⟨hf, h4s, hsc⟩
            have hTc := z_thC_fr (fun g i k hg => hf g i k (z_dis_of (by decide) hg)) hC
            have hlc : ∀ k, k < 4 → z_cdC c r k (lw k) := fun k hk => z_cdC_fr (fun g i k hg => hf g i k (z_dis_of (by decide) hg)) (hlC k hk)
            have h03 : c 0 0 3 = Int32.ofNat r := (hf 0 0 3 rfl).trans hr3
            have hY := hB.2.2.1
            refine v_lI (fun y hy => ?_)
            have hy2 : y.toInt = (Y : Int) := by rw [hy, hTc.2.1, nJ_T (by omega)]
            clear hy
            refine v_s1 (P := (fun q => match q with
    | .inl (v, c2) => z_tir Y (z_tg N K A B H lw Y (a 2) (a 3) (a 4)) v ∧ fp [(23, none, none), (24, none, none), (36, none, none)] c c2
    | .inr c2 => z_tir Y (z_tg N K A B H lw Y (a 2) (a 3) (a 4)) (-1) ∧ fp [(23, none, none), (24, none, none), (36, none, none)] c c2)) ?_ ?_
            · refine v_for (fun j q => q.1.toInt = ((Y + j : Nat) : Int) ∧ fp [(23, none, none), (24, none, none), (36, none, none)] c q.2 ∧ ∀ x, x < j → ¬ (z_tg N K A B H lw Y (a 2) (a 3) (a 4) x).toInt < 0) 0 (100 - Y) (Nat.zero_le _) (by omega) ⟨hy2, fp_rf, fun x hx => absurd hx (Nat.not_lt_zero x)⟩ ?_ ?_
              · rintro j ⟨v, c2⟩ hj ⟨hv, hf2, hno⟩
                dsimp only at hv hf2 hno ⊢
                have h4c : c2 4 0 4 = Int32.ofNat t := (hf2 4 0 4 rfl).trans h4s
                have hTc2 := z_thC_fr (fun g i k hg => hf2 g i k (z_dis_of (by decide) hg)) hTc
                have hlc2 : ∀ k, k < 4 → z_cdC c2 r k (lw k) := fun k hk => z_cdC_fr (fun g i k hg => hf2 g i k (z_dis_of (by decide) hg)) (hlc k hk)
                have h032 : c2 0 0 3 = Int32.ofNat r := (hf2 0 0 3 rfl).trans h03
                have hsc2 := z_scC_fr (fun g i k hg => hf2 g i k (z_dis_of (by decide) hg)) hsc
                have hvn : v = Int32.ofNat (Y + j) := n_0L (by omega) hv
                refine v_ifn (by rw [iA_lt, i_99]; omega) ?_
                refine v_ifn (by rw [h032]; exact n_m1 (by omega)) ?_
                refine v_lN ?_
                rw [h032, nJ_N (by omega), hTc2.2.1]
                refine v_s1 (c_weigh h4c (by omega) hlc2 hdp hB hTc2) ?_
                rintro c3 ⟨hf3, hL⟩
                have h4d : c3 4 0 4 = Int32.ofNat t := (hf3 4 0 4 rfl).trans h4c
                have hTc3 := z_thC_fr (fun g i k hg => hf3 g i k (z_dis_of (by decide) hg)) hTc2
                have hsc3 := z_scC_fr (fun g i k hg => hf3 g i k (z_dis_of (by decide) hg)) hsc2
                refine v_b1e (c_margin (s := a 3) (w := a 4) h4d (by omega) hB.1 h24 hTc3 hsc3 hL) ?_
                have eg : z_mg N K A B (z_lv lw K A H (a 2) (v - Int32.ofNat Y)) (fun _ => 0) (fun _ => -1) (fun _ => 0) (a 3) (a 4) = z_tg N K A B H lw Y (a 2) (a 3) (a 4) j := by
                  rw [hvn]
                  rfl
                rw [eg]
                by_cases hg : (z_tg N K A B H lw Y (a 2) (a 3) (a 4) j).toInt < 0
                · refine v_ifn (by rw [iA_le, i_0]; omega) ?_
                  exact v_ir ⟨Or.inl ⟨j, by omega, hvn, hg, hno⟩, fp_tr hf2 hf3⟩
                · refine v_ifp (by rw [iA_le, i_0]; omega) ?_
                  refine v_l1 (v_il ⟨n_s3 (k := Y + j) hv (by omega), fp_tr hf2 hf3, fun x hx => ?_⟩)
                  by_cases hxj : x = j
                  · rw [hxj]
                    exact hg
                  · exact hno x (by omega)
              · rintro ⟨v, c2⟩ ⟨hv, hf2, hno⟩
                dsimp only at hv hf2 hno ⊢
                refine v_ifp (by rw [iA_lt, i_99]; omega) ?_
                exact v_ir ⟨Or.inr ⟨rfl, fun i hi => hno i (by omega)⟩, hf2⟩
            · rintro (⟨v, c2⟩ | c2) ⟨hz, hf2⟩
              · exact v_so ⟨v, c2, rfl, fp_tr (fp_sb (by decide) hf) (fp_sb (by decide) hf2), hz⟩
              · exact v_so ⟨-1, c2, rfl, fp_tr (fp_sb (by decide) hf) (fp_sb (by decide) hf2), hz⟩
          have HM : vW (f_X12_tired (Int32.ofNat t) (a 2) (a 3) (a 4) m) (fun q => z_tir Y (z_tg N K A B H lw Y (a 2) (a 3) (a 4)) q.1 ∧ fp zM9 m q.2 ∧ q.2 12 0 3 = 0) := by
            unfold f_X12_tired
            refine v_lM ?_
            refine v_b1e (r_iTk hT2' hT8 ht) ?_
            first | refine v_ifn (by decide) ?_ | refine v_ifp (by decide) ?_
            refine v_b1e (r_colk h2) ?_
            first | refine v_ifn (by decide) ?_ | refine v_ifp (by decide) ?_
            refine v_b1e (r_levk h3) ?_
            first | refine v_ifn (by decide) ?_ | refine v_ifp (by decide) ?_
            refine v_b1e (r_levk h4) ?_
            first | refine v_ifn (by decide) ?_ | refine v_ifp (by decide) ?_
            refine v_s1 r_clear ?_
            rintro c ⟨hf, hsc⟩
            have hTc := z_thM_fr (fun g i k hg => hf g i k (z_dis_of (by decide) hg)) hM'
            have hlc : ∀ k, k < 4 → z_cdM c k (lw k) := fun k hk => z_cdM_fr (fun g i k hg => (hf g i k (z_dis_of (by decide) hg)).trans (w3 (fun z => by rw [z.1] at hg; cases hg))) (hlM k hk)
            have hY := hB.2.2.1
            have kt : (Int32.ofNat t).toNatClampNeg = t := nJ_N (by omega)
            refine v_ifp (nJ_in (by omega) (by decide)) ?_
            refine v_lI (fun y hy => ?_)
            have hy2 : y.toInt = (Y : Int) := by rw [hy, kt, hTc.2.1, nJ_T (by omega)]
            clear hy
            refine v_s1 (P := (fun q => match q with
    | .inl (v, c2) => z_tir Y (z_tg N K A B H lw Y (a 2) (a 3) (a 4)) v ∧ fp [(84, none, none), (85, none, none)] c c2
    | .inr c2 => z_tir Y (z_tg N K A B H lw Y (a 2) (a 3) (a 4)) (-1) ∧ fp [(84, none, none), (85, none, none)] c c2)) ?_ ?_
            · refine v_for (fun j q => q.1.toInt = ((Y + j : Nat) : Int) ∧ fp [(84, none, none), (85, none, none)] c q.2 ∧ ∀ x, x < j → ¬ (z_tg N K A B H lw Y (a 2) (a 3) (a 4) x).toInt < 0) 0 (100 - Y) (Nat.zero_le _) (by omega) ⟨hy2, fp_rf, fun x hx => absurd hx (Nat.not_lt_zero x)⟩ ?_ ?_
              · rintro j ⟨v, c2⟩ hj ⟨hv, hf2, hno⟩
                dsimp only at hv hf2 hno ⊢
                have hTc2 := z_thM_fr (fun g i k hg => hf2 g i k (z_dis_of (by decide) hg)) hTc
                have hlc2 : ∀ k, k < 4 → z_cdM c2 k (lw k) := fun k hk => z_cdM_fr (fun g i k hg => hf2 g i k (z_dis_of (by decide) hg)) (hlc k hk)
                have hsc2 := z_scM_fr (fun g i k hg => hf2 g i k (z_dis_of (by decide) hg)) hsc
                have hvn : v = Int32.ofNat (Y + j) := n_0L (by omega) hv
                refine v_ifn (by rw [iA_lt, i_99]; omega) ?_
                refine v_ifp (nJ_in (by omega) (by decide)) ?_
                rw [kt, hTc2.2.1]
                refine v_s2 (r_margin (by omega) hlc2 hdp hB hTc2 hsc2 (nJ_T (by omega))) ?_
                rintro x c3 ⟨hx, hf3⟩
                dsimp only at hx hf3
                have eg : x = z_tg N K A B H lw Y (a 2) (a 3) (a 4) j := by
                  rw [hx, hvn]
                  rfl
                rw [eg]
                by_cases hg : (z_tg N K A B H lw Y (a 2) (a 3) (a 4) j).toInt < 0
                · refine v_ifn (by rw [iA_le, i_0]; omega) ?_
                  exact v_ir ⟨Or.inl ⟨j, by omega, hvn, hg, hno⟩, fp_tr hf2 hf3⟩
                · refine v_ifp (by rw [iA_le, i_0]; omega) ?_
                  refine v_l1 (v_il ⟨n_s3 (k := Y + j) hv (by omega), fp_tr hf2 hf3, fun x hx => ?_⟩)
                  by_cases hxj : x = j
                  · rw [hxj]
                    exact hg
                  · exact hno x (by omega)
              · rintro ⟨v, c2⟩ ⟨hv, hf2, hno⟩
                dsimp only at hv hf2 hno ⊢
                refine v_ifp (by rw [iA_lt, i_99]; omega) ?_
                exact v_ir ⟨Or.inr ⟨rfl, fun i hi => hno i (by omega)⟩, hf2⟩
            · rintro (⟨v, c2⟩ | c2) ⟨hz, hf2⟩
              · exact v_so ⟨hz, fp_tr (fp_w rfl fp_rf) (fp_tr (fp_sb (by decide) hf) (fp_sb (by decide) hf2)), ((hf2 12 0 3 rfl).trans (hf 12 0 3 rfl)).trans mw_s⟩
              · exact v_so ⟨hz, fp_tr (fp_w rfl fp_rf) (fp_tr (fp_sb (by decide) hf) (fp_sb (by decide) hf2)), ((hf2 12 0 3 rfl).trans (hf 12 0 3 rfl)).trans mw_s⟩
          obtain ⟨o, ho, x, c, ho2, hfc, hz⟩ := HC
          exact Or.inr (Or.inr ⟨x, ⟨o, ho, c, ho2, hfc⟩, v_mono HM (fun q hq => ⟨z_tir_u hq.1 hz, hq.2⟩)⟩)
        · refine Or.inr (Or.inl ⟨v_is ?_, v_is ?_⟩)
          · unfold f_X11_tired
            refine v_bxe (c_sOk hT1 hT8 ht) ?_
            refine v_bxe (c_colk h2) ?_
            refine v_bxe (c_levk h3) ?_
            exact v_bxi (c_levn h4) rfl
          · unfold f_X12_tired
            refine v_lM ?_
            refine v_b1e (r_iTk hT2' hT8 ht) ?_
            first | refine v_ifn (by decide) ?_ | refine v_ifp (by decide) ?_
            refine v_b1e (r_colk h2) ?_
            first | refine v_ifn (by decide) ?_ | refine v_ifp (by decide) ?_
            refine v_b1e (r_levk h3) ?_
            first | refine v_ifn (by decide) ?_ | refine v_ifp (by decide) ?_
            refine v_b1e (r_levn h4) ?_
            first | refine v_ifn (by decide) ?_ | refine v_ifp (by decide) ?_
            exact v_b2e r_fail2 (v_so rfl)
      · refine Or.inr (Or.inl ⟨v_is ?_, v_is ?_⟩)
        · unfold f_X11_tired
          refine v_bxe (c_sOk hT1 hT8 ht) ?_
          refine v_bxe (c_colk h2) ?_
          exact v_bxi (c_levn h3) rfl
        · unfold f_X12_tired
          refine v_lM ?_
          refine v_b1e (r_iTk hT2' hT8 ht) ?_
          first | refine v_ifn (by decide) ?_ | refine v_ifp (by decide) ?_
          refine v_b1e (r_colk h2) ?_
          first | refine v_ifn (by decide) ?_ | refine v_ifp (by decide) ?_
          refine v_b1e (r_levn h3) ?_
          first | refine v_ifn (by decide) ?_ | refine v_ifp (by decide) ?_
          exact v_b2e r_fail2 (v_so rfl)
    · refine Or.inl ⟨v_is ?_, v_is ?_⟩
      · unfold f_X11_tired
        refine v_bxe (c_sOk hT1 hT8 ht) ?_
        exact v_bxi (c_coln h2) rfl
      · unfold f_X12_tired
        refine v_lM ?_
        refine v_b1e (r_iTk hT2' hT8 ht) ?_
        first | refine v_ifn (by decide) ?_ | refine v_ifp (by decide) ?_
        refine v_b1e (r_coln h2) ?_
        first | refine v_ifn (by decide) ?_ | refine v_ifp (by decide) ?_
        exact v_b2e r_fail1 (v_so rfl)
  · refine Or.inl ⟨v_is ?_, v_is ?_⟩
    · unfold f_X11_tired
      exact v_bxi (c_sOn hT1 hT8 ha1) rfl
    · unfold f_X12_tired
      refine v_lM ?_
      refine v_b1e (r_iTn hT2' hT8 ha1) ?_
      first | refine v_ifn (by decide) ?_ | refine v_ifp (by decide) ?_
      exact v_b2e r_fail1 (v_so rfl)) (fun o v mM hC hM hX hR => t_op11 hop hC hM (thrown_eq _) hX hR)
