/-! event -/
theorem z_insE {c m : mm_M} {E p : Nat} {d : Int} {l : List Nat} (hp : p ≤ E) (hl : l.Perm (List.range E)) (hpw : l.Pairwise (z_bf m)) (hc : ∀ k, ¬ k = E → c 29 0 k = m 29 0 k) (hE : (c 29 0 E).toInt = d) (hd : ∀ i e, p ≤ i → i < E → l[i]? = some e → d < (m 29 0 e).toInt) (hq : p = 0 ∨ ∃ e, l[p - 1]? = some e ∧ (m 29 0 e).toInt ≤ d) : (l.take p ++ E :: l.drop p).Perm (List.range (E + 1)) ∧ (∀ i e, (l.take p ++ E :: l.drop p)[i]? = some e → i ≤ E ∧ ((i < p ∧ l[i]? = some e) ∨ (i = p ∧ e = E) ∨ (p < i ∧ l[i - 1]? = some e))) ∧ (l.take p ++ E :: l.drop p).Pairwise (z_bf c) := by
  have hlen : l.length = E := by rw [hl.length_eq, List.length_range]
  have hlt : ∀ e ∈ l, e < E := fun e he => List.mem_range.mp (hl.mem_iff.mp he)
  have htl : (l.take p).length = p := by rw [List.length_take]; omega
  have hcat : l.take p ++ l.drop p = l := List.take_append_drop p l
  have hpw2 := hpw
  rw [← hcat, List.pairwise_append] at hpw2
  have bf : ∀ x y, x < E → y < E → z_bf m x y → z_bf c x y := fun x y hx hy h => by
    unfold z_bf at h ⊢
    rw [hc x (by omega), hc y (by omega)]
    exact h
  refine ⟨?_, fun i e he => ?_, ?_⟩
  · refine List.perm_middle.trans ?_
    rw [hcat, List.range_succ]
    exact (List.Perm.cons E hl).trans (List.perm_append_singleton E (List.range E)).symm
  · rw [List.getElem?_append, htl] at he
    by_cases h1 : i < p
    · rw [if_pos h1, List.getElem?_take, if_pos h1] at he
      exact ⟨by omega, Or.inl ⟨h1, he⟩⟩
    · rw [if_neg h1] at he
      by_cases h2 : i = p
      · rw [h2, Nat.sub_self] at he
        have he' : some E = some e := he
        cases he'
        exact ⟨by omega, Or.inr (Or.inl ⟨h2, rfl⟩)⟩
      · obtain ⟨k, hk⟩ : ∃ k, i - p = k + 1 := ⟨i - p - 1, by omega⟩
        rw [hk, List.getElem?_cons_succ, List.getElem?_drop] at he
        rw [show p + k = i - 1 by omega] at he
        have : i - 1 < l.length := by
          apply Classical.byContradiction
          intro h
          rw [List.getElem?_eq_none (by omega)] at he
          cases he
        exact ⟨by omega, Or.inr (Or.inr ⟨by omega, he⟩)⟩
  · rw [List.pairwise_append, List.pairwise_cons]
    have m1 : ∀ x ∈ l.take p, x ∈ l := fun x hx => List.mem_of_mem_take hx
    have m2 : ∀ x ∈ l.drop p, x ∈ l := fun x hx => List.mem_of_mem_drop hx
    have dn : ∀ x ∈ l.drop p, d < (m 29 0 x).toInt := fun x hx => by
      obtain ⟨k, hk⟩ := List.mem_iff_getElem?.mp hx
      rw [List.getElem?_drop] at hk
      have : p + k < l.length := by
        apply Classical.byContradiction
        intro h
        rw [List.getElem?_eq_none (by omega)] at hk
        cases hk
      exact hd (p + k) x (by omega) (by omega) hk
    have up : ∀ x ∈ l.take p, (m 29 0 x).toInt ≤ d := fun x hx => by
      rcases hq with h0 | ⟨e, he, hed⟩
      · rw [h0, List.take_zero] at hx
        cases hx
      · obtain ⟨k, hk⟩ := List.mem_iff_getElem?.mp hx
        rw [List.getElem?_take] at hk
        by_cases hkp : k < p
        · rw [if_pos hkp] at hk
          by_cases hkk : k = p - 1
          · rw [hkk, he] at hk
            cases hk
            exact hed
          · have hp1 : p - 1 < l.length := by omega
            have hk1 : k < l.length := by omega
            rw [List.getElem?_eq_getElem hk1] at hk
            rw [List.getElem?_eq_getElem hp1] at he
            have := List.pairwise_iff_getElem.mp hpw k (p - 1) hk1 hp1 (by omega)
            rw [Option.some.inj hk, Option.some.inj he] at this
            rcases this with h | h
            · omega
            · omega
        · rw [if_neg hkp] at hk
          cases hk
    refine ⟨hpw2.1.imp_of_mem (fun {x y} hx hy h => bf x y (hlt x (m1 x hx)) (hlt y (m1 y hy)) h), ⟨fun y hy => ?_, hpw2.2.1.imp_of_mem (fun {x y} hx hy h => bf x y (hlt x (m2 x hx)) (hlt y (m2 y hy)) h)⟩, fun x hx y hy => ?_⟩
    · left
      rw [hE, hc y (by have := hlt y (m2 y hy); omega)]
      exact dn y hy
    · have hxE := hlt x (m1 x hx)
      rcases List.mem_cons.mp hy with rfl | hy
      · unfold z_bf
        rw [hE, hc x (by omega)]
        have := up x hx
        omega
      · exact bf x y hxE (hlt y (m2 y hy)) (hpw2.2.2 x hx y hy)
theorem o_7 : q_Sim qJ 7 := fun m a hJ hop => by
  have hJ0 := hJ
  obtain ⟨hday, hfault, hdead, hstr, htap, hlaw, hev, hrow, hinq, hfound, hlamps, hnet, htsk, hdl, halo, hshe⟩ := hJ
  obtain ⟨E, hE, h38, h126, hz, l, hl, h32, hpw⟩ := hev
  obtain ⟨T, hT8, hT1, hT2, hth⟩ := hstr
  have hstr : j_str m m := ⟨T, hT8, hT1, hT2, hth⟩
  have e126 : mm_w m 12 0 3 0 12 0 6 = Int32.ofNat E := (w3 (by decide)).trans h126
  have e124 : mm_w m 12 0 3 0 12 0 4 = Int32.ofNat T := (w3 (by decide)).trans hT2
  have bad : f_X11_event (a 1) (a 2) (a 3) (a 4) (a 5) m = some (.inl 1) → f_X12_event (a 1) (a 2) (a 3) (a 4) (a 5) m = some (0, mm_w (mm_w m 12 0 3 0) 12 0 3 1) → ∃ mC mM, q_To m a mC mM ∧ qJ mC mM := fun eC eM => ⟨_, _, t_op7 hop eC eM (thrown_eq _) (fun e9 h => by cases h; exact ⟨rfl, mw_s⟩) (fun t h => by cases h), qJ_3 fp_31 hJ0⟩
  have non : f_X11_event (a 1) (a 2) (a 3) (a 4) (a 5) m = some (.inr (-1, m)) → f_X12_event (a 1) (a 2) (a 3) (a 4) (a 5) m = some (-1, mm_w m 12 0 3 0) → ∃ mC mM, q_To m a mC mM ∧ qJ mC mM := fun eC eM => ⟨_, _, t_op7 hop eC eM (thrown_eq _) (fun e9 h => by cases h) (fun t h => by cases h; exact ⟨mw_s, rfl⟩), qJ_3 fp_30 hJ0⟩
  have i3 : (3 : Int32).toInt = 3 := by decide
  rcases z_arg (a 1) 4 (by omega) with ⟨k, hk, ha1⟩ | ha1
  · have g1 : ¬ a 1 < 0 := by rw [ha1, iA_lt, i_0, nJ_T (by omega)]; omega
    have g2 : a 1 ≤ 3 := by rw [ha1, iA_le, i3, nJ_T (by omega)]; omega
    have r1 : f_X12_isIn (a 1) 0 3 (mm_w m 12 0 3 0) = some 1 := by rw [ha1]; exact r_is1 (by rw [i_0, i3, nJ_T (by omega)]; omega)
    rcases z_arg (a 2) T (by omega) with ⟨t, ht, ha2⟩ | ha2
    · obtain ⟨N, K, A, B, H, Y, hB, hC5, hM5⟩ := hth t ht
      have h24 : N ≤ 24 := hB.2.1
      have e67 : mm_w m 12 0 3 0 67 0 t = Int32.ofNat N := (w3 (fun z => by cases z.1)).trans hM5.1
      have cs : f_X11_strandOf (a 2) m = some (.inr t) := by rw [ha2]; exact c_sOk hT1 hT8 ht
      rcases z_arg (a 3) N (by omega) with ⟨p, hp, ha3⟩ | ha3
      · have cp : f_X11_needPart t (a 3) m = some (.inr ()) := by rw [ha3]; exact c_nPk hC5.1 h24 hp
        have rp : f_X12_isPart (a 2) (a 3) (mm_w m 12 0 3 0) = some 1 := by rw [ha2, ha3]; exact r_iPk e124 hT8 ht e67 h24 hp
        have tx : (24 * a 2 + a 3).toInt = ((24 * t + p : Nat) : Int) := by rw [ha2, ha3, i_m7, nJ_T (by omega)]
        have w69 : mm_w m 12 0 3 0 69 0 (24 * t + p) = m 37 t p := by rw [w3 (fun z => by cases z.1), (hM5.2.2 p hp).1, (hC5.2.2 p hp).1]
        have w70 : mm_w m 12 0 3 0 70 0 (24 * t + p) = m 38 t p := by rw [w3 (fun z => by cases z.1), (hM5.2.2 p hp).2.1, (hC5.2.2 p hp).2.1]
        by_cases hd : 0 ≤ (a 5).toInt ∧ (a 5).toInt ≤ 36499
        · have cd : f_X11_isDay (a 5) m = some 1 := by rw [c_iday, if_pos hd]
          have rd : f_X12_isIn (a 5) 0 36499 (mm_w m 12 0 3 0) = some 1 := r_is1 (by rw [i_0, i_36499]; exact hd)
          obtain ⟨rc, hc1, hc2⟩ := c_hap (m := m) (i := t) (x := a 4) hk (show (a 3).toInt = (p : Int) by rw [ha3, nJ_T (by omega)]) (show p < 24 by omega)
          obtain ⟨rm, hm1, hm2⟩ := r_hap (m := mm_w m 12 0 3 0) (y := a 4) hk tx (by omega)
          rw [← ha1] at hc1 hm1
          rw [w69, w70] at hm2
          by_cases hh : z_hap k (m 37 t p) (m 38 t p) (a 4)
          · rcases hc2 with ⟨rfl, _⟩ | ⟨_, h⟩
            · rcases hm2 with ⟨rfl, _⟩ | ⟨_, h⟩
              · by_cases hE1 : E = 120
                · refine non (v_is ?_) (v_is ?_)
                  · unfold f_X11_event
                    refine v_ifn g1 (v_ifp g2 ?_)
                    refine v_bxe cs ?_
                    refine v_bxe cp ?_
                    refine v_b1e cd (v_ifn (by decide) ?_)
                    refine v_b1e hc1 (v_ifp (by decide) ?_)
                    refine v_b2e (a := -1) (b := m) ?_ (v_so rfl)
                    apply v_is
                    unfold f_X0_tell
                    exact v_ifn (by rw [h38, hE1]; decide) (v_so rfl)
                  · unfold f_X12_event
                    refine v_lM ?_
                    refine v_b1e r1 (v_ifn (by decide) ?_)
                    refine v_b1e rp (v_ifp (by decide) ?_)
                    exact v_ifp (by rw [e126, hE1]; rfl) (v_so rfl)
                · have hE2 : E < 120 := by omega
                  have kE : (Int32.ofNat E).toNatClampNeg = E := nJ_N (by omega)
                  have iE : mm_in (Int32.ofNat E) 120 := nJ_in (by omega) (by decide)
                  obtain ⟨⟨v, mC⟩, ht1, hv, hC, c8, ⟨c25, c26, c27, c28, c29, c30, c31⟩, co, q, hq, c32, hq1, hq2⟩ := c_tell (a1 := a 1) (a2 := a 2) (a3 := a 3) (a4 := a 4) (a5 := a 5) (a6 := m 0 0 6) h38 hE2 l hl h32
                  dsimp only at hv hC c8 c25 c26 c27 c28 c29 c30 c31 co c32
                  subst hv
                  have eC : f_X11_event (a 1) (a 2) (a 3) (a 4) (a 5) m = some (.inr (Int32.ofNat E, mC)) := v_is (by
                    unfold f_X11_event
                    refine v_ifn g1 (v_ifp g2 ?_)
                    refine v_bxe cs ?_
                    refine v_bxe cp ?_
                    refine v_b1e cd (v_ifn (by decide) ?_)
                    refine v_b1e hc1 (v_ifp (by decide) ?_)
                    exact v_b2e ht1 (v_so rfl))
                  have e125 : mm_w m 12 0 3 0 12 0 5 = m 12 0 5 := w3 (by decide)
                  have eM : f_X12_event (a 1) (a 2) (a 3) (a 4) (a 5) m = some (Int32.ofNat E, (mm_w (mm_w (mm_w (mm_w (mm_w (mm_w (mm_w (mm_w (mm_w m 12 0 3 0) 73 0 E (a 1)) 74 0 E (a 2)) 75 0 E (a 3)) 76 0 E (a 4)) 77 0 E (a 5)) 78 0 E (m 12 0 5)) 79 0 E (-1)) 12 0 6 (Int32.ofNat (E + 1)))) := v_is (by
                    unfold f_X12_event
                    refine v_lM ?_
                    refine v_b1e r1 (v_ifn (by decide) ?_)
                    refine v_b1e rp (v_ifp (by decide) ?_)
                    refine v_ifn (by rw [e126]; exact n_ne (by rw [nJ_T (by omega), show (120 : Int32).toInt = 120 by decide]; omega)) ?_
                    refine v_b1e rd (v_ifn (by decide) ?_)
                    refine v_b1e hm1 (v_ifp (by decide) ?_)
                    clear bad non cs cp rp r1 rd cd eC ht1
                    simp only [ml_let, e126, e125, if_pos iE, kE, mw_g (show 12 ≠ 73 by decide), mw_g (show 12 ≠ 74 by decide), mw_g (show 12 ≠ 75 by decide), mw_g (show 12 ≠ 76 by decide), mw_g (show 12 ≠ 77 by decide), mw_g (show 12 ≠ 78 by decide), mw_g (show 12 ≠ 79 by decide), mw_s, n_a1, n_d (show 0 < E + 1 by omega), Nat.add_sub_cancel]
                    exact v_so rfl)
                  have hM : fp [(12, none, some 3), (12, none, some 6), (73, none, none), (74, none, none), (75, none, none), (76, none, none), (77, none, none), (78, none, none), (79, none, none)] m (mm_w (mm_w (mm_w (mm_w (mm_w (mm_w (mm_w (mm_w (mm_w m 12 0 3 0) 73 0 E (a 1)) 74 0 E (a 2)) 75 0 E (a 3)) 76 0 E (a 4)) 77 0 E (a 5)) 78 0 E (m 12 0 5)) 79 0 E (-1)) 12 0 6 (Int32.ofNat (E + 1))) := fp_w rfl (fp_w rfl (fp_w rfl (fp_w rfl (fp_w rfl (fp_w rfl (fp_w rfl (fp_w rfl (fp_w rfl fp_rf))))))))
                  generalize hmM : (mm_w (mm_w (mm_w (mm_w (mm_w (mm_w (mm_w (mm_w (mm_w m 12 0 3 0) 73 0 E (a 1)) 74 0 E (a 2)) 75 0 E (a 3)) 76 0 E (a 4)) 77 0 E (a 5)) 78 0 E (m 12 0 5)) 79 0 E (-1)) 12 0 6 (Int32.ofNat (E + 1))) = mM at eM hM
                  have m6 : mM 12 0 6 = Int32.ofNat (E + 1) := by rw [← hmM, mw_s]
                  have m3 : mM 12 0 3 = 0 := by rw [← hmM]; simp (disch := first | omega | decide | fail) only [mw_s, mw_k, mw_i, mw_g]
                  have mv : mM 73 0 E = a 1 ∧ mM 74 0 E = a 2 ∧ mM 75 0 E = a 3 ∧ mM 76 0 E = a 4 ∧ mM 77 0 E = a 5 ∧ mM 78 0 E = m 12 0 5 ∧ mM 79 0 E = (-1) := by
                    rw [← hmM]
                    refine ⟨?_, ?_, ?_, ?_, ?_, ?_, ?_⟩
                    · simp (disch := first | omega | decide | fail) only [mw_s, mw_k, mw_i, mw_g]
                    · simp (disch := first | omega | decide | fail) only [mw_s, mw_k, mw_i, mw_g]
                    · simp (disch := first | omega | decide | fail) only [mw_s, mw_k, mw_i, mw_g]
                    · simp (disch := first | omega | decide | fail) only [mw_s, mw_k, mw_i, mw_g]
                    · simp (disch := first | omega | decide | fail) only [mw_s, mw_k, mw_i, mw_g]
                    · simp (disch := first | omega | decide | fail) only [mw_s, mw_k, mw_i, mw_g]
                    · simp (disch := first | omega | decide | fail) only [mw_s, mw_k, mw_i, mw_g]
                  have mo : ∀ k, ¬ k = E → mM 73 0 k = m 73 0 k ∧ mM 74 0 k = m 74 0 k ∧ mM 75 0 k = m 75 0 k ∧ mM 76 0 k = m 76 0 k ∧ mM 77 0 k = m 77 0 k ∧ mM 78 0 k = m 78 0 k ∧ mM 79 0 k = m 79 0 k := fun k hk => by
                    rw [← hmM]
                    refine ⟨?_, ?_, ?_, ?_, ?_, ?_, ?_⟩
                    · simp (disch := first | omega | decide | fail) only [mw_s, mw_k, mw_i, mw_g]
                    · simp (disch := first | omega | decide | fail) only [mw_s, mw_k, mw_i, mw_g]
                    · simp (disch := first | omega | decide | fail) only [mw_s, mw_k, mw_i, mw_g]
                    · simp (disch := first | omega | decide | fail) only [mw_s, mw_k, mw_i, mw_g]
                    · simp (disch := first | omega | decide | fail) only [mw_s, mw_k, mw_i, mw_g]
                    · simp (disch := first | omega | decide | fail) only [mw_s, mw_k, mw_i, mw_g]
                    · simp (disch := first | omega | decide | fail) only [mw_s, mw_k, mw_i, mw_g]
                  clear hmM
                  obtain ⟨y1, y2, y3⟩ := z_insE (c := mC) hq hl hpw (fun k hk => (co k hk).2.2.2.2.1) (by rw [c29]) hq1 hq2
                  have hx4 : 0 ≤ (a 4).toInt ∧ (a 4).toInt ≤ 40000 := by
                    rcases (by omega : k = 0 ∨ k = 1 ∨ k = 2 ∨ k = 3) with rfl | rfl | rfl | rfl
                    · have := (hh.1 rfl).2
                      omega
                    · have h5 := (hh.2.1 rfl).2
                      obtain ⟨_, ⟨x, hx, hxA⟩, _⟩ := hB.2.2.2 p hp
                      rw [(hC5.2.2 p hp).2.1, hxA, nJ_T (by omega)] at h5
                      omega
                    · have h5 := (hh.2.2.1 rfl).2
                      rw [h5, i_0]
                      omega
                    · have h5 := hh.2.2.2 rfl
                      rw [h5, i_0]
                      omega
                  have hj : j_ev mC mM := by
                    refine ⟨E + 1, by omega, c8, m6, fun e he => ?_, _, y1, fun i e hie => ?_, y3⟩
                    · by_cases heE : e = E
                      · subst heE
                        unfold z_ev
                        obtain ⟨x1, x2, x3, x4, x5, x6, x7⟩ := mv
                        rw [c25, c26, c27, c28, c29, c30, c31, x1, x2, x3, x4, x5, x6, x7, hC 0 0 2 rfl]
                        refine ⟨rfl, rfl, rfl, rfl, rfl, hday.1, rfl, ⟨k, hk, ha1⟩, ⟨t, by omega, ?_, ha2, p, by omega, ha3, fun h1 => ?_⟩, ⟨(a 4).toInt.toNat, by omega, n_of hx4.1⟩, (a 5).toInt.toNat, by omega, n_of hd.1⟩
                        · rw [hT1, iA_lt, nJ_T (by omega), nJ_T (by omega)]
                          omega
                        · rw [hC 37 t p rfl]
                          rw [ha1] at h1
                          have : k = 1 := by
                            rw [iA_eq, nJ_T (by omega), i_1] at h1
                            omega
                          exact (hh.2.1 this).1
                      · obtain ⟨x1, x2, x3, x4, x5, x6, x7⟩ := mo e heE
                        obtain ⟨d1, d2, d3, d4, d5, d6, d7⟩ := co e heE
                        have := hz e (by omega)
                        unfold z_ev at this ⊢
                        rw [d1, d2, d3, d4, d5, d6, d7, x1, x2, x3, x4, x5, x6, x7, hC 0 0 2 rfl]
                        simp only [fun i k => hC 37 i k rfl]
                        exact this
                    · obtain ⟨hi, h⟩ := y2 i e hie
                      rw [c32 i hi]
                      rcases h with ⟨h1, h2⟩ | ⟨h1, h2⟩ | ⟨h1, h2⟩
                      · rw [if_pos h1]
                        exact h32 i e h2
                      · rw [if_neg (by omega), if_pos h1, h2]
                      · rw [if_neg (by omega), if_neg (by omega)]
                        exact h32 (i - 1) e h2
                  refine ⟨_, _, t_op7 hop eC eM (thrown_eq _) (fun e9 h => by cases h) (fun t h => ?_), ⟨j_day_kp hC hM (by decide) (by decide) hday, j_fault_kp hC hM (by decide) (by decide) hfault, j_dead_kp hC hM (by decide) (by decide) hdead, j_str_kp hC hM (by decide) (by decide) hstr, j_tap_kp hC hM (by decide) (by decide) htap, j_law_kp hC hM (by decide) (by decide) hlaw, hj, j_row_kp hC hM (by decide) (by decide) hrow, j_inq_kp hC hM (by decide) (by decide) hinq, j_found_kp hC hM (by decide) (by decide) hfound, j_lamps_kp hC hM (by decide) (by decide) hlamps, j_net_kp hC hM (by decide) (by decide) hnet, j_tsk_kp hC hM (by decide) (by decide) htsk, j_dl_kp hC hM (by decide) (by decide) hdl, j_alo_kp hC hM (by decide) (by decide) halo, j_she_kp hC hM (by decide) (by decide) hshe⟩⟩
                  cases h
                  exact ⟨m3, rfl⟩
              · exact absurd hh h
            · exact absurd hh h
          · rcases hc2 with ⟨_, h⟩ | ⟨rfl, _⟩
            · exact absurd h hh
            · rcases hm2 with ⟨_, h⟩ | ⟨rfl, _⟩
              · exact absurd h hh
              · refine non (v_is ?_) (v_is ?_)
                · unfold f_X11_event
                  refine v_ifn g1 (v_ifp g2 ?_)
                  refine v_bxe cs ?_
                  refine v_bxe cp ?_
                  refine v_b1e cd (v_ifn (by decide) ?_)
                  exact v_b1e hc1 (v_ifn (by decide) (v_so rfl))
                · unfold f_X12_event
                  refine v_lM ?_
                  refine v_b1e r1 (v_ifn (by decide) ?_)
                  refine v_b1e rp (v_ifp (by decide) ?_)
                  by_cases hE1 : E = 120
                  · exact v_ifp (by rw [e126, hE1]; rfl) (v_so rfl)
                  · refine v_ifn (by rw [e126]; exact n_ne (by rw [nJ_T (by omega), show (120 : Int32).toInt = 120 by decide]; omega)) ?_
                    refine v_b1e rd (v_ifn (by decide) ?_)
                    exact v_b1e hm1 (v_ifn (by decide) (v_so rfl))
        · refine non (v_is ?_) (v_is ?_)
          · unfold f_X11_event
            refine v_ifn g1 (v_ifp g2 ?_)
            refine v_bxe cs ?_
            refine v_bxe cp ?_
            refine v_b1e (a := 0) (by rw [c_iday, if_neg hd]) ?_
            exact v_ifp rfl (v_so rfl)
          · unfold f_X12_event
            refine v_lM ?_
            refine v_b1e r1 (v_ifn (by decide) ?_)
            refine v_b1e rp (v_ifp (by decide) ?_)
            by_cases hE1 : E = 120
            · exact v_ifp (by rw [e126, hE1]; rfl) (v_so rfl)
            · refine v_ifn (by rw [e126]; exact n_ne (by rw [nJ_T (by omega), show (120 : Int32).toInt = 120 by decide]; omega)) ?_
              refine v_b1e (r_is0 (by rw [i_0, i_36499]; exact hd)) ?_
              exact v_ifp rfl (v_so rfl)
      · refine bad (v_is ?_) (v_is ?_)
        · unfold f_X11_event
          refine v_ifn g1 (v_ifp g2 ?_)
          refine v_bxe cs ?_
          exact v_bxi (c_nPn hC5.1 h24 ha3) rfl
        · unfold f_X12_event
          refine v_lM ?_
          refine v_b1e r1 (v_ifn (by decide) ?_)
          refine v_b1e (a := 0) (by rw [ha2]; exact r_iPn e124 hT8 ht e67 h24 ha3) (v_ifn (by decide) ?_)
          exact v_b2e r_fail1 (v_so rfl)
    · refine bad (v_is ?_) (v_is ?_)
      · unfold f_X11_event
        refine v_ifn g1 (v_ifp g2 ?_)
        exact v_bxi (c_sOn hT1 hT8 ha2) rfl
      · unfold f_X12_event
        refine v_lM ?_
        refine v_b1e r1 (v_ifn (by decide) ?_)
        refine v_b1e (a := 0) (r_iPt e124 hT8 ha2) (v_ifn (by decide) ?_)
        exact v_b2e r_fail1 (v_so rfl)
  · refine bad (v_is ?_) (v_is ?_)
    · unfold f_X11_event
      by_cases h0 : (a 1).toInt < 0
      · exact v_ifp (by rw [iA_lt, i_0]; exact h0) (v_so rfl)
      · exact v_ifn (by rw [iA_lt, i_0]; exact h0) (v_ifn (by rw [iA_le, i3]; omega) (v_so rfl))
    · unfold f_X12_event
      refine v_lM ?_
      refine v_b1e (r_is0 (by rw [i_0, i3]; omega)) (v_ifp (by decide) ?_)
      exact v_b2e r_fail1 (v_so rfl)
