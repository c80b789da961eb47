/-! the op thread -/
theorem z_part_c {B : Nat → Nat} {n p : Nat} {L : List zP} {x : zP × Nat} (h : z_part B n L p = .inr x) (h6 : z_cp L 3 ≤ 6) : z_cp (L ++ [x.1]) 3 ≤ 6 := by
  rw [z_cp_s]
  by_cases h1 : z_kd B n p < 256 ∨ 259 < z_kd B n p
  · rw [z_part_1 h1] at h
    cases h
  by_cases h2 : 24 ≤ L.length
  · rw [z_part_2 h1 h2] at h
    cases h
  by_cases h3 : z_kd B n p = 259 ∧ 6 ≤ z_cp L 3
  · rw [z_part_3 h1 h2 h3] at h
    cases h
  rw [z_part_4 h1 h2 h3] at h
  cases hr : z_ab B n (z_kd B n p - 256) (z_te B n p) with
  | inl e =>
    rw [hr] at h
    cases h
  | inr y =>
    rw [hr] at h
    have h4 : (if z_kd B n y.2 = 59 then Sum.inr ((z_kd B n p - 256, y.1.1, y.1.2, z_cp L (z_kd B n p - 256) + 1), z_te B n y.2) else Sum.inl (1, z_ts B n y.2)) = (Sum.inr x : zEr ⊕ (zP × Nat)) := h
    by_cases h5 : z_kd B n y.2 = 59
    · rw [if_pos h5] at h4
      have h7 := Sum.inr.inj h4
      rw [← h7]
      show z_cp L 3 + (if z_kd B n p - 256 = 3 then 1 else 0) ≤ 6
      by_cases h8 : z_kd B n p - 256 = 3
      · rw [if_pos h8]
        have : ¬ 6 ≤ z_cp L 3 := fun z => h3 ⟨by omega, z⟩
        omega
      · rw [if_neg h8]
        exact h6
    · rw [if_neg h5] at h4
      cases h4
theorem r_thr {m : mm_M} {B : Nat → Nat} {n : Nat} (h : r_at m B n 0) (h29 : m 12 0 29 = 0) (h67 : m 67 0 8 = 0) : vW (mm_loop (σ := mm_M) (ρ := (mm_M)) (fun (m9 : mm_M) => ((mm_b1 (mm_loop (σ := Int32 × Int32) (ρ := (Int32)) (fun (s : Int32 × Int32) => match s with
| (v11, v12) => (if (m9 67 0 8) ≤ v12 then (some (.inr v11))
else (if mm_in (192 + v12) 216 then (
if (m9 69 0 (192 + v12).toNatClampNeg) ≠ 3 then (mm_let (v11 + 0) fun v13 =>
mm_let (v12 + 1) fun v14 =>
some (.inl (v13, v14)))
else (mm_let (v11 + 1) fun v15 =>
mm_let (v12 + 1) fun v16 =>
some (.inl (v15, v16)))) else none) : Option ((Int32 × Int32) ⊕ ((Int32))))) mm_fu (0, 0)) fun v17 =>
mm_b1 (f_X12_readThreadPart v17 m9) fun m19 =>
if (m19 12 0 29) ≠ 0 then (some (.inr m19))
else (if (m19 12 0 24) ≠ 0 then (some (.inl m19))
else (some (.inr m19)))) : Option ((mm_M) ⊕ ((mm_M))))) mm_fu m) (fun r => r_pf m r ∧ ((∃ R, z_pars B n 25 [] 0 = .inr R ∧ r 12 0 29 = 0 ∧ r_psM r R) ∨ (∃ e, z_pars B n 25 [] 0 = .inl e ∧ r_err r e))) := by
  have cnt : ∀ (m9 : mm_M) (L : List zP), r_psM m9 L → L.length ≤ 24 → (∀ x, x ∈ L → x.1 < 4) → vW (mm_loop (σ := Int32 × Int32) (ρ := (Int32)) (fun (s : Int32 × Int32) => match s with
| (v11, v12) => (if (m9 67 0 8) ≤ v12 then (some (.inr v11))
else (if mm_in (192 + v12) 216 then (
if (m9 69 0 (192 + v12).toNatClampNeg) ≠ 3 then (mm_let (v11 + 0) fun v13 =>
mm_let (v12 + 1) fun v14 =>
some (.inl (v13, v14)))
else (mm_let (v11 + 1) fun v15 =>
mm_let (v12 + 1) fun v16 =>
some (.inl (v15, v16)))) else none) : Option ((Int32 × Int32) ⊕ ((Int32))))) mm_fu (0, 0)) (fun r => r = Int32.ofNat (z_cp L 3)) := fun m9 L hps hl hg => by
    refine v_for (fun j s => s.2.toInt = (j : Int) ∧ s.1 = Int32.ofNat (z_cp (L.take j) 3)) 0 L.length (Nat.zero_le _) (by omega) ⟨i_0, rfl⟩ ?_ ?_
    · rintro j ⟨x, v⟩ hj ⟨hv, hx⟩
      dsimp only at hv hx ⊢
      obtain ⟨y, hy, htk⟩ := z_tkP hj
      have hy4 := hg y (List.mem_of_getElem? hy)
      have hI : (192 + v).toInt = ((192 + j : Nat) : Int) := iA_addN (show (192 : Int32).toInt = ((192 : Nat) : Int) by decide) hv (by omega)
      have e69 : m9 69 0 (192 + v).toNatClampNeg = Int32.ofNat y.1 := by
        rw [n_k hI]
        exact (hps.2 j y hy).1
      refine v_ifn (by rw [iA_le, hps.1, hv, nJ_T (by omega)]; omega) ?_
      refine v_ifp (v_in.mpr (by rw [hI]; omega)) ?_
      by_cases h3 : y.1 = 3
      · refine v_ifn (fun z => z (by rw [e69, h3]; rfl)) ?_
        refine v_l1 ?_
        refine v_l1 ?_
        refine v_il ⟨n_s3 hv (by omega), ?_⟩
        dsimp only
        rw [htk, z_cp_s, if_pos h3, hx, n_a1]
      · refine v_ifp (by rw [e69]; exact fun z => h3 ((n_eq (b := 3) (by omega) (by omega)).mp z)) ?_
        refine v_l ?_
        refine v_l1 ?_
        refine v_il ⟨n_s3 hv (by omega), ?_⟩
        dsimp only
        rw [htk, z_cp_s, if_neg h3, hx, Nat.add_zero, Int32.add_zero]
    · rintro ⟨x, v⟩ ⟨hv, hx⟩
      dsimp only at hv hx ⊢
      rw [List.take_length] at hx
      refine v_ifp (by rw [iA_le, hps.1, hv, nJ_T (by omega)]; omega) ?_
      exact v_ir hx
  refine v_for (fun j m9 => r_pf m m9 ∧ m9 12 0 29 = 0 ∧ ∃ L p, L.length = j ∧ p ≤ n ∧ (∀ x, x ∈ L → x.1 < 4) ∧ r_psM m9 L ∧ r_at m9 B n p ∧ z_cp L 3 ≤ 6 ∧ z_pars B n 25 [] 0 = z_pars B n (25 - L.length) L p) 0 24 (by omega) (by omega) ⟨r_pfr, h29, [], 0, rfl, Nat.zero_le n, fun x hx => (by cases hx), ⟨h67, fun j x hx => (by cases hx)⟩, h, Nat.zero_le _, rfl⟩ ?_ ?_
  · rintro j m9 hj ⟨hpf, h9, L, p, hl, hp, hg, hps, hat, h6, hR⟩
    refine v_s1 (cnt m9 L hps (by omega) hg) (fun c hc => ?_)
    refine v_s1 (r_part hat h9 hp hps (by omega) hg hc h6) (fun r hr => ?_)
    rcases hr with ⟨x, hx, j1, j2, j3, j4⟩ | ⟨e, hx, j1, j2⟩
    · obtain ⟨b1, b2, b3⟩ := z_part_b hp hx
      have hkb := z_kd_b (B := B) (n := n) (p := x.2)
      obtain ⟨_, _, _, e0⟩ := z_rk_e (z_kd B n x.2) hkb
      have hR2 := hR.trans (z_pars_s hx (by omega))
      refine v_ifn (fun z => z j1) ?_
      by_cases h0 : z_kd B n x.2 = 0
      · refine v_ifn (fun z => z (j4.2.2.2.2.1.trans (e0.mpr h0))) ?_
        exact v_ir ⟨r_pft hpf j2, Or.inl ⟨_, hR2.trans (if_pos h0), j1, j3⟩⟩
      · refine v_ifp (fun z => h0 (e0.mp (j4.2.2.2.2.1.symm.trans z))) ?_
        refine v_il ⟨r_pft hpf j2, j1, L ++ [x.1], x.2, ?_, b2, fun y hy => ?_, j3, j4, z_part_c hx h6, hR2.trans (if_neg h0)⟩
        · rw [List.length_append, hl]
          rfl
        · rcases List.mem_append.mp hy with hy | hy
          · exact hg y hy
          · rw [List.mem_singleton.mp hy]
            exact b1.1
    · refine v_ifp (r_err_n j2) ?_
      refine v_ir ⟨r_pft hpf j1, Or.inr ⟨e, ?_, j2⟩⟩
      rw [hR, show 25 - L.length = (24 - L.length) + 1 by omega]
      exact z_pars_e hx
  · rintro m9 ⟨hpf, h9, L, p, hl, hp, hg, hps, hat, h6, hR⟩
    refine v_s1 (cnt m9 L hps (by omega) hg) (fun c hc => ?_)
    refine v_s1 (r_part hat h9 hp hps (by omega) hg hc h6) (fun r hr => ?_)
    rcases hr with ⟨x, hx, j1, j2, j3, j4⟩ | ⟨e, hx, j1, j2⟩
    · have := (z_part_b hp hx).2.2
      omega
    · refine v_ifp (r_err_n j2) ?_
      refine v_ir ⟨r_pft hpf j1, Or.inr ⟨e, ?_, j2⟩⟩
      rw [hR, show 25 - L.length = (24 - L.length) + 1 by omega]
      exact z_pars_e hx
abbrev zBg : zT := [(12, none, some 21), (12, none, some 22), (12, none, some 23), (12, none, some 24), (12, none, some 25), (12, none, some 26), (12, none, some 27), (12, none, some 28), (12, none, some 29), (12, none, some 31)]
theorem r_begin {m : mm_M} {B : Nat → Nat} {n : Nat} {a : Int32} (hn : n ≤ 400) (ha : a.toInt = (n : Int)) (hb : ∀ k, k < n → B k < 256 ∧ m 80 0 k = Int32.ofNat (B k)) : vW (f_X12_begin a m) (fun r => fp zBg m r ∧ r 12 0 21 = 0 ∧ r 12 0 29 = 0 ∧ r 12 0 31 = -1 ∧ r_at r B n 0) := by
  unfold f_X12_begin
  refine v_lM ?_
  refine v_lM ?_
  refine v_lM ?_
  refine v_lM ?_
  refine v_lM ?_
  have f0 : fp zBg m (mm_w (mm_w (mm_w (mm_w (mm_w m 12 0 21 0) 12 0 23 a) 12 0 22 0) 12 0 29 0) 12 0 31 (-1)) := fp_w rfl (fp_w rfl (fp_w rfl (fp_w rfl (fp_w rfl fp_rf))))
  have e21 : mm_w (mm_w (mm_w (mm_w (mm_w m 12 0 21 0) 12 0 23 a) 12 0 22 0) 12 0 29 0) 12 0 31 (-1) 12 0 21 = 0 := by rw [mw_k (by decide), mw_k (by decide), mw_k (by decide), mw_k (by decide), mw_s]
  have e23 : mm_w (mm_w (mm_w (mm_w (mm_w m 12 0 21 0) 12 0 23 a) 12 0 22 0) 12 0 29 0) 12 0 31 (-1) 12 0 23 = Int32.ofNat n := by
    rw [mw_k (by decide), mw_k (by decide), mw_k (by decide), mw_s]
    exact n_0L (by omega) ha
  have e22 : mm_w (mm_w (mm_w (mm_w (mm_w m 12 0 21 0) 12 0 23 a) 12 0 22 0) 12 0 29 0) 12 0 31 (-1) 12 0 22 = Int32.ofNat 0 := by
    rw [mw_k (by decide), mw_k (by decide), mw_s]
    rfl
  have e29 : mm_w (mm_w (mm_w (mm_w (mm_w m 12 0 21 0) 12 0 23 a) 12 0 22 0) 12 0 29 0) 12 0 31 (-1) 12 0 29 = 0 := by rw [mw_k (by decide), mw_s]
  have e31 : mm_w (mm_w (mm_w (mm_w (mm_w m 12 0 21 0) 12 0 23 a) 12 0 22 0) 12 0 29 0) 12 0 31 (-1) 12 0 31 = -1 := mw_s
  have eb : ∀ k, k < n → B k < 256 ∧ mm_w (mm_w (mm_w (mm_w (mm_w m 12 0 21 0) 12 0 23 a) 12 0 22 0) 12 0 29 0) 12 0 31 (-1) 80 0 k = Int32.ofNat (B k) := fun k hk => ⟨(hb k hk).1, (f0 80 0 k rfl).trans (hb k hk).2⟩
  generalize mm_w (mm_w (mm_w (mm_w (mm_w m 12 0 21 0) 12 0 23 a) 12 0 22 0) 12 0 29 0) 12 0 31 (-1) = d at f0 e21 e23 e22 e29 e31 eb ⊢
  refine v_s1 (r_step (p := 0) ⟨hn, e23, eb⟩ (Nat.zero_le n) e22) (fun r hr => ?_)
  exact v_so ⟨fp_tr f0 (fp_sb (by decide) hr.1), (hr.1 12 0 21 rfl).trans e21, (hr.1 12 0 29 rfl).trans e29, (hr.1 12 0 31 rfl).trans e31, hr.2⟩
theorem z_tapB {m : mm_M} (h : j_tap m m) : ∃ (t : Nat) (B : Nat → Nat), t ≤ 400 ∧ m 1 0 1 = Int32.ofNat t ∧ m 12 0 21 = Int32.ofNat t ∧ ∀ k, k < t → B k < 256 ∧ m 80 0 k = Int32.ofNat (B k) ∧ m 15 0 k = (Int32.ofNat (B k)).toInt8.toInt32 := by
  obtain ⟨t, ht, h1, h2, h3⟩ := h
  refine ⟨t, fun k => (m 80 0 k).toNatClampNeg, ht, h1, h2, fun k hk => ?_⟩
  obtain ⟨b, hb, e1, e2⟩ := h3 k hk
  dsimp only
  rw [e1, nJ_N (by omega)]
  exact ⟨hb, rfl, e2⟩
theorem o_1 : q_Sim qJ 1 := fun m a hJ hop => by
  have hJ0 := hJ
  obtain ⟨hday, hfault, hdead, hstr, htap, hlaw, hev, hrow, hinq, hfound, hlamps, hnet, htsk, hdl, halo, hshe⟩ := hJ
  obtain ⟨t, B, ht4, ht1, ht2, hBt⟩ := z_tapB htap
  obtain ⟨T, hT8, hT1, hT2, hth⟩ := hstr
  by_cases hok : 0 ≤ (a 1).toInt ∧ (a 1).toInt ≤ (t : Int)
  · obtain ⟨n, hn⟩ : ∃ n : Nat, (a 1).toInt = (n : Int) := ⟨(a 1).toInt.toNat, by omega⟩
    have hnt : n ≤ t := by omega
    have nb : f_X11_needBytes (a 1) m = some (.inr ()) := v_is (by
      unfold f_X11_needBytes
      refine v_ifn (by rw [iA_lt, i_0]; omega) ?_
      exact v_ifp (by rw [iA_le, ht1, nJ_T (by omega)]; omega) (v_so rfl))
    have opn := c_open (m := m) (B := B) ⟨by omega, fun k hk => ⟨(hBt k (by omega)).1, (hBt k (by omega)).2.2⟩⟩ hn ht1 ht4 hnt
    have i99 : (99 : Int32).toInt = 99 := by decide
    -- the class
    have eCx : vW (f_X11_thread (a 1) (a 2) m) (fun o => ∃ y c, o = .inr (y, c) ∧ z_fC T m c ∧ c 1 0 1 = 0 ∧ (((T = 8 ∨ ¬ (0 ≤ (a 2).toInt ∧ (a 2).toInt ≤ 99)) ∧ y = -9 ∧ c 0 0 5 = -1 ∧ c 0 0 2 = Int32.ofNat T) ∨ ((T < 8 ∧ (0 ≤ (a 2).toInt ∧ (a 2).toInt ≤ 99)) ∧ ((∃ R, z_pars B n 25 [] 0 = .inr R ∧ y = Int32.ofNat T ∧ c 0 0 5 = -1 ∧ c 0 0 2 = Int32.ofNat (T + 1) ∧ c_ps c T R ∧ c 5 T 5 = a 2) ∨ (∃ e, z_pars B n 25 [] 0 = .inl e ∧ y = -1 - Int32.ofNat e.1 ∧ c 0 0 5 = Int32.ofNat e.2 ∧ c 0 0 2 = Int32.ofNat T))))) := by
      unfold f_X11_thread
      refine v_bxe nb ?_
      refine v_s1 opn ?_
      rintro m3 ⟨f3, t3, at3⟩
      refine v_lM ?_
      have fz : z_fC T m (mm_w m3 0 0 5 (-1)) := fun g j k hh => by
        rw [mw_get, if_neg (fun z => hh (Or.inr (Or.inr (Or.inl ⟨z.1, Or.inl z.2.2⟩))))]
        refine f3 g j k (z_inE (fun e he z => hh ?_))
        have hz := z.2.2
        have h1 := z.1
        rcases List.mem_cons.mp he with rfl | he
        · exact Or.inl ⟨h1.symm, by have := Nat.eq_of_beq_eq_true hz; omega⟩
        rcases List.mem_cons.mp he with rfl | he
        · exact Or.inl ⟨h1.symm, by have := Nat.eq_of_beq_eq_true hz; omega⟩
        rcases List.mem_cons.mp he with rfl | he
        · exact Or.inl ⟨h1.symm, by have := Nat.eq_of_beq_eq_true hz; omega⟩
        rcases List.mem_cons.mp he with rfl | he
        · exact Or.inl ⟨h1.symm, by have := Nat.eq_of_beq_eq_true hz; omega⟩
        rcases List.mem_cons.mp he with rfl | he
        · exact Or.inl ⟨h1.symm, by have := Nat.eq_of_beq_eq_true hz; omega⟩
        rcases List.mem_cons.mp he with rfl | he
        · exact Or.inl ⟨h1.symm, by have := Nat.eq_of_beq_eq_true hz; omega⟩
        rcases List.mem_cons.mp he with rfl | he
        · exact Or.inl ⟨h1.symm, by have := Nat.eq_of_beq_eq_true hz; omega⟩
        rcases List.mem_cons.mp he with rfl | he
        · exact Or.inr (Or.inl (Or.inl h1.symm))
        rcases List.mem_cons.mp he with rfl | he
        · exact Or.inr (Or.inl (Or.inr (Or.inl h1.symm)))
        rcases List.mem_cons.mp he with rfl | he
        · exact Or.inr (Or.inl (Or.inr (Or.inr h1.symm)))
        cases he
      have g2 : mm_w m3 0 0 5 (-1) 0 0 2 = Int32.ofNat T := (mw_k (by decide)).trans ((f3 0 0 2 rfl).trans hT1)
      have g5 : mm_w m3 0 0 5 (-1) 0 0 5 = -1 := mw_s
      have g1 : mm_w m3 0 0 5 (-1) 1 0 1 = 0 := (mw_g (by decide)).trans t3
      have at4 := c_at_fr (L := [(0, none, none)]) (r := mm_w m3 0 0 5 (-1)) (fp_w rfl fp_rf) (by decide) at3
      generalize mm_w m3 0 0 5 (-1) = m4 at fz g2 g5 g1 at4 ⊢
      by_cases hT : T = 8
      · refine v_ifp (by rw [g2, iA_le, i_8, nJ_T (by omega)]; omega) ?_
        exact v_so ⟨-9, m4, rfl, fz, g1, Or.inl ⟨Or.inl hT, rfl, g5, g2⟩⟩
      refine v_ifn (by rw [g2, iA_le, i_8, nJ_T (by omega)]; omega) ?_
      by_cases ha1 : (a 2).toInt < 0
      · refine v_ifp (by rw [iA_lt, i_0]; exact ha1) ?_
        exact v_so ⟨-9, m4, rfl, fz, g1, Or.inl ⟨Or.inr (fun z => by omega), rfl, g5, g2⟩⟩
      refine v_ifn (by rw [iA_lt, i_0]; exact ha1) ?_
      by_cases ha2 : (a 2).toInt ≤ 99
      · refine v_ifp (by rw [iA_le, i99]; exact ha2) ?_
        refine v_ifp (by rw [g2]; exact nJ_in (by omega) (by omega)) ?_
        refine v_lN ?_
        rw [show 0 + (m4 0 0 2).toNatClampNeg = T by rw [g2, nJ_N (by omega), Nat.zero_add]]
        refine v_s2 (c_thread (i := T) at4) ?_
        rintro r d hr
        dsimp only at hr
        have pz : ∀ d, c_pf T m4 d → z_fC T m d := fun d hp g j k hh => (hp g j k (fun z => hh (by omega))).trans (fz g j k hh)
        rcases hr with ⟨R, h1, h2, h3, h4⟩ | ⟨e, h1, h2, h3, h4, h5⟩
        · refine v_ifp (by rw [h2]; decide) ?_
          refine v_lM ?_
          have d2 : mm_w d 5 T 5 (a 2) 0 0 2 = Int32.ofNat T := (mw_g (by decide)).trans ((h3 0 0 2 (fun z => by omega)).trans g2)
          rw [d2, n_a1]
          refine v_lM ?_
          rw [show mm_w (mm_w d 5 T 5 (a 2)) 0 0 2 (Int32.ofNat (T + 1)) 0 0 2 - 1 = Int32.ofNat T by rw [mw_s, n_d (by omega), Nat.add_sub_cancel]]
          refine v_so ⟨_, _, rfl, fun g j k hh => ?_, ?_, Or.inr ⟨⟨by omega, by omega⟩, Or.inl ⟨R, h1, rfl, ?_, mw_s, ⟨?_, fun j x hx => ?_⟩, ?_⟩⟩⟩
          · rw [mw_get, if_neg (fun z => hh (by omega)), mw_get, if_neg (fun z => hh (by omega))]
            exact pz d h3 g j k hh
          · rw [mw_g (by decide), mw_g (by decide), h3 1 0 1 (fun z => by omega)]
            exact g1
          · rw [mw_k (by decide), mw_g (by decide), h3 0 0 5 (fun z => by omega)]
            exact g5
          · rw [mw_g (by decide), mw_k (by decide)]
            exact h4.1
          · rw [mw_g (by decide), mw_g (by decide), mw_g (by decide), mw_g (by decide), mw_g (by decide), mw_g (by decide), mw_g (by decide), mw_g (by decide)]
            exact h4.2 j x hx
          · rw [mw_g (by decide)]
            exact mw_s
        · refine v_ifn (fun z => z h2) ?_
          rw [h5]
          refine v_lM ?_
          rw [show mm_w d 0 0 5 (Int32.ofNat e.2) 1 0 9 = Int32.ofNat e.1 from (mw_g (by decide)).trans h4]
          refine v_so ⟨_, _, rfl, fun g j k hh => ?_, ?_, Or.inr ⟨⟨by omega, by omega⟩, Or.inr ⟨e, h1, rfl, mw_s, ?_⟩⟩⟩
          · rw [mw_get, if_neg (fun z => hh (by omega))]
            exact pz d h3 g j k hh
          · rw [mw_g (by decide), h3 1 0 1 (fun z => by omega)]
            exact g1
          · rw [mw_k (by decide), h3 0 0 2 (fun z => by omega)]
            exact g2
      · refine v_ifn (by rw [iA_le, i99]; exact ha2) ?_
        exact v_so ⟨-9, m4, rfl, fz, g1, Or.inl ⟨Or.inr (fun z => by omega), rfl, g5, g2⟩⟩
    -- the reference
    have eMx : vW (f_X12_thread (a 1) (a 2) m) (fun q => q.2 12 0 3 = 0 ∧ z_fM T m q.2 ∧ q.2 12 0 21 = 0 ∧ (((T = 8 ∨ ¬ (0 ≤ (a 2).toInt ∧ (a 2).toInt ≤ 99)) ∧ q.1 = -9 ∧ q.2 12 0 31 = -1 ∧ q.2 12 0 4 = Int32.ofNat T) ∨ ((T < 8 ∧ (0 ≤ (a 2).toInt ∧ (a 2).toInt ≤ 99)) ∧ ((∃ R, z_pars B n 25 [] 0 = .inr R ∧ q.1 = Int32.ofNat T ∧ q.2 12 0 31 = -1 ∧ q.2 12 0 4 = Int32.ofNat (T + 1) ∧ q.2 67 0 T = Int32.ofNat R.length ∧ q.2 68 0 T = a 2 ∧ ∀ j x, R[j]? = some x → q.2 69 0 (24 * T + j) = Int32.ofNat x.1 ∧ q.2 70 0 (24 * T + j) = Int32.ofNat x.2.1 ∧ q.2 71 0 (24 * T + j) = Int32.ofNat x.2.2.1 ∧ q.2 72 0 (24 * T + j) = Int32.ofNat x.2.2.2) ∨ (∃ e, z_pars B n 25 [] 0 = .inl e ∧ q.1 = -1 - Int32.ofNat e.1 ∧ q.2 12 0 31 = Int32.ofNat e.2 ∧ q.2 12 0 4 = Int32.ofNat T))))) := by
      unfold f_X12_thread
      refine v_lM ?_
      have e21 : mm_w m 12 0 3 0 12 0 21 = Int32.ofNat t := (w3 (by decide)).trans ht2
      refine v_ifn (by rw [iA_lt, i_0]; omega) ?_
      refine v_ifp (by rw [iA_le, e21, nJ_T (by omega)]; omega) ?_
      refine v_s1 (r_begin (B := B) (n := n) (by omega) hn (fun k hk => ⟨(hBt k (by omega)).1, (fp_30 80 0 k rfl).trans (hBt k (by omega)).2.1⟩)) ?_
      rintro m5 ⟨f5, g21, g29, g31, hat⟩
      have fz : z_fM T m m5 := fun g j k hh => by
        rw [f5 g j k (z_inE (fun e he z => hh (by
          have hz := z.2.2
          have h1 := z.1
          have fin : ∀ x : Nat, (x = 3 ∨ x = 4 ∨ (21 ≤ x ∧ x ≤ 31)) → 12 = g → z_o (some x) k = true → (g = 12 ∧ (k = 3 ∨ k = 4 ∨ (21 ≤ k ∧ k ≤ 31))) := fun x hx hg hk => ⟨hg.symm, by have := Nat.eq_of_beq_eq_true hk; omega⟩
          rcases List.mem_cons.mp he with rfl | he
          · exact Or.inl (fin 21 (by omega) h1 hz)
          rcases List.mem_cons.mp he with rfl | he
          · exact Or.inl (fin 22 (by omega) h1 hz)
          rcases List.mem_cons.mp he with rfl | he
          · exact Or.inl (fin 23 (by omega) h1 hz)
          rcases List.mem_cons.mp he with rfl | he
          · exact Or.inl (fin 24 (by omega) h1 hz)
          rcases List.mem_cons.mp he with rfl | he
          · exact Or.inl (fin 25 (by omega) h1 hz)
          rcases List.mem_cons.mp he with rfl | he
          · exact Or.inl (fin 26 (by omega) h1 hz)
          rcases List.mem_cons.mp he with rfl | he
          · exact Or.inl (fin 27 (by omega) h1 hz)
          rcases List.mem_cons.mp he with rfl | he
          · exact Or.inl (fin 28 (by omega) h1 hz)
          rcases List.mem_cons.mp he with rfl | he
          · exact Or.inl (fin 29 (by omega) h1 hz)
          rcases List.mem_cons.mp he with rfl | he
          · exact Or.inl (fin 31 (by omega) h1 hz)
          cases he)))]
        exact w3 (fun z => hh (by omega))
      have g3 : m5 12 0 3 = 0 := (f5 12 0 3 rfl).trans mw_s
      have g4 : m5 12 0 4 = Int32.ofNat T := (f5 12 0 4 rfl).trans ((w3 (by decide)).trans hT2)
      by_cases hT : T = 8
      · refine v_ifp (by rw [g4, hT]; rfl) ?_
        exact v_so ⟨g3, fz, g21, Or.inl ⟨Or.inl hT, rfl, g31, g4⟩⟩
      refine v_ifn (by rw [g4]; exact fun z => hT ((n_eq (b := 8) (by omega) (by omega)).mp z)) ?_
      by_cases ha2 : 0 ≤ (a 2).toInt ∧ (a 2).toInt ≤ 99
      · refine v_b1e (r_is1 (by rw [i_0, i99]; exact ha2)) ?_
        refine v_ifp (by decide) ?_
        refine v_lM ?_
        have f7 : fp [(67, none, none)] m5 (mm_w m5 67 0 8 0) := fp_w rfl fp_rf
        have fz7 : z_fM T m (mm_w m5 67 0 8 0) := fun g j k hh => by
          rw [mw_get, if_neg (fun z => hh (by omega))]
          exact fz g j k hh
        refine v_s1 (r_thr (B := B) (n := n) (r_at_fr f7 (by decide) hat) ((f7 12 0 29 rfl).trans g29) mw_s) ?_
        rintro m20 ⟨hpf, hs⟩
        have fz20 : z_fM T m m20 := fun g j k hh => (hpf g j k (fun z => hh (by omega))).trans (fz7 g j k hh)
        have h20 : ∀ k, (k = 3 ∨ k = 4 ∨ k = 21 ∨ k = 31) → m20 12 0 k = m5 12 0 k := fun k hk => (hpf 12 0 k (fun z => by omega)).trans (mw_g (by decide))
        rcases hs with ⟨R, hR, k29, kps⟩ | ⟨e, hR, her⟩
        · obtain ⟨b1, b2, b3⟩ := z_pars_b 25 [] 0 R (Nat.zero_le n) (fun x hx => (by cases hx)) (by show 0 ≤ 24; omega) (Or.inl (by omega)) hR
          refine v_ifp k29 ?_
          have e4 : m20 12 0 4 = Int32.ofNat T := (h20 4 (by omega)).trans g4
          refine v_ifp (by rw [e4]; exact nJ_in (by omega) (by omega)) ?_
          rw [show (m20 12 0 4).toNatClampNeg = T by rw [e4, nJ_N (by omega)]]
          refine v_lM ?_
          have e4b : mm_w m20 67 0 T (m20 67 0 8) 12 0 4 = Int32.ofNat T := (mw_g (by decide)).trans e4
          refine v_ifp (by rw [e4b]; exact nJ_in (by omega) (by omega)) ?_
          rw [show (mm_w m20 67 0 T (m20 67 0 8) 12 0 4).toNatClampNeg = T by rw [e4b, nJ_N (by omega)]]
          refine v_lM ?_
          have e4c : mm_w (mm_w m20 67 0 T (m20 67 0 8)) 68 0 T (a 2) 12 0 4 = Int32.ofNat T := (mw_g (by decide)).trans e4b
          have x67 : mm_w (mm_w m20 67 0 T (m20 67 0 8)) 68 0 T (a 2) 67 0 T = Int32.ofNat R.length := (mw_g (by decide)).trans (mw_s.trans kps.1)
          have x68 : mm_w (mm_w m20 67 0 T (m20 67 0 8)) 68 0 T (a 2) 68 0 T = a 2 := mw_s
          have xps : ∀ g k, 69 ≤ g → g ≤ 72 → mm_w (mm_w m20 67 0 T (m20 67 0 8)) 68 0 T (a 2) g 0 k = m20 g 0 k := fun g k h1 h2 => (mw_g (by omega)).trans (mw_g (by omega))
          have fz22 : z_fM T m (mm_w (mm_w m20 67 0 T (m20 67 0 8)) 68 0 T (a 2)) := fun g j k hh => by
            rw [mw_get, if_neg (fun z => hh (by omega)), mw_get, if_neg (fun z => hh (by omega))]
            exact fz20 g j k hh
          have x12 : ∀ k, mm_w (mm_w m20 67 0 T (m20 67 0 8)) 68 0 T (a 2) 12 0 k = m20 12 0 k := fun k => (mw_g (by decide)).trans (mw_g (by decide))
          generalize mm_w (mm_w m20 67 0 T (m20 67 0 8)) 68 0 T (a 2) = m22 at e4c x67 x68 xps fz22 x12 ⊢
          refine v_s1 (P := fun d => (∀ g j k, ¬ (69 ≤ g ∧ g ≤ 72 ∧ 24 * T ≤ k ∧ k < 24 * T + 24) → d g j k = m22 g j k) ∧ ∀ g x, 69 ≤ g → g ≤ 72 → x < 24 → d g 0 (24 * T + x) = m22 g 0 (192 + x)) ?_ (fun d hd => ?_)
          · refine v_for (fun j s => s.1.toInt = (j : Int) ∧ (∀ g i k, ¬ (69 ≤ g ∧ g ≤ 72 ∧ 24 * T ≤ k ∧ k < 24 * T + 24) → s.2 g i k = m22 g i k) ∧ ∀ g x, 69 ≤ g → g ≤ 72 → x < j → s.2 g 0 (24 * T + x) = m22 g 0 (192 + x)) 0 24 (by omega) (by omega) ⟨i_0, fun _ _ _ _ => rfl, fun g x _ _ hx => absurd hx (Nat.not_lt_zero x)⟩ ?_ ?_
            · rintro j ⟨v, c⟩ hj ⟨hv, hk, hcp⟩
              dsimp only at hv hk hcp ⊢
              have hI : (192 + v).toInt = ((192 + j : Nat) : Int) := iA_addN (show (192 : Int32).toInt = ((192 : Nat) : Int) by decide) hv (by omega)
              have kI := n_k hI
              have iI : mm_in (192 + v) 216 := v_in.mpr (by rw [hI]; omega)
              have hX : (Int32.ofNat T * 24 + v).toInt = ((24 * T + j : Nat) : Int) := by
                rw [iA_addN (iA_mulN (nJ_T (show T < 2147483648 by omega)) (show (24 : Int32).toInt = ((24 : Nat) : Int) by decide) (by omega)) hv (by omega), Nat.mul_comm]
              have kX := n_k hX
              have iX : mm_in (Int32.ofNat T * 24 + v) 216 := v_in.mpr (by rw [hX]; omega)
              have c4 : c 12 0 4 = Int32.ofNat T := (hk 12 0 4 (fun z => by omega)).trans e4c
              have r0 : ∀ g, 69 ≤ g → g ≤ 72 → c g 0 (192 + j) = m22 g 0 (192 + j) := fun g h1 h2 => hk g 0 (192 + j) (fun z => by omega)
              have i24 : (24 : Int32).toInt = 24 := by decide
              refine v_ifn (by rw [iA_le, i24, hv]; omega) ?_
              refine v_ifp iI ?_
              refine v_ifp (by rw [c4]; exact iX) ?_
              refine v_lM ?_
              rw [show (c 12 0 4 * 24 + v).toNatClampNeg = 24 * T + j by rw [c4]; exact kX, show c 69 0 (192 + v).toNatClampNeg = m22 69 0 (192 + j) by rw [kI]; exact r0 69 (by omega) (by omega)]
              have c4a : ∀ x, mm_w c 69 0 (24 * T + j) x 12 0 4 = Int32.ofNat T := fun x => (mw_g (by decide)).trans c4
              refine v_ifp iI ?_
              refine v_ifp (by rw [c4a]; exact iX) ?_
              refine v_lM ?_
              rw [show (mm_w c 69 0 (24 * T + j) (m22 69 0 (192 + j)) 12 0 4 * 24 + v).toNatClampNeg = 24 * T + j by rw [c4a]; exact kX, show mm_w c 69 0 (24 * T + j) (m22 69 0 (192 + j)) 70 0 (192 + v).toNatClampNeg = m22 70 0 (192 + j) by rw [kI, mw_g (by decide)]; exact r0 70 (by omega) (by omega)]
              have c4b : mm_w (mm_w c 69 0 (24 * T + j) (m22 69 0 (192 + j))) 70 0 (24 * T + j) (m22 70 0 (192 + j)) 12 0 4 = Int32.ofNat T := (mw_g (by decide)).trans (c4a _)
              refine v_ifp iI ?_
              refine v_ifp (by rw [c4b]; exact iX) ?_
              refine v_lM ?_
              rw [show (mm_w (mm_w c 69 0 (24 * T + j) (m22 69 0 (192 + j))) 70 0 (24 * T + j) (m22 70 0 (192 + j)) 12 0 4 * 24 + v).toNatClampNeg = 24 * T + j by rw [c4b]; exact kX, show mm_w (mm_w c 69 0 (24 * T + j) (m22 69 0 (192 + j))) 70 0 (24 * T + j) (m22 70 0 (192 + j)) 71 0 (192 + v).toNatClampNeg = m22 71 0 (192 + j) by rw [kI, mw_g (by decide), mw_g (by decide)]; exact r0 71 (by omega) (by omega)]
              have c4c : mm_w (mm_w (mm_w c 69 0 (24 * T + j) (m22 69 0 (192 + j))) 70 0 (24 * T + j) (m22 70 0 (192 + j))) 71 0 (24 * T + j) (m22 71 0 (192 + j)) 12 0 4 = Int32.ofNat T := (mw_g (by decide)).trans c4b
              refine v_ifp iI ?_
              refine v_ifp (by rw [c4c]; exact iX) ?_
              refine v_lM ?_
              rw [show (mm_w (mm_w (mm_w c 69 0 (24 * T + j) (m22 69 0 (192 + j))) 70 0 (24 * T + j) (m22 70 0 (192 + j))) 71 0 (24 * T + j) (m22 71 0 (192 + j)) 12 0 4 * 24 + v).toNatClampNeg = 24 * T + j by rw [c4c]; exact kX, show mm_w (mm_w (mm_w c 69 0 (24 * T + j) (m22 69 0 (192 + j))) 70 0 (24 * T + j) (m22 70 0 (192 + j))) 71 0 (24 * T + j) (m22 71 0 (192 + j)) 72 0 (192 + v).toNatClampNeg = m22 72 0 (192 + j) by rw [kI, mw_g (by decide), mw_g (by decide), mw_g (by decide)]; exact r0 72 (by omega) (by omega)]
              refine v_l1 ?_
              refine v_il ⟨n_s3 hv (by omega), fun g i k hh => ?_, fun g x h1 h2 hx => ?_⟩
              · dsimp only
                rw [mw_get, if_neg (fun z => hh (by omega)), mw_get, if_neg (fun z => hh (by omega)), mw_get, if_neg (fun z => hh (by omega)), mw_get, if_neg (fun z => hh (by omega))]
                exact hk g i k hh
              · dsimp only
                by_cases hxj : x = j
                · rw [hxj]
                  rcases (by omega : g = 69 ∨ g = 70 ∨ g = 71 ∨ g = 72) with rfl | rfl | rfl | rfl
                  · rw [mw_g (by decide), mw_g (by decide), mw_g (by decide), mw_s]
                  · rw [mw_g (by decide), mw_g (by decide), mw_s]
                  · rw [mw_g (by decide), mw_s]
                  · rw [mw_s]
                · rw [mw_get, if_neg (fun z => by omega), mw_get, if_neg (fun z => by omega), mw_get, if_neg (fun z => by omega), mw_get, if_neg (fun z => by omega)]
                  exact hcp g x h1 h2 (by omega)
            · rintro ⟨v, c⟩ ⟨hv, hk, hcp⟩
              dsimp only at hv hk hcp ⊢
              have i24 : (24 : Int32).toInt = 24 := by decide
              refine v_ifp (by rw [iA_le, i24, hv]; omega) ?_
              exact v_ir ⟨hk, hcp⟩
          · obtain ⟨hk, hcp⟩ := hd
            have d4 : d 12 0 4 = Int32.ofNat T := (hk 12 0 4 (fun z => by omega)).trans e4c
            rw [d4, n_a1]
            refine v_lM ?_
            rw [show mm_w d 12 0 4 (Int32.ofNat (T + 1)) 12 0 4 - 1 = Int32.ofNat T by rw [mw_s, n_d (by omega), Nat.add_sub_cancel]]
            have d12 : ∀ k, ¬ k = 4 → mm_w d 12 0 4 (Int32.ofNat (T + 1)) 12 0 k = m20 12 0 k := fun k hk4 => (mw_k hk4).trans ((hk 12 0 k (fun z => by omega)).trans (x12 k))
            refine v_so ⟨(d12 3 (by decide)).trans ((h20 3 (by omega)).trans g3), fun g j k hh => ?_, (d12 21 (by decide)).trans ((h20 21 (by omega)).trans g21), Or.inr ⟨⟨by omega, ha2⟩, Or.inl ⟨R, hR, rfl, (d12 31 (by decide)).trans ((h20 31 (by omega)).trans g31), by dsimp only; exact mw_s, ?_, ?_, fun j x hx => ?_⟩⟩⟩
            · dsimp only
              rw [mw_get, if_neg (fun z => hh (by omega)), hk g j k (fun z => hh (by omega))]
              exact fz22 g j k hh
            · dsimp only
              rw [mw_g (by decide), hk 67 0 T (fun z => by omega)]
              exact x67
            · dsimp only
              rw [mw_g (by decide), hk 68 0 T (fun z => by omega)]
              exact x68
            · dsimp only
              have hj := (List.getElem?_eq_some_iff.mp hx).1
              obtain ⟨y1, y2, y3, y4⟩ := kps.2 j x hx
              rw [mw_g (by decide), mw_g (by decide), mw_g (by decide), mw_g (by decide), hcp 69 j (by omega) (by omega) (by omega), hcp 70 j (by omega) (by omega) (by omega), hcp 71 j (by omega) (by omega) (by omega), hcp 72 j (by omega) (by omega) (by omega), xps 69 _ (by omega) (by omega), xps 70 _ (by omega) (by omega), xps 71 _ (by omega) (by omega), xps 72 _ (by omega) (by omega)]
              exact ⟨y1, y2, y3, y4⟩
        · refine v_ifn (r_err_n her) ?_
          rw [her.2.2]
          refine v_lM ?_
          rw [show mm_w m20 12 0 31 (Int32.ofNat e.2) 12 0 29 = Int32.ofNat e.1 from (mw_k (by decide)).trans her.2.1]
          have d31 : ∀ k, ¬ k = 31 → mm_w m20 12 0 31 (Int32.ofNat e.2) 12 0 k = m20 12 0 k := fun k hk => mw_k hk
          refine v_so ⟨(d31 3 (by decide)).trans ((h20 3 (by omega)).trans g3), fun g j k hh => ?_, (d31 21 (by decide)).trans ((h20 21 (by omega)).trans g21), Or.inr ⟨⟨by omega, ha2⟩, Or.inr ⟨e, hR, rfl, by dsimp only; exact mw_s, (d31 4 (by decide)).trans ((h20 4 (by omega)).trans g4)⟩⟩⟩
          dsimp only
          rw [mw_get, if_neg (fun z => hh (by omega))]
          exact fz20 g j k hh
      · refine v_b1e (r_is0 (by rw [i_0, i99]; exact ha2)) ?_
        refine v_ifn (fun z => z rfl) ?_
        exact v_so ⟨g3, fz, g21, Or.inl ⟨Or.inr ha2, rfl, g31, g4⟩⟩
    obtain ⟨o, eC, y, c, ho, fC, tC, hcs⟩ := eCx
    obtain ⟨⟨w, r⟩, eM, h3, fM, tM, hms⟩ := eMx
    dsimp only at h3 fM tM hms
    subst ho
    have key : w = y ∧ c 0 0 5 = r 12 0 31 ∧ ((c 0 0 2 = Int32.ofNat T ∧ r 12 0 4 = Int32.ofNat T) ∨ (T < 8 ∧ c 0 0 2 = Int32.ofNat (T + 1) ∧ r 12 0 4 = Int32.ofNat (T + 1) ∧ ∃ N K A B H Y, z_thB N K A B Y ∧ z_thC c T N K A B H Y ∧ z_thM r T N K A B H Y)) := by
      rcases hcs with ⟨h1, h2, h5, h6⟩ | ⟨h1, hh⟩
      · rcases hms with ⟨_, k2, k5, k6⟩ | ⟨k1, _⟩
        · exact ⟨by rw [h2, k2], by rw [h5, k5], Or.inl ⟨h6, k6⟩⟩
        · rcases h1 with h1 | h1
          · omega
          · exact absurd k1.2 h1
      · rcases hms with ⟨k1, _⟩ | ⟨_, kk⟩
        · rcases k1 with k1 | k1
          · omega
          · exact absurd h1.2 k1
        · rcases hh with ⟨R, h2, h4, h5, h6, h7, h8⟩ | ⟨e, h2, h4, h5, h6⟩
          · rcases kk with ⟨R2, k2, k4, k5, k6, k7, k8, k9⟩ | ⟨e, k2, _⟩
            · rw [h2] at k2
              have hRR := Sum.inr.inj k2
              subst hRR
              obtain ⟨b1, b2, b3⟩ := z_pars_b 25 [] 0 R (Nat.zero_le n) (fun x hx => (by cases hx)) (by show 0 ≤ 24; omega) (Or.inl (by omega)) h2
              obtain ⟨Y, hY⟩ : ∃ Y : Nat, (a 2).toInt = (Y : Int) := ⟨(a 2).toInt.toNat, by have := h1.2.1; omega⟩
              have eY : a 2 = Int32.ofNat Y := n_0L (by have := h1.2.2; omega) hY
              refine ⟨by rw [h4, k4], by rw [h5, k5], Or.inr ⟨h1.1, h6, k6, R.length, c 37 T, c 38 T, c 39 T, c 40 T, Y, ⟨b2, b3, by have := h1.2.2; omega, fun p hp => ?_⟩, ⟨h7.1, h8.trans eY, fun p hp => ⟨rfl, rfl, rfl, rfl⟩⟩, k7, k8.trans eY, fun p hp => ?_⟩⟩
              · obtain ⟨x, hx, _⟩ := z_tkP hp
                obtain ⟨a1, a2', a3, a4⟩ := h7.2 p x hx
                obtain ⟨d1, d2, d3, d4⟩ := b1 x (List.mem_of_getElem? hx)
                rw [a1, a2', a3]
                refine ⟨⟨x.1, d1, rfl⟩, ⟨x.2.1, d2, rfl⟩, ⟨x.2.2.1, d3, rfl⟩, fun z => ?_⟩
                rw [d4 ((n_eq (b := 1) (by omega) (by omega)).mp z)]
                rfl
              · obtain ⟨x, hx, _⟩ := z_tkP hp
                obtain ⟨a1, a2', a3, a4⟩ := h7.2 p x hx
                obtain ⟨d1, d2, d3, d4⟩ := k9 p x hx
                rw [a1, a2', a3, a4]
                exact ⟨d1, d2, d3, d4⟩
            · rw [h2] at k2
              cases k2
          · rcases kk with ⟨R2, k2, _⟩ | ⟨e2, k2, k4, k5, k6⟩
            · rw [h2] at k2
              cases k2
            · rw [h2] at k2
              have hee := Sum.inl.inj k2
              subst hee
              exact ⟨by rw [h4, k4], by rw [h5, k5], Or.inl ⟨h6, k6⟩⟩
    obtain ⟨k1, k2, k3⟩ := key
    refine ⟨_, _, t_op1 hop eC eM (thrown_eq _) (fun e9 h => by cases h) (fun t h => ?_), thr_J hJ0 hT1 hT8 fC fM tC tM k2 k3⟩
    cases h
    exact ⟨h3, k1⟩
  · have eC : f_X11_thread (a 1) (a 2) m = some (.inl 0) := v_is (by
      unfold f_X11_thread
      refine v_bxi ?_ rfl
      refine v_is ?_
      unfold f_X11_needBytes
      by_cases h1 : (a 1).toInt < 0
      · exact v_ifp (by rw [iA_lt, i_0]; exact h1) (v_so rfl)
      · refine v_ifn (by rw [iA_lt, i_0]; exact h1) ?_
        exact v_ifn (by rw [iA_le, ht1, nJ_T (by omega)]; omega) (v_so rfl))
    have eM : f_X12_thread (a 1) (a 2) m = some (0, mm_w (mm_w m 12 0 3 0) 12 0 3 1) := v_is (by
      unfold f_X12_thread
      refine v_lM ?_
      have e21 : mm_w m 12 0 3 0 12 0 21 = Int32.ofNat t := (w3 (by decide)).trans ht2
      by_cases h1 : (a 1).toInt < 0
      · refine v_ifp (by rw [iA_lt, i_0]; exact h1) ?_
        exact v_b2e r_fail1 (v_so rfl)
      · refine v_ifn (by rw [iA_lt, i_0]; exact h1) ?_
        refine v_ifn (by rw [iA_le, e21, nJ_T (by omega)]; omega) ?_
        exact v_b2e r_fail1 (v_so rfl))
    refine ⟨_, _, t_op1 hop eC eM (thrown_eq _) (fun e9 h => ?_) (fun t h => by cases h), qJ_3 fp_31 hJ0⟩
    cases h
    exact ⟨rfl, mw_s⟩
