/-! a thread read by the class -/
theorem z_part_1 {B : Nat → Nat} {n p : Nat} {L : List zP} (h : z_kd B n p < 256 ∨ 259 < z_kd B n p) : z_part B n L p = .inl (1, z_ts B n p) := if_pos h
theorem z_part_2 {B : Nat → Nat} {n p : Nat} {L : List zP} (h : ¬ (z_kd B n p < 256 ∨ 259 < z_kd B n p)) (h2 : 24 ≤ L.length) : z_part B n L p = .inl (2, z_ts B n p) := (if_neg h).trans (if_pos h2)
theorem z_part_3 {B : Nat → Nat} {n p : Nat} {L : List zP} (h : ¬ (z_kd B n p < 256 ∨ 259 < z_kd B n p)) (h2 : ¬ 24 ≤ L.length) (h3 : z_kd B n p = 259 ∧ 6 ≤ z_cp L 3) : z_part B n L p = .inl (2, z_ts B n p) := (if_neg h).trans ((if_neg h2).trans (if_pos h3))
theorem z_part_4 {B : Nat → Nat} {n p : Nat} {L : List zP} (h : ¬ (z_kd B n p < 256 ∨ 259 < z_kd B n p)) (h2 : ¬ 24 ≤ L.length) (h3 : ¬ (z_kd B n p = 259 ∧ 6 ≤ z_cp L 3)) : z_part B n L p = z_fin B n (z_kd B n p - 256) (z_cp L (z_kd B n p - 256) + 1) (z_ab B n (z_kd B n p - 256) (z_te B n p)) := (if_neg h).trans ((if_neg h2).trans (if_neg h3))
theorem c_part {c : mm_M} {B : Nat → Nat} {n p i : Nat} {L : List zP} (h : c_at c B n p) (hp : p ≤ n) (hps : c_ps c i L) (hl : L.length ≤ 24) (hg : ∀ x, x ∈ L → x.1 < 4) : vW (f_X8_readPart i c) (fun t => (∃ x, z_part B n L p = .inr x ∧ t.1 = 1 ∧ c_pf i c t.2 ∧ c_ps t.2 i (L ++ [x.1]) ∧ c_at t.2 B n x.2) ∨ (∃ e, z_part B n L p = .inl e ∧ t.1 = 0 ∧ c_pf i c t.2 ∧ t.2 1 0 9 = Int32.ofNat e.1 ∧ t.2 1 0 10 = Int32.ofNat e.2)) := by
  have hkb := z_kd_b (B := B) (n := n) (p := p)
  have h7 : c 1 0 7 = Int32.ofNat (z_kd B n p) := by
    obtain ⟨_, _, _, _, _, _, h7, _⟩ := h
    exact h7
  have hv1 : (c 1 0 7 - 256).toInt = (z_kd B n p : Int) - 256 := by
    rw [h7, iA_sub (by rw [nJ_T (by omega), show (256 : Int32).toInt = 256 by decide]; omega) (by rw [nJ_T (by omega), show (256 : Int32).toInt = 256 by decide]; omega), nJ_T (by omega), show (256 : Int32).toInt = 256 by decide]
  have rf : ∀ a : Nat, a < 10 → z_part B n L p = .inl (a, z_ts B n p) → vW (mm_b2 (f_X9_refuse (Int32.ofNat a) c) fun r2 m3 => if r2 = 0 ∨ r2 = 1 then some (r2, m3) else none) (fun t => (∃ x, z_part B n L p = .inr x ∧ t.1 = 1 ∧ c_pf i c t.2 ∧ c_ps t.2 i (L ++ [x.1]) ∧ c_at t.2 B n x.2) ∨ (∃ e, z_part B n L p = .inl e ∧ t.1 = 0 ∧ c_pf i c t.2 ∧ t.2 1 0 9 = Int32.ofNat e.1 ∧ t.2 1 0 10 = Int32.ofNat e.2)) := fun a ha he => by
    refine v_s2 (c_rfs h) ?_
    rintro r d ⟨h1, h2, h3, h4⟩
    dsimp only at h1 h2 h3 h4
    exact v_ifp (Or.inl h1) (v_so (Or.inr ⟨_, he, h1, c_pfE h2, h3, h4⟩))
  unfold f_X8_readPart
  refine v_lI (fun v1 hv => ?_)
  rw [← hv] at hv1
  clear hv
  by_cases k1 : z_kd B n p < 256
  · refine v_ifp (by rw [iA_lt, i_0]; omega) ?_
    exact rf 1 (by omega) (z_part_1 (Or.inl k1))
  refine v_ifn (by rw [iA_lt, i_0]; omega) ?_
  have i3 : (3 : Int32).toInt = 3 := by decide
  by_cases k2 : 259 < z_kd B n p
  · refine v_ifn (by rw [iA_le, i3]; omega) ?_
    exact rf 1 (by omega) (z_part_1 (Or.inr k2))
  have kk : ¬ (z_kd B n p < 256 ∨ 259 < z_kd B n p) := by omega
  refine v_ifp (by rw [iA_le, i3]; omega) ?_
  have ev1 : v1 = Int32.ofNat (z_kd B n p - 256) := n_0L (by omega) (by omega)
  have hcb := z_cp_b (L := L) (q := z_kd B n p - 256)
  refine v_b1e (c_cnt hps hl hg ev1 (by omega)) ?_
  have i24 : (24 : Int32).toInt = 24 := by decide
  by_cases k3 : 24 ≤ L.length
  · refine v_ifp (by rw [iA_le, hps.1, i24, nJ_T (by omega)]; omega) ?_
    exact rf 2 (by omega) (z_part_2 kk k3)
  refine v_ifn (by rw [iA_le, hps.1, i24, nJ_T (by omega)]; omega) ?_
  refine v_lO ?_
  have main : ¬ (z_kd B n p = 259 ∧ 6 ≤ z_cp L 3) → vW (mm_b1 (f_X9_advance c) fun m9 =>
if mm_in (m9 5 i 4) 24 then (
mm_let (mm_w m9 37 i ((m9 5 i 4).toNatClampNeg) v1) fun m10 =>
if mm_in (m10 5 i 4) 24 then (
mm_let (mm_w m10 38 i ((m10 5 i 4).toNatClampNeg) 0) fun m11 =>
if mm_in (m11 5 i 4) 24 then (
mm_let (mm_w m11 39 i ((m11 5 i 4).toNatClampNeg) 0) fun m12 =>
if mm_in (m12 5 i 4) 24 then (
mm_let (mm_w m12 40 i ((m12 5 i 4).toNatClampNeg) (Int32.ofNat (z_cp L (z_kd B n p - 256)) + 1)) fun m13 =>
mm_b2 (f_X8_readNumbers i v1 m13) fun r14 m15 =>
if r14 = 0 then (some (0, m15))
else (mm_b2 (f_X9_passSign 59 m15) fun r16 m17 =>
if r16 ≠ 0 then (mm_let (mm_w m17 5 i 4 ((m17 5 i 4) + 1)) fun m18 =>
some (1, m18))
else (some (0, m17)))) else none) else none) else none) else none : Option (Int32 × mm_M)) (fun t => (∃ x, z_part B n L p = .inr x ∧ t.1 = 1 ∧ c_pf i c t.2 ∧ c_ps t.2 i (L ++ [x.1]) ∧ c_at t.2 B n x.2) ∨ (∃ e, z_part B n L p = .inl e ∧ t.1 = 0 ∧ c_pf i c t.2 ∧ t.2 1 0 9 = Int32.ofNat e.1 ∧ t.2 1 0 10 = Int32.ofNat e.2)) := fun k4 => by
    have ep := z_part_4 (L := L) kk k3 k4
    generalize hq : z_kd B n p - 256 = q at ev1 hcb ep
    refine v_s1 (c_adv hp h) ?_
    rintro d ⟨hfd, hatd⟩
    have iN : mm_in (Int32.ofNat L.length) 24 := nJ_in (by omega) (by omega)
    have kN : (Int32.ofNat L.length).toNatClampNeg = L.length := nJ_N (by omega)
    have g0 : d 5 i 4 = Int32.ofNat L.length := (hfd 5 i 4 rfl).trans hps.1
    refine v_ifp (by rw [g0]; exact iN) ?_
    refine v_lM ?_
    rw [show (d 5 i 4).toNatClampNeg = L.length by rw [g0]; exact kN]
    have g1 : mm_w d 37 i L.length v1 5 i 4 = Int32.ofNat L.length := (mw_g (by decide)).trans g0
    refine v_ifp (by rw [g1]; exact iN) ?_
    refine v_lM ?_
    rw [show (mm_w d 37 i L.length v1 5 i 4).toNatClampNeg = L.length by rw [g1]; exact kN]
    have g2 : mm_w (mm_w d 37 i L.length v1) 38 i L.length 0 5 i 4 = Int32.ofNat L.length := (mw_g (by decide)).trans g1
    refine v_ifp (by rw [g2]; exact iN) ?_
    refine v_lM ?_
    rw [show (mm_w (mm_w d 37 i L.length v1) 38 i L.length 0 5 i 4).toNatClampNeg = L.length by rw [g2]; exact kN]
    have g3 : mm_w (mm_w (mm_w d 37 i L.length v1) 38 i L.length 0) 39 i L.length 0 5 i 4 = Int32.ofNat L.length := (mw_g (by decide)).trans g2
    refine v_ifp (by rw [g3]; exact iN) ?_
    refine v_lM ?_
    rw [show (mm_w (mm_w (mm_w d 37 i L.length v1) 38 i L.length 0) 39 i L.length 0 5 i 4).toNatClampNeg = L.length by rw [g3]; exact kN, n_a1]
    have fpf : c_pf i c (mm_w (mm_w (mm_w (mm_w d 37 i L.length v1) 38 i L.length 0) 39 i L.length 0) 40 i L.length (Int32.ofNat (z_cp L q + 1))) := c_pfw (Or.inr (by omega)) (c_pfw (Or.inr (by omega)) (c_pfw (Or.inr (by omega)) (c_pfw (Or.inr (by omega)) (c_pfA hfd))))
    have f13 : fp [(37, none, none), (38, none, none), (39, none, none), (40, none, none)] d (mm_w (mm_w (mm_w (mm_w d 37 i L.length v1) 38 i L.length 0) 39 i L.length 0) 40 i L.length (Int32.ofNat (z_cp L q + 1))) := fp_w rfl (fp_w rfl (fp_w rfl (fp_w rfl fp_rf)))
    have a37 : mm_w (mm_w (mm_w (mm_w d 37 i L.length v1) 38 i L.length 0) 39 i L.length 0) 40 i L.length (Int32.ofNat (z_cp L q + 1)) 37 i L.length = Int32.ofNat q := by
      rw [mw_g (by decide), mw_g (by decide), mw_g (by decide), mw_s]
      exact ev1
    have a38 : mm_w (mm_w (mm_w (mm_w d 37 i L.length v1) 38 i L.length 0) 39 i L.length 0) 40 i L.length (Int32.ofNat (z_cp L q + 1)) 38 i L.length = 0 := by
      rw [mw_g (by decide), mw_g (by decide), mw_s]
    have a39 : mm_w (mm_w (mm_w (mm_w d 37 i L.length v1) 38 i L.length 0) 39 i L.length 0) 40 i L.length (Int32.ofNat (z_cp L q + 1)) 39 i L.length = 0 := by
      rw [mw_g (by decide), mw_s]
    have a40 : mm_w (mm_w (mm_w (mm_w d 37 i L.length v1) 38 i L.length 0) 39 i L.length 0) 40 i L.length (Int32.ofNat (z_cp L q + 1)) 40 i L.length = Int32.ofNat (z_cp L q + 1) := mw_s
    have alo : ∀ g j, ¬ g = 1 → j < L.length → mm_w (mm_w (mm_w (mm_w d 37 i L.length v1) 38 i L.length 0) 39 i L.length 0) 40 i L.length (Int32.ofNat (z_cp L q + 1)) g i j = c g i j := fun g j hg hj => by
      rw [mw_get, if_neg (fun z => by omega), mw_get, if_neg (fun z => by omega), mw_get, if_neg (fun z => by omega), mw_get, if_neg (fun z => by omega)]
      exact hfd g i j (z_inE (fun e he z => by
        rcases List.mem_cons.mp he with rfl | he
        · exact hg z.1.symm
        rcases List.mem_cons.mp he with rfl | he
        · exact hg z.1.symm
        rcases List.mem_cons.mp he with rfl | he
        · exact hg z.1.symm
        cases he))
    have a5 : mm_w (mm_w (mm_w (mm_w d 37 i L.length v1) 38 i L.length 0) 39 i L.length 0) 40 i L.length (Int32.ofNat (z_cp L q + 1)) 5 i 4 = Int32.ofNat L.length := (mw_g (by decide)).trans g3
    have aat := c_at_fr f13 (by decide) hatd
    generalize mm_w (mm_w (mm_w (mm_w d 37 i L.length v1) 38 i L.length 0) 39 i L.length 0) 40 i L.length (Int32.ofNat (z_cp L q + 1)) = m13 at fpf a37 a38 a39 a40 alo a5 aat ⊢
    refine v_s2 (c_nums aat (z_te_b hp) ev1 (by omega) a5 (by omega) a38 a39) ?_
    rintro r e hr
    dsimp only at hr
    rcases hr with ⟨x, hx, h1, h2, h3, h4, h5, h6⟩ | ⟨er, hx, h1, h2, h3, h4⟩
    · refine v_ifn (by rw [h1]; decide) ?_
      rw [hx] at ep
      have hxb := (z_ab_b (z_te_b hp) hx).2.2.2
      refine v_s2 (c_pass (k := 59) h6 hxb rfl (by omega)) ?_
      rintro r2 f hr2
      dsimp only at hr2
      rcases hr2 with ⟨j1, j2, j3, j4⟩ | ⟨j1, j2, j3, j4, j5⟩
      · refine v_ifp (by rw [j2]; decide) ?_
        have ep2 : z_part B n L p = .inr ((q, x.1.1, x.1.2, z_cp L q + 1), z_te B n x.2) := ep.trans (if_pos j1)
        refine v_lM ?_
        have gf : ∀ g j, ¬ g = 1 → f g i j = e g i j := fun g j hg => j3 g i j (z_inE (fun e he z => by
          rcases List.mem_cons.mp he with rfl | he
          · exact hg z.1.symm
          rcases List.mem_cons.mp he with rfl | he
          · exact hg z.1.symm
          rcases List.mem_cons.mp he with rfl | he
          · exact hg z.1.symm
          cases he))
        have f5 : f 5 i 4 = Int32.ofNat L.length := (gf 5 4 (by decide)).trans ((h3 5 4 (fun z => by omega) (by decide)).trans a5)
        rw [f5, n_a1]
        refine v_so (Or.inl ⟨_, ep2, rfl, c_pfw (Or.inl ⟨rfl, rfl⟩) (c_pft fpf (c_pft h2 (c_pfA j3))), ⟨?_, fun j y hy => ?_⟩, c_at_fr (L := [(5, none, none)]) (fp_w rfl fp_rf) (by decide) j4⟩)
        · dsimp only
          rw [mw_s, List.length_append]
          rfl
        · dsimp only
          rw [mw_g (by decide), mw_g (by decide), mw_g (by decide), mw_g (by decide), gf 37 j (by decide), gf 38 j (by decide), gf 39 j (by decide), gf 40 j (by decide)]
          by_cases hj : j < L.length
          · rw [List.getElem?_append_left hj] at hy
            rw [h3 37 j (fun z => by omega) (by decide), h3 38 j (fun z => by omega) (by decide), h3 39 j (fun z => by omega) (by decide), h3 40 j (fun z => by omega) (by decide), alo 37 j (by decide) hj, alo 38 j (by decide) hj, alo 39 j (by decide) hj, alo 40 j (by decide) hj]
            exact hps.2 j y hy
          · rw [List.getElem?_append_right (by omega)] at hy
            have hje : j = L.length := by
              by_cases hje : j = L.length
              · exact hje
              · obtain ⟨k, hk⟩ : ∃ k, j - L.length = k + 1 := ⟨j - L.length - 1, by omega⟩
                rw [hk] at hy
                cases hy
            rw [hje, Nat.sub_self] at hy
            have hy2 := (Option.some.inj hy).symm
            rw [hje, hy2, h3 37 L.length (fun z => by omega) (by decide), h3 40 L.length (fun z => by omega) (by decide), a37, h4, h5, a40]
            exact ⟨rfl, rfl, rfl, rfl⟩
      · refine v_ifn (fun z => z j2) ?_
        have ep2 : z_part B n L p = .inl (1, z_ts B n x.2) := ep.trans (if_neg j1)
        exact v_so (Or.inr ⟨_, ep2, rfl, c_pft fpf (c_pft h2 (c_pfE j3)), j4, j5⟩)
    · refine v_ifp h1 ?_
      rw [hx] at ep
      exact v_so (Or.inr ⟨er, ep, rfl, c_pft fpf h2, h3, h4⟩)
  by_cases k5 : z_kd B n p = 259
  · refine v_ifn (fun z => z (by rw [ev1, k5]; rfl)) ?_
    have e3 : z_kd B n p - 256 = 3 := by omega
    by_cases k6 : 6 ≤ z_cp L 3
    · refine v_ifn (by rw [e3, iA_lt, show (6 : Int32).toInt = 6 by decide, nJ_T (by rw [e3] at hcb; omega)]; omega) ?_
      exact rf 2 (by omega) (z_part_3 kk k3 ⟨k5, k6⟩)
    · refine v_ifp (by rw [e3, iA_lt, show (6 : Int32).toInt = 6 by decide, nJ_T (by omega)]; omega) ?_
      exact main (fun z => k6 z.2)
  · refine v_ifp (by rw [ev1]; exact fun z => k5 (by have := (n_eq (b := 3) (by omega) (by omega)).mp z; omega)) ?_
    exact main (fun z => k5 z.1)
theorem c_thread {c : mm_M} {B : Nat → Nat} {n i : Nat} (h : c_at c B n 0) : vW (f_X8_readFrom i c) (fun t => (∃ R, z_pars B n 25 [] 0 = .inr R ∧ t.1 = 1 ∧ c_pf i c t.2 ∧ c_ps t.2 i R) ∨ (∃ e, z_pars B n 25 [] 0 = .inl e ∧ t.1 = 0 ∧ c_pf i c t.2 ∧ t.2 1 0 9 = Int32.ofNat e.1 ∧ t.2 1 0 10 = Int32.ofNat e.2)) := by
  unfold f_X8_readFrom
  refine v_lM ?_
  have f1 : fp [(5, none, none)] c (mm_w c 5 i 4 0) := fp_w rfl fp_rf
  have p1 : c_pf i c (mm_w c 5 i 4 0) := c_pfw (Or.inl ⟨rfl, rfl⟩) c_pfr
  refine v_s2 (c_part (L := []) (c_at_fr f1 (by decide) h) (Nat.zero_le n) ⟨mw_s, fun j x hx => (by cases hx)⟩ (by show 0 ≤ 24; omega) (fun x hx => (by cases hx))) ?_
  rintro r d hr
  dsimp only at hr
  refine v_s1 (P := fun t => (∃ R, z_pars B n 25 [] 0 = .inr R ∧ t.1 = 1 ∧ c_pf i c t.2 ∧ c_ps t.2 i R) ∨ (∃ e, z_pars B n 25 [] 0 = .inl e ∧ t.1 = 0 ∧ c_pf i c t.2 ∧ t.2 1 0 9 = Int32.ofNat e.1 ∧ t.2 1 0 10 = Int32.ofNat e.2)) ?_ ?_
  · refine v_for (fun j s => s.2.1.toInt = (j : Int) ∧ c_pf i c s.2.2 ∧ ((s.1 = 1 ∧ ∃ L p, p ≤ n ∧ L.length = j + 1 ∧ L.length ≤ 24 ∧ (∀ x, x ∈ L → x.1 < 4) ∧ c_ps s.2.2 i L ∧ c_at s.2.2 B n p ∧ z_pars B n 25 [] 0 = z_parR B n L p) ∨ (s.1 = 0 ∧ ∃ e, z_pars B n 25 [] 0 = .inl e ∧ s.2.2 1 0 9 = Int32.ofNat e.1 ∧ s.2.2 1 0 10 = Int32.ofNat e.2))) 0 24 (by omega) (by omega) ⟨i_0, ?_, ?_⟩ ?_ ?_
    · dsimp only
      rcases hr with ⟨x, _, _, h2, _⟩ | ⟨e, _, _, h2, _⟩
      · exact c_pft p1 h2
      · exact c_pft p1 h2
    · dsimp only
      rcases hr with ⟨x, hx, h1, h2, h3, h4⟩ | ⟨e, hx, h1, h2, h3, h4⟩
      · obtain ⟨b1, b2, b3⟩ := z_part_b (Nat.zero_le n) hx
        refine Or.inl ⟨h1, [] ++ [x.1], x.2, b2, rfl, by show 1 ≤ 24; omega, fun y hy => ?_, h3, h4, z_pars_s (L := []) hx (by show 0 < 25; omega)⟩
        rw [List.mem_singleton.mp hy]
        exact b1.1
      · exact Or.inr ⟨h1, e, z_pars_e hx, h3, h4⟩
    · rintro j ⟨a, v, f⟩ hj ⟨hv, hpf, hs⟩
      dsimp only at hv hpf hs ⊢
      have i24 : (24 : Int32).toInt = 24 := by decide
      refine v_ifn (by rw [iA_le, i24, hv]; omega) ?_
      rcases hs with ⟨ha, L, p, hp, hl, hl24, hg, hps, hat, hR⟩ | ⟨ha, e, hx, h3, h4⟩
      · refine v_ifn (by rw [ha]; decide) ?_
        have hkb := z_kd_b (B := B) (n := n) (p := p)
        have h7 : f 1 0 7 = Int32.ofNat (z_kd B n p) := by
          obtain ⟨_, _, _, _, _, _, h7, _⟩ := hat
          exact h7
        by_cases h0 : z_kd B n p = 0
        · refine v_ifp (by rw [h7, h0]; rfl) ?_
          refine v_ir (Or.inl ⟨L, hR.trans (if_pos h0), ha, hpf, hps⟩)
        · refine v_ifn (by rw [h7]; exact fun z => h0 ((n_eq (b := 0) (by omega) (by omega)).mp z)) ?_
          have hR2 : z_pars B n 25 [] 0 = z_pars B n (25 - L.length) L p := hR.trans (if_neg h0)
          refine v_s2 (c_part hat hp hps hl24 hg) ?_
          rintro r2 d2 hr2
          dsimp only at hr2
          refine v_l1 ?_
          rcases hr2 with ⟨x, hx, h1, h2, h3, h4⟩ | ⟨e, hx, h1, h2, h3, h4⟩
          · obtain ⟨b1, b2, b3⟩ := z_part_b hp hx
            refine v_il ⟨n_s3 hv (by omega), c_pft hpf h2, Or.inl ⟨h1, L ++ [x.1], x.2, b2, ?_, ?_, fun y hy => ?_, h3, h4, hR2.trans (z_pars_s hx (by omega))⟩⟩
            · rw [List.length_append]
              show L.length + 1 = _
              omega
            · rw [List.length_append]
              show L.length + 1 ≤ _
              omega
            · rcases List.mem_append.mp hy with hy | hy
              · exact hg y hy
              · rw [List.mem_singleton.mp hy]
                exact b1.1
          · refine v_il ⟨n_s3 hv (by omega), c_pft hpf h2, Or.inr ⟨h1, e, ?_, h3, h4⟩⟩
            rw [hR2, show 25 - L.length = (24 - L.length) + 1 by omega]
            exact z_pars_e hx
      · refine v_ifp ha ?_
        exact v_ir (Or.inr ⟨e, hx, ha, hpf, h3, h4⟩)
    · rintro ⟨a, v, f⟩ ⟨hv, hpf, hs⟩
      dsimp only at hv hpf hs ⊢
      have i24 : (24 : Int32).toInt = 24 := by decide
      refine v_ifp (by rw [iA_le, i24, hv]; omega) ?_
      rcases hs with ⟨ha, L, p, hp, hl, hl24, _⟩ | ⟨ha, e, hx, h3, h4⟩
      · omega
      · exact v_ir (Or.inr ⟨e, hx, ha, hpf, h3, h4⟩)
  · rintro ⟨a, f⟩ hs
    dsimp only at hs ⊢
    rcases hs with ⟨R, h1, h2, h3⟩ | ⟨e, h1, h2, h3⟩
    · exact v_ifp (Or.inr h2) (v_so (Or.inl ⟨R, h1, h2, h3⟩))
    · exact v_ifp (Or.inl h2) (v_so (Or.inr ⟨e, h1, h2, h3⟩))
