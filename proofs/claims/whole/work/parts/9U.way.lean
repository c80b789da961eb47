/-! the least way -/
/-- what both sides make of the net -/
theorem z_netOf {m : mm_M} (hstr : j_str m m) (hlaw : j_law m m) (hnet : j_net m m) : ∃ (P Q W X : Nat → Nat) (C : Nat), C ≤ 10 ∧ m 9 0 5 = Int32.ofNat C ∧ m 12 0 77 = Int32.ofNat C ∧ (∀ i, i < C → P i < 8 ∧ Q i < 8) ∧ (∀ i, W i ≤ 2400000) ∧ (∀ i, i < C → (1 ≤ X i ∧ X i ≤ 8) ∧ m 55 0 i = Int32.ofNat (X i) ∧ m 115 0 i = Int32.ofNat (X i)) ∧ ¬ m 0 0 3 = -1 ∧ vW (f_X4_weigh (m 0 0 3).toNatClampNeg m) (fun c => fp [(23, none, none), (24, none, none), (56, none, none)] m c ∧ z_nt c P Q W C) ∧ ∀ n, fp [(12, none, some 3)] m n → vW (f_X12_tellCosts n) (fun c => fp [(84, none, none), (85, none, none), (116, none, none)] n c ∧ r_nt c P Q W C) := by
  obtain ⟨T, hT8, hT1, hT2, hth⟩ := hstr
  obtain ⟨lw, r, hr2, hr1, _, hlC, hlM, hld⟩ := hlaw
  obtain ⟨C, hC10, hC1, hC2, hcs⟩ := hnet
  have hcab := z_cab hT8 hT1 hth (fun i hi => ⟨(hcs i hi).2.2.1, (hcs i hi).2.2.2.2.2.2.1⟩)
  have hk : ∀ (x : Int32) (b : Nat), (∃ a, a < b ∧ x = Int32.ofNat a) → b ≤ 100 → x = Int32.ofNat x.toNatClampNeg ∧ x.toNatClampNeg < b := fun x b h hb => by
    obtain ⟨a, ha, e⟩ := h
    rw [e, nJ_N (by omega)]
    exact ⟨rfl, ha⟩
  refine ⟨fun i => (m 52 0 i).toNatClampNeg, fun i => (m 53 0 i).toNatClampNeg, z_W m lw, fun i => (m 55 0 i).toNatClampNeg, C, hC10, hC1, hC2, fun i hi => ?_, z_W_b, fun i hi => ?_, by rw [hr1]; exact n_m1 (by omega), ?_, fun n hn => ?_⟩
  · obtain ⟨_, _, _, _, h52, h53, _, _⟩ := hcs i hi
    exact ⟨(hk _ 8 h52 (by omega)).2, (hk _ 8 h53 (by omega)).2⟩
  · obtain ⟨_, _, _, e, _, _, _, x, x1, x8, ex⟩ := hcs i hi
    dsimp only
    rw [← e, ex, nJ_N (by omega)]
    exact ⟨⟨x1, x8⟩, rfl, rfl⟩
  · rw [hr1, nJ_N (by omega)]
    refine v_mono (c_wgh hC10 hC1 hlC hld (fun i hi => ?_)) (fun c hc => ⟨hc.1, (hc.1 9 0 5 rfl).trans hC1, fun i hi => ⟨?_, ?_, hc.2 i hi⟩⟩)
    · obtain ⟨t, N, Y, ht, h54, h114, hB, h5, hT, hM⟩ := hcab i hi
      exact ⟨t, N, Y, ht, h54, hB, hT⟩
    · rw [hc.1 52 0 i rfl]
      exact (hk _ 8 (hcs i hi).2.2.2.2.1 (by omega)).1
    · rw [hc.1 53 0 i rfl]
      exact (hk _ 8 (hcs i hi).2.2.2.2.2.1 (by omega)).1
  · refine v_mono (r_tcs hC10 ((hn 12 0 77 rfl).trans hC2) (fun k hk => z_cdM_fr (fun g i k hg => hn g i k (z_dis_of (by decide) hg)) (hlM k hk)) hld (fun i hi => ?_)) (fun c hc => ⟨hc.1, (hc.1 12 0 77 rfl).trans ((hn 12 0 77 rfl).trans hC2), fun i hi => ⟨?_, ?_, hc.2 i hi⟩⟩)
    · obtain ⟨t, N, Y, ht, h54, h114, hB, h5, hT, hM⟩ := hcab i hi
      exact ⟨t, N, Y, ht, h54, (hn 114 0 i rfl).trans h114, hB, h5, z_thM_fr (fun g i k hg => hn g i k (z_dis_of (by decide) hg)) hM⟩
    · rw [hc.1 112 0 i rfl, hn 112 0 i rfl, ← (hcs i hi).1]
      exact (hk _ 8 (hcs i hi).2.2.2.2.1 (by omega)).1
    · rw [hc.1 113 0 i rfl, hn 113 0 i rfl, ← (hcs i hi).2.1]
      exact (hk _ 8 (hcs i hi).2.2.2.2.2.1 (by omega)).1
/-- a way stands ahead of another one -/
def z_ah (W : Nat → Nat) (a b : Nat) (p q : List Nat) : Bool := decide (z_co W p < z_co W q ∨ (z_co W p = z_co W q ∧ (p.length < q.length ∨ (p.length = q.length ∧ a < b))))
theorem r_ahd {m : mm_M} {W : Nat → Nat} {L : List (List Nat)} {a b : Nat} {p q : List Nat} {x y : Int32} (hW : ∀ i, W i ≤ 2400000) (ht : r_tb m W L) (hl : L.length ≤ 400) (hx : x.toInt = (a : Int)) (hy : y.toInt = (b : Int)) (hp : L[a]? = some p) (hq : L[b]? = some q) : f_X12_isAhead x y m = some (if z_ah W a b p q = true then 1 else 0) := by
  obtain ⟨⟨lp, _⟩, p1, p2, _⟩ := ht.2 a p hp
  obtain ⟨⟨lq, _⟩, q1, q2, _⟩ := ht.2 b q hq
  have b1 := z_co_b hW p
  have b2 := z_co_b hW q
  have ha : a < L.length := (List.getElem?_eq_some_iff.mp hp).1
  have hb : b < L.length := (List.getElem?_eq_some_iff.mp hq).1
  have ix : mm_in x 400 := v_in.mpr (by omega)
  have iy : mm_in y 400 := v_in.mpr (by omega)
  have kx := n_k hx
  have ky := n_k hy
  apply v_is
  unfold f_X12_isAhead
  have x1 : m 119 0 x.toNatClampNeg = Int32.ofNat (z_co W p) := by rw [kx]; exact p1
  have x2 : m 120 0 x.toNatClampNeg = Int32.ofNat p.length := by rw [kx]; exact p2
  have y1 : m 119 0 y.toNatClampNeg = Int32.ofNat (z_co W q) := by rw [ky]; exact q1
  have y2 : m 120 0 y.toNatClampNeg = Int32.ofNat q.length := by rw [ky]; exact q2
  refine v_ifp ix (v_ifp iy ?_)
  by_cases h1 : z_co W p = z_co W q
  · refine v_ifp (by rw [x1, y1, h1]) ?_
    refine v_ifp ix (v_ifp iy ?_)
    by_cases h2 : p.length = q.length
    · refine v_ifp (by rw [x2, y2, h2]) ?_
      by_cases h3 : a < b
      · refine v_ifn (by rw [iA_le]; omega) (v_so ?_)
        exact (if_pos (decide_eq_true (Or.inr ⟨h1, Or.inr ⟨h2, h3⟩⟩))).symm
      · refine v_ifp (by rw [iA_le]; omega) (v_so ?_)
        exact (if_neg (fun z => by have := of_decide_eq_true z; omega)).symm
    · refine v_ifn (fun z => h2 ((n_eq (by omega) (by omega)).mp (x2.symm.trans (z.trans y2)))) ?_
      refine v_ifp ix (v_ifp iy ?_)
      by_cases h3 : p.length < q.length
      · refine v_ifn (by rw [x2, y2, iA_le, nJ_T (by omega), nJ_T (by omega)]; omega) (v_so ?_)
        exact (if_pos (decide_eq_true (Or.inr ⟨h1, Or.inl h3⟩))).symm
      · refine v_ifp (by rw [x2, y2, iA_le, nJ_T (by omega), nJ_T (by omega)]; omega) (v_so ?_)
        exact (if_neg (fun z => by have := of_decide_eq_true z; omega)).symm
  · refine v_ifn (fun z => h1 ((n_eq (by omega) (by omega)).mp (x1.symm.trans (z.trans y1)))) ?_
    refine v_ifp ix (v_ifp iy ?_)
    by_cases h3 : z_co W p < z_co W q
    · refine v_ifn (by rw [x1, y1, iA_le, nJ_T (by omega), nJ_T (by omega)]; omega) (v_so ?_)
      exact (if_pos (decide_eq_true (Or.inl h3))).symm
    · refine v_ifp (by rw [x1, y1, iA_le, nJ_T (by omega), nJ_T (by omega)]; omega) (v_so ?_)
      exact (if_neg (fun z => by have := of_decide_eq_true z; omega)).symm
theorem z_tkL {L : List (List Nat)} {k : Nat} (h : k < L.length) : ∃ x, L[k]? = some x ∧ L.take (k + 1) = L.take k ++ [x] := ⟨L[k], List.getElem?_eq_getElem h, by rw [List.take_succ, List.getElem?_eq_getElem h]; rfl⟩
theorem r_lw {m : mm_M} {W : Nat → Nat} {L : List (List Nat)} (hW : ∀ i, W i ≤ 2400000) (ht : r_tb m W L) (hl : L.length ≤ 400) : vW (f_X12_leastWay m) (fun r => (r = -1 ∧ z_bst W L none = none) ∨ ∃ i q, i < 400 ∧ r = Int32.ofNat i ∧ L[i]? = some q ∧ z_bst W L none = some q) := by
  unfold f_X12_leastWay
  refine v_s1 (P := fun r => (r = -1 ∧ z_bst W L none = none) ∨ ∃ i q, i < 400 ∧ r = Int32.ofNat i ∧ L[i]? = some q ∧ z_bst W L none = some q) ?_ (fun r h => v_so h)
  refine v_for (fun j s => s.2.toInt = (j : Int) ∧ ((s.1 = -1 ∧ z_bst W (L.take j) none = none ∧ j = 0) ∨ ∃ i q, i < j ∧ s.1 = Int32.ofNat i ∧ L[i]? = some q ∧ z_bst W (L.take j) none = some q)) 0 L.length (Nat.zero_le _) (by omega) ⟨i_0, Or.inl ⟨rfl, rfl, rfl⟩⟩ ?_ ?_
  · rintro j ⟨x, v⟩ hj ⟨hv, hs⟩
    dsimp only at hv hs ⊢
    obtain ⟨p, hp, htk⟩ := z_tkL hj
    have eup : z_bst W (L.take (j + 1)) none = z_up W (z_bst W (L.take j) none) p := by
      rw [htk, z_bst_a]
      rfl
    refine v_ifn (by rw [iA_le, ht.1, hv, nJ_T (by omega)]; omega) ?_
    rcases hs with ⟨hx, hb, hj0⟩ | ⟨i, q, hi, hx, hq, hb⟩
    · refine v_ifp hx ?_
      refine v_l1 ?_
      refine v_il ⟨n_s3 hv (by omega), Or.inr ⟨j, p, by omega, n_0L (by omega) hv, hp, ?_⟩⟩
      rw [eup, hb]
      rfl
    · refine v_ifn (by rw [hx]; exact n_m1 (by omega)) ?_
      refine v_b1e (r_ahd hW ht hl hv (by rw [hx]; exact nJ_T (by omega)) hp hq) ?_
      have eu : z_up W (z_bst W (L.take j) none) p = if z_lt2 W p q = true then some p else some q := by
        rw [hb]
        rfl
      by_cases hlt : z_lt2 W p q = true
      · have hah : z_ah W j i p q = true := decide_eq_true (by have := of_decide_eq_true hlt; omega)
        refine v_ifn (by rw [if_pos hah]; decide) ?_
        refine v_l1 ?_
        refine v_il ⟨n_s3 hv (by omega), Or.inr ⟨j, p, by omega, n_0L (by omega) hv, hp, ?_⟩⟩
        rw [eup, eu, if_pos hlt]
      · have hah : ¬ z_ah W j i p q = true := fun z => hlt (decide_eq_true (by have := of_decide_eq_true z; omega))
        refine v_ifp (by rw [if_neg hah]) ?_
        refine v_l1 ?_
        refine v_il ⟨n_s3 hv (by omega), Or.inr ⟨i, q, by omega, hx, hq, ?_⟩⟩
        rw [eup, eu, if_neg hlt]
  · rintro ⟨x, v⟩ ⟨hv, hs⟩
    dsimp only at hv hs ⊢
    rw [List.take_length] at hs
    refine v_ifp (by rw [iA_le, ht.1, hv, nJ_T (by omega)]; omega) ?_
    rcases hs with ⟨hx, hb, hj0⟩ | ⟨i, q, hi, hx, hq, hb⟩
    · exact v_ir (Or.inl ⟨hx, hb⟩)
    · exact v_ir (Or.inr ⟨i, q, by omega, hx, hq, hb⟩)
abbrev zKp : zT := [(10, some 0, none), (62, some 0, none), (10, some 1, none), (62, some 1, none), (10, some 3, none), (62, some 3, none), (10, some 4, none), (62, some 4, none)]
theorem c_keepL {P Q W : Nat → Nat} {C d u : Nat} {U D : Int32} {c : mm_M} (hC : C ≤ 10) (hP : ∀ i, i < C → P i < 8 ∧ Q i < 8) (hW : ∀ i, W i ≤ 2400000) (hD : D.toInt = (d : Int)) (hU : U.toInt = (u : Int)) (hu : u < 8) (hnt : z_nt c P Q W C) : vW (f_X4_keepLeast U D c) (fun q => (z_bst W (z_ws P Q C (fun _ => false) d 16 [u] [] u) none = none ∧ q.1 = -1 ∧ fp zWk c q.2) ∨ ∃ p, z_bst W (z_ws P Q C (fun _ => false) d 16 [u] [] u) none = some p ∧ q.1 = Int32.ofNat (z_co W p) ∧ fp zKp c q.2 ∧ z_wak q.2 3 W p ∧ z_wak q.2 4 W []) := by
  unfold f_X4_keepLeast
  refine v_s2 (c_findL (bar := fun _ => false) hC hP hW (fun i _ => z_bt_0) hD hU hu hnt) ?_
  rintro x c1 ⟨hf, hh, hx⟩
  dsimp only at hf hh hx
  cases hz : z_bst W (z_ws P Q C (fun _ => false) d 16 [u] [] u) none with
  | none =>
    rw [hz] at hx
    refine v_ifn (fun z => z hx) ?_
    exact v_so (Or.inl ⟨rfl, rfl, hf⟩)
  | some p =>
    rw [hz] at hx hh
    refine v_ifp (by rw [hx]; show (1 : Int32) ≠ 0; decide) ?_
    refine v_s1 (c_take (show ¬ 1 = 3 by decide) hh) (fun c2 h2 => ?_)
    refine v_s1 (c_clr (W := W) (i := 4)) (fun c3 h3 => ?_)
    have h33 : z_wak c3 3 W p := z_wak_fr (fun k => h3.1 10 3 k (by omega)) (fun k => h3.1 62 3 k (by omega)) h2.2
    refine v_so (Or.inr ⟨p, rfl, h33.2.2.2.1, fp_tr (fp_sb (by decide) hf) (fp_tr (c_wfp (fun k => rfl) (fun k => rfl) h2.1) (c_wfp (fun k => rfl) (fun k => rfl) h3.1)), h33, h3.2⟩)
theorem z_arN {a : Int32} (h : 0 ≤ a.toInt ∧ a.toInt ≤ 7) : ∃ u : Nat, u < 8 ∧ a.toInt = (u : Int) := ⟨a.toInt.toNat, by omega, by omega⟩
theorem o_26 : q_Sim qJ 26 := fun m a hJ hop => by
  have hJ0 := hJ
  obtain ⟨hday, hfault, hdead, hstr, htap, hlaw, hev, hrow, hinq, hfound, hlamps, hnet, htsk, hdl, halo, hshe⟩ := hJ
  obtain ⟨P, Q, W, X, C, hC, hC1, hC2, hP, hW, hX, h03, hwg, htc⟩ := z_netOf hstr hlaw hnet
  have bad : f_X11_way (a 1) (a 2) m = some (.inl 1) → f_X12_way (a 1) (a 2) m = some (0, mm_w (mm_w m 12 0 3 0) 12 0 3 1) → ∃ mC mM, q_To m a mC mM ∧ qJ mC mM := fun eC eM => by
    refine ⟨_, _, t_op26 hop eC eM (thrown_eq _) (fun e9 h => ?_) (fun t h => by cases h), qJ_3 fp_31 hJ0⟩
    cases h
    exact ⟨rfl, mw_s⟩
  by_cases h1 : 0 ≤ (a 1).toInt ∧ (a 1).toInt ≤ 7
  · by_cases h2 : 0 ≤ (a 2).toInt ∧ (a 2).toInt ≤ 7
    · obtain ⟨u, hu8, hu⟩ := z_arN h1
      obtain ⟨d, hd8, hd⟩ := z_arN h2
      have eCx : vW (f_X11_way (a 1) (a 2) m) (fun o => ∃ x c c1, o = .inr (x, c) ∧ fp [(23, none, none), (24, none, none), (56, none, none)] m c1 ∧ ((z_bst W (z_ws P Q C (fun _ => false) d 16 [u] [] u) none = none ∧ x = -1 ∧ fp zWk c1 c) ∨ ∃ p, z_bst W (z_ws P Q C (fun _ => false) d 16 [u] [] u) none = some p ∧ x = Int32.ofNat (z_co W p) ∧ fp zKp c1 c ∧ z_wak c 3 W p ∧ z_wak c 4 W [])) := by
        unfold f_X11_way
        refine v_bxe (c_nok h1) ?_
        refine v_bxe (c_nok h2) ?_
        refine v_ifn h03 ?_
        refine v_lN ?_
        refine v_s1 hwg (fun c1 hc1 => ?_)
        refine v_s2 (c_keepL hC hP hW hd hu hu8 hc1.2) (fun x c hc => ?_)
        exact v_so ⟨x, c, c1, rfl, hc1.1, hc⟩
      have eMx : vW (f_X12_way (a 1) (a 2) m) (fun q => q.2 12 0 3 = 0 ∧ fp [(12, none, some 3), (84, none, none), (85, none, none), (116, none, none), (12, none, some 79), (119, none, none), (120, none, none), (121, none, none), (122, none, none), (123, none, none), (12, none, some 80), (124, none, none)] m q.2 ∧ ((z_bst W (z_ws P Q C (fun _ => false) d 16 [u] [] u) none = none ∧ q.1 = -1 ∧ q.2 12 0 80 = m 12 0 80 ∧ ∀ k, q.2 124 0 k = m 124 0 k) ∨ ∃ p, z_bst W (z_ws P Q C (fun _ => false) d 16 [u] [] u) none = some p ∧ q.1 = Int32.ofNat (z_co W p) ∧ q.2 12 0 80 = Int32.ofNat p.length ∧ ∀ k x, p[k]? = some x → q.2 124 0 k = Int32.ofNat x)) := by
        unfold f_X12_way
        refine v_lM ?_
        refine v_b1e (r_nok h1) ?_
        refine v_ifn (by decide) ?_
        refine v_b1e (r_nok h2) ?_
        refine v_ifp (by decide) ?_
        refine v_s1 (htc _ fp_30) (fun c1 hc1 => ?_)
        refine v_s1 (r_ways (bar := fun _ => false) hC hP (fun i _ => z_bt_0) hd hu hu8 hc1.2) (fun c2 hc2 => ?_)
        have h36 := z_ws_36 (P := P) (Q := Q) (bar := fun _ => false) (d := d) (n := 16) (p := []) hC (show u ∈ [u] from List.mem_cons_self)
        generalize z_ws P Q C (fun _ => false) d 16 [u] [] u = L at hc2 h36 ⊢
        have hfa : fp [(12, none, some 3), (84, none, none), (85, none, none), (116, none, none), (12, none, some 79), (119, none, none), (120, none, none), (121, none, none), (122, none, none), (123, none, none)] m c2 := fp_tr (fp_sb (by decide) fp_30) (fp_tr (fp_sb (by decide) hc1.1) (fp_sb (by decide) hc2.1))
        have h3 : c2 12 0 3 = 0 := (hc2.1 12 0 3 rfl).trans ((hc1.1 12 0 3 rfl).trans mw_s)
        refine v_s1 (r_lw hW hc2.2 (by omega)) (fun r hr => ?_)
        rcases hr with ⟨hr, hb⟩ | ⟨i, q, hi, hr, hq, hb⟩
        · refine v_ifn (fun z => z hr) ?_
          exact v_so ⟨h3, fp_sb (by decide) hfa, Or.inl ⟨hb, rfl, hfa 12 0 80 rfl, fun k => hfa 124 0 k rfl⟩⟩
        · have hrI : r.toInt = (i : Int) := by rw [hr]; exact nJ_T (by omega)
          have ir : mm_in r 400 := v_in.mpr (by omega)
          have kr := n_k hrI
          obtain ⟨⟨lq, _⟩, q1, q2, q3, q4⟩ := hc2.2.2 i q hq
          refine v_ifp (by rw [hr]; exact n_m1 (by omega)) ?_
          refine v_ifp ir ?_
          have q2r : c2 120 0 r.toNatClampNeg = Int32.ofNat q.length := by rw [kr]; exact q2
          rw [q2r]
          refine v_lM ?_
          refine v_s1 (P := fun c => fp [(124, none, none)] (mm_w c2 12 0 80 (Int32.ofNat q.length)) c ∧ ∀ k x, q[k]? = some x → c 124 0 k = Int32.ofNat x) ?_ (fun c3 hc3 => ?_)
          · refine v_for (fun j s => s.1.toInt = (j : Int) ∧ fp [(124, none, none)] (mm_w c2 12 0 80 (Int32.ofNat q.length)) s.2 ∧ ∀ k x, k < j → q[k]? = some x → s.2 124 0 k = Int32.ofNat x) 0 q.length (Nat.zero_le _) (by omega) ⟨i_0, fp_rf, fun k x hk => absurd hk (Nat.not_lt_zero k)⟩ ?_ ?_
            · rintro j ⟨v, e⟩ hj ⟨hv, hf, hw⟩
              dsimp only at hv hf hw ⊢
              obtain ⟨x, hx, _⟩ := z_tk hj
              have kv := n_k hv
              have hix : (10 * r + v).toInt = ((10 * i + j : Nat) : Int) := iA_addN (iA_mulN (show (10 : Int32).toInt = ((10 : Nat) : Int) by decide) hrI (by omega)) hv (by omega)
              have g80 : (e 12 0 80).toInt = (q.length : Int) := by rw [hf 12 0 80 rfl, mw_s, nJ_T (by omega)]
              have g121 : e 121 0 (10 * i + j) = Int32.ofNat x := by
                rw [hf 121 0 _ rfl, mw_g (by decide)]
                exact q3 j x hx
              refine v_ifn (by rw [iA_le, g80, hv]; omega) ?_
              refine v_ifp (v_in.mpr (by rw [hix]; omega)) ?_
              refine v_ifp (v_in.mpr (by omega)) ?_
              rw [kv, n_k hix, g121]
              refine v_lM ?_
              refine v_l1 ?_
              refine v_il ⟨n_s3 hv (by omega), fp_w rfl hf, fun k y hk hy => ?_⟩
              dsimp only
              by_cases hkj : k = j
              · rw [hkj] at hy ⊢
                rw [hx] at hy
                cases hy
                exact mw_s
              · rw [mw_k hkj]
                exact hw k y (by omega) hy
            · rintro ⟨v, e⟩ ⟨hv, hf, hw⟩
              dsimp only at hv hf hw ⊢
              have g80 : (e 12 0 80).toInt = (q.length : Int) := by rw [hf 12 0 80 rfl, mw_s, nJ_T (by omega)]
              refine v_ifp (by rw [iA_le, g80, hv]; omega) ?_
              exact v_ir ⟨hf, fun k x hk => hw k x (List.getElem?_eq_some_iff.mp hk).1 hk⟩
          · refine v_ifp ir ?_
            refine v_so ⟨?_, ?_, Or.inr ⟨q, hb, ?_, ?_, hc3.2⟩⟩
            · dsimp only
              rw [hc3.1 12 0 3 rfl, mw_k (by decide)]
              exact h3
            · exact fp_tr (fp_w rfl (fp_sb (by decide) hfa)) (fp_sb (by decide) hc3.1)
            · dsimp only
              rw [kr, hc3.1 119 0 i rfl, mw_g (by decide)]
              exact q1
            · dsimp only
              rw [hc3.1 12 0 80 rfl]
              exact mw_s
      obtain ⟨o, eC, x, c, c1, ho, hf1, hcs⟩ := eCx
      obtain ⟨⟨y, mM⟩, eM, h3, hM, hms⟩ := eMx
      dsimp only at h3 hM hms
      subst ho
      have hC : fp [(23, none, none), (24, none, none), (56, none, none), (10, some 0, none), (62, some 0, none), (10, some 1, none), (62, some 1, none), (10, some 3, none), (62, some 3, none), (10, some 4, none), (62, some 4, none)] m c := by
        rcases hcs with ⟨_, _, hf2⟩ | ⟨p, _, _, hf2, _⟩
        · exact fp_tr (fp_sb (by decide) hf1) (fp_sb (by decide) hf2)
        · exact fp_tr (fp_sb (by decide) hf1) (fp_sb (by decide) hf2)
      have hj : j_alo c mM := by
        rcases hcs with ⟨hb, _, hf2⟩ | ⟨p, hb, _, hf2, hw3, hw4⟩
        · rcases hms with ⟨_, _, m80, m124⟩ | ⟨q, hb2, _⟩
          · obtain ⟨a8, b8, g1, g2, g3, g4, g5, g6, g7⟩ := halo
            have hf3 : fp [(23, none, none), (24, none, none), (56, none, none), (10, some 0, none), (62, some 0, none), (10, some 1, none), (62, some 1, none)] m c := fp_tr (fp_sb (by decide) hf1) (fp_sb (by decide) hf2)
            refine ⟨a8, b8, g1, g2, (hf3 10 3 1 rfl).trans g3, (hf3 10 4 1 rfl).trans g4, m80.trans g5, fun i hi => ?_, fun i hi => ?_⟩
            · rw [hf3 62 3 i rfl, m124]
              exact g6 i hi
            · rw [hf3 62 4 i rfl, m124]
              exact g7 i hi
          · rw [hb] at hb2
            cases hb2
        · rcases hms with ⟨hb2, _⟩ | ⟨q, hb2, _, m80, m124⟩
          · rw [hb] at hb2
            cases hb2
          · rw [hb] at hb2
            cases hb2
            have lp := hw3.1
            refine ⟨p.length, 0, by omega, by omega, hw3.2.2.1, hw4.2.2.1, m80, fun i hi => ?_, fun i hi => absurd hi (Nat.not_lt_zero i)⟩
            obtain ⟨x, hx, _⟩ := z_tk hi
            rw [hw3.2.2.2.2.2 i x hx, m124 i x hx]
      have hxy : y = x := by
        rcases hcs with ⟨hb, hx, _⟩ | ⟨p, hb, hx, _⟩
        · rcases hms with ⟨_, hy, _⟩ | ⟨q, hb2, _⟩
          · rw [hx, hy]
          · rw [hb] at hb2
            cases hb2
        · rcases hms with ⟨hb2, _⟩ | ⟨q, hb2, hy, _⟩
          · rw [hb] at hb2
            cases hb2
          · rw [hb] at hb2
            cases hb2
            rw [hx, hy]
      refine ⟨_, _, t_op26 hop eC eM (thrown_eq _) (fun e9 h => by cases h) (fun t h => ?_), ⟨j_day_kp hC hM (by decide) (by decide) hday, j_fault_kp hC hM (by decide) (by decide) hfault, j_dead_kp hC hM (by decide) (by decide) hdead, j_str_kp hC hM (by decide) (by decide) hstr, j_tap_kp hC hM (by decide) (by decide) htap, j_law_kp hC hM (by decide) (by decide) hlaw, j_ev_kp hC hM (by decide) (by decide) hev, j_row_kp hC hM (by decide) (by decide) hrow, j_inq_kp hC hM (by decide) (by decide) hinq, j_found_kp hC hM (by decide) (by decide) hfound, j_lamps_kp hC hM (by decide) (by decide) hlamps, j_net_kp hC hM (by decide) (by decide) hnet, j_tsk_kp hC hM (by decide) (by decide) htsk, j_dl_kp hC hM (by decide) (by decide) hdl, hj, j_she_kp hC hM (by decide) (by decide) hshe⟩⟩
      cases h
      exact ⟨h3, hxy⟩
    · refine bad (v_is ?_) (v_is ?_)
      · unfold f_X11_way
        refine v_bxe (c_nok h1) ?_
        exact v_bxi (c_non h2) rfl
      · unfold f_X12_way
        refine v_lM ?_
        refine v_b1e (r_nok h1) ?_
        refine v_ifn (by decide) ?_
        refine v_b1e (r_non h2) ?_
        refine v_ifn (by decide) ?_
        exact v_b2e r_fail1 (v_so rfl)
  · refine bad (v_is ?_) (v_is ?_)
    · unfold f_X11_way
      exact v_bxi (c_non h1) rfl
    · unfold f_X12_way
      refine v_lM ?_
      refine v_b1e (r_non h1) ?_
      refine v_ifp rfl ?_
      exact v_b2e r_fail1 (v_so rfl)
