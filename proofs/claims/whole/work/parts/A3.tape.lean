/-! the tape: the class's tokens -/
def z_pp (B : Nat → Nat) (n : Nat) : Nat → Nat → Nat
  | 0, p => p
  | j + 1, p => z_pp B n j (z_te B n p)
theorem z_pp_s {B : Nat → Nat} {n : Nat} : ∀ j p, z_pp B n (j + 1) p = z_te B n (z_pp B n j p)
  | 0, p => rfl
  | j + 1, p => by
    show z_pp B n (j + 1) (z_te B n p) = z_te B n (z_pp B n j (z_te B n p))
    exact z_pp_s j (z_te B n p)
theorem z_pp_b {B : Nat → Nat} {n : Nat} : ∀ j p, p ≤ n → z_pp B n j p ≤ n
  | 0, p, h => h
  | j + 1, p, h => z_pp_b j (z_te B n p) (z_te_b h)
theorem z_wcd_b (w : List Nat) : 3 ≤ z_wcd w ∧ z_wcd w ≤ 268 ∧ (z_wcd w = 3 ∨ 256 ≤ z_wcd w) := by
  have key : ∀ (c : Prop) [Decidable c] (x y : Nat), (3 ≤ x ∧ x ≤ 268 ∧ (x = 3 ∨ 256 ≤ x)) → (3 ≤ y ∧ y ≤ 268 ∧ (y = 3 ∨ 256 ≤ y)) → (3 ≤ (if c then x else y) ∧ (if c then x else y) ≤ 268 ∧ ((if c then x else y) = 3 ∨ 256 ≤ (if c then x else y))) := fun c _ x y hx hy => by
    by_cases hc : c
    · rw [if_pos hc]
      exact hx
    · rw [if_neg hc]
      exact hy
  unfold z_wcd
  repeat (refine key _ _ _ (by decide) ?_)
  decide
theorem z_kD_b {B : Nat → Nat} {n s : Nat} : z_kD B n s ≤ 268 ∧ (z_kD B n s = 0 ↔ n ≤ s) := by
  unfold z_kD
  by_cases h : n ≤ s
  · rw [if_pos h]
    omega
  · rw [if_neg h]
    by_cases h2 : z_let (B s) = true
    · rw [if_pos h2]
      have := z_wcd_b (z_word B s (z_tE B n s))
      omega
    · rw [if_neg h2]
      by_cases h3 : z_dgt (B s) = true
      · rw [if_pos h3]
        omega
      · rw [if_neg h3]
        by_cases h4 : z_sgn (B s) = true
        · rw [if_pos h4]
          have := of_decide_eq_true h4
          omega
        · rw [if_neg h4]
          omega
theorem z_nM_b {B : Nat → Nat} {n s : Nat} : z_nM B n s ≤ 100000 := by
  unfold z_nM
  by_cases h : n ≤ s
  · rw [if_pos h]
    omega
  · rw [if_neg h]
    by_cases h2 : z_let (B s) = true
    · rw [if_pos h2]
      omega
    · rw [if_neg h2]
      by_cases h3 : z_dgt (B s) = true
      · rw [if_pos h3]
        by_cases h5 : z_tE B n s - s ≤ 5
        · rw [if_pos h5]
          have eE : z_tE B n s = z_run z_dgt B n n (s + 1) := (if_neg h).trans ((if_neg h2).trans (if_pos h3))
          obtain ⟨r1, r2, r3, r4⟩ := z_run_p (p := z_dgt) (B := B) n (s + 1) (show s + 1 ≤ n by omega) (by omega)
          have h6 := z_nv_b (B := B) (s := s) (z_tE B n s - s) (fun x hx => by
            by_cases hx0 : x = 0
            · rw [hx0, Nat.add_zero]
              exact h3
            · exact r3 (s + x) (by omega) (by omega))
          have := z_p10 h5
          omega
        · rw [if_neg h5]
          omega
      · rw [if_neg h3]
        omega
theorem z_kd_b {B : Nat → Nat} {n p : Nat} : z_kd B n p ≤ 268 := z_kD_b.1
theorem z_nm_b {B : Nat → Nat} {n p : Nat} : z_nm B n p ≤ 100000 := z_nM_b
/-- at the end the next token is the end again -/
theorem z_end0 {B : Nat → Nat} {n p : Nat} (hp : p ≤ n) (h : z_kd B n p = 0) : z_te B n p = n ∧ z_ts B n p = n ∧ z_ts B n n = n ∧ z_kd B n n = 0 ∧ z_nm B n n = z_nm B n p := by
  have h1 := (z_ts_b (B := B) hp).2.1
  have h2 : n ≤ z_ts B n p := z_kD_b.2.mp h
  have h3 : z_ts B n p = n := by omega
  have h4 : z_ts B n n = n := by
    have := z_ts_b (B := B) (Nat.le_refl n)
    omega
  refine ⟨?_, h3, h4, ?_, ?_⟩
  · unfold z_te z_tE
    exact if_pos h2
  · unfold z_kd
    rw [h4]
    exact z_kD_b.2.mpr (Nat.le_refl n)
  · unfold z_nm
    rw [h3, h4]
/-- the class stands at the token behind p -/
def c_at (c : mm_M) (B : Nat → Nat) (n p : Nat) : Prop := ∃ i K, i < K ∧ K ≤ 401 ∧ c 1 0 5 = Int32.ofNat K ∧ c 1 0 6 = Int32.ofNat i ∧ c 1 0 7 = Int32.ofNat (z_kd B n p) ∧ c 1 0 8 = Int32.ofNat (z_nm B n p) ∧ (∀ j, i + j < K → c 16 0 (i + j) = Int32.ofNat (z_kd B n (z_pp B n j p)) ∧ c 17 0 (i + j) = Int32.ofNat (z_nm B n (z_pp B n j p)) ∧ c 18 0 (i + j) = Int32.ofNat (z_ts B n (z_pp B n j p))) ∧ z_kd B n (z_pp B n (K - 1 - i) p) = 0
theorem c_at_fr {L : zT} {c r : mm_M} {B : Nat → Nat} {n p : Nat} (hf : fp L c r) (hd : z_dis [(1, none, some 5), (1, none, some 6), (1, none, some 7), (1, none, some 8), (16, none, none), (17, none, none), (18, none, none)] L = true) (h : c_at c B n p) : c_at r B n p := by
  obtain ⟨i, K, h1, h2, h3, h4, h5, h6, h7, h8⟩ := h
  refine ⟨i, K, h1, h2, (hf 1 0 5 (z_dis_of hd rfl)).trans h3, (hf 1 0 6 (z_dis_of hd rfl)).trans h4, (hf 1 0 7 (z_dis_of hd rfl)).trans h5, (hf 1 0 8 (z_dis_of hd rfl)).trans h6, fun j hj => ?_, h8⟩
  obtain ⟨a1, a2, a3⟩ := h7 j hj
  exact ⟨(hf 16 0 _ (z_dis_of hd rfl)).trans a1, (hf 17 0 _ (z_dis_of hd rfl)).trans a2, (hf 18 0 _ (z_dis_of hd rfl)).trans a3⟩
abbrev zAd : zT := [(1, none, some 6), (1, none, some 7), (1, none, some 8)]
theorem c_adv {c : mm_M} {B : Nat → Nat} {n p : Nat} (hp : p ≤ n) (h : c_at c B n p) : vW (f_X9_advance c) (fun r => fp zAd c r ∧ c_at r B n (z_te B n p)) := by
  obtain ⟨i, K, h1, h2, h3, h4, h5, h6, h7, h8⟩ := h
  unfold f_X9_advance
  have e6 : c 1 0 6 + 1 = Int32.ofNat (i + 1) := by rw [h4, n_a1]
  by_cases hl : i + 1 < K
  · refine v_ifn (by rw [e6, h3, iA_le, nJ_T (by omega), nJ_T (by omega)]; omega) ?_
    refine v_lM ?_
    rw [e6]
    have k6 : mm_w c 1 0 6 (Int32.ofNat (i + 1)) 1 0 6 = Int32.ofNat (i + 1) := mw_s
    have i6 : mm_in (Int32.ofNat (i + 1)) 401 := nJ_in (by omega) (by omega)
    obtain ⟨a1, a2, a3⟩ := h7 1 hl
    refine v_ifp (by rw [k6]; exact i6) ?_
    refine v_lM ?_
    rw [show mm_w c 1 0 6 (Int32.ofNat (i + 1)) 16 0 (mm_w c 1 0 6 (Int32.ofNat (i + 1)) 1 0 6).toNatClampNeg = Int32.ofNat (z_kd B n (z_te B n p)) by rw [k6, nJ_N (by omega), mw_g (by decide)]; exact a1]
    have k6b : ∀ x, mm_w (mm_w c 1 0 6 (Int32.ofNat (i + 1))) 1 0 7 x 1 0 6 = Int32.ofNat (i + 1) := fun x => (mw_k (by decide)).trans k6
    refine v_ifp (by rw [k6b]; exact i6) ?_
    refine v_lM ?_
    rw [show ∀ x, mm_w (mm_w c 1 0 6 (Int32.ofNat (i + 1))) 1 0 7 x 17 0 (mm_w (mm_w c 1 0 6 (Int32.ofNat (i + 1))) 1 0 7 x 1 0 6).toNatClampNeg = Int32.ofNat (z_nm B n (z_te B n p)) from fun x => by rw [k6b, nJ_N (by omega), mw_g (by decide), mw_g (by decide)]; exact a2]
    refine v_so ⟨fp_w rfl (fp_w rfl (fp_w rfl fp_rf)), i + 1, K, hl, h2, ?_, ?_, ?_, mw_s, fun j hj => ?_, ?_⟩
    · rw [mw_k (by decide), mw_k (by decide), mw_k (by decide)]
      exact h3
    · rw [mw_k (by decide), mw_k (by decide)]
      exact k6
    · rw [mw_k (by decide)]
      exact mw_s
    · rw [mw_g (by decide), mw_g (by decide), mw_g (by decide), mw_g (by decide), mw_g (by decide), mw_g (by decide), mw_g (by decide), mw_g (by decide), mw_g (by decide)]
      have := h7 (j + 1) (by omega)
      rw [show i + (j + 1) = i + 1 + j by omega] at this
      exact this
    · rw [show K - 1 - i = (K - 1 - (i + 1)) + 1 by omega] at h8
      exact h8
  · refine v_ifp (by rw [e6, h3, iA_le, nJ_T (by omega), nJ_T (by omega)]; omega) ?_
    rw [show K - 1 - i = 0 by omega] at h8
    have h8 : z_kd B n p = 0 := h8
    obtain ⟨b1, b2, b3, b4, b5⟩ := z_end0 hp h8
    refine v_so ⟨fp_rf, i, K, h1, h2, h3, h4, ?_, ?_, fun j hj => ?_, ?_⟩
    · rw [b1, h5, b4, h8]
    · rw [b1, h6, b5]
    · obtain rfl : j = 0 := by omega
      obtain ⟨a1, a2, a3⟩ := h7 0 hj
      show _ ∧ _ ∧ c 18 0 (i + 0) = Int32.ofNat (z_ts B n (z_te B n p))
      rw [a1, a2, a3]
      show Int32.ofNat (z_kd B n p) = Int32.ofNat (z_kd B n (z_te B n p)) ∧ Int32.ofNat (z_nm B n p) = Int32.ofNat (z_nm B n (z_te B n p)) ∧ Int32.ofNat (z_ts B n p) = Int32.ofNat (z_ts B n (z_te B n p))
      rw [b1, b2, b3, b4, b5, h8]
      exact ⟨rfl, rfl, rfl⟩
    · rw [show K - 1 - i = 0 by omega]
      show z_kd B n (z_te B n p) = 0
      rw [b1]
      exact b4
theorem c_rfs {c : mm_M} {B : Nat → Nat} {n p : Nat} {a : Int32} (h : c_at c B n p) : vW (f_X9_refuse a c) (fun q => q.1 = 0 ∧ fp [(1, none, some 9), (1, none, some 10)] c q.2 ∧ q.2 1 0 9 = a ∧ q.2 1 0 10 = Int32.ofNat (z_ts B n p)) := by
  obtain ⟨i, K, h1, h2, h3, h4, h5, h6, h7, h8⟩ := h
  have e6 : mm_w c 1 0 9 a 1 0 6 = Int32.ofNat i := (mw_k (by decide)).trans h4
  unfold f_X9_refuse
  refine v_lM ?_
  refine v_ifp (by rw [e6, iA_le, i_0, nJ_T (by omega)]; omega) ?_
  refine v_ifp (by rw [e6]; exact nJ_in (by omega) (by omega)) ?_
  rw [show mm_w c 1 0 9 a 18 0 (mm_w c 1 0 9 a 1 0 6).toNatClampNeg = Int32.ofNat (z_ts B n p) by rw [e6, nJ_N (by omega), mw_g (by decide)]; exact (h7 0 (by omega)).2.2]
  refine v_lM ?_
  refine v_so ⟨rfl, fp_w rfl (fp_w rfl fp_rf), ?_, ?_⟩
  · dsimp only
    rw [mw_k (by decide)]
    exact mw_s
  · dsimp only
    exact mw_s
theorem c_open {m : mm_M} {B : Nat → Nat} {n t : Nat} {a1 : Int32} (hb : z_byC m B n) (h1 : a1.toInt = (n : Int)) (ht : m 1 0 1 = Int32.ofNat t) (ht4 : t ≤ 400) (hnt : n ≤ t) : vW (f_X9_open a1 m) (fun r => fp [(1, none, some 1), (1, none, some 5), (1, none, some 6), (1, none, some 7), (1, none, some 8), (1, none, some 9), (1, none, some 10), (16, none, none), (17, none, none), (18, none, none)] m r ∧ r 1 0 1 = 0 ∧ c_at r B n 0) := by
  have hn := hb.1
  unfold f_X9_open
  refine v_lI (fun v1 hv1 => ?_)
  have hv : v1.toInt = (n : Int) := by
    rw [hv1]
    unfold mm_min
    split
    · rename_i h
      rw [iA_lt, ht, nJ_T (by omega)] at h
      omega
    · exact h1
  clear hv1
  refine v_lM ?_
  refine v_lM ?_
  have f0 : fp [(1, none, some 1), (1, none, some 5), (16, none, none), (17, none, none), (18, none, none)] m (mm_w (mm_w m 1 0 1 0) 1 0 5 0) := fp_w rfl (fp_w rfl fp_rf)
  refine v_s1 (P := fun c => fp [(1, none, some 1), (1, none, some 5), (16, none, none), (17, none, none), (18, none, none)] m c ∧ c 1 0 1 = 0 ∧ ∃ K, K ≤ n ∧ c 1 0 5 = Int32.ofNat K ∧ (∀ j, j < K → c 16 0 j = Int32.ofNat (z_kd B n (z_pp B n j 0)) ∧ c 17 0 j = Int32.ofNat (z_nm B n (z_pp B n j 0)) ∧ c 18 0 j = Int32.ofNat (z_ts B n (z_pp B n j 0))) ∧ z_ts B n (z_pp B n K 0) = n) ?_ (fun c hc => ?_)
  · refine v_for (fun it s => s.2.1.toInt = (it : Int) ∧ fp [(1, none, some 1), (1, none, some 5), (16, none, none), (17, none, none), (18, none, none)] m s.2.2 ∧ s.2.2 1 0 1 = 0 ∧ ∃ K x : Nat, s.1.toInt = (x : Int) ∧ x ≤ n ∧ it ≤ x ∧ K ≤ x ∧ s.2.2 1 0 5 = Int32.ofNat K ∧ (∀ j, j < K → s.2.2 16 0 j = Int32.ofNat (z_kd B n (z_pp B n j 0)) ∧ s.2.2 17 0 j = Int32.ofNat (z_nm B n (z_pp B n j 0)) ∧ s.2.2 18 0 j = Int32.ofNat (z_ts B n (z_pp B n j 0))) ∧ z_pp B n K 0 ≤ x ∧ ∀ y, z_pp B n K 0 ≤ y → y < x → z_blk (B y) = true) 0 n (Nat.zero_le _) (by omega) ⟨i_0, f0, by dsimp only; rw [mw_k (by decide)]; exact mw_s, 0, 0, i_0, Nat.zero_le _, Nat.le_refl 0, Nat.le_refl 0, by dsimp only; exact mw_s, fun j hj => absurd hj (Nat.not_lt_zero j), Nat.le_refl 0, fun y _ hy => absurd hy (Nat.not_lt_zero y)⟩ ?_ ?_
    · rintro it ⟨v5, v6, c⟩ hit ⟨h6, hf, h10, K, x, h5, hxn, hix, hKx, hK, har, hpx, hbl⟩
      dsimp only at h6 hf h10 h5 hK har ⊢
      have hbc : z_byC c B n := ⟨hn, fun k hk => ⟨(hb.2 k hk).1, (hf 15 0 k rfl).trans (hb.2 k hk).2⟩⟩
      have k5 := n_k h5
      refine v_ifn (by rw [iA_le, hv, h6]; omega) ?_
      by_cases hxe : x = n
      · refine v_ifp (by rw [iA_le, hv, h5]; omega) ?_
        refine v_ir ⟨hf, h10, K, by omega, hK, har, ?_⟩
        exact z_run_u n (z_pp B n K 0) n (by omega) (Nat.le_refl n) (by omega) (fun y a b => hbl y a (by omega)) (Or.inl rfl)
      · refine v_ifn (by rw [iA_le, hv, h5]; omega) ?_
        refine v_ifp (v_in.mpr (by omega)) ?_
        refine v_b1e (by rw [k5]; exact c_blk (z_byS hbc (show x < n by omega))) ?_
        by_cases hb1 : z_blk (B x) = true
        · refine v_ifn (by rw [if_pos hb1]; decide) ?_
          refine v_l1 ?_
          refine v_l1 ?_
          refine v_il ⟨n_s3 h6 (by omega), hf, h10, K, x + 1, n_s3 h5 (by omega), by omega, by omega, by omega, hK, har, by omega, fun y a b => ?_⟩
          by_cases hyx : y = x
          · rw [hyx]
            exact hb1
          · exact hbl y a (by omega)
        · refine v_ifp (by rw [if_neg hb1]) ?_
          have hbf : z_blk (B x) = false := by
            cases hz : z_blk (B x)
            · rfl
            · exact absurd hz hb1
          have hts : z_ts B n (z_pp B n K 0) = x := z_run_u n (z_pp B n K 0) x hpx hxn (by omega) hbl (Or.inr hbf)
          refine v_s2 (c_tok hbc hK (by omega) h5 (by omega) hv) ?_
          rintro q c2 ⟨hq, hf2, hK2, ⟨t1, t2, t3⟩, hot⟩
          dsimp only at hq hf2 hK2 t1 t2 t3 hot
          obtain ⟨e1, e2⟩ := z_tE_b (B := B) hxn
          have e3 := e2 (by omega)
          have epp : z_pp B n (K + 1) 0 = z_tE B n x := by
            rw [z_pp_s]
            unfold z_te
            rw [hts]
          refine v_l1 ?_
          refine v_il ⟨n_s3 h6 (by omega), fp_tr hf (fp_sb (by decide) hf2), (hf2 1 0 1 rfl).trans h10, K + 1, z_tE B n x, hq, e1, by omega, by omega, hK2, fun j hj => ?_, by rw [epp]; exact Nat.le_refl _, fun y a b => by rw [epp] at a; omega⟩
          dsimp only
          by_cases hjK : j = K
          · rw [hjK, t1, t2, t3]
            unfold z_kd z_nm
            rw [hts]
            exact ⟨rfl, rfl, rfl⟩
          · rw [(hot j hjK).1, (hot j hjK).2.1, (hot j hjK).2.2]
            exact har j (by omega)
    · rintro ⟨v5, v6, c⟩ ⟨h6, hf, h10, K, x, h5, hxn, hix, hKx, hK, har, hpx, hbl⟩
      dsimp only at h6 hf h10 h5 hK har ⊢
      refine v_ifp (by rw [iA_le, hv, h6]; omega) ?_
      refine v_ir ⟨hf, h10, K, by omega, hK, har, ?_⟩
      exact z_run_u n (z_pp B n K 0) n (by omega) (Nat.le_refl n) (by omega) (fun y a b => hbl y a (by omega)) (Or.inl rfl)
  · obtain ⟨hf, h10, K, hKn, hK, har, hts⟩ := hc
    have hkd : z_kd B n (z_pp B n K 0) = 0 := by
      unfold z_kd
      rw [hts]
      exact z_kD_b.2.mpr (Nat.le_refl n)
    have hnm : z_nm B n (z_pp B n K 0) = 0 := by
      unfold z_nm
      rw [hts]
      exact if_pos (Nat.le_refl n)
    refine v_s1 (c_putT hK (by omega)) ?_
    rintro c1 ⟨f1, k1, ⟨t1, t2, t3⟩, hot⟩
    refine v_lM ?_
    refine v_lM ?_
    refine v_lM ?_
    have all : ∀ j, j < K + 1 → c1 16 0 j = Int32.ofNat (z_kd B n (z_pp B n j 0)) ∧ c1 17 0 j = Int32.ofNat (z_nm B n (z_pp B n j 0)) ∧ c1 18 0 j = Int32.ofNat (z_ts B n (z_pp B n j 0)) := fun j hj => by
      by_cases hjK : j = K
      · rw [hjK, t1, t2, t3, hkd, hnm, hts]
        exact ⟨rfl, rfl, n_0L (by omega) hv⟩
      · rw [(hot j hjK).1, (hot j hjK).2.1, (hot j hjK).2.2]
        exact har j (by omega)
    unfold f_X9_advance
    have g6 : mm_w (mm_w (mm_w c1 1 0 9 0) 1 0 10 (-1)) 1 0 6 (-1) 1 0 6 + 1 = 0 := by
      rw [mw_s]
      rfl
    have g5 : mm_w (mm_w (mm_w c1 1 0 9 0) 1 0 10 (-1)) 1 0 6 (-1) 1 0 5 = Int32.ofNat (K + 1) := by
      rw [mw_k (by decide), mw_k (by decide), mw_k (by decide)]
      exact k1
    have garr : ∀ g j, ¬ g = 1 → mm_w (mm_w (mm_w c1 1 0 9 0) 1 0 10 (-1)) 1 0 6 (-1) g 0 j = c1 g 0 j := fun g j hg => by
      rw [mw_g hg, mw_g hg, mw_g hg]
    have f2 : fp [(1, none, some 1), (1, none, some 5), (1, none, some 6), (1, none, some 7), (1, none, some 8), (1, none, some 9), (1, none, some 10), (16, none, none), (17, none, none), (18, none, none)] m (mm_w (mm_w (mm_w c1 1 0 9 0) 1 0 10 (-1)) 1 0 6 (-1)) := fp_w rfl (fp_w rfl (fp_w rfl (fp_tr (fp_sb (by decide) hf) (fp_sb (by decide) f1))))
    have g1 : mm_w (mm_w (mm_w c1 1 0 9 0) 1 0 10 (-1)) 1 0 6 (-1) 1 0 1 = 0 := by
      rw [mw_k (by decide), mw_k (by decide), mw_k (by decide), f1 1 0 1 rfl]
      exact h10
    generalize mm_w (mm_w (mm_w c1 1 0 9 0) 1 0 10 (-1)) 1 0 6 (-1) = c2 at g6 g5 garr f2 g1 ⊢
    refine v_s1 (P := fun r => fp [(1, none, some 1), (1, none, some 5), (1, none, some 6), (1, none, some 7), (1, none, some 8), (1, none, some 9), (1, none, some 10), (16, none, none), (17, none, none), (18, none, none)] m r ∧ r 1 0 1 = 0 ∧ c_at r B n 0) ?_ (fun r h => v_so h)
    refine v_ifn (by rw [g6, g5, iA_le, i_0, nJ_T (by omega)]; omega) ?_
    refine v_lM ?_
    rw [g6]
    have k6 : mm_w c2 1 0 6 0 1 0 6 = 0 := mw_s
    obtain ⟨a1', a2', a3'⟩ := all 0 (by omega)
    refine v_ifp (by rw [k6]; decide) ?_
    refine v_lM ?_
    rw [show mm_w c2 1 0 6 0 16 0 (mm_w c2 1 0 6 0 1 0 6).toNatClampNeg = Int32.ofNat (z_kd B n 0) by rw [k6, mw_g (by decide), show (0 : Int32).toNatClampNeg = 0 from rfl, garr 16 0 (by decide)]; exact a1']
    have k6b : ∀ x, mm_w (mm_w c2 1 0 6 0) 1 0 7 x 1 0 6 = 0 := fun x => (mw_k (by decide)).trans k6
    refine v_ifp (by rw [k6b]; decide) ?_
    refine v_lM ?_
    rw [show ∀ x, mm_w (mm_w c2 1 0 6 0) 1 0 7 x 17 0 (mm_w (mm_w c2 1 0 6 0) 1 0 7 x 1 0 6).toNatClampNeg = Int32.ofNat (z_nm B n 0) from fun x => by rw [k6b, mw_g (by decide), mw_g (by decide), show (0 : Int32).toNatClampNeg = 0 from rfl, garr 17 0 (by decide)]; exact a2']
    refine v_so ⟨fp_w rfl (fp_w rfl (fp_w rfl f2)), ?_, 0, K + 1, by omega, by omega, ?_, ?_, ?_, mw_s, fun j hj => ?_, ?_⟩
    · rw [mw_k (by decide), mw_k (by decide), mw_k (by decide)]
      exact g1
    · rw [mw_k (by decide), mw_k (by decide), mw_k (by decide)]
      exact g5
    · rw [mw_k (by decide), mw_k (by decide)]
      exact k6
    · rw [mw_k (by decide)]
      exact mw_s
    · rw [Nat.zero_add] at hj ⊢
      rw [mw_g (by decide), mw_g (by decide), mw_g (by decide), mw_g (by decide), mw_g (by decide), mw_g (by decide), mw_g (by decide), mw_g (by decide), mw_g (by decide), garr 16 j (by decide), garr 17 j (by decide), garr 18 j (by decide)]
      exact all j hj
    · rw [show K + 1 - 1 - 0 = K by omega]
      exact hkd
