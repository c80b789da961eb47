/-! signs, words and numbers on both sides -/
theorem z_rk_e (k : Nat) (h : k ≤ 268) : (z_rk k = 3 ↔ 4 ≤ k ∧ k < 256) ∧ (z_rk k = 1 ↔ k = 3 ∨ 256 ≤ k) ∧ (z_rk k = 2 ↔ k = 2) ∧ (z_rk k = 0 ↔ k = 0) := by
  unfold z_rk
  by_cases h0 : k = 0
  · rw [if_pos h0]
    exact ⟨⟨fun z => absurd z (by decide), fun z => by omega⟩, ⟨fun z => absurd z (by decide), fun z => by omega⟩, ⟨fun z => absurd z (by decide), fun z => by omega⟩, ⟨fun _ => h0, fun _ => rfl⟩⟩
  rw [if_neg h0]
  by_cases h1 : k = 1
  · rw [if_pos h1]
    exact ⟨⟨fun z => absurd z (by decide), fun z => by omega⟩, ⟨fun z => absurd z (by decide), fun z => by omega⟩, ⟨fun z => absurd z (by decide), fun z => by omega⟩, ⟨fun z => absurd z (by decide), fun z => by omega⟩⟩
  rw [if_neg h1]
  by_cases h2 : k = 2
  · rw [if_pos h2]
    exact ⟨⟨fun z => absurd z (by decide), fun z => by omega⟩, ⟨fun z => absurd z (by decide), fun z => by omega⟩, ⟨fun _ => h2, fun _ => rfl⟩, ⟨fun z => absurd z (by decide), fun z => by omega⟩⟩
  rw [if_neg h2]
  by_cases h3 : k = 3 ∨ 256 ≤ k
  · rw [if_pos h3]
    exact ⟨⟨fun z => absurd z (by decide), fun z => by omega⟩, ⟨fun _ => h3, fun _ => rfl⟩, ⟨fun z => absurd z (by decide), fun z => by omega⟩, ⟨fun z => absurd z (by decide), fun z => by omega⟩⟩
  · rw [if_neg h3]
    exact ⟨⟨fun _ => by omega, fun _ => rfl⟩, ⟨fun z => absurd z (by decide), fun z => absurd z h3⟩, ⟨fun z => absurd z (by decide), fun z => by omega⟩, ⟨fun z => absurd z (by decide), fun z => by omega⟩⟩
theorem r_isS {m : mm_M} {B : Nat → Nat} {n p k : Nat} {a : Int32} (h : r_at m B n p) (h29 : m 12 0 29 = 0) (ha : a = Int32.ofNat k) (hk : 4 ≤ k ∧ k < 256) : f_X12_isSign a m = some (if z_kd B n p = k then 1 else 0) := by
  have hb := z_kd_b (B := B) (n := n) (p := p)
  obtain ⟨e3, _⟩ := z_rk_e (z_kd B n p) hb
  obtain ⟨_, _, _, _, h24, h25, _⟩ := h
  apply v_is
  unfold f_X12_isSign
  refine v_ifn (fun z => z h29) ?_
  by_cases hr : z_rk (z_kd B n p) = 3
  · refine v_ifn (fun z => z (h24.trans hr)) ?_
    by_cases he : z_kd B n p = k
    · refine v_ifn (fun z => z (by rw [h25 hr, ha, he])) (v_so (if_pos he).symm)
    · refine v_ifp (by rw [h25 hr, ha]; exact fun z => he ((n_eq (by omega) (by omega)).mp z)) (v_so (if_neg he).symm)
  · refine v_ifp (fun z => hr (h24.symm.trans z)) (v_so ?_)
    rw [if_neg (fun z => hr (e3.mpr (by omega)))]
theorem r_isS0 {m : mm_M} {a : Int32} (h29 : ¬ m 12 0 29 = 0) : f_X12_isSign a m = some 0 := v_is (by
  unfold f_X12_isSign
  exact v_ifp h29 (v_so rfl))
theorem z_wcd_q : ∀ q : Fin 13, z_wcd (z_tx (13 + q.val)) = 256 + q.val := by decide +kernel
theorem z_wcd_i {w : List Nat} {q : Nat} (hq : q < 13) : z_wcd w = 256 + q ↔ w = z_tx (13 + q) := by
  constructor
  · intro h
    by_cases hex : ∃ r : Fin 13, w = z_tx (13 + r.val)
    · obtain ⟨r, hr⟩ := hex
      have := z_wcd_q r
      rw [← hr, h] at this
      rw [hr]
      congr 1
      omega
    · exfalso
      have hn : ∀ r, r < 13 → ¬ w = z_tx (13 + r) := fun r hr z => hex ⟨⟨r, hr⟩, z⟩
      have : z_wcd w = 3 := by
        unfold z_wcd
        rw [if_neg (hn 0 (by omega)), if_neg (hn 1 (by omega)), if_neg (hn 2 (by omega)), if_neg (hn 3 (by omega)), if_neg (hn 4 (by omega)), if_neg (hn 5 (by omega)), if_neg (hn 6 (by omega)), if_neg (hn 7 (by omega)), if_neg (hn 8 (by omega)), if_neg (hn 9 (by omega)), if_neg (hn 10 (by omega)), if_neg (hn 11 (by omega)), if_neg (hn 12 (by omega))]
      omega
  · intro h
    rw [h]
    exact z_wcd_q ⟨q, hq⟩
theorem z_kD_w {B : Nat → Nat} {n s : Nat} (h : z_kD B n s = 3 ∨ 256 ≤ z_kD B n s) : s < n ∧ z_kD B n s = z_wcd (z_word B s (z_tE B n s)) := by
  by_cases h1 : n ≤ s
  · have := z_kD_b (B := B) (n := n) (s := s) |>.2.mpr h1
    omega
  refine ⟨by omega, ?_⟩
  unfold z_kD at h ⊢
  rw [if_neg h1] at h ⊢
  by_cases h2 : z_let (B s) = true
  · rw [if_pos h2]
  · rw [if_neg h2] at h
    by_cases h3 : z_dgt (B s) = true
    · rw [if_pos h3] at h
      omega
    · rw [if_neg h3] at h
      by_cases h4 : z_sgn (B s) = true
      · have := of_decide_eq_true h4
        rw [if_pos h4] at h
        omega
      · rw [if_neg h4] at h
        omega
theorem r_isW {m : mm_M} {B : Nat → Nat} {n p i q : Nat} (h : r_at m B n p) (h29 : m 12 0 29 = 0) (hp : p ≤ n) (hi : i < 29) (hq : q < 13) (ht : z_tx i = z_tx (13 + q)) : f_X12_is i m = some (if z_kd B n p = 256 + q then 1 else 0) := by
  have hb := z_kd_b (B := B) (n := n) (p := p)
  obtain ⟨_, e1, _⟩ := z_rk_e (z_kd B n p) hb
  obtain ⟨hby, _, h27, h28, h24, _, _⟩ := h
  have hn := hby.1
  have hl := z_tx_l ⟨i, hi⟩
  dsimp only at hl
  have none0 : ¬ z_kd B n p = 256 + q → vW (mm_b1 (mm_loop (σ := Int32 × Int32) (ρ := (Int32)) (fun (s : Int32 × Int32) => match s with
| (v2, v3) => (if v2 = 0 then (some (.inr v2))
else (if (Int32.ofNat (mm_txt i).length) ≤ v3 then (some (.inr v2))
else (if mm_in v3 (mm_txt i).length then (
if mm_in ((m 12 0 27) + v3) 400 then (
if (Int32.ofNat ((mm_txt i).getD v3.toNatClampNeg ' ').toNat) ≠ (m 80 0 ((m 12 0 27) + v3).toNatClampNeg) then (mm_let (v3 + 1) fun v4 =>
some (.inl (0, v4)))
else (mm_let (v3 + 1) fun v5 =>
some (.inl (1, v5)))) else none) else none)) : Option ((Int32 × Int32) ⊕ ((Int32))))) mm_fu (0, 0)) fun v6 =>
if v6 = 0 ∨ v6 = 1 then some v6 else none) (fun r => r = if z_kd B n p = 256 + q then 1 else 0) := fun hne => by
    refine v_s1 (P := fun r => r = 0) ?_ (fun r hr => ?_)
    · refine v_for (fun _ s => s.1 = 0) 0 0 (Nat.le_refl 0) (by omega) rfl (fun j s hj => absurd hj (Nat.not_lt_zero j)) ?_
      rintro ⟨x, y⟩ hx
      dsimp only at hx ⊢
      exact v_ifp hx (v_ir hx)
    · refine v_ifp (Or.inl hr) (v_so ?_)
      rw [hr, if_neg hne]
  apply v_is
  unfold f_X12_is
  refine v_ifn (fun z => z h29) ?_
  by_cases hr : z_rk (z_kd B n p) = 1
  · refine v_ifn (fun z => z (h24.trans hr)) ?_
    obtain ⟨hsn, hkw⟩ := z_kD_w (B := B) (n := n) (s := z_ts B n p) (e1.mp hr)
    have hkw2 : z_kd B n p = z_wcd (z_word B (z_ts B n p) (z_te B n p)) := hkw
    have hte := z_te_b (B := B) hp
    have hlt := (z_tE_b (B := B) (n := n) (s := z_ts B n p) (by omega)).2 hsn
    have hlt2 : z_ts B n p < z_te B n p := hlt
    have hiff : z_kd B n p = 256 + q ↔ z_word B (z_ts B n p) (z_te B n p) = z_tx i := by
      rw [hkw2, ht]
      exact z_wcd_i hq
    have hd : m 12 0 28 - m 12 0 27 = Int32.ofNat (z_te B n p - z_ts B n p) := by rw [h28, h27, n_sb (by omega)]
    generalize z_ts B n p = s at hsn hte hlt2 hiff hd h27
    generalize z_te B n p = e at hte hlt2 hiff hd
    by_cases hlen : e - s = (mm_txt i).length
    · refine v_ifn (fun z => z (by rw [hd, hlen])) ?_
      refine v_s1 (P := fun r => (r = 1 ∧ z_word B s e = z_tx i) ∨ (r = 0 ∧ ¬ z_word B s e = z_tx i)) ?_ (fun r hr => ?_)
      · refine v_for (fun j t => t.2.toInt = (j : Int) ∧ ((t.1 = 1 ∧ ∀ x, x < j → B (s + x) = z_chr i x) ∨ (t.1 = 0 ∧ ¬ z_word B s e = z_tx i))) 0 (mm_txt i).length (Nat.zero_le _) (by omega) ⟨i_0, Or.inl ⟨rfl, fun x hx => absurd hx (Nat.not_lt_zero x)⟩⟩ ?_ ?_
        · rintro j ⟨x, v⟩ hj ⟨hv, hx⟩
          dsimp only at hv hx ⊢
          rcases hx with ⟨hx, hm⟩ | ⟨hx, hm⟩
          · have kv := n_k hv
            have hs : (m 12 0 27 + v).toInt = ((s + j : Nat) : Int) := iA_addN (by rw [h27, nJ_T (by omega)]) hv (by omega)
            have hby2 := hby.2.2 (s + j) (by omega)
            have hcb := z_chr_b ⟨i, hi⟩ ⟨j, by omega⟩
            dsimp only at hcb
            refine v_ifn (by rw [hx]; decide) ?_
            refine v_ifn (by rw [iA_le, hv, nJ_T (by omega)]; omega) ?_
            refine v_ifp (v_in.mpr (by omega)) ?_
            refine v_ifp (v_in.mpr (by rw [hs]; omega)) ?_
            by_cases hc : B (s + j) = z_chr i j
            · refine v_ifn (fun z => z (by rw [n_k hs, hby2.2, kv, hc]; rfl)) ?_
              refine v_l1 ?_
              refine v_il ⟨n_s3 hv (by omega), Or.inl ⟨rfl, fun y hy => ?_⟩⟩
              by_cases e2 : y = j
              · rw [e2]
                exact hc
              · exact hm y (by omega)
            · refine v_ifp (by rw [n_k hs, hby2.2, kv]; exact fun z => hc ((n_eq (a := z_chr i j) (b := B (s + j)) (by omega) (by omega)).mp z).symm) ?_
              refine v_l1 ?_
              refine v_il ⟨n_s3 hv (by omega), Or.inr ⟨rfl, fun z => hc ((z_weq.mp z).2 j (by omega))⟩⟩
          · refine v_ifp hx ?_
            exact v_ir (Or.inr ⟨hx, hm⟩)
        · rintro ⟨x, v⟩ ⟨hv, hx⟩
          dsimp only at hv hx ⊢
          rcases hx with ⟨hx, hm⟩ | ⟨hx, hm⟩
          · refine v_ifn (by rw [hx]; decide) ?_
            refine v_ifp (by rw [iA_le, hv, nJ_T (by omega)]; omega) ?_
            exact v_ir (Or.inl ⟨hx, z_weq.mpr ⟨hlen, fun y hy => hm y (by omega)⟩⟩)
          · refine v_ifp hx ?_
            exact v_ir (Or.inr ⟨hx, hm⟩)
      · rcases hr with ⟨hr, hm⟩ | ⟨hr, hm⟩
        · refine v_ifp (Or.inr hr) (v_so ?_)
          rw [hr, if_pos (hiff.mpr hm)]
        · refine v_ifp (Or.inl hr) (v_so ?_)
          rw [hr, if_neg (fun z => hm (hiff.mp z))]
    · refine v_ifp (by rw [hd]; exact fun z => hlen ((n_eq (by omega) (by omega)).mp z).symm) ?_
      exact none0 (fun z => hlen (z_weq.mp (hiff.mp z)).1)
  · refine v_ifp (fun z => hr (h24.symm.trans z)) ?_
    exact none0 (fun z => hr (e1.mpr (by omega)))
theorem r_wr {m : mm_M} {a : Int32} (h29 : m 12 0 29 = 0) : f_X12_wrong a m = some (mm_w (mm_w m 12 0 29 a) 12 0 30 (m 12 0 27)) := v_is (by
  unfold f_X12_wrong
  refine v_ifp h29 ?_
  refine v_lM ?_
  refine v_lM ?_
  refine v_so ?_
  rw [mw_k (show 27 ≠ 29 by decide)])
theorem r_wr0 {m : mm_M} {a : Int32} (h29 : ¬ m 12 0 29 = 0) : f_X12_wrong a m = some m := v_is (by
  unfold f_X12_wrong
  exact v_ifn h29 (v_so rfl))
abbrev zE2 : zT := [(12, none, some 29), (12, none, some 30)]
theorem r_need {m : mm_M} {B : Nat → Nat} {n p k : Nat} {a : Int32} (h : r_at m B n p) (h29 : m 12 0 29 = 0) (hp : p ≤ n) (ha : a = Int32.ofNat k) (hk : 4 ≤ k ∧ k < 256) : vW (f_X12_need a m) (fun r => (z_kd B n p = k ∧ fp zSt m r ∧ r_at r B n (z_te B n p)) ∨ (¬ z_kd B n p = k ∧ fp zE2 m r ∧ r 12 0 29 = 1 ∧ r 12 0 30 = Int32.ofNat (z_ts B n p))) := by
  unfold f_X12_need
  refine v_lF ?_
  refine v_ifn (fun z => z h29) ?_
  refine v_b1e (r_isS h h29 ha hk) ?_
  by_cases he : z_kd B n p = k
  · refine v_ifp (by rw [if_pos he]; decide) ?_
    refine v_ifn (fun z => z h29) ?_
    refine v_s1 (r_step h.1 (z_te_b hp) h.2.1) (fun r hr => ?_)
    exact v_so (Or.inl ⟨he, hr.1, hr.2⟩)
  · refine v_ifn (by rw [if_neg he]; decide) ?_
    refine v_b1e (r_wr h29) ?_
    refine v_ifp (by rw [mw_k (by decide), mw_s]; decide) ?_
    refine v_so (Or.inr ⟨he, fp_w rfl (fp_w rfl fp_rf), (mw_k (by decide)).trans mw_s, ?_⟩)
    rw [mw_s]
    exact h.2.2.1
theorem r_need0 {m : mm_M} {a : Int32} (h29 : ¬ m 12 0 29 = 0) : f_X12_need a m = some m := v_is (by
  unfold f_X12_need
  refine v_lF ?_
  refine v_ifp h29 ?_
  exact v_ifp h29 (v_so rfl))
theorem z_nm_5 {B : Nat → Nat} {n p : Nat} (h : z_kd B n p = 2) (h5 : ¬ z_te B n p - z_ts B n p ≤ 5) : z_nm B n p = 100000 := by
  have e : z_kD B n (z_ts B n p) = 2 := h
  show z_nM B n (z_ts B n p) = 100000
  unfold z_kD at e
  unfold z_nM
  by_cases h1 : n ≤ z_ts B n p
  · rw [if_pos h1] at e
    omega
  · rw [if_neg h1] at e ⊢
    by_cases h2 : z_let (B (z_ts B n p)) = true
    · rw [if_pos h2] at e
      have := z_wcd_b (z_word B (z_ts B n p) (z_tE B n (z_ts B n p)))
      omega
    · rw [if_neg h2] at e ⊢
      by_cases h3 : z_dgt (B (z_ts B n p)) = true
      · rw [if_pos h3]
        exact if_neg h5
      · rw [if_neg h3] at e
        by_cases h4 : z_sgn (B (z_ts B n p)) = true
        · have := of_decide_eq_true h4
          rw [if_pos h4] at e
          omega
        · rw [if_neg h4] at e
          omega
/-- a number that is asked for -/
def z_ok2 (B : Nat → Nat) (n lo hi p : Nat) : Prop := z_kd B n p = 2 ∧ lo ≤ z_nm B n p ∧ z_nm B n p ≤ hi
theorem r_num {m : mm_M} {B : Nat → Nat} {n p lo hi : Nat} {a b : Int32} (h : r_at m B n p) (h29 : m 12 0 29 = 0) (hp : p ≤ n) (ha : a = Int32.ofNat lo) (hb : b = Int32.ofNat hi) (hhi : hi ≤ 99999) (hlo : lo ≤ hi) : vW (f_X12_readNumber a b m) (fun q => (z_ok2 B n lo hi p ∧ q.1 = Int32.ofNat (z_nm B n p) ∧ fp zSt m q.2 ∧ r_at q.2 B n (z_te B n p)) ∨ (¬ z_ok2 B n lo hi p ∧ fp zE2 m q.2 ∧ q.2 12 0 29 = Int32.ofNat (if z_kd B n p = 2 then 2 else 1) ∧ q.2 12 0 30 = Int32.ofNat (z_ts B n p))) := by
  have hkb := z_kd_b (B := B) (n := n) (p := p)
  have hnb := z_nm_b (B := B) (n := n) (p := p)
  obtain ⟨_, _, e2, _⟩ := z_rk_e (z_kd B n p) hkb
  have hte := z_te_b (B := B) hp
  have hn := h.1.1
  have hts := z_ts_b (B := B) hp
  have i5 : (5 : Int32).toInt = 5 := by decide
  have bad : ∀ x : Nat, (x = if z_kd B n p = 2 then 2 else 1) → ¬ z_ok2 B n lo hi p → vW (mm_b1 (f_X12_wrong (Int32.ofNat x) m) fun m7 => (mm_let (m7 12 0 26) fun v3 =>
if (m7 12 0 29) ≠ 0 then (some (v3, m7))
else (mm_b1 (f_X12_step m7) fun m5 =>
some (v3, m5)) : Option (Int32 × mm_M))) (fun q => (z_ok2 B n lo hi p ∧ q.1 = Int32.ofNat (z_nm B n p) ∧ fp zSt m q.2 ∧ r_at q.2 B n (z_te B n p)) ∨ (¬ z_ok2 B n lo hi p ∧ fp zE2 m q.2 ∧ q.2 12 0 29 = Int32.ofNat (if z_kd B n p = 2 then 2 else 1) ∧ q.2 12 0 30 = Int32.ofNat (z_ts B n p))) := fun x hx hno => by
    refine v_b1e (r_wr h29) ?_
    refine v_l ?_
    have hx12 : x = 1 ∨ x = 2 := by
      rw [hx]
      split
      · exact Or.inr rfl
      · exact Or.inl rfl
    refine v_ifp ?_ ?_
    · rw [mw_k (by decide), mw_s]
      exact n_ne (by rw [nJ_T (by omega), i_0]; omega)
    · refine v_so (Or.inr ⟨hno, fp_w rfl (fp_w rfl fp_rf), ?_, ?_⟩)
      · dsimp only
        rw [mw_k (by decide), mw_s, hx]
      · dsimp only
        rw [mw_s]
        exact h.2.2.1
  unfold f_X12_readNumber
  refine v_ifp h29 ?_
  refine v_lF ?_
  by_cases hk : z_kd B n p = 2
  · refine v_ifp (h.2.2.2.2.1.trans (e2.mpr hk)) ?_
    have hd : m 12 0 28 - m 12 0 27 = Int32.ofNat (z_te B n p - z_ts B n p) := by
      have hle : z_ts B n p ≤ z_te B n p := by
        by_cases hsn : z_ts B n p < n
        · exact Nat.le_of_lt ((z_tE_b (B := B) (n := n) (s := z_ts B n p) (by omega)).2 hsn)
        · have := z_kD_b (B := B) (n := n) (s := z_ts B n p) |>.2.mpr (by omega)
          have hk' : z_kD B n (z_ts B n p) = 2 := hk
          omega
      rw [h.2.2.2.1, h.2.2.1, n_sb hle]
    by_cases h5 : z_te B n p - z_ts B n p ≤ 5
    · refine v_ifn (by rw [hd, iA_lt, i5, nJ_T (by omega)]; omega) ?_
      have e26 : m 12 0 26 = Int32.ofNat (z_nm B n p) := h.2.2.2.2.2.2 hk h5
      by_cases hl : z_nm B n p < lo
      · refine v_ifp (by rw [e26, ha, iA_lt, nJ_T (by omega), nJ_T (by omega)]; omega) ?_
        exact bad 2 (by rw [if_pos hk]) (fun z => by have := z.2.1; omega)
      · refine v_ifn (by rw [e26, ha, iA_lt, nJ_T (by omega), nJ_T (by omega)]; omega) ?_
        by_cases hh : z_nm B n p ≤ hi
        · refine v_ifp (by rw [e26, hb, iA_le, nJ_T (by omega), nJ_T (by omega)]; omega) ?_
          refine v_l ?_
          refine v_ifn (fun z => z h29) ?_
          refine v_s1 (r_step h.1 hte h.2.1) (fun r hr => ?_)
          exact v_so (Or.inl ⟨⟨hk, by omega, hh⟩, e26, hr.1, hr.2⟩)
        · refine v_ifn (by rw [e26, hb, iA_le, nJ_T (by omega), nJ_T (by omega)]; omega) ?_
          exact bad 2 (by rw [if_pos hk]) (fun z => hh z.2.2)
    · refine v_ifp (by rw [hd, iA_lt, i5, nJ_T (by omega)]; omega) ?_
      have e3 := z_nm_5 hk h5
      exact bad 2 (by rw [if_pos hk]) (fun z => by have := z.2.2; omega)
  · refine v_ifn (fun z => hk (e2.mp (h.2.2.2.2.1.symm.trans z))) ?_
    exact bad 1 (by rw [if_neg hk]) (fun z => hk z.1)
theorem r_num0 {m : mm_M} {a b : Int32} (h29 : ¬ m 12 0 29 = 0) : f_X12_readNumber a b m = some (0, m) := v_is (by
  unfold f_X12_readNumber
  exact v_ifn h29 (v_so rfl))
/-- the same in the class -/
theorem c_isN {c : mm_M} {B : Nat → Nat} {n p lo hi : Nat} {a b : Int32} (h : c_at c B n p) (ha : a = Int32.ofNat lo) (hb : b = Int32.ofNat hi) (hhi : hi ≤ 99999) (hlo : lo ≤ hi) : vW (f_X9_isNumberIn a b c) (fun r => (r = 1 ∧ z_ok2 B n lo hi p) ∨ (r = 0 ∧ ¬ z_ok2 B n lo hi p)) := by
  have hkb := z_kd_b (B := B) (n := n) (p := p)
  have hnb := z_nm_b (B := B) (n := n) (p := p)
  obtain ⟨_, _, _, _, _, _, h7, h8, _⟩ := h
  unfold f_X9_isNumberIn
  by_cases hk : z_kd B n p = 2
  · refine v_ifn (fun z => z (by rw [h7, hk]; rfl)) ?_
    by_cases hl : z_nm B n p < lo
    · refine v_ifp (by rw [h8, ha, iA_lt, nJ_T (by omega), nJ_T (by omega)]; omega) (v_so ?_)
      exact Or.inr ⟨rfl, fun z => by have := z.2.1; omega⟩
    · refine v_ifn (by rw [h8, ha, iA_lt, nJ_T (by omega), nJ_T (by omega)]; omega) ?_
      by_cases hh : z_nm B n p ≤ hi
      · refine v_ifn (by rw [h8, hb, iA_lt, nJ_T (by omega), nJ_T (by omega)]; omega) (v_so ?_)
        exact Or.inl ⟨rfl, hk, by omega, hh⟩
      · refine v_ifp (by rw [h8, hb, iA_lt, nJ_T (by omega), nJ_T (by omega)]; omega) (v_so ?_)
        exact Or.inr ⟨rfl, fun z => hh z.2.2⟩
  · refine v_ifp (by rw [h7]; exact fun z => hk ((n_eq (b := 2) (by omega) (by omega)).mp z)) (v_so ?_)
    exact Or.inr ⟨rfl, fun z => hk z.1⟩
abbrev zEc : zT := [(1, none, some 9), (1, none, some 10)]
theorem c_rfN {c : mm_M} {B : Nat → Nat} {n p : Nat} (h : c_at c B n p) : vW (f_X9_refuseNumber c) (fun q => q.1 = 0 ∧ fp zEc c q.2 ∧ q.2 1 0 9 = Int32.ofNat (if z_kd B n p = 2 then 2 else 1) ∧ q.2 1 0 10 = Int32.ofNat (z_ts B n p)) := by
  have hkb := z_kd_b (B := B) (n := n) (p := p)
  have h7 : c 1 0 7 = Int32.ofNat (z_kd B n p) := by
    obtain ⟨_, _, _, _, _, _, h7, _⟩ := h
    exact h7
  unfold f_X9_refuseNumber
  by_cases hk : z_kd B n p = 2
  · refine v_ifn (fun z => z (by rw [h7, hk]; rfl)) ?_
    refine v_s2 (c_rfs h) ?_
    rintro r d ⟨h1, h2, h3, h4⟩
    dsimp only at h1 h2 h3 h4
    refine v_ifp (Or.inl h1) (v_so ⟨h1, h2, ?_, h4⟩)
    rw [if_pos hk]
    exact h3
  · refine v_ifp (by rw [h7]; exact fun z => hk ((n_eq (b := 2) (by omega) (by omega)).mp z)) ?_
    refine v_s2 (c_rfs h) ?_
    rintro r d ⟨h1, h2, h3, h4⟩
    dsimp only at h1 h2 h3 h4
    refine v_ifp (Or.inl h1) (v_so ⟨h1, h2, ?_, h4⟩)
    rw [if_neg hk]
    exact h3
theorem c_pass {c : mm_M} {B : Nat → Nat} {n p k : Nat} {a : Int32} (h : c_at c B n p) (hp : p ≤ n) (ha : a = Int32.ofNat k) (hk : k < 1000) : vW (f_X9_passSign a c) (fun q => (z_kd B n p = k ∧ q.1 = 1 ∧ fp zAd c q.2 ∧ c_at q.2 B n (z_te B n p)) ∨ (¬ z_kd B n p = k ∧ q.1 = 0 ∧ fp zEc c q.2 ∧ q.2 1 0 9 = 1 ∧ q.2 1 0 10 = Int32.ofNat (z_ts B n p))) := by
  have hkb := z_kd_b (B := B) (n := n) (p := p)
  have h7 : c 1 0 7 = Int32.ofNat (z_kd B n p) := by
    obtain ⟨_, _, _, _, _, _, h7, _⟩ := h
    exact h7
  unfold f_X9_passSign
  by_cases he : z_kd B n p = k
  · refine v_ifp (by rw [h7, ha, he]) ?_
    refine v_s1 (c_adv hp h) (fun r hr => ?_)
    exact v_so (Or.inl ⟨he, rfl, hr.1, hr.2⟩)
  · refine v_ifn (by rw [h7, ha]; exact fun z => he ((n_eq (by omega) (by omega)).mp z)) ?_
    refine v_s2 (c_rfs h) ?_
    rintro r d ⟨h1, h2, h3, h4⟩
    dsimp only at h1 h2 h3 h4
    exact v_ifp (Or.inl h1) (v_so (Or.inr ⟨he, h1, h2, h3, h4⟩))
