/-! lamps -/
theorem n_div8 {k : Nat} (h : k < 2147483648) : Int32.ofNat k / 8 = Int32.ofNat (k / 8) := by
  rw [iA_eq, nJ_T (by omega), Int32.toInt_div, nJ_T h, i_8, Int.tdiv_eq_ediv_of_nonneg (by omega), Int.bmod_eq_of_le (by omega) (by omega)]
  omega
theorem n_mod8 {k : Nat} (h : k < 2147483648) : Int32.ofNat k % 8 = Int32.ofNat (k % 8) := by
  rw [iA_eq, nJ_T (by omega), Int32.toInt_mod, nJ_T h, i_8, Int.tmod_eq_emod_of_nonneg (by omega)]
  omega
/-- the i-th of n digits -/
def z_dig (n k i : Nat) : Nat := k / 8 ^ (n - 1 - i) % 8
def z_sm (k : Nat) : Nat → Int32
  | 0 => 0
  | j + 1 => z_sm k j + Int32.ofNat (k / 8 ^ j % 8)
theorem z_sm_b {k : Nat} : ∀ j, j ≤ 4 → 0 ≤ (z_sm k j).toInt ∧ (z_sm k j).toInt ≤ 7 * (j : Int)
  | 0, _ => by show 0 ≤ (0 : Int32).toInt ∧ (0 : Int32).toInt ≤ _; rw [i_0]; omega
  | j + 1, hj => by
    have h := z_sm_b (k := k) j (by omega)
    have h7 : k / 8 ^ j % 8 < 8 := Nat.mod_lt _ (by decide)
    show 0 ≤ (z_sm k j + Int32.ofNat (k / 8 ^ j % 8)).toInt ∧ (z_sm k j + Int32.ofNat (k / 8 ^ j % 8)).toInt ≤ _
    have e : (Int32.ofNat (k / 8 ^ j % 8)).toInt = ((k / 8 ^ j % 8 : Nat) : Int) := nJ_T (by omega)
    rw [iA_add (by omega) (by omega), e]
    omega
theorem z_dig_lt {n k i : Nat} : z_dig n k i < 8 := Nat.mod_lt _ (by decide)
theorem n_abs0 {a b : Int32} {i c : Nat} (ha : a.toInt = (i : Int)) (hb : b.toInt = (c : Int)) (hi : i < 100) (hc : c < 100) (h : ¬ i = c) : ¬ mm_abs (a - b) = 0 := by
  have e : (a - b).toInt = (i : Int) - c := by rw [iA_sub (by omega) (by omega), ha, hb]
  unfold mm_abs
  by_cases g : 0 ≤ a - b
  · rw [if_pos g, iA_eq, e, i_0]
    omega
  · rw [if_neg g, iA_eq, iA_sub (by rw [e, i_0]; omega) (by rw [e, i_0]; omega), e, i_0]
    omega
def z_ds (c : Nat) (dg : Nat → Nat) : Nat → Int32
  | 0 => 0
  | i + 1 => if i = c then z_ds c dg i else z_ds c dg i + (Int32.ofNat (dg i) * 100) / mm_abs (Int32.ofNat i - Int32.ofNat c)
def z_lm (n : Nat) (M : Nat → Nat → Int32) (dg : Nat → Nat) : Nat → Int32
  | 0 => 0
  | i + 1 => if i = 0 then M i (dg i) - z_ds i dg n else mm_min (z_lm n M dg i) (M i (dg i) - z_ds i dg n)
/-- the best one so far: its margin, its sum, its number -/
def z_ch (n : Nat) (M : Nat → Nat → Int32) : Nat → Option (Int32 × Int32 × Nat)
  | 0 => none
  | k + 1 => match z_ch n M k with
    | none => some (z_lm n M (z_dig n k) n, z_sm k n, k)
    | some b => if b.1 < z_lm n M (z_dig n k) n ∨ (z_lm n M (z_dig n k) n = b.1 ∧ z_sm k n < b.2.1) then some (z_lm n M (z_dig n k) n, z_sm k n, k) else some b
theorem z_ch_b {n : Nat} {M : Nat → Nat → Int32} (hn : n ≤ 4) : ∀ k b, z_ch n M k = some b → 0 ≤ b.2.1.toInt
  | 0, b, h => by cases h
  | k + 1, b, h => by
    have hs := (z_sm_b (k := k) n hn).1
    unfold z_ch at h
    cases hq : z_ch n M k with
    | none =>
      rw [hq] at h
      cases h
      exact hs
    | some b' =>
      rw [hq] at h
      dsimp only at h
      by_cases g : b'.1 < z_lm n M (z_dig n k) n ∨ (z_lm n M (z_dig n k) n = b'.1 ∧ z_sm k n < b'.2.1)
      · rw [if_pos g] at h
        cases h
        exact hs
      · rw [if_neg g] at h
        cases h
        exact z_ch_b hn k _ hq
theorem z_ch_s {n : Nat} {M : Nat → Nat → Int32} : ∀ k, 0 < k → ∃ b, z_ch n M k = some b
  | 0, h => absurd h (Nat.lt_irrefl 0)
  | k + 1, _ => by
    unfold z_ch
    cases z_ch n M k with
    | none => exact ⟨_, rfl⟩
    | some b =>
      dsimp only
      split
      · exact ⟨_, rfl⟩
      · exact ⟨_, rfl⟩
theorem z_ch_i {n : Nat} {M : Nat → Nat → Int32} : ∀ k b, z_ch n M k = some b → b.2.2 < k
  | 0, b, h => by cases h
  | k + 1, b, h => by
    unfold z_ch at h
    cases hq : z_ch n M k with
    | none =>
      rw [hq] at h
      cases h
      exact Nat.lt_succ_self k
    | some b' =>
      rw [hq] at h
      dsimp only at h
      by_cases g : b'.1 < z_lm n M (z_dig n k) n ∨ (z_lm n M (z_dig n k) n = b'.1 ∧ z_sm k n < b'.2.1)
      · rw [if_pos g] at h
        cases h
        exact Nat.lt_succ_self k
      · rw [if_neg g] at h
        cases h
        have := z_ch_i k _ hq
        omega
theorem c_trial {m : mm_M} {n k : Nat} {a v : Int32} (ha : a.toInt = (n : Int)) (hn : n ≤ 4) (hv : v = Int32.ofNat k) (hk : k < 100000) : vW (f_X2_setTrial a v m) (fun q => q.1 = z_sm k n ∧ fp [(50, none, none)] m q.2 ∧ ∀ i, i < n → q.2 50 0 i = Int32.ofNat (z_dig n k i)) := by
  unfold f_X2_setTrial
  refine v_lI (fun w hw => ?_)
  have ew : w.toInt = (n : Int) - 1 := by rw [hw, n_0 (by omega), ha]
  clear hw
  refine v_s1 (P := fun q => q.1 = z_sm k n ∧ fp [(50, none, none)] m q.2 ∧ ∀ i, i < n → q.2 50 0 i = Int32.ofNat (z_dig n k i)) ?_ (fun q h => v_so h)
  refine v_for (fun j q => q.1 = Int32.ofNat (k / 8 ^ j) ∧ q.2.1 = z_sm k j ∧ q.2.2.1.toInt = (n : Int) - 1 - j ∧ fp [(50, none, none)] m q.2.2.2 ∧ ∀ i, i < n → n - j ≤ i → q.2.2.2 50 0 i = Int32.ofNat (z_dig n k i)) 0 n (Nat.zero_le _) (by omega) ⟨by rw [hv]; show _ = Int32.ofNat (k / 1); rw [Nat.div_one], rfl, by dsimp only; omega, fp_rf, fun i h1 h2 => by omega⟩ ?_ ?_
  · rintro j ⟨v3, v4, v5, c⟩ hj ⟨h3, h4, h5, hf, hz⟩
    dsimp only at h3 h4 h5 hf hz ⊢
    obtain ⟨u, hu⟩ : ∃ u, n = j + 1 + u := ⟨n - j - 1, by omega⟩
    have h5' : v5.toInt = (u : Int) := by omega
    have iv : mm_in v5 4 := v_in.mpr (by omega)
    have hkj : k / 8 ^ j < 100000 := Nat.lt_of_le_of_lt (Nat.div_le_self _ _) hk
    refine v_ifn (by rw [iA_lt, i_0]; omega) (v_ifp iv (v_lM (v_ifp iv ?_)))
    rw [n_k h5', h3, n_mod8 (by omega), n_div8 (by omega), h4]
    refine v_l (v_l (v_l (v_il ⟨?_, ?_, ?_, fp_w rfl hf, fun i h1 h2 => ?_⟩)))
    · rw [Nat.div_div_eq_div_mul, ← Nat.pow_succ]
    · rw [mw_s]
      rfl
    · dsimp only
      rw [n_p1 (by omega)]
      omega
    · dsimp only
      by_cases e : i = u
      · rw [e, mw_s]
        unfold z_dig
        rw [show n - 1 - u = j by omega]
      · rw [mw_k e]
        exact hz i h1 (by omega)
  · rintro ⟨v3, v4, v5, c⟩ ⟨h3, h4, h5, hf, hz⟩
    dsimp only at h3 h4 h5 hf hz ⊢
    exact v_ifp (by rw [iA_lt, i_0]; omega) (v_ir ⟨h4, hf, fun i hi => hz i hi (by omega)⟩)
theorem c_dist {m : mm_M} {n c : Nat} {a x : Int32} {dg : Nat → Nat} (ha : a.toInt = (n : Int)) (hn : n ≤ 4) (hx : x.toInt = (c : Int)) (hc : c < n) (hd : ∀ i, i < n → m 50 0 i = Int32.ofNat (dg i)) : f_X2_disturbed a x m = some (z_ds c dg n) := by
  apply v_is
  unfold f_X2_disturbed
  refine v_s1 (P := fun r => r = z_ds c dg n) ?_ (fun r h => v_so h)
  refine v_for (fun j q => q.1 = z_ds c dg j ∧ q.2.toInt = (j : Int)) 0 n (Nat.zero_le _) (by omega) ⟨rfl, i_0⟩ ?_ ?_
  · rintro j ⟨u, v⟩ hj ⟨hu, hv⟩
    dsimp only at hu hv ⊢
    refine v_ifn (by rw [iA_le]; omega) ?_
    by_cases e : j = c
    · refine v_ifp (by rw [iA_eq]; omega) (v_l1 (v_il ⟨?_, n_s3 hv (by omega)⟩))
      show u = if j = c then z_ds c dg j else _
      rw [if_pos e]
      exact hu
    · refine v_ifn (by rw [iA_eq]; omega) (v_ifp (v_in.mpr (by omega)) (v_ifn (n_abs0 hv hx (by omega) (by omega) e) ?_))
      rw [n_k hv, hd j hj]
      refine v_l (v_l1 (v_il ⟨?_, n_s3 hv (by omega)⟩))
      show u + _ = if j = c then z_ds c dg j else z_ds c dg j + (Int32.ofNat (dg j) * 100) / mm_abs (Int32.ofNat j - Int32.ofNat c)
      rw [if_neg e, hu, n_0L (j := j) (by omega) hv, n_0L (j := c) (by omega) hx]
  · rintro ⟨u, v⟩ ⟨hu, hv⟩
    dsimp only at hu hv ⊢
    exact v_ifp (by rw [iA_le]; omega) (v_ir hu)
theorem r_dist {m : mm_M} {n c : Nat} {a x : Int32} {dg : Nat → Nat} (ha : a.toInt = (n : Int)) (hn : n ≤ 4) (hx : x.toInt = (c : Int)) (hc : c < n) (hd : ∀ i, i < n → m 110 0 i = Int32.ofNat (dg i)) : f_X12_disturbed x a m = some (z_ds c dg n) := by
  apply v_is
  unfold f_X12_disturbed
  refine v_s1 (P := fun r => r = z_ds c dg n) ?_ (fun r h => v_so h)
  refine v_for (fun j q => q.1 = z_ds c dg j ∧ q.2.toInt = (j : Int)) 0 n (Nat.zero_le _) (by omega) ⟨rfl, i_0⟩ ?_ ?_
  · rintro j ⟨u, v⟩ hj ⟨hu, hv⟩
    dsimp only at hu hv ⊢
    refine v_ifn (by rw [iA_le]; omega) ?_
    by_cases e : j = c
    · refine v_ifp (by rw [iA_eq]; omega) (v_l1 (v_il ⟨?_, n_s3 hv (by omega)⟩))
      show u = if j = c then z_ds c dg j else _
      rw [if_pos e]
      exact hu
    · refine v_ifn (by rw [iA_eq]; omega) (v_ifp (v_in.mpr (by omega)) (v_ifn (n_abs0 hv hx (by omega) (by omega) e) ?_))
      rw [n_k hv, hd j hj]
      refine v_l (v_l1 (v_il ⟨?_, n_s3 hv (by omega)⟩))
      show u + _ = if j = c then z_ds c dg j else z_ds c dg j + (Int32.ofNat (dg j) * 100) / mm_abs (Int32.ofNat j - Int32.ofNat c)
      rw [if_neg e, hu, n_0L (j := j) (by omega) hv, n_0L (j := c) (by omega) hx]
  · rintro ⟨u, v⟩ ⟨hu, hv⟩
    dsimp only at hu hv ⊢
    exact v_ifp (by rw [iA_le]; omega) (v_ir hu)
theorem c_least {m : mm_M} {n : Nat} {a : Int32} {dg : Nat → Nat} {M : Nat → Nat → Int32} (ha : a.toInt = (n : Int)) (hn : n ≤ 4) (hd : ∀ i, i < n → m 50 0 i = Int32.ofNat (dg i)) (hd8 : ∀ i, dg i < 8) (hM : ∀ i d, i < n → d < 8 → m 49 i d = M i d) : f_X2_leastMargin a m = some (z_lm n M dg n) := by
  apply v_is
  unfold f_X2_leastMargin
  refine v_s1 (P := fun r => r = z_lm n M dg n) ?_ (fun r h => v_so h)
  refine v_for (fun j q => q.1 = z_lm n M dg j ∧ q.2.toInt = (j : Int)) 0 n (Nat.zero_le _) (by omega) ⟨rfl, i_0⟩ ?_ ?_
  · rintro j ⟨u, v⟩ hj ⟨hu, hv⟩
    dsimp only at hu hv ⊢
    have iv : mm_in v 4 := v_in.mpr (by omega)
    have h8 := hd8 j
    refine v_ifn (by rw [iA_le]; omega) (v_ifp iv (v_lN (v_ifp iv ?_)))
    rw [n_k hv, Nat.zero_add, hd j hj]
    refine v_ifp (nJ_in h8 (by decide)) ?_
    refine v_b1e (c_dist ha hn hv hj hd) ?_
    rw [nJ_N (by omega), hM j (dg j) hj h8]
    refine v_lI (fun w hw => ?_)
    by_cases e : j = 0
    · refine v_ifn (fun z => z (by rw [iA_eq, i_0]; omega)) (v_l1 (v_il ⟨?_, n_s3 hv (by omega)⟩))
      show w = if j = 0 then _ else _
      rw [if_pos e, hw]
    · refine v_ifp (n_ne (by rw [i_0]; omega)) (v_l (v_l1 (v_il ⟨?_, n_s3 hv (by omega)⟩)))
      show mm_min u w = if j = 0 then _ else _
      rw [if_neg e, hw, hu]
  · rintro ⟨u, v⟩ ⟨hu, hv⟩
    dsimp only at hu hv ⊢
    exact v_ifp (by rw [iA_le]; omega) (v_ir hu)
theorem z_8n {n : Nat} (h : n ≤ 4) : 8 ^ n ≤ 4096 := Nat.pow_le_pow_right (by decide) h
theorem c_choose {m : mm_M} {n : Nat} {a : Int32} {M : Nat → Nat → Int32} {b : Int32 × Int32 × Nat} (ha : a.toInt = (n : Int)) (hn : n ≤ 4) (hM : ∀ i d, i < n → d < 8 → m 49 i d = M i d) (hb : z_ch n M (8 ^ n) = some b) : vW (f_X2_choose a m) (fun q => q.1 = b.1 ∧ fp [(50, none, none), (51, none, none), (8, none, some 4)] m q.2 ∧ q.2 8 0 4 = a ∧ ∀ i, i < n → q.2 51 0 i = Int32.ofNat (z_dig n b.2.2 i)) := by
  have h8 := z_8n hn
  unfold f_X2_choose
  refine v_s1 (P := fun r => r.toInt = ((8 ^ n : Nat) : Int)) ?_ ?_
  · refine v_for (fun j q => q.1.toInt = ((8 ^ j : Nat) : Int) ∧ q.2.toInt = (j : Int)) 0 n (Nat.zero_le _) (by omega) ⟨i_1, i_0⟩ ?_ ?_
    · rintro j ⟨u, v⟩ hj ⟨hu, hv⟩
      dsimp only at hu hv ⊢
      have h8j := z_8n (n := j) (by omega)
      refine v_ifn (by rw [iA_le]; omega) (v_l (v_l1 (v_il ⟨?_, n_s3 hv (by omega)⟩)))
      dsimp only
      rw [iA_mulN hu (show (8 : Int32).toInt = ((8 : Nat) : Int) by decide) (by omega), Nat.pow_succ]
    · rintro ⟨u, v⟩ ⟨hu, hv⟩
      dsimp only at hu hv ⊢
      exact v_ifp (by rw [iA_le]; omega) (v_ir hu)
  · intro v6 h6
    refine v_s1 (P := fun q => q.1 = b.1 ∧ fp [(50, none, none), (51, none, none)] m q.2 ∧ ∀ i, i < n → q.2 51 0 i = Int32.ofNat (z_dig n b.2.2 i)) ?_ ?_
    · refine v_for (fun k q => q.2.2.1.toInt = (k : Int) ∧ fp [(50, none, none), (51, none, none)] m q.2.2.2 ∧ ((z_ch n M k = none ∧ q.2.1 = -1) ∨ ∃ b, z_ch n M k = some b ∧ q.1 = b.1 ∧ q.2.1 = b.2.1 ∧ ∀ i, i < n → q.2.2.2 51 0 i = Int32.ofNat (z_dig n b.2.2 i))) 0 (8 ^ n) (Nat.zero_le _) (by omega) ⟨i_0, fp_rf, Or.inl ⟨rfl, rfl⟩⟩ ?_ ?_
      · rintro k ⟨v8, v9, v10, c⟩ hk ⟨hv, hf, hz⟩
        dsimp only at hv hf hz ⊢
        have ev : v10 = Int32.ofNat k := n_0L (by omega) hv
        refine v_ifn (by rw [iA_le]; omega) ?_
        refine v_s2 (c_trial ha hn ev (by omega)) ?_
        rintro r12 m13 ⟨h12, hf13, hd⟩
        dsimp only at h12 hf13 hd
        have hM13 : ∀ i d, i < n → d < 8 → m13 49 i d = M i d := fun i d hi hd2 => by rw [hf13 49 i d rfl, hf 49 i d rfl]; exact hM i d hi hd2
        refine v_b1e (c_least (M := M) ha hn hd (fun i => z_dig_lt) hM13) ?_
        have hf13' : fp [(50, none, none), (51, none, none)] m m13 := fp_tr hf (fp_sb (by decide) hf13)
        have kn := n_k ha
        by_cases hup : z_ch n M (k + 1) = some (z_lm n M (z_dig n k) n, z_sm k n, k)
        · refine v_lK0 ?_ (fun k15 hk15 => ?_)
          · refine v_ifp ⟨⟨by decide, by decide, by rw [iA_le, i_0]; omega⟩, by rw [kn]; omega, by rw [kn]; omega⟩ ?_
            refine v_lM (v_l1 (v_il ⟨n_s3 hv (by omega), fp_wa (fun _ => rfl) hf13', Or.inr ⟨_, hup, rfl, h12, fun i hi => ?_⟩⟩))
            dsimp only
            rw [mwa_s, kn, pk_cpy_in (Nat.zero_le _) (by omega), Nat.sub_zero, Nat.zero_add]
            exact hd i hi
          · rcases hz with ⟨hz1, h9⟩ | ⟨b0, hz1, g1, g2, g3⟩
            · exact v_ifp h9 hk15
            · have hb0 := z_ch_b hn k b0 hz1
              have hup2 := hup
              unfold z_ch at hup2
              rw [hz1] at hup2
              dsimp only at hup2
              refine v_ifn (by rw [g2]; exact n_ne (by rw [i_m1]; omega)) ?_
              by_cases e1 : b0.1 < z_lm n M (z_dig n k) n
              · exact v_ifp (by rw [g1]; exact e1) hk15
              · refine v_ifn (by rw [g1]; exact e1) ?_
                have hcond : z_lm n M (z_dig n k) n = b0.1 ∧ z_sm k n < b0.2.1 := by
                  by_cases g : b0.1 < z_lm n M (z_dig n k) n ∨ (z_lm n M (z_dig n k) n = b0.1 ∧ z_sm k n < b0.2.1)
                  · rcases g with g | g
                    · exact absurd g e1
                    · exact g
                  · rw [if_neg g] at hup2
                    have hbe := Option.some.inj hup2
                    have hlt : b0.2.2 < k := z_ch_i k b0 hz1
                    rw [hbe] at hlt
                    exact absurd hlt (Nat.lt_irrefl k)
                refine v_ifn (by rw [g1]; exact fun z => z hcond.1) ?_
                refine v_ifn (by rw [g2, h12, iA_le]; have := hcond.2; rw [iA_lt] at this; omega) hk15
        · rcases hz with ⟨hz1, h9⟩ | ⟨b0, hz1, g1, g2, g3⟩
          · exfalso
            apply hup
            unfold z_ch
            rw [hz1]
          · have hb0 := z_ch_b hn k b0 hz1
            have hng : ¬ (b0.1 < z_lm n M (z_dig n k) n ∨ (z_lm n M (z_dig n k) n = b0.1 ∧ z_sm k n < b0.2.1)) := fun g => hup (by
              unfold z_ch
              rw [hz1]
              dsimp only
              rw [if_pos g])
            have hnx : z_ch n M (k + 1) = some b0 := by
              unfold z_ch
              rw [hz1]
              dsimp only
              rw [if_neg hng]
            have keep : (v10 + 1).toInt = ((k + 1 : Nat) : Int) ∧ fp [(50, none, none), (51, none, none)] m m13 ∧ ((z_ch n M (k + 1) = none ∧ v9 = -1) ∨ ∃ b, z_ch n M (k + 1) = some b ∧ v8 = b.1 ∧ v9 = b.2.1 ∧ ∀ i, i < n → m13 51 0 i = Int32.ofNat (z_dig n b.2.2 i)) := ⟨n_s3 hv (by omega), hf13', Or.inr ⟨b0, hnx, g1, g2, fun i hi => by rw [hf13 51 0 i rfl]; exact g3 i hi⟩⟩
            refine v_lO ?_
            refine v_ifn (by rw [g2]; exact n_ne (by rw [i_m1]; omega)) ?_
            refine v_ifn (by rw [g1]; exact fun z => hng (Or.inl z)) ?_
            by_cases e1 : z_lm n M (z_dig n k) n = b0.1
            · refine v_ifn (by rw [g1]; exact fun z => z e1) ?_
              refine v_ifp (by rw [g2, h12, iA_le]; have : ¬ z_sm k n < b0.2.1 := fun z => hng (Or.inr ⟨e1, z⟩); rw [iA_lt] at this; omega) (v_l1 (v_il keep))
            · exact v_ifp (by rw [g1]; exact e1) (v_l1 (v_il keep))
      · rintro ⟨v8, v9, v10, c⟩ ⟨hv, hf, hz⟩
        dsimp only at hv hf hz ⊢
        refine v_ifp (by rw [iA_le]; omega) (v_ir ?_)
        rcases hz with ⟨hz1, _⟩ | ⟨b0, hz1, g1, g2, g3⟩
        · rw [hb] at hz1
          cases hz1
        · rw [hb] at hz1
          cases hz1
          exact ⟨g1, hf, g3⟩
    · rintro ⟨v20, m21⟩ ⟨h20, hf, hz⟩
      dsimp only at h20 hf hz ⊢
      refine v_lM (v_so ⟨h20, fp_w rfl (fp_sb (by decide) hf), by dsimp only; exact mw_s, fun i hi => ?_⟩)
      dsimp only
      rw [mw_g (by decide)]
      exact hz i hi
