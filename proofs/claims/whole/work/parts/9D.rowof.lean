/-! rows of echoes: a step is put in; rowOf, seen -/
def c_fr (i : Nat) (m r : mm_M) : Prop := ∀ g j k, ¬ (j = i ∧ (g = 41 ∨ g = 42 ∨ g = 43 ∨ (g = 6 ∧ k = 3))) → r g j k = m g j k
theorem z_tf {b : Bool} {P : Prop} (h1 : b = true) (h2 : b = false) : P := by
  rw [h1] at h2
  cases h2
theorem c_fr0 {m r : mm_M} (h : c_fr 0 m r) : fp [(6, some 0, some 3), (41, some 0, none), (42, some 0, none), (43, some 0, none)] m r := fun g i k hz => h g i k (fun z => by
  obtain ⟨rfl, rfl | rfl | rfl | ⟨rfl, rfl⟩⟩ := z
  · exact z_tf rfl hz
  · exact z_tf rfl hz
  · exact z_tf rfl hz
  · exact z_tf rfl hz)
theorem c_fr1 {m r : mm_M} (h : c_fr 1 m r) : fp [(6, some 1, some 3), (41, some 1, none), (42, some 1, none), (43, some 1, none)] m r := fun g i k hz => h g i k (fun z => by
  obtain ⟨rfl, rfl | rfl | rfl | ⟨rfl, rfl⟩⟩ := z
  · exact z_tf rfl hz
  · exact z_tf rfl hz
  · exact z_tf rfl hz
  · exact z_tf rfl hz)
theorem c_fr2 {m r : mm_M} (h : c_fr 2 m r) : fp [(6, some 2, some 3), (41, some 2, none), (42, some 2, none), (43, some 2, none)] m r := fun g i k hz => h g i k (fun z => by
  obtain ⟨rfl, rfl | rfl | rfl | ⟨rfl, rfl⟩⟩ := z
  · exact z_tf rfl hz
  · exact z_tf rfl hz
  · exact z_tf rfl hz
  · exact z_tf rfl hz)
theorem c_frt {i : Nat} {m1 m2 m3 : mm_M} (h1 : c_fr i m1 m2) (h2 : c_fr i m2 m3) : c_fr i m1 m3 := fun g j k h => (h2 g j k h).trans (h1 g j k h)
theorem c_frr {i : Nat} {m : mm_M} : c_fr i m m := fun _ _ _ _ => rfl
theorem c_frw {i g k : Nat} {m m1 : mm_M} {x : Int32} (h : g = 41 ∨ g = 42 ∨ g = 43 ∨ (g = 6 ∧ k = 3)) (h1 : c_fr i m m1) : c_fr i m (mm_w m1 g i k x) := fun g' i' k' h' => by
  rw [mw_get, if_neg (fun z => h' ⟨z.2.1, by rw [z.1, z.2.2]; exact h⟩)]
  exact h1 g' i' k' h'
/-- what lies at k once x is put in at p -/
def z_put (f : Nat → Int32) (p : Nat) (x : Int32) (k : Nat) : Int32 := if k < p then f k else if k = p then x else f (k - 1)
theorem c_ins {m : mm_M} {i n p : Nat} {P a b s : Int32} (hn : m 6 i 3 = Int32.ofNat n) (h48 : n ≤ 48) (hP : P.toInt = (p : Int)) (hp : p ≤ n) : vW (f_X5_insert i P a b s m) (fun r => c_fr i m r ∧ r 6 i 3 = Int32.ofNat (n + 1) ∧ ∀ k, k ≤ n → r 41 i k = z_put (m 41 i) p a k ∧ r 42 i k = z_put (m 42 i) p b k ∧ r 43 i k = z_put (m 43 i) p s k) := by
  unfold f_X5_insert
  refine v_ifp (by rw [hn, iA_lt, nJ_T (by omega), show (49 : Int32).toInt = 49 by decide]; omega) ?_
  refine v_lI (fun w hw => ?_)
  have ew : w.toInt = (n : Int) := by rw [hw, hn, nJ_T (by omega)]
  clear hw
  have iP : mm_in P 49 := v_in.mpr (by omega)
  have kP := n_k hP
  refine v_s1 (P := fun c => c_fr i m c ∧ c 6 i 3 = Int32.ofNat n ∧ ∀ k, k ≤ n → (c 41 i k = if p < k then m 41 i (k - 1) else m 41 i k) ∧ (c 42 i k = if p < k then m 42 i (k - 1) else m 42 i k) ∧ (c 43 i k = if p < k then m 43 i (k - 1) else m 43 i k)) ?_ ?_
  · refine v_for (fun j q => q.1.toInt = ((n - j : Nat) : Int) ∧ c_fr i m q.2 ∧ q.2 6 i 3 = Int32.ofNat n ∧ ∀ k, k ≤ n → (q.2 41 i k = if n - j < k then m 41 i (k - 1) else m 41 i k) ∧ (q.2 42 i k = if n - j < k then m 42 i (k - 1) else m 42 i k) ∧ (q.2 43 i k = if n - j < k then m 43 i (k - 1) else m 43 i k)) 0 (n - p) (Nat.zero_le _) (by omega) ⟨ew, c_frr, hn, fun k hk => ⟨by rw [if_neg (by omega)], by rw [if_neg (by omega)], by rw [if_neg (by omega)]⟩⟩ ?_ ?_
    · rintro j ⟨v, c⟩ hj ⟨hv, hf, h6, hz⟩
      dsimp only at hv hf h6 hz ⊢
      obtain ⟨u, hu⟩ : ∃ u, n - j = u + 1 := ⟨n - j - 1, by omega⟩
      rw [hu] at hv hz
      have hv1 := n_s1 hv
      have hv2 := n_s2 hv
      have i1 : mm_in (v - 1) 49 := v_in.mpr (by omega)
      have i2 : mm_in v 49 := v_in.mpr (by omega)
      refine v_ifn (by rw [iA_le]; omega) ?_
      refine v_ifp i1 (v_ifp i2 (v_lM ?_))
      refine v_ifp i1 (v_ifp i2 (v_lM ?_))
      refine v_ifp i1 (v_ifp i2 (v_lM ?_))
      refine v_l (v_il ?_)
      rw [n_k hv, n_k hv1]
      refine ⟨?_, ?_, ?_, fun k hk => ?_⟩
      · rw [show n - (j + 1) = u by omega]
        exact hv2
      · exact c_frw (Or.inr (Or.inr (Or.inl rfl))) (c_frw (Or.inr (Or.inl rfl)) (c_frw (Or.inl rfl) hf))
      · dsimp only
        rw [mw_g (by decide), mw_g (by decide), mw_g (by decide)]
        exact h6
      · dsimp only
        rw [show n - (j + 1) = u by omega]
        obtain ⟨z1, z2, z3⟩ := hz k hk
        obtain ⟨y1, y2, y3⟩ := hz u (by omega)
        rw [if_neg (by omega)] at y1 y2 y3
        by_cases e : k = u + 1
        · subst e
          rw [if_pos (by omega), if_pos (by omega), if_pos (by omega), Nat.add_sub_cancel]
          refine ⟨?_, ?_, ?_⟩
          · rw [mw_g (by decide), mw_g (by decide), mw_s]
            exact y1
          · rw [mw_g (by decide), mw_s, mw_g (by decide)]
            exact y2
          · rw [mw_s, mw_g (by decide), mw_g (by decide)]
            exact y3
        · rw [mw_g (by decide), mw_g (by decide), mw_k e, mw_g (by decide), mw_k e, mw_g (by decide), mw_k e, mw_g (by decide), mw_g (by decide), z1, z2, z3]
          by_cases e2 : u + 1 < k
          · rw [if_pos e2, if_pos (by omega), if_pos e2, if_pos (by omega), if_pos e2, if_pos (by omega)]
            exact ⟨rfl, rfl, rfl⟩
          · rw [if_neg e2, if_neg (by omega), if_neg e2, if_neg (by omega), if_neg e2, if_neg (by omega)]
            exact ⟨rfl, rfl, rfl⟩
    · rintro ⟨v, c⟩ ⟨hv, hf, h6, hz⟩
      dsimp only at hv hf h6 hz ⊢
      rw [show n - (n - p) = p by omega] at hv hz
      refine v_ifp (by rw [iA_le]; omega) ?_
      exact v_ir ⟨hf, h6, hz⟩
  · rintro c ⟨hf, h6, hz⟩
    refine v_ifp iP (v_lM ?_)
    refine v_ifp iP (v_lM ?_)
    refine v_ifp iP (v_lM ?_)
    rw [kP]
    refine v_lM (v_so ?_)
    rw [mw_g (show 6 ≠ 43 by decide), mw_g (show 6 ≠ 42 by decide), mw_g (show 6 ≠ 41 by decide), h6, n_a1]
    refine ⟨c_frw (Or.inr (Or.inr (Or.inr ⟨rfl, rfl⟩))) (c_frw (Or.inr (Or.inr (Or.inl rfl))) (c_frw (Or.inr (Or.inl rfl)) (c_frw (Or.inl rfl) hf))), mw_s, fun k hk => ?_⟩
    obtain ⟨z1, z2, z3⟩ := hz k hk
    unfold z_put
    by_cases e : k = p
    · subst e
      rw [if_neg (by omega), if_pos rfl, if_neg (by omega), if_pos rfl, if_neg (by omega), if_pos rfl]
      refine ⟨?_, ?_, ?_⟩
      · rw [mw_g (by decide), mw_g (by decide), mw_g (by decide), mw_s]
      · rw [mw_g (by decide), mw_g (by decide), mw_s]
      · rw [mw_g (by decide), mw_s]
    · rw [mw_g (by decide), mw_g (by decide), mw_g (by decide), mw_k e, mw_g (by decide), mw_g (by decide), mw_k e, mw_g (by decide), mw_g (by decide), mw_k e, mw_g (by decide), mw_g (by decide), z1, z2, z3]
      by_cases e2 : k < p
      · rw [if_neg (by omega), if_pos e2, if_neg (by omega), if_pos e2, if_neg (by omega), if_pos e2]
        exact ⟨rfl, rfl, rfl⟩
      · rw [if_pos (by omega), if_neg e2, if_neg e, if_pos (by omega), if_neg e2, if_neg e, if_pos (by omega), if_neg e2, if_neg e]
        exact ⟨rfl, rfl, rfl⟩
/-- put in at the end -/
theorem c_insE {m : mm_M} {i n : Nat} {P a b s : Int32} (hn : m 6 i 3 = Int32.ofNat n) (h48 : n ≤ 48) (hP : P.toInt = (n : Int)) : vW (f_X5_insert i P a b s m) (fun r => c_fr i m r ∧ r 6 i 3 = Int32.ofNat (n + 1) ∧ (∀ k, k < n → r 41 i k = m 41 i k ∧ r 42 i k = m 42 i k ∧ r 43 i k = m 43 i k) ∧ r 41 i n = a ∧ r 42 i n = b ∧ r 43 i n = s) := v_mono (c_ins hn h48 hP (Nat.le_refl n)) (fun r ⟨h1, h2, h3⟩ => by
  refine ⟨h1, h2, fun k hk => ?_, ?_⟩
  · obtain ⟨z1, z2, z3⟩ := h3 k (by omega)
    unfold z_put at z1 z2 z3
    rw [if_pos hk] at z1 z2 z3
    exact ⟨z1, z2, z3⟩
  · obtain ⟨z1, z2, z3⟩ := h3 n (Nat.le_refl n)
    unfold z_put at z1 z2 z3
    rw [if_neg (Nat.lt_irrefl n), if_pos rfl] at z1 z2 z3
    exact ⟨z1, z2, z3⟩)
/-- a row is taken over -/
theorem c_over {m : mm_M} {i n : Nat} (hi : ¬ i = 0) (hn : m 6 0 3 = Int32.ofNat n) (h49 : n ≤ 49) : vW (f_X5_takeOver i 0 m) (fun r => c_fr i m r ∧ r 6 i 3 = Int32.ofNat n ∧ ∀ k, k < n → r 41 i k = m 41 0 k ∧ r 42 i k = m 42 0 k ∧ r 43 i k = m 43 0 k) := by
  unfold f_X5_takeOver
  refine v_lM ?_
  refine v_s1 (P := fun c => c_fr i m c ∧ c 6 i 3 = Int32.ofNat n ∧ ∀ k, k < n → c 41 i k = m 41 0 k ∧ c 42 i k = m 42 0 k ∧ c 43 i k = m 43 0 k) ?_ (fun c h => v_so h)
  refine v_for (fun j q => q.1.toInt = (j : Int) ∧ c_fr i m q.2 ∧ q.2 6 i 3 = Int32.ofNat j ∧ ∀ k, k < j → q.2 41 i k = m 41 0 k ∧ q.2 42 i k = m 42 0 k ∧ q.2 43 i k = m 43 0 k) 0 n (Nat.zero_le _) (by omega) ⟨i_0, c_frw (Or.inr (Or.inr (Or.inr ⟨rfl, rfl⟩))) c_frr, mw_s, fun k hk => absurd hk (Nat.not_lt_zero k)⟩ ?_ ?_
  · rintro j ⟨v, c⟩ hj ⟨hv, hf, h6, hz⟩
    dsimp only at hv hf h6 hz ⊢
    have e6 : c 6 0 3 = Int32.ofNat n := (hf 6 0 3 (fun z => hi z.1.symm)).trans hn
    have iv : mm_in v 49 := v_in.mpr (by omega)
    refine v_ifn (by rw [e6, iA_le, nJ_T (by omega)]; omega) ?_
    refine v_ifp iv (v_ifp iv (v_ifp iv ?_))
    rw [n_k hv]
    refine v_s1 (c_insE h6 (by omega) hv) ?_
    rintro r ⟨r1, r2, r3, r4, r5, r6⟩
    refine v_l1 (v_il ⟨n_s3 hv (by omega), c_frt hf r1, r2, fun k hk => ?_⟩)
    dsimp only
    by_cases e : k = j
    · rw [e, r4, r5, r6, hf 41 0 j (fun z => hi z.1.symm), hf 42 0 j (fun z => hi z.1.symm), hf 43 0 j (fun z => hi z.1.symm)]
      exact ⟨rfl, rfl, rfl⟩
    · obtain ⟨y1, y2, y3⟩ := r3 k (by omega)
      rw [y1, y2, y3]
      exact hz k (by omega)
  · rintro ⟨v, c⟩ ⟨hv, hf, h6, hz⟩
    dsimp only at hv hf h6 hz ⊢
    have e6 : c 6 0 3 = Int32.ofNat n := (hf 6 0 3 (fun z => hi z.1.symm)).trans hn
    refine v_ifp (by rw [e6, iA_le, nJ_T (by omega)]; omega) ?_
    exact v_ir ⟨hf, h6, hz⟩
/-- what a row on a sheet must be -/
def z_gd (X : Nat → Int32) (j : Nat) : Prop := 0 ≤ (X (3 * j)).toInt ∧ 0 ≤ (X (3 * j + 1)).toInt ∧ 0 ≤ (X (3 * j + 2)).toInt ∧ (X (3 * j + 2)).toInt ≤ 4 ∧ (0 < j → (X (3 * (j - 1))).toInt ≤ (X (3 * j)).toInt)
theorem c_tells {m : mm_M} {s p n : Nat} {P N : Int32} (hP : P.toInt = (p : Int)) (hN : N.toInt = (n : Int)) (hn : p + 3 * n ≤ 24) : vW (f_X7_tellsRow s P N m) (fun r => (r = 1 ∧ ∀ j, j < n → z_gd (fun k => m 63 s (p + k)) j) ∨ (r = 0 ∧ ∃ j, j < n ∧ ¬ z_gd (fun k => m 63 s (p + k)) j)) := by
  unfold f_X7_tellsRow
  refine v_s1 (P := fun t => (t = .inr () ∧ ∀ j, j < n → z_gd (fun k => m 63 s (p + k)) j) ∨ (t = .inl () ∧ ∃ j, j < n ∧ ¬ z_gd (fun k => m 63 s (p + k)) j)) ?_ ?_
  · refine v_for (fun j q => q.2.toInt = (j : Int) ∧ (q.1.toInt = if 0 < j then (m 63 s (p + 3 * (j - 1))).toInt else 0) ∧ 0 ≤ q.1.toInt ∧ ∀ k, k < j → z_gd (fun k => m 63 s (p + k)) k) 0 n (Nat.zero_le _) (by omega) ⟨i_0, by rw [if_neg (by omega)]; exact i_0, by rw [i_0]; exact Int.le_refl _, fun k hk => absurd hk (Nat.not_lt_zero k)⟩ ?_ ?_
    · rintro j ⟨u, v⟩ hj ⟨hv, hu, hu0, hz⟩
      dsimp only at hv hu hu0 hz ⊢
      have hv3 : (v * 3).toInt = ((j * 3 : Nat) : Int) := iA_mulN hv (show (3 : Int32).toInt = ((3 : Nat) : Int) by decide) (by omega)
      have hx0 : (P + v * 3).toInt = ((p + 3 * j : Nat) : Int) := by rw [iA_addN hP hv3 (by omega)]; omega
      refine v_ifn (by rw [iA_le]; omega) ?_
      refine v_lI (fun x hx => ?_)
      rw [← hx] at hx0
      clear hx
      have hx1 : (x + 1).toInt = ((p + 3 * j + 1 : Nat) : Int) := iA_addN hx0 (show (1 : Int32).toInt = ((1 : Nat) : Int) by decide) (by omega)
      have hx2 : (x + 2).toInt = ((p + 3 * j + 2 : Nat) : Int) := iA_addN hx0 (show (2 : Int32).toInt = ((2 : Nat) : Int) by decide) (by omega)
      refine v_ifp (v_in.mpr (by omega)) ?_
      refine v_lI (fun y hy => ?_)
      rw [n_k hx0] at hy
      refine v_ifp (v_in.mpr (by omega)) ?_
      refine v_lI (fun z hz2 => ?_)
      rw [n_k hx2] at hz2
      have bad : ¬ z_gd (fun k => m 63 s (p + k)) j → (Sum.inl () : Unit ⊕ Unit) = .inl () ∧ ∃ j, j < n ∧ ¬ z_gd (fun k => m 63 s (p + k)) j := fun h => ⟨rfl, j, hj, h⟩
      have eg : z_gd (fun k => m 63 s (p + k)) j ↔ 0 ≤ y.toInt ∧ 0 ≤ (m 63 s (p + 3 * j + 1)).toInt ∧ 0 ≤ z.toInt ∧ z.toInt ≤ 4 ∧ (0 < j → (m 63 s (p + 3 * (j - 1))).toInt ≤ y.toInt) := by
        rw [hy, hz2]
        exact Iff.rfl
      by_cases g1 : y.toInt < u.toInt
      · refine v_ifp (by rw [iA_lt]; exact g1) (v_ir (Or.inr (bad ?_)))
        rw [eg]
        intro g
        by_cases hj0 : 0 < j
        · rw [if_pos hj0] at hu
          have := g.2.2.2.2 hj0
          omega
        · rw [if_neg hj0] at hu
          have := g.1
          omega
      refine v_ifn (by rw [iA_lt]; exact g1) ?_
      refine v_ifp (v_in.mpr (by omega)) ?_
      by_cases g2 : (m 63 s (p + 3 * j + 1)).toInt < 0
      · refine v_ifp (by rw [n_k hx1, iA_lt, i_0]; exact g2) (v_ir (Or.inr (bad ?_)))
        rw [eg]
        intro g
        have := g.2.1
        omega
      refine v_ifn (by rw [n_k hx1, iA_lt, i_0]; exact g2) ?_
      by_cases g3 : z.toInt < 0
      · refine v_ifp (by rw [iA_lt, i_0]; exact g3) (v_ir (Or.inr (bad ?_)))
        rw [eg]
        intro g
        have := g.2.2.1
        omega
      refine v_ifn (by rw [iA_lt, i_0]; exact g3) ?_
      by_cases g4 : z.toInt ≤ 4
      · refine v_ifp (by rw [iA_le, show (4 : Int32).toInt = 4 by decide]; exact g4) ?_
        refine v_l1 (v_il ⟨n_s3 hv (by omega), ?_, by dsimp only; omega, fun k hk => ?_⟩)
        · dsimp only
          rw [if_pos (by omega), Nat.add_sub_cancel, hy]
        · by_cases e : k = j
          · rw [e, eg]
            refine ⟨by omega, by omega, by omega, g4, fun hj0 => ?_⟩
            rw [if_pos hj0] at hu
            omega
          · exact hz k (by omega)
      · refine v_ifn (by rw [iA_le, show (4 : Int32).toInt = 4 by decide]; exact g4) (v_ir (Or.inr (bad ?_)))
        rw [eg]
        intro g
        have := g.2.2.2.1
        omega
    · rintro ⟨u, v⟩ ⟨hv, hu, hu0, hz⟩
      dsimp only at hv hu hu0 hz ⊢
      exact v_ifp (by rw [iA_le]; omega) (v_ir (Or.inl ⟨rfl, hz⟩))
  · rintro t (⟨rfl, h⟩ | ⟨rfl, h⟩)
    · exact v_so (Or.inl ⟨rfl, h⟩)
    · exact v_so (Or.inr ⟨rfl, h⟩)
theorem c_read {m : mm_M} {s p n : Nat} {P N : Int32} (hP : P.toInt = (p : Int)) (hN : N.toInt = (n : Int)) (hn : p + 3 * n ≤ 24) : vW (f_X5_readFrom 0 s P N m) (fun r => c_fr 0 m r ∧ r 6 0 3 = Int32.ofNat n ∧ ∀ k, k < n → r 41 0 k = m 63 s (p + 3 * k) ∧ r 42 0 k = m 63 s (p + 3 * k + 1) ∧ r 43 0 k = m 63 s (p + 3 * k + 2)) := by
  unfold f_X5_readFrom
  refine v_lM ?_
  refine v_s1 (P := fun c => c_fr 0 m c ∧ c 6 0 3 = Int32.ofNat n ∧ ∀ k, k < n → c 41 0 k = m 63 s (p + 3 * k) ∧ c 42 0 k = m 63 s (p + 3 * k + 1) ∧ c 43 0 k = m 63 s (p + 3 * k + 2)) ?_ (fun c h => v_so h)
  refine v_for (fun j q => q.1.toInt = (j : Int) ∧ c_fr 0 m q.2 ∧ q.2 6 0 3 = Int32.ofNat j ∧ ∀ k, k < j → q.2 41 0 k = m 63 s (p + 3 * k) ∧ q.2 42 0 k = m 63 s (p + 3 * k + 1) ∧ q.2 43 0 k = m 63 s (p + 3 * k + 2)) 0 n (Nat.zero_le _) (by omega) ⟨i_0, c_frw (Or.inr (Or.inr (Or.inr ⟨rfl, rfl⟩))) c_frr, mw_s, fun k hk => absurd hk (Nat.not_lt_zero k)⟩ ?_ ?_
  · rintro j ⟨v, c⟩ hj ⟨hv, hf, h6, hz⟩
    dsimp only at hv hf h6 hz ⊢
    have hv3 : (v * 3).toInt = ((j * 3 : Nat) : Int) := iA_mulN hv (show (3 : Int32).toInt = ((3 : Nat) : Int) by decide) (by omega)
    have hx0 : (P + v * 3).toInt = ((p + 3 * j : Nat) : Int) := by rw [iA_addN hP hv3 (by omega)]; omega
    refine v_ifn (by rw [iA_le]; omega) ?_
    refine v_lI (fun x hx => ?_)
    rw [← hx] at hx0
    clear hx
    have hx1 : (x + 1).toInt = ((p + 3 * j + 1 : Nat) : Int) := iA_addN hx0 (show (1 : Int32).toInt = ((1 : Nat) : Int) by decide) (by omega)
    have hx2 : (x + 2).toInt = ((p + 3 * j + 2 : Nat) : Int) := iA_addN hx0 (show (2 : Int32).toInt = ((2 : Nat) : Int) by decide) (by omega)
    refine v_ifp (v_in.mpr (by omega)) ?_
    refine v_ifp (v_in.mpr (by omega)) ?_
    refine v_ifp (v_in.mpr (by omega)) ?_
    rw [n_k hx0, n_k hx1, n_k hx2]
    refine v_s1 (c_insE h6 (by omega) hv) ?_
    rintro r ⟨r1, r2, r3, r4, r5, r6⟩
    refine v_l1 (v_il ⟨n_s3 hv (by omega), c_frt hf r1, r2, fun k hk => ?_⟩)
    dsimp only
    have e63 : ∀ k, c 63 s k = m 63 s k := fun k => hf 63 s k (fun z => by
      rcases z.2 with h | h | h | h
      · cases h
      · cases h
      · cases h
      · cases h.1)
    by_cases e : k = j
    · rw [e, r4, r5, r6, e63, e63, e63]
      exact ⟨rfl, rfl, rfl⟩
    · obtain ⟨y1, y2, y3⟩ := r3 k (by omega)
      rw [y1, y2, y3]
      exact hz k (by omega)
  · rintro ⟨v, c⟩ ⟨hv, hf, h6, hz⟩
    dsimp only at hv hf h6 hz ⊢
    refine v_ifp (by rw [iA_le]; omega) ?_
    exact v_ir ⟨hf, h6, hz⟩
theorem o_36 : q_Sim qJ 36 := fun m a hJ hop => by
  have hJ0 := hJ
  obtain ⟨hday, hfault, hdead, hstr, htap, hlaw, hev, hrow, hinq, hfound, hlamps, hnet, htsk, hdl, halo, hshe⟩ := hJ
  have hshe0 := hshe
  obtain ⟨S, hS8, hS1, hS2, hss, hsf⟩ := hshe
  have hshe := hshe0
  have h99 : mm_w m 12 0 3 0 12 0 99 = Int32.ofNat S := (w3 (by decide)).trans hS2
  have non : ∀ x, f_X11_rowOf (a 1) (a 2) (a 3) m = some (.inr (x, m)) → f_X12_rowOf (a 1) (a 2) (a 3) m = some (x, mm_w m 12 0 3 0) → ∃ mC mM, q_To m a mC mM ∧ qJ mC mM := fun x eC eM => ⟨_, _, t_op36 hop eC eM (thrown_eq _) (fun e9 h => by cases h) (fun t h => by cases h; exact ⟨mw_s, rfl⟩), qJ_3 fp_30 hJ0⟩
  rcases z_arg (a 1) S (by omega) with ⟨s, hs, ha1⟩ | ha1
  · have cs : f_X11_sheetOf (a 1) m = some (.inr s) := by rw [ha1]; exact c_sht hS1 hS8 hs
    have rs : f_X12_isSheet (a 1) (mm_w m 12 0 3 0) = some 1 := by rw [ha1]; exact r_sht h99 hS8 hs
    have ta1 : (a 1).toInt = (s : Int) := by rw [ha1, nJ_T (by omega)]
    clear ha1
    have k1 := n_k ta1
    have i1 : mm_in (a 1) 8 := v_in.mpr (by omega)
    by_cases h3 : 0 ≤ (a 3).toInt ∧ (a 3).toInt ≤ 8
    · have g1 : ¬ a 3 < 0 := by rw [iA_lt, i_0]; omega
      have g2 : a 3 ≤ 8 := by rw [iA_le, i_8]; omega
      have r3 : f_X12_isIn (a 3) 0 8 (mm_w m 12 0 3 0) = some 1 := r_is1 (by rw [i_0, i_8]; exact h3)
      obtain ⟨n, hn⟩ : ∃ n : Nat, (a 3).toInt = (n : Int) := ⟨(a 3).toInt.toNat, by omega⟩
      have hn3 : (a 3 * 3).toInt = ((3 * n : Nat) : Int) := by rw [iA_mulN hn (show (3 : Int32).toInt = ((3 : Nat) : Int) by decide) (by omega)]; omega
      have h3n : (3 * a 3).toInt = ((3 * n : Nat) : Int) := iA_mulN (show (3 : Int32).toInt = ((3 : Nat) : Int) by decide) hn (by omega)
      obtain ⟨⟨x, hx3, hx1, hx2⟩, ⟨hl, hl1, hl2⟩, hk⟩ := hss s hs
      have w1 : mm_w m 12 0 3 0 130 0 s = m 11 s 2 := (w3 (fun z => by cases z.1)).trans hl.symm
      rcases z_len hl1 hl2 with hL | ⟨L, hL24, hL⟩
      · refine non 1 (v_is ?_) (v_is ?_)
        · unfold f_X11_rowOf
          refine v_bxe cs ?_
          refine v_ifn g1 (v_ifp g2 ?_)
          exact v_ifn (fun z => z hL) (v_so rfl)
        · unfold f_X12_rowOf
          refine v_lM ?_
          refine v_b1e rs (v_ifp (by decide) ?_)
          refine v_b1e r3 (v_ifp (by decide) ?_)
          refine v_ifp i1 ?_
          exact v_ifn (by rw [k1, w1, hL]; decide) (v_so rfl)
      · have nL : ¬ m 11 s 2 = -1 := by rw [hL]; exact n_m1 (by omega)
        have v1 : 0 ≤ mm_w m 12 0 3 0 130 0 (a 1).toNatClampNeg := by rw [k1, w1, hL, iA_le, i_0, nJ_T (by omega)]; omega
        by_cases gp : 0 ≤ (a 2).toInt ∧ (a 2).toInt + (3 * n : Nat) ≤ (L : Int)
        · have cp : f_X7_hasPart s (a 2) (a 3 * 3) m = some 1 := by rw [c_hp hL hL24, if_pos (by omega)]
          have rp : f_X12_hasPart (a 1) (a 2) (3 * a 3) (mm_w m 12 0 3 0) = some 1 := by rw [r_hp ta1 (by omega) (w1.trans hL) hL24, if_pos (by omega)]
          obtain ⟨p, hp⟩ : ∃ p : Nat, (a 2).toInt = (p : Int) := ⟨(a 2).toInt.toNat, by omega⟩
          have hix : (24 * a 1 + a 2).toInt = ((24 * s + p : Nat) : Int) := z_ixg ta1 hp (by omega) (by omega)
          have w131 : ∀ k, k < 24 → mm_w m 12 0 3 0 131 0 (24 * s + k) = m 63 s k := fun k hk2 => (w3 (fun z => by cases z.1)).trans (hk k hk2).symm
          by_cases hg : ∀ j, j < n → z_gd (fun k => m 63 s (p + k)) j
          · have eC : vW (f_X11_rowOf (a 1) (a 2) (a 3) m) (fun q => ∃ r, q = .inr (0, r) ∧ c_fr 0 m r ∧ r 6 0 3 = Int32.ofNat n ∧ ∀ k, k < n → r 41 0 k = m 63 s (p + 3 * k) ∧ r 42 0 k = m 63 s (p + 3 * k + 1) ∧ r 43 0 k = m 63 s (p + 3 * k + 2)) := by
              unfold f_X11_rowOf
              refine v_bxe cs ?_
              refine v_ifn g1 (v_ifp g2 ?_)
              refine v_ifp nL ?_
              refine v_b1e cp (v_ifp (by decide) ?_)
              refine v_s1 (c_tells hp hn (by omega)) ?_
              rintro r (⟨rfl, _⟩ | ⟨_, j, hj, hb⟩)
              · refine v_ifp (by decide) ?_
                refine v_s1 (c_read hp hn (by omega)) ?_
                exact fun r h => v_so ⟨r, rfl, h⟩
              · exact absurd (hg j hj) hb
            have eM : vW (f_X12_rowOf (a 1) (a 2) (a 3) m) (fun q => q.1 = 0 ∧ fp [(12, none, some 3), (12, none, some 46), (12, none, some 57), (98, none, none), (99, none, none), (100, none, none)] m q.2 ∧ q.2 12 0 3 = 0 ∧ q.2 12 0 46 = 1 ∧ q.2 12 0 57 = Int32.ofNat n ∧ ∀ k, k < n → q.2 98 0 k = m 63 s (p + 3 * k) ∧ q.2 99 0 k = m 63 s (p + 3 * k + 1) ∧ q.2 100 0 k = m 63 s (p + 3 * k + 2)) := by
              unfold f_X12_rowOf
              refine v_lM ?_
              refine v_b1e rs (v_ifp (by decide) ?_)
              refine v_b1e r3 (v_ifp (by decide) ?_)
              refine v_ifp i1 ?_
              refine v_ifp v1 ?_
              refine v_b1e rp (v_ifp (by decide) ?_)
              generalize 24 * a 1 + a 2 = b1 at hix ⊢
              generalize hm1 : mm_w m 12 0 3 0 = m1 at w131 ⊢
              have f1 : fp [(12, none, some 3)] m m1 := by rw [← hm1]; exact fp_30
              have t1 : m1 12 0 3 = 0 := by rw [← hm1, mw_s]
              clear v1 rp rs r3 w1 h99 hm1 non cs cp
              refine v_s1 (P := fun t => t = .inr ()) ?_ ?_
              · refine v_for (fun j v => v.toInt = (j : Int)) 0 n (Nat.zero_le _) (by omega) i_0 ?_ ?_
                · rintro j v hj hv
                  have hv3 : (3 * v).toInt = ((3 * j : Nat) : Int) := iA_mulN (show (3 : Int32).toInt = ((3 : Nat) : Int) by decide) hv (by omega)
                  have hx0 : (b1 + 3 * v).toInt = ((24 * s + p + 3 * j : Nat) : Int) := iA_addN hix hv3 (by omega)
                  refine v_ifn (by rw [iA_le]; omega) ?_
                  refine v_lI (fun x hx => ?_)
                  rw [← hx] at hx0
                  clear hx
                  have hx1 : (x + 1).toInt = ((24 * s + p + 3 * j + 1 : Nat) : Int) := iA_addN hx0 (show (1 : Int32).toInt = ((1 : Nat) : Int) by decide) (by omega)
                  have hx2 : (x + 2).toInt = ((24 * s + p + 3 * j + 2 : Nat) : Int) := iA_addN hx0 (show (2 : Int32).toInt = ((2 : Nat) : Int) by decide) (by omega)
                  obtain ⟨g5, g6, g7, g8, g9⟩ := hg j hj
                  have e0 : m1 131 0 x.toNatClampNeg = m 63 s (p + 3 * j) := by rw [n_k hx0, show 24 * s + p + 3 * j = 24 * s + (p + 3 * j) by omega]; exact w131 _ (by omega)
                  have e1 : m1 131 0 (x + 1).toNatClampNeg = m 63 s (p + (3 * j + 1)) := by rw [n_k hx1, show 24 * s + p + 3 * j + 1 = 24 * s + (p + (3 * j + 1)) by omega]; exact w131 _ (by omega)
                  have e2 : m1 131 0 (x + 2).toNatClampNeg = m 63 s (p + (3 * j + 2)) := by rw [n_k hx2, show 24 * s + p + 3 * j + 2 = 24 * s + (p + (3 * j + 2)) by omega]; exact w131 _ (by omega)
                  refine v_ifp (v_in.mpr (by omega)) ?_
                  refine v_ifn (by rw [e0, iA_lt, i_0]; exact Int.not_lt.mpr g5) ?_
                  refine v_ifp (v_in.mpr (by omega)) ?_
                  refine v_ifn (by rw [e1, iA_lt, i_0]; exact Int.not_lt.mpr g6) ?_
                  refine v_ifp (v_in.mpr (by omega)) ?_
                  refine v_ifn (by rw [e2, iA_lt, i_0]; exact Int.not_lt.mpr g7) ?_
                  refine v_ifp (v_in.mpr (by omega)) ?_
                  refine v_ifn (by rw [e2, iA_lt, show (4 : Int32).toInt = 4 by decide]; exact Int.not_lt.mpr g8) ?_
                  by_cases hj0 : 0 < j
                  · refine v_ifn (by rw [iA_le, i_0]; omega) ?_
                    have hx3 : (x - 3).toInt = ((24 * s + p + 3 * (j - 1) : Nat) : Int) := by
                      rw [iA_sub (by rw [hx0, show (3 : Int32).toInt = 3 by decide]; omega) (by rw [hx0, show (3 : Int32).toInt = 3 by decide]; omega), hx0, show (3 : Int32).toInt = 3 by decide]
                      omega
                    have e3 : m1 131 0 (x - 3).toNatClampNeg = m 63 s (p + 3 * (j - 1)) := by rw [n_k hx3, show 24 * s + p + 3 * (j - 1) = 24 * s + (p + 3 * (j - 1)) by omega]; exact w131 _ (by omega)
                    refine v_ifp (v_in.mpr (by omega)) ?_
                    refine v_ifp (v_in.mpr (by omega)) ?_
                    refine v_ifp (by rw [e0, e3, iA_le]; exact g9 hj0) ?_
                    exact v_l1 (v_il (n_s3 hv (by omega)))
                  · refine v_ifp (by rw [iA_le, i_0]; omega) ?_
                    exact v_l1 (v_il (n_s3 hv (by omega)))
                · rintro v hv
                  exact v_ifp (by rw [iA_le]; omega) (v_ir rfl)
              · rintro t rfl
                refine v_lM (v_lM ?_)
                generalize hm2 : mm_w (mm_w m1 12 0 46 1) 12 0 57 (a 3) = m2
                have f2 : fp [(12, none, some 3), (12, none, some 46), (12, none, some 57)] m m2 := by rw [← hm2]; exact fp_w rfl (fp_w rfl (fp_sb (by decide) f1))
                have t2 : m2 12 0 3 = 0 := by rw [← hm2, mw_k (by decide), mw_k (by decide)]; exact t1
                have t3 : m2 12 0 46 = 1 := by rw [← hm2, mw_k (by decide), mw_s]
                have t4 : m2 12 0 57 = Int32.ofNat n := by rw [← hm2, mw_s, iA_eq, hn, nJ_T (by omega)]
                have w131' : ∀ k, k < 24 → m2 131 0 (24 * s + k) = m 63 s k := fun k hk2 => by rw [← hm2, mw_g (by decide), mw_g (by decide)]; exact w131 k hk2
                clear hm2 w131
                refine v_s1 (P := fun c => fp [(98, none, none), (99, none, none), (100, none, none)] m2 c ∧ ∀ k, k < n → c 98 0 k = m 63 s (p + 3 * k) ∧ c 99 0 k = m 63 s (p + 3 * k + 1) ∧ c 100 0 k = m 63 s (p + 3 * k + 2)) ?_ ?_
                · refine v_for (fun j q => q.1.toInt = (j : Int) ∧ fp [(98, none, none), (99, none, none), (100, none, none)] m2 q.2 ∧ ∀ k, k < j → q.2 98 0 k = m 63 s (p + 3 * k) ∧ q.2 99 0 k = m 63 s (p + 3 * k + 1) ∧ q.2 100 0 k = m 63 s (p + 3 * k + 2)) 0 n (Nat.zero_le _) (by omega) ⟨i_0, fp_rf, fun k hk => absurd hk (Nat.not_lt_zero k)⟩ ?_ ?_
                  · rintro j ⟨v, c⟩ hj ⟨hv, hf, hz⟩
                    dsimp only at hv hf hz ⊢
                    have hv3 : (3 * v).toInt = ((3 * j : Nat) : Int) := iA_mulN (show (3 : Int32).toInt = ((3 : Nat) : Int) by decide) hv (by omega)
                    have hx0 : (b1 + 3 * v).toInt = ((24 * s + p + 3 * j : Nat) : Int) := iA_addN hix hv3 (by omega)
                    refine v_ifn (by rw [iA_le]; omega) ?_
                    refine v_lI (fun x hx => ?_)
                    rw [← hx] at hx0
                    clear hx
                    have hx1 : (x + 1).toInt = ((24 * s + p + 3 * j + 1 : Nat) : Int) := iA_addN hx0 (show (1 : Int32).toInt = ((1 : Nat) : Int) by decide) (by omega)
                    have hx2 : (x + 2).toInt = ((24 * s + p + 3 * j + 2 : Nat) : Int) := iA_addN hx0 (show (2 : Int32).toInt = ((2 : Nat) : Int) by decide) (by omega)
                    refine v_ifp (v_in.mpr (by omega)) ?_
                    refine v_ifp (v_in.mpr (by omega)) (v_lM ?_)
                    refine v_ifp (v_in.mpr (by omega)) ?_
                    refine v_ifp (v_in.mpr (by omega)) (v_lM ?_)
                    refine v_ifp (v_in.mpr (by omega)) ?_
                    refine v_ifp (v_in.mpr (by omega)) (v_lM ?_)
                    rw [n_k hx0, n_k hx1, n_k hx2, n_k hv]
                    have e0 : c 131 0 (24 * s + p + 3 * j) = m 63 s (p + 3 * j) := by rw [hf 131 0 _ rfl, show 24 * s + p + 3 * j = 24 * s + (p + 3 * j) by omega]; exact w131' _ (by omega)
                    have e1 : c 131 0 (24 * s + p + 3 * j + 1) = m 63 s (p + 3 * j + 1) := by rw [hf 131 0 _ rfl, show 24 * s + p + 3 * j + 1 = 24 * s + (p + 3 * j + 1) by omega]; exact w131' _ (by omega)
                    have e2 : c 131 0 (24 * s + p + 3 * j + 2) = m 63 s (p + 3 * j + 2) := by rw [hf 131 0 _ rfl, show 24 * s + p + 3 * j + 2 = 24 * s + (p + 3 * j + 2) by omega]; exact w131' _ (by omega)
                    refine v_l1 (v_il ⟨n_s3 hv (by omega), fp_w rfl (fp_w rfl (fp_w rfl hf)), fun k hk2 => ?_⟩)
                    dsimp only
                    rw [mw_g (show 98 ≠ 100 by decide), mw_g (show 98 ≠ 99 by decide), mw_g (show 99 ≠ 100 by decide), mw_g (show 131 ≠ 99 by decide), mw_g (show 131 ≠ 98 by decide), mw_g (show 131 ≠ 98 by decide), e0, e1, e2]
                    by_cases e : k = j
                    · rw [e, mw_s, mw_s, mw_s]
                      exact ⟨rfl, rfl, rfl⟩
                    · rw [mw_k e, mw_k e, mw_k e, mw_g (show 99 ≠ 98 by decide), mw_g (show 100 ≠ 99 by decide), mw_g (show 100 ≠ 98 by decide)]
                      exact hz k (by omega)
                  · rintro ⟨v, c⟩ ⟨hv, hf, hz⟩
                    dsimp only at hv hf hz ⊢
                    refine v_ifp (by rw [iA_le]; omega) ?_
                    exact v_ir ⟨hf, hz⟩
                · rintro c ⟨hf, hz⟩
                  exact v_so ⟨rfl, fp_tr (fp_sb (by decide) f2) (fp_sb (by decide) hf), (hf 12 0 3 rfl).trans t2, (hf 12 0 46 rfl).trans t3, (hf 12 0 57 rfl).trans t4, hz⟩
            obtain ⟨q, hC1, mC, rfl, hfC, c1, c2⟩ := eC
            have hC := c_fr0 hfC
            obtain ⟨⟨v, mM⟩, hM1, hM2, hM, hM3, m1, m2, m3⟩ := eM
            dsimp only at hM2 hM hM3 m1 m2 m3
            subst hM2
            have hj : j_row mC mM := by
              refine Or.inr ⟨n, by omega, c1, m1, m2, fun i hi => ?_⟩
              obtain ⟨y1, y2, y3⟩ := c2 i hi
              obtain ⟨z1, z2, z3⟩ := m3 i hi
              exact ⟨y1.trans z1.symm, y2.trans z2.symm, y3.trans z3.symm⟩
            refine ⟨_, _, t_op36 hop hC1 hM1 (thrown_eq _) (fun e9 h => by cases h) (fun t h => ?_), ⟨j_day_kp hC hM (by decide) (by decide) hday, j_fault_kp hC hM (by decide) (by decide) hfault, j_dead_kp hC hM (by decide) (by decide) hdead, j_str_kp hC hM (by decide) (by decide) hstr, j_tap_kp hC hM (by decide) (by decide) htap, j_law_kp hC hM (by decide) (by decide) hlaw, j_ev_kp hC hM (by decide) (by decide) hev, hj, j_inq_kp hC hM (by decide) (by decide) hinq, j_found_kp hC hM (by decide) (by decide) hfound, j_lamps_kp hC hM (by decide) (by decide) hlamps, j_net_kp hC hM (by decide) (by decide) hnet, j_tsk_kp hC hM (by decide) (by decide) htsk, j_dl_kp hC hM (by decide) (by decide) hdl, j_alo_kp hC hM (by decide) (by decide) halo, j_she_kp hC hM (by decide) (by decide) hshe⟩⟩
            cases h
            exact ⟨hM3, rfl⟩
          · have hg' : ∃ j, j < n ∧ ¬ z_gd (fun k => m 63 s (p + k)) j := by
              apply Classical.byContradiction
              intro h
              exact hg (fun j hj => Classical.byContradiction (fun h2 => h ⟨j, hj, h2⟩))
            refine non 4 (v_is ?_) (v_is ?_)
            · unfold f_X11_rowOf
              refine v_bxe cs ?_
              refine v_ifn g1 (v_ifp g2 ?_)
              refine v_ifp nL ?_
              refine v_b1e cp (v_ifp (by decide) ?_)
              refine v_s1 (c_tells hp hn (by omega)) ?_
              rintro r (⟨rfl, h⟩ | ⟨rfl, _⟩)
              · exact absurd h hg
              · exact v_ifn (by decide) (v_so rfl)
            · unfold f_X12_rowOf
              refine v_lM ?_
              refine v_b1e rs (v_ifp (by decide) ?_)
              refine v_b1e r3 (v_ifp (by decide) ?_)
              refine v_ifp i1 ?_
              refine v_ifp v1 ?_
              refine v_b1e rp (v_ifp (by decide) ?_)
              generalize 24 * a 1 + a 2 = b1 at hix ⊢
              generalize hm1 : mm_w m 12 0 3 0 = m1 at w131 ⊢
              clear v1 rp rs r3 w1 h99 hm1 non cs cp
              refine v_s1 (P := fun t => t = .inl ()) ?_ ?_
              · refine v_for (fun j v => v.toInt = (j : Int) ∧ ∀ k, k < j → z_gd (fun k => m 63 s (p + k)) k) 0 n (Nat.zero_le _) (by omega) ⟨i_0, fun k hk => absurd hk (Nat.not_lt_zero k)⟩ ?_ ?_
                · rintro j v hj ⟨hv, hz⟩
                  have hv3 : (3 * v).toInt = ((3 * j : Nat) : Int) := iA_mulN (show (3 : Int32).toInt = ((3 : Nat) : Int) by decide) hv (by omega)
                  have hx0 : (b1 + 3 * v).toInt = ((24 * s + p + 3 * j : Nat) : Int) := iA_addN hix hv3 (by omega)
                  refine v_ifn (by rw [iA_le]; omega) ?_
                  refine v_lI (fun x hx => ?_)
                  rw [← hx] at hx0
                  clear hx
                  have hx1 : (x + 1).toInt = ((24 * s + p + 3 * j + 1 : Nat) : Int) := iA_addN hx0 (show (1 : Int32).toInt = ((1 : Nat) : Int) by decide) (by omega)
                  have hx2 : (x + 2).toInt = ((24 * s + p + 3 * j + 2 : Nat) : Int) := iA_addN hx0 (show (2 : Int32).toInt = ((2 : Nat) : Int) by decide) (by omega)
                  have e0 : m1 131 0 x.toNatClampNeg = m 63 s (p + 3 * j) := by rw [n_k hx0, show 24 * s + p + 3 * j = 24 * s + (p + 3 * j) by omega]; exact w131 _ (by omega)
                  have e1 : m1 131 0 (x + 1).toNatClampNeg = m 63 s (p + (3 * j + 1)) := by rw [n_k hx1, show 24 * s + p + 3 * j + 1 = 24 * s + (p + (3 * j + 1)) by omega]; exact w131 _ (by omega)
                  have e2 : m1 131 0 (x + 2).toNatClampNeg = m 63 s (p + (3 * j + 2)) := by rw [n_k hx2, show 24 * s + p + 3 * j + 2 = 24 * s + (p + (3 * j + 2)) by omega]; exact w131 _ (by omega)
                  refine v_ifp (v_in.mpr (by omega)) ?_
                  by_cases g5 : (m 63 s (p + 3 * j)).toInt < 0
                  · exact v_ifp (by rw [e0, iA_lt, i_0]; exact g5) (v_ir rfl)
                  refine v_ifn (by rw [e0, iA_lt, i_0]; exact g5) ?_
                  refine v_ifp (v_in.mpr (by omega)) ?_
                  by_cases g6 : (m 63 s (p + (3 * j + 1))).toInt < 0
                  · exact v_ifp (by rw [e1, iA_lt, i_0]; exact g6) (v_ir rfl)
                  refine v_ifn (by rw [e1, iA_lt, i_0]; exact g6) ?_
                  refine v_ifp (v_in.mpr (by omega)) ?_
                  by_cases g7 : (m 63 s (p + (3 * j + 2))).toInt < 0
                  · exact v_ifp (by rw [e2, iA_lt, i_0]; exact g7) (v_ir rfl)
                  refine v_ifn (by rw [e2, iA_lt, i_0]; exact g7) ?_
                  refine v_ifp (v_in.mpr (by omega)) ?_
                  by_cases g8 : 4 < (m 63 s (p + (3 * j + 2))).toInt
                  · exact v_ifp (by rw [e2, iA_lt, show (4 : Int32).toInt = 4 by decide]; exact g8) (v_ir rfl)
                  refine v_ifn (by rw [e2, iA_lt, show (4 : Int32).toInt = 4 by decide]; exact g8) ?_
                  have gg : (0 < j → (m 63 s (p + 3 * (j - 1))).toInt ≤ (m 63 s (p + 3 * j)).toInt) → ∀ k, k < j + 1 → z_gd (fun k => m 63 s (p + k)) k := fun g9 k hk2 => by
                    by_cases e : k = j
                    · rw [e]
                      exact ⟨Int.not_lt.mp g5, Int.not_lt.mp g6, Int.not_lt.mp g7, Int.not_lt.mp g8, g9⟩
                    · exact hz k (by omega)
                  by_cases hj0 : 0 < j
                  · refine v_ifn (by rw [iA_le, i_0]; omega) ?_
                    have hx3 : (x - 3).toInt = ((24 * s + p + 3 * (j - 1) : Nat) : Int) := by
                      rw [iA_sub (by rw [hx0, show (3 : Int32).toInt = 3 by decide]; omega) (by rw [hx0, show (3 : Int32).toInt = 3 by decide]; omega), hx0, show (3 : Int32).toInt = 3 by decide]
                      omega
                    have e3 : m1 131 0 (x - 3).toNatClampNeg = m 63 s (p + 3 * (j - 1)) := by rw [n_k hx3, show 24 * s + p + 3 * (j - 1) = 24 * s + (p + 3 * (j - 1)) by omega]; exact w131 _ (by omega)
                    refine v_ifp (v_in.mpr (by omega)) ?_
                    refine v_ifp (v_in.mpr (by omega)) ?_
                    by_cases g9 : (m 63 s (p + 3 * (j - 1))).toInt ≤ (m 63 s (p + 3 * j)).toInt
                    · refine v_ifp (by rw [e0, e3, iA_le]; exact g9) ?_
                      exact v_l1 (v_il ⟨n_s3 hv (by omega), gg (fun _ => g9)⟩)
                    · exact v_ifn (by rw [e0, e3, iA_le]; exact g9) (v_ir rfl)
                  · refine v_ifp (by rw [iA_le, i_0]; omega) ?_
                    exact v_l1 (v_il ⟨n_s3 hv (by omega), gg (fun h => absurd h hj0)⟩)
                · rintro v ⟨hv, hz⟩
                  exact absurd hz hg
              · rintro t rfl
                exact v_so rfl
        · have cp : f_X7_hasPart s (a 2) (a 3 * 3) m = some 0 := by rw [c_hp hL hL24, if_neg (by omega)]
          have rp : f_X12_hasPart (a 1) (a 2) (3 * a 3) (mm_w m 12 0 3 0) = some 0 := by rw [r_hp ta1 (by omega) (w1.trans hL) hL24, if_neg (by omega)]
          refine non 3 (v_is ?_) (v_is ?_)
          · unfold f_X11_rowOf
            refine v_bxe cs ?_
            refine v_ifn g1 (v_ifp g2 ?_)
            refine v_ifp nL ?_
            exact v_b1e cp (v_ifn (by decide) (v_so rfl))
          · unfold f_X12_rowOf
            refine v_lM ?_
            refine v_b1e rs (v_ifp (by decide) ?_)
            refine v_b1e r3 (v_ifp (by decide) ?_)
            refine v_ifp i1 ?_
            refine v_ifp v1 ?_
            exact v_b1e rp (v_ifn (by decide) (v_so rfl))
    · have eC : f_X11_rowOf (a 1) (a 2) (a 3) m = some (.inl 0) := v_is (by
        unfold f_X11_rowOf
        refine v_bxe cs ?_
        by_cases h0 : (a 3).toInt < 0
        · exact v_ifp (by rw [iA_lt, i_0]; exact h0) (v_so rfl)
        · exact v_ifn (by rw [iA_lt, i_0]; exact h0) (v_ifn (by rw [iA_le, i_8]; omega) (v_so rfl)))
      have eM : f_X12_rowOf (a 1) (a 2) (a 3) m = some (0, mm_w (mm_w m 12 0 3 0) 12 0 3 2) := v_is (by
        unfold f_X12_rowOf
        refine v_lM ?_
        refine v_b1e rs (v_ifp (by decide) ?_)
        refine v_b1e (r_is0 (by rw [i_0, i_8]; exact h3)) (v_ifn (by decide) ?_)
        exact v_b2e r_fail2 (v_so rfl))
      refine ⟨_, _, t_op36 hop eC eM (thrown_eq _) (fun e9 h => ?_) (fun t h => by cases h), qJ_3 fp_31 hJ0⟩
      cases h
      exact Or.inr ⟨rfl, mw_s⟩
  · have eC : f_X11_rowOf (a 1) (a 2) (a 3) m = some (.inl 1) := v_is (by
      unfold f_X11_rowOf
      exact v_bxi (c_shn hS1 hS8 ha1) rfl)
    have eM : f_X12_rowOf (a 1) (a 2) (a 3) m = some (0, mm_w (mm_w m 12 0 3 0) 12 0 3 1) := v_is (by
      unfold f_X12_rowOf
      refine v_lM ?_
      refine v_b1e (r_shn h99 hS8 ha1) (v_ifn (by decide) ?_)
      exact v_b2e r_fail1 (v_so rfl))
    refine ⟨_, _, t_op36 hop eC eM (thrown_eq _) (fun e9 h => ?_) (fun t h => by cases h), qJ_3 fp_31 hJ0⟩
    cases h
    exact Or.inl ⟨rfl, mw_s⟩
