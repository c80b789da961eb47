/-! rows on sheets -/
/-- what a row on a sheet must be -/
def z_gd (X : Nat → Int32) (j : Nat) : Prop := 0 ≤ (X (3 * j)).toInt ∧ 0 ≤ (X (3 * j + 1)).toInt ∧ 0 ≤ (X (3 * j + 2)).toInt ∧ (X (3 * j + 2)).toInt ≤ 4 ∧ (0 < j → (X (3 * (j - 1))).toInt ≤ (X (3 * j)).toInt)
theorem c_tells {m : mm_M} {s p n : Nat} {P N : Int32} (hP : P.toInt = (p : Int)) (hN : N.toInt = (n : Int)) (hn : p + 3 * n ≤ 24) : vW (f_X7_tellsRow s P N m) (fun r => (r = 1 ∧ ∀ j, j < n → z_gd (fun k => m 63 s (p + k)) j) ∨ (r = 0 ∧ ∃ j, j < n ∧ ¬ z_gd (fun k => m 63 s (p + k)) j)) := by
  unfold f_X7_tellsRow
  refine v_s1 (P := fun t => (t = .inr () ∧ ∀ j, j < n → z_gd (fun k => m 63 s (p + k)) j) ∨ (t = .inl () ∧ ∃ j, j < n ∧ ¬ z_gd (fun k => m 63 s (p + k)) j)) ?_ ?_
  · refine v_for (fun j q => q.2.toInt = (j : Int) ∧ (q.1.toInt = if 0 < j then (m 63 s (p + 3 * (j - 1))).toInt else 0) ∧ 0 ≤ q.1.toInt ∧ ∀ k, k < j → z_gd (fun k => m 63 s (p + k)) k) 0 n (Nat.zero_le _) (by omega) ⟨i_0, by rw [if_neg (by omega)]; exact i_0, by rw [i_0]; exact Int.le_refl _, fun k hk => absurd hk (Nat.not_lt_zero k)⟩ ?_ ?_
    · rintro j ⟨u, v⟩ hj ⟨hv, hu, hu0, hz⟩
      dsimp only at hv hu hu0 hz ⊢
      have hv3 : (v * 3).toInt = ((j * 3 : Nat) : Int) := iA_mulN hv (show (3 : Int32).toInt = ((3 : Nat) : Int) by decide) (by omega)
      have hx0 : (P + v * 3).toInt = ((p + 3 * j : Nat) : Int) := by rw [iA_addN hP hv3 (by omega)]; omega
      refine v_ifn (by rw [iA_le]; omega) ?_
      refine v_lI (fun x hx => ?_)
      rw [← hx] at hx0
      clear hx
      have hx1 : (x + 1).toInt = ((p + 3 * j + 1 : Nat) : Int) := iA_addN hx0 (show (1 : Int32).toInt = ((1 : Nat) : Int) by decide) (by omega)
      have hx2 : (x + 2).toInt = ((p + 3 * j + 2 : Nat) : Int) := iA_addN hx0 (show (2 : Int32).toInt = ((2 : Nat) : Int) by decide) (by omega)
      refine v_ifp (v_in.mpr (by omega)) ?_
      refine v_lI (fun y hy => ?_)
      rw [n_k hx0] at hy
      refine v_ifp (v_in.mpr (by omega)) ?_
      refine v_lI (fun z hz2 => ?_)
      rw [n_k hx2] at hz2
      have bad : ¬ z_gd (fun k => m 63 s (p + k)) j → (Sum.inl () : Unit ⊕ Unit) = .inl () ∧ ∃ j, j < n ∧ ¬ z_gd (fun k => m 63 s (p + k)) j := fun h => ⟨rfl, j, hj, h⟩
      have eg : z_gd (fun k => m 63 s (p + k)) j ↔ 0 ≤ y.toInt ∧ 0 ≤ (m 63 s (p + 3 * j + 1)).toInt ∧ 0 ≤ z.toInt ∧ z.toInt ≤ 4 ∧ (0 < j → (m 63 s (p + 3 * (j - 1))).toInt ≤ y.toInt) := by
        rw [hy, hz2]
        exact Iff.rfl
      by_cases g1 : y.toInt < u.toInt
      · refine v_ifp (by rw [iA_lt]; exact g1) (v_ir (Or.inr (bad ?_)))
        rw [eg]
        intro g
        by_cases hj0 : 0 < j
        · rw [if_pos hj0] at hu
          have := g.2.2.2.2 hj0
          omega
        · rw [if_neg hj0] at hu
          have := g.1
          omega
      refine v_ifn (by rw [iA_lt]; exact g1) ?_
      refine v_ifp (v_in.mpr (by omega)) ?_
      by_cases g2 : (m 63 s (p + 3 * j + 1)).toInt < 0
      · refine v_ifp (by rw [n_k hx1, iA_lt, i_0]; exact g2) (v_ir (Or.inr (bad ?_)))
        rw [eg]
        intro g
        have := g.2.1
        omega
      refine v_ifn (by rw [n_k hx1, iA_lt, i_0]; exact g2) ?_
      by_cases g3 : z.toInt < 0
      · refine v_ifp (by rw [iA_lt, i_0]; exact g3) (v_ir (Or.inr (bad ?_)))
        rw [eg]
        intro g
        have := g.2.2.1
        omega
      refine v_ifn (by rw [iA_lt, i_0]; exact g3) ?_
      by_cases g4 : z.toInt ≤ 4
      · refine v_ifp (by rw [iA_le, show (4 : Int32).toInt = 4 by decide]; exact g4) ?_
        refine v_l1 (v_il ⟨n_s3 hv (by omega), ?_, by dsimp only; omega, fun k hk => ?_⟩)
        · dsimp only
          rw [if_pos (by omega), Nat.add_sub_cancel, hy]
        · by_cases e : k = j
          · rw [e, eg]
            refine ⟨by omega, by omega, by omega, g4, fun hj0 => ?_⟩
            rw [if_pos hj0] at hu
            omega
          · exact hz k (by omega)
      · refine v_ifn (by rw [iA_le, show (4 : Int32).toInt = 4 by decide]; exact g4) (v_ir (Or.inr (bad ?_)))
        rw [eg]
        intro g
        have := g.2.2.2.1
        omega
    · rintro ⟨u, v⟩ ⟨hv, hu, hu0, hz⟩
      dsimp only at hv hu hu0 hz ⊢
      exact v_ifp (by rw [iA_le]; omega) (v_ir (Or.inl ⟨rfl, hz⟩))
  · rintro t (⟨rfl, h⟩ | ⟨rfl, h⟩)
    · exact v_so (Or.inl ⟨rfl, h⟩)
    · exact v_so (Or.inr ⟨rfl, h⟩)
theorem c_read {m : mm_M} {s p n : Nat} {P N : Int32} (hP : P.toInt = (p : Int)) (hN : N.toInt = (n : Int)) (hn : p + 3 * n ≤ 24) : vW (f_X5_readFrom 0 s P N m) (fun r => c_fr 0 m r ∧ r 6 0 3 = Int32.ofNat n ∧ ∀ k, k < n → r 41 0 k = m 63 s (p + 3 * k) ∧ r 42 0 k = m 63 s (p + 3 * k + 1) ∧ r 43 0 k = m 63 s (p + 3 * k + 2)) := by
  unfold f_X5_readFrom
  refine v_lM ?_
  refine v_s1 (P := fun c => c_fr 0 m c ∧ c 6 0 3 = Int32.ofNat n ∧ ∀ k, k < n → c 41 0 k = m 63 s (p + 3 * k) ∧ c 42 0 k = m 63 s (p + 3 * k + 1) ∧ c 43 0 k = m 63 s (p + 3 * k + 2)) ?_ (fun c h => v_so h)
  refine v_for (fun j q => q.1.toInt = (j : Int) ∧ c_fr 0 m q.2 ∧ q.2 6 0 3 = Int32.ofNat j ∧ ∀ k, k < j → q.2 41 0 k = m 63 s (p + 3 * k) ∧ q.2 42 0 k = m 63 s (p + 3 * k + 1) ∧ q.2 43 0 k = m 63 s (p + 3 * k + 2)) 0 n (Nat.zero_le _) (by omega) ⟨i_0, c_frw (Or.inr (Or.inr (Or.inr ⟨rfl, rfl⟩))) c_frr, by show mm_w m 6 0 3 0 6 0 3 = Int32.ofNat 0; rw [mw_s]; rfl, fun k hk => absurd hk (Nat.not_lt_zero k)⟩ ?_ ?_
  · rintro j ⟨v, c⟩ hj ⟨hv, hf, h6, hz⟩
    dsimp only at hv hf h6 hz ⊢
    have hv3 : (v * 3).toInt = ((j * 3 : Nat) : Int) := iA_mulN hv (show (3 : Int32).toInt = ((3 : Nat) : Int) by decide) (by omega)
    have hx0 : (P + v * 3).toInt = ((p + 3 * j : Nat) : Int) := by rw [iA_addN hP hv3 (by omega)]; omega
    refine v_ifn (by rw [iA_le]; omega) ?_
    refine v_lI (fun x hx => ?_)
    rw [← hx] at hx0
    clear hx
    have hx1 : (x + 1).toInt = ((p + 3 * j + 1 : Nat) : Int) := iA_addN hx0 (show (1 : Int32).toInt = ((1 : Nat) : Int) by decide) (by omega)
    have hx2 : (x + 2).toInt = ((p + 3 * j + 2 : Nat) : Int) := iA_addN hx0 (show (2 : Int32).toInt = ((2 : Nat) : Int) by decide) (by omega)
    refine v_ifp (v_in.mpr (by omega)) ?_
    refine v_ifp (v_in.mpr (by omega)) ?_
    refine v_ifp (v_in.mpr (by omega)) ?_
    rw [n_k hx0, n_k hx1, n_k hx2]
    refine v_s1 (c_insE h6 (by omega) hv) ?_
    rintro r ⟨r1, r2, r3, r4, r5, r6⟩
    refine v_l1 (v_il ⟨n_s3 hv (by omega), c_frt hf r1, r2, fun k hk => ?_⟩)
    dsimp only
    have e63 : ∀ k, c 63 s k = m 63 s k := fun k => hf 63 s k (fun z => by
      rcases z.2 with h | h | h | h
      · cases h
      · cases h
      · cases h
      · cases h.1)
    by_cases e : k = j
    · rw [e, r4, r5, r6, e63, e63, e63]
      exact ⟨rfl, rfl, rfl⟩
    · obtain ⟨y1, y2, y3⟩ := r3 k (by omega)
      rw [y1, y2, y3]
      exact hz k (by omega)
  · rintro ⟨v, c⟩ ⟨hv, hf, h6, hz⟩
    dsimp only at hv hf h6 hz ⊢
    refine v_ifp (by rw [iA_le]; omega) ?_
    exact v_ir ⟨hf, h6, hz⟩
