/-! rows of echoes: a step is put in; rowOf, seen -/
def c_fr (i : Nat) (m r : mm_M) : Prop := ∀ g j k, ¬ (j = i ∧ (g = 41 ∨ g = 42 ∨ g = 43 ∨ (g = 6 ∧ k = 3))) → r g j k = m g j k
theorem z_tf {b : Bool} {P : Prop} (h1 : b = true) (h2 : b = false) : P := by
  rw [h1] at h2
  cases h2
theorem c_fr0 {m r : mm_M} (h : c_fr 0 m r) : fp [(6, some 0, some 3), (41, some 0, none), (42, some 0, none), (43, some 0, none)] m r := fun g i k hz => h g i k (fun z => by
  obtain ⟨rfl, rfl | rfl | rfl | ⟨rfl, rfl⟩⟩ := z
  · exact z_tf rfl hz
  · exact z_tf rfl hz
  · exact z_tf rfl hz
  · exact z_tf rfl hz)
theorem c_fr1 {m r : mm_M} (h : c_fr 1 m r) : fp [(6, some 1, some 3), (41, some 1, none), (42, some 1, none), (43, some 1, none)] m r := fun g i k hz => h g i k (fun z => by
  obtain ⟨rfl, rfl | rfl | rfl | ⟨rfl, rfl⟩⟩ := z
  · exact z_tf rfl hz
  · exact z_tf rfl hz
  · exact z_tf rfl hz
  · exact z_tf rfl hz)
theorem c_fr2 {m r : mm_M} (h : c_fr 2 m r) : fp [(6, some 2, some 3), (41, some 2, none), (42, some 2, none), (43, some 2, none)] m r := fun g i k hz => h g i k (fun z => by
  obtain ⟨rfl, rfl | rfl | rfl | ⟨rfl, rfl⟩⟩ := z
  · exact z_tf rfl hz
  · exact z_tf rfl hz
  · exact z_tf rfl hz
  · exact z_tf rfl hz)
theorem c_frt {i : Nat} {m1 m2 m3 : mm_M} (h1 : c_fr i m1 m2) (h2 : c_fr i m2 m3) : c_fr i m1 m3 := fun g j k h => (h2 g j k h).trans (h1 g j k h)
theorem c_frr {i : Nat} {m : mm_M} : c_fr i m m := fun _ _ _ _ => rfl
theorem c_frw {i g k : Nat} {m m1 : mm_M} {x : Int32} (h : g = 41 ∨ g = 42 ∨ g = 43 ∨ (g = 6 ∧ k = 3)) (h1 : c_fr i m m1) : c_fr i m (mm_w m1 g i k x) := fun g' i' k' h' => by
  rw [mw_get, if_neg (fun z => h' ⟨z.2.1, by rw [z.1, z.2.2]; exact h⟩)]
  exact h1 g' i' k' h'
/-- what lies at k once x is put in at p -/
def z_put (f : Nat → Int32) (p : Nat) (x : Int32) (k : Nat) : Int32 := if k < p then f k else if k = p then x else f (k - 1)
theorem c_ins {m : mm_M} {i n p : Nat} {P a b s : Int32} (hn : m 6 i 3 = Int32.ofNat n) (h48 : n ≤ 48) (hP : P.toInt = (p : Int)) (hp : p ≤ n) : vW (f_X5_insert i P a b s m) (fun r => c_fr i m r ∧ r 6 i 3 = Int32.ofNat (n + 1) ∧ ∀ k, k ≤ n → r 41 i k = z_put (m 41 i) p a k ∧ r 42 i k = z_put (m 42 i) p b k ∧ r 43 i k = z_put (m 43 i) p s k) := by
  unfold f_X5_insert
  refine v_ifp (by rw [hn, iA_lt, nJ_T (by omega), show (49 : Int32).toInt = 49 by decide]; omega) ?_
  refine v_lI (fun w hw => ?_)
  have ew : w.toInt = (n : Int) := by rw [hw, hn, nJ_T (by omega)]
  clear hw
  have iP : mm_in P 49 := v_in.mpr (by omega)
  have kP := n_k hP
  refine v_s1 (P := fun c => c_fr i m c ∧ c 6 i 3 = Int32.ofNat n ∧ ∀ k, k ≤ n → (c 41 i k = if p < k then m 41 i (k - 1) else m 41 i k) ∧ (c 42 i k = if p < k then m 42 i (k - 1) else m 42 i k) ∧ (c 43 i k = if p < k then m 43 i (k - 1) else m 43 i k)) ?_ ?_
  · refine v_for (fun j q => q.1.toInt = ((n - j : Nat) : Int) ∧ c_fr i m q.2 ∧ q.2 6 i 3 = Int32.ofNat n ∧ ∀ k, k ≤ n → (q.2 41 i k = if n - j < k then m 41 i (k - 1) else m 41 i k) ∧ (q.2 42 i k = if n - j < k then m 42 i (k - 1) else m 42 i k) ∧ (q.2 43 i k = if n - j < k then m 43 i (k - 1) else m 43 i k)) 0 (n - p) (Nat.zero_le _) (by omega) ⟨ew, c_frr, hn, fun k hk => ⟨by rw [if_neg (by omega)], by rw [if_neg (by omega)], by rw [if_neg (by omega)]⟩⟩ ?_ ?_
    · rintro j ⟨v, c⟩ hj ⟨hv, hf, h6, hz⟩
      dsimp only at hv hf h6 hz ⊢
      obtain ⟨u, hu⟩ : ∃ u, n - j = u + 1 := ⟨n - j - 1, by omega⟩
      rw [hu] at hv hz
      have i1 : mm_in (v - 1) 49 := v_in.mpr (by rw [n_s1 hv]; omega)
      have i2 : mm_in v 49 := v_in.mpr (by omega)
      refine v_ifn (by rw [iA_le]; omega) ?_
      refine v_ifp i1 (v_ifp i2 (v_lM ?_))
      refine v_ifp i1 (v_ifp i2 (v_lM ?_))
      refine v_ifp i1 (v_ifp i2 (v_lM ?_))
      refine v_l (v_il ?_)
      rw [n_k hv, n_k (n_s1 hv)]
      refine ⟨?_, ?_, ?_, fun k hk => ?_⟩
      · rw [show n - (j + 1) = u by omega]
        exact n_s2 hv
      · exact c_frw (Or.inr (Or.inr (Or.inl rfl))) (c_frw (Or.inr (Or.inl rfl)) (c_frw (Or.inl rfl) hf))
      · dsimp only
        rw [mw_g (by decide), mw_g (by decide), mw_g (by decide)]
        exact h6
      · dsimp only
        rw [show n - (j + 1) = u by omega]
        obtain ⟨z1, z2, z3⟩ := hz k hk
        obtain ⟨y1, y2, y3⟩ := hz u (by omega)
        rw [if_neg (by omega)] at y1 y2 y3
        by_cases e : k = u + 1
        · subst e
          rw [if_pos (by omega), if_pos (by omega), if_pos (by omega), Nat.add_sub_cancel]
          refine ⟨?_, ?_, ?_⟩
          · rw [mw_g (by decide), mw_g (by decide), mw_s]
            exact y1
          · rw [mw_g (by decide), mw_s, mw_g (by decide)]
            exact y2
          · rw [mw_s, mw_g (by decide), mw_g (by decide)]
            exact y3
        · rw [mw_g (by decide), mw_g (by decide), mw_k e, mw_g (by decide), mw_k e, mw_g (by decide), mw_k e, mw_g (by decide), mw_g (by decide), z1, z2, z3]
          by_cases e2 : u + 1 < k
          · rw [if_pos e2, if_pos (by omega), if_pos e2, if_pos (by omega), if_pos e2, if_pos (by omega)]
            exact ⟨rfl, rfl, rfl⟩
          · rw [if_neg e2, if_neg (by omega), if_neg e2, if_neg (by omega), if_neg e2, if_neg (by omega)]
            exact ⟨rfl, rfl, rfl⟩
    · rintro ⟨v, c⟩ ⟨hv, hf, h6, hz⟩
      dsimp only at hv hf h6 hz ⊢
      rw [show n - (n - p) = p by omega] at hv hz
      refine v_ifp (by rw [iA_le]; omega) ?_
      exact v_ir ⟨hf, h6, hz⟩
  · rintro c ⟨hf, h6, hz⟩
    refine v_ifp iP (v_lM ?_)
    refine v_ifp iP (v_lM ?_)
    refine v_ifp iP (v_lM ?_)
    rw [kP]
    refine v_lM (v_so ?_)
    rw [mw_g (show 6 ≠ 43 by decide), mw_g (show 6 ≠ 42 by decide), mw_g (show 6 ≠ 41 by decide), h6, n_a1]
    refine ⟨c_frw (Or.inr (Or.inr (Or.inr ⟨rfl, rfl⟩))) (c_frw (Or.inr (Or.inr (Or.inl rfl))) (c_frw (Or.inr (Or.inl rfl)) (c_frw (Or.inl rfl) hf))), mw_s, fun k hk => ?_⟩
    obtain ⟨z1, z2, z3⟩ := hz k hk
    unfold z_put
    by_cases e : k = p
    · subst e
      rw [if_neg (by omega), if_pos rfl, if_neg (by omega), if_pos rfl, if_neg (by omega), if_pos rfl]
      refine ⟨?_, ?_, ?_⟩
      · rw [mw_g (by decide), mw_g (by decide), mw_g (by decide), mw_s]
      · rw [mw_g (by decide), mw_g (by decide), mw_s]
      · rw [mw_g (by decide), mw_s]
    · rw [mw_g (by decide), mw_g (by decide), mw_g (by decide), mw_k e, mw_g (by decide), mw_g (by decide), mw_k e, mw_g (by decide), mw_g (by decide), mw_k e, mw_g (by decide), mw_g (by decide), z1, z2, z3]
      by_cases e2 : k < p
      · rw [if_neg (by omega), if_pos e2, if_neg (by omega), if_pos e2, if_neg (by omega), if_pos e2]
        exact ⟨rfl, rfl, rfl⟩
      · rw [if_pos (by omega), if_neg e2, if_neg e, if_pos (by omega), if_neg e2, if_neg e, if_pos (by omega), if_neg e2, if_neg e]
        exact ⟨rfl, rfl, rfl⟩
/-- put in at the end -/
theorem c_insE {m : mm_M} {i n : Nat} {P a b s : Int32} (hn : m 6 i 3 = Int32.ofNat n) (h48 : n ≤ 48) (hP : P.toInt = (n : Int)) : vW (f_X5_insert i P a b s m) (fun r => c_fr i m r ∧ r 6 i 3 = Int32.ofNat (n + 1) ∧ (∀ k, k < n → r 41 i k = m 41 i k ∧ r 42 i k = m 42 i k ∧ r 43 i k = m 43 i k) ∧ r 41 i n = a ∧ r 42 i n = b ∧ r 43 i n = s) := v_mono (c_ins hn h48 hP (Nat.le_refl n)) (fun r ⟨h1, h2, h3⟩ => by
  refine ⟨h1, h2, fun k hk => ?_, ?_⟩
  · obtain ⟨z1, z2, z3⟩ := h3 k (by omega)
    unfold z_put at z1 z2 z3
    rw [if_pos hk] at z1 z2 z3
    exact ⟨z1, z2, z3⟩
  · obtain ⟨z1, z2, z3⟩ := h3 n (Nat.le_refl n)
    unfold z_put at z1 z2 z3
    rw [if_neg (Nat.lt_irrefl n), if_pos rfl] at z1 z2 z3
    exact ⟨z1, z2, z3⟩)
/-- a row is taken over -/
theorem c_over {m : mm_M} {i n : Nat} (hi : ¬ i = 0) (hn : m 6 0 3 = Int32.ofNat n) (h49 : n ≤ 49) : vW (f_X5_takeOver i 0 m) (fun r => c_fr i m r ∧ r 6 i 3 = Int32.ofNat n ∧ ∀ k, k < n → r 41 i k = m 41 0 k ∧ r 42 i k = m 42 0 k ∧ r 43 i k = m 43 0 k) := by
  unfold f_X5_takeOver
  refine v_lM ?_
  refine v_s1 (P := fun c => c_fr i m c ∧ c 6 i 3 = Int32.ofNat n ∧ ∀ k, k < n → c 41 i k = m 41 0 k ∧ c 42 i k = m 42 0 k ∧ c 43 i k = m 43 0 k) ?_ (fun c h => v_so h)
  refine v_for (fun j q => q.1.toInt = (j : Int) ∧ c_fr i m q.2 ∧ q.2 6 i 3 = Int32.ofNat j ∧ ∀ k, k < j → q.2 41 i k = m 41 0 k ∧ q.2 42 i k = m 42 0 k ∧ q.2 43 i k = m 43 0 k) 0 n (Nat.zero_le _) (by omega) ⟨i_0, c_frw (Or.inr (Or.inr (Or.inr ⟨rfl, rfl⟩))) c_frr, mw_s, fun k hk => absurd hk (Nat.not_lt_zero k)⟩ ?_ ?_
  · rintro j ⟨v, c⟩ hj ⟨hv, hf, h6, hz⟩
    dsimp only at hv hf h6 hz ⊢
    have e6 : c 6 0 3 = Int32.ofNat n := (hf 6 0 3 (fun z => hi z.1.symm)).trans hn
    have iv : mm_in v 49 := v_in.mpr (by omega)
    refine v_ifn (by rw [e6, iA_le, nJ_T (by omega)]; omega) ?_
    refine v_ifp iv (v_ifp iv (v_ifp iv ?_))
    rw [n_k hv]
    refine v_s1 (c_insE h6 (by omega) hv) ?_
    rintro r ⟨r1, r2, r3, r4, r5, r6⟩
    refine v_l1 (v_il ⟨n_s3 hv (by omega), c_frt hf r1, r2, fun k hk => ?_⟩)
    dsimp only
    by_cases e : k = j
    · rw [e, r4, r5, r6, hf 41 0 j (fun z => hi z.1.symm), hf 42 0 j (fun z => hi z.1.symm), hf 43 0 j (fun z => hi z.1.symm)]
      exact ⟨rfl, rfl, rfl⟩
    · obtain ⟨y1, y2, y3⟩ := r3 k (by omega)
      rw [y1, y2, y3]
      exact hz k (by omega)
  · rintro ⟨v, c⟩ ⟨hv, hf, h6, hz⟩
    dsimp only at hv hf h6 hz ⊢
    have e6 : c 6 0 3 = Int32.ofNat n := (hf 6 0 3 (fun z => hi z.1.symm)).trans hn
    refine v_ifp (by rw [e6, iA_le, nJ_T (by omega)]; omega) ?_
    exact v_ir ⟨hf, h6, hz⟩
