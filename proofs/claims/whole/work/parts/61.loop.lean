/-! the law's loop, row by row -/
theorem nJ_T {n : Nat} (h : n < 2147483648) : (Int32.ofNat n).toInt = (n : Int) := Int32.toInt_ofNat_of_lt h
theorem nJ_N {n : Nat} (h : n < 2147483648) : (Int32.ofNat n).toNatClampNeg = n := Int32.toNatClampNeg_ofNat_of_lt h
theorem nJ_a (a b : Nat) : Int32.ofNat a + Int32.ofNat b = Int32.ofNat (a + b) := (Int32.ofNat_add a b).symm
theorem nJ_0 {n : Nat} (h : n < 2147483648) : 0 ≤ Int32.ofNat n := by
  rw [Int32.le_iff_toInt_le, nJ_T h]
  exact Int.natCast_nonneg n
theorem nJ_in {j n : Nat} (h : j < n) (hn : n < 2147483648) : mm_in (Int32.ofNat j) n := ⟨nJ_0 (by omega), by rw [nJ_N (by omega)]; exact h⟩
/-- the locals at the loop's head, the row at v -/
abbrev q_LB (v : Int32) : List (Option mm_V) := [some (.inr (.inr (some (134, 0)))), some (.inr (.inr (some (0, 0)))), some (.inr (.inr (some (12, 0)))), some (.inr (.inr (some (133, 0)))), some (.inl v), none, none]
set_option maxRecDepth 100000 in
theorem q_head {D t : Nat} {v op : Int32} {a : Nat → Int32} {m : mm_M} {r : mm_R} (h : q_at m v a) (hv : ¬ (m 134 1 0 - 9 < v)) (hop : a 0 &&& 63 = op) (ht : mm_step 289 (40, q_LB v, [.inl op], m) = some (.inl (t, q_LB v, [], m))) (e : mm_E D 289 (t, q_LB v, [], m) r) : mm_E D 289 (23, q_LB v, [], m) r := by
  refine e_steps 5 (s' := (30, q_LB v, [.inl (m 134 1 0 - 9), .inl v], m)) rfl ?_
  refine q_if (c := m 134 1 0 - 9 < v) (s1 := (2987, q_LB v, [], m)) (s2 := (33, q_LB v, [], m)) rfl (fun hc => absurd hc hv) (fun _ => ?_)
  refine e_steps 2 (s' := (36, q_LB v, [.inl v, .inr (.inr (some (134, 0)))], m)) rfl ?_
  have h0 := h 0 (by decide)
  rw [show v + Int32.ofNat 0 = v from Int32.add_zero v] at h0
  refine q_ld (a := a 0) rfl h0.1 h0.2 ?_
  refine e_steps 2 (s' := (40, q_LB v, [.inl (a 0 &&& 63)], m)) rfl ?_
  rw [hop]
  exact e_step ht e
set_option maxRecDepth 100000 in
theorem q_end {D : Nat} {v : Int32} {m : mm_M} (hv : m 134 1 0 - 9 < v) : mm_E D 289 (23, q_LB v, [], m) (.inl (some (.inl 1)), m, 0, 0) := by
  refine e_steps 5 (s' := (30, q_LB v, [.inl (m 134 1 0 - 9), .inl v], m)) rfl ?_
  refine q_if (c := m 134 1 0 - 9 < v) (s1 := (2987, q_LB v, [], m)) (s2 := (33, q_LB v, [], m)) rfl (fun _ => ?_) (fun hc => absurd hv hc)
  refine e_mask (L' := [none, none, none, none, none, none, none]) rfl ?_
  refine e_steps 1 (s' := (2988, [none, none, none, none, none, none, none], [.inl 1], m)) rfl ?_
  exact e_ret rfl rfl
/-- a row leads from m to m', and makes at most one exception -/
def q_Row (m m' : mm_M) (a : Nat → Int32) : Prop := ∀ (v : Int32) (r : mm_R), q_at m v a → ¬ (m 134 1 0 - 9 < v) → mm_E 1000 289 (23, q_LB (v + 9), [], m') r → ∃ c z, c ≤ 1 ∧ z ≤ 6 ∧ mm_E 1000 289 (23, q_LB v, [], m) (mm_ad c z r)
theorem q_lim {L t : Nat} (hL : L ≤ 4608) (ht : t ≤ 10000) : (Int32.ofNat L - 9 < Int32.ofNat t) ↔ L < t + 9 := by
  rw [Int32.lt_iff_toInt_lt, nJ_T (by omega), Int32.toInt_sub, nJ_T (by omega), show (9 : Int32).toInt = 9 by decide, Int.bmod_eq_of_le (by omega) (by omega)]
  omega
theorem q_loop {I : mm_M → Prop} {xs : Nat → Int32} {L : Nat} (hL : L ≤ 4608) (hI : ∀ (m : mm_M) (a : Nat → Int32), I m → mm_sv xs L m → ∃ m', I m' ∧ m' 134 = m 134 ∧ q_Row m m' a) : ∀ (k t : Nat) (m : mm_M), k + t = 520 → I m → mm_sv xs L m → ∃ (m' : mm_M) (kk nn : Nat), mm_E 1000 289 (23, q_LB (Int32.ofNat (9 * t)), [], m) (.inl (some (.inl 1)), m', kk, nn) ∧ kk ≤ k ∧ nn ≤ 6 * k
  | k, t, m, hkt, hm, hs => by
    have hn : m 134 1 0 = Int32.ofNat L := hs.2
    by_cases hend : L < 9 * t + 9
    · exact ⟨m, 0, 0, q_end (by rw [hn]; exact (q_lim hL (by omega)).mpr hend), by omega, by omega⟩
    · cases k with
      | zero => omega
      | succ k =>
        obtain ⟨m', hm', h134, hrow⟩ := hI m (fun j => xs (9 * t + j)) hm hs
        have hs' : mm_sv xs L m' := ⟨fun j hj => by show m' 134 0 j = _; rw [h134]; exact hs.1 j hj, by show m' 134 1 0 = _; rw [h134]; exact hs.2⟩
        obtain ⟨m2, kk, nn, hE, h1, h2⟩ := q_loop hL hI k (t + 1) m' (by omega) hm' hs'
        have hat : q_at m (Int32.ofNat (9 * t)) (fun j => xs (9 * t + j)) := by
          intro j hj
          rw [nJ_a, hn, nJ_N (show L < 2147483648 by omega)]
          refine ⟨nJ_in (by omega) (by omega), ?_⟩
          rw [nJ_N (by omega)]
          exact hs.1 _ (by omega)
        rw [show Int32.ofNat (9 * (t + 1)) = Int32.ofNat (9 * t) + 9 by rw [show 9 * (t + 1) = 9 * t + 9 by omega]; exact (nJ_a (9 * t) 9).symm] at hE
        obtain ⟨c, z, hc, hz, hE2⟩ := hrow (Int32.ofNat (9 * t)) _ hat (by rw [hn]; exact fun h => hend ((q_lim hL (by omega)).mp h)) hE
        exact ⟨m2, c + kk, z + nn, hE2, by omega, by omega⟩
/-- the pure run out of an invariant that every row keeps -/
theorem st_run_of {I : mm_M → Prop} (h0 : ∀ (xs : Nat → Int32) (L : Nat), I (st_m0 xs L)) (hI : ∀ (m : mm_M) (a : Nat → Int32), I m → ∃ m', I m' ∧ m' 134 = m 134 ∧ q_Row m m' a) (xs : Nat → Int32) (L : Nat) (hL : L ≤ 4608) : st_Run xs L := by
  obtain ⟨m', kk, nn, ⟨n, hE⟩, h1, h2⟩ := q_loop (xs := xs) (L := L) hL (fun m a hm _ => hI m a hm) 520 0 (st_m0 xs L) rfl (h0 xs L) (st_sv xs L)
  exact ⟨n, 1000, m', kk, nn, hE, Nat.le_refl _, by omega, by omega⟩
