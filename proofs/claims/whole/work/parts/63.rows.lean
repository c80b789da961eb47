/-! rows that do nothing; every row is one of 64 -/
theorem q_op64 (x : Int32) : ∃ n, n < 64 ∧ x &&& 63 = Int32.ofNat n := by
  refine ⟨(x &&& 63).toBitVec.toNat, ?_, ?_⟩
  · have h : (x &&& 63).toBitVec.toNat = x.toBitVec.toNat &&& 63 := by
      rw [Int32.toBitVec_and, BitVec.toNat_and]
      rfl
    rw [h]
    exact Nat.lt_of_le_of_lt Nat.and_le_right (by decide)
  · apply Int32.toBitVec_inj.mp
    apply BitVec.eq_of_toNat_eq
    show _ = (BitVec.ofNat 32 (x &&& 63).toBitVec.toNat).toNat
    rw [BitVec.toNat_ofNat, Nat.mod_eq_of_lt (x &&& 63).toBitVec.isLt]
set_option maxRecDepth 100000 in
theorem r_nopN {m : mm_M} {a : Nat → Int32} {op : Int32} (hop : a 0 &&& 63 = op) (ht : ∀ v, mm_step 289 (40, q_LB v, [.inl op], m) = some (.inl (2981, q_LB v, [], m))) : q_Row m m a := by
  intro v r hat hv he
  refine ⟨0, 0, by decide, by decide, ?_⟩
  rw [mm_ad0]
  exact q_head hat hv hop (ht v) (e_steps 2 (s' := (23, q_LB (v + 9), [], m)) rfl he)
set_option maxRecDepth 100000 in
theorem r_nop {m : mm_M} {a : Nat → Int32} {n : Nat} (h1 : 38 ≤ n) (h2 : n < 64) (hop : a 0 &&& 63 = Int32.ofNat n) : q_Row m m a := by
  have h : n = 38 ∨ n = 39 ∨ n = 40 ∨ n = 41 ∨ n = 42 ∨ n = 43 ∨ n = 44 ∨ n = 45 ∨ n = 46 ∨ n = 47 ∨ n = 48 ∨ n = 49 ∨ n = 50 ∨ n = 51 ∨ n = 52 ∨ n = 53 ∨ n = 54 ∨ n = 55 ∨ n = 56 ∨ n = 57 ∨ n = 58 ∨ n = 59 ∨ n = 60 ∨ n = 61 ∨ n = 62 ∨ n = 63 := by omega
  rcases h with rfl | rfl | rfl | rfl | rfl | rfl | rfl | rfl | rfl | rfl | rfl | rfl | rfl | rfl | rfl | rfl | rfl | rfl | rfl | rfl | rfl | rfl | rfl | rfl | rfl | rfl
  · exact r_nopN hop (fun _ => rfl)
  · exact r_nopN hop (fun _ => rfl)
  · exact r_nopN hop (fun _ => rfl)
  · exact r_nopN hop (fun _ => rfl)
  · exact r_nopN hop (fun _ => rfl)
  · exact r_nopN hop (fun _ => rfl)
  · exact r_nopN hop (fun _ => rfl)
  · exact r_nopN hop (fun _ => rfl)
  · exact r_nopN hop (fun _ => rfl)
  · exact r_nopN hop (fun _ => rfl)
  · exact r_nopN hop (fun _ => rfl)
  · exact r_nopN hop (fun _ => rfl)
  · exact r_nopN hop (fun _ => rfl)
  · exact r_nopN hop (fun _ => rfl)
  · exact r_nopN hop (fun _ => rfl)
  · exact r_nopN hop (fun _ => rfl)
  · exact r_nopN hop (fun _ => rfl)
  · exact r_nopN hop (fun _ => rfl)
  · exact r_nopN hop (fun _ => rfl)
  · exact r_nopN hop (fun _ => rfl)
  · exact r_nopN hop (fun _ => rfl)
  · exact r_nopN hop (fun _ => rfl)
  · exact r_nopN hop (fun _ => rfl)
  · exact r_nopN hop (fun _ => rfl)
  · exact r_nopN hop (fun _ => rfl)
  · exact r_nopN hop (fun _ => rfl)
/-- all rows, out of the thirty-eight -/
theorem r_all {m : mm_M} {a : Nat → Int32} {P : Prop}
    (h0 : a 0 &&& 63 = 0 → P)
    (h1 : a 0 &&& 63 = 1 → P)
    (h2 : a 0 &&& 63 = 2 → P)
    (h3 : a 0 &&& 63 = 3 → P)
    (h4 : a 0 &&& 63 = 4 → P)
    (h5 : a 0 &&& 63 = 5 → P)
    (h6 : a 0 &&& 63 = 6 → P)
    (h7 : a 0 &&& 63 = 7 → P)
    (h8 : a 0 &&& 63 = 8 → P)
    (h9 : a 0 &&& 63 = 9 → P)
    (h10 : a 0 &&& 63 = 10 → P)
    (h11 : a 0 &&& 63 = 11 → P)
    (h12 : a 0 &&& 63 = 12 → P)
    (h13 : a 0 &&& 63 = 13 → P)
    (h14 : a 0 &&& 63 = 14 → P)
    (h15 : a 0 &&& 63 = 15 → P)
    (h16 : a 0 &&& 63 = 16 → P)
    (h17 : a 0 &&& 63 = 17 → P)
    (h18 : a 0 &&& 63 = 18 → P)
    (h19 : a 0 &&& 63 = 19 → P)
    (h20 : a 0 &&& 63 = 20 → P)
    (h21 : a 0 &&& 63 = 21 → P)
    (h22 : a 0 &&& 63 = 22 → P)
    (h23 : a 0 &&& 63 = 23 → P)
    (h24 : a 0 &&& 63 = 24 → P)
    (h25 : a 0 &&& 63 = 25 → P)
    (h26 : a 0 &&& 63 = 26 → P)
    (h27 : a 0 &&& 63 = 27 → P)
    (h28 : a 0 &&& 63 = 28 → P)
    (h29 : a 0 &&& 63 = 29 → P)
    (h30 : a 0 &&& 63 = 30 → P)
    (h31 : a 0 &&& 63 = 31 → P)
    (h32 : a 0 &&& 63 = 32 → P)
    (h33 : a 0 &&& 63 = 33 → P)
    (h34 : a 0 &&& 63 = 34 → P)
    (h35 : a 0 &&& 63 = 35 → P)
    (h36 : a 0 &&& 63 = 36 → P)
    (h37 : a 0 &&& 63 = 37 → P)
    (hn : q_Row m m a → P) : P := by
  obtain ⟨n, hn64, hop⟩ := q_op64 (a 0)
  by_cases h38 : 38 ≤ n
  · exact hn (r_nop h38 hn64 hop)
  · have h : n = 0 ∨ n = 1 ∨ n = 2 ∨ n = 3 ∨ n = 4 ∨ n = 5 ∨ n = 6 ∨ n = 7 ∨ n = 8 ∨ n = 9 ∨ n = 10 ∨ n = 11 ∨ n = 12 ∨ n = 13 ∨ n = 14 ∨ n = 15 ∨ n = 16 ∨ n = 17 ∨ n = 18 ∨ n = 19 ∨ n = 20 ∨ n = 21 ∨ n = 22 ∨ n = 23 ∨ n = 24 ∨ n = 25 ∨ n = 26 ∨ n = 27 ∨ n = 28 ∨ n = 29 ∨ n = 30 ∨ n = 31 ∨ n = 32 ∨ n = 33 ∨ n = 34 ∨ n = 35 ∨ n = 36 ∨ n = 37 := by omega
    rcases h with rfl | rfl | rfl | rfl | rfl | rfl | rfl | rfl | rfl | rfl | rfl | rfl | rfl | rfl | rfl | rfl | rfl | rfl | rfl | rfl | rfl | rfl | rfl | rfl | rfl | rfl | rfl | rfl | rfl | rfl | rfl | rfl | rfl | rfl | rfl | rfl | rfl | rfl
    · exact h0 hop
    · exact h1 hop
    · exact h2 hop
    · exact h3 hop
    · exact h4 hop
    · exact h5 hop
    · exact h6 hop
    · exact h7 hop
    · exact h8 hop
    · exact h9 hop
    · exact h10 hop
    · exact h11 hop
    · exact h12 hop
    · exact h13 hop
    · exact h14 hop
    · exact h15 hop
    · exact h16 hop
    · exact h17 hop
    · exact h18 hop
    · exact h19 hop
    · exact h20 hop
    · exact h21 hop
    · exact h22 hop
    · exact h23 hop
    · exact h24 hop
    · exact h25 hop
    · exact h26 hop
    · exact h27 hop
    · exact h28 hop
    · exact h29 hop
    · exact h30 hop
    · exact h31 hop
    · exact h32 hop
    · exact h33 hop
    · exact h34 hop
    · exact h35 hop
    · exact h36 hop
    · exact h37 hop
