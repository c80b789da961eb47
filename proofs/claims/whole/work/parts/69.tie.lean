/-! the pure run out of a relation between the class's memory and the reference's that every op keeps -/
def q_Tie (J : mm_M → mm_M → Prop) : Prop := ∀ mC mM m', (∀ g, fr_SM g = true → m' g = mM g) → (∀ g, fr_SC g = true → g < 134 → m' g = mC g) → J mC mM → J m' m'
def q_Sim (J : mm_M → mm_M → Prop) (n : Nat) : Prop := ∀ (m : mm_M) (a : Nat → Int32), J m m → a 0 &&& 63 = Int32.ofNat n → ∃ mC mM, q_To m a mC mM ∧ J mC mM
theorem st_run_J {J : mm_M → mm_M → Prop} (hJ : q_Tie J) (h0 : ∀ (xs : Nat → Int32) (L : Nat), J (st_m0 xs L) (st_m0 xs L)) (hop : ∀ n, n < 38 → q_Sim J n) (xs : Nat → Int32) (L : Nat) (hL : L ≤ 4608) : st_Run xs L := by
  refine st_run_of (I := fun m => J m m) h0 (fun m a hm => ?_) xs L hL
  obtain ⟨n, hn64, ho⟩ := q_op64 (a 0)
  by_cases h38 : 38 ≤ n
  · exact ⟨m, hm, rfl, r_nop h38 hn64 ho⟩
  · obtain ⟨mC, mM, ⟨m', h1, h2, h3, h4⟩, h5⟩ := hop n (Nat.not_le.mp h38) m a hm ho
    exact ⟨m', hJ mC mM m' h3 h4 h5, h2, h1⟩
