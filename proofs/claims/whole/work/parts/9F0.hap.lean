/-! event -/
def z_hap (k : Nat) (K A x : Int32) : Prop := (k = 0 → K = 0 ∧ 1 ≤ x.toInt ∧ x.toInt ≤ 20000) ∧ (k = 1 → K = 0 ∧ 0 ≤ x.toInt ∧ x.toInt ≤ A.toInt) ∧ (k = 2 → K = 3 ∧ x = 0) ∧ (k = 3 → x = 0)
theorem i_20000 : (20000 : Int32).toInt = 20000 := by decide
theorem c_hap {m : mm_M} {i k p : Nat} {P x : Int32} (hk : k < 4) (hP : P.toInt = (p : Int)) (hp : p < 24) : vW (f_X8_canHappen i (Int32.ofNat k) P x m) (fun r => (r = 1 ∧ z_hap k (m 37 i p) (m 38 i p) x) ∨ (r = 0 ∧ ¬ z_hap k (m 37 i p) (m 38 i p) x)) := by
  have iP : mm_in P 24 := v_in.mpr (by omega)
  have kP := n_k hP
  unfold f_X8_canHappen
  refine v_ifp iP (v_lF ?_)
  by_cases hK : m 37 i p = 0
  · refine v_ifn (by rw [kP]; exact fun z => z hK) ?_
    rcases (by omega : k = 0 ∨ k = 1 ∨ k = 2 ∨ k = 3) with rfl | rfl | rfl | rfl
    · refine v_ifp (by decide) (v_ifn (by decide) ?_)
      by_cases h1 : x.toInt < 1
      · exact v_ifp (by rw [iA_lt, i_1]; exact h1) (v_so (Or.inr ⟨rfl, fun z => by have := (z.1 rfl).2; omega⟩))
      refine v_ifn (by rw [iA_lt, i_1]; exact h1) ?_
      by_cases h2 : 20000 < x.toInt
      · exact v_ifp (by rw [iA_lt, i_20000]; exact h2) (v_so (Or.inr ⟨rfl, fun z => by have := (z.1 rfl).2; omega⟩))
      · exact v_ifn (by rw [iA_lt, i_20000]; exact h2) (v_so (Or.inl ⟨rfl, fun _ => ⟨hK, by omega, by omega⟩, fun z => absurd z (by decide), fun z => absurd z (by decide), fun z => absurd z (by decide)⟩))
    · refine v_ifn (by decide) (v_ifp (by decide) (v_ifn (by decide) ?_))
      by_cases h1 : x.toInt < 0
      · exact v_ifp (by rw [iA_lt, i_0]; exact h1) (v_so (Or.inr ⟨rfl, fun z => by have := (z.2.1 rfl).2; omega⟩))
      refine v_ifn (by rw [iA_lt, i_0]; exact h1) (v_ifp iP ?_)
      by_cases h2 : (m 38 i p).toInt < x.toInt
      · exact v_ifp (by rw [kP, iA_lt]; exact h2) (v_so (Or.inr ⟨rfl, fun z => by have := (z.2.1 rfl).2; omega⟩))
      · exact v_ifn (by rw [kP, iA_lt]; exact h2) (v_so (Or.inl ⟨rfl, fun z => absurd z (by decide), fun _ => ⟨hK, by omega, by omega⟩, fun z => absurd z (by decide), fun z => absurd z (by decide)⟩))
    · refine v_ifn (by decide) (v_ifn (by decide) (v_ifp (by decide) (v_ifp iP ?_)))
      exact v_ifp (by rw [kP, hK]; decide) (v_so (Or.inr ⟨rfl, fun z => by rw [hK] at z; exact absurd (z.2.2.1 rfl).1 (by decide)⟩))
    · refine v_ifn (by decide) (v_ifn (by decide) (v_ifn (by decide) ?_))
      by_cases h1 : x = 0
      · exact v_ifn (fun z => z h1) (v_so (Or.inl ⟨rfl, fun z => absurd z (by decide), fun z => absurd z (by decide), fun z => absurd z (by decide), fun _ => h1⟩))
      · exact v_ifp h1 (v_so (Or.inr ⟨rfl, fun z => h1 (z.2.2.2 rfl)⟩))
  · refine v_ifp (by rw [kP]; exact hK) ?_
    rcases (by omega : k = 0 ∨ k = 1 ∨ k = 2 ∨ k = 3) with rfl | rfl | rfl | rfl
    · refine v_ifp (by decide) (v_ifp (by decide) (v_so (Or.inr ⟨rfl, fun z => hK (z.1 rfl).1⟩)))
    · refine v_ifn (by decide) (v_ifp (by decide) (v_ifp (by decide) (v_so (Or.inr ⟨rfl, fun z => hK (z.2.1 rfl).1⟩))))
    · refine v_ifn (by decide) (v_ifn (by decide) (v_ifp (by decide) (v_ifp iP ?_)))
      by_cases h3 : m 37 i p = 3
      · refine v_ifn (by rw [kP]; exact fun z => z h3) ?_
        by_cases h1 : x = 0
        · exact v_ifn (fun z => z h1) (v_so (Or.inl ⟨rfl, fun z => absurd z (by decide), fun z => absurd z (by decide), fun _ => ⟨h3, h1⟩, fun z => absurd z (by decide)⟩))
        · exact v_ifp h1 (v_so (Or.inr ⟨rfl, fun z => h1 (z.2.2.1 rfl).2⟩))
      · exact v_ifp (by rw [kP]; exact h3) (v_so (Or.inr ⟨rfl, fun z => h3 (z.2.2.1 rfl).1⟩))
    · refine v_ifn (by decide) (v_ifn (by decide) (v_ifn (by decide) ?_))
      by_cases h1 : x = 0
      · exact v_ifn (fun z => z h1) (v_so (Or.inl ⟨rfl, fun z => absurd z (by decide), fun z => absurd z (by decide), fun z => absurd z (by decide), fun _ => h1⟩))
      · exact v_ifp h1 (v_so (Or.inr ⟨rfl, fun z => h1 (z.2.2.2 rfl)⟩))
theorem r_hap {m : mm_M} {k x : Nat} {X y : Int32} (hk : k < 4) (hX : X.toInt = (x : Int)) (hx : x < 216) : vW (f_X12_mayHappen (Int32.ofNat k) X y m) (fun r => (r = 1 ∧ z_hap k (m 69 0 x) (m 70 0 x) y) ∨ (r = 0 ∧ ¬ z_hap k (m 69 0 x) (m 70 0 x) y)) := by
  have iX : mm_in X 216 := v_in.mpr (by omega)
  have kX := n_k hX
  unfold f_X12_mayHappen
  rcases (by omega : k = 0 ∨ k = 1 ∨ k = 2 ∨ k = 3) with rfl | rfl | rfl | rfl
  · refine v_ifp (by decide) (v_ifp iX ?_)
    by_cases hK : m 69 0 x = 0
    · refine v_ifn (by rw [kX]; exact fun z => z hK) ?_
      by_cases h1 : 1 ≤ y.toInt ∧ y.toInt ≤ 20000
      · refine v_b1e (r_is1 (by rw [i_1, i_20000]; exact h1)) (v_ifn (by decide) ?_)
        exact v_so (Or.inl ⟨rfl, fun _ => ⟨hK, h1⟩, fun z => absurd z (by decide), fun z => absurd z (by decide), fun z => absurd z (by decide)⟩)
      · refine v_b1e (r_is0 (by rw [i_1, i_20000]; exact h1)) (v_ifp (by decide) ?_)
        exact v_so (Or.inr ⟨rfl, fun z => h1 (z.1 rfl).2⟩)
    · exact v_ifp (by rw [kX]; exact hK) (v_so (Or.inr ⟨rfl, fun z => hK (z.1 rfl).1⟩))
  · refine v_ifn (by decide) (v_ifp (by decide) (v_ifp iX ?_))
    by_cases hK : m 69 0 x = 0
    · refine v_ifn (by rw [kX]; exact fun z => z hK) (v_ifp iX ?_)
      by_cases h1 : 0 ≤ y.toInt ∧ y.toInt ≤ (m 70 0 x).toInt
      · refine v_b1e (r_is1 (by rw [i_0, kX]; exact h1)) (v_ifn (by decide) ?_)
        exact v_so (Or.inl ⟨rfl, fun z => absurd z (by decide), fun _ => ⟨hK, h1⟩, fun z => absurd z (by decide), fun z => absurd z (by decide)⟩)
      · refine v_b1e (r_is0 (by rw [i_0, kX]; exact h1)) (v_ifp (by decide) ?_)
        exact v_so (Or.inr ⟨rfl, fun z => h1 (z.2.1 rfl).2⟩)
    · exact v_ifp (by rw [kX]; exact hK) (v_so (Or.inr ⟨rfl, fun z => hK (z.2.1 rfl).1⟩))
  · refine v_ifn (by decide) (v_ifn (by decide) (v_ifp (by decide) (v_ifp iX ?_)))
    by_cases h3 : m 69 0 x = 3
    · refine v_ifn (by rw [kX]; exact fun z => z h3) ?_
      by_cases h1 : y = 0
      · exact v_ifn (fun z => z h1) (v_so (Or.inl ⟨rfl, fun z => absurd z (by decide), fun z => absurd z (by decide), fun _ => ⟨h3, h1⟩, fun z => absurd z (by decide)⟩))
      · exact v_ifp h1 (v_so (Or.inr ⟨rfl, fun z => h1 (z.2.2.1 rfl).2⟩))
    · exact v_ifp (by rw [kX]; exact h3) (v_so (Or.inr ⟨rfl, fun z => h3 (z.2.2.1 rfl).1⟩))
  · refine v_ifn (by decide) (v_ifn (by decide) (v_ifn (by decide) ?_))
    by_cases h1 : y = 0
    · exact v_ifn (fun z => z h1) (v_so (Or.inl ⟨rfl, fun z => absurd z (by decide), fun z => absurd z (by decide), fun z => absurd z (by decide), fun _ => h1⟩))
    · exact v_ifp h1 (v_so (Or.inr ⟨rfl, fun z => h1 (z.2.2.2 rfl)⟩))
