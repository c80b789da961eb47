/-! reading memory that was written; the functions' glue -/
theorem mw_get {m : mm_M} {g i k g' i' k' : Nat} {x : Int32} : mm_w m g i k x g' i' k' = if g' = g ∧ i' = i ∧ k' = k then x else m g' i' k' := by
  unfold mm_w mm_wa upd
  by_cases h : g' = g ∧ i' = i
  · rw [if_pos h]
    obtain ⟨rfl, rfl⟩ := h
    by_cases hk : k' = k
    · rw [if_pos hk, if_pos ⟨rfl, rfl, hk⟩]
    · rw [if_neg hk, if_neg (fun z => hk z.2.2)]
  · rw [if_neg h, if_neg (fun z => h ⟨z.1, z.2.1⟩)]
theorem mw_row {m : mm_M} {g i k g' i' : Nat} {x : Int32} (h : ¬ (g' = g ∧ i' = i)) : mm_w m g i k x g' i' = m g' i' := if_neg h
theorem ml_let {α β : Type} (a : α) (B : α → Option β) : mm_let a B = B a := rfl
theorem ml_b1 {α β : Type} (a : α) (B : α → Option β) : mm_b1 (some a) B = B a := rfl
theorem ml_b2 {α γ β : Type} (a : α) (c : γ) (B : α → γ → Option β) : mm_b2 (some (a, c)) B = B a c := rfl
/-- a loop that comes to its end: an invariant, a measure -/
theorem ml_loop {σ ρ : Type} {step : σ → Option (σ ⊕ ρ)} (μ : σ → Nat) (Inv : σ → Prop) (Post : ρ → Prop) (hs : ∀ s, Inv s → (∃ s', step s = some (.inl s') ∧ Inv s' ∧ μ s' < μ s) ∨ ∃ r, step s = some (.inr r) ∧ Post r) : ∀ (n : Nat) (s : σ), Inv s → μ s < n → ∃ r, mm_loop step n s = some r ∧ Post r
  | 0, s, _, h => absurd h (Nat.not_lt_zero _)
  | n + 1, s, hi, h => by
    unfold mm_loop
    rcases hs s hi with ⟨s', h1, h2, h3⟩ | ⟨r, h1, h2⟩
    · rw [h1]
      exact ml_loop μ Inv Post hs n s' h2 (by omega)
    · rw [h1]
      exact ⟨r, rfl, h2⟩
theorem ml_loopfu {σ ρ : Type} {step : σ → Option (σ ⊕ ρ)} (μ : σ → Nat) (Inv : σ → Prop) (Post : ρ → Prop) (hs : ∀ s, Inv s → (∃ s', step s = some (.inl s') ∧ Inv s' ∧ μ s' < μ s) ∨ ∃ r, step s = some (.inr r) ∧ Post r) {s : σ} (hi : Inv s) (hm : μ s < 4294967296) : ∃ r, mm_loop step mm_fu s = some r ∧ Post r := ml_loop μ Inv Post hs mm_fu s hi hm
/-! Int32 as integers -/
theorem iA_add {a b : Int32} (h1 : -2147483648 ≤ a.toInt + b.toInt) (h2 : a.toInt + b.toInt ≤ 2147483647) : (a + b).toInt = a.toInt + b.toInt := by
  rw [Int32.toInt_add, Int.bmod_eq_of_le (by omega) (by omega)]
theorem iA_sub {a b : Int32} (h1 : -2147483648 ≤ a.toInt - b.toInt) (h2 : a.toInt - b.toInt ≤ 2147483647) : (a - b).toInt = a.toInt - b.toInt := by
  rw [Int32.toInt_sub, Int.bmod_eq_of_le (by omega) (by omega)]
theorem iA_mul {a b : Int32} (h1 : -2147483648 ≤ a.toInt * b.toInt) (h2 : a.toInt * b.toInt ≤ 2147483647) : (a * b).toInt = a.toInt * b.toInt := by
  rw [Int32.toInt_mul, Int.bmod_eq_of_le (by omega) (by omega)]
theorem iA_lo (a : Int32) : -2147483648 ≤ a.toInt := Int32.le_toInt a
theorem iA_hi (a : Int32) : a.toInt ≤ 2147483647 := by have := Int32.toInt_lt a; omega
theorem iA_le {a b : Int32} : a ≤ b ↔ a.toInt ≤ b.toInt := Int32.le_iff_toInt_le
theorem iA_lt {a b : Int32} : a < b ↔ a.toInt < b.toInt := Int32.lt_iff_toInt_lt
theorem iA_eq {a b : Int32} : a = b ↔ a.toInt = b.toInt := Int32.toInt_inj.symm
theorem iA_cl (a : Int32) : a.toNatClampNeg = a.toInt.toNat := rfl
