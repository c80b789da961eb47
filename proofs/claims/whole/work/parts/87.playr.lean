/-! events told by the reference -/
/-- the reference's events are these -/
def z_eM (m : mm_M) (ev : zE) (E : Nat) : Prop := ∀ e, e < E → m 73 0 e = ev 0 e ∧ m 74 0 e = ev 1 e ∧ m 75 0 e = ev 2 e ∧ m 76 0 e = ev 3 e ∧ m 77 0 e = ev 4 e ∧ m 78 0 e = ev 5 e ∧ m 79 0 e = ev 6 e
theorem r_known {m : mm_M} {ev : zE} {E e : Nat} {a1 k : Int32} (hev : z_eM m ev E) (he : e < E) (hE : E ≤ 120) (ha : a1.toInt = (e : Int)) : f_X12_isKnown a1 k m = some (if (ev 5 e).toInt ≤ k.toInt ∧ (ev 6 e = -1 ∨ k.toInt < (ev 6 e).toInt) then 1 else 0) := by
  have ka : a1.toNatClampNeg = e := n_k ha
  obtain ⟨_, _, _, _, _, s5, s6⟩ := hev e he
  apply v_is
  unfold f_X12_isKnown
  by_cases h1 : k.toInt < (ev 5 e).toInt
  · (repeat (first | with_reducible refine v_l1 ?_ | with_reducible refine v_lN ?_ | with_reducible refine v_lO ?_ | with_reducible refine v_lM ?_ | with_reducible refine v_lF ?_ | with_reducible refine v_ifp (by first | assumption | omega | (simp (disch := first | omega | fail) only [v_in, iA_le, iA_lt, n_1, n_0, n_p1, Int32.reduceToInt, ne_eq, not_true_eq_false, not_false_eq_true, eq_self, Int.toNat_natCast, ha, ka, s5] <;> omega) | decide | fail) ?_ | with_reducible refine v_ifn (by first | assumption | omega | (simp (disch := first | omega | fail) only [v_in, iA_le, iA_lt, n_1, n_0, n_p1, Int32.reduceToInt, ne_eq, not_true_eq_false, not_false_eq_true, eq_self, Int.toNat_natCast, ha, ka, s5] <;> omega) | decide | fail) ?_))
    exact v_so (if_neg (fun h => by omega)).symm
  · by_cases h2 : ev 6 e = -1
    · (repeat (first | with_reducible refine v_l1 ?_ | with_reducible refine v_lN ?_ | with_reducible refine v_lO ?_ | with_reducible refine v_lM ?_ | with_reducible refine v_lF ?_ | with_reducible refine v_ifp (by first | assumption | omega | (simp (disch := first | omega | fail) only [v_in, iA_le, iA_lt, n_1, n_0, n_p1, Int32.reduceToInt, ne_eq, not_true_eq_false, not_false_eq_true, eq_self, Int.toNat_natCast, ha, ka, s5, s6, h2] <;> omega) | decide | fail) ?_ | with_reducible refine v_ifn (by first | assumption | omega | (simp (disch := first | omega | fail) only [v_in, iA_le, iA_lt, n_1, n_0, n_p1, Int32.reduceToInt, ne_eq, not_true_eq_false, not_false_eq_true, eq_self, Int.toNat_natCast, ha, ka, s5, s6, h2] <;> omega) | decide | fail) ?_))
      exact v_so (if_pos ⟨by omega, Or.inl h2⟩).symm
    · by_cases h3 : (ev 6 e).toInt ≤ k.toInt
      · (repeat (first | with_reducible refine v_l1 ?_ | with_reducible refine v_lN ?_ | with_reducible refine v_lO ?_ | with_reducible refine v_lM ?_ | with_reducible refine v_lF ?_ | with_reducible refine v_ifp (by first | assumption | omega | (simp (disch := first | omega | fail) only [v_in, iA_le, iA_lt, n_1, n_0, n_p1, Int32.reduceToInt, ne_eq, not_true_eq_false, not_false_eq_true, eq_self, Int.toNat_natCast, ha, ka, s5, s6, h2] <;> omega) | decide | fail) ?_ | with_reducible refine v_ifn (by first | assumption | omega | (simp (disch := first | omega | fail) only [v_in, iA_le, iA_lt, n_1, n_0, n_p1, Int32.reduceToInt, ne_eq, not_true_eq_false, not_false_eq_true, eq_self, Int.toNat_natCast, ha, ka, s5, s6, h2] <;> omega) | decide | fail) ?_))
        exact v_so (if_neg (fun h => by
          rcases h.2 with h | h
          · exact h2 h
          · omega)).symm
      · (repeat (first | with_reducible refine v_l1 ?_ | with_reducible refine v_lN ?_ | with_reducible refine v_lO ?_ | with_reducible refine v_lM ?_ | with_reducible refine v_lF ?_ | with_reducible refine v_ifp (by first | assumption | omega | (simp (disch := first | omega | fail) only [v_in, iA_le, iA_lt, n_1, n_0, n_p1, Int32.reduceToInt, ne_eq, not_true_eq_false, not_false_eq_true, eq_self, Int.toNat_natCast, ha, ka, s5, s6, h2] <;> omega) | decide | fail) ?_ | with_reducible refine v_ifn (by first | assumption | omega | (simp (disch := first | omega | fail) only [v_in, iA_le, iA_lt, n_1, n_0, n_p1, Int32.reduceToInt, ne_eq, not_true_eq_false, not_false_eq_true, eq_self, Int.toNat_natCast, ha, ka, s5, s6, h2] <;> omega) | decide | fail) ?_))
        exact v_so (if_pos ⟨by omega, Or.inr (by omega)⟩).symm
def z_mn (ev : zE) (t D k : Int32) (p x : Nat) : Prop := z_a ev t D k p x ∧ ev 0 x = 3
def z_MX (ev : zE) (t D k : Int32) (p j : Nat) (r : Int32) : Prop := (r.toInt = -1 ∧ ∀ x, x < j → ¬ z_mn ev t D k p x) ∨ ∃ e, e < j ∧ r.toInt = (e : Int) ∧ z_mn ev t D k p e ∧ ∀ x, x < j → z_mn ev t D k p x → x = e ∨ z_b ev x e
theorem z_MX_no {ev : zE} {t D k : Int32} {p j : Nat} {r : Int32} (hn : ¬ z_mn ev t D k p j) (h : z_MX ev t D k p j r) : z_MX ev t D k p (j + 1) r := by
  rcases h with ⟨h1, h2⟩ | ⟨e, h1, h2, h3, h4⟩
  · refine Or.inl ⟨h1, fun x hx => ?_⟩
    by_cases hxj : x = j
    · rw [hxj]
      exact hn
    · exact h2 x (by omega)
  · refine Or.inr ⟨e, by omega, h2, h3, fun x hx hm => ?_⟩
    by_cases hxj : x = j
    · rw [hxj] at hm
      exact (hn hm).elim
    · exact h4 x (by omega) hm
theorem r_mended {m : mm_M} {ev : zE} {E p : Nat} {t a2 D k : Int32} (hev : z_eM m ev E) (hE : (m 12 0 6).toInt = (E : Int)) (hE2 : E ≤ 120) (ha2 : a2 = Int32.ofNat p) : vW (f_X12_mended t a2 D k m) (fun r => z_MX ev t D k p E r) := by
  unfold f_X12_mended
  refine v_s1 (P := fun r => z_MX ev t D k p E r) ?_ (fun c h => v_so h)
  refine v_for (fun j s => s.2.toInt = (j : Int) ∧ z_MX ev t D k p j s.1) 0 E (Nat.zero_le _) (by omega) ⟨i_0, Or.inl ⟨by decide, fun x hx => absurd hx (Nat.not_lt_zero x)⟩⟩ ?_ ?_
  · rintro j ⟨r, v⟩ hj ⟨hv, hm⟩
    dsimp only at hv hm ⊢
    obtain ⟨s0, s1, s2, s3, s4, s5, s6⟩ := hev j hj
    have kv : v.toNatClampNeg = j := n_k hv
    have kn := r_known (k := k) hev hj hE2 hv
    have nx : (v + 1).toInt = ((j + 1 : Nat) : Int) := n_s3 hv (by omega)
    have fin : ¬ z_mn ev t D k p j → vW (some (Sum.inl (r, v + 1)) : Option ((Int32 × Int32) ⊕ Int32)) (v_st (fun s => s.2.toInt = ((j + 1 : Nat) : Int) ∧ z_MX ev t D k p (j + 1) s.1) (fun r => z_MX ev t D k p E r)) := fun h => v_il ⟨nx, z_MX_no h hm⟩
    by_cases h0 : ev 0 j = 3
    · by_cases h1 : ev 1 j = t
      · by_cases h2 : ev 2 j = a2
        · by_cases h4 : (ev 4 j).toInt ≤ D.toInt
          · by_cases h5 : (ev 5 j).toInt ≤ k.toInt ∧ (ev 6 j = -1 ∨ k.toInt < (ev 6 j).toInt)
            · rw [if_pos h5] at kn
              have hmn : z_mn ev t D k p j := ⟨⟨h1, h2.trans ha2, h4, h5⟩, h0⟩
              clear h5
              rcases hm with ⟨g1, g2⟩ | ⟨e, g1, g2, g3, g4⟩
              · have hr : r = -1 := by rw [iA_eq, g1, i_m1]
                (repeat (first | with_reducible refine v_l1 ?_ | with_reducible refine v_lN ?_ | with_reducible refine v_lO ?_ | with_reducible refine v_lM ?_ | with_reducible refine v_lF ?_ | with_reducible refine v_ifp (by first | assumption | omega | (simp (disch := first | omega | fail) only [v_in, iA_le, iA_lt, n_1, n_0, n_p1, Int32.reduceToInt, ne_eq, not_true_eq_false, not_false_eq_true, eq_self, Int.toNat_natCast, hv, hE, kv, s0, s1, s2, s4, h0, h1, h2, hr] <;> omega) | decide | fail) ?_ | with_reducible refine v_ifn (by first | assumption | omega | (simp (disch := first | omega | fail) only [v_in, iA_le, iA_lt, n_1, n_0, n_p1, Int32.reduceToInt, ne_eq, not_true_eq_false, not_false_eq_true, eq_self, Int.toNat_natCast, hv, hE, kv, s0, s1, s2, s4, h0, h1, h2, hr] <;> omega) | decide | fail) ?_ | with_reducible refine v_b1e (kn) ?_))
                refine v_il ⟨nx, Or.inr ⟨j, by omega, hv, hmn, fun x hx hx2 => ?_⟩⟩
                by_cases hxj : x = j
                · exact Or.inl hxj
                · exact (g2 x (by omega) hx2).elim
              · have hr : ¬ r = -1 := n_ne (by rw [g2, i_m1]; omega)
                have kr : r.toNatClampNeg = e := n_k g2
                have s4e := (hev e (by omega)).2.2.2.2.1
                by_cases hd : (ev 4 j).toInt < (ev 4 e).toInt
                · (repeat (first | with_reducible refine v_l1 ?_ | with_reducible refine v_lN ?_ | with_reducible refine v_lO ?_ | with_reducible refine v_lM ?_ | with_reducible refine v_lF ?_ | with_reducible refine v_ifp (by first | assumption | omega | (simp (disch := first | omega | fail) only [v_in, iA_le, iA_lt, n_1, n_0, n_p1, Int32.reduceToInt, ne_eq, not_true_eq_false, not_false_eq_true, eq_self, Int.toNat_natCast, hv, hE, kv, s0, s1, s2, s4, h0, h1, h2, hr, g2, kr, s4e] <;> omega) | decide | fail) ?_ | with_reducible refine v_ifn (by first | assumption | omega | (simp (disch := first | omega | fail) only [v_in, iA_le, iA_lt, n_1, n_0, n_p1, Int32.reduceToInt, ne_eq, not_true_eq_false, not_false_eq_true, eq_self, Int.toNat_natCast, hv, hE, kv, s0, s1, s2, s4, h0, h1, h2, hr, g2, kr, s4e] <;> omega) | decide | fail) ?_ | with_reducible refine v_b1e (kn) ?_))
                  refine v_il ⟨nx, Or.inr ⟨e, by omega, g2, g3, fun x hx hx2 => ?_⟩⟩
                  by_cases hxj : x = j
                  · rw [hxj]
                    exact Or.inr (Or.inl hd)
                  · exact g4 x (by omega) hx2
                · (repeat (first | with_reducible refine v_l1 ?_ | with_reducible refine v_lN ?_ | with_reducible refine v_lO ?_ | with_reducible refine v_lM ?_ | with_reducible refine v_lF ?_ | with_reducible refine v_ifp (by first | assumption | omega | (simp (disch := first | omega | fail) only [v_in, iA_le, iA_lt, n_1, n_0, n_p1, Int32.reduceToInt, ne_eq, not_true_eq_false, not_false_eq_true, eq_self, Int.toNat_natCast, hv, hE, kv, s0, s1, s2, s4, h0, h1, h2, hr, g2, kr, s4e] <;> omega) | decide | fail) ?_ | with_reducible refine v_ifn (by first | assumption | omega | (simp (disch := first | omega | fail) only [v_in, iA_le, iA_lt, n_1, n_0, n_p1, Int32.reduceToInt, ne_eq, not_true_eq_false, not_false_eq_true, eq_self, Int.toNat_natCast, hv, hE, kv, s0, s1, s2, s4, h0, h1, h2, hr, g2, kr, s4e] <;> omega) | decide | fail) ?_ | with_reducible refine v_b1e (kn) ?_))
                  have hej : z_b ev e j := by
                    unfold z_b
                    omega
                  refine v_il ⟨nx, Or.inr ⟨j, by omega, hv, hmn, fun x hx hx2 => ?_⟩⟩
                  by_cases hxj : x = j
                  · exact Or.inl hxj
                  · rcases g4 x (by omega) hx2 with h | h
                    · rw [h]
                      exact Or.inr hej
                    · exact Or.inr (z_b_tr h hej)
            · rw [if_neg h5] at kn
              have hmn : ¬ z_mn ev t D k p j := fun h => h5 h.1.2.2.2
              clear h5
              (repeat (first | with_reducible refine v_l1 ?_ | with_reducible refine v_lN ?_ | with_reducible refine v_lO ?_ | with_reducible refine v_lM ?_ | with_reducible refine v_lF ?_ | with_reducible refine v_ifp (by first | assumption | omega | (simp (disch := first | omega | fail) only [v_in, iA_le, iA_lt, n_1, n_0, n_p1, Int32.reduceToInt, ne_eq, not_true_eq_false, not_false_eq_true, eq_self, Int.toNat_natCast, hv, hE, kv, s0, s1, s2, s4, h0, h1, h2] <;> omega) | decide | fail) ?_ | with_reducible refine v_ifn (by first | assumption | omega | (simp (disch := first | omega | fail) only [v_in, iA_le, iA_lt, n_1, n_0, n_p1, Int32.reduceToInt, ne_eq, not_true_eq_false, not_false_eq_true, eq_self, Int.toNat_natCast, hv, hE, kv, s0, s1, s2, s4, h0, h1, h2] <;> omega) | decide | fail) ?_ | with_reducible refine v_b1e (kn) ?_))
              exact fin hmn
          · have hmn : ¬ z_mn ev t D k p j := fun h => h4 h.1.2.2.1
            (repeat (first | with_reducible refine v_l1 ?_ | with_reducible refine v_lN ?_ | with_reducible refine v_lO ?_ | with_reducible refine v_lM ?_ | with_reducible refine v_lF ?_ | with_reducible refine v_ifp (by first | assumption | omega | (simp (disch := first | omega | fail) only [v_in, iA_le, iA_lt, n_1, n_0, n_p1, Int32.reduceToInt, ne_eq, not_true_eq_false, not_false_eq_true, eq_self, Int.toNat_natCast, hv, hE, kv, s0, s1, s2, s4, h0, h1, h2] <;> omega) | decide | fail) ?_ | with_reducible refine v_ifn (by first | assumption | omega | (simp (disch := first | omega | fail) only [v_in, iA_le, iA_lt, n_1, n_0, n_p1, Int32.reduceToInt, ne_eq, not_true_eq_false, not_false_eq_true, eq_self, Int.toNat_natCast, hv, hE, kv, s0, s1, s2, s4, h0, h1, h2] <;> omega) | decide | fail) ?_))
            exact fin hmn
        · have hmn : ¬ z_mn ev t D k p j := fun h => h2 (h.1.2.1.trans ha2.symm)
          (repeat (first | with_reducible refine v_l1 ?_ | with_reducible refine v_lN ?_ | with_reducible refine v_lO ?_ | with_reducible refine v_lM ?_ | with_reducible refine v_lF ?_ | with_reducible refine v_ifp (by first | assumption | omega | (simp (disch := first | omega | fail) only [v_in, iA_le, iA_lt, n_1, n_0, n_p1, Int32.reduceToInt, ne_eq, not_true_eq_false, not_false_eq_true, eq_self, Int.toNat_natCast, hv, hE, kv, s0, s1, s2, s4, h0, h1, h2] <;> omega) | decide | fail) ?_ | with_reducible refine v_ifn (by first | assumption | omega | (simp (disch := first | omega | fail) only [v_in, iA_le, iA_lt, n_1, n_0, n_p1, Int32.reduceToInt, ne_eq, not_true_eq_false, not_false_eq_true, eq_self, Int.toNat_natCast, hv, hE, kv, s0, s1, s2, s4, h0, h1, h2] <;> omega) | decide | fail) ?_))
          exact fin hmn
      · have hmn : ¬ z_mn ev t D k p j := fun h => h1 h.1.1
        (repeat (first | with_reducible refine v_l1 ?_ | with_reducible refine v_lN ?_ | with_reducible refine v_lO ?_ | with_reducible refine v_lM ?_ | with_reducible refine v_lF ?_ | with_reducible refine v_ifp (by first | assumption | omega | (simp (disch := first | omega | fail) only [v_in, iA_le, iA_lt, n_1, n_0, n_p1, Int32.reduceToInt, ne_eq, not_true_eq_false, not_false_eq_true, eq_self, Int.toNat_natCast, hv, hE, kv, s0, s1, s2, s4, h0, h1] <;> omega) | decide | fail) ?_ | with_reducible refine v_ifn (by first | assumption | omega | (simp (disch := first | omega | fail) only [v_in, iA_le, iA_lt, n_1, n_0, n_p1, Int32.reduceToInt, ne_eq, not_true_eq_false, not_false_eq_true, eq_self, Int.toNat_natCast, hv, hE, kv, s0, s1, s2, s4, h0, h1] <;> omega) | decide | fail) ?_))
        exact fin hmn
    · have hmn : ¬ z_mn ev t D k p j := fun h => h0 h.2
      (repeat (first | with_reducible refine v_l1 ?_ | with_reducible refine v_lN ?_ | with_reducible refine v_lO ?_ | with_reducible refine v_lM ?_ | with_reducible refine v_lF ?_ | with_reducible refine v_ifp (by first | assumption | omega | (simp (disch := first | omega | fail) only [v_in, iA_le, iA_lt, n_1, n_0, n_p1, Int32.reduceToInt, ne_eq, not_true_eq_false, not_false_eq_true, eq_self, Int.toNat_natCast, hv, hE, kv, s0, s1, s2, s4, h0] <;> omega) | decide | fail) ?_ | with_reducible refine v_ifn (by first | assumption | omega | (simp (disch := first | omega | fail) only [v_in, iA_le, iA_lt, n_1, n_0, n_p1, Int32.reduceToInt, ne_eq, not_true_eq_false, not_false_eq_true, eq_self, Int.toNat_natCast, hv, hE, kv, s0, s1, s2, s4, h0] <;> omega) | decide | fail) ?_))
      exact fin hmn
  · rintro ⟨r, v⟩ ⟨hv, hm⟩
    dsimp only at hv hm ⊢
    (repeat (first | with_reducible refine v_l1 ?_ | with_reducible refine v_lN ?_ | with_reducible refine v_lO ?_ | with_reducible refine v_lM ?_ | with_reducible refine v_lF ?_ | with_reducible refine v_ifp (by first | assumption | omega | (simp (disch := first | omega | fail) only [v_in, iA_le, iA_lt, n_1, n_0, n_p1, Int32.reduceToInt, ne_eq, not_true_eq_false, not_false_eq_true, eq_self, Int.toNat_natCast, hv, hE] <;> omega) | decide | fail) ?_ | with_reducible refine v_ifn (by first | assumption | omega | (simp (disch := first | omega | fail) only [v_in, iA_le, iA_lt, n_1, n_0, n_p1, Int32.reduceToInt, ne_eq, not_true_eq_false, not_false_eq_true, eq_self, Int.toNat_natCast, hv, hE] <;> omega) | decide | fail) ?_))
    exact v_ir hm
