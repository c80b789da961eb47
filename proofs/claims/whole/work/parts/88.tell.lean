/-! the state that the reference tells -/
def z_SC (ev : zE) (t D k : Int32) (p : Nat) (M L : List Nat) (b c o cb : Int32) : Prop := b = z_sum (z_F ev t D k p M) L ∧ ((∃ e, e ∈ L ∧ z_ac ev t D k p M e ∧ ev 0 e = 1 ∧ c = ev 3 e ∧ cb.toInt = (e : Int) ∧ ∀ x, x ∈ L → z_ac ev t D k p M x → ev 0 x = 1 → x = e ∨ z_b ev x e) ∨ ((∀ e, e ∈ L → z_ac ev t D k p M e → ¬ ev 0 e = 1) ∧ c = -1)) ∧ ((∃ e, e ∈ L ∧ z_ac ev t D k p M e ∧ ev 0 e = 2 ∧ o = 1) ∨ ((∀ e, e ∈ L → z_ac ev t D k p M e → ¬ ev 0 e = 2) ∧ o = 0))
theorem z_SC_SS {ev : zE} {t D k : Int32} {p : Nat} {M L : List Nat} {b c o cb : Int32} (h : z_SC ev t D k p M L b c o cb) : z_SS ev t D k p M L (b, c, o) := by
  obtain ⟨h1, h2, h3⟩ := h
  refine ⟨h1, ?_, h3⟩
  rcases h2 with ⟨e, a1, a2, a3, a4, _, a5⟩ | h2
  · exact Or.inl ⟨e, a1, a2, a3, a4, a5⟩
  · exact Or.inr h2
theorem z_me {L : List Nat} {j x : Nat} (h : x ∈ L ++ [j]) : x ∈ L ∨ x = j := by
  rcases List.mem_append.mp h with h | h
  · exact Or.inl h
  · exact Or.inr (List.mem_singleton.mp h)
/-- the part of cuts: nothing new -/
theorem z_SC_c0 {ev : zE} {t D k : Int32} {p j : Nat} {M L : List Nat} {c cb : Int32} (hn : ¬ (z_ac ev t D k p M j ∧ ev 0 j = 1)) (h : (∃ e, e ∈ L ∧ z_ac ev t D k p M e ∧ ev 0 e = 1 ∧ c = ev 3 e ∧ cb.toInt = (e : Int) ∧ ∀ x, x ∈ L → z_ac ev t D k p M x → ev 0 x = 1 → x = e ∨ z_b ev x e) ∨ ((∀ e, e ∈ L → z_ac ev t D k p M e → ¬ ev 0 e = 1) ∧ c = -1)) : (∃ e, e ∈ L ++ [j] ∧ z_ac ev t D k p M e ∧ ev 0 e = 1 ∧ c = ev 3 e ∧ cb.toInt = (e : Int) ∧ ∀ x, x ∈ L ++ [j] → z_ac ev t D k p M x → ev 0 x = 1 → x = e ∨ z_b ev x e) ∨ ((∀ e, e ∈ L ++ [j] → z_ac ev t D k p M e → ¬ ev 0 e = 1) ∧ c = -1) := by
  rcases h with ⟨e, a1, a2, a3, a4, a5, a6⟩ | ⟨a1, a2⟩
  · refine Or.inl ⟨e, List.mem_append_left _ a1, a2, a3, a4, a5, fun x hx hc h1 => ?_⟩
    rcases z_me hx with h | h
    · exact a6 x h hc h1
    · rw [h] at hc h1
      exact (hn ⟨hc, h1⟩).elim
  · refine Or.inr ⟨fun x hx hc h1 => ?_, a2⟩
    rcases z_me hx with h | h
    · exact a1 x h hc h1
    · rw [h] at hc h1
      exact hn ⟨hc, h1⟩
/-- the part of what is off: nothing new -/
theorem z_SC_o0 {ev : zE} {t D k : Int32} {p j : Nat} {M L : List Nat} {o : Int32} (hn : ¬ (z_ac ev t D k p M j ∧ ev 0 j = 2)) (h : (∃ e, e ∈ L ∧ z_ac ev t D k p M e ∧ ev 0 e = 2 ∧ o = 1) ∨ ((∀ e, e ∈ L → z_ac ev t D k p M e → ¬ ev 0 e = 2) ∧ o = 0)) : (∃ e, e ∈ L ++ [j] ∧ z_ac ev t D k p M e ∧ ev 0 e = 2 ∧ o = 1) ∨ ((∀ e, e ∈ L ++ [j] → z_ac ev t D k p M e → ¬ ev 0 e = 2) ∧ o = 0) := by
  rcases h with ⟨e, a1, a2, a3, a4⟩ | ⟨a1, a2⟩
  · exact Or.inl ⟨e, List.mem_append_left _ a1, a2, a3, a4⟩
  · refine Or.inr ⟨fun x hx hc h1 => ?_, a2⟩
    rcases z_me hx with h | h
    · exact a1 x h hc h1
    · rw [h] at hc h1
      exact hn ⟨hc, h1⟩
theorem z_SC_b0 {ev : zE} {t D k : Int32} {p j : Nat} {M L : List Nat} {b : Int32} (hn : ¬ (z_ac ev t D k p M j ∧ ev 0 j = 0)) (h : b = z_sum (z_F ev t D k p M) L) : b = z_sum (z_F ev t D k p M) (L ++ [j]) := by
  have eF : z_F ev t D k p M j = 0 := if_neg hn
  rw [z_sum_sn, eF, Int32.add_zero]
  exact h
theorem z_SC_no {ev : zE} {t D k : Int32} {p j : Nat} {M L : List Nat} {b c o cb : Int32} (hn : ¬ z_ac ev t D k p M j) (h : z_SC ev t D k p M L b c o cb) : z_SC ev t D k p M (L ++ [j]) b c o cb := ⟨z_SC_b0 (fun z => hn z.1) h.1, z_SC_c0 (fun z => hn z.1) h.2.1, z_SC_o0 (fun z => hn z.1) h.2.2⟩
set_option maxHeartbeats 4000000 in
theorem r_tell {m : mm_M} {ev : zE} {E : Nat} {t D k : Int32} (hev : z_eM m ev E) (hE : (m 12 0 6).toInt = (E : Int)) (hE2 : E ≤ 120) (hpt : ∀ e, e < E → ∃ p, p < 24 ∧ ev 2 e = Int32.ofNat p) (hkd : ∀ e, e < E → ev 0 e = 0 ∨ ev 0 e = 1 ∨ ev 0 e = 2 ∨ ev 0 e = 3) (hnum : ∀ e, e < E → ¬ ev 3 e = -1) : vW (f_X12_tellState t D k m) (fun c => fp [(87, none, none), (88, none, none), (89, none, none), (90, none, none)] m c ∧ ∀ p, p < 24 → z_SS ev t D k p (List.range E) (List.range E) (c 87 0 p, c 88 0 p, c 90 0 p)) := by
  unfold f_X12_tellState
  refine v_s1 r_clear ?_
  rintro c0 ⟨hf0, hc0⟩
  refine v_s1 (P := fun c => fp [(87, none, none), (88, none, none), (89, none, none), (90, none, none)] m c ∧ ∀ p, p < 24 → z_SC ev t D k p (List.range E) (List.range E) (c 87 0 p) (c 88 0 p) (c 90 0 p) (c 89 0 p)) ?_ (fun c h => v_so ⟨h.1, fun p hp => z_SC_SS (h.2 p hp)⟩)
  refine v_for (fun j s => s.1.toInt = (j : Int) ∧ fp [(87, none, none), (88, none, none), (89, none, none), (90, none, none)] m s.2 ∧ ∀ p, p < 24 → z_SC ev t D k p (List.range E) (List.range j) (s.2 87 0 p) (s.2 88 0 p) (s.2 90 0 p) (s.2 89 0 p)) 0 E (Nat.zero_le _) (by omega) ⟨i_0, fp_sb (by decide) hf0, fun p hp => ?_⟩ ?_ ?_
  · obtain ⟨a1, a2, a3⟩ := hc0 p hp
    dsimp only
    rw [a1, a2, a3]
    exact ⟨rfl, Or.inr ⟨fun e he => (by cases he), rfl⟩, Or.inr ⟨fun e he => (by cases he), rfl⟩⟩
  · rintro j ⟨u, c⟩ hj ⟨hu, hf, hc⟩
    dsimp only at hu hf hc ⊢
    rw [List.range_succ]
    have hevc : z_eM c ev E := fun e he => by
      obtain ⟨s0, s1, s2, s3, s4, s5, s6⟩ := hev e he
      exact ⟨(hf _ _ _ rfl).trans s0, (hf _ _ _ rfl).trans s1, (hf _ _ _ rfl).trans s2, (hf _ _ _ rfl).trans s3, (hf _ _ _ rfl).trans s4, (hf _ _ _ rfl).trans s5, (hf _ _ _ rfl).trans s6⟩
    have hEc : (c 12 0 6).toInt = (E : Int) := by rw [hf 12 0 6 rfl, hE]
    obtain ⟨s0, s1, s2, s3, s4, s5, s6⟩ := hevc j hj
    obtain ⟨q, hq, e2⟩ := hpt j hj
    have ku : u.toNatClampNeg = j := n_k hu
    have kn := r_known (k := k) hevc hj hE2 hu
    have nx : (u + 1).toInt = ((j + 1 : Nat) : Int) := n_s3 hu (by omega)
    have skip : (∀ p, p < 24 → ¬ z_ac ev t D k p (List.range E) j) → vW (some (Sum.inl (u + 1, c)) : Option ((Int32 × mm_M) ⊕ mm_M)) (v_st (fun s => s.1.toInt = ((j + 1 : Nat) : Int) ∧ fp [(87, none, none), (88, none, none), (89, none, none), (90, none, none)] m s.2 ∧ ∀ p, p < 24 → z_SC ev t D k p (List.range E) (List.range j ++ [j]) (s.2 87 0 p) (s.2 88 0 p) (s.2 90 0 p) (s.2 89 0 p)) (fun c => fp [(87, none, none), (88, none, none), (89, none, none), (90, none, none)] m c ∧ ∀ p, p < 24 → z_SC ev t D k p (List.range E) (List.range E) (c 87 0 p) (c 88 0 p) (c 90 0 p) (c 89 0 p))) := fun h => v_il ⟨nx, hf, fun p hp => z_SC_no (h p hp) (hc p hp)⟩
    (repeat (first | with_reducible refine v_l1 ?_ | with_reducible refine v_lN ?_ | with_reducible refine v_lO ?_ | with_reducible refine v_lM ?_ | with_reducible refine v_lF ?_ | with_reducible refine v_ifp (by first | assumption | omega | (simp (disch := first | omega | fail) only [v_in, iA_le, iA_lt, n_1, n_0, n_p1, Int32.reduceToInt, ne_eq, not_true_eq_false, not_false_eq_true, eq_self, Int.toNat_natCast, hu, hEc] <;> first | omega | decide) | decide | fail) ?_ | with_reducible refine v_ifn (by first | assumption | omega | (simp (disch := first | omega | fail) only [v_in, iA_le, iA_lt, n_1, n_0, n_p1, Int32.reduceToInt, ne_eq, not_true_eq_false, not_false_eq_true, eq_self, Int.toNat_natCast, hu, hEc] <;> first | omega | decide) | decide | fail) ?_))
    refine v_lI (fun w hw => ?_)
    have hw2 : w.toInt = (q : Int) := by rw [hw, ku, s2, e2, nJ_T (by omega)]
    have hwq : w = Int32.ofNat q := by rw [hw, ku, s2, e2]
    clear hw
    have kw : w.toNatClampNeg = q := n_k hw2
    by_cases h1 : ev 1 j = t
    · by_cases h3 : ev 0 j = 3
      · (repeat (first | with_reducible refine v_l1 ?_ | with_reducible refine v_lN ?_ | with_reducible refine v_lO ?_ | with_reducible refine v_lM ?_ | with_reducible refine v_lF ?_ | with_reducible refine v_ifp (by first | assumption | omega | (simp (disch := first | omega | fail) only [v_in, iA_le, iA_lt, n_1, n_0, n_p1, Int32.reduceToInt, ne_eq, not_true_eq_false, not_false_eq_true, eq_self, Int.toNat_natCast, hu, hEc, ku, s0, s1, h1, h3] <;> first | omega | decide) | decide | fail) ?_ | with_reducible refine v_ifn (by first | assumption | omega | (simp (disch := first | omega | fail) only [v_in, iA_le, iA_lt, n_1, n_0, n_p1, Int32.reduceToInt, ne_eq, not_true_eq_false, not_false_eq_true, eq_self, Int.toNat_natCast, hu, hEc, ku, s0, s1, h1, h3] <;> first | omega | decide) | decide | fail) ?_))
        exact skip (fun p hp h => h.2.1 h3)
      · by_cases h4 : (ev 4 j).toInt ≤ D.toInt
        · by_cases h5 : (ev 5 j).toInt ≤ k.toInt ∧ (ev 6 j = -1 ∨ k.toInt < (ev 6 j).toInt)
          · rw [if_pos h5] at kn
            have haq : z_a ev t D k q j := ⟨h1, e2, h4, h5⟩
            clear h5
            (repeat (first | with_reducible refine v_l1 ?_ | with_reducible refine v_lN ?_ | with_reducible refine v_lO ?_ | with_reducible refine v_lM ?_ | with_reducible refine v_lF ?_ | with_reducible refine v_ifp (by first | assumption | omega | (simp (disch := first | omega | fail) only [v_in, iA_le, iA_lt, n_1, n_0, n_p1, Int32.reduceToInt, ne_eq, not_true_eq_false, not_false_eq_true, eq_self, Int.toNat_natCast, hu, hEc, ku, s0, s1, s4, h1, h3] <;> first | omega | decide) | decide | fail) ?_ | with_reducible refine v_ifn (by first | assumption | omega | (simp (disch := first | omega | fail) only [v_in, iA_le, iA_lt, n_1, n_0, n_p1, Int32.reduceToInt, ne_eq, not_true_eq_false, not_false_eq_true, eq_self, Int.toNat_natCast, hu, hEc, ku, s0, s1, s4, h1, h3] <;> first | omega | decide) | decide | fail) ?_ | with_reducible refine v_b1e (kn) ?_))
            refine v_s1 (r_mended hevc hEc hE2 hwq) ?_
            intro r hm
            have oth : ∀ p, p < 24 → ¬ p = q → ¬ z_ac ev t D k p (List.range E) j := fun p hp hpq h => by
              have := h.1.2.1
              rw [e2, n_eq (by omega) (by omega)] at this
              exact hpq this.symm
            have gone : ¬ z_ac ev t D k q (List.range E) j → ∀ p, p < 24 → ¬ z_ac ev t D k p (List.range E) j := fun h p hp => by
              by_cases hpq : p = q
              · rw [hpq]
                exact h
              · exact oth p hp hpq
            have body : z_ac ev t D k q (List.range E) j → vW (if (0 : Int32) = 0 then (if mm_in u 120 then (
if (c 73 0 u.toNatClampNeg) ≠ 0 then (if mm_in u 120 then (
if (c 73 0 u.toNatClampNeg) ≠ 2 then (if mm_in w 24 then (
mm_let ((if mm_in u 120 then (
if mm_in w 24 then (
mm_let (mm_w c 88 0 w.toNatClampNeg (c 76 0 u.toNatClampNeg)) fun m15 =>
if mm_in w 24 then (
mm_let (mm_w m15 89 0 w.toNatClampNeg u) fun m16 =>
mm_let (u + 1) fun v17 =>
some (.inl (v17, m16))) else none) else none) else none : Option ((Int32 × mm_M) ⊕ ((mm_M))))) fun k14 =>
if (c 88 0 w.toNatClampNeg) = (-1) then (k14)
else (if mm_in u 120 then (
if mm_in w 24 then (
if mm_in (c 89 0 w.toNatClampNeg) 120 then (
if (c 77 0 u.toNatClampNeg) < (c 77 0 (c 89 0 w.toNatClampNeg).toNatClampNeg) then (mm_let (u + 1) fun v18 =>
some (.inl (v18, c)))
else (k14)) else none) else none) else none)) else none)
else (if mm_in w 24 then (
mm_let (mm_w c 90 0 w.toNatClampNeg 1) fun m19 =>
mm_let (u + 1) fun v20 =>
some (.inl (v20, m19))) else none)) else none)
else (if mm_in w 24 then (
if mm_in u 120 then (
if mm_in w 24 then (
mm_let (mm_w c 87 0 w.toNatClampNeg ((c 87 0 w.toNatClampNeg) + (c 76 0 u.toNatClampNeg))) fun m21 =>
mm_let (u + 1) fun v22 =>
some (.inl (v22, m21))) else none) else none) else none)) else none)
else (mm_let (u + 1) fun v23 =>
some (.inl (v23, c))) : Option ((Int32 × mm_M) ⊕ ((mm_M)))) (v_st (fun s => s.1.toInt = ((j + 1 : Nat) : Int) ∧ fp [(87, none, none), (88, none, none), (89, none, none), (90, none, none)] m s.2 ∧ ∀ p, p < 24 → z_SC ev t D k p (List.range E) (List.range j ++ [j]) (s.2 87 0 p) (s.2 88 0 p) (s.2 90 0 p) (s.2 89 0 p)) (fun c => fp [(87, none, none), (88, none, none), (89, none, none), (90, none, none)] m c ∧ ∀ p, p < 24 → z_SC ev t D k p (List.range E) (List.range E) (c 87 0 p) (c 88 0 p) (c 90 0 p) (c 89 0 p))) := by
              intro hac
              refine v_ifp rfl ?_
              obtain ⟨b1, b2, b3⟩ := hc q hq
              rcases hkd j hj with h0 | h0 | h0 | h0
              · (repeat (first | with_reducible refine v_l1 ?_ | with_reducible refine v_lN ?_ | with_reducible refine v_lO ?_ | with_reducible refine v_lM ?_ | with_reducible refine v_lF ?_ | with_reducible refine v_ifp (by first | assumption | omega | (simp (disch := first | omega | fail) only [v_in, iA_le, iA_lt, n_1, n_0, n_p1, Int32.reduceToInt, ne_eq, not_true_eq_false, not_false_eq_true, eq_self, Int.toNat_natCast, hu, hw2, ku, s0, h0] <;> first | omega | decide) | decide | fail) ?_ | with_reducible refine v_ifn (by first | assumption | omega | (simp (disch := first | omega | fail) only [v_in, iA_le, iA_lt, n_1, n_0, n_p1, Int32.reduceToInt, ne_eq, not_true_eq_false, not_false_eq_true, eq_self, Int.toNat_natCast, hu, hw2, ku, s0, h0] <;> first | omega | decide) | decide | fail) ?_))
                refine v_il ⟨nx, fp_w rfl hf, fun p hp => ?_⟩
                dsimp only
                rw [kw]
                by_cases hpq : p = q
                · subst hpq
                  have n1 : ¬ (z_ac ev t D k p (List.range E) j ∧ ev 0 j = 1) := fun z => by rw [h0] at z; exact absurd z.2 (by decide)
                  have n2 : ¬ (z_ac ev t D k p (List.range E) j ∧ ev 0 j = 2) := fun z => by rw [h0] at z; exact absurd z.2 (by decide)
                  simp (disch := first | omega | decide | fail) only [mw_s, mw_k, mw_i, mw_g]
                  refine ⟨?_, z_SC_c0 n1 b2, z_SC_o0 n2 b3⟩
                  have eF : z_F ev t D k p (List.range E) j = ev 3 j := if_pos ⟨hac, h0⟩
                  rw [z_sum_sn, eF, ← b1, ku, s3]
                · simp (disch := first | omega | decide | fail) only [mw_s, mw_k, mw_i, mw_g]
                  exact z_SC_no (oth p hp hpq) (hc p hp)
              · have n0 : ¬ (z_ac ev t D k q (List.range E) j ∧ ev 0 j = 0) := fun z => by rw [h0] at z; exact absurd z.2 (by decide)
                have n2 : ¬ (z_ac ev t D k q (List.range E) j ∧ ev 0 j = 2) := fun z => by rw [h0] at z; exact absurd z.2 (by decide)
                have set1 : (∀ x, x ∈ List.range j → z_ac ev t D k q (List.range E) x → ev 0 x = 1 → z_b ev x j) → vW (some (Sum.inl (u + 1, mm_w (mm_w c 88 0 w.toNatClampNeg (c 76 0 u.toNatClampNeg)) 89 0 w.toNatClampNeg u)) : Option ((Int32 × mm_M) ⊕ mm_M)) (v_st (fun s => s.1.toInt = ((j + 1 : Nat) : Int) ∧ fp [(87, none, none), (88, none, none), (89, none, none), (90, none, none)] m s.2 ∧ ∀ p, p < 24 → z_SC ev t D k p (List.range E) (List.range j ++ [j]) (s.2 87 0 p) (s.2 88 0 p) (s.2 90 0 p) (s.2 89 0 p)) (fun c => fp [(87, none, none), (88, none, none), (89, none, none), (90, none, none)] m c ∧ ∀ p, p < 24 → z_SC ev t D k p (List.range E) (List.range E) (c 87 0 p) (c 88 0 p) (c 90 0 p) (c 89 0 p))) := fun hx => by
                  refine v_il ⟨nx, fp_w rfl (fp_w rfl hf), fun p hp => ?_⟩
                  dsimp only
                  rw [kw]
                  by_cases hpq : p = q
                  · subst hpq
                    simp (disch := first | omega | decide | fail) only [mw_s, mw_k, mw_i, mw_g]
                    refine ⟨z_SC_b0 n0 b1, Or.inl ⟨j, List.mem_append_right _ List.mem_cons_self, hac, h0, by rw [ku, s3], hu, fun x hx2 hcx h1x => ?_⟩, z_SC_o0 n2 b3⟩
                    rcases z_me hx2 with h | h
                    · exact Or.inr (hx x h hcx h1x)
                    · exact Or.inl h
                  · simp (disch := first | omega | decide | fail) only [mw_s, mw_k, mw_i, mw_g]
                    exact z_SC_no (oth p hp hpq) (hc p hp)
                rcases b2 with ⟨e, a1, a2, a3, a4, a5, a6⟩ | ⟨a1, a2⟩
                · have hej : e < j := List.mem_range.mp a1
                  have n88 : ¬ c 88 0 w.toNatClampNeg = -1 := by
                    rw [kw, a4]
                    exact hnum e (by omega)
                  have k89 : (c 89 0 w.toNatClampNeg).toInt = (e : Int) := by rw [kw]; exact a5
                  have k89n : (c 89 0 w.toNatClampNeg).toNatClampNeg = e := n_k k89
                  have s4e : c 77 0 e = ev 4 e := (hevc e (by omega)).2.2.2.2.1
                  by_cases hd : (ev 4 j).toInt < (ev 4 e).toInt
                  · (repeat (first | with_reducible refine v_l1 ?_ | with_reducible refine v_lN ?_ | with_reducible refine v_lO ?_ | with_reducible refine v_lM ?_ | with_reducible refine v_lF ?_ | with_reducible refine v_ifp (by first | assumption | omega | (simp (disch := first | omega | fail) only [v_in, iA_le, iA_lt, n_1, n_0, n_p1, Int32.reduceToInt, ne_eq, not_true_eq_false, not_false_eq_true, eq_self, Int.toNat_natCast, hu, hw2, ku, s0, h0, n88, k89, k89n, s4, s4e] <;> first | omega | decide) | decide | fail) ?_ | with_reducible refine v_ifn (by first | assumption | omega | (simp (disch := first | omega | fail) only [v_in, iA_le, iA_lt, n_1, n_0, n_p1, Int32.reduceToInt, ne_eq, not_true_eq_false, not_false_eq_true, eq_self, Int.toNat_natCast, hu, hw2, ku, s0, h0, n88, k89, k89n, s4, s4e] <;> first | omega | decide) | decide | fail) ?_))
                    refine v_il ⟨nx, hf, fun p hp => ?_⟩
                    dsimp only
                    by_cases hpq : p = q
                    · subst hpq
                      refine ⟨z_SC_b0 n0 b1, Or.inl ⟨e, List.mem_append_left _ a1, a2, a3, a4, a5, fun x hx2 hcx h1x => ?_⟩, z_SC_o0 n2 b3⟩
                      rcases z_me hx2 with h | h
                      · exact a6 x h hcx h1x
                      · rw [h]
                        exact Or.inr (Or.inl hd)
                    · exact z_SC_no (oth p hp hpq) (hc p hp)
                  · have hbej : z_b ev e j := by
                      unfold z_b
                      omega
                    (repeat (first | with_reducible refine v_l1 ?_ | with_reducible refine v_lN ?_ | with_reducible refine v_lO ?_ | with_reducible refine v_lM ?_ | with_reducible refine v_lF ?_ | with_reducible refine v_ifp (by first | assumption | omega | (simp (disch := first | omega | fail) only [v_in, iA_le, iA_lt, n_1, n_0, n_p1, Int32.reduceToInt, ne_eq, not_true_eq_false, not_false_eq_true, eq_self, Int.toNat_natCast, hu, hw2, ku, s0, h0, n88, k89, k89n, s4, s4e] <;> first | omega | decide) | decide | fail) ?_ | with_reducible refine v_ifn (by first | assumption | omega | (simp (disch := first | omega | fail) only [v_in, iA_le, iA_lt, n_1, n_0, n_p1, Int32.reduceToInt, ne_eq, not_true_eq_false, not_false_eq_true, eq_self, Int.toNat_natCast, hu, hw2, ku, s0, h0, n88, k89, k89n, s4, s4e] <;> first | omega | decide) | decide | fail) ?_))
                    refine set1 (fun x hx hcx h1x => ?_)
                    rcases a6 x hx hcx h1x with h | h
                    · rw [h]
                      exact hbej
                    · exact z_b_tr h hbej
                · have n88 : c 88 0 w.toNatClampNeg = -1 := by rw [kw]; exact a2
                  (repeat (first | with_reducible refine v_l1 ?_ | with_reducible refine v_lN ?_ | with_reducible refine v_lO ?_ | with_reducible refine v_lM ?_ | with_reducible refine v_lF ?_ | with_reducible refine v_ifp (by first | assumption | omega | (simp (disch := first | omega | fail) only [v_in, iA_le, iA_lt, n_1, n_0, n_p1, Int32.reduceToInt, ne_eq, not_true_eq_false, not_false_eq_true, eq_self, Int.toNat_natCast, hu, hw2, ku, s0, h0, n88] <;> first | omega | decide) | decide | fail) ?_ | with_reducible refine v_ifn (by first | assumption | omega | (simp (disch := first | omega | fail) only [v_in, iA_le, iA_lt, n_1, n_0, n_p1, Int32.reduceToInt, ne_eq, not_true_eq_false, not_false_eq_true, eq_self, Int.toNat_natCast, hu, hw2, ku, s0, h0, n88] <;> first | omega | decide) | decide | fail) ?_))
                  exact set1 (fun x hx hcx h1x => (a1 x hx hcx h1x).elim)
              · (repeat (first | with_reducible refine v_l1 ?_ | with_reducible refine v_lN ?_ | with_reducible refine v_lO ?_ | with_reducible refine v_lM ?_ | with_reducible refine v_lF ?_ | with_reducible refine v_ifp (by first | assumption | omega | (simp (disch := first | omega | fail) only [v_in, iA_le, iA_lt, n_1, n_0, n_p1, Int32.reduceToInt, ne_eq, not_true_eq_false, not_false_eq_true, eq_self, Int.toNat_natCast, hu, hw2, ku, s0, h0] <;> first | omega | decide) | decide | fail) ?_ | with_reducible refine v_ifn (by first | assumption | omega | (simp (disch := first | omega | fail) only [v_in, iA_le, iA_lt, n_1, n_0, n_p1, Int32.reduceToInt, ne_eq, not_true_eq_false, not_false_eq_true, eq_self, Int.toNat_natCast, hu, hw2, ku, s0, h0] <;> first | omega | decide) | decide | fail) ?_))
                refine v_il ⟨nx, fp_w rfl hf, fun p hp => ?_⟩
                dsimp only
                rw [kw]
                by_cases hpq : p = q
                · subst hpq
                  have n0 : ¬ (z_ac ev t D k p (List.range E) j ∧ ev 0 j = 0) := fun z => by rw [h0] at z; exact absurd z.2 (by decide)
                  have n1 : ¬ (z_ac ev t D k p (List.range E) j ∧ ev 0 j = 1) := fun z => by rw [h0] at z; exact absurd z.2 (by decide)
                  simp (disch := first | omega | decide | fail) only [mw_s, mw_k, mw_i, mw_g]
                  exact ⟨z_SC_b0 n0 b1, z_SC_c0 n1 b2, Or.inl ⟨j, List.mem_append_right _ List.mem_cons_self, hac, h0, rfl⟩⟩
                · simp (disch := first | omega | decide | fail) only [mw_s, mw_k, mw_i, mw_g]
                  exact z_SC_no (oth p hp hpq) (hc p hp)
              · exact (h3 h0).elim
            rcases hm with ⟨g1, g2⟩ | ⟨e, g1, g2, g3, g4⟩
            · have hr : r = -1 := by rw [iA_eq, g1, i_m1]
              have hac : z_ac ev t D k q (List.range E) j := ⟨haq, h3, fun x hx hax h3x => (g2 x (List.mem_range.mp hx) ⟨hax, h3x⟩).elim⟩
              refine v_lF ?_
              refine v_ifp hr ?_
              exact body hac
            · have hr : ¬ r = -1 := n_ne (by rw [g2, i_m1]; omega)
              have kr : r.toNatClampNeg = e := n_k g2
              have s4e : c 77 0 e = ev 4 e := (hevc e g1).2.2.2.2.1
              have nog : ¬ z_b ev j e → z_ac ev t D k q (List.range E) j := fun hb => ⟨haq, h3, fun x hx hax h3x hbx => by
                rcases g4 x (List.mem_range.mp hx) ⟨hax, h3x⟩ with h | h
                · rw [h] at hbx
                  exact hb hbx
                · exact hb (z_b_tr hbx h)⟩
              have yesg : z_b ev j e → ¬ z_ac ev t D k q (List.range E) j := fun hb h => h.2.2 e (List.mem_range.mpr g1) g3.1 g3.2 hb
              refine v_lF ?_
              refine v_ifn hr ?_
              by_cases hd : (ev 4 j).toInt < (ev 4 e).toInt
              · (repeat (first | with_reducible refine v_l1 ?_ | with_reducible refine v_lN ?_ | with_reducible refine v_lO ?_ | with_reducible refine v_lM ?_ | with_reducible refine v_lF ?_ | with_reducible refine v_ifp (by first | assumption | omega | (simp (disch := first | omega | fail) only [v_in, iA_le, iA_lt, n_1, n_0, n_p1, Int32.reduceToInt, ne_eq, not_true_eq_false, not_false_eq_true, eq_self, Int.toNat_natCast, hu, ku, g2, kr, s4, s4e] <;> first | omega | decide) | decide | fail) ?_ | with_reducible refine v_ifn (by first | assumption | omega | (simp (disch := first | omega | fail) only [v_in, iA_le, iA_lt, n_1, n_0, n_p1, Int32.reduceToInt, ne_eq, not_true_eq_false, not_false_eq_true, eq_self, Int.toNat_natCast, hu, ku, g2, kr, s4, s4e] <;> first | omega | decide) | decide | fail) ?_))
                exact skip (gone (yesg (Or.inl hd)))
              · by_cases hd2 : ev 4 j = ev 4 e
                · by_cases hd3 : e ≤ j
                  · refine v_ifp (by simp (disch := first | omega | decide | fail) only [v_in, hu] <;> omega) ?_
                    refine v_ifp (by simp (disch := first | omega | decide | fail) only [v_in, g2] <;> omega) ?_
                    refine v_ifn (by rw [iA_lt, ku, kr, s4, s4e]; exact hd) ?_
                    refine v_ifp (by simp (disch := first | omega | decide | fail) only [v_in, hu] <;> omega) ?_
                    refine v_ifp (by simp (disch := first | omega | decide | fail) only [v_in, g2] <;> omega) ?_
                    refine v_ifn (by rw [ku, kr, s4, s4e]; exact fun h => h hd2) ?_
                    refine v_ifp (by rw [iA_le, g2, hu]; omega) ?_
                    exact body (nog (fun h => by unfold z_b at h; rw [hd2] at h; omega))
                  · (repeat (first | with_reducible refine v_l1 ?_ | with_reducible refine v_lN ?_ | with_reducible refine v_lO ?_ | with_reducible refine v_lM ?_ | with_reducible refine v_lF ?_ | with_reducible refine v_ifp (by first | assumption | omega | (simp (disch := first | omega | fail) only [v_in, iA_le, iA_lt, n_1, n_0, n_p1, Int32.reduceToInt, ne_eq, not_true_eq_false, not_false_eq_true, eq_self, Int.toNat_natCast, hu, ku, g2, kr, s4, s4e, hd2] <;> first | omega | decide) | decide | fail) ?_ | with_reducible refine v_ifn (by first | assumption | omega | (simp (disch := first | omega | fail) only [v_in, iA_le, iA_lt, n_1, n_0, n_p1, Int32.reduceToInt, ne_eq, not_true_eq_false, not_false_eq_true, eq_self, Int.toNat_natCast, hu, ku, g2, kr, s4, s4e, hd2] <;> first | omega | decide) | decide | fail) ?_))
                    exact skip (gone (yesg (Or.inr ⟨by rw [hd2], by omega⟩)))
                · refine v_ifp (by simp (disch := first | omega | decide | fail) only [v_in, hu] <;> omega) ?_
                  refine v_ifp (by simp (disch := first | omega | decide | fail) only [v_in, g2] <;> omega) ?_
                  refine v_ifn (by rw [iA_lt, ku, kr, s4, s4e]; exact hd) ?_
                  refine v_ifp (by simp (disch := first | omega | decide | fail) only [v_in, hu] <;> omega) ?_
                  refine v_ifp (by simp (disch := first | omega | decide | fail) only [v_in, g2] <;> omega) ?_
                  refine v_ifp (by rw [ku, kr, s4, s4e]; exact hd2) ?_
                  exact body (nog (fun h => by
                    unfold z_b at h
                    rw [iA_eq] at hd2
                    omega))
          · rw [if_neg h5] at kn
            have hn : ∀ p, p < 24 → ¬ z_ac ev t D k p (List.range E) j := fun p hp h => h5 h.1.2.2.2
            clear h5
            (repeat (first | with_reducible refine v_l1 ?_ | with_reducible refine v_lN ?_ | with_reducible refine v_lO ?_ | with_reducible refine v_lM ?_ | with_reducible refine v_lF ?_ | with_reducible refine v_ifp (by first | assumption | omega | (simp (disch := first | omega | fail) only [v_in, iA_le, iA_lt, n_1, n_0, n_p1, Int32.reduceToInt, ne_eq, not_true_eq_false, not_false_eq_true, eq_self, Int.toNat_natCast, hu, hEc, ku, s0, s1, s4, h1, h3] <;> first | omega | decide) | decide | fail) ?_ | with_reducible refine v_ifn (by first | assumption | omega | (simp (disch := first | omega | fail) only [v_in, iA_le, iA_lt, n_1, n_0, n_p1, Int32.reduceToInt, ne_eq, not_true_eq_false, not_false_eq_true, eq_self, Int.toNat_natCast, hu, hEc, ku, s0, s1, s4, h1, h3] <;> first | omega | decide) | decide | fail) ?_ | with_reducible refine v_b1e (kn) ?_))
            exact skip hn
        · (repeat (first | with_reducible refine v_l1 ?_ | with_reducible refine v_lN ?_ | with_reducible refine v_lO ?_ | with_reducible refine v_lM ?_ | with_reducible refine v_lF ?_ | with_reducible refine v_ifp (by first | assumption | omega | (simp (disch := first | omega | fail) only [v_in, iA_le, iA_lt, n_1, n_0, n_p1, Int32.reduceToInt, ne_eq, not_true_eq_false, not_false_eq_true, eq_self, Int.toNat_natCast, hu, hEc, ku, s0, s1, s4, h1, h3] <;> first | omega | decide) | decide | fail) ?_ | with_reducible refine v_ifn (by first | assumption | omega | (simp (disch := first | omega | fail) only [v_in, iA_le, iA_lt, n_1, n_0, n_p1, Int32.reduceToInt, ne_eq, not_true_eq_false, not_false_eq_true, eq_self, Int.toNat_natCast, hu, hEc, ku, s0, s1, s4, h1, h3] <;> first | omega | decide) | decide | fail) ?_))
          exact skip (fun p hp h => h4 h.1.2.2.1)
    · (repeat (first | with_reducible refine v_l1 ?_ | with_reducible refine v_lN ?_ | with_reducible refine v_lO ?_ | with_reducible refine v_lM ?_ | with_reducible refine v_lF ?_ | with_reducible refine v_ifp (by first | assumption | omega | (simp (disch := first | omega | fail) only [v_in, iA_le, iA_lt, n_1, n_0, n_p1, Int32.reduceToInt, ne_eq, not_true_eq_false, not_false_eq_true, eq_self, Int.toNat_natCast, hu, hEc, ku, s0, s1, h1] <;> first | omega | decide) | decide | fail) ?_ | with_reducible refine v_ifn (by first | assumption | omega | (simp (disch := first | omega | fail) only [v_in, iA_le, iA_lt, n_1, n_0, n_p1, Int32.reduceToInt, ne_eq, not_true_eq_false, not_false_eq_true, eq_self, Int.toNat_natCast, hu, hEc, ku, s0, s1, h1] <;> first | omega | decide) | decide | fail) ?_))
      exact skip (fun p hp h => h1 h.1.1)
  · rintro ⟨u, c⟩ ⟨hu, hf, hc⟩
    dsimp only at hu hf hc ⊢
    have hEc : (c 12 0 6).toInt = (E : Int) := by rw [hf 12 0 6 rfl, hE]
    (repeat (first | with_reducible refine v_l1 ?_ | with_reducible refine v_lN ?_ | with_reducible refine v_lO ?_ | with_reducible refine v_lM ?_ | with_reducible refine v_lF ?_ | with_reducible refine v_ifp (by first | assumption | omega | (simp (disch := first | omega | fail) only [v_in, iA_le, iA_lt, n_1, n_0, n_p1, Int32.reduceToInt, ne_eq, not_true_eq_false, not_false_eq_true, eq_self, Int.toNat_natCast, hu, hEc] <;> first | omega | decide) | decide | fail) ?_ | with_reducible refine v_ifn (by first | assumption | omega | (simp (disch := first | omega | fail) only [v_in, iA_le, iA_lt, n_1, n_0, n_p1, Int32.reduceToInt, ne_eq, not_true_eq_false, not_false_eq_true, eq_self, Int.toNat_natCast, hu, hEc] <;> first | omega | decide) | decide | fail) ?_))
    exact v_ir ⟨hf, hc⟩
