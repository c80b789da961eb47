/-! events replayed by the class -/
def z_eC (m : mm_M) : zE := fun i e => m (25 + i) 0 e
theorem c_known {m : mm_M} {e : Nat} {a1 k : Int32} (ha : a1.toInt = (e : Int)) (he : e < 120) : f_X0_isKnown a1 k m = some (if (m 30 0 e).toInt ≤ k.toInt ∧ (m 31 0 e = -1 ∨ k.toInt < (m 31 0 e).toInt) then 1 else 0) := by
  have ka : a1.toNatClampNeg = e := n_k ha
  apply v_is
  unfold f_X0_isKnown
  by_cases h1 : k.toInt < (m 30 0 e).toInt
  · (repeat (first | with_reducible refine v_l1 ?_ | with_reducible refine v_lN ?_ | with_reducible refine v_lO ?_ | with_reducible refine v_lM ?_ | with_reducible refine v_lF ?_ | with_reducible refine v_ifp (by first | assumption | omega | (simp (disch := first | omega | fail) only [v_in, iA_le, iA_lt, n_1, n_0, n_p1, Int32.reduceToInt, ne_eq, not_true_eq_false, not_false_eq_true, eq_self, Int.toNat_natCast, ha, ka] <;> omega) | decide | fail) ?_ | with_reducible refine v_ifn (by first | assumption | omega | (simp (disch := first | omega | fail) only [v_in, iA_le, iA_lt, n_1, n_0, n_p1, Int32.reduceToInt, ne_eq, not_true_eq_false, not_false_eq_true, eq_self, Int.toNat_natCast, ha, ka] <;> omega) | decide | fail) ?_))
    exact v_so (if_neg (fun h => by omega)).symm
  · by_cases h2 : m 31 0 e = -1
    · (repeat (first | with_reducible refine v_l1 ?_ | with_reducible refine v_lN ?_ | with_reducible refine v_lO ?_ | with_reducible refine v_lM ?_ | with_reducible refine v_lF ?_ | with_reducible refine v_ifp (by first | assumption | omega | (simp (disch := first | omega | fail) only [v_in, iA_le, iA_lt, n_1, n_0, n_p1, Int32.reduceToInt, ne_eq, not_true_eq_false, not_false_eq_true, eq_self, Int.toNat_natCast, ha, ka, h2] <;> omega) | decide | fail) ?_ | with_reducible refine v_ifn (by first | assumption | omega | (simp (disch := first | omega | fail) only [v_in, iA_le, iA_lt, n_1, n_0, n_p1, Int32.reduceToInt, ne_eq, not_true_eq_false, not_false_eq_true, eq_self, Int.toNat_natCast, ha, ka, h2] <;> omega) | decide | fail) ?_))
      exact v_so (if_pos ⟨by omega, Or.inl h2⟩).symm
    · by_cases h3 : (m 31 0 e).toInt ≤ k.toInt
      · (repeat (first | with_reducible refine v_l1 ?_ | with_reducible refine v_lN ?_ | with_reducible refine v_lO ?_ | with_reducible refine v_lM ?_ | with_reducible refine v_lF ?_ | with_reducible refine v_ifp (by first | assumption | omega | (simp (disch := first | omega | fail) only [v_in, iA_le, iA_lt, n_1, n_0, n_p1, Int32.reduceToInt, ne_eq, not_true_eq_false, not_false_eq_true, eq_self, Int.toNat_natCast, ha, ka, h2] <;> omega) | decide | fail) ?_ | with_reducible refine v_ifn (by first | assumption | omega | (simp (disch := first | omega | fail) only [v_in, iA_le, iA_lt, n_1, n_0, n_p1, Int32.reduceToInt, ne_eq, not_true_eq_false, not_false_eq_true, eq_self, Int.toNat_natCast, ha, ka, h2] <;> omega) | decide | fail) ?_))
        exact v_so (if_neg (fun h => by
          rcases h.2 with h | h
          · exact h2 h
          · omega)).symm
      · (repeat (first | with_reducible refine v_l1 ?_ | with_reducible refine v_lN ?_ | with_reducible refine v_lO ?_ | with_reducible refine v_lM ?_ | with_reducible refine v_lF ?_ | with_reducible refine v_ifp (by first | assumption | omega | (simp (disch := first | omega | fail) only [v_in, iA_le, iA_lt, n_1, n_0, n_p1, Int32.reduceToInt, ne_eq, not_true_eq_false, not_false_eq_true, eq_self, Int.toNat_natCast, ha, ka, h2] <;> omega) | decide | fail) ?_ | with_reducible refine v_ifn (by first | assumption | omega | (simp (disch := first | omega | fail) only [v_in, iA_le, iA_lt, n_1, n_0, n_p1, Int32.reduceToInt, ne_eq, not_true_eq_false, not_false_eq_true, eq_self, Int.toNat_natCast, ha, ka, h2] <;> omega) | decide | fail) ?_))
        exact v_so (if_pos ⟨by omega, Or.inr (by omega)⟩).symm
/-- an event that counts for its part -/
def z_a0 (ev : zE) (t D k : Int32) (e : Nat) : Prop := ev 1 e = t ∧ (ev 4 e).toInt ≤ D.toInt ∧ (ev 5 e).toInt ≤ k.toInt ∧ (ev 6 e = -1 ∨ k.toInt < (ev 6 e).toInt)
theorem z_a_i {ev : zE} {t D k : Int32} {p e : Nat} : z_a ev t D k p e ↔ z_a0 ev t D k e ∧ ev 2 e = Int32.ofNat p := ⟨fun h => ⟨⟨h.1, h.2.2⟩, h.2.1⟩, fun h => ⟨h.1.1, h.2, h.1.2⟩⟩
theorem z_sp_no {ev : zE} {t D k : Int32} {p e : Nat} {s : Int32 × Int32 × Int32} (h : ¬ z_a0 ev t D k e) : z_sp ev t D k p s e = s := if_neg (fun z => h (z_a_i.mp z).1)
theorem z_sp_ot {ev : zE} {t D k : Int32} {p q e : Nat} {s : Int32 × Int32 × Int32} (hq : ev 2 e = Int32.ofNat q) (hp : p < 24) (hq2 : q < 24) (h : ¬ p = q) : z_sp ev t D k p s e = s := if_neg (fun z => by
  have := (z_a_i.mp z).2
  rw [hq, n_eq (by omega) (by omega)] at this
  exact h this.symm)
theorem z_sp_yes {ev : zE} {t D k : Int32} {q e : Nat} {s : Int32 × Int32 × Int32} (hq : ev 2 e = Int32.ofNat q) (h : z_a0 ev t D k e) : z_sp ev t D k q s e = z_un (ev 0 e) (ev 3 e) s := if_pos (z_a_i.mpr ⟨h, hq⟩)
theorem c_ung {m : mm_M} {q : Nat} {a1 a2 a3 : Int32} (hk : a1 = 0 ∨ a1 = 1 ∨ a1 = 2 ∨ a1 = 3) (ha : a2.toInt = (q : Int)) (hq : q < 24) : vW (f_X6_undergo a1 a2 a3 m) (fun c => fp [(33, none, none), (34, none, none), (35, none, none)] m c ∧ ∀ p, (c 33 0 p, c 34 0 p, c 35 0 p) = if p = q then z_un a1 a3 (m 33 0 q, m 34 0 q, m 35 0 q) else (m 33 0 p, m 34 0 p, m 35 0 p)) := by
  rcases hk with rfl | rfl | rfl | rfl
  · refine v_of (c_ung0 ha hq) ⟨fp_w rfl fp_rf, fun p => ?_⟩
    by_cases hp : p = q
    · subst hp
      rw [if_pos rfl, mw_s, mw_g (by decide), mw_g (by decide)]
      rfl
    · rw [if_neg hp, mw_k hp, mw_g (by decide), mw_g (by decide)]
  · refine v_of (c_ung1 ha hq) ⟨fp_w rfl fp_rf, fun p => ?_⟩
    by_cases hp : p = q
    · subst hp
      rw [if_pos rfl, mw_s, mw_g (by decide), mw_g (by decide)]
      rfl
    · rw [if_neg hp, mw_k hp, mw_g (by decide), mw_g (by decide)]
  · refine v_of (c_ung2 ha hq) ⟨fp_w rfl fp_rf, fun p => ?_⟩
    by_cases hp : p = q
    · subst hp
      rw [if_pos rfl, mw_s, mw_g (by decide), mw_g (by decide)]
      rfl
    · rw [if_neg hp, mw_k hp, mw_g (by decide), mw_g (by decide)]
  · refine v_of (c_ung3 ha hq) ⟨fp_w rfl (fp_w rfl (fp_w rfl fp_rf)), fun p => ?_⟩
    by_cases hp : p = q
    · subst hp
      rw [if_pos rfl, mw_s, mw_g (by decide), mw_g (by decide), mw_s, mw_g (by decide), mw_s]
      rfl
    · rw [if_neg hp]
      simp (disch := first | omega | decide | fail) only [mw_s, mw_k, mw_i, mw_g]
theorem c_play {m : mm_M} {E : Nat} {l : List Nat} {t D k : Int32} (hE : (m 3 0 8).toInt = (E : Int)) (hE2 : E ≤ 120) (hl : l.Perm (List.range E)) (h32 : ∀ (i e : Nat), l[i]? = some e → (m 32 0 i).toInt = (e : Int)) (hpt : ∀ e, e < E → ∃ p, p < 24 ∧ m 27 0 e = Int32.ofNat p) (hkd : ∀ e, e < E → m 25 0 e = 0 ∨ m 25 0 e = 1 ∨ m 25 0 e = 2 ∨ m 25 0 e = 3) : vW (f_X0_playInto t D k m) (fun c => fp [(33, none, none), (34, none, none), (35, none, none)] m c ∧ ∀ p, p < 24 → (c 33 0 p, c 34 0 p, c 35 0 p) = l.foldl (z_sp (z_eC m) t D k p) (m 33 0 p, m 34 0 p, m 35 0 p)) := by
  have hlen : l.length = E := by rw [hl.length_eq, List.length_range]
  unfold f_X0_playInto
  refine v_s1 (P := fun c => fp [(33, none, none), (34, none, none), (35, none, none)] m c ∧ ∀ p, p < 24 → (c 33 0 p, c 34 0 p, c 35 0 p) = l.foldl (z_sp (z_eC m) t D k p) (m 33 0 p, m 34 0 p, m 35 0 p)) ?_ (fun c h => v_so h)
  refine v_for (fun j s => s.1.toInt = (j : Int) ∧ fp [(33, none, none), (34, none, none), (35, none, none)] m s.2 ∧ ∀ p, p < 24 → (s.2 33 0 p, s.2 34 0 p, s.2 35 0 p) = (l.take j).foldl (z_sp (z_eC m) t D k p) (m 33 0 p, m 34 0 p, m 35 0 p)) 0 E (Nat.zero_le _) (by omega) ⟨i_0, fp_rf, fun p hp => rfl⟩ ?_ ?_
  · rintro j ⟨v, c⟩ hj ⟨hv, hf, hc⟩
    dsimp only at hv hf hc ⊢
    have hjl : j < l.length := by omega
    have hg : l[j]? = some l[j] := List.getElem?_eq_getElem hjl
    have heE : l[j] < E := List.mem_range.mp (hl.mem_iff.mp (List.getElem_mem hjl))
    have hnx : ∀ p, (l.take (j + 1)).foldl (z_sp (z_eC m) t D k p) (m 33 0 p, m 34 0 p, m 35 0 p) = z_sp (z_eC m) t D k p ((l.take j).foldl (z_sp (z_eC m) t D k p) (m 33 0 p, m 34 0 p, m 35 0 p)) l[j] := fun p => by
      rw [List.take_succ_eq_append_getElem hjl, List.foldl_append]
      rfl
    have h32j := h32 j _ hg
    revert heE hnx h32j
    generalize l[j] = e
    intro heE hnx h32j
    have kv : v.toNatClampNeg = j := n_k hv
    have gE : (c 3 0 8).toInt = (E : Int) := by rw [hf 3 0 8 rfl, hE]
    (repeat (first | with_reducible refine v_l1 ?_ | with_reducible refine v_lN ?_ | with_reducible refine v_lO ?_ | with_reducible refine v_lM ?_ | with_reducible refine v_lF ?_ | with_reducible refine v_ifp (by first | assumption | omega | (simp (disch := first | omega | fail) only [v_in, iA_le, iA_lt, n_1, n_0, n_p1, Int32.reduceToInt, ne_eq, not_true_eq_false, not_false_eq_true, eq_self, Int.toNat_natCast, hv, gE] <;> omega) | decide | fail) ?_ | with_reducible refine v_ifn (by first | assumption | omega | (simp (disch := first | omega | fail) only [v_in, iA_le, iA_lt, n_1, n_0, n_p1, Int32.reduceToInt, ne_eq, not_true_eq_false, not_false_eq_true, eq_self, Int.toNat_natCast, hv, gE] <;> omega) | decide | fail) ?_))
    refine v_lI (fun u hu => ?_)
    have hu2 : u.toInt = (e : Int) := by rw [hu, kv, hf 32 0 j rfl, h32j]
    clear hu
    have ku : u.toNatClampNeg = e := n_k hu2
    have s1 : c 26 0 u.toNatClampNeg = z_eC m 1 e := by rw [ku]; exact hf 26 0 e rfl
    have s2 : c 27 0 u.toNatClampNeg = z_eC m 2 e := by rw [ku]; exact hf 27 0 e rfl
    have s4 : c 29 0 u.toNatClampNeg = z_eC m 4 e := by rw [ku]; exact hf 29 0 e rfl
    have s5 : c 30 0 e = z_eC m 5 e := hf 30 0 e rfl
    have s6 : c 31 0 e = z_eC m 6 e := hf 31 0 e rfl
    have hno : ¬ z_a0 (z_eC m) t D k e → ∀ p, p < 24 → (c 33 0 p, c 34 0 p, c 35 0 p) = (l.take (j + 1)).foldl (z_sp (z_eC m) t D k p) (m 33 0 p, m 34 0 p, m 35 0 p) := fun h p hp => by
      rw [hnx, z_sp_no h]
      exact hc p hp
    have kn := c_known (m := c) (k := k) hu2 (by omega)
    rw [s5, s6] at kn
    by_cases h1 : z_eC m 1 e = t
    · by_cases h2 : (z_eC m 4 e).toInt ≤ D.toInt
      · by_cases h3 : (z_eC m 5 e).toInt ≤ k.toInt ∧ (z_eC m 6 e = -1 ∨ k.toInt < (z_eC m 6 e).toInt)
        · rw [if_pos h3] at kn
          have h0 : z_a0 (z_eC m) t D k e := ⟨h1, h2, h3⟩
          clear h3
          obtain ⟨q, hq, e27⟩ := hpt e heE
          have hq2 : (c 27 0 u.toNatClampNeg).toInt = (q : Int) := by
            rw [ku, hf 27 0 e rfl, e27, nJ_T (by omega)]
          have hkc : c 25 0 u.toNatClampNeg = 0 ∨ c 25 0 u.toNatClampNeg = 1 ∨ c 25 0 u.toNatClampNeg = 2 ∨ c 25 0 u.toNatClampNeg = 3 := by
            rw [ku, hf 25 0 e rfl]
            exact hkd e heE
          have hun := c_ung (m := c) (a3 := c 28 0 u.toNatClampNeg) hkc hq2 hq
          clear hkc
          (repeat (first | with_reducible refine v_l1 ?_ | with_reducible refine v_lN ?_ | with_reducible refine v_lO ?_ | with_reducible refine v_lM ?_ | with_reducible refine v_lF ?_ | with_reducible refine v_ifp (by first | assumption | omega | (simp (disch := first | omega | fail) only [v_in, iA_le, iA_lt, n_1, n_0, n_p1, Int32.reduceToInt, ne_eq, not_true_eq_false, not_false_eq_true, eq_self, Int.toNat_natCast, hv, hu2, s1, s4, h1] <;> omega) | decide | fail) ?_ | with_reducible refine v_ifn (by first | assumption | omega | (simp (disch := first | omega | fail) only [v_in, iA_le, iA_lt, n_1, n_0, n_p1, Int32.reduceToInt, ne_eq, not_true_eq_false, not_false_eq_true, eq_self, Int.toNat_natCast, hv, hu2, s1, s4, h1] <;> omega) | decide | fail) ?_ | with_reducible refine v_b1e (kn) ?_))
          refine v_s1 hun ?_
          rintro c2 ⟨hf2, hc2⟩
          (repeat (first | with_reducible refine v_l1 ?_ | with_reducible refine v_lN ?_ | with_reducible refine v_lO ?_ | with_reducible refine v_lM ?_ | with_reducible refine v_lF ?_ | with_reducible refine v_ifp (by first | assumption | omega | (simp (disch := first | omega | fail) only [v_in, iA_le, iA_lt, n_1, n_0, n_p1, Int32.reduceToInt, ne_eq, not_true_eq_false, not_false_eq_true, eq_self, Int.toNat_natCast, hv] <;> omega) | decide | fail) ?_ | with_reducible refine v_ifn (by first | assumption | omega | (simp (disch := first | omega | fail) only [v_in, iA_le, iA_lt, n_1, n_0, n_p1, Int32.reduceToInt, ne_eq, not_true_eq_false, not_false_eq_true, eq_self, Int.toNat_natCast, hv] <;> omega) | decide | fail) ?_))
          refine v_il ⟨n_s3 hv (by omega), fp_tr hf hf2, fun p hp => ?_⟩
          dsimp only
          rw [hc2 p, hnx]
          by_cases hpq : p = q
          · subst hpq
            rw [if_pos rfl, z_sp_yes e27 h0, ← hc p hp, ku, hf 25 0 e rfl, hf 28 0 e rfl]
            rfl
          · rw [if_neg hpq, z_sp_ot e27 hp hq hpq]
            exact hc p hp
        · rw [if_neg h3] at kn
          have h0 : ¬ z_a0 (z_eC m) t D k e := fun h => h3 h.2.2
          clear h3
          (repeat (first | with_reducible refine v_l1 ?_ | with_reducible refine v_lN ?_ | with_reducible refine v_lO ?_ | with_reducible refine v_lM ?_ | with_reducible refine v_lF ?_ | with_reducible refine v_ifp (by first | assumption | omega | (simp (disch := first | omega | fail) only [v_in, iA_le, iA_lt, n_1, n_0, n_p1, Int32.reduceToInt, ne_eq, not_true_eq_false, not_false_eq_true, eq_self, Int.toNat_natCast, hv, hu2, s1, s4, h1] <;> omega) | decide | fail) ?_ | with_reducible refine v_ifn (by first | assumption | omega | (simp (disch := first | omega | fail) only [v_in, iA_le, iA_lt, n_1, n_0, n_p1, Int32.reduceToInt, ne_eq, not_true_eq_false, not_false_eq_true, eq_self, Int.toNat_natCast, hv, hu2, s1, s4, h1] <;> omega) | decide | fail) ?_ | with_reducible refine v_b1e (kn) ?_))
          exact v_il ⟨n_s3 hv (by omega), hf, hno h0⟩
      · have h0 : ¬ z_a0 (z_eC m) t D k e := fun h => h2 h.2.1
        (repeat (first | with_reducible refine v_l1 ?_ | with_reducible refine v_lN ?_ | with_reducible refine v_lO ?_ | with_reducible refine v_lM ?_ | with_reducible refine v_lF ?_ | with_reducible refine v_ifp (by first | assumption | omega | (simp (disch := first | omega | fail) only [v_in, iA_le, iA_lt, n_1, n_0, n_p1, Int32.reduceToInt, ne_eq, not_true_eq_false, not_false_eq_true, eq_self, Int.toNat_natCast, hv, hu2, s1, s4, h1] <;> omega) | decide | fail) ?_ | with_reducible refine v_ifn (by first | assumption | omega | (simp (disch := first | omega | fail) only [v_in, iA_le, iA_lt, n_1, n_0, n_p1, Int32.reduceToInt, ne_eq, not_true_eq_false, not_false_eq_true, eq_self, Int.toNat_natCast, hv, hu2, s1, s4, h1] <;> omega) | decide | fail) ?_))
        exact v_il ⟨n_s3 hv (by omega), hf, hno h0⟩
    · have h0 : ¬ z_a0 (z_eC m) t D k e := fun h => h1 h.1
      (repeat (first | with_reducible refine v_l1 ?_ | with_reducible refine v_lN ?_ | with_reducible refine v_lO ?_ | with_reducible refine v_lM ?_ | with_reducible refine v_lF ?_ | with_reducible refine v_ifp (by first | assumption | omega | (simp (disch := first | omega | fail) only [v_in, iA_le, iA_lt, n_1, n_0, n_p1, Int32.reduceToInt, ne_eq, not_true_eq_false, not_false_eq_true, eq_self, Int.toNat_natCast, hv, hu2, s1, s4, h1] <;> omega) | decide | fail) ?_ | with_reducible refine v_ifn (by first | assumption | omega | (simp (disch := first | omega | fail) only [v_in, iA_le, iA_lt, n_1, n_0, n_p1, Int32.reduceToInt, ne_eq, not_true_eq_false, not_false_eq_true, eq_self, Int.toNat_natCast, hv, hu2, s1, s4, h1] <;> omega) | decide | fail) ?_))
      exact v_il ⟨n_s3 hv (by omega), hf, hno h0⟩
  · rintro ⟨v, c⟩ ⟨hv, hf, hc⟩
    dsimp only at hv hf hc ⊢
    have gE : (c 3 0 8).toInt = (E : Int) := by rw [hf 3 0 8 rfl, hE]
    (repeat (first | with_reducible refine v_l1 ?_ | with_reducible refine v_lN ?_ | with_reducible refine v_lO ?_ | with_reducible refine v_lM ?_ | with_reducible refine v_lF ?_ | with_reducible refine v_ifp (by first | assumption | omega | (simp (disch := first | omega | fail) only [v_in, iA_le, iA_lt, n_1, n_0, n_p1, Int32.reduceToInt, ne_eq, not_true_eq_false, not_false_eq_true, eq_self, Int.toNat_natCast, hv, gE] <;> omega) | decide | fail) ?_ | with_reducible refine v_ifn (by first | assumption | omega | (simp (disch := first | omega | fail) only [v_in, iA_le, iA_lt, n_1, n_0, n_p1, Int32.reduceToInt, ne_eq, not_true_eq_false, not_false_eq_true, eq_self, Int.toNat_natCast, hv, gE] <;> omega) | decide | fail) ?_))
    refine v_ir ⟨hf, fun p hp => ?_⟩
    rw [hc p hp, ← hlen, List.take_length]
