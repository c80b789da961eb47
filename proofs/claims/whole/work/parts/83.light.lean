/-! what a light loses: scenes on both sides -/
theorem c_weigh {m : mm_M} {lw : zL} {r t N Y : Nat} {K A B H : Nat → Int32} {col age : Int32} (h4 : m 4 0 4 = Int32.ofNat t) (ht : t < 8) (hl : ∀ k, k < 4 → z_cdC m r k (lw k)) (hd : ∀ k cd, lw k = some cd → z_dep cd 0 = some 1) (hB : z_thB N K A B Y) (hT : z_thC m t N K A B H Y) : vW (f_X6_weigh r col age m) (fun c => fp [(23, none, none), (24, none, none), (36, none, none)] m c ∧ ∀ p, p < N → c 36 0 p = z_lv lw K A H col age p) := by
  have h24 := hB.2.1
  unfold f_X6_weigh
  refine v_s1 (P := fun c => fp [(23, none, none), (24, none, none), (36, none, none)] m c ∧ ∀ p, p < N → c 36 0 p = z_lv lw K A H col age p) ?_ (fun c h => v_so h)
  refine v_for (fun j s => s.1.toInt = (j : Int) ∧ fp [(23, none, none), (24, none, none), (36, none, none)] m s.2 ∧ ∀ p, p < j → s.2 36 0 p = z_lv lw K A H col age p) 0 N (Nat.zero_le _) (by omega) ⟨i_0, fp_rf, fun p hp => absurd hp (Nat.not_lt_zero p)⟩ ?_ ?_
  · rintro j ⟨v, c⟩ hj ⟨hv, hf, hc⟩
    dsimp only at hv hf hc ⊢
    have kv : v.toNatClampNeg = j := n_k hv
    have kt : (c 4 0 4).toNatClampNeg = t := by rw [hf 4 0 4 rfl, h4, nJ_N (by omega)]
    have hn : ¬ c 4 0 4 = -1 := by rw [hf 4 0 4 rfl, h4]; exact n_m1 (by omega)
    have g5 : (c 5 t 4).toInt = (N : Int) := by rw [hf 5 t 4 rfl, hT.1, nJ_T (by omega)]
    (repeat (first | with_reducible refine v_l1 ?_ | with_reducible refine v_lN ?_ | with_reducible refine v_lO ?_ | with_reducible refine v_lM ?_ | with_reducible refine v_lF ?_ | with_reducible refine v_ifp (by first | assumption | omega | (simp (disch := first | omega | fail) only [v_in, iA_le, iA_lt, n_1, n_0, n_p1, Int32.reduceToInt, ne_eq, not_true_eq_false, not_false_eq_true, eq_self, Int.toNat_natCast, hv, hn, kt, g5] <;> omega) | decide | fail) ?_ | with_reducible refine v_ifn (by first | assumption | omega | (simp (disch := first | omega | fail) only [v_in, iA_le, iA_lt, n_1, n_0, n_p1, Int32.reduceToInt, ne_eq, not_true_eq_false, not_false_eq_true, eq_self, Int.toNat_natCast, hv, hn, kt, g5] <;> omega) | decide | fail) ?_))
    refine v_s2 (P := fun q => q.1 = z_lv lw K A H col age j ∧ fp [(23, none, none), (24, none, none)] c q.2) ?_ ?_
    · rw [kt]
      exact c_loss (fun k hk => z_cdC_fr (fun g i k hg => hf g i k (z_dis_of (by decide) hg)) (hl k hk)) hd hB (z_thC_fr (fun g i k hg => hf g i k (z_dis_of (by decide) hg)) hT) hv hj
    · rintro x c2 ⟨hx, hf2⟩
      dsimp only at hx hf2
      (repeat (first | with_reducible refine v_l1 ?_ | with_reducible refine v_lN ?_ | with_reducible refine v_lO ?_ | with_reducible refine v_lM ?_ | with_reducible refine v_lF ?_ | with_reducible refine v_ifp (by first | assumption | omega | (simp (disch := first | omega | fail) only [v_in, iA_le, iA_lt, n_1, n_0, n_p1, Int32.reduceToInt, ne_eq, not_true_eq_false, not_false_eq_true, eq_self, Int.toNat_natCast, hv] <;> omega) | decide | fail) ?_ | with_reducible refine v_ifn (by first | assumption | omega | (simp (disch := first | omega | fail) only [v_in, iA_le, iA_lt, n_1, n_0, n_p1, Int32.reduceToInt, ne_eq, not_true_eq_false, not_false_eq_true, eq_self, Int.toNat_natCast, hv] <;> omega) | decide | fail) ?_))
      refine v_il ⟨n_s3 hv (by omega), fp_w rfl (fp_tr hf (fp_sb (by decide) hf2)), fun p hp => ?_⟩
      dsimp only
      rw [kv]
      by_cases hpj : p = j
      · subst hpj
        rw [mw_s]
        exact hx
      · rw [mw_k hpj, hf2 36 0 p rfl]
        exact hc p (by omega)
  · rintro ⟨v, c⟩ ⟨hv, hf, hc⟩
    dsimp only at hv hf hc ⊢
    have kt : (c 4 0 4).toNatClampNeg = t := by rw [hf 4 0 4 rfl, h4, nJ_N (by omega)]
    have hn : ¬ c 4 0 4 = -1 := by rw [hf 4 0 4 rfl, h4]; exact n_m1 (by omega)
    have g5 : (c 5 t 4).toInt = (N : Int) := by rw [hf 5 t 4 rfl, hT.1, nJ_T (by omega)]
    (repeat (first | with_reducible refine v_l1 ?_ | with_reducible refine v_lN ?_ | with_reducible refine v_lO ?_ | with_reducible refine v_lM ?_ | with_reducible refine v_lF ?_ | with_reducible refine v_ifp (by first | assumption | omega | (simp (disch := first | omega | fail) only [v_in, iA_le, iA_lt, n_1, n_0, n_p1, Int32.reduceToInt, ne_eq, not_true_eq_false, not_false_eq_true, eq_self, Int.toNat_natCast, hv, hn, kt, g5] <;> omega) | decide | fail) ?_ | with_reducible refine v_ifn (by first | assumption | omega | (simp (disch := first | omega | fail) only [v_in, iA_le, iA_lt, n_1, n_0, n_p1, Int32.reduceToInt, ne_eq, not_true_eq_false, not_false_eq_true, eq_self, Int.toNat_natCast, hv, hn, kt, g5] <;> omega) | decide | fail) ?_))
    exact v_ir ⟨hf, hc⟩
theorem c_passed {m : mm_M} {t N Y p : Nat} {K A B H L bn ct o : Nat → Int32} {a1 v : Int32} (h4 : m 4 0 4 = Int32.ofNat t) (ht : t < 8) (h24 : N ≤ 24) (hT : z_thC m t N K A B H Y) (hs : z_scC m bn ct o) (hL : ∀ p, p < N → m 36 0 p = L p) (ha : a1.toInt = (p : Int)) (hp : p < N) : f_X6_passed a1 v m = some (z_pa K A B L bn o p v) := by
  obtain ⟨e1, e2, e3, e4⟩ := hT.2.2 p hp
  obtain ⟨e5, e6, e7⟩ := hs p (by omega)
  have e8 := hL p hp
  have ka : a1.toNatClampNeg = p := n_k ha
  have kt : (m 4 0 4).toNatClampNeg = t := by rw [h4, nJ_N (by omega)]
  have hn : ¬ m 4 0 4 = -1 := by rw [h4]; exact n_m1 (by omega)
  apply v_is
  unfold f_X6_passed z_pa
  by_cases hk : K p = 3
  · by_cases ho : o p = 0
    · (repeat (first | with_reducible refine v_l1 ?_ | with_reducible refine v_lN ?_ | with_reducible refine v_lO ?_ | with_reducible refine v_lM ?_ | with_reducible refine v_lF ?_ | with_reducible refine v_ifp (by first | assumption | omega | (simp (disch := first | omega | fail) only [v_in, iA_le, iA_lt, n_1, n_0, n_p1, Int32.reduceToInt, ne_eq, not_true_eq_false, not_false_eq_true, eq_self, Int.toNat_natCast, ha, hn, kt, ka, e1, e7, hk, ho] <;> omega) | decide | fail) ?_ | with_reducible refine v_ifn (by first | assumption | omega | (simp (disch := first | omega | fail) only [v_in, iA_le, iA_lt, n_1, n_0, n_p1, Int32.reduceToInt, ne_eq, not_true_eq_false, not_false_eq_true, eq_self, Int.toNat_natCast, ha, hn, kt, ka, e1, e7, hk, ho] <;> omega) | decide | fail) ?_))
      refine v_lI (fun w hw => ?_)
      have hw2 : w = B p := by rw [hw, kt, ka, e3]
      clear hw
      subst hw2
      by_cases hv : v ≤ B p
      · (repeat (first | with_reducible refine v_l1 ?_ | with_reducible refine v_lN ?_ | with_reducible refine v_lO ?_ | with_reducible refine v_lM ?_ | with_reducible refine v_lF ?_ | with_reducible refine v_ifp (by first | assumption | omega | (simp (disch := first | omega | fail) only [v_in, iA_le, iA_lt, n_1, n_0, n_p1, Int32.reduceToInt, ne_eq, not_true_eq_false, not_false_eq_true, eq_self, Int.toNat_natCast, ha, hn, kt, ka, hv] <;> omega) | decide | fail) ?_ | with_reducible refine v_ifn (by first | assumption | omega | (simp (disch := first | omega | fail) only [v_in, iA_le, iA_lt, n_1, n_0, n_p1, Int32.reduceToInt, ne_eq, not_true_eq_false, not_false_eq_true, eq_self, Int.toNat_natCast, ha, hn, kt, ka, hv] <;> omega) | decide | fail) ?_))
        refine v_so ?_
        rw [if_pos hk, if_pos ho, if_pos hv, kt, ka, e2]
      · (repeat (first | with_reducible refine v_l1 ?_ | with_reducible refine v_lN ?_ | with_reducible refine v_lO ?_ | with_reducible refine v_lM ?_ | with_reducible refine v_lF ?_ | with_reducible refine v_ifp (by first | assumption | omega | (simp (disch := first | omega | fail) only [v_in, iA_le, iA_lt, n_1, n_0, n_p1, Int32.reduceToInt, ne_eq, not_true_eq_false, not_false_eq_true, eq_self, Int.toNat_natCast, ha, hn, kt, ka, hv] <;> omega) | decide | fail) ?_ | with_reducible refine v_ifn (by first | assumption | omega | (simp (disch := first | omega | fail) only [v_in, iA_le, iA_lt, n_1, n_0, n_p1, Int32.reduceToInt, ne_eq, not_true_eq_false, not_false_eq_true, eq_self, Int.toNat_natCast, ha, hn, kt, ka, hv] <;> omega) | decide | fail) ?_))
        refine v_so ?_
        rw [if_pos hk, if_pos ho, if_neg hv]
    · (repeat (first | with_reducible refine v_l1 ?_ | with_reducible refine v_lN ?_ | with_reducible refine v_lO ?_ | with_reducible refine v_lM ?_ | with_reducible refine v_lF ?_ | with_reducible refine v_ifp (by first | assumption | omega | (simp (disch := first | omega | fail) only [v_in, iA_le, iA_lt, n_1, n_0, n_p1, Int32.reduceToInt, ne_eq, not_true_eq_false, not_false_eq_true, eq_self, Int.toNat_natCast, ha, hn, kt, ka, e1, e7, hk, ho] <;> omega) | decide | fail) ?_ | with_reducible refine v_ifn (by first | assumption | omega | (simp (disch := first | omega | fail) only [v_in, iA_le, iA_lt, n_1, n_0, n_p1, Int32.reduceToInt, ne_eq, not_true_eq_false, not_false_eq_true, eq_self, Int.toNat_natCast, ha, hn, kt, ka, e1, e7, hk, ho] <;> omega) | decide | fail) ?_))
      refine v_so ?_
      rw [if_pos hk, if_neg ho]
  · (repeat (first | with_reducible refine v_l1 ?_ | with_reducible refine v_lN ?_ | with_reducible refine v_lO ?_ | with_reducible refine v_lM ?_ | with_reducible refine v_lF ?_ | with_reducible refine v_ifp (by first | assumption | omega | (simp (disch := first | omega | fail) only [v_in, iA_le, iA_lt, n_1, n_0, n_p1, Int32.reduceToInt, ne_eq, not_true_eq_false, not_false_eq_true, eq_self, Int.toNat_natCast, ha, hn, kt, ka, e1, e7, hk] <;> omega) | decide | fail) ?_ | with_reducible refine v_ifn (by first | assumption | omega | (simp (disch := first | omega | fail) only [v_in, iA_le, iA_lt, n_1, n_0, n_p1, Int32.reduceToInt, ne_eq, not_true_eq_false, not_false_eq_true, eq_self, Int.toNat_natCast, ha, hn, kt, ka, e1, e7, hk] <;> omega) | decide | fail) ?_))
    refine v_so ?_
    rw [if_neg hk, ka, e8, e5]
/-- how many parts the light meets up to one -/
def z_mt (N : Nat) (e : Int32) (p : Nat) : Nat := if e = 0 then p + 1 else N - p
theorem z_at_lt {N j : Nat} {e : Int32} (h : j < N) : z_at N e j < N := by
  unfold z_at
  by_cases he : e = 0
  · rw [if_pos he]
    exact h
  · rw [if_neg he]
    omega
theorem z_at_eq {N j p : Nat} {e : Int32} (hp : p < N) (h : j < z_mt N e p) : z_at N e j = p ↔ j + 1 = z_mt N e p := by
  unfold z_at
  unfold z_mt at h ⊢
  by_cases he : e = 0
  · rw [if_pos he] at h ⊢
    rw [if_pos he]
    omega
  · rw [if_neg he] at h ⊢
    rw [if_neg he]
    omega
theorem z_mt_le {N p : Nat} {e : Int32} (hp : p < N) : z_mt N e p ≤ N ∧ 0 < z_mt N e p := by
  unfold z_mt
  by_cases he : e = 0
  · rw [if_pos he]
    omega
  · rw [if_neg he]
    omega
theorem c_level {m : mm_M} {t N Y p : Nat} {K A B H L bn ct o : Nat → Int32} {a1 s e : Int32} (h4 : m 4 0 4 = Int32.ofNat t) (ht : t < 8) (h24 : N ≤ 24) (hT : z_thC m t N K A B H Y) (hs : z_scC m bn ct o) (hL : ∀ p, p < N → m 36 0 p = L p) (ha : a1.toInt = (p : Int)) (hp : p < N) : f_X6_levelBehind a1 s e m = some ((z_li (z_pa K A B L bn o) ct (z_at N e) s (z_mt N e p)).getD (-100000)) := by
  have hM := z_mt_le (e := e) hp
  have kt : (m 4 0 4).toNatClampNeg = t := by rw [h4, nJ_N (by omega)]
  have hn : ¬ m 4 0 4 = -1 := by rw [h4]; exact n_m1 (by omega)
  have g5 : (m 5 t 4).toInt = (N : Int) := by rw [hT.1, nJ_T (by omega)]
  apply v_is
  unfold f_X6_levelBehind
  refine v_s1 (P := fun q => match q with
    | .inl _ => z_li (z_pa K A B L bn o) ct (z_at N e) s (z_mt N e p) = none
    | .inr v => z_li (z_pa K A B L bn o) ct (z_at N e) s (z_mt N e p) = some v) ?_ ?_
  · refine v_for (fun j q => z_li (z_pa K A B L bn o) ct (z_at N e) s j = some q.1 ∧ (j = z_mt N e p → ¬ q.2.1 = 0) ∧ (¬ j = z_mt N e p → q.2.1 = 0) ∧ q.2.2.toInt = (j : Int)) 0 (z_mt N e p) (Nat.zero_le _) (by omega) ⟨rfl, fun h => by omega, fun _ => rfl, i_0⟩ ?_ ?_
    · rintro j ⟨v, w, u⟩ hj ⟨hv, hw1, hw0, hu⟩
      dsimp only at hv hw1 hw0 hu ⊢
      have hw : w = 0 := hw0 (by omega)
      clear hw1 hw0
      have hq := z_at_lt (N := N) (e := e) (j := j) (by omega)
      have hc := (hs (z_at N e j) (by omega)).2.1
      have hb := z_at_eq (e := e) hp hj
      (repeat (first | with_reducible refine v_l1 ?_ | with_reducible refine v_lN ?_ | with_reducible refine v_lO ?_ | with_reducible refine v_lM ?_ | with_reducible refine v_lF ?_ | with_reducible refine v_ifp (by first | assumption | omega | (simp (disch := first | omega | fail) only [v_in, iA_le, iA_lt, n_1, n_0, n_p1, Int32.reduceToInt, ne_eq, not_true_eq_false, not_false_eq_true, eq_self, Int.toNat_natCast, hu, hn, kt, g5, hw] <;> omega) | decide | fail) ?_ | with_reducible refine v_ifn (by first | assumption | omega | (simp (disch := first | omega | fail) only [v_in, iA_le, iA_lt, n_1, n_0, n_p1, Int32.reduceToInt, ne_eq, not_true_eq_false, not_false_eq_true, eq_self, Int.toNat_natCast, hu, hn, kt, g5, hw] <;> omega) | decide | fail) ?_))
      have key : ∀ z : Int32, z.toInt = (z_at N e j : Int) → vW (if mm_in z 24 then (if (m 34 0 z.toNatClampNeg) = (-1) then (mm_b1 (f_X6_passed z v m) fun r8 =>
if z ≠ a1 then (mm_let (u + 1) fun v9 =>
some (.inl (r8, 0, v9)))
else (mm_let (u + 1) fun v10 =>
some (.inl (r8, 1, v10))))
else (some (.inr (.inl ())))) else none : Option ((Int32 × Int32 × Int32) ⊕ ((Unit) ⊕ (Int32)))) (v_st (fun q => z_li (z_pa K A B L bn o) ct (z_at N e) s (j + 1) = some q.1 ∧ (j + 1 = z_mt N e p → ¬ q.2.1 = 0) ∧ (¬ j + 1 = z_mt N e p → q.2.1 = 0) ∧ q.2.2.toInt = ((j + 1 : Nat) : Int)) (fun q => match q with
        | .inl _ => z_li (z_pa K A B L bn o) ct (z_at N e) s (z_mt N e p) = none
        | .inr v => z_li (z_pa K A B L bn o) ct (z_at N e) s (z_mt N e p) = some v)) := by
        intro z hz
        have kz : z.toNatClampNeg = z_at N e j := n_k hz
        by_cases h1 : ct (z_at N e j) = -1
        · (repeat (first | with_reducible refine v_l1 ?_ | with_reducible refine v_lN ?_ | with_reducible refine v_lO ?_ | with_reducible refine v_lM ?_ | with_reducible refine v_lF ?_ | with_reducible refine v_ifp (by first | assumption | omega | (simp (disch := first | omega | fail) only [v_in, iA_le, iA_lt, n_1, n_0, n_p1, Int32.reduceToInt, ne_eq, not_true_eq_false, not_false_eq_true, eq_self, Int.toNat_natCast, hz, kz, hc, h1] <;> omega) | decide | fail) ?_ | with_reducible refine v_ifn (by first | assumption | omega | (simp (disch := first | omega | fail) only [v_in, iA_le, iA_lt, n_1, n_0, n_p1, Int32.reduceToInt, ne_eq, not_true_eq_false, not_false_eq_true, eq_self, Int.toNat_natCast, hz, kz, hc, h1] <;> omega) | decide | fail) ?_ | with_reducible refine v_b1e (c_passed h4 ht h24 hT hs hL hz hq) ?_))
          by_cases h2 : z_at N e j = p
          · have hza : z = a1 := by rw [iA_eq, hz, ha, h2]
            (repeat (first | with_reducible refine v_l1 ?_ | with_reducible refine v_lN ?_ | with_reducible refine v_lO ?_ | with_reducible refine v_lM ?_ | with_reducible refine v_lF ?_ | with_reducible refine v_ifp (by first | assumption | omega | (simp (disch := first | omega | fail) only [v_in, iA_le, iA_lt, n_1, n_0, n_p1, Int32.reduceToInt, ne_eq, not_true_eq_false, not_false_eq_true, eq_self, Int.toNat_natCast, hza] <;> omega) | decide | fail) ?_ | with_reducible refine v_ifn (by first | assumption | omega | (simp (disch := first | omega | fail) only [v_in, iA_le, iA_lt, n_1, n_0, n_p1, Int32.reduceToInt, ne_eq, not_true_eq_false, not_false_eq_true, eq_self, Int.toNat_natCast, hza] <;> omega) | decide | fail) ?_))
            exact v_il ⟨z_li_s hv h1, fun _ => (by dsimp only; decide), fun h => absurd (hb.mp h2) h, n_s3 hu (by omega)⟩
          · have hza : ¬ z = a1 := n_ne (by rw [hz, ha]; omega)
            (repeat (first | with_reducible refine v_l1 ?_ | with_reducible refine v_lN ?_ | with_reducible refine v_lO ?_ | with_reducible refine v_lM ?_ | with_reducible refine v_lF ?_ | with_reducible refine v_ifp (by first | assumption | omega | (simp (disch := first | omega | fail) only [v_in, iA_le, iA_lt, n_1, n_0, n_p1, Int32.reduceToInt, ne_eq, not_true_eq_false, not_false_eq_true, eq_self, Int.toNat_natCast, hza] <;> omega) | decide | fail) ?_ | with_reducible refine v_ifn (by first | assumption | omega | (simp (disch := first | omega | fail) only [v_in, iA_le, iA_lt, n_1, n_0, n_p1, Int32.reduceToInt, ne_eq, not_true_eq_false, not_false_eq_true, eq_self, Int.toNat_natCast, hza] <;> omega) | decide | fail) ?_))
            exact v_il ⟨z_li_s hv h1, fun h => absurd (hb.mpr h) h2, fun _ => rfl, n_s3 hu (by omega)⟩
        · (repeat (first | with_reducible refine v_l1 ?_ | with_reducible refine v_lN ?_ | with_reducible refine v_lO ?_ | with_reducible refine v_lM ?_ | with_reducible refine v_lF ?_ | with_reducible refine v_ifp (by first | assumption | omega | (simp (disch := first | omega | fail) only [v_in, iA_le, iA_lt, n_1, n_0, n_p1, Int32.reduceToInt, ne_eq, not_true_eq_false, not_false_eq_true, eq_self, Int.toNat_natCast, hz, kz, hc, h1] <;> omega) | decide | fail) ?_ | with_reducible refine v_ifn (by first | assumption | omega | (simp (disch := first | omega | fail) only [v_in, iA_le, iA_lt, n_1, n_0, n_p1, Int32.reduceToInt, ne_eq, not_true_eq_false, not_false_eq_true, eq_self, Int.toNat_natCast, hz, kz, hc, h1] <;> omega) | decide | fail) ?_))
          exact v_ir (z_li_e hv h1 hj)
      by_cases he : e = 0
      · have ez : z_at N e j = j := if_pos he
        refine v_ifp he ?_
        exact key u (by rw [ez]; exact hu)
      · have ez : z_at N e j = N - 1 - j := if_neg he
        refine v_ifn he ?_
        refine v_ifn hn ?_
        refine v_lN ?_
        refine key _ ?_
        have h1 : (m 5 t 4 - 1).toInt = ((N - 1 : Nat) : Int) := by rw [n_0 (by omega)]; omega
        rw [kt, iA_sub (by rw [h1, hu]; omega) (by rw [h1, hu]; omega), h1, hu, ez]
        omega
    · rintro ⟨v, w, u⟩ ⟨hv, hw1, hw0, hu⟩
      dsimp only at hv hw1 hw0 hu ⊢
      have hw : ¬ w = 0 := hw1 rfl
      by_cases h1 : N ≤ z_mt N e p
      · (repeat (first | with_reducible refine v_l1 ?_ | with_reducible refine v_lN ?_ | with_reducible refine v_lO ?_ | with_reducible refine v_lM ?_ | with_reducible refine v_lF ?_ | with_reducible refine v_ifp (by first | assumption | omega | (simp (disch := first | omega | fail) only [v_in, iA_le, iA_lt, n_1, n_0, n_p1, Int32.reduceToInt, ne_eq, not_true_eq_false, not_false_eq_true, eq_self, Int.toNat_natCast, hu, hn, kt, g5, hw] <;> omega) | decide | fail) ?_ | with_reducible refine v_ifn (by first | assumption | omega | (simp (disch := first | omega | fail) only [v_in, iA_le, iA_lt, n_1, n_0, n_p1, Int32.reduceToInt, ne_eq, not_true_eq_false, not_false_eq_true, eq_self, Int.toNat_natCast, hu, hn, kt, g5, hw] <;> omega) | decide | fail) ?_))
        exact v_ir hv
      · (repeat (first | with_reducible refine v_l1 ?_ | with_reducible refine v_lN ?_ | with_reducible refine v_lO ?_ | with_reducible refine v_lM ?_ | with_reducible refine v_lF ?_ | with_reducible refine v_ifp (by first | assumption | omega | (simp (disch := first | omega | fail) only [v_in, iA_le, iA_lt, n_1, n_0, n_p1, Int32.reduceToInt, ne_eq, not_true_eq_false, not_false_eq_true, eq_self, Int.toNat_natCast, hu, hn, kt, g5, hw] <;> omega) | decide | fail) ?_ | with_reducible refine v_ifn (by first | assumption | omega | (simp (disch := first | omega | fail) only [v_in, iA_le, iA_lt, n_1, n_0, n_p1, Int32.reduceToInt, ne_eq, not_true_eq_false, not_false_eq_true, eq_self, Int.toNat_natCast, hu, hn, kt, g5, hw] <;> omega) | decide | fail) ?_))
        exact v_ir hv
  · rintro (_ | v) h
    · dsimp only at h
      rw [h]
      exact v_so rfl
    · dsimp only at h
      rw [h]
      exact v_so rfl
theorem c_whole {m : mm_M} {t N : Nat} {bn ct o : Nat → Int32} (h4 : m 4 0 4 = Int32.ofNat t) (ht : t < 8) (h24 : N ≤ 24) (g5' : m 5 t 4 = Int32.ofNat N) (hs : z_scC m bn ct o) : f_X6_isWhole m = some (if ∀ p, p < N → ct p = -1 then 1 else 0) := by
  have kt : (m 4 0 4).toNatClampNeg = t := by rw [h4, nJ_N (by omega)]
  have hn : ¬ m 4 0 4 = -1 := by rw [h4]; exact n_m1 (by omega)
  have g5 : (m 5 t 4).toInt = (N : Int) := by rw [g5', nJ_T (by omega)]
  apply v_is
  unfold f_X6_isWhole
  refine v_s1 (P := fun q => match q with
    | .inl _ => ¬ ∀ p, p < N → ct p = -1
    | .inr _ => ∀ p, p < N → ct p = -1) ?_ ?_
  · refine v_for (fun j q => q.toInt = (j : Int) ∧ ∀ p, p < j → ct p = -1) 0 N (Nat.zero_le _) (by omega) ⟨i_0, fun p hp => absurd hp (Nat.not_lt_zero p)⟩ ?_ ?_
    · rintro j v hj ⟨hv, hc⟩
      have kv : v.toNatClampNeg = j := n_k hv
      have hcj := (hs j (by omega)).2.1
      by_cases h1 : ct j = -1
      · (repeat (first | with_reducible refine v_l1 ?_ | with_reducible refine v_lN ?_ | with_reducible refine v_lO ?_ | with_reducible refine v_lM ?_ | with_reducible refine v_lF ?_ | with_reducible refine v_ifp (by first | assumption | omega | (simp (disch := first | omega | fail) only [v_in, iA_le, iA_lt, n_1, n_0, n_p1, Int32.reduceToInt, ne_eq, not_true_eq_false, not_false_eq_true, eq_self, Int.toNat_natCast, hv, hn, kt, g5, kv, hcj, h1] <;> omega) | decide | fail) ?_ | with_reducible refine v_ifn (by first | assumption | omega | (simp (disch := first | omega | fail) only [v_in, iA_le, iA_lt, n_1, n_0, n_p1, Int32.reduceToInt, ne_eq, not_true_eq_false, not_false_eq_true, eq_self, Int.toNat_natCast, hv, hn, kt, g5, kv, hcj, h1] <;> omega) | decide | fail) ?_))
        refine v_il ⟨n_s3 hv (by omega), fun p hp => ?_⟩
        by_cases hpj : p = j
        · rw [hpj]
          exact h1
        · exact hc p (by omega)
      · (repeat (first | with_reducible refine v_l1 ?_ | with_reducible refine v_lN ?_ | with_reducible refine v_lO ?_ | with_reducible refine v_lM ?_ | with_reducible refine v_lF ?_ | with_reducible refine v_ifp (by first | assumption | omega | (simp (disch := first | omega | fail) only [v_in, iA_le, iA_lt, n_1, n_0, n_p1, Int32.reduceToInt, ne_eq, not_true_eq_false, not_false_eq_true, eq_self, Int.toNat_natCast, hv, hn, kt, g5, kv, hcj, h1] <;> omega) | decide | fail) ?_ | with_reducible refine v_ifn (by first | assumption | omega | (simp (disch := first | omega | fail) only [v_in, iA_le, iA_lt, n_1, n_0, n_p1, Int32.reduceToInt, ne_eq, not_true_eq_false, not_false_eq_true, eq_self, Int.toNat_natCast, hv, hn, kt, g5, kv, hcj, h1] <;> omega) | decide | fail) ?_))
        exact v_ir (fun h => h1 (h j hj))
    · rintro v ⟨hv, hc⟩
      (repeat (first | with_reducible refine v_l1 ?_ | with_reducible refine v_lN ?_ | with_reducible refine v_lO ?_ | with_reducible refine v_lM ?_ | with_reducible refine v_lF ?_ | with_reducible refine v_ifp (by first | assumption | omega | (simp (disch := first | omega | fail) only [v_in, iA_le, iA_lt, n_1, n_0, n_p1, Int32.reduceToInt, ne_eq, not_true_eq_false, not_false_eq_true, eq_self, Int.toNat_natCast, hv, hn, kt, g5] <;> omega) | decide | fail) ?_ | with_reducible refine v_ifn (by first | assumption | omega | (simp (disch := first | omega | fail) only [v_in, iA_le, iA_lt, n_1, n_0, n_p1, Int32.reduceToInt, ne_eq, not_true_eq_false, not_false_eq_true, eq_self, Int.toNat_natCast, hv, hn, kt, g5] <;> omega) | decide | fail) ?_))
      exact v_ir hc
  · rintro (_ | _) h
    · exact v_so (if_neg h).symm
    · exact v_so (if_pos h).symm
/-- noise of the first j parts -/
def z_no (K o L : Nat → Int32) : Nat → Int32
  | 0 => 0
  | j + 1 => if K j = 3 ∧ o j = 0 then z_no K o L j + L j else z_no K o L j
theorem c_noise {m : mm_M} {t N Y : Nat} {K A B H L bn ct o : Nat → Int32} (h4 : m 4 0 4 = Int32.ofNat t) (ht : t < 8) (h24 : N ≤ 24) (hT : z_thC m t N K A B H Y) (hs : z_scC m bn ct o) (hL : ∀ p, p < N → m 36 0 p = L p) : f_X6_noiseOfAll m = some (z_no K o L N) := by
  have kt : (m 4 0 4).toNatClampNeg = t := by rw [h4, nJ_N (by omega)]
  have hn : ¬ m 4 0 4 = -1 := by rw [h4]; exact n_m1 (by omega)
  have g5 : (m 5 t 4).toInt = (N : Int) := by rw [hT.1, nJ_T (by omega)]
  apply v_is
  unfold f_X6_noiseOfAll
  refine v_s1 (P := fun q => q = z_no K o L N) ?_ (fun q h => v_so h)
  refine v_for (fun j q => q.1 = z_no K o L j ∧ q.2.toInt = (j : Int)) 0 N (Nat.zero_le _) (by omega) ⟨rfl, i_0⟩ ?_ ?_
  · rintro j ⟨x, v⟩ hj ⟨hx, hv⟩
    dsimp only at hx hv ⊢
    obtain ⟨e1, e2, e3, e4⟩ := hT.2.2 j hj
    obtain ⟨e5, e6, e7⟩ := hs j (by omega)
    have e8 := hL j hj
    have kv : v.toNatClampNeg = j := n_k hv
    by_cases hk : K j = 3
    · by_cases ho : o j = 0
      · (repeat (first | with_reducible refine v_l1 ?_ | with_reducible refine v_lN ?_ | with_reducible refine v_lO ?_ | with_reducible refine v_lM ?_ | with_reducible refine v_lF ?_ | with_reducible refine v_ifp (by first | assumption | omega | (simp (disch := first | omega | fail) only [v_in, iA_le, iA_lt, n_1, n_0, n_p1, Int32.reduceToInt, ne_eq, not_true_eq_false, not_false_eq_true, eq_self, Int.toNat_natCast, hv, hn, kt, g5, kv, e1, e7, hk, ho] <;> omega) | decide | fail) ?_ | with_reducible refine v_ifn (by first | assumption | omega | (simp (disch := first | omega | fail) only [v_in, iA_le, iA_lt, n_1, n_0, n_p1, Int32.reduceToInt, ne_eq, not_true_eq_false, not_false_eq_true, eq_self, Int.toNat_natCast, hv, hn, kt, g5, kv, e1, e7, hk, ho] <;> omega) | decide | fail) ?_))
        refine v_lI (fun w hw => ?_)
        (repeat (first | with_reducible refine v_l1 ?_ | with_reducible refine v_lN ?_ | with_reducible refine v_lO ?_ | with_reducible refine v_lM ?_ | with_reducible refine v_lF ?_ | with_reducible refine v_ifp (by first | assumption | omega | (simp (disch := first | omega | fail) only [v_in, iA_le, iA_lt, n_1, n_0, n_p1, Int32.reduceToInt, ne_eq, not_true_eq_false, not_false_eq_true, eq_self, Int.toNat_natCast, hv] <;> omega) | decide | fail) ?_ | with_reducible refine v_ifn (by first | assumption | omega | (simp (disch := first | omega | fail) only [v_in, iA_le, iA_lt, n_1, n_0, n_p1, Int32.reduceToInt, ne_eq, not_true_eq_false, not_false_eq_true, eq_self, Int.toNat_natCast, hv] <;> omega) | decide | fail) ?_))
        refine v_il ⟨?_, n_s3 hv (by omega)⟩
        dsimp only
        rw [hw, kv, e8, hx]
        exact (if_pos (c := K j = 3 ∧ o j = 0) ⟨hk, ho⟩).symm
      · (repeat (first | with_reducible refine v_l1 ?_ | with_reducible refine v_lN ?_ | with_reducible refine v_lO ?_ | with_reducible refine v_lM ?_ | with_reducible refine v_lF ?_ | with_reducible refine v_ifp (by first | assumption | omega | (simp (disch := first | omega | fail) only [v_in, iA_le, iA_lt, n_1, n_0, n_p1, Int32.reduceToInt, ne_eq, not_true_eq_false, not_false_eq_true, eq_self, Int.toNat_natCast, hv, hn, kt, g5, kv, e1, e7, hk, ho] <;> omega) | decide | fail) ?_ | with_reducible refine v_ifn (by first | assumption | omega | (simp (disch := first | omega | fail) only [v_in, iA_le, iA_lt, n_1, n_0, n_p1, Int32.reduceToInt, ne_eq, not_true_eq_false, not_false_eq_true, eq_self, Int.toNat_natCast, hv, hn, kt, g5, kv, e1, e7, hk, ho] <;> omega) | decide | fail) ?_))
        refine v_il ⟨?_, n_s3 hv (by omega)⟩
        dsimp only
        rw [hx]
        exact (if_neg (c := K j = 3 ∧ o j = 0) (fun h => ho h.2)).symm
    · (repeat (first | with_reducible refine v_l1 ?_ | with_reducible refine v_lN ?_ | with_reducible refine v_lO ?_ | with_reducible refine v_lM ?_ | with_reducible refine v_lF ?_ | with_reducible refine v_ifp (by first | assumption | omega | (simp (disch := first | omega | fail) only [v_in, iA_le, iA_lt, n_1, n_0, n_p1, Int32.reduceToInt, ne_eq, not_true_eq_false, not_false_eq_true, eq_self, Int.toNat_natCast, hv, hn, kt, g5, kv, e1, e7, hk] <;> omega) | decide | fail) ?_ | with_reducible refine v_ifn (by first | assumption | omega | (simp (disch := first | omega | fail) only [v_in, iA_le, iA_lt, n_1, n_0, n_p1, Int32.reduceToInt, ne_eq, not_true_eq_false, not_false_eq_true, eq_self, Int.toNat_natCast, hv, hn, kt, g5, kv, e1, e7, hk] <;> omega) | decide | fail) ?_))
      refine v_il ⟨?_, n_s3 hv (by omega)⟩
      dsimp only
      rw [hx]
      exact (if_neg (c := K j = 3 ∧ o j = 0) (fun h => hk h.1)).symm
  · rintro ⟨x, v⟩ ⟨hx, hv⟩
    dsimp only at hx hv ⊢
    (repeat (first | with_reducible refine v_l1 ?_ | with_reducible refine v_lN ?_ | with_reducible refine v_lO ?_ | with_reducible refine v_lM ?_ | with_reducible refine v_lF ?_ | with_reducible refine v_ifp (by first | assumption | omega | (simp (disch := first | omega | fail) only [v_in, iA_le, iA_lt, n_1, n_0, n_p1, Int32.reduceToInt, ne_eq, not_true_eq_false, not_false_eq_true, eq_self, Int.toNat_natCast, hv, hn, kt, g5] <;> omega) | decide | fail) ?_ | with_reducible refine v_ifn (by first | assumption | omega | (simp (disch := first | omega | fail) only [v_in, iA_le, iA_lt, n_1, n_0, n_p1, Int32.reduceToInt, ne_eq, not_true_eq_false, not_false_eq_true, eq_self, Int.toNat_natCast, hv, hn, kt, g5] <;> omega) | decide | fail) ?_))
    exact v_ir hx
/-- the margin -/
def z_mg (N : Nat) (K A B L bn ct o : Nat → Int32) (s w : Int32) : Int32 := if ∀ p, p < N → ct p = -1 then (z_li (z_pa K A B L bn o) ct (z_at N 0) s N).getD (-100000) - w - z_no K o L N else -1000000
theorem c_margin {m : mm_M} {t N Y : Nat} {K A B H L bn ct o : Nat → Int32} {s w : Int32} (h4 : m 4 0 4 = Int32.ofNat t) (ht : t < 8) (hN : 1 ≤ N) (h24 : N ≤ 24) (hT : z_thC m t N K A B H Y) (hs : z_scC m bn ct o) (hL : ∀ p, p < N → m 36 0 p = L p) : f_X6_marginOf s w m = some (z_mg N K A B L bn ct o s w) := by
  have kt : (m 4 0 4).toNatClampNeg = t := by rw [h4, nJ_N (by omega)]
  have hn : ¬ m 4 0 4 = -1 := by rw [h4]; exact n_m1 (by omega)
  have g5 : (m 5 (m 4 0 4).toNatClampNeg 4).toInt = (N : Int) := by rw [kt, hT.1, nJ_T (by omega)]
  apply v_is
  unfold f_X6_marginOf z_mg
  refine v_b1e (c_whole h4 ht h24 hT.1 hs) ?_
  by_cases h : ∀ p, p < N → ct p = -1
  · have e2 : z_mt N 0 (N - 1) = N := by
      unfold z_mt
      rw [if_pos rfl]
      omega
    rw [if_pos h, if_pos h]
    refine v_ifp (by decide) ?_
    refine v_ifn hn ?_
    refine v_lN ?_
    refine v_b1e (c_level (p := N - 1) h4 ht h24 hT hs hL (by rw [n_0 (by omega)]; omega) (by omega)) ?_
    refine v_b1e (c_noise h4 ht h24 hT hs hL) ?_
    refine v_so ?_
    rw [e2]
  · rw [if_neg h, if_neg h]
    refine v_ifn (by decide) ?_
    exact v_so rfl
