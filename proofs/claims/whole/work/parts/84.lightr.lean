/-! what a light loses: the reference -/
theorem z_pa_r {K A B L bn o : Nat → Int32} {p : Nat} {v : Int32} (hA : 0 ≤ (A p).toInt ∧ (A p).toInt ≤ 40000) (hB : 0 ≤ (B p).toInt ∧ (B p).toInt ≤ 30000) : z_pa K A B L bn o p v = if K p = 3 then (if o p = 0 then (if B p ≤ v then v else mm_min (B p) (v + A p)) else v + -5000) else v - (L p + bn p) := by
  unfold z_pa
  by_cases hk : K p = 3
  · rw [if_pos hk, if_pos hk]
    by_cases ho : o p = 0
    · rw [if_pos ho, if_pos ho]
      by_cases h1 : v.toInt < (B p).toInt
      · rw [if_pos (by rw [iA_le]; omega), if_neg (by rw [iA_le]; omega)]
      · by_cases h2 : v.toInt = (B p).toInt
        · have h3 : v = B p := iA_eq.mpr h2
          rw [if_pos (by rw [iA_le]; omega), if_pos (by rw [iA_le]; omega), h3]
          unfold mm_min
          rw [if_neg]
          rw [iA_lt, iA_add (by omega) (by omega)]
          omega
        · rw [if_neg (by rw [iA_le]; omega), if_pos (by rw [iA_le]; omega)]
    · rw [if_neg ho, if_neg ho, Int32.sub_eq_add_neg]
  · rw [if_neg hk, if_neg hk, Int32.sub_sub]
theorem z_thB_A {N Y p : Nat} {K A B : Nat → Int32} (hB : z_thB N K A B Y) (hp : p < N) : (0 ≤ (A p).toInt ∧ (A p).toInt ≤ 40000) ∧ (0 ≤ (B p).toInt ∧ (B p).toInt ≤ 30000) ∧ 0 ≤ (K p).toInt ∧ (K p).toInt < 4 := by
  obtain ⟨⟨k, hk, ek⟩, ⟨a, ha, ea⟩, ⟨b, hb, eb⟩, _⟩ := hB.2.2.2 p hp
  rw [ea, eb, ek, nJ_T (by omega), nJ_T (by omega), nJ_T (by omega)]
  omega
theorem z_ix {a b : Int32} {t p : Nat} (ha : a.toInt = (t : Int)) (hb : b.toInt = (p : Int)) (ht : t < 9) (hp : p < 24) : (24 * a + b).toInt = ((24 * t + p : Nat) : Int) := by
  have e1 : (24 * a).toInt = 24 * (t : Int) := by
    rw [iA_mul (by rw [ha]; simp (disch := first | omega | decide | fail) only [Int32.reduceToInt] <;> omega) (by rw [ha]; simp (disch := first | omega | decide | fail) only [Int32.reduceToInt] <;> omega), ha]
    rfl
  rw [iA_add (by rw [e1, hb]; omega) (by rw [e1, hb]; omega), e1, hb]
  omega
theorem r_through {m : mm_M} {lw : zL} {t N Y M : Nat} {K A B H bn ct o : Nat → Int32} {a1 a2 col s e age : Int32} (ht : t < 8) (hl : ∀ k, k < 4 → z_cdM m k (lw k)) (hd : ∀ k cd, lw k = some cd → z_dep cd 0 = some 1) (hB : z_thB N K A B Y) (hT : z_thM m t N K A B H Y) (hs : z_scM m bn ct o) (ha1 : a1.toInt = (t : Int)) (ha2 : a2.toInt = (M : Int)) (hM : M ≤ N) : vW (f_X12_through a1 a2 col s e age m) (fun q => q.1 = (z_li (z_pa K A B (z_lv lw K A H col age) bn o) ct (z_at N e) s M).getD (-100000) ∧ fp [(84, none, none), (85, none, none)] m q.2) := by
  have h24 := hB.2.1
  have k1 : a1.toNatClampNeg = t := n_k ha1
  unfold f_X12_through
  refine v_s1 (P := (fun q => match q with
    | .inl c => z_li (z_pa K A B (z_lv lw K A H col age) bn o) ct (z_at N e) s M = none ∧ fp [(84, none, none), (85, none, none)] m c
    | .inr (v, c) => z_li (z_pa K A B (z_lv lw K A H col age) bn o) ct (z_at N e) s M = some v ∧ fp [(84, none, none), (85, none, none)] m c)) ?_ ?_
  · refine v_for (fun j q => z_li (z_pa K A B (z_lv lw K A H col age) bn o) ct (z_at N e) s j = some q.1 ∧ q.2.1.toInt = (j : Int) ∧ fp [(84, none, none), (85, none, none)] m q.2.2) 0 M (Nat.zero_le _) (by omega) ⟨rfl, i_0, fp_rf⟩ ?_ ?_
    · rintro j ⟨v, u, c⟩ hj ⟨hv, hu, hf⟩
      dsimp only at hv hu hf ⊢
      have hq : z_at N e j < N := z_at_lt (by omega)
      have g67 : (c 67 0 t).toInt = (N : Int) := by rw [hf 67 0 t rfl, hT.1, nJ_T (by omega)]
      (repeat (first | with_reducible refine v_l1 ?_ | with_reducible refine v_lN ?_ | with_reducible refine v_lO ?_ | with_reducible refine v_lM ?_ | with_reducible refine v_lF ?_ | with_reducible refine v_ifp (by first | assumption | omega | (simp (disch := first | omega | fail) only [v_in, iA_le, iA_lt, n_1, n_0, n_p1, Int32.reduceToInt, ne_eq, not_true_eq_false, not_false_eq_true, eq_self, Int.toNat_natCast, hu, ha2] <;> omega) | decide | fail) ?_ | with_reducible refine v_ifn (by first | assumption | omega | (simp (disch := first | omega | fail) only [v_in, iA_le, iA_lt, n_1, n_0, n_p1, Int32.reduceToInt, ne_eq, not_true_eq_false, not_false_eq_true, eq_self, Int.toNat_natCast, hu, ha2] <;> omega) | decide | fail) ?_))
      have key : ∀ z : Int32, z.toInt = (z_at N e j : Int) → vW (mm_let (24 * a1 + z) fun v7 =>
if mm_in z 24 then (
if (c 88 0 z.toNatClampNeg) = (-1) then (if mm_in v7 216 then (
if (c 69 0 v7.toNatClampNeg) = 3 then (if mm_in z 24 then (
if (c 90 0 z.toNatClampNeg) = 0 then (if mm_in v7 216 then (
if (c 71 0 v7.toNatClampNeg) ≤ v then (mm_let (u + 1) fun v8 =>
some (.inl (v, v8, c)))
else (if mm_in v7 216 then (
if mm_in v7 216 then (
mm_let (mm_min (c 71 0 v7.toNatClampNeg) (v + (c 70 0 v7.toNatClampNeg))) fun v9 =>
mm_let (u + 1) fun v10 =>
some (.inl (v9, v10, c))) else none) else none)) else none)
else (mm_let (v + (-5000)) fun v11 =>
mm_let (u + 1) fun v12 =>
some (.inl (v11, v12, c)))) else none)
else (mm_b2 (f_X12_lossOf v7 col age c) fun r13 m14 =>
if mm_in z 24 then (
mm_let (v - (r13 + (m14 87 0 z.toNatClampNeg))) fun v15 =>
mm_let (u + 1) fun v16 =>
some (.inl (v15, v16, m14))) else none)) else none)
else (some (.inr (.inl c)))) else none : Option ((Int32 × Int32 × mm_M) ⊕ (mm_M ⊕ (Int32 × mm_M)))) (v_st (fun q => z_li (z_pa K A B (z_lv lw K A H col age) bn o) ct (z_at N e) s (j + 1) = some q.1 ∧ q.2.1.toInt = ((j + 1 : Nat) : Int) ∧ fp [(84, none, none), (85, none, none)] m q.2.2) (fun q => match q with
    | .inl c => z_li (z_pa K A B (z_lv lw K A H col age) bn o) ct (z_at N e) s M = none ∧ fp [(84, none, none), (85, none, none)] m c
    | .inr (v, c) => z_li (z_pa K A B (z_lv lw K A H col age) bn o) ct (z_at N e) s M = some v ∧ fp [(84, none, none), (85, none, none)] m c)) := by
        intro z hz
        revert hq hv hz
        generalize hzz : z_at N e j = p
        intro hv hq hz
        obtain ⟨e1, e2, e3, e4⟩ := hT.2.2 p hq
        obtain ⟨e5, e6, e7⟩ := hs p (by omega)
        have kz : z.toNatClampNeg = p := n_k hz
        refine v_lI (fun x hx => ?_)
        have hx2 : x.toInt = ((24 * t + p : Nat) : Int) := by rw [hx]; exact z_ix ha1 hz (by omega) (by omega)
        clear hx
        have kx : x.toNatClampNeg = 24 * t + p := n_k hx2
        have f1 : c 69 0 x.toNatClampNeg = K p := by rw [kx, hf _ _ _ rfl, e1]
        have f2 : c 70 0 x.toNatClampNeg = A p := by rw [kx, hf _ _ _ rfl, e2]
        have f3 : c 71 0 x.toNatClampNeg = B p := by rw [kx, hf _ _ _ rfl, e3]
        have f5 : c 87 0 z.toNatClampNeg = bn p := by rw [kz, hf _ _ _ rfl, e5]
        have f6 : c 88 0 z.toNatClampNeg = ct p := by rw [kz, hf _ _ _ rfl, e6]
        have f7 : c 90 0 z.toNatClampNeg = o p := by rw [kz, hf _ _ _ rfl, e7]
        have hb := z_thB_A hB hq
        have hpr := z_pa_r (K := K) (L := z_lv lw K A H col age) (bn := bn) (o := o) (v := v) hb.1 hb.2.1
        clear hb
        by_cases h1 : ct p = -1
        · have hn := z_li_s hv (by rw [hzz]; exact h1)
          rw [hzz, hpr] at hn
          by_cases hk : K p = 3
          · rw [if_pos hk] at hn
            by_cases ho : o p = 0
            · rw [if_pos ho] at hn
              by_cases hbv : B p ≤ v
              · rw [if_pos hbv] at hn
                rw [← f3] at hbv
                (repeat (first | with_reducible refine v_l1 ?_ | with_reducible refine v_lN ?_ | with_reducible refine v_lO ?_ | with_reducible refine v_lM ?_ | with_reducible refine v_lF ?_ | with_reducible refine v_ifp (by first | assumption | omega | (simp (disch := first | omega | fail) only [v_in, iA_le, iA_lt, n_1, n_0, n_p1, Int32.reduceToInt, ne_eq, not_true_eq_false, not_false_eq_true, eq_self, Int.toNat_natCast, hz, hx2, f1, f6, f7, h1, hk, ho, hbv] <;> omega) | decide | fail) ?_ | with_reducible refine v_ifn (by first | assumption | omega | (simp (disch := first | omega | fail) only [v_in, iA_le, iA_lt, n_1, n_0, n_p1, Int32.reduceToInt, ne_eq, not_true_eq_false, not_false_eq_true, eq_self, Int.toNat_natCast, hz, hx2, f1, f6, f7, h1, hk, ho, hbv] <;> omega) | decide | fail) ?_))
                exact v_il ⟨hn, n_s3 hu (by omega), hf⟩
              · rw [if_neg hbv] at hn
                rw [← f3] at hbv
                (repeat (first | with_reducible refine v_l1 ?_ | with_reducible refine v_lN ?_ | with_reducible refine v_lO ?_ | with_reducible refine v_lM ?_ | with_reducible refine v_lF ?_ | with_reducible refine v_ifp (by first | assumption | omega | (simp (disch := first | omega | fail) only [v_in, iA_le, iA_lt, n_1, n_0, n_p1, Int32.reduceToInt, ne_eq, not_true_eq_false, not_false_eq_true, eq_self, Int.toNat_natCast, hz, hx2, f1, f6, f7, h1, hk, ho, hbv] <;> omega) | decide | fail) ?_ | with_reducible refine v_ifn (by first | assumption | omega | (simp (disch := first | omega | fail) only [v_in, iA_le, iA_lt, n_1, n_0, n_p1, Int32.reduceToInt, ne_eq, not_true_eq_false, not_false_eq_true, eq_self, Int.toNat_natCast, hz, hx2, f1, f6, f7, h1, hk, ho, hbv] <;> omega) | decide | fail) ?_))
                refine v_lI (fun y hy => ?_)
                (repeat (first | with_reducible refine v_l1 ?_ | with_reducible refine v_lN ?_ | with_reducible refine v_lO ?_ | with_reducible refine v_lM ?_ | with_reducible refine v_lF ?_ | with_reducible refine v_ifp (by first | assumption | omega | (simp (disch := first | omega | fail) only [v_in, iA_le, iA_lt, n_1, n_0, n_p1, Int32.reduceToInt, ne_eq, not_true_eq_false, not_false_eq_true, eq_self, Int.toNat_natCast, hz] <;> omega) | decide | fail) ?_ | with_reducible refine v_ifn (by first | assumption | omega | (simp (disch := first | omega | fail) only [v_in, iA_le, iA_lt, n_1, n_0, n_p1, Int32.reduceToInt, ne_eq, not_true_eq_false, not_false_eq_true, eq_self, Int.toNat_natCast, hz] <;> omega) | decide | fail) ?_))
                refine v_il ⟨?_, n_s3 hu (by omega), hf⟩
                dsimp only
                rw [hn, hy, f3, f2]
            · rw [if_neg ho] at hn
              (repeat (first | with_reducible refine v_l1 ?_ | with_reducible refine v_lN ?_ | with_reducible refine v_lO ?_ | with_reducible refine v_lM ?_ | with_reducible refine v_lF ?_ | with_reducible refine v_ifp (by first | assumption | omega | (simp (disch := first | omega | fail) only [v_in, iA_le, iA_lt, n_1, n_0, n_p1, Int32.reduceToInt, ne_eq, not_true_eq_false, not_false_eq_true, eq_self, Int.toNat_natCast, hz, hx2, f1, f6, f7, h1, hk, ho] <;> omega) | decide | fail) ?_ | with_reducible refine v_ifn (by first | assumption | omega | (simp (disch := first | omega | fail) only [v_in, iA_le, iA_lt, n_1, n_0, n_p1, Int32.reduceToInt, ne_eq, not_true_eq_false, not_false_eq_true, eq_self, Int.toNat_natCast, hz, hx2, f1, f6, f7, h1, hk, ho] <;> omega) | decide | fail) ?_))
              refine v_lI (fun y hy => ?_)
              (repeat (first | with_reducible refine v_l1 ?_ | with_reducible refine v_lN ?_ | with_reducible refine v_lO ?_ | with_reducible refine v_lM ?_ | with_reducible refine v_lF ?_ | with_reducible refine v_ifp (by first | assumption | omega | (simp (disch := first | omega | fail) only [v_in, iA_le, iA_lt, n_1, n_0, n_p1, Int32.reduceToInt, ne_eq, not_true_eq_false, not_false_eq_true, eq_self, Int.toNat_natCast, hz] <;> omega) | decide | fail) ?_ | with_reducible refine v_ifn (by first | assumption | omega | (simp (disch := first | omega | fail) only [v_in, iA_le, iA_lt, n_1, n_0, n_p1, Int32.reduceToInt, ne_eq, not_true_eq_false, not_false_eq_true, eq_self, Int.toNat_natCast, hz] <;> omega) | decide | fail) ?_))
              refine v_il ⟨?_, n_s3 hu (by omega), hf⟩
              dsimp only
              rw [hn, hy]
          · rw [if_neg hk] at hn
            (repeat (first | with_reducible refine v_l1 ?_ | with_reducible refine v_lN ?_ | with_reducible refine v_lO ?_ | with_reducible refine v_lM ?_ | with_reducible refine v_lF ?_ | with_reducible refine v_ifp (by first | assumption | omega | (simp (disch := first | omega | fail) only [v_in, iA_le, iA_lt, n_1, n_0, n_p1, Int32.reduceToInt, ne_eq, not_true_eq_false, not_false_eq_true, eq_self, Int.toNat_natCast, hz, hx2, f1, f6, f7, h1, hk] <;> omega) | decide | fail) ?_ | with_reducible refine v_ifn (by first | assumption | omega | (simp (disch := first | omega | fail) only [v_in, iA_le, iA_lt, n_1, n_0, n_p1, Int32.reduceToInt, ne_eq, not_true_eq_false, not_false_eq_true, eq_self, Int.toNat_natCast, hz, hx2, f1, f6, f7, h1, hk] <;> omega) | decide | fail) ?_))
            refine v_s2 (r_loss ht (fun k hk => z_cdM_fr (fun g i k hg => hf g i k (z_dis_of (by decide) hg)) (hl k hk)) hd hB (z_thM_fr (fun g i k hg => hf g i k (z_dis_of (by decide) hg)) hT) hx2 hq) ?_
            rintro y c2 ⟨hy, hf2⟩
            dsimp only at hy hf2
            (repeat (first | with_reducible refine v_l1 ?_ | with_reducible refine v_lN ?_ | with_reducible refine v_lO ?_ | with_reducible refine v_lM ?_ | with_reducible refine v_lF ?_ | with_reducible refine v_ifp (by first | assumption | omega | (simp (disch := first | omega | fail) only [v_in, iA_le, iA_lt, n_1, n_0, n_p1, Int32.reduceToInt, ne_eq, not_true_eq_false, not_false_eq_true, eq_self, Int.toNat_natCast, hz] <;> omega) | decide | fail) ?_ | with_reducible refine v_ifn (by first | assumption | omega | (simp (disch := first | omega | fail) only [v_in, iA_le, iA_lt, n_1, n_0, n_p1, Int32.reduceToInt, ne_eq, not_true_eq_false, not_false_eq_true, eq_self, Int.toNat_natCast, hz] <;> omega) | decide | fail) ?_))
            refine v_lI (fun y2 hy2 => ?_)
            (repeat (first | with_reducible refine v_l1 ?_ | with_reducible refine v_lN ?_ | with_reducible refine v_lO ?_ | with_reducible refine v_lM ?_ | with_reducible refine v_lF ?_ | with_reducible refine v_ifp (by first | assumption | omega | (simp (disch := first | omega | fail) only [v_in, iA_le, iA_lt, n_1, n_0, n_p1, Int32.reduceToInt, ne_eq, not_true_eq_false, not_false_eq_true, eq_self, Int.toNat_natCast, hz] <;> omega) | decide | fail) ?_ | with_reducible refine v_ifn (by first | assumption | omega | (simp (disch := first | omega | fail) only [v_in, iA_le, iA_lt, n_1, n_0, n_p1, Int32.reduceToInt, ne_eq, not_true_eq_false, not_false_eq_true, eq_self, Int.toNat_natCast, hz] <;> omega) | decide | fail) ?_))
            refine v_il ⟨?_, n_s3 hu (by omega), fp_tr hf hf2⟩
            dsimp only
            rw [hn, hy2, hy, hf2 87 0 _ rfl, f5]
        · (repeat (first | with_reducible refine v_l1 ?_ | with_reducible refine v_lN ?_ | with_reducible refine v_lO ?_ | with_reducible refine v_lM ?_ | with_reducible refine v_lF ?_ | with_reducible refine v_ifp (by first | assumption | omega | (simp (disch := first | omega | fail) only [v_in, iA_le, iA_lt, n_1, n_0, n_p1, Int32.reduceToInt, ne_eq, not_true_eq_false, not_false_eq_true, eq_self, Int.toNat_natCast, hz, f6, h1] <;> omega) | decide | fail) ?_ | with_reducible refine v_ifn (by first | assumption | omega | (simp (disch := first | omega | fail) only [v_in, iA_le, iA_lt, n_1, n_0, n_p1, Int32.reduceToInt, ne_eq, not_true_eq_false, not_false_eq_true, eq_self, Int.toNat_natCast, hz, f6, h1] <;> omega) | decide | fail) ?_))
          exact v_ir ⟨z_li_e hv (by rw [hzz]; exact h1) hj, hf⟩
      by_cases he : e = 0
      · have ez : z_at N e j = j := if_pos he
        refine v_ifp he ?_
        exact key u (by rw [ez]; exact hu)
      · have ez : z_at N e j = N - 1 - j := if_neg he
        refine v_ifn he ?_
        refine v_ifp (by simp (disch := first | omega | decide | fail) only [v_in, ha1] <;> omega) ?_
        refine key _ ?_
        have h1 : (c 67 0 t - 1).toInt = ((N - 1 : Nat) : Int) := by rw [n_0 (by omega)]; omega
        rw [k1, iA_sub (by rw [h1, hu]; omega) (by rw [h1, hu]; omega), h1, hu, ez]
        omega
    · rintro ⟨v, u, c⟩ ⟨hv, hu, hf⟩
      dsimp only at hv hu hf ⊢
      (repeat (first | with_reducible refine v_l1 ?_ | with_reducible refine v_lN ?_ | with_reducible refine v_lO ?_ | with_reducible refine v_lM ?_ | with_reducible refine v_lF ?_ | with_reducible refine v_ifp (by first | assumption | omega | (simp (disch := first | omega | fail) only [v_in, iA_le, iA_lt, n_1, n_0, n_p1, Int32.reduceToInt, ne_eq, not_true_eq_false, not_false_eq_true, eq_self, Int.toNat_natCast, hu, ha2] <;> omega) | decide | fail) ?_ | with_reducible refine v_ifn (by first | assumption | omega | (simp (disch := first | omega | fail) only [v_in, iA_le, iA_lt, n_1, n_0, n_p1, Int32.reduceToInt, ne_eq, not_true_eq_false, not_false_eq_true, eq_self, Int.toNat_natCast, hu, ha2] <;> omega) | decide | fail) ?_))
      exact v_ir ⟨hv, hf⟩
  · rintro (c | ⟨v, c⟩) ⟨h, hf⟩
    · rw [h]
      exact v_so ⟨rfl, hf⟩
    · rw [h]
      exact v_so ⟨rfl, hf⟩
theorem r_dark {m : mm_M} {N : Nat} {bn ct o : Nat → Int32} {a1 a2 : Int32} (h24 : N ≤ 24) (ha2 : a2.toInt = (N : Int)) (hs : z_scM m bn ct o) : f_X12_isDark a1 a2 0 m = some (if ∀ p, p < N → ct p = -1 then 0 else 1) := by
  apply v_is
  unfold f_X12_isDark
  refine v_s1 (P := fun q => match q with
    | .inl _ => ¬ ∀ p, p < N → ct p = -1
    | .inr _ => ∀ p, p < N → ct p = -1) ?_ ?_
  · refine v_for (fun j q => q.toInt = (j : Int) ∧ ∀ p, p < j → ct p = -1) 0 N (Nat.zero_le _) (by omega) ⟨i_0, fun p hp => absurd hp (Nat.not_lt_zero p)⟩ ?_ ?_
    · rintro j v hj ⟨hv, hc⟩
      have kv : v.toNatClampNeg = j := n_k hv
      have hcj := (hs j (by omega)).2.1
      by_cases h1 : ct j = -1
      · (repeat (first | with_reducible refine v_l1 ?_ | with_reducible refine v_lN ?_ | with_reducible refine v_lO ?_ | with_reducible refine v_lM ?_ | with_reducible refine v_lF ?_ | with_reducible refine v_ifp (by first | assumption | omega | (simp (disch := first | omega | fail) only [v_in, iA_le, iA_lt, n_1, n_0, n_p1, Int32.reduceToInt, ne_eq, not_true_eq_false, not_false_eq_true, eq_self, Int.toNat_natCast, hv, ha2, kv, hcj, h1] <;> omega) | decide | fail) ?_ | with_reducible refine v_ifn (by first | assumption | omega | (simp (disch := first | omega | fail) only [v_in, iA_le, iA_lt, n_1, n_0, n_p1, Int32.reduceToInt, ne_eq, not_true_eq_false, not_false_eq_true, eq_self, Int.toNat_natCast, hv, ha2, kv, hcj, h1] <;> omega) | decide | fail) ?_))
        refine v_il ⟨n_s3 hv (by omega), fun p hp => ?_⟩
        by_cases hpj : p = j
        · rw [hpj]
          exact h1
        · exact hc p (by omega)
      · (repeat (first | with_reducible refine v_l1 ?_ | with_reducible refine v_lN ?_ | with_reducible refine v_lO ?_ | with_reducible refine v_lM ?_ | with_reducible refine v_lF ?_ | with_reducible refine v_ifp (by first | assumption | omega | (simp (disch := first | omega | fail) only [v_in, iA_le, iA_lt, n_1, n_0, n_p1, Int32.reduceToInt, ne_eq, not_true_eq_false, not_false_eq_true, eq_self, Int.toNat_natCast, hv, ha2, kv, hcj, h1] <;> omega) | decide | fail) ?_ | with_reducible refine v_ifn (by first | assumption | omega | (simp (disch := first | omega | fail) only [v_in, iA_le, iA_lt, n_1, n_0, n_p1, Int32.reduceToInt, ne_eq, not_true_eq_false, not_false_eq_true, eq_self, Int.toNat_natCast, hv, ha2, kv, hcj, h1] <;> omega) | decide | fail) ?_))
        exact v_ir (fun h => h1 (h j hj))
    · rintro v ⟨hv, hc⟩
      (repeat (first | with_reducible refine v_l1 ?_ | with_reducible refine v_lN ?_ | with_reducible refine v_lO ?_ | with_reducible refine v_lM ?_ | with_reducible refine v_lF ?_ | with_reducible refine v_ifp (by first | assumption | omega | (simp (disch := first | omega | fail) only [v_in, iA_le, iA_lt, n_1, n_0, n_p1, Int32.reduceToInt, ne_eq, not_true_eq_false, not_false_eq_true, eq_self, Int.toNat_natCast, hv, ha2] <;> omega) | decide | fail) ?_ | with_reducible refine v_ifn (by first | assumption | omega | (simp (disch := first | omega | fail) only [v_in, iA_le, iA_lt, n_1, n_0, n_p1, Int32.reduceToInt, ne_eq, not_true_eq_false, not_false_eq_true, eq_self, Int.toNat_natCast, hv, ha2] <;> omega) | decide | fail) ?_))
      exact v_ir hc
  · rintro (_ | _) h
    · exact v_so (if_neg h).symm
    · exact v_so (if_pos h).symm
theorem r_noise {m : mm_M} {lw : zL} {t N Y : Nat} {K A B H bn ct o : Nat → Int32} {a1 col age : Int32} (ht : t < 8) (hl : ∀ k, k < 4 → z_cdM m k (lw k)) (hd : ∀ k cd, lw k = some cd → z_dep cd 0 = some 1) (hB : z_thB N K A B Y) (hT : z_thM m t N K A B H Y) (hs : z_scM m bn ct o) (ha1 : a1.toInt = (t : Int)) : vW (f_X12_noise a1 col age m) (fun q => q.1 = z_no K o (z_lv lw K A H col age) N ∧ fp [(84, none, none), (85, none, none)] m q.2) := by
  have h24 := hB.2.1
  have k1 : a1.toNatClampNeg = t := n_k ha1
  unfold f_X12_noise
  refine v_s1 (P := fun q => q.1 = z_no K o (z_lv lw K A H col age) N ∧ fp [(84, none, none), (85, none, none)] m q.2) ?_ (fun q h => v_so h)
  refine v_for (fun j q => q.1 = z_no K o (z_lv lw K A H col age) j ∧ q.2.1.toInt = (j : Int) ∧ fp [(84, none, none), (85, none, none)] m q.2.2) 0 N (Nat.zero_le _) (by omega) ⟨rfl, i_0, fp_rf⟩ ?_ ?_
  · rintro j ⟨x, v, c⟩ hj ⟨hx, hv, hf⟩
    dsimp only at hx hv hf ⊢
    obtain ⟨e1, e2, e3, e4⟩ := hT.2.2 j hj
    obtain ⟨e5, e6, e7⟩ := hs j (by omega)
    have kv : v.toNatClampNeg = j := n_k hv
    have g67 : (c 67 0 t).toInt = (N : Int) := by rw [hf 67 0 t rfl, hT.1, nJ_T (by omega)]
    have hix : (24 * a1 + v).toInt = ((24 * t + j : Nat) : Int) := z_ix ha1 hv (by omega) (by omega)
    have kix : (24 * a1 + v).toNatClampNeg = 24 * t + j := n_k hix
    revert hix kix
    generalize hiy : 24 * a1 + v = y
    intro hix kix
    have f1 : c 69 0 y.toNatClampNeg = K j := by rw [kix, hf _ _ _ rfl, e1]
    have f7 : c 90 0 v.toNatClampNeg = o j := by rw [kv, hf _ _ _ rfl, e7]
    by_cases hk : K j = 3
    · by_cases ho : o j = 0
      · (repeat (first | with_reducible refine v_l1 ?_ | with_reducible refine v_lN ?_ | with_reducible refine v_lO ?_ | with_reducible refine v_lM ?_ | with_reducible refine v_lF ?_ | with_reducible refine v_ifp (by first | assumption | omega | (simp (disch := first | omega | fail) only [v_in, iA_le, iA_lt, n_1, n_0, n_p1, Int32.reduceToInt, ne_eq, not_true_eq_false, not_false_eq_true, eq_self, Int.toNat_natCast, hv, k1, ha1, g67, hix, f1, f7, hk, ho] <;> omega) | decide | fail) ?_ | with_reducible refine v_ifn (by first | assumption | omega | (simp (disch := first | omega | fail) only [v_in, iA_le, iA_lt, n_1, n_0, n_p1, Int32.reduceToInt, ne_eq, not_true_eq_false, not_false_eq_true, eq_self, Int.toNat_natCast, hv, k1, ha1, g67, hix, f1, f7, hk, ho] <;> omega) | decide | fail) ?_))
        refine v_s2 (r_loss ht (fun k hk => z_cdM_fr (fun g i k hg => hf g i k (z_dis_of (by decide) hg)) (hl k hk)) hd hB (z_thM_fr (fun g i k hg => hf g i k (z_dis_of (by decide) hg)) hT) hix hj) ?_
        rintro z c2 ⟨hz, hf2⟩
        dsimp only at hz hf2
        refine v_lI (fun w hw => ?_)
        (repeat (first | with_reducible refine v_l1 ?_ | with_reducible refine v_lN ?_ | with_reducible refine v_lO ?_ | with_reducible refine v_lM ?_ | with_reducible refine v_lF ?_ | with_reducible refine v_ifp (by first | assumption | omega | (simp (disch := first | omega | fail) only [v_in, iA_le, iA_lt, n_1, n_0, n_p1, Int32.reduceToInt, ne_eq, not_true_eq_false, not_false_eq_true, eq_self, Int.toNat_natCast, hv] <;> omega) | decide | fail) ?_ | with_reducible refine v_ifn (by first | assumption | omega | (simp (disch := first | omega | fail) only [v_in, iA_le, iA_lt, n_1, n_0, n_p1, Int32.reduceToInt, ne_eq, not_true_eq_false, not_false_eq_true, eq_self, Int.toNat_natCast, hv] <;> omega) | decide | fail) ?_))
        refine v_il ⟨?_, n_s3 hv (by omega), fp_tr hf hf2⟩
        dsimp only
        rw [hw, hz, hx]
        exact (if_pos (c := K j = 3 ∧ o j = 0) ⟨hk, ho⟩).symm
      · (repeat (first | with_reducible refine v_l1 ?_ | with_reducible refine v_lN ?_ | with_reducible refine v_lO ?_ | with_reducible refine v_lM ?_ | with_reducible refine v_lF ?_ | with_reducible refine v_ifp (by first | assumption | omega | (simp (disch := first | omega | fail) only [v_in, iA_le, iA_lt, n_1, n_0, n_p1, Int32.reduceToInt, ne_eq, not_true_eq_false, not_false_eq_true, eq_self, Int.toNat_natCast, hv, k1, ha1, g67, hix, f1, f7, hk, ho] <;> omega) | decide | fail) ?_ | with_reducible refine v_ifn (by first | assumption | omega | (simp (disch := first | omega | fail) only [v_in, iA_le, iA_lt, n_1, n_0, n_p1, Int32.reduceToInt, ne_eq, not_true_eq_false, not_false_eq_true, eq_self, Int.toNat_natCast, hv, k1, ha1, g67, hix, f1, f7, hk, ho] <;> omega) | decide | fail) ?_))
        refine v_il ⟨?_, n_s3 hv (by omega), hf⟩
        dsimp only
        rw [hx]
        exact (if_neg (c := K j = 3 ∧ o j = 0) (fun h => ho h.2)).symm
    · (repeat (first | with_reducible refine v_l1 ?_ | with_reducible refine v_lN ?_ | with_reducible refine v_lO ?_ | with_reducible refine v_lM ?_ | with_reducible refine v_lF ?_ | with_reducible refine v_ifp (by first | assumption | omega | (simp (disch := first | omega | fail) only [v_in, iA_le, iA_lt, n_1, n_0, n_p1, Int32.reduceToInt, ne_eq, not_true_eq_false, not_false_eq_true, eq_self, Int.toNat_natCast, hv, k1, ha1, g67, hix, f1, f7, hk] <;> omega) | decide | fail) ?_ | with_reducible refine v_ifn (by first | assumption | omega | (simp (disch := first | omega | fail) only [v_in, iA_le, iA_lt, n_1, n_0, n_p1, Int32.reduceToInt, ne_eq, not_true_eq_false, not_false_eq_true, eq_self, Int.toNat_natCast, hv, k1, ha1, g67, hix, f1, f7, hk] <;> omega) | decide | fail) ?_))
      refine v_il ⟨?_, n_s3 hv (by omega), hf⟩
      dsimp only
      rw [hx]
      exact (if_neg (c := K j = 3 ∧ o j = 0) (fun h => hk h.1)).symm
  · rintro ⟨x, v, c⟩ ⟨hx, hv, hf⟩
    dsimp only at hx hv hf ⊢
    have g67 : (c 67 0 t).toInt = (N : Int) := by rw [hf 67 0 t rfl, hT.1, nJ_T (by omega)]
    (repeat (first | with_reducible refine v_l1 ?_ | with_reducible refine v_lN ?_ | with_reducible refine v_lO ?_ | with_reducible refine v_lM ?_ | with_reducible refine v_lF ?_ | with_reducible refine v_ifp (by first | assumption | omega | (simp (disch := first | omega | fail) only [v_in, iA_le, iA_lt, n_1, n_0, n_p1, Int32.reduceToInt, ne_eq, not_true_eq_false, not_false_eq_true, eq_self, Int.toNat_natCast, hv, k1, ha1, g67] <;> omega) | decide | fail) ?_ | with_reducible refine v_ifn (by first | assumption | omega | (simp (disch := first | omega | fail) only [v_in, iA_le, iA_lt, n_1, n_0, n_p1, Int32.reduceToInt, ne_eq, not_true_eq_false, not_false_eq_true, eq_self, Int.toNat_natCast, hv, k1, ha1, g67] <;> omega) | decide | fail) ?_))
    exact v_ir ⟨hx, hf⟩
theorem z_scM_fr {m m' : mm_M} {bn ct o : Nat → Int32} (hm : ∀ g i k, z_in [(87, none, none), (88, none, none), (90, none, none)] g i k = true → m' g i k = m g i k) (h : z_scM m bn ct o) : z_scM m' bn ct o := by
  unfold z_scM at h ⊢
  simp only [fun i k => hm 87 i k rfl, fun i k => hm 88 i k rfl, fun i k => hm 90 i k rfl]
  exact h
theorem z_scC_fr {m m' : mm_M} {bn ct o : Nat → Int32} (hm : ∀ g i k, z_in [(33, none, none), (34, none, none), (35, none, none)] g i k = true → m' g i k = m g i k) (h : z_scC m bn ct o) : z_scC m' bn ct o := by
  unfold z_scC at h ⊢
  simp only [fun i k => hm 33 i k rfl, fun i k => hm 34 i k rfl, fun i k => hm 35 i k rfl]
  exact h
theorem r_margin {m : mm_M} {lw : zL} {t N Y : Nat} {K A B H bn ct o : Nat → Int32} {a1 col s w age : Int32} (ht : t < 8) (hl : ∀ k, k < 4 → z_cdM m k (lw k)) (hd : ∀ k cd, lw k = some cd → z_dep cd 0 = some 1) (hB : z_thB N K A B Y) (hT : z_thM m t N K A B H Y) (hs : z_scM m bn ct o) (ha1 : a1.toInt = (t : Int)) : vW (f_X12_marginOf a1 col s w age m) (fun q => q.1 = z_mg N K A B (z_lv lw K A H col age) bn ct o s w ∧ fp [(84, none, none), (85, none, none)] m q.2) := by
  have h24 := hB.2.1
  have k1 : a1.toNatClampNeg = t := n_k ha1
  have g67 : (m 67 0 a1.toNatClampNeg).toInt = (N : Int) := by rw [k1, hT.1, nJ_T (by omega)]
  unfold f_X12_marginOf z_mg
  (repeat (first | with_reducible refine v_l1 ?_ | with_reducible refine v_lN ?_ | with_reducible refine v_lO ?_ | with_reducible refine v_lM ?_ | with_reducible refine v_lF ?_ | with_reducible refine v_ifp (by first | assumption | omega | (simp (disch := first | omega | fail) only [v_in, iA_le, iA_lt, n_1, n_0, n_p1, Int32.reduceToInt, ne_eq, not_true_eq_false, not_false_eq_true, eq_self, Int.toNat_natCast, ha1] <;> omega) | decide | fail) ?_ | with_reducible refine v_ifn (by first | assumption | omega | (simp (disch := first | omega | fail) only [v_in, iA_le, iA_lt, n_1, n_0, n_p1, Int32.reduceToInt, ne_eq, not_true_eq_false, not_false_eq_true, eq_self, Int.toNat_natCast, ha1] <;> omega) | decide | fail) ?_))
  refine v_b1e (r_dark h24 g67 hs) ?_
  by_cases h : ∀ p, p < N → ct p = -1
  · rw [if_pos h, if_pos h]
    refine v_ifp rfl ?_
    (repeat (first | with_reducible refine v_l1 ?_ | with_reducible refine v_lN ?_ | with_reducible refine v_lO ?_ | with_reducible refine v_lM ?_ | with_reducible refine v_lF ?_ | with_reducible refine v_ifp (by first | assumption | omega | (simp (disch := first | omega | fail) only [v_in, iA_le, iA_lt, n_1, n_0, n_p1, Int32.reduceToInt, ne_eq, not_true_eq_false, not_false_eq_true, eq_self, Int.toNat_natCast, ha1] <;> omega) | decide | fail) ?_ | with_reducible refine v_ifn (by first | assumption | omega | (simp (disch := first | omega | fail) only [v_in, iA_le, iA_lt, n_1, n_0, n_p1, Int32.reduceToInt, ne_eq, not_true_eq_false, not_false_eq_true, eq_self, Int.toNat_natCast, ha1] <;> omega) | decide | fail) ?_))
    refine v_s2 (r_through (s := s) (e := 0) ht hl hd hB hT hs ha1 g67 (Nat.le_refl N)) ?_
    rintro x c ⟨hx, hf⟩
    refine v_s2 (r_noise ht (fun k hk => z_cdM_fr (fun g i k hg => hf g i k (z_dis_of (by decide) hg)) (hl k hk)) hd hB (z_thM_fr (fun g i k hg => hf g i k (z_dis_of (by decide) hg)) hT) (z_scM_fr (fun g i k hg => hf g i k (z_dis_of (by decide) hg)) hs) ha1) ?_
    rintro y c2 ⟨hy, hf2⟩
    dsimp only at hx hy
    rw [hx, hy]
    exact v_so ⟨rfl, fp_tr hf hf2⟩
  · rw [if_neg h, if_neg h]
    refine v_ifn (by decide) ?_
    exact v_so ⟨rfl, fp_rf⟩
