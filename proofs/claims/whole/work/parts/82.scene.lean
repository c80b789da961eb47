/-! a thread as it stands: scenes on both sides -/
/-- the class's scene: of a thread, what is bent, cut, off -/
def z_scC (c : mm_M) (bn ct o : Nat → Int32) : Prop := ∀ p, p < 24 → c 33 0 p = bn p ∧ c 34 0 p = ct p ∧ c 35 0 p = o p
def z_scM (m : mm_M) (bn ct o : Nat → Int32) : Prop := ∀ p, p < 24 → m 87 0 p = bn p ∧ m 88 0 p = ct p ∧ m 90 0 p = o p
/-- a light that passes a part -/
def z_pa (K A B L bn o : Nat → Int32) (p : Nat) (v : Int32) : Int32 := if K p = 3 then (if o p = 0 then (if v ≤ B p then mm_min (B p) (v + A p) else v) else v - 5000) else v - L p - bn p
/-- the light behind the first j parts of an order, if it comes there -/
def z_li (P : Nat → Int32 → Int32) (ct : Nat → Int32) (at_ : Nat → Nat) (s : Int32) : Nat → Option Int32
  | 0 => some s
  | j + 1 => match z_li P ct at_ s j with
    | none => none
    | some v => if ct (at_ j) = -1 then some (P (at_ j) v) else none
theorem z_li_no {P : Nat → Int32 → Int32} {ct : Nat → Int32} {at_ : Nat → Nat} {s : Int32} {j : Nat} (h : z_li P ct at_ s j = none) : ∀ k, z_li P ct at_ s (j + k) = none
  | 0 => h
  | k + 1 => by
    show z_li P ct at_ s ((j + k) + 1) = none
    unfold z_li
    rw [z_li_no h k]
theorem z_li_s {P : Nat → Int32 → Int32} {ct : Nat → Int32} {at_ : Nat → Nat} {s v : Int32} {j : Nat} (h : z_li P ct at_ s j = some v) (hc : ct (at_ j) = -1) : z_li P ct at_ s (j + 1) = some (P (at_ j) v) := by
  unfold z_li
  rw [h]
  exact if_pos hc
theorem z_li_e {P : Nat → Int32 → Int32} {ct : Nat → Int32} {at_ : Nat → Nat} {s v : Int32} {j n : Nat} (h : z_li P ct at_ s j = some v) (hc : ¬ ct (at_ j) = -1) (hj : j < n) : z_li P ct at_ s n = none := by
  have e : z_li P ct at_ s (j + 1) = none := by
    unfold z_li
    rw [h]
    exact if_neg hc
  have := z_li_no e (n - (j + 1))
  rwa [show j + 1 + (n - (j + 1)) = n by omega] at this
/-- the order in which a light meets the parts -/
def z_at (N : Nat) (e : Int32) (j : Nat) : Nat := if e = 0 then j else N - 1 - j
theorem c_ung3 {m : mm_M} {p : Nat} {a2 a3 : Int32} (ha : a2.toInt = (p : Int)) (hp : p < 24) : f_X6_undergo 3 a2 a3 m = some (mm_w (mm_w (mm_w m 33 0 p 0) 34 0 p (-1)) 35 0 p 0) := by
  apply v_is
  have ka : a2.toNatClampNeg = p := n_k ha
  unfold f_X6_undergo
  (repeat (first | with_reducible refine v_l1 ?_ | with_reducible refine v_lN ?_ | with_reducible refine v_lO ?_ | with_reducible refine v_lM ?_ | with_reducible refine v_lF ?_ | with_reducible refine v_ifp (by first | assumption | omega | (simp (disch := first | omega | fail) only [v_in, iA_le, iA_lt, n_1, n_0, n_p1, Int32.reduceToInt, ne_eq, not_true_eq_false, not_false_eq_true, eq_self, Int.toNat_natCast, ha] <;> omega) | decide | fail) ?_ | with_reducible refine v_ifn (by first | assumption | omega | (simp (disch := first | omega | fail) only [v_in, iA_le, iA_lt, n_1, n_0, n_p1, Int32.reduceToInt, ne_eq, not_true_eq_false, not_false_eq_true, eq_self, Int.toNat_natCast, ha] <;> omega) | decide | fail) ?_))
  refine v_so ?_
  rw [ka]
theorem c_ung0 {m : mm_M} {p : Nat} {a2 a3 : Int32} (ha : a2.toInt = (p : Int)) (hp : p < 24) : f_X6_undergo 0 a2 a3 m = some (mm_w m 33 0 p (m 33 0 p + a3)) := by
  apply v_is
  have ka : a2.toNatClampNeg = p := n_k ha
  unfold f_X6_undergo
  (repeat (first | with_reducible refine v_l1 ?_ | with_reducible refine v_lN ?_ | with_reducible refine v_lO ?_ | with_reducible refine v_lM ?_ | with_reducible refine v_lF ?_ | with_reducible refine v_ifp (by first | assumption | omega | (simp (disch := first | omega | fail) only [v_in, iA_le, iA_lt, n_1, n_0, n_p1, Int32.reduceToInt, ne_eq, not_true_eq_false, not_false_eq_true, eq_self, Int.toNat_natCast, ha] <;> omega) | decide | fail) ?_ | with_reducible refine v_ifn (by first | assumption | omega | (simp (disch := first | omega | fail) only [v_in, iA_le, iA_lt, n_1, n_0, n_p1, Int32.reduceToInt, ne_eq, not_true_eq_false, not_false_eq_true, eq_self, Int.toNat_natCast, ha] <;> omega) | decide | fail) ?_))
  refine v_so ?_
  rw [ka]
theorem c_ung1 {m : mm_M} {p : Nat} {a2 a3 : Int32} (ha : a2.toInt = (p : Int)) (hp : p < 24) : f_X6_undergo 1 a2 a3 m = some (mm_w m 34 0 p a3) := by
  apply v_is
  have ka : a2.toNatClampNeg = p := n_k ha
  unfold f_X6_undergo
  (repeat (first | with_reducible refine v_l1 ?_ | with_reducible refine v_lN ?_ | with_reducible refine v_lO ?_ | with_reducible refine v_lM ?_ | with_reducible refine v_lF ?_ | with_reducible refine v_ifp (by first | assumption | omega | (simp (disch := first | omega | fail) only [v_in, iA_le, iA_lt, n_1, n_0, n_p1, Int32.reduceToInt, ne_eq, not_true_eq_false, not_false_eq_true, eq_self, Int.toNat_natCast, ha] <;> omega) | decide | fail) ?_ | with_reducible refine v_ifn (by first | assumption | omega | (simp (disch := first | omega | fail) only [v_in, iA_le, iA_lt, n_1, n_0, n_p1, Int32.reduceToInt, ne_eq, not_true_eq_false, not_false_eq_true, eq_self, Int.toNat_natCast, ha] <;> omega) | decide | fail) ?_))
  refine v_so ?_
  rw [ka]
theorem c_ung2 {m : mm_M} {p : Nat} {a2 a3 : Int32} (ha : a2.toInt = (p : Int)) (hp : p < 24) : f_X6_undergo 2 a2 a3 m = some (mm_w m 35 0 p 1) := by
  apply v_is
  have ka : a2.toNatClampNeg = p := n_k ha
  unfold f_X6_undergo
  (repeat (first | with_reducible refine v_l1 ?_ | with_reducible refine v_lN ?_ | with_reducible refine v_lO ?_ | with_reducible refine v_lM ?_ | with_reducible refine v_lF ?_ | with_reducible refine v_ifp (by first | assumption | omega | (simp (disch := first | omega | fail) only [v_in, iA_le, iA_lt, n_1, n_0, n_p1, Int32.reduceToInt, ne_eq, not_true_eq_false, not_false_eq_true, eq_self, Int.toNat_natCast, ha] <;> omega) | decide | fail) ?_ | with_reducible refine v_ifn (by first | assumption | omega | (simp (disch := first | omega | fail) only [v_in, iA_le, iA_lt, n_1, n_0, n_p1, Int32.reduceToInt, ne_eq, not_true_eq_false, not_false_eq_true, eq_self, Int.toNat_natCast, ha] <;> omega) | decide | fail) ?_))
  refine v_so ?_
  rw [ka]
theorem c_show {m : mm_M} {t : Nat} : vW (f_X6_show t m) (fun c => fp [(4, none, some 4), (33, none, none), (34, none, none), (35, none, none)] m c ∧ c 4 0 4 = Int32.ofNat t ∧ z_scC c (fun _ => 0) (fun _ => -1) (fun _ => 0)) := by
  unfold f_X6_show
  refine v_lM ?_
  refine v_s1 (P := fun c => fp [(4, none, some 4), (33, none, none), (34, none, none), (35, none, none)] m c ∧ c 4 0 4 = Int32.ofNat t ∧ z_scC c (fun _ => 0) (fun _ => -1) (fun _ => 0)) ?_ (fun c h => v_so h)
  refine v_for (fun j s => s.1.toInt = (j : Int) ∧ fp [(4, none, some 4), (33, none, none), (34, none, none), (35, none, none)] m s.2 ∧ s.2 4 0 4 = Int32.ofNat t ∧ ∀ p, p < j → s.2 33 0 p = 0 ∧ s.2 34 0 p = -1 ∧ s.2 35 0 p = 0) 0 24 (by decide) (by decide) ⟨i_0, fp_w rfl fp_rf, by dsimp only; exact mw_s, fun p hp => absurd hp (Nat.not_lt_zero p)⟩ ?_ ?_
  · rintro j ⟨v, c⟩ hj ⟨hv, hf, h4, hc⟩
    dsimp only at hv hf h4 hc ⊢
    (repeat (first | with_reducible refine v_l1 ?_ | with_reducible refine v_lN ?_ | with_reducible refine v_lO ?_ | with_reducible refine v_lM ?_ | with_reducible refine v_lF ?_ | with_reducible refine v_ifp (by first | assumption | omega | (simp (disch := first | omega | fail) only [v_in, iA_le, iA_lt, n_1, n_0, n_p1, Int32.reduceToInt, ne_eq, not_true_eq_false, not_false_eq_true, eq_self, Int.toNat_natCast, hv] <;> omega) | decide | fail) ?_ | with_reducible refine v_ifn (by first | assumption | omega | (simp (disch := first | omega | fail) only [v_in, iA_le, iA_lt, n_1, n_0, n_p1, Int32.reduceToInt, ne_eq, not_true_eq_false, not_false_eq_true, eq_self, Int.toNat_natCast, hv] <;> omega) | decide | fail) ?_ | with_reducible refine v_b1e (c_ung3 hv hj) ?_))
    refine v_il ⟨n_s3 hv (by omega), fp_w rfl (fp_w rfl (fp_w rfl hf)), by simp (disch := first | omega | decide | fail) only [mw_s, mw_k, mw_i, mw_g, h4], fun p hp => ?_⟩
    by_cases hpj : p = j
    · subst hpj
      simp (disch := first | omega | decide | fail) only [mw_s, mw_k, mw_i, mw_g]
      exact ⟨trivial, trivial, trivial⟩
    · have := hc p (by omega)
      simp (disch := first | omega | decide | fail) only [mw_s, mw_k, mw_i, mw_g, this]
      exact ⟨trivial, trivial, trivial⟩
  · rintro ⟨v, c⟩ ⟨hv, hf, h4, hc⟩
    dsimp only at hv hf h4 hc ⊢
    (repeat (first | with_reducible refine v_l1 ?_ | with_reducible refine v_lN ?_ | with_reducible refine v_lO ?_ | with_reducible refine v_lM ?_ | with_reducible refine v_lF ?_ | with_reducible refine v_ifp (by first | assumption | omega | (simp (disch := first | omega | fail) only [v_in, iA_le, iA_lt, n_1, n_0, n_p1, Int32.reduceToInt, ne_eq, not_true_eq_false, not_false_eq_true, eq_self, Int.toNat_natCast, hv] <;> omega) | decide | fail) ?_ | with_reducible refine v_ifn (by first | assumption | omega | (simp (disch := first | omega | fail) only [v_in, iA_le, iA_lt, n_1, n_0, n_p1, Int32.reduceToInt, ne_eq, not_true_eq_false, not_false_eq_true, eq_self, Int.toNat_natCast, hv] <;> omega) | decide | fail) ?_))
    exact v_ir ⟨hf, h4, hc⟩
theorem r_clear {m : mm_M} : vW (f_X12_clear m) (fun c => fp [(87, none, none), (88, none, none), (90, none, none)] m c ∧ z_scM c (fun _ => 0) (fun _ => -1) (fun _ => 0)) := by
  unfold f_X12_clear
  refine v_s1 (P := fun c => fp [(87, none, none), (88, none, none), (90, none, none)] m c ∧ z_scM c (fun _ => 0) (fun _ => -1) (fun _ => 0)) ?_ (fun c h => v_so h)
  refine v_for (fun j s => s.1.toInt = (j : Int) ∧ fp [(87, none, none), (88, none, none), (90, none, none)] m s.2 ∧ ∀ p, p < j → s.2 87 0 p = 0 ∧ s.2 88 0 p = -1 ∧ s.2 90 0 p = 0) 0 24 (by decide) (by decide) ⟨i_0, fp_rf, fun p hp => absurd hp (Nat.not_lt_zero p)⟩ ?_ ?_
  · rintro j ⟨v, c⟩ hj ⟨hv, hf, hc⟩
    dsimp only at hv hf hc ⊢
    have kv : v.toNatClampNeg = j := n_k hv
    (repeat (first | with_reducible refine v_l1 ?_ | with_reducible refine v_lN ?_ | with_reducible refine v_lO ?_ | with_reducible refine v_lM ?_ | with_reducible refine v_lF ?_ | with_reducible refine v_ifp (by first | assumption | omega | (simp (disch := first | omega | fail) only [v_in, iA_le, iA_lt, n_1, n_0, n_p1, Int32.reduceToInt, ne_eq, not_true_eq_false, not_false_eq_true, eq_self, Int.toNat_natCast, hv] <;> omega) | decide | fail) ?_ | with_reducible refine v_ifn (by first | assumption | omega | (simp (disch := first | omega | fail) only [v_in, iA_le, iA_lt, n_1, n_0, n_p1, Int32.reduceToInt, ne_eq, not_true_eq_false, not_false_eq_true, eq_self, Int.toNat_natCast, hv] <;> omega) | decide | fail) ?_))
    refine v_il ⟨n_s3 hv (by omega), fp_w rfl (fp_w rfl (fp_w rfl hf)), fun p hp => ?_⟩
    dsimp only
    rw [kv]
    by_cases hpj : p = j
    · subst hpj
      simp (disch := first | omega | decide | fail) only [mw_s, mw_k, mw_i, mw_g]
      exact ⟨trivial, trivial, trivial⟩
    · have := hc p (by omega)
      simp (disch := first | omega | decide | fail) only [mw_s, mw_k, mw_i, mw_g, this]
      exact ⟨trivial, trivial, trivial⟩
  · rintro ⟨v, c⟩ ⟨hv, hf, hc⟩
    dsimp only at hv hf hc ⊢
    (repeat (first | with_reducible refine v_l1 ?_ | with_reducible refine v_lN ?_ | with_reducible refine v_lO ?_ | with_reducible refine v_lM ?_ | with_reducible refine v_lF ?_ | with_reducible refine v_ifp (by first | assumption | omega | (simp (disch := first | omega | fail) only [v_in, iA_le, iA_lt, n_1, n_0, n_p1, Int32.reduceToInt, ne_eq, not_true_eq_false, not_false_eq_true, eq_self, Int.toNat_natCast, hv] <;> omega) | decide | fail) ?_ | with_reducible refine v_ifn (by first | assumption | omega | (simp (disch := first | omega | fail) only [v_in, iA_le, iA_lt, n_1, n_0, n_p1, Int32.reduceToInt, ne_eq, not_true_eq_false, not_false_eq_true, eq_self, Int.toNat_natCast, hv] <;> omega) | decide | fail) ?_))
    exact v_ir ⟨hf, hc⟩
