/-! the losses of parts, both programs -/
/-- a loss of a thread's part by the law -/
def z_vl (k A H col age : Int32) : Nat → Int32
  | 0 => col
  | 1 => age
  | 2 => if k = 0 then A else 0
  | 3 => if k = 0 then 0 else A
  | 4 => H
  | _ => 0
def z_lo (o : Option (List (Int32 × Int32))) (k A H col age : Int32) : Int32 := match o with
  | none => if k = 0 then 2 * A else if k = 1 then 50 else if k = 2 then 300 else 200
  | some cd => mm_max 0 (mm_min 99999 (z_wo (z_vl k A H col age) cd))
abbrev zL : Type := Nat → Option (List (Int32 × Int32))
def z_lv (lw : zL) (K A H : Nat → Int32) (col age : Int32) (p : Nat) : Int32 := z_lo (lw (K p).toNatClampNeg) (K p) (A p) (H p) col age
theorem c_usual {a b : Int32} {m : mm_M} : f_X3_usualLoss a b m = some (if a = 0 then 2 * b else if a = 1 then 50 else if a = 2 then 300 else 200) := by
  unfold f_X3_usualLoss
  split
  · rfl
  split
  · rfl
  split
  · rfl
  · rfl
theorem z_K4 {N Y p : Nat} {K A B : Nat → Int32} (hB : z_thB N K A B Y) (hp : p < N) : ∃ k, k < 4 ∧ (K p).toNatClampNeg = k ∧ ((k = 0 ∧ K p = 0) ∨ (k = 1 ∧ K p = 1 ∧ A p = 0) ∨ (k = 2 ∧ K p = 2) ∨ (k = 3 ∧ K p = 3)) := by
  obtain ⟨⟨k, hk, ek⟩, _, _, hsp⟩ := hB.2.2.2 p hp
  refine ⟨k, hk, by rw [ek, nJ_N (by omega)], ?_⟩
  rcases (by omega : k = 0 ∨ k = 1 ∨ k = 2 ∨ k = 3) with rfl | rfl | rfl | rfl
  · exact Or.inl ⟨rfl, ek⟩
  · exact Or.inr (Or.inl ⟨rfl, ek, hsp ek⟩)
  · exact Or.inr (Or.inr (Or.inl ⟨rfl, ek⟩))
  · exact Or.inr (Or.inr (Or.inr ⟨rfl, ek⟩))
theorem c_loss {m : mm_M} {lw : zL} {r t N Y p : Nat} {K A B H : Nat → Int32} {a2 col age : Int32} (hl : ∀ k, k < 4 → z_cdC m r k (lw k)) (hd : ∀ k cd, lw k = some cd → z_dep cd 0 = some 1) (hB : z_thB N K A B Y) (hT : z_thC m t N K A B H Y) (ha : a2.toInt = (p : Int)) (hp : p < N) : vW (f_X3_lossOf r t a2 col age m) (fun q => q.1 = z_lv lw K A H col age p ∧ fp [(23, none, none), (24, none, none)] m q.2) := by
  have h24 := hB.2.1
  obtain ⟨k, hk, ek, hcs⟩ := z_K4 hB hp
  obtain ⟨e1, e2, e3, e4⟩ := hT.2.2 p hp
  have ka : a2.toNatClampNeg = p := n_k ha
  have hlk := hl k hk
  unfold f_X3_lossOf z_lv z_lo
  rw [ek]
  (repeat (first | with_reducible refine v_l1 ?_ | with_reducible refine v_lN ?_ | with_reducible refine v_lO ?_ | with_reducible refine v_lM ?_ | with_reducible refine v_lF ?_ | with_reducible refine v_ifp (by first | assumption | omega | (simp (disch := first | omega | fail) only [v_in, iA_le, iA_lt, n_1, n_0, n_p1, Int32.reduceToInt, ne_eq, not_true_eq_false, not_false_eq_true, eq_self, Int.toNat_natCast, ha] <;> omega) | decide | fail) ?_ | with_reducible refine v_ifn (by first | assumption | omega | (simp (disch := first | omega | fail) only [v_in, iA_le, iA_lt, n_1, n_0, n_p1, Int32.reduceToInt, ne_eq, not_true_eq_false, not_false_eq_true, eq_self, Int.toNat_natCast, ha] <;> omega) | decide | fail) ?_))
  refine v_lI (fun v1 h1 => ?_)
  have g1 : v1 = K p := by rw [h1, ka]; exact e1
  clear h1
  (repeat (first | with_reducible refine v_l1 ?_ | with_reducible refine v_lN ?_ | with_reducible refine v_lO ?_ | with_reducible refine v_lM ?_ | with_reducible refine v_lF ?_ | with_reducible refine v_ifp (by first | assumption | omega | (simp (disch := first | omega | fail) only [v_in, iA_le, iA_lt, n_1, n_0, n_p1, Int32.reduceToInt, ne_eq, not_true_eq_false, not_false_eq_true, eq_self, Int.toNat_natCast, ha] <;> omega) | decide | fail) ?_ | with_reducible refine v_ifn (by first | assumption | omega | (simp (disch := first | omega | fail) only [v_in, iA_le, iA_lt, n_1, n_0, n_p1, Int32.reduceToInt, ne_eq, not_true_eq_false, not_false_eq_true, eq_self, Int.toNat_natCast, ha] <;> omega) | decide | fail) ?_))
  refine v_lI (fun v2 h2 => ?_)
  have g2 : v2 = A p := by rw [h2, ka]; exact e2
  clear h2
  rcases hcs with ⟨rfl, ez⟩ | ⟨rfl, ez, eA⟩ | ⟨rfl, ez⟩ | ⟨rfl, ez⟩
  · rw [ez] at g1 ⊢
    subst g1
    have kk : (0 : Int32).toNatClampNeg = 0 := by decide
    cases ho : lw 0 with
    | none =>
      rw [ho] at hlk
      have h21 : m 21 r (0 : Int32).toNatClampNeg = -1 := by rw [kk]; exact hlk
      (repeat (first | with_reducible refine v_l1 ?_ | with_reducible refine v_lN ?_ | with_reducible refine v_lO ?_ | with_reducible refine v_lM ?_ | with_reducible refine v_lF ?_ | with_reducible refine v_ifp (by first | assumption | omega | (simp (disch := first | omega | fail) only [v_in, iA_le, iA_lt, n_1, n_0, n_p1, Int32.reduceToInt, ne_eq, not_true_eq_false, not_false_eq_true, eq_self, Int.toNat_natCast, ha, h21] <;> omega) | decide | fail) ?_ | with_reducible refine v_ifn (by first | assumption | omega | (simp (disch := first | omega | fail) only [v_in, iA_le, iA_lt, n_1, n_0, n_p1, Int32.reduceToInt, ne_eq, not_true_eq_false, not_false_eq_true, eq_self, Int.toNat_natCast, ha, h21] <;> omega) | decide | fail) ?_))
      refine v_b1e c_usual (v_so ⟨?_, fp_rf⟩)
      rw [g2]
    | some cd =>
      rw [ho] at hlk
      obtain ⟨b, h21, h22, hb, hcd⟩ := hlk
      have h23 : ¬ m 21 r (0 : Int32).toNatClampNeg = -1 := by rw [kk, h21]; exact n_m1 (by omega)
      (repeat (first | with_reducible refine v_l1 ?_ | with_reducible refine v_lN ?_ | with_reducible refine v_lO ?_ | with_reducible refine v_lM ?_ | with_reducible refine v_lF ?_ | with_reducible refine v_ifp (by first | assumption | omega | (simp (disch := first | omega | fail) only [v_in, iA_le, iA_lt, n_1, n_0, n_p1, Int32.reduceToInt, ne_eq, not_true_eq_false, not_false_eq_true, eq_self, Int.toNat_natCast, ha, h23] <;> omega) | decide | fail) ?_ | with_reducible refine v_ifn (by first | assumption | omega | (simp (disch := first | omega | fail) only [v_in, iA_le, iA_lt, n_1, n_0, n_p1, Int32.reduceToInt, ne_eq, not_true_eq_false, not_false_eq_true, eq_self, Int.toNat_natCast, ha, h23] <;> omega) | decide | fail) ?_))
      refine v_s2 (c_worth (b := b) (cd := cd) ?_ ?_ hb (fun j e h => ?_) (hd 0 cd ho)) ?_
      · simp (disch := first | omega | decide | fail) only [mw_s, mw_k, mw_i, mw_g, kk]
        rw [h21, nJ_T (by omega)]
      · simp (disch := first | omega | decide | fail) only [mw_s, mw_k, mw_i, mw_g, kk]
        rw [h22, nJ_T (by omega)]
      · simp (disch := first | omega | decide | fail) only [mw_s, mw_k, mw_i, mw_g]
        exact hcd j e h
      · rintro x c ⟨hx, hf⟩
        dsimp only at hx
        refine v_so ⟨?_, fp_tr (fp_w rfl (fp_w rfl (fp_w rfl (fp_w rfl (fp_w rfl fp_rf))))) (fp_sb (by decide) hf)⟩
        dsimp only
        rw [hx]
        congr 2
        refine z_wo_cg (fun j hj => ?_)
        rcases (by omega : j = 0 ∨ j = 1 ∨ j = 2 ∨ j = 3 ∨ j = 4) with rfl | rfl | rfl | rfl | rfl
        · simp (disch := first | omega | decide | fail) only [mw_s, mw_k, mw_i, mw_g]
          rfl
        · simp (disch := first | omega | decide | fail) only [mw_s, mw_k, mw_i, mw_g]
          rfl
        · simp (disch := first | omega | decide | fail) only [mw_s, mw_k, mw_i, mw_g]
          first | exact g2 | rfl
        · simp (disch := first | omega | decide | fail) only [mw_s, mw_k, mw_i, mw_g]
          first | exact g2 | rfl
        · simp (disch := first | omega | decide | fail) only [mw_s, mw_k, mw_i, mw_g]
          rw [ka]
          exact e4
  · rw [ez] at g1 ⊢
    subst g1
    have kk : (1 : Int32).toNatClampNeg = 1 := by decide
    cases ho : lw 1 with
    | none =>
      rw [ho] at hlk
      have h21 : m 21 r (1 : Int32).toNatClampNeg = -1 := by rw [kk]; exact hlk
      (repeat (first | with_reducible refine v_l1 ?_ | with_reducible refine v_lN ?_ | with_reducible refine v_lO ?_ | with_reducible refine v_lM ?_ | with_reducible refine v_lF ?_ | with_reducible refine v_ifp (by first | assumption | omega | (simp (disch := first | omega | fail) only [v_in, iA_le, iA_lt, n_1, n_0, n_p1, Int32.reduceToInt, ne_eq, not_true_eq_false, not_false_eq_true, eq_self, Int.toNat_natCast, ha, h21] <;> omega) | decide | fail) ?_ | with_reducible refine v_ifn (by first | assumption | omega | (simp (disch := first | omega | fail) only [v_in, iA_le, iA_lt, n_1, n_0, n_p1, Int32.reduceToInt, ne_eq, not_true_eq_false, not_false_eq_true, eq_self, Int.toNat_natCast, ha, h21] <;> omega) | decide | fail) ?_))
      refine v_b1e c_usual (v_so ⟨?_, fp_rf⟩)
      rw [g2]
    | some cd =>
      rw [ho] at hlk
      obtain ⟨b, h21, h22, hb, hcd⟩ := hlk
      have h23 : ¬ m 21 r (1 : Int32).toNatClampNeg = -1 := by rw [kk, h21]; exact n_m1 (by omega)
      (repeat (first | with_reducible refine v_l1 ?_ | with_reducible refine v_lN ?_ | with_reducible refine v_lO ?_ | with_reducible refine v_lM ?_ | with_reducible refine v_lF ?_ | with_reducible refine v_ifp (by first | assumption | omega | (simp (disch := first | omega | fail) only [v_in, iA_le, iA_lt, n_1, n_0, n_p1, Int32.reduceToInt, ne_eq, not_true_eq_false, not_false_eq_true, eq_self, Int.toNat_natCast, ha, h23] <;> omega) | decide | fail) ?_ | with_reducible refine v_ifn (by first | assumption | omega | (simp (disch := first | omega | fail) only [v_in, iA_le, iA_lt, n_1, n_0, n_p1, Int32.reduceToInt, ne_eq, not_true_eq_false, not_false_eq_true, eq_self, Int.toNat_natCast, ha, h23] <;> omega) | decide | fail) ?_))
      refine v_s2 (c_worth (b := b) (cd := cd) ?_ ?_ hb (fun j e h => ?_) (hd 1 cd ho)) ?_
      · simp (disch := first | omega | decide | fail) only [mw_s, mw_k, mw_i, mw_g, kk]
        rw [h21, nJ_T (by omega)]
      · simp (disch := first | omega | decide | fail) only [mw_s, mw_k, mw_i, mw_g, kk]
        rw [h22, nJ_T (by omega)]
      · simp (disch := first | omega | decide | fail) only [mw_s, mw_k, mw_i, mw_g]
        exact hcd j e h
      · rintro x c ⟨hx, hf⟩
        dsimp only at hx
        refine v_so ⟨?_, fp_tr (fp_w rfl (fp_w rfl (fp_w rfl (fp_w rfl (fp_w rfl fp_rf))))) (fp_sb (by decide) hf)⟩
        dsimp only
        rw [hx]
        congr 2
        refine z_wo_cg (fun j hj => ?_)
        rcases (by omega : j = 0 ∨ j = 1 ∨ j = 2 ∨ j = 3 ∨ j = 4) with rfl | rfl | rfl | rfl | rfl
        · simp (disch := first | omega | decide | fail) only [mw_s, mw_k, mw_i, mw_g]
          rfl
        · simp (disch := first | omega | decide | fail) only [mw_s, mw_k, mw_i, mw_g]
          rfl
        · simp (disch := first | omega | decide | fail) only [mw_s, mw_k, mw_i, mw_g]
          first | exact g2 | rfl
        · simp (disch := first | omega | decide | fail) only [mw_s, mw_k, mw_i, mw_g]
          first | exact g2 | rfl
        · simp (disch := first | omega | decide | fail) only [mw_s, mw_k, mw_i, mw_g]
          rw [ka]
          exact e4
  · rw [ez] at g1 ⊢
    subst g1
    have kk : (2 : Int32).toNatClampNeg = 2 := by decide
    cases ho : lw 2 with
    | none =>
      rw [ho] at hlk
      have h21 : m 21 r (2 : Int32).toNatClampNeg = -1 := by rw [kk]; exact hlk
      (repeat (first | with_reducible refine v_l1 ?_ | with_reducible refine v_lN ?_ | with_reducible refine v_lO ?_ | with_reducible refine v_lM ?_ | with_reducible refine v_lF ?_ | with_reducible refine v_ifp (by first | assumption | omega | (simp (disch := first | omega | fail) only [v_in, iA_le, iA_lt, n_1, n_0, n_p1, Int32.reduceToInt, ne_eq, not_true_eq_false, not_false_eq_true, eq_self, Int.toNat_natCast, ha, h21] <;> omega) | decide | fail) ?_ | with_reducible refine v_ifn (by first | assumption | omega | (simp (disch := first | omega | fail) only [v_in, iA_le, iA_lt, n_1, n_0, n_p1, Int32.reduceToInt, ne_eq, not_true_eq_false, not_false_eq_true, eq_self, Int.toNat_natCast, ha, h21] <;> omega) | decide | fail) ?_))
      refine v_b1e c_usual (v_so ⟨?_, fp_rf⟩)
      rw [g2]
    | some cd =>
      rw [ho] at hlk
      obtain ⟨b, h21, h22, hb, hcd⟩ := hlk
      have h23 : ¬ m 21 r (2 : Int32).toNatClampNeg = -1 := by rw [kk, h21]; exact n_m1 (by omega)
      (repeat (first | with_reducible refine v_l1 ?_ | with_reducible refine v_lN ?_ | with_reducible refine v_lO ?_ | with_reducible refine v_lM ?_ | with_reducible refine v_lF ?_ | with_reducible refine v_ifp (by first | assumption | omega | (simp (disch := first | omega | fail) only [v_in, iA_le, iA_lt, n_1, n_0, n_p1, Int32.reduceToInt, ne_eq, not_true_eq_false, not_false_eq_true, eq_self, Int.toNat_natCast, ha, h23] <;> omega) | decide | fail) ?_ | with_reducible refine v_ifn (by first | assumption | omega | (simp (disch := first | omega | fail) only [v_in, iA_le, iA_lt, n_1, n_0, n_p1, Int32.reduceToInt, ne_eq, not_true_eq_false, not_false_eq_true, eq_self, Int.toNat_natCast, ha, h23] <;> omega) | decide | fail) ?_))
      refine v_s2 (c_worth (b := b) (cd := cd) ?_ ?_ hb (fun j e h => ?_) (hd 2 cd ho)) ?_
      · simp (disch := first | omega | decide | fail) only [mw_s, mw_k, mw_i, mw_g, kk]
        rw [h21, nJ_T (by omega)]
      · simp (disch := first | omega | decide | fail) only [mw_s, mw_k, mw_i, mw_g, kk]
        rw [h22, nJ_T (by omega)]
      · simp (disch := first | omega | decide | fail) only [mw_s, mw_k, mw_i, mw_g]
        exact hcd j e h
      · rintro x c ⟨hx, hf⟩
        dsimp only at hx
        refine v_so ⟨?_, fp_tr (fp_w rfl (fp_w rfl (fp_w rfl (fp_w rfl (fp_w rfl fp_rf))))) (fp_sb (by decide) hf)⟩
        dsimp only
        rw [hx]
        congr 2
        refine z_wo_cg (fun j hj => ?_)
        rcases (by omega : j = 0 ∨ j = 1 ∨ j = 2 ∨ j = 3 ∨ j = 4) with rfl | rfl | rfl | rfl | rfl
        · simp (disch := first | omega | decide | fail) only [mw_s, mw_k, mw_i, mw_g]
          rfl
        · simp (disch := first | omega | decide | fail) only [mw_s, mw_k, mw_i, mw_g]
          rfl
        · simp (disch := first | omega | decide | fail) only [mw_s, mw_k, mw_i, mw_g]
          first | exact g2 | rfl
        · simp (disch := first | omega | decide | fail) only [mw_s, mw_k, mw_i, mw_g]
          first | exact g2 | rfl
        · simp (disch := first | omega | decide | fail) only [mw_s, mw_k, mw_i, mw_g]
          rw [ka]
          exact e4
  · rw [ez] at g1 ⊢
    subst g1
    have kk : (3 : Int32).toNatClampNeg = 3 := by decide
    cases ho : lw 3 with
    | none =>
      rw [ho] at hlk
      have h21 : m 21 r (3 : Int32).toNatClampNeg = -1 := by rw [kk]; exact hlk
      (repeat (first | with_reducible refine v_l1 ?_ | with_reducible refine v_lN ?_ | with_reducible refine v_lO ?_ | with_reducible refine v_lM ?_ | with_reducible refine v_lF ?_ | with_reducible refine v_ifp (by first | assumption | omega | (simp (disch := first | omega | fail) only [v_in, iA_le, iA_lt, n_1, n_0, n_p1, Int32.reduceToInt, ne_eq, not_true_eq_false, not_false_eq_true, eq_self, Int.toNat_natCast, ha, h21] <;> omega) | decide | fail) ?_ | with_reducible refine v_ifn (by first | assumption | omega | (simp (disch := first | omega | fail) only [v_in, iA_le, iA_lt, n_1, n_0, n_p1, Int32.reduceToInt, ne_eq, not_true_eq_false, not_false_eq_true, eq_self, Int.toNat_natCast, ha, h21] <;> omega) | decide | fail) ?_))
      refine v_b1e c_usual (v_so ⟨?_, fp_rf⟩)
      rw [g2]
    | some cd =>
      rw [ho] at hlk
      obtain ⟨b, h21, h22, hb, hcd⟩ := hlk
      have h23 : ¬ m 21 r (3 : Int32).toNatClampNeg = -1 := by rw [kk, h21]; exact n_m1 (by omega)
      (repeat (first | with_reducible refine v_l1 ?_ | with_reducible refine v_lN ?_ | with_reducible refine v_lO ?_ | with_reducible refine v_lM ?_ | with_reducible refine v_lF ?_ | with_reducible refine v_ifp (by first | assumption | omega | (simp (disch := first | omega | fail) only [v_in, iA_le, iA_lt, n_1, n_0, n_p1, Int32.reduceToInt, ne_eq, not_true_eq_false, not_false_eq_true, eq_self, Int.toNat_natCast, ha, h23] <;> omega) | decide | fail) ?_ | with_reducible refine v_ifn (by first | assumption | omega | (simp (disch := first | omega | fail) only [v_in, iA_le, iA_lt, n_1, n_0, n_p1, Int32.reduceToInt, ne_eq, not_true_eq_false, not_false_eq_true, eq_self, Int.toNat_natCast, ha, h23] <;> omega) | decide | fail) ?_))
      refine v_s2 (c_worth (b := b) (cd := cd) ?_ ?_ hb (fun j e h => ?_) (hd 3 cd ho)) ?_
      · simp (disch := first | omega | decide | fail) only [mw_s, mw_k, mw_i, mw_g, kk]
        rw [h21, nJ_T (by omega)]
      · simp (disch := first | omega | decide | fail) only [mw_s, mw_k, mw_i, mw_g, kk]
        rw [h22, nJ_T (by omega)]
      · simp (disch := first | omega | decide | fail) only [mw_s, mw_k, mw_i, mw_g]
        exact hcd j e h
      · rintro x c ⟨hx, hf⟩
        dsimp only at hx
        refine v_so ⟨?_, fp_tr (fp_w rfl (fp_w rfl (fp_w rfl (fp_w rfl (fp_w rfl fp_rf))))) (fp_sb (by decide) hf)⟩
        dsimp only
        rw [hx]
        congr 2
        refine z_wo_cg (fun j hj => ?_)
        rcases (by omega : j = 0 ∨ j = 1 ∨ j = 2 ∨ j = 3 ∨ j = 4) with rfl | rfl | rfl | rfl | rfl
        · simp (disch := first | omega | decide | fail) only [mw_s, mw_k, mw_i, mw_g]
          rfl
        · simp (disch := first | omega | decide | fail) only [mw_s, mw_k, mw_i, mw_g]
          rfl
        · simp (disch := first | omega | decide | fail) only [mw_s, mw_k, mw_i, mw_g]
          first | exact g2 | rfl
        · simp (disch := first | omega | decide | fail) only [mw_s, mw_k, mw_i, mw_g]
          first | exact g2 | rfl
        · simp (disch := first | omega | decide | fail) only [mw_s, mw_k, mw_i, mw_g]
          rw [ka]
          exact e4
theorem r_loss {m : mm_M} {lw : zL} {t N Y p : Nat} {K A B H : Nat → Int32} {a1 col age : Int32} (ht : t < 8) (hl : ∀ k, k < 4 → z_cdM m k (lw k)) (hd : ∀ k cd, lw k = some cd → z_dep cd 0 = some 1) (hB : z_thB N K A B Y) (hT : z_thM m t N K A B H Y) (ha : a1.toInt = ((24 * t + p : Nat) : Int)) (hp : p < N) : vW (f_X12_lossOf a1 col age m) (fun q => q.1 = z_lv lw K A H col age p ∧ fp [(84, none, none), (85, none, none)] m q.2) := by
  have h24 := hB.2.1
  obtain ⟨k, hk, ek, hcs⟩ := z_K4 hB hp
  obtain ⟨e1, e2, e3, e4⟩ := hT.2.2 p hp
  have ka : a1.toNatClampNeg = 24 * t + p := n_k ha
  have hlk := hl k hk
  have g2 : m 70 0 a1.toNatClampNeg = A p := by rw [ka]; exact e2
  have g4 : m 72 0 a1.toNatClampNeg = H p := by rw [ka]; exact e4
  unfold f_X12_lossOf z_lv z_lo
  rw [ek]
  (repeat (first | with_reducible refine v_l1 ?_ | with_reducible refine v_lN ?_ | with_reducible refine v_lO ?_ | with_reducible refine v_lM ?_ | with_reducible refine v_lF ?_ | with_reducible refine v_ifp (by first | assumption | omega | (simp (disch := first | omega | fail) only [v_in, iA_le, iA_lt, n_1, n_0, n_p1, Int32.reduceToInt, ne_eq, not_true_eq_false, not_false_eq_true, eq_self, Int.toNat_natCast, ha] <;> omega) | decide | fail) ?_ | with_reducible refine v_ifn (by first | assumption | omega | (simp (disch := first | omega | fail) only [v_in, iA_le, iA_lt, n_1, n_0, n_p1, Int32.reduceToInt, ne_eq, not_true_eq_false, not_false_eq_true, eq_self, Int.toNat_natCast, ha] <;> omega) | decide | fail) ?_))
  refine v_lI (fun v1 h1 => ?_)
  have g1 : v1 = K p := by rw [h1, ka]; exact e1
  clear h1
  rcases hcs with ⟨rfl, ez⟩ | ⟨rfl, ez, eA⟩ | ⟨rfl, ez⟩ | ⟨rfl, ez⟩
  · rw [ez] at g1 ⊢
    subst g1
    have kk : (0 : Int32).toNatClampNeg = 0 := by decide
    cases ho : lw 0 with
    | none =>
      rw [ho] at hlk
      have h21 : m 86 0 (0 : Int32).toNatClampNeg = 0 := by rw [kk]; exact hlk
      (repeat (first | with_reducible refine v_l1 ?_ | with_reducible refine v_lN ?_ | with_reducible refine v_lO ?_ | with_reducible refine v_lM ?_ | with_reducible refine v_lF ?_ | with_reducible refine v_ifp (by first | assumption | omega | (simp (disch := first | omega | fail) only [v_in, iA_le, iA_lt, n_1, n_0, n_p1, Int32.reduceToInt, ne_eq, not_true_eq_false, not_false_eq_true, eq_self, Int.toNat_natCast, ha, h21] <;> omega) | decide | fail) ?_ | with_reducible refine v_ifn (by first | assumption | omega | (simp (disch := first | omega | fail) only [v_in, iA_le, iA_lt, n_1, n_0, n_p1, Int32.reduceToInt, ne_eq, not_true_eq_false, not_false_eq_true, eq_self, Int.toNat_natCast, ha, h21] <;> omega) | decide | fail) ?_))
      refine v_so ⟨?_, fp_rf⟩
      rw [g2]
      rfl
    | some cd =>
      rw [ho] at hlk
      obtain ⟨h86, b, h81, h82, hb, hcd⟩ := hlk
      have h21 : ¬ m 86 0 (0 : Int32).toNatClampNeg = 0 := by rw [kk, h86]; decide
      (repeat (first | with_reducible refine v_l1 ?_ | with_reducible refine v_lN ?_ | with_reducible refine v_lO ?_ | with_reducible refine v_lM ?_ | with_reducible refine v_lF ?_ | with_reducible refine v_ifp (by first | assumption | omega | (simp (disch := first | omega | fail) only [v_in, iA_le, iA_lt, n_1, n_0, n_p1, Int32.reduceToInt, ne_eq, not_true_eq_false, not_false_eq_true, eq_self, Int.toNat_natCast, ha, h21] <;> omega) | decide | fail) ?_ | with_reducible refine v_ifn (by first | assumption | omega | (simp (disch := first | omega | fail) only [v_in, iA_le, iA_lt, n_1, n_0, n_p1, Int32.reduceToInt, ne_eq, not_true_eq_false, not_false_eq_true, eq_self, Int.toNat_natCast, ha, h21] <;> omega) | decide | fail) ?_))
      refine v_s2 (r_worth (k := 0) (b := b) (cd := cd) (by decide) hk ?_ ?_ hb (fun j e h => ?_) (hd 0 cd ho) (z_len400 cd hb)) ?_
      · simp (disch := first | omega | decide | fail) only [mw_s, mw_k, mw_i, mw_g]
        rw [h81, nJ_T (by omega)]
      · simp (disch := first | omega | decide | fail) only [mw_s, mw_k, mw_i, mw_g]
        rw [h82, nJ_T (by omega)]
      · simp (disch := first | omega | decide | fail) only [mw_s, mw_k, mw_i, mw_g]
        exact hcd j e h
      · rintro x c ⟨hx, hf⟩
        dsimp only at hx
        refine v_so ⟨?_, fp_tr (fp_w rfl (fp_w rfl (fp_w rfl (fp_w rfl (fp_w rfl fp_rf))))) (fp_sb (by decide) hf)⟩
        dsimp only
        rw [hx]
        congr 2
        refine z_wo_cg (fun j hj => ?_)
        rcases (by omega : j = 0 ∨ j = 1 ∨ j = 2 ∨ j = 3 ∨ j = 4) with rfl | rfl | rfl | rfl | rfl
        · simp (disch := first | omega | decide | fail) only [mw_s, mw_k, mw_i, mw_g]
          rfl
        · simp (disch := first | omega | decide | fail) only [mw_s, mw_k, mw_i, mw_g]
          rfl
        · simp (disch := first | omega | decide | fail) only [mw_s, mw_k, mw_i, mw_g]
          first | exact g2 | rfl
        · simp (disch := first | omega | decide | fail) only [mw_s, mw_k, mw_i, mw_g]
          first | exact g2 | rfl
        · simp (disch := first | omega | decide | fail) only [mw_s, mw_k, mw_i, mw_g]
          exact g4
  · rw [ez] at g1 ⊢
    subst g1
    have kk : (1 : Int32).toNatClampNeg = 1 := by decide
    cases ho : lw 1 with
    | none =>
      rw [ho] at hlk
      have h21 : m 86 0 (1 : Int32).toNatClampNeg = 0 := by rw [kk]; exact hlk
      (repeat (first | with_reducible refine v_l1 ?_ | with_reducible refine v_lN ?_ | with_reducible refine v_lO ?_ | with_reducible refine v_lM ?_ | with_reducible refine v_lF ?_ | with_reducible refine v_ifp (by first | assumption | omega | (simp (disch := first | omega | fail) only [v_in, iA_le, iA_lt, n_1, n_0, n_p1, Int32.reduceToInt, ne_eq, not_true_eq_false, not_false_eq_true, eq_self, Int.toNat_natCast, ha, h21] <;> omega) | decide | fail) ?_ | with_reducible refine v_ifn (by first | assumption | omega | (simp (disch := first | omega | fail) only [v_in, iA_le, iA_lt, n_1, n_0, n_p1, Int32.reduceToInt, ne_eq, not_true_eq_false, not_false_eq_true, eq_self, Int.toNat_natCast, ha, h21] <;> omega) | decide | fail) ?_))
      refine v_so ⟨?_, fp_rf⟩
      skip
      rfl
    | some cd =>
      rw [ho] at hlk
      obtain ⟨h86, b, h81, h82, hb, hcd⟩ := hlk
      have h21 : ¬ m 86 0 (1 : Int32).toNatClampNeg = 0 := by rw [kk, h86]; decide
      (repeat (first | with_reducible refine v_l1 ?_ | with_reducible refine v_lN ?_ | with_reducible refine v_lO ?_ | with_reducible refine v_lM ?_ | with_reducible refine v_lF ?_ | with_reducible refine v_ifp (by first | assumption | omega | (simp (disch := first | omega | fail) only [v_in, iA_le, iA_lt, n_1, n_0, n_p1, Int32.reduceToInt, ne_eq, not_true_eq_false, not_false_eq_true, eq_self, Int.toNat_natCast, ha, h21] <;> omega) | decide | fail) ?_ | with_reducible refine v_ifn (by first | assumption | omega | (simp (disch := first | omega | fail) only [v_in, iA_le, iA_lt, n_1, n_0, n_p1, Int32.reduceToInt, ne_eq, not_true_eq_false, not_false_eq_true, eq_self, Int.toNat_natCast, ha, h21] <;> omega) | decide | fail) ?_))
      refine v_s2 (r_worth (k := 1) (b := b) (cd := cd) (by decide) hk ?_ ?_ hb (fun j e h => ?_) (hd 1 cd ho) (z_len400 cd hb)) ?_
      · simp (disch := first | omega | decide | fail) only [mw_s, mw_k, mw_i, mw_g]
        rw [h81, nJ_T (by omega)]
      · simp (disch := first | omega | decide | fail) only [mw_s, mw_k, mw_i, mw_g]
        rw [h82, nJ_T (by omega)]
      · simp (disch := first | omega | decide | fail) only [mw_s, mw_k, mw_i, mw_g]
        exact hcd j e h
      · rintro x c ⟨hx, hf⟩
        dsimp only at hx
        refine v_so ⟨?_, fp_tr (fp_w rfl (fp_w rfl (fp_w rfl (fp_w rfl (fp_w rfl fp_rf))))) (fp_sb (by decide) hf)⟩
        dsimp only
        rw [hx]
        congr 2
        refine z_wo_cg (fun j hj => ?_)
        rcases (by omega : j = 0 ∨ j = 1 ∨ j = 2 ∨ j = 3 ∨ j = 4) with rfl | rfl | rfl | rfl | rfl
        · simp (disch := first | omega | decide | fail) only [mw_s, mw_k, mw_i, mw_g]
          rfl
        · simp (disch := first | omega | decide | fail) only [mw_s, mw_k, mw_i, mw_g]
          rfl
        · simp (disch := first | omega | decide | fail) only [mw_s, mw_k, mw_i, mw_g]
          first | exact g2 | (rw [g2]; exact eA) | exact eA.symm | rfl
        · simp (disch := first | omega | decide | fail) only [mw_s, mw_k, mw_i, mw_g]
          first | exact g2 | (rw [g2]; exact eA) | exact eA.symm | rfl
        · simp (disch := first | omega | decide | fail) only [mw_s, mw_k, mw_i, mw_g]
          exact g4
  · rw [ez] at g1 ⊢
    subst g1
    have kk : (2 : Int32).toNatClampNeg = 2 := by decide
    cases ho : lw 2 with
    | none =>
      rw [ho] at hlk
      have h21 : m 86 0 (2 : Int32).toNatClampNeg = 0 := by rw [kk]; exact hlk
      (repeat (first | with_reducible refine v_l1 ?_ | with_reducible refine v_lN ?_ | with_reducible refine v_lO ?_ | with_reducible refine v_lM ?_ | with_reducible refine v_lF ?_ | with_reducible refine v_ifp (by first | assumption | omega | (simp (disch := first | omega | fail) only [v_in, iA_le, iA_lt, n_1, n_0, n_p1, Int32.reduceToInt, ne_eq, not_true_eq_false, not_false_eq_true, eq_self, Int.toNat_natCast, ha, h21] <;> omega) | decide | fail) ?_ | with_reducible refine v_ifn (by first | assumption | omega | (simp (disch := first | omega | fail) only [v_in, iA_le, iA_lt, n_1, n_0, n_p1, Int32.reduceToInt, ne_eq, not_true_eq_false, not_false_eq_true, eq_self, Int.toNat_natCast, ha, h21] <;> omega) | decide | fail) ?_))
      refine v_so ⟨?_, fp_rf⟩
      skip
      rfl
    | some cd =>
      rw [ho] at hlk
      obtain ⟨h86, b, h81, h82, hb, hcd⟩ := hlk
      have h21 : ¬ m 86 0 (2 : Int32).toNatClampNeg = 0 := by rw [kk, h86]; decide
      (repeat (first | with_reducible refine v_l1 ?_ | with_reducible refine v_lN ?_ | with_reducible refine v_lO ?_ | with_reducible refine v_lM ?_ | with_reducible refine v_lF ?_ | with_reducible refine v_ifp (by first | assumption | omega | (simp (disch := first | omega | fail) only [v_in, iA_le, iA_lt, n_1, n_0, n_p1, Int32.reduceToInt, ne_eq, not_true_eq_false, not_false_eq_true, eq_self, Int.toNat_natCast, ha, h21] <;> omega) | decide | fail) ?_ | with_reducible refine v_ifn (by first | assumption | omega | (simp (disch := first | omega | fail) only [v_in, iA_le, iA_lt, n_1, n_0, n_p1, Int32.reduceToInt, ne_eq, not_true_eq_false, not_false_eq_true, eq_self, Int.toNat_natCast, ha, h21] <;> omega) | decide | fail) ?_))
      refine v_s2 (r_worth (k := 2) (b := b) (cd := cd) (by decide) hk ?_ ?_ hb (fun j e h => ?_) (hd 2 cd ho) (z_len400 cd hb)) ?_
      · simp (disch := first | omega | decide | fail) only [mw_s, mw_k, mw_i, mw_g]
        rw [h81, nJ_T (by omega)]
      · simp (disch := first | omega | decide | fail) only [mw_s, mw_k, mw_i, mw_g]
        rw [h82, nJ_T (by omega)]
      · simp (disch := first | omega | decide | fail) only [mw_s, mw_k, mw_i, mw_g]
        exact hcd j e h
      · rintro x c ⟨hx, hf⟩
        dsimp only at hx
        refine v_so ⟨?_, fp_tr (fp_w rfl (fp_w rfl (fp_w rfl (fp_w rfl (fp_w rfl fp_rf))))) (fp_sb (by decide) hf)⟩
        dsimp only
        rw [hx]
        congr 2
        refine z_wo_cg (fun j hj => ?_)
        rcases (by omega : j = 0 ∨ j = 1 ∨ j = 2 ∨ j = 3 ∨ j = 4) with rfl | rfl | rfl | rfl | rfl
        · simp (disch := first | omega | decide | fail) only [mw_s, mw_k, mw_i, mw_g]
          rfl
        · simp (disch := first | omega | decide | fail) only [mw_s, mw_k, mw_i, mw_g]
          rfl
        · simp (disch := first | omega | decide | fail) only [mw_s, mw_k, mw_i, mw_g]
          first | exact g2 | rfl
        · simp (disch := first | omega | decide | fail) only [mw_s, mw_k, mw_i, mw_g]
          first | exact g2 | rfl
        · simp (disch := first | omega | decide | fail) only [mw_s, mw_k, mw_i, mw_g]
          exact g4
  · rw [ez] at g1 ⊢
    subst g1
    have kk : (3 : Int32).toNatClampNeg = 3 := by decide
    cases ho : lw 3 with
    | none =>
      rw [ho] at hlk
      have h21 : m 86 0 (3 : Int32).toNatClampNeg = 0 := by rw [kk]; exact hlk
      (repeat (first | with_reducible refine v_l1 ?_ | with_reducible refine v_lN ?_ | with_reducible refine v_lO ?_ | with_reducible refine v_lM ?_ | with_reducible refine v_lF ?_ | with_reducible refine v_ifp (by first | assumption | omega | (simp (disch := first | omega | fail) only [v_in, iA_le, iA_lt, n_1, n_0, n_p1, Int32.reduceToInt, ne_eq, not_true_eq_false, not_false_eq_true, eq_self, Int.toNat_natCast, ha, h21] <;> omega) | decide | fail) ?_ | with_reducible refine v_ifn (by first | assumption | omega | (simp (disch := first | omega | fail) only [v_in, iA_le, iA_lt, n_1, n_0, n_p1, Int32.reduceToInt, ne_eq, not_true_eq_false, not_false_eq_true, eq_self, Int.toNat_natCast, ha, h21] <;> omega) | decide | fail) ?_))
      refine v_so ⟨?_, fp_rf⟩
      skip
      rfl
    | some cd =>
      rw [ho] at hlk
      obtain ⟨h86, b, h81, h82, hb, hcd⟩ := hlk
      have h21 : ¬ m 86 0 (3 : Int32).toNatClampNeg = 0 := by rw [kk, h86]; decide
      (repeat (first | with_reducible refine v_l1 ?_ | with_reducible refine v_lN ?_ | with_reducible refine v_lO ?_ | with_reducible refine v_lM ?_ | with_reducible refine v_lF ?_ | with_reducible refine v_ifp (by first | assumption | omega | (simp (disch := first | omega | fail) only [v_in, iA_le, iA_lt, n_1, n_0, n_p1, Int32.reduceToInt, ne_eq, not_true_eq_false, not_false_eq_true, eq_self, Int.toNat_natCast, ha, h21] <;> omega) | decide | fail) ?_ | with_reducible refine v_ifn (by first | assumption | omega | (simp (disch := first | omega | fail) only [v_in, iA_le, iA_lt, n_1, n_0, n_p1, Int32.reduceToInt, ne_eq, not_true_eq_false, not_false_eq_true, eq_self, Int.toNat_natCast, ha, h21] <;> omega) | decide | fail) ?_))
      refine v_s2 (r_worth (k := 3) (b := b) (cd := cd) (by decide) hk ?_ ?_ hb (fun j e h => ?_) (hd 3 cd ho) (z_len400 cd hb)) ?_
      · simp (disch := first | omega | decide | fail) only [mw_s, mw_k, mw_i, mw_g]
        rw [h81, nJ_T (by omega)]
      · simp (disch := first | omega | decide | fail) only [mw_s, mw_k, mw_i, mw_g]
        rw [h82, nJ_T (by omega)]
      · simp (disch := first | omega | decide | fail) only [mw_s, mw_k, mw_i, mw_g]
        exact hcd j e h
      · rintro x c ⟨hx, hf⟩
        dsimp only at hx
        refine v_so ⟨?_, fp_tr (fp_w rfl (fp_w rfl (fp_w rfl (fp_w rfl (fp_w rfl fp_rf))))) (fp_sb (by decide) hf)⟩
        dsimp only
        rw [hx]
        congr 2
        refine z_wo_cg (fun j hj => ?_)
        rcases (by omega : j = 0 ∨ j = 1 ∨ j = 2 ∨ j = 3 ∨ j = 4) with rfl | rfl | rfl | rfl | rfl
        · simp (disch := first | omega | decide | fail) only [mw_s, mw_k, mw_i, mw_g]
          rfl
        · simp (disch := first | omega | decide | fail) only [mw_s, mw_k, mw_i, mw_g]
          rfl
        · simp (disch := first | omega | decide | fail) only [mw_s, mw_k, mw_i, mw_g]
          first | exact g2 | rfl
        · simp (disch := first | omega | decide | fail) only [mw_s, mw_k, mw_i, mw_g]
          first | exact g2 | rfl
        · simp (disch := first | omega | decide | fail) only [mw_s, mw_k, mw_i, mw_g]
          exact g4
