/-! which word it is -/
theorem r_w65 {m : mm_M} {B : Nat → Nat} {n p : Nat} (h : r_at m B n p) (h29 : m 12 0 29 = 0) (hp : p ≤ n) : vW (f_X12_which_g65 m) (fun r => (∃ j, j < 4 ∧ z_kd B n p = 256 + j ∧ r = Int32.ofNat j) ∨ ((∀ j, j < 4 → ¬ z_kd B n p = 256 + j) ∧ r = -1)) := by
  have tx : ∀ j : Fin 4, z_tx (5 + j.val) = z_tx (13 + j.val) := by decide +kernel
  unfold f_X12_which_g65
  refine v_s1 (P := fun t => match t with
    | .inl v => ∃ j, j < 4 ∧ z_kd B n p = 256 + j ∧ v = Int32.ofNat j
    | .inr _ => ∀ j, j < 4 → ¬ z_kd B n p = 256 + j) ?_ (fun t ht => ?_)
  · refine v_for (fun k v => v.toInt = (k : Int) ∧ ∀ j, j < k → ¬ z_kd B n p = 256 + j) 0 4 (Nat.zero_le _) (by omega) ⟨i_0, fun j hj => absurd hj (Nat.not_lt_zero j)⟩ ?_ ?_
    · rintro j v hj ⟨hv, hx⟩
      have kv := n_k hv
      refine v_ifn (by rw [iA_le, hv, nJ_T (by omega)]; omega) ?_
      refine v_ifp (v_in.mpr (by omega)) ?_
      refine v_lN ?_
      rw [kv]
      refine v_b1e (r_isW h h29 hp (show 5 + j < 29 by omega) (show j < 13 by first | omega | (split <;> omega)) (tx ⟨j, hj⟩)) ?_
      by_cases he : z_kd B n p = 256 + j
      · refine v_ifn (by rw [if_pos he]; decide) ?_
        exact v_ir ⟨j, hj, he, n_0L (by omega) hv⟩
      · refine v_ifp (by rw [if_neg he]) ?_
        refine v_l1 ?_
        refine v_il ⟨n_s3 hv (by omega), fun x hxj => ?_⟩
        by_cases e2 : x = j
        · rw [e2]
          exact he
        · exact hx x (by omega)
    · rintro v ⟨hv, hx⟩
      refine v_ifp (by rw [iA_le, hv, nJ_T (by omega)]; omega) ?_
      exact v_ir hx
  · cases t with
    | inl v => exact v_so (Or.inl ht)
    | inr u => exact v_so (Or.inr ⟨ht, rfl⟩)
theorem r_w66 {m : mm_M} {B : Nat → Nat} {n p : Nat} (h : r_at m B n p) (h29 : m 12 0 29 = 0) (hp : p ≤ n) : vW (f_X12_which_g66 m) (fun r => (∃ j, j < 4 ∧ z_kd B n p = 256 + (if j < 3 then j else 4) ∧ r = Int32.ofNat j) ∨ ((∀ j, j < 4 → ¬ z_kd B n p = 256 + (if j < 3 then j else 4)) ∧ r = -1)) := by
  have tx : ∀ j : Fin 4, z_tx (9 + j.val) = z_tx (13 + (if j.val < 3 then j.val else 4)) := by decide +kernel
  unfold f_X12_which_g66
  refine v_s1 (P := fun t => match t with
    | .inl v => ∃ j, j < 4 ∧ z_kd B n p = 256 + (if j < 3 then j else 4) ∧ v = Int32.ofNat j
    | .inr _ => ∀ j, j < 4 → ¬ z_kd B n p = 256 + (if j < 3 then j else 4)) ?_ (fun t ht => ?_)
  · refine v_for (fun k v => v.toInt = (k : Int) ∧ ∀ j, j < k → ¬ z_kd B n p = 256 + (if j < 3 then j else 4)) 0 4 (Nat.zero_le _) (by omega) ⟨i_0, fun j hj => absurd hj (Nat.not_lt_zero j)⟩ ?_ ?_
    · rintro j v hj ⟨hv, hx⟩
      have kv := n_k hv
      refine v_ifn (by rw [iA_le, hv, nJ_T (by omega)]; omega) ?_
      refine v_ifp (v_in.mpr (by omega)) ?_
      refine v_lN ?_
      rw [kv]
      refine v_b1e (r_isW h h29 hp (show 9 + j < 29 by omega) (show (if j < 3 then j else 4) < 13 by first | omega | (split <;> omega)) (tx ⟨j, hj⟩)) ?_
      by_cases he : z_kd B n p = 256 + (if j < 3 then j else 4)
      · refine v_ifn (by rw [if_pos he]; decide) ?_
        exact v_ir ⟨j, hj, he, n_0L (by omega) hv⟩
      · refine v_ifp (by rw [if_neg he]) ?_
        refine v_l1 ?_
        refine v_il ⟨n_s3 hv (by omega), fun x hxj => ?_⟩
        by_cases e2 : x = j
        · rw [e2]
          exact he
        · exact hx x (by omega)
    · rintro v ⟨hv, hx⟩
      refine v_ifp (by rw [iA_le, hv, nJ_T (by omega)]; omega) ?_
      exact v_ir hx
  · cases t with
    | inl v => exact v_so (Or.inl ht)
    | inr u => exact v_so (Or.inr ⟨ht, rfl⟩)
theorem r_w64 {m : mm_M} {B : Nat → Nat} {n p : Nat} (h : r_at m B n p) (h29 : m 12 0 29 = 0) (hp : p ≤ n) : vW (f_X12_which_g64 m) (fun r => (∃ j, j < 5 ∧ z_kd B n p = 256 + (8 + j) ∧ r = Int32.ofNat j) ∨ ((∀ j, j < 5 → ¬ z_kd B n p = 256 + (8 + j)) ∧ r = -1)) := by
  have tx : ∀ j : Fin 5, z_tx (0 + j.val) = z_tx (13 + (8 + j.val)) := by decide +kernel
  unfold f_X12_which_g64
  refine v_s1 (P := fun t => match t with
    | .inl v => ∃ j, j < 5 ∧ z_kd B n p = 256 + (8 + j) ∧ v = Int32.ofNat j
    | .inr _ => ∀ j, j < 5 → ¬ z_kd B n p = 256 + (8 + j)) ?_ (fun t ht => ?_)
  · refine v_for (fun k v => v.toInt = (k : Int) ∧ ∀ j, j < k → ¬ z_kd B n p = 256 + (8 + j)) 0 5 (Nat.zero_le _) (by omega) ⟨i_0, fun j hj => absurd hj (Nat.not_lt_zero j)⟩ ?_ ?_
    · rintro j v hj ⟨hv, hx⟩
      have kv := n_k hv
      refine v_ifn (by rw [iA_le, hv, nJ_T (by omega)]; omega) ?_
      refine v_ifp (v_in.mpr (by omega)) ?_
      refine v_lN ?_
      rw [kv]
      refine v_b1e (r_isW h h29 hp (show 0 + j < 29 by omega) (show (8 + j) < 13 by first | omega | (split <;> omega)) (tx ⟨j, hj⟩)) ?_
      by_cases he : z_kd B n p = 256 + (8 + j)
      · refine v_ifn (by rw [if_pos he]; decide) ?_
        exact v_ir ⟨j, hj, he, n_0L (by omega) hv⟩
      · refine v_ifp (by rw [if_neg he]) ?_
        refine v_l1 ?_
        refine v_il ⟨n_s3 hv (by omega), fun x hxj => ?_⟩
        by_cases e2 : x = j
        · rw [e2]
          exact he
        · exact hx x (by omega)
    · rintro v ⟨hv, hx⟩
      refine v_ifp (by rw [iA_le, hv, nJ_T (by omega)]; omega) ?_
      exact v_ir hx
  · cases t with
    | inl v => exact v_so (Or.inl ht)
    | inr u => exact v_so (Or.inr ⟨ht, rfl⟩)
