/-! the worst cuts -/
def z_cut (i j : Nat) : Int32 := ((1 : Int32) <<< (Int32.ofNat i &&& 31)) ||| ((1 : Int32) <<< (Int32.ofNat j &&& 31))
def z_pc (x : Nat) : Nat → Nat
  | 0 => 0
  | j + 1 => z_pc x j + (if z_bt (Int32.ofNat x) j = true then 1 else 0)
theorem z_pc_b (x : Nat) : ∀ j, z_pc x j ≤ j
  | 0 => Nat.le_refl 0
  | j + 1 => by
    have := z_pc_b x j
    show z_pc x j + _ ≤ j + 1
    split <;> omega
def z_bc (a : Int32) : Int32 := (((((a - ((mm_ushr a 1) &&& 1431655765)) &&& 858993459) + ((mm_ushr (a - ((mm_ushr a 1) &&& 1431655765)) 2) &&& 858993459)) + (mm_ushr (((a - ((mm_ushr a 1) &&& 1431655765)) &&& 858993459) + ((mm_ushr (a - ((mm_ushr a 1) &&& 1431655765)) 2) &&& 858993459)) 4)) &&& 252645135)
def z_bd (a : Int32) : Int32 := ((a + (mm_ushr a 8)) + (mm_ushr (a + (mm_ushr a 8)) 16)) &&& 63
theorem z_bc_e : ∀ x : Fin 64, z_bd (z_bc (Int32.ofNat x.val)) = Int32.ofNat (z_pc x.val 12) := by decide +kernel
theorem c_bits {m : mm_M} {x : Nat} (hx : x < 64) : f_J_bitCount (Int32.ofNat x) m = some (Int32.ofNat (z_pc x 12)) := by
  rw [← z_bc_e ⟨x, hx⟩]
  rfl
theorem z_bt12 : ∀ x : Fin 64, ∀ j : Fin 12, ((Int32.ofNat x.val >>> (Int32.ofNat j.val &&& 31)) &&& 1) = if z_bt (Int32.ofNat x.val) j.val = true then 1 else 0 := by decide +kernel
theorem r_many {m : mm_M} {x : Nat} (hx : x < 64) : f_X12_many (Int32.ofNat x) m = some (Int32.ofNat (z_pc x 12)) := by
  apply v_is
  unfold f_X12_many
  refine v_s1 (P := fun r => r = Int32.ofNat (z_pc x 12)) ?_ (fun r h => v_so h)
  refine v_for (fun j s => s.1 = Int32.ofNat (z_pc x j) ∧ s.2.toInt = (j : Int)) 0 12 (Nat.zero_le _) (by omega) ⟨rfl, i_0⟩ ?_ ?_
  · rintro j ⟨y, v⟩ hj ⟨hy, hv⟩
    dsimp only at hy hv ⊢
    have i12 : (12 : Int32).toInt = 12 := by decide
    refine v_ifn (by rw [iA_le, i12, hv]; omega) ?_
    refine v_l ?_
    refine v_l1 ?_
    refine v_il ⟨?_, n_s3 hv (by omega)⟩
    dsimp only
    rw [n_0L (by omega) hv, z_bt12 ⟨x, hx⟩ ⟨j, hj⟩, hy]
    show _ = Int32.ofNat (z_pc x j + (if z_bt (Int32.ofNat x) j = true then 1 else 0))
    by_cases hb : z_bt (Int32.ofNat x) j = true
    · rw [if_pos hb, if_pos hb]
      exact n_a1
    · rw [if_neg hb, if_neg hb]
      exact Int32.add_zero _
  · rintro ⟨y, v⟩ ⟨hy, hv⟩
    dsimp only at hy hv ⊢
    have i12 : (12 : Int32).toInt = 12 := by decide
    refine v_ifp (by rw [iA_le, i12, hv]; omega) ?_
    exact v_ir hy
def z_wst (g : Nat → Nat → Nat) (i j : Nat) (s : Int32 × Nat) : Int32 × Nat := if s.2 < g i j then (z_cut i j, g i j) else s
def z_win (g : Nat → Nat → Nat) (i lo : Nat) (s : Int32 × Nat) : Nat → Int32 × Nat
  | 0 => s
  | n + 1 => z_wst g i (lo + n) (z_win g i lo s n)
theorem z_win_b {g : Nat → Nat → Nat} {i lo : Nat} {s : Int32 × Nat} (hg : ∀ i j, g i j ≤ 12) (hs : s.2 ≤ 12) : ∀ n, (z_win g i lo s n).2 ≤ 12
  | 0 => hs
  | n + 1 => by
    have := z_win_b (i := i) (lo := lo) hg hs n
    show (if (z_win g i lo s n).2 < g i (lo + n) then (z_cut i (lo + n), g i (lo + n)) else z_win g i lo s n).2 ≤ 12
    split
    · exact hg _ _
    · exact this
def z_wou (g : Nat → Nat → Nat) (two : Bool) (C : Nat) : Nat → Int32 × Nat
  | 0 => (0, 0)
  | i + 1 => if two = true then z_win g i (i + 1) (z_wou g two C i) (C - (i + 1)) else z_win g i i (z_wou g two C i) 1
theorem z_wou_b {g : Nat → Nat → Nat} {two : Bool} {C : Nat} (hg : ∀ i j, g i j ≤ 12) : ∀ i, (z_wou g two C i).2 ≤ 12
  | 0 => Nat.zero_le _
  | i + 1 => by
    have := z_wou_b (two := two) (C := C) hg i
    show (if two = true then z_win g i (i + 1) (z_wou g two C i) (C - (i + 1)) else z_win g i i (z_wou g two C i) 1).2 ≤ 12
    split
    · exact z_win_b hg this _
    · exact z_win_b hg this _
def z_gk (P Q F G : Nat → Nat) (C k i j : Nat) : Nat := z_pc (z_lb (z_lo1 P Q C F G (z_bt (z_cut i j))) k) 12
theorem z_gk_b {P Q F G : Nat → Nat} {C k : Nat} : ∀ i j, z_gk P Q F G C k i j ≤ 12 := fun i j => z_pc_b _ 12
theorem c_win {m : mm_M} {P Q F G : Nat → Nat} {C k i lo n : Nat} {v H w x y : Int32} {s : Int32 × Nat} (hC : C ≤ 10) (hk : k ≤ 6) (hLB : ∀ i j, i < 10 → j < 10 → f_X4_lostBy (z_cut i j) m = some (Int32.ofNat (z_lb (z_lo1 P Q C F G (z_bt (z_cut i j))) k))) (hv : v.toInt = (i : Int)) (hi : i < 10) (hw : w.toInt = (lo : Int)) (hH : H.toInt = ((lo + n : Nat) : Int)) (h10 : lo + n ≤ 10) (hx : x = s.1) (hy : y = Int32.ofNat s.2) (hs : s.2 ≤ 12) : vW (mm_loop (σ := Int32 × Int32 × Int32) (ρ := (Int32 × Int32)) (fun (s : Int32 × Int32 × Int32) => match s with
| (v9, v10, v11) => (if H ≤ v11 then (some (.inr (v9, v10)))
else (mm_let ((1 <<< (v &&& 31)) ||| (1 <<< (v11 &&& 31))) fun v12 =>
mm_b1 (f_X4_lostBy v12 m) fun r13 =>
mm_b1 (f_J_bitCount r13 m) fun r14 =>
if r14 ≤ v10 then (mm_let (v11 + 1) fun v15 =>
some (.inl (v9, v10, v15)))
else (mm_let (v11 + 1) fun v16 =>
some (.inl (v12, r14, v16)))) : Option ((Int32 × Int32 × Int32) ⊕ ((Int32 × Int32))))) mm_fu (x, y, w)) (fun q => q.1 = (z_win (z_gk P Q F G C k) i lo s n).1 ∧ q.2 = Int32.ofNat (z_win (z_gk P Q F G C k) i lo s n).2) := by
  have ev : v = Int32.ofNat i := n_0L (by omega) hv
  refine v_for (fun j t => t.2.2.toInt = ((lo + j : Nat) : Int) ∧ t.1 = (z_win (z_gk P Q F G C k) i lo s j).1 ∧ t.2.1 = Int32.ofNat (z_win (z_gk P Q F G C k) i lo s j).2) 0 n (Nat.zero_le _) (by omega) ⟨hw, hx, hy⟩ ?_ ?_
  · rintro j ⟨p, q, u⟩ hj ⟨hu, hp, hq⟩
    dsimp only at hu hp hq ⊢
    have hwb := z_win_b (i := i) (lo := lo) (s := s) (z_gk_b (P := P) (Q := Q) (F := F) (G := G) (C := C) (k := k)) hs j
    have hgb := z_gk_b (P := P) (Q := Q) (F := F) (G := G) (C := C) (k := k) i (lo + j)
    have eu : u = Int32.ofNat (lo + j) := n_0L (by omega) hu
    have hlb := z_lb_b (z_lo1 P Q C F G (z_bt (z_cut i (lo + j)))) k
    have h64 := z_p64 hk
    refine v_ifn (by rw [iA_le, hH, hu]; omega) ?_
    refine v_lI (fun e he => ?_)
    have hee : e = z_cut i (lo + j) := by
      rw [he, ev, eu]
      rfl
    clear he
    subst hee
    refine v_b1e (hLB i (lo + j) hi (by omega)) ?_
    refine v_b1e (c_bits (by omega)) ?_
    have eg : z_pc (z_lb (z_lo1 P Q C F G (z_bt (z_cut i (lo + j)))) k) 12 = z_gk P Q F G C k i (lo + j) := rfl
    rw [eg]
    have ew : z_win (z_gk P Q F G C k) i lo s (j + 1) = if (z_win (z_gk P Q F G C k) i lo s j).2 < z_gk P Q F G C k i (lo + j) then (z_cut i (lo + j), z_gk P Q F G C k i (lo + j)) else z_win (z_gk P Q F G C k) i lo s j := rfl
    by_cases hlt : (z_win (z_gk P Q F G C k) i lo s j).2 < z_gk P Q F G C k i (lo + j)
    · refine v_ifn (by rw [hq, iA_le, nJ_T (by omega), nJ_T (by omega)]; omega) ?_
      refine v_l1 ?_
      refine v_il ⟨show (u + 1).toInt = ((lo + j + 1 : Nat) : Int) from n_s3 hu (by omega), ?_, ?_⟩
      · rw [ew, if_pos hlt]
      · rw [ew, if_pos hlt]
    · refine v_ifp (by rw [hq, iA_le, nJ_T (by omega), nJ_T (by omega)]; omega) ?_
      refine v_l1 ?_
      refine v_il ⟨show (u + 1).toInt = ((lo + j + 1 : Nat) : Int) from n_s3 hu (by omega), ?_, ?_⟩
      · rw [ew, if_neg hlt]
        exact hp
      · rw [ew, if_neg hlt]
        exact hq
  · rintro ⟨p, q, u⟩ ⟨hu, hp, hq⟩
    dsimp only at hu hp hq ⊢
    refine v_ifp (by rw [iA_le, hH, hu]; omega) ?_
    exact v_ir ⟨hp, hq⟩
theorem c_worstOf {m : mm_M} {P Q F G : Nat → Nat} {C k : Nat} {a1 : Int32} {two : Bool} (hC : C ≤ 10) (hk : k ≤ 6) (h5 : m 9 0 5 = Int32.ofNat C) (hLB : ∀ i j, i < 10 → j < 10 → f_X4_lostBy (z_cut i j) m = some (Int32.ofNat (z_lb (z_lo1 P Q C F G (z_bt (z_cut i j))) k))) (h1 : a1 ≠ 1 ↔ two = true) : f_X4_worstOf a1 m = some (z_wou (z_gk P Q F G C k) two C C).1 := by
  apply v_is
  unfold f_X4_worstOf
  refine v_s1 (P := fun r => r = (z_wou (z_gk P Q F G C k) two C C).1) ?_ (fun r h => v_so h)
  refine v_for (fun i t => t.2.2.toInt = (i : Int) ∧ t.1 = (z_wou (z_gk P Q F G C k) two C i).1 ∧ t.2.1 = Int32.ofNat (z_wou (z_gk P Q F G C k) two C i).2) 0 C (Nat.zero_le _) (by omega) ⟨i_0, rfl, rfl⟩ ?_ ?_
  · rintro i ⟨p, q, u⟩ hi ⟨hu, hp, hq⟩
    dsimp only at hu hp hq ⊢
    have hwb := z_wou_b (two := two) (C := C) (z_gk_b (P := P) (Q := Q) (F := F) (G := G) (C := C) (k := k)) i
    have ew : z_wou (z_gk P Q F G C k) two C (i + 1) = if two = true then z_win (z_gk P Q F G C k) i (i + 1) (z_wou (z_gk P Q F G C k) two C i) (C - (i + 1)) else z_win (z_gk P Q F G C k) i i (z_wou (z_gk P Q F G C k) two C i) 1 := rfl
    refine v_ifn (by rw [iA_le, h5, hu, nJ_T (by omega)]; omega) ?_
    refine v_lF ?_
    by_cases h2 : a1 ≠ 1
    · have ht := h1.mp h2
      refine v_ifp h2 ?_
      refine v_ifp h2 ?_
      refine v_lI (fun H hH => ?_)
      have hHI : H.toInt = (((i + 1) + (C - (i + 1)) : Nat) : Int) := by
        rw [hH, h5, nJ_T (by omega)]
        omega
      clear hH
      refine v_s1 (c_win (P := P) (Q := Q) (F := F) (G := G) hC hk hLB hu (by omega) (n_s3 hu (by omega)) hHI (by omega) hp hq hwb) ?_
      rintro ⟨p2, q2⟩ ⟨hp2, hq2⟩
      dsimp only at hp2 hq2 ⊢
      refine v_l1 ?_
      refine v_il ⟨n_s3 hu (by omega), ?_, ?_⟩
      · rw [ew, if_pos ht]
        exact hp2
      · rw [ew, if_pos ht]
        exact hq2
    · have ht : ¬ two = true := fun z => h2 (h1.mpr z)
      refine v_ifn h2 ?_
      refine v_ifn h2 ?_
      refine v_lI (fun H hH => ?_)
      have hHI : H.toInt = ((i + 1 : Nat) : Int) := by
        rw [hH]
        exact n_s3 hu (by omega)
      clear hH
      refine v_s1 (c_win (P := P) (Q := Q) (F := F) (G := G) hC hk hLB hu (by omega) hu hHI (by omega) hp hq hwb) ?_
      rintro ⟨p2, q2⟩ ⟨hp2, hq2⟩
      dsimp only at hp2 hq2 ⊢
      refine v_l1 ?_
      refine v_il ⟨n_s3 hu (by omega), ?_, ?_⟩
      · rw [ew, if_neg ht]
        exact hp2
      · rw [ew, if_neg ht]
        exact hq2
  · rintro ⟨p, q, u⟩ ⟨hu, hp, hq⟩
    dsimp only at hu hp hq ⊢
    refine v_ifp (by rw [iA_le, h5, hu, nJ_T (by omega)]; omega) ?_
    exact v_ir hp
theorem r_win {c : mm_M} {P Q F G : Nat → Nat} {C k i lo n : Nat} {a1 v w x y : Int32} {s : Int32 × Nat} (hC : C ≤ 10) (hk : k ≤ 6) (h77 : c 12 0 77 = Int32.ofNat C) (hLB : ∀ i j e, i < 10 → j < 10 → fp zGo c e → vW (f_X12_lostBy (z_cut i j) e) (fun q => q.1 = Int32.ofNat (z_lb (z_lo1 P Q C F G (z_bt (z_cut i j))) k) ∧ fp zGo e q.2)) (hv : v.toInt = (i : Int)) (hi : i < 10) (hw : w.toInt = (lo : Int)) (hH : (a1 ≠ 1 → C = lo + n) ∧ (¬ a1 ≠ 1 → i + 1 = lo + n)) (h10 : lo + n ≤ 10) (hx : x = s.1) (hy : y = Int32.ofNat s.2) (hs : s.2 ≤ 12) {m : mm_M} (hm : fp zGo c m) : vW (mm_loop (σ := Int32 × Int32 × Int32 × mm_M) (ρ := (Int32 × Int32 × mm_M)) (fun (s : Int32 × Int32 × Int32 × mm_M) => match s with
| (v13, v14, v15, m16) => (mm_let (fun (w17 : Int32) => (if w17 ≤ v15 then (some (.inr (v13, v14, m16)))
else (mm_let ((1 <<< (v &&& 31)) ||| (1 <<< (v15 &&& 31))) fun v19 =>
mm_b2 (f_X12_lostBy v19 m16) fun r20 m21 =>
mm_b1 (f_X12_many r20 m21) fun r22 =>
if v14 < r22 then (mm_let (v15 + 1) fun v23 =>
some (.inl (v19, r22, v23, m21)))
else (mm_let (v15 + 1) fun v24 =>
some (.inl (v13, v14, v24, m21)))) : Option ((Int32 × Int32 × Int32 × mm_M) ⊕ ((Int32 × Int32 × mm_M))))) fun k18 =>
if a1 ≠ 1 then (k18 (m16 12 0 77))
else (k18 (v + 1)) : Option ((Int32 × Int32 × Int32 × mm_M) ⊕ ((Int32 × Int32 × mm_M))))) mm_fu (x, y, w, m)) (fun q => q.1 = (z_win (z_gk P Q F G C k) i lo s n).1 ∧ q.2.1 = Int32.ofNat (z_win (z_gk P Q F G C k) i lo s n).2 ∧ fp zGo c q.2.2) := by
  have ev : v = Int32.ofNat i := n_0L (by omega) hv
  have body : ∀ (j : Nat) (p q u : Int32) (e : mm_M) (Hh : Int32), u.toInt = ((lo + j : Nat) : Int) → p = (z_win (z_gk P Q F G C k) i lo s j).1 → q = Int32.ofNat (z_win (z_gk P Q F G C k) i lo s j).2 → fp zGo c e → Hh.toInt = ((lo + n : Nat) : Int) → j ≤ n → vW (if Hh ≤ u then (some (.inr (p, q, e)))
else (mm_let ((1 <<< (v &&& 31)) ||| (1 <<< (u &&& 31))) fun v19 =>
mm_b2 (f_X12_lostBy v19 e) fun r20 m21 =>
mm_b1 (f_X12_many r20 m21) fun r22 =>
if q < r22 then (mm_let (u + 1) fun v23 =>
some (.inl (v19, r22, v23, m21)))
else (mm_let (u + 1) fun v24 =>
some (.inl (p, q, v24, m21)))) : Option ((Int32 × Int32 × Int32 × mm_M) ⊕ ((Int32 × Int32 × mm_M)))) (v_st (fun t : Int32 × Int32 × Int32 × mm_M => j < n ∧ t.2.2.1.toInt = ((lo + (j + 1) : Nat) : Int) ∧ t.1 = (z_win (z_gk P Q F G C k) i lo s (j + 1)).1 ∧ t.2.1 = Int32.ofNat (z_win (z_gk P Q F G C k) i lo s (j + 1)).2 ∧ fp zGo c t.2.2.2) (fun t : Int32 × Int32 × mm_M => j = n ∧ t.1 = (z_win (z_gk P Q F G C k) i lo s n).1 ∧ t.2.1 = Int32.ofNat (z_win (z_gk P Q F G C k) i lo s n).2 ∧ fp zGo c t.2.2)) := fun j p q u e Hh hu hp hq he hHh hjn => by
    have hwb := z_win_b (i := i) (lo := lo) (s := s) (z_gk_b (P := P) (Q := Q) (F := F) (G := G) (C := C) (k := k)) hs j
    have hgb := z_gk_b (P := P) (Q := Q) (F := F) (G := G) (C := C) (k := k) i (lo + j)
    by_cases hj : j < n
    · have eu : u = Int32.ofNat (lo + j) := n_0L (by omega) hu
      have hlb := z_lb_b (z_lo1 P Q C F G (z_bt (z_cut i (lo + j)))) k
      have h64 := z_p64 hk
      refine v_ifn (by rw [iA_le, hHh, hu]; omega) ?_
      refine v_lI (fun z hz => ?_)
      have hee : z = z_cut i (lo + j) := by
        rw [hz, ev, eu]
        rfl
      clear hz
      subst hee
      refine v_s2 (hLB i (lo + j) e hi (by omega) he) ?_
      rintro r e2 ⟨hr, he2⟩
      dsimp only at hr he2
      rw [hr]
      refine v_b1e (r_many (by omega)) ?_
      have eg : z_pc (z_lb (z_lo1 P Q C F G (z_bt (z_cut i (lo + j)))) k) 12 = z_gk P Q F G C k i (lo + j) := rfl
      rw [eg]
      have ew : z_win (z_gk P Q F G C k) i lo s (j + 1) = if (z_win (z_gk P Q F G C k) i lo s j).2 < z_gk P Q F G C k i (lo + j) then (z_cut i (lo + j), z_gk P Q F G C k i (lo + j)) else z_win (z_gk P Q F G C k) i lo s j := rfl
      by_cases hlt : (z_win (z_gk P Q F G C k) i lo s j).2 < z_gk P Q F G C k i (lo + j)
      · refine v_ifp (by rw [hq, iA_lt, nJ_T (by omega), nJ_T (by omega)]; omega) ?_
        refine v_l1 ?_
        refine v_il ⟨hj, show (u + 1).toInt = ((lo + j + 1 : Nat) : Int) from n_s3 hu (by omega), ?_, ?_, fp_tr he he2⟩
        · rw [ew, if_pos hlt]
        · rw [ew, if_pos hlt]
      · refine v_ifn (by rw [hq, iA_lt, nJ_T (by omega), nJ_T (by omega)]; omega) ?_
        refine v_l1 ?_
        refine v_il ⟨hj, show (u + 1).toInt = ((lo + j + 1 : Nat) : Int) from n_s3 hu (by omega), ?_, ?_, fp_tr he he2⟩
        · rw [ew, if_neg hlt]
          exact hp
        · rw [ew, if_neg hlt]
          exact hq
    · obtain rfl : j = n := by omega
      refine v_ifp (by rw [iA_le, hHh, hu]; omega) ?_
      exact v_ir ⟨rfl, hp, hq, he⟩
  refine v_for (fun j t => t.2.2.1.toInt = ((lo + j : Nat) : Int) ∧ t.1 = (z_win (z_gk P Q F G C k) i lo s j).1 ∧ t.2.1 = Int32.ofNat (z_win (z_gk P Q F G C k) i lo s j).2 ∧ fp zGo c t.2.2.2) 0 n (Nat.zero_le _) (by omega) ⟨hw, hx, hy, hm⟩ ?_ ?_
  · rintro j ⟨p, q, u, e⟩ hj ⟨hu, hp, hq, he⟩
    dsimp only at hu hp hq he ⊢
    have fin : ∀ o : Option ((Int32 × Int32 × Int32 × mm_M) ⊕ ((Int32 × Int32 × mm_M))), vW o (v_st (fun t : Int32 × Int32 × Int32 × mm_M => j < n ∧ t.2.2.1.toInt = ((lo + (j + 1) : Nat) : Int) ∧ t.1 = (z_win (z_gk P Q F G C k) i lo s (j + 1)).1 ∧ t.2.1 = Int32.ofNat (z_win (z_gk P Q F G C k) i lo s (j + 1)).2 ∧ fp zGo c t.2.2.2) (fun t : Int32 × Int32 × mm_M => j = n ∧ t.1 = (z_win (z_gk P Q F G C k) i lo s n).1 ∧ t.2.1 = Int32.ofNat (z_win (z_gk P Q F G C k) i lo s n).2 ∧ fp zGo c t.2.2)) → vW o (v_st (fun t : Int32 × Int32 × Int32 × mm_M => t.2.2.1.toInt = ((lo + (j + 1) : Nat) : Int) ∧ t.1 = (z_win (z_gk P Q F G C k) i lo s (j + 1)).1 ∧ t.2.1 = Int32.ofNat (z_win (z_gk P Q F G C k) i lo s (j + 1)).2 ∧ fp zGo c t.2.2.2) (fun q : Int32 × Int32 × mm_M => q.1 = (z_win (z_gk P Q F G C k) i lo s n).1 ∧ q.2.1 = Int32.ofNat (z_win (z_gk P Q F G C k) i lo s n).2 ∧ fp zGo c q.2.2)) := fun o h => v_mono h (fun r hr => by
      cases r with
      | inl t => exact hr.2
      | inr t => exact hr.2)
    refine v_lF ?_
    by_cases h2 : a1 ≠ 1
    · refine v_ifp h2 ?_
      exact fin _ (body j p q u e (e 12 0 77) hu hp hq he (by rw [he 12 0 77 rfl, h77, nJ_T (by omega)]; have := hH.1 h2; omega) (by omega))
    · refine v_ifn h2 ?_
      exact fin _ (body j p q u e (v + 1) hu hp hq he (by rw [n_s3 hv (by omega)]; have := hH.2 h2; omega) (by omega))
  · rintro ⟨p, q, u, e⟩ ⟨hu, hp, hq, he⟩
    dsimp only at hu hp hq he ⊢
    have fin : ∀ o : Option ((Int32 × Int32 × Int32 × mm_M) ⊕ ((Int32 × Int32 × mm_M))), vW o (v_st (fun t : Int32 × Int32 × Int32 × mm_M => n < n ∧ t.2.2.1.toInt = ((lo + (n + 1) : Nat) : Int) ∧ t.1 = (z_win (z_gk P Q F G C k) i lo s (n + 1)).1 ∧ t.2.1 = Int32.ofNat (z_win (z_gk P Q F G C k) i lo s (n + 1)).2 ∧ fp zGo c t.2.2.2) (fun t : Int32 × Int32 × mm_M => n = n ∧ t.1 = (z_win (z_gk P Q F G C k) i lo s n).1 ∧ t.2.1 = Int32.ofNat (z_win (z_gk P Q F G C k) i lo s n).2 ∧ fp zGo c t.2.2)) → vW o (v_st (fun _ : Int32 × Int32 × Int32 × mm_M => False) (fun q : Int32 × Int32 × mm_M => q.1 = (z_win (z_gk P Q F G C k) i lo s n).1 ∧ q.2.1 = Int32.ofNat (z_win (z_gk P Q F G C k) i lo s n).2 ∧ fp zGo c q.2.2)) := fun o h => v_mono h (fun r hr => by
      cases r with
      | inl t => exact absurd hr.1 (Nat.lt_irrefl n)
      | inr t => exact hr.2)
    refine v_lF ?_
    by_cases h2 : a1 ≠ 1
    · refine v_ifp h2 ?_
      exact fin _ (body n p q u e (e 12 0 77) hu hp hq he (by rw [he 12 0 77 rfl, h77, nJ_T (by omega)]; have := hH.1 h2; omega) (Nat.le_refl n))
    · refine v_ifn h2 ?_
      exact fin _ (body n p q u e (v + 1) hu hp hq he (by rw [n_s3 hv (by omega)]; have := hH.2 h2; omega) (Nat.le_refl n))
theorem o_32 : q_Sim qJ 32 := fun m a hJ hop => by
  have hJ0 := hJ
  obtain ⟨hday, hfault, hdead, hstr, htap, hlaw, hev, hrow, hinq, hfound, hlamps, hnet, htsk, hdl, halo, hshe⟩ := hJ
  obtain ⟨P, Q, W, X, C, hC, hC1, hC2, hP, hW, hX, h03, ⟨cw, _, hfw, hnw⟩, htc⟩ := z_netOf hstr hlaw hnet
  obtain ⟨k, F, G, hk6, hk1, hk2, hF⟩ := z_tskF htsk
  have h52 : ∀ i, i < C → m 52 0 i = Int32.ofNat (P i) ∧ m 53 0 i = Int32.ofNat (Q i) := fun i hi => ⟨(hfw 52 0 i rfl).symm.trans (hnw.2 i hi).1, (hfw 53 0 i rfl).symm.trans (hnw.2 i hi).2.1⟩
  have hLB : ∀ i j, i < 10 → j < 10 → f_X4_lostBy (z_cut i j) m = some (Int32.ofNat (z_lb (z_lo1 P Q C F G (z_bt (z_cut i j))) k)) := fun i j _ _ => c_lostB hC hk6 hP hC1 h52 hk1 (fun t ht => ⟨(hF t ht).1, (hF t ht).2.1⟩) (fun i _ => rfl)
  have good : ∀ two : Bool, (a 1 ≠ 1 ↔ two = true) → 1 ≤ (a 1).toInt → (a 1).toInt ≤ 2 → ∃ mC mM, q_To m a mC mM ∧ qJ mC mM := fun two h1 h2 h3 => by
    have eW := c_worstOf (P := P) (Q := Q) (F := F) (G := G) hC hk6 hC1 hLB h1
    have eC : f_X11_worst (a 1) m = some (.inr (z_wou (z_gk P Q F G C k) two C C).1) := v_is (by
      unfold f_X11_worst
      by_cases g1 : a 1 = 1
      · refine v_ifp g1 ?_
        exact v_b1e eW (v_so rfl)
      · refine v_ifn g1 ?_
        refine v_ifp (by
          have g2 : ¬ (a 1).toInt = 1 := fun z => g1 (by rw [iA_eq, i_1]; exact z)
          rw [iA_eq, show (2 : Int32).toInt = 2 by decide]
          omega) ?_
        exact v_b1e eW (v_so rfl))
    have eMx : vW (f_X12_worst (a 1) m) (fun q => q.1 = (z_wou (z_gk P Q F G C k) two C C).1 ∧ q.2 12 0 3 = 0 ∧ fp ((12, none, some 3) :: zTW) m q.2) := by
      unfold f_X12_worst
      refine v_lM ?_
      refine v_ifn (by rw [iA_lt, i_1]; omega) ?_
      refine v_ifp (by rw [iA_le, show (2 : Int32).toInt = 2 by decide]; omega) ?_
      refine v_s1 (r_ttw (X := X) (F := F) (G := G) hC hk6 hP hW ((fp_30 12 0 78 rfl).trans hk2) (fun t ht => ⟨(hF t ht).1, (fp_30 117 0 t rfl).trans (hF t ht).2.2.1, (fp_30 118 0 t rfl).trans (hF t ht).2.2.2⟩) (fun i hi => (fp_30 115 0 i rfl).trans (hX i hi).2.2) (htc _ fp_30)) (fun c1 hc1 => ?_)
      obtain ⟨hf1, hnt1, htw⟩ := hc1
      have hfa : fp ((12, none, some 3) :: zTW) m c1 := fp_tr (fp_sb (by decide) fp_30) (fp_sb (by decide) hf1)
      have c3 : c1 12 0 3 = 0 := (hf1 12 0 3 rfl).trans mw_s
      have hLBr : ∀ i j e, i < 10 → j < 10 → fp zGo c1 e → vW (f_X12_lostBy (z_cut i j) e) (fun q => q.1 = Int32.ofNat (z_lb (z_lo1 P Q C F G (z_bt (z_cut i j))) k) ∧ fp zGo e q.2) := fun i j e _ _ he => by
        refine r_lostB (W := W) (X := X) hC hk6 hP (r_nt_fr he (by decide) hnt1) ((he 12 0 78 rfl).trans ((hfa 12 0 78 rfl).trans hk2)) (fun t ht => ⟨(hF t ht).1, (he 117 0 t rfl).trans ((hfa 117 0 t rfl).trans (hF t ht).2.2.1), (he 118 0 t rfl).trans ((hfa 118 0 t rfl).trans (hF t ht).2.2.2)⟩) (fun t ht => ?_) (fun i _ => rfl)
        have h4 := htw t ht
        generalize z_tw P Q W C F G t = o at h4 ⊢
        cases o with
        | none => exact (he 125 0 t rfl).trans h4
        | some p =>
          refine ⟨h4.1, fun b => ?_, (he 126 0 t rfl).trans h4.2.2⟩
          rw [he 125 0 t rfl]
          exact h4.2.1 b
      refine v_s1 (P := fun t => t.1 = (z_wou (z_gk P Q F G C k) two C C).1 ∧ fp zGo c1 t.2) ?_ ?_
      · refine v_for (fun i t => t.2.2.1.toInt = (i : Int) ∧ t.1 = (z_wou (z_gk P Q F G C k) two C i).1 ∧ t.2.1 = Int32.ofNat (z_wou (z_gk P Q F G C k) two C i).2 ∧ fp zGo c1 t.2.2.2) 0 C (Nat.zero_le _) (by omega) ⟨i_0, rfl, rfl, fp_rf⟩ ?_ ?_
        · rintro i ⟨p, q, u, e⟩ hi ⟨hu, hp, hq, he⟩
          dsimp only at hu hp hq he ⊢
          have hwb := z_wou_b (two := two) (C := C) (z_gk_b (P := P) (Q := Q) (F := F) (G := G) (C := C) (k := k)) i
          have ew : z_wou (z_gk P Q F G C k) two C (i + 1) = if two = true then z_win (z_gk P Q F G C k) i (i + 1) (z_wou (z_gk P Q F G C k) two C i) (C - (i + 1)) else z_win (z_gk P Q F G C k) i i (z_wou (z_gk P Q F G C k) two C i) 1 := rfl
          refine v_ifn (by rw [iA_le, he 12 0 77 rfl, hnt1.1, hu, nJ_T (by omega)]; omega) ?_
          by_cases g2 : a 1 ≠ 1
          · have ht := h1.mp g2
            refine v_ifp g2 ?_
            refine v_lI (fun w hw => ?_)
            have hwI : w.toInt = ((i + 1 : Nat) : Int) := by
              rw [hw]
              exact n_s3 hu (by omega)
            clear hw
            refine v_s1 (r_win (P := P) (Q := Q) (F := F) (G := G) (n := C - (i + 1)) hC hk6 hnt1.1 hLBr hu (by omega) hwI ⟨fun _ => by omega, fun z => absurd g2 z⟩ (by omega) hp hq hwb he) ?_
            rintro ⟨p2, q2, e2⟩ ⟨hp2, hq2, he2⟩
            dsimp only at hp2 hq2 he2 ⊢
            refine v_l1 ?_
            refine v_il ⟨n_s3 hu (by omega), ?_, ?_, he2⟩
            · rw [ew, if_pos ht]
              exact hp2
            · rw [ew, if_pos ht]
              exact hq2
          · have ht : ¬ two = true := fun z => g2 (h1.mpr z)
            refine v_ifn g2 ?_
            refine v_s1 (r_win (P := P) (Q := Q) (F := F) (G := G) (lo := i) (n := 1) hC hk6 hnt1.1 hLBr hu (by omega) hu ⟨fun z => absurd z g2, fun _ => rfl⟩ (by omega) hp hq hwb he) ?_
            rintro ⟨p2, q2, e2⟩ ⟨hp2, hq2, he2⟩
            dsimp only at hp2 hq2 he2 ⊢
            refine v_l1 ?_
            refine v_il ⟨n_s3 hu (by omega), ?_, ?_, he2⟩
            · rw [ew, if_neg ht]
              exact hp2
            · rw [ew, if_neg ht]
              exact hq2
        · rintro ⟨p, q, u, e⟩ ⟨hu, hp, hq, he⟩
          dsimp only at hu hp hq he ⊢
          refine v_ifp (by rw [iA_le, he 12 0 77 rfl, hnt1.1, hu, nJ_T (by omega)]; omega) ?_
          exact v_ir ⟨hp, he⟩
      · rintro ⟨p, e⟩ ⟨hp, he⟩
        dsimp only at hp he ⊢
        exact v_so ⟨hp, (he 12 0 3 rfl).trans c3, fp_tr hfa (fp_sb (by decide) he)⟩
    obtain ⟨⟨y, mM⟩, eM, hy, h3m, hM⟩ := eMx
    dsimp only at hy h3m hM
    subst hy
    have hC : fp [] m m := fp_rf
    refine ⟨_, _, t_op32 hop eC eM (thrown_eq _) (fun e9 h => by cases h) (fun t h => ?_), ⟨j_day_kp hC hM (by decide) (by decide) hday, j_fault_kp hC hM (by decide) (by decide) hfault, j_dead_kp hC hM (by decide) (by decide) hdead, j_str_kp hC hM (by decide) (by decide) hstr, j_tap_kp hC hM (by decide) (by decide) htap, j_law_kp hC hM (by decide) (by decide) hlaw, j_ev_kp hC hM (by decide) (by decide) hev, j_row_kp hC hM (by decide) (by decide) hrow, j_inq_kp hC hM (by decide) (by decide) hinq, j_found_kp hC hM (by decide) (by decide) hfound, j_lamps_kp hC hM (by decide) (by decide) hlamps, j_net_kp hC hM (by decide) (by decide) hnet, j_tsk_kp hC hM (by decide) (by decide) htsk, j_dl_kp hC hM (by decide) (by decide) hdl, j_alo_kp hC hM (by decide) (by decide) halo, j_she_kp hC hM (by decide) (by decide) hshe⟩⟩
    cases h
    exact ⟨h3m, rfl⟩
  by_cases h1 : (a 1).toInt < 1
  · have n1 : ¬ a 1 = 1 := fun z => by
      rw [z, i_1] at h1
      omega
    have n2 : ¬ a 1 = 2 := fun z => by
      rw [z, show (2 : Int32).toInt = 2 by decide] at h1
      omega
    have eC : f_X11_worst (a 1) m = some (.inl 0) := v_is (by
      unfold f_X11_worst
      exact v_ifn n1 (v_ifn n2 (v_so rfl)))
    have eM : f_X12_worst (a 1) m = some (0, mm_w (mm_w m 12 0 3 0) 12 0 3 1) := v_is (by
      unfold f_X12_worst
      refine v_lM ?_
      refine v_ifp (by rw [iA_lt, i_1]; exact h1) ?_
      exact v_b2e r_fail1 (v_so rfl))
    refine ⟨_, _, t_op32 hop eC eM (thrown_eq _) (fun e9 h => ?_) (fun t h => by cases h), qJ_3 fp_31 hJ0⟩
    cases h
    exact ⟨rfl, mw_s⟩
  · by_cases h2 : (a 1).toInt ≤ 2
    · by_cases h3 : a 1 = 1
      · exact good false ⟨fun z => absurd h3 z, fun z => by cases z⟩ (by omega) h2
      · exact good true ⟨fun _ => rfl, fun _ => h3⟩ (by omega) h2
    · have n1 : ¬ a 1 = 1 := fun z => by
        rw [z, i_1] at h2
        omega
      have n2 : ¬ a 1 = 2 := fun z => by
        rw [z, show (2 : Int32).toInt = 2 by decide] at h2
        omega
      have eC : f_X11_worst (a 1) m = some (.inl 0) := v_is (by
        unfold f_X11_worst
        exact v_ifn n1 (v_ifn n2 (v_so rfl)))
      have eM : f_X12_worst (a 1) m = some (0, mm_w (mm_w m 12 0 3 0) 12 0 3 1) := v_is (by
        unfold f_X12_worst
        refine v_lM ?_
        refine v_ifn (by rw [iA_lt, i_1]; exact h1) ?_
        refine v_ifn (by rw [iA_le, show (2 : Int32).toInt = 2 by decide]; exact h2) ?_
        exact v_b2e r_fail1 (v_so rfl))
      refine ⟨_, _, t_op32 hop eC eM (thrown_eq _) (fun e9 h => ?_) (fun t h => by cases h), qJ_3 fp_31 hJ0⟩
      cases h
      exact ⟨rfl, mw_s⟩
