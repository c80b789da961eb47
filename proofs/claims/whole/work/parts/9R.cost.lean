/-! what cables cost -/
def z_cs (lw : zL) (K A H : Nat → Int32) : Nat → Int32
  | 0 => 0
  | j + 1 => if K j = 3 then z_cs lw K A H j else z_cs lw K A H j + z_lv lw K A H 0 0 j
theorem z_lo_b {o : Option (List (Int32 × Int32))} {k A H col age : Int32} (hA : 0 ≤ A.toInt ∧ A.toInt ≤ 40000) : 0 ≤ (z_lo o k A H col age).toInt ∧ (z_lo o k A H col age).toInt ≤ 99999 := by
  cases o with
  | none =>
    show 0 ≤ (if k = 0 then 2 * A else if k = 1 then 50 else if k = 2 then 300 else (200 : Int32)).toInt ∧ (if k = 0 then 2 * A else if k = 1 then 50 else if k = 2 then 300 else (200 : Int32)).toInt ≤ 99999
    split
    · have h2 : (2 : Int32).toInt = 2 := by decide
      rw [iA_mul (by rw [h2]; omega) (by rw [h2]; omega), h2]
      omega
    split
    · decide
    split
    · decide
    · decide
  | some cd =>
    show 0 ≤ (mm_max 0 (mm_min 99999 (z_wo (z_vl k A H col age) cd))).toInt ∧ (mm_max 0 (mm_min 99999 (z_wo (z_vl k A H col age) cd))).toInt ≤ 99999
    generalize z_wo (z_vl k A H col age) cd = x
    unfold mm_max mm_min
    split
    · rename_i h1
      rw [iA_lt, i_99999] at h1
      split
      · rename_i h2
        rw [iA_lt, i_0] at h2
        omega
      · rw [i_0]
        omega
    · decide
theorem z_cs_b {lw : zL} {N Y : Nat} {K A B H : Nat → Int32} (hB : z_thB N K A B Y) : ∀ j, j ≤ N → 0 ≤ (z_cs lw K A H j).toInt ∧ (z_cs lw K A H j).toInt ≤ 99999 * (j : Int)
  | 0, _ => by
    show 0 ≤ (0 : Int32).toInt ∧ (0 : Int32).toInt ≤ _
    rw [i_0]
    omega
  | j + 1, hj => by
    have ih := z_cs_b (lw := lw) (H := H) hB j (by omega)
    have h24 := hB.2.1
    have hA := (z_thB_A hB (show j < N by omega)).1
    have hL : 0 ≤ (z_lv lw K A H 0 0 j).toInt ∧ (z_lv lw K A H 0 0 j).toInt ≤ 99999 := z_lo_b hA
    show 0 ≤ (if K j = 3 then z_cs lw K A H j else z_cs lw K A H j + z_lv lw K A H 0 0 j).toInt ∧ (if K j = 3 then z_cs lw K A H j else z_cs lw K A H j + z_lv lw K A H 0 0 j).toInt ≤ _
    split
    · omega
    · rw [iA_add (by omega) (by omega)]
      omega
def z_W (m : mm_M) (lw : zL) (i : Nat) : Nat := min 2400000 (mm_max 1 (z_cs lw (m 37 (m 54 0 i).toNatClampNeg) (m 38 (m 54 0 i).toNatClampNeg) (m 40 (m 54 0 i).toNatClampNeg) (m 5 (m 54 0 i).toNatClampNeg 4).toNatClampNeg)).toInt.toNat
theorem z_W_b {m : mm_M} {lw : zL} (i : Nat) : z_W m lw i ≤ 2400000 := Nat.min_le_left _ _
theorem z_W_e {m : mm_M} {lw : zL} {i t N Y : Nat} (ht : t < 8) (h54 : m 54 0 i = Int32.ofNat t) (hB : z_thB N (m 37 t) (m 38 t) (m 39 t) Y) (h5 : m 5 t 4 = Int32.ofNat N) : mm_max 1 (z_cs lw (m 37 t) (m 38 t) (m 40 t) N) = Int32.ofNat (z_W m lw i) := by
  have h24 := hB.2.1
  have hb := z_cs_b (lw := lw) (H := m 40 t) hB N (Nat.le_refl _)
  have e : z_W m lw i = min 2400000 (mm_max 1 (z_cs lw (m 37 t) (m 38 t) (m 40 t) N)).toInt.toNat := by
    unfold z_W
    rw [h54, nJ_N (show t < 2147483648 by omega), h5, nJ_N (show N < 2147483648 by omega)]
  have h1 : 1 ≤ (mm_max 1 (z_cs lw (m 37 t) (m 38 t) (m 40 t) N)).toInt ∧ (mm_max 1 (z_cs lw (m 37 t) (m 38 t) (m 40 t) N)).toInt ≤ 2400000 := by
    unfold mm_max
    split
    · rename_i h
      rw [iA_lt, i_1] at h
      omega
    · rw [i_1]
      omega
  rw [e, Nat.min_eq_right (by omega)]
  exact n_of (by omega)
theorem c_wgh {m : mm_M} {lw : zL} {r C : Nat} (hC : C ≤ 10) (h5 : m 9 0 5 = Int32.ofNat C) (hl : ∀ k, k < 4 → z_cdC m r k (lw k)) (hd : ∀ k cd, lw k = some cd → z_dep cd 0 = some 1) (hcab : ∀ i, i < C → ∃ t N Y, t < 8 ∧ m 54 0 i = Int32.ofNat t ∧ z_thB N (m 37 t) (m 38 t) (m 39 t) Y ∧ z_thC m t N (m 37 t) (m 38 t) (m 39 t) (m 40 t) Y) : vW (f_X4_weigh r m) (fun c => fp [(23, none, none), (24, none, none), (56, none, none)] m c ∧ ∀ i, i < C → c 56 0 i = Int32.ofNat (z_W m lw i)) := by
  unfold f_X4_weigh
  refine v_s1 (P := fun c => fp [(23, none, none), (24, none, none), (56, none, none)] m c ∧ ∀ i, i < C → c 56 0 i = Int32.ofNat (z_W m lw i)) ?_ (fun c h => v_so h)
  refine v_for (fun j s => s.1.toInt = (j : Int) ∧ fp [(23, none, none), (24, none, none), (56, none, none)] m s.2 ∧ ∀ i, i < j → s.2 56 0 i = Int32.ofNat (z_W m lw i)) 0 C (Nat.zero_le _) (by omega) ⟨i_0, fp_rf, fun i hi => absurd hi (Nat.not_lt_zero i)⟩ ?_ ?_
  · rintro j ⟨v, c⟩ hj ⟨hv, hf, hw⟩
    dsimp only at hv hf hw ⊢
    obtain ⟨t, N, Y, ht, h54, hB, hT⟩ := hcab j hj
    have h24 := hB.2.1
    have kv : v.toNatClampNeg = j := n_k hv
    have g5 : (c 9 0 5).toInt = (C : Int) := by rw [hf 9 0 5 rfl, h5, nJ_T (by omega)]
    have g54 : c 54 0 j = Int32.ofNat t := (hf 54 0 j rfl).trans h54
    have iv : mm_in v 10 := v_in.mpr (by omega)
    refine v_ifn (by rw [iA_le, g5, hv]; omega) ?_
    refine v_ifp iv ?_
    have g54v : c 54 0 v.toNatClampNeg = Int32.ofNat t := by rw [kv]; exact g54
    rw [g54v]
    refine v_ifp (nJ_in (by omega) (by omega)) ?_
    refine v_lN ?_
    rw [nJ_N (show t < 2147483648 by omega), Nat.zero_add]
    refine v_s1 (P := fun q => q.1 = z_cs lw (m 37 t) (m 38 t) (m 40 t) N ∧ fp [(23, none, none), (24, none, none)] c q.2) ?_ ?_
    · refine v_for (fun p s => s.1 = z_cs lw (m 37 t) (m 38 t) (m 40 t) p ∧ s.2.1.toInt = (p : Int) ∧ fp [(23, none, none), (24, none, none)] c s.2.2) 0 N (Nat.zero_le _) (by omega) ⟨rfl, i_0, fp_rf⟩ ?_ ?_
      · rintro p ⟨x, w, d⟩ hp ⟨hx, hw2, hf2⟩
        dsimp only at hx hw2 hf2 ⊢
        have hf3 : fp [(23, none, none), (24, none, none), (56, none, none)] m d := fp_tr hf (fp_sb (by decide) hf2)
        have kw : w.toNatClampNeg = p := n_k hw2
        have g4 : (d 5 t 4).toInt = (N : Int) := by rw [hf3 5 t 4 rfl, hT.1, nJ_T (by omega)]
        refine v_ifn (by rw [iA_le, g4, hw2]; omega) ?_
        refine v_ifp (v_in.mpr (by omega)) ?_
        have r37 : d 37 t w.toNatClampNeg = m 37 t p := by rw [kw]; exact hf3 37 t p rfl
        by_cases hk : m 37 t p = 3
        · refine v_ifp (r37.trans hk) ?_
          refine v_l1 ?_
          refine v_il ⟨?_, n_s3 hw2 (by omega), hf2⟩
          dsimp only
          rw [hx]
          exact (if_pos hk).symm
        · refine v_ifn (fun z => hk (r37.symm.trans z)) ?_
          refine v_s2 (c_loss (fun k hk => z_cdC_fr (fun g i k hg => hf3 g i k (z_dis_of (by decide) hg)) (hl k hk)) hd hB (z_thC_fr (fun g i k hg => hf3 g i k (z_dis_of (by decide) hg)) hT) hw2 hp) ?_
          rintro y d2 ⟨hy, hf4⟩
          dsimp only at hy hf4
          refine v_l ?_
          refine v_l1 ?_
          refine v_il ⟨?_, n_s3 hw2 (by omega), fp_tr hf2 hf4⟩
          dsimp only
          rw [hx, hy]
          exact (if_neg hk).symm
      · rintro ⟨x, w, d⟩ ⟨hx, hw2, hf2⟩
        dsimp only at hx hw2 hf2 ⊢
        have g4 : (d 5 t 4).toInt = (N : Int) := by rw [hf2 5 t 4 rfl, hf 5 t 4 rfl, hT.1, nJ_T (by omega)]
        refine v_ifp (by rw [iA_le, g4, hw2]; omega) ?_
        exact v_ir ⟨hx, hf2⟩
    · rintro ⟨x, d⟩ ⟨hx, hf2⟩
      dsimp only at hx hf2 ⊢
      refine v_ifp iv ?_
      refine v_lM ?_
      refine v_l1 ?_
      refine v_il ⟨n_s3 hv (by omega), fp_w rfl (fp_tr hf (fp_sb (by decide) hf2)), fun i hi => ?_⟩
      dsimp only
      rw [kv]
      by_cases hij : i = j
      · subst hij
        rw [mw_s, hx]
        exact z_W_e ht h54 hB hT.1
      · rw [mw_k hij, hf2 56 0 i rfl]
        exact hw i (by omega)
  · rintro ⟨v, c⟩ ⟨hv, hf, hw⟩
    dsimp only at hv hf hw ⊢
    have g5 : (c 9 0 5).toInt = (C : Int) := by rw [hf 9 0 5 rfl, h5, nJ_T (by omega)]
    refine v_ifp (by rw [iA_le, g5, hv]; omega) ?_
    exact v_ir ⟨hf, hw⟩
theorem r_tcs {m n : mm_M} {lw : zL} {C : Nat} (hC : C ≤ 10) (h77 : n 12 0 77 = Int32.ofNat C) (hl : ∀ k, k < 4 → z_cdM n k (lw k)) (hd : ∀ k cd, lw k = some cd → z_dep cd 0 = some 1) (hcab : ∀ i, i < C → ∃ t N Y, t < 8 ∧ m 54 0 i = Int32.ofNat t ∧ n 114 0 i = Int32.ofNat t ∧ z_thB N (m 37 t) (m 38 t) (m 39 t) Y ∧ m 5 t 4 = Int32.ofNat N ∧ z_thM n t N (m 37 t) (m 38 t) (m 39 t) (m 40 t) Y) : vW (f_X12_tellCosts n) (fun c => fp [(84, none, none), (85, none, none), (116, none, none)] n c ∧ ∀ i, i < C → c 116 0 i = Int32.ofNat (z_W m lw i)) := by
  unfold f_X12_tellCosts
  refine v_s1 (P := fun c => fp [(84, none, none), (85, none, none), (116, none, none)] n c ∧ ∀ i, i < C → c 116 0 i = Int32.ofNat (z_W m lw i)) ?_ (fun c h => v_so h)
  refine v_for (fun j s => s.1.toInt = (j : Int) ∧ fp [(84, none, none), (85, none, none), (116, none, none)] n s.2 ∧ ∀ i, i < j → s.2 116 0 i = Int32.ofNat (z_W m lw i)) 0 C (Nat.zero_le _) (by omega) ⟨i_0, fp_rf, fun i hi => absurd hi (Nat.not_lt_zero i)⟩ ?_ ?_
  · rintro j ⟨v, c⟩ hj ⟨hv, hf, hw⟩
    dsimp only at hv hf hw ⊢
    obtain ⟨t, N, Y, ht, h54, h114, hB, h5, hT⟩ := hcab j hj
    have h24 := hB.2.1
    have kv : v.toNatClampNeg = j := n_k hv
    have g5 : (c 12 0 77).toInt = (C : Int) := by rw [hf 12 0 77 rfl, h77, nJ_T (by omega)]
    have iv : mm_in v 10 := v_in.mpr (by omega)
    refine v_ifn (by rw [iA_le, g5, hv]; omega) ?_
    refine v_ifp iv ?_
    refine v_lI (fun u hu => ?_)
    have hu2 : u.toInt = (t : Int) := by rw [hu, kv, hf 114 0 j rfl, h114, nJ_T (by omega)]
    clear hu
    have ku : u.toNatClampNeg = t := n_k hu2
    refine v_s1 (P := fun q => q.1 = z_cs lw (m 37 t) (m 38 t) (m 40 t) N ∧ fp [(84, none, none), (85, none, none)] c q.2) ?_ ?_
    · refine v_for (fun p s => s.1 = z_cs lw (m 37 t) (m 38 t) (m 40 t) p ∧ s.2.1.toInt = (p : Int) ∧ fp [(84, none, none), (85, none, none)] c s.2.2) 0 N (Nat.zero_le _) (by omega) ⟨rfl, i_0, fp_rf⟩ ?_ ?_
      · rintro p ⟨x, w, d⟩ hp ⟨hx, hw2, hf2⟩
        dsimp only at hx hw2 hf2 ⊢
        have hf3 : fp [(84, none, none), (85, none, none), (116, none, none)] n d := fp_tr hf (fp_sb (by decide) hf2)
        have g4 : (d 67 0 t).toInt = (N : Int) := by rw [hf3 67 0 t rfl, hT.1, nJ_T (by omega)]
        have hix : (24 * u + w).toInt = ((24 * t + p : Nat) : Int) := z_ix hu2 hw2 (by omega) (by omega)
        have kix := n_k hix
        refine v_ifp (v_in.mpr (by omega)) ?_
        rw [ku]
        refine v_ifn (by rw [iA_le, g4, hw2]; omega) ?_
        refine v_ifp (v_in.mpr (by rw [hix]; omega)) ?_
        have r69 : d 69 0 (24 * u + w).toNatClampNeg = m 37 t p := by rw [kix, hf3 69 0 (24 * t + p) rfl]; exact (hT.2.2 p hp).1
        by_cases hk : m 37 t p = 3
        · refine v_ifn (fun z => z (r69.trans hk)) ?_
          refine v_l ?_
          refine v_l1 ?_
          refine v_il ⟨?_, n_s3 hw2 (by omega), hf2⟩
          dsimp only
          rw [hx, Int32.add_zero]
          exact (if_pos hk).symm
        · refine v_ifp (fun z => hk (r69.symm.trans z)) ?_
          refine v_s2 (r_loss ht (fun k hk => z_cdM_fr (fun g i k hg => hf3 g i k (z_dis_of (by decide) hg)) (hl k hk)) hd hB (z_thM_fr (fun g i k hg => hf3 g i k (z_dis_of (by decide) hg)) hT) hix hp) ?_
          rintro y d2 ⟨hy, hf4⟩
          dsimp only at hy hf4
          refine v_l ?_
          refine v_l1 ?_
          refine v_il ⟨?_, n_s3 hw2 (by omega), fp_tr hf2 hf4⟩
          dsimp only
          rw [hx, hy]
          exact (if_neg hk).symm
      · rintro ⟨x, w, d⟩ ⟨hx, hw2, hf2⟩
        dsimp only at hx hw2 hf2 ⊢
        have g4 : (d 67 0 t).toInt = (N : Int) := by rw [hf2 67 0 t rfl, hf 67 0 t rfl, hT.1, nJ_T (by omega)]
        refine v_ifp (v_in.mpr (by omega)) ?_
        rw [ku]
        refine v_ifp (by rw [iA_le, g4, hw2]; omega) ?_
        exact v_ir ⟨hx, hf2⟩
    · rintro ⟨x, d⟩ ⟨hx, hf2⟩
      dsimp only at hx hf2 ⊢
      refine v_ifp iv ?_
      refine v_lM ?_
      refine v_l1 ?_
      refine v_il ⟨n_s3 hv (by omega), fp_w rfl (fp_tr hf (fp_sb (by decide) hf2)), fun i hi => ?_⟩
      dsimp only
      rw [kv]
      by_cases hij : i = j
      · subst hij
        rw [mw_s, hx]
        exact z_W_e ht h54 hB h5
      · rw [mw_k hij, hf2 116 0 i rfl]
        exact hw i (by omega)
  · rintro ⟨v, c⟩ ⟨hv, hf, hw⟩
    dsimp only at hv hf hw ⊢
    have g5 : (c 12 0 77).toInt = (C : Int) := by rw [hf 12 0 77 rfl, h77, nJ_T (by omega)]
    refine v_ifp (by rw [iA_le, g5, hv]; omega) ?_
    exact v_ir ⟨hf, hw⟩
/-- what both sides need of the cables -/
theorem z_cab {m : mm_M} {T C : Nat} (hT8 : T ≤ 8) (hT1 : m 0 0 2 = Int32.ofNat T) (hth : ∀ t, t < T → ∃ N K A B H Y, z_thB N K A B Y ∧ z_thC m t N K A B H Y ∧ z_thM m t N K A B H Y) (hcs : ∀ i, i < C → m 54 0 i = m 114 0 i ∧ ∃ t, t < 8 ∧ Int32.ofNat t < m 0 0 2 ∧ m 54 0 i = Int32.ofNat t) : ∀ i, i < C → ∃ t N Y, t < 8 ∧ m 54 0 i = Int32.ofNat t ∧ m 114 0 i = Int32.ofNat t ∧ z_thB N (m 37 t) (m 38 t) (m 39 t) Y ∧ m 5 t 4 = Int32.ofNat N ∧ z_thC m t N (m 37 t) (m 38 t) (m 39 t) (m 40 t) Y ∧ z_thM m t N (m 37 t) (m 38 t) (m 39 t) (m 40 t) Y := fun i hi => by
  obtain ⟨e1, t, ht, hlt, e2⟩ := hcs i hi
  rw [hT1, iA_lt, nJ_T (by omega), nJ_T (by omega)] at hlt
  obtain ⟨N, K, A, B, H, Y, hB, hC, hM⟩ := hth t (by omega)
  refine ⟨t, N, Y, ht, e2, e1.symm.trans e2, ⟨hB.1, hB.2.1, hB.2.2.1, fun p hp => ?_⟩, hC.1, ⟨hC.1, hC.2.1, fun p hp => ⟨rfl, rfl, rfl, rfl⟩⟩, hM.1, hM.2.1, fun p hp => ?_⟩
  · obtain ⟨a1, a2, a3, a4⟩ := hC.2.2 p hp
    obtain ⟨b1, b2, b3, b4⟩ := hB.2.2.2 p hp
    rw [a1, a2, a3]
    exact ⟨b1, b2, b3, b4⟩
  · obtain ⟨a1, a2, a3, a4⟩ := hC.2.2 p hp
    obtain ⟨b1, b2, b3, b4⟩ := hM.2.2 p hp
    rw [a1, a2, a3, a4]
    exact ⟨b1, b2, b3, b4⟩
