/-! expressions read by the class -/
def c_lf (i : Nat) (c r : mm_M) : Prop := ∀ g j k, ¬ ((g = 1 ∧ 6 ≤ k ∧ k ≤ 10) ∨ (j = i ∧ ((g = 2 ∧ k = 2) ∨ g = 19 ∨ g = 20))) → r g j k = c g j k
theorem c_lfr {i : Nat} {c : mm_M} : c_lf i c c := fun _ _ _ _ => rfl
theorem c_lft {i : Nat} {c d e : mm_M} (h1 : c_lf i c d) (h2 : c_lf i d e) : c_lf i c e := fun g j k h => (h2 g j k h).trans (h1 g j k h)
theorem c_lfw {i g k : Nat} {c d : mm_M} {x : Int32} (h : (g = 2 ∧ k = 2) ∨ g = 19 ∨ g = 20) (h1 : c_lf i c d) : c_lf i c (mm_w d g i k x) := fun g' j' k' h' => by
  rw [mw_get, if_neg (fun z => h' (Or.inr ⟨z.2.1, by rw [z.1, z.2.2]; exact h⟩))]
  exact h1 g' j' k' h'
theorem c_lfA {i : Nat} {c d : mm_M} (h : fp zAd c d) : c_lf i c d := fun g j k h' => h g j k (z_inE (fun e he z => by
  have hz := z.2.2
  rcases List.mem_cons.mp he with rfl | he
  · exact h' (Or.inl ⟨z.1.symm, by have := Nat.eq_of_beq_eq_true hz; omega⟩)
  rcases List.mem_cons.mp he with rfl | he
  · exact h' (Or.inl ⟨z.1.symm, by have := Nat.eq_of_beq_eq_true hz; omega⟩)
  rcases List.mem_cons.mp he with rfl | he
  · exact h' (Or.inl ⟨z.1.symm, by have := Nat.eq_of_beq_eq_true hz; omega⟩)
  cases he))
theorem c_lfE {i : Nat} {c d : mm_M} (h : fp zEc c d) : c_lf i c d := fun g j k h' => h g j k (z_inE (fun e he z => by
  have hz := z.2.2
  rcases List.mem_cons.mp he with rfl | he
  · exact h' (Or.inl ⟨z.1.symm, by have := Nat.eq_of_beq_eq_true hz; omega⟩)
  rcases List.mem_cons.mp he with rfl | he
  · exact h' (Or.inl ⟨z.1.symm, by have := Nat.eq_of_beq_eq_true hz; omega⟩)
  cases he))
def c_cd (c : mm_M) (i : Nat) (C : zCd) : Prop := c 2 i 2 = Int32.ofNat C.length ∧ ∀ j e, C[j]? = some e → c 19 i j = e.1 ∧ c 20 i j = e.2
theorem c_cd_fr {L : zT} {c r : mm_M} {i : Nat} {C : zCd} (hf : fp L c r) (hd : z_dis [(2, none, some 2), (19, none, none), (20, none, none)] L = true) (h : c_cd c i C) : c_cd r i C := ⟨(hf 2 i 2 (z_dis_of hd rfl)).trans h.1, fun j e he => ⟨(hf 19 i j (z_dis_of hd rfl)).trans (h.2 j e he).1, (hf 20 i j (z_dis_of hd rfl)).trans (h.2 j e he).2⟩⟩
def c_ok (B : Nat → Nat) (n i : Nat) (C : zCd) (c : mm_M) (o : zRs) (t : Int32 × mm_M) : Prop := c_lf i c t.2 ∧ ((∃ x, o = .inr x ∧ t.1 = 1 ∧ c_cd t.2 i (C ++ x.1) ∧ c_at t.2 B n x.2) ∨ (∃ e, o = .inl e ∧ t.1 = 0 ∧ t.2 1 0 9 = Int32.ofNat e.1 ∧ t.2 1 0 10 = Int32.ofNat e.2))
theorem c_kd {c : mm_M} {B : Nat → Nat} {n p : Nat} (h : c_at c B n p) : c 1 0 7 = Int32.ofNat (z_kd B n p) ∧ c 1 0 8 = Int32.ofNat (z_nm B n p) := by
  obtain ⟨_, _, _, _, _, _, h7, h8, _⟩ := h
  exact ⟨h7, h8⟩
theorem c_rfK {c : mm_M} {B : Nat → Nat} {n i p a : Nat} {C : zCd} {o : zRs} (h : c_at c B n p) (ho : o = .inl (a, z_ts B n p)) : vW (mm_b2 (f_X9_refuse (Int32.ofNat a) c) fun r m3 => if r = 0 ∨ r = 1 then some (r, m3) else none) (c_ok B n i C c o) := by
  refine v_s2 (c_rfs h) ?_
  rintro r d ⟨h1, h2, h3, h4⟩
  dsimp only at h1 h2 h3 h4
  exact v_ifp (Or.inl h1) (v_so ⟨c_lfE h2, Or.inr ⟨_, ho, h1, h3, h4⟩⟩)
theorem c_xput {c : mm_M} {i : Nat} {C : zCd} {a b : Int32} (h : c_cd c i C) (hl : C.length < 400) : vW (f_X3_put i a b c) (fun t => t.1 = 1 ∧ c_lf i c t.2 ∧ c_cd t.2 i (C ++ [(a, b)]) ∧ fp [(2, none, none), (19, none, none), (20, none, none)] c t.2) := by
  have iN : mm_in (Int32.ofNat C.length) 400 := nJ_in hl (by omega)
  have kN : (Int32.ofNat C.length).toNatClampNeg = C.length := nJ_N (by omega)
  have i400 : (400 : Int32).toInt = 400 := by decide
  unfold f_X3_put
  refine v_ifp (by rw [h.1, iA_lt, i400, nJ_T (by omega)]; omega) ?_
  refine v_ifp (by rw [h.1]; exact iN) ?_
  refine v_lM ?_
  rw [show (c 2 i 2).toNatClampNeg = C.length by rw [h.1]; exact kN]
  have e1 : mm_w c 19 i C.length a 2 i 2 = Int32.ofNat C.length := (mw_g (by decide)).trans h.1
  refine v_ifp (by rw [e1]; exact iN) ?_
  refine v_lM ?_
  rw [show (mm_w c 19 i C.length a 2 i 2).toNatClampNeg = C.length by rw [e1]; exact kN]
  have e2 : mm_w (mm_w c 19 i C.length a) 20 i C.length b 2 i 2 = Int32.ofNat C.length := (mw_g (by decide)).trans e1
  rw [e2, n_a1]
  refine v_lM ?_
  refine v_so ⟨rfl, c_lfw (Or.inl ⟨rfl, rfl⟩) (c_lfw (Or.inr (Or.inr rfl)) (c_lfw (Or.inr (Or.inl rfl)) c_lfr)), ⟨?_, fun j e he => ?_⟩, fp_w rfl (fp_w rfl (fp_w rfl fp_rf))⟩
  · dsimp only
    rw [mw_s, List.length_append]
    rfl
  · dsimp only
    have a19 : mm_w (mm_w (mm_w c 19 i C.length a) 20 i C.length b) 2 i 2 (Int32.ofNat (C.length + 1)) 19 i j = mm_w c 19 i C.length a 19 i j := by rw [mw_g (by decide), mw_g (by decide)]
    have a20 : mm_w (mm_w (mm_w c 19 i C.length a) 20 i C.length b) 2 i 2 (Int32.ofNat (C.length + 1)) 20 i j = mm_w (mm_w c 19 i C.length a) 20 i C.length b 20 i j := by rw [mw_g (by decide)]
    rw [a19, a20]
    by_cases hj : j < C.length
    · rw [List.getElem?_append_left hj] at he
      rw [mw_k (by omega), mw_k (by omega), mw_g (by decide)]
      exact h.2 j e he
    · rw [List.getElem?_append_right (by omega)] at he
      have hje : j = C.length := by
        by_cases hje : j = C.length
        · exact hje
        · obtain ⟨k, hk⟩ : ∃ k, j - C.length = k + 1 := ⟨j - C.length - 1, by omega⟩
          rw [hk] at he
          cases he
      rw [hje, Nat.sub_self] at he
      have he2 := (Option.some.inj he).symm
      rw [hje, he2, mw_s, mw_s]
      exact ⟨rfl, rfl⟩
theorem c_lvl {a : Int32} {m : mm_M} {k : Nat} (ha : a = Int32.ofNat k) (hk : k ≤ 268) : vW (f_X3_levelOf a m) (fun r => ∀ l, l < 7 → (r = Int32.ofNat l ↔ z_opl l k = true)) := by
  have e : ∀ x : Nat, x < 300 → (a = Int32.ofNat x ↔ k = x) := fun x hx => by
    rw [ha]
    exact n_eq (by omega) (by omega)
  have c7 : ∀ l, l < 7 → l = 0 ∨ l = 1 ∨ l = 2 ∨ l = 3 ∨ l = 4 ∨ l = 5 ∨ l = 6 := fun l hl => by omega
  unfold f_X3_levelOf
  by_cases h42 : k = 42
  · refine v_ifp ((e 42 (by omega)).mpr h42) (v_so (fun l hl => ?_))
    rw [h42]
    rcases c7 l hl with rfl | rfl | rfl | rfl | rfl | rfl | rfl <;> decide
  refine v_ifn (fun z => h42 ((e 42 (by omega)).mp z)) ?_
  by_cases h43 : k = 43
  · refine v_ifp ((e 43 (by omega)).mpr h43) (v_so (fun l hl => ?_))
    rw [h43]
    rcases c7 l hl with rfl | rfl | rfl | rfl | rfl | rfl | rfl <;> decide
  refine v_ifn (fun z => h43 ((e 43 (by omega)).mp z)) ?_
  by_cases h45 : k = 45
  · refine v_ifp ((e 45 (by omega)).mpr h45) (v_so (fun l hl => ?_))
    rw [h45]
    rcases c7 l hl with rfl | rfl | rfl | rfl | rfl | rfl | rfl <;> decide
  refine v_ifn (fun z => h45 ((e 45 (by omega)).mp z)) ?_
  by_cases h47 : k = 47
  · refine v_ifp ((e 47 (by omega)).mpr h47) (v_so (fun l hl => ?_))
    rw [h47]
    rcases c7 l hl with rfl | rfl | rfl | rfl | rfl | rfl | rfl <;> decide
  refine v_ifn (fun z => h47 ((e 47 (by omega)).mp z)) ?_
  by_cases h60 : k = 60
  · refine v_ifp ((e 60 (by omega)).mpr h60) (v_so (fun l hl => ?_))
    rw [h60]
    rcases c7 l hl with rfl | rfl | rfl | rfl | rfl | rfl | rfl <;> decide
  refine v_ifn (fun z => h60 ((e 60 (by omega)).mp z)) ?_
  by_cases h61 : k = 61
  · refine v_ifp ((e 61 (by omega)).mpr h61) (v_so (fun l hl => ?_))
    rw [h61]
    rcases c7 l hl with rfl | rfl | rfl | rfl | rfl | rfl | rfl <;> decide
  refine v_ifn (fun z => h61 ((e 61 (by omega)).mp z)) ?_
  by_cases h261 : k = 261
  · refine v_ifp ((e 261 (by omega)).mpr h261) (v_so (fun l hl => ?_))
    rw [h261]
    rcases c7 l hl with rfl | rfl | rfl | rfl | rfl | rfl | rfl <;> decide
  refine v_ifn (fun z => h261 ((e 261 (by omega)).mp z)) ?_
  by_cases h262 : k = 262
  · refine v_ifp ((e 262 (by omega)).mpr h262) (v_so (fun l hl => ?_))
    rw [h262]
    rcases c7 l hl with rfl | rfl | rfl | rfl | rfl | rfl | rfl <;> decide
  refine v_ifn (fun z => h262 ((e 262 (by omega)).mp z)) ?_
  refine v_so (fun l hl => ⟨fun z => absurd z.symm (n_m1 (by omega)), fun z => ?_⟩)
  have := of_decide_eq_true z
  omega
def z_lvv (B : Nat → Nat) (n : Nat) (E : Nat → zRs) : Nat → Nat → zRs
  | 0 => z_l0 B n E
  | 1 => z_l1 B n E
  | 2 => z_l2 B n E
  | 3 => z_l3 B n E
  | 4 => z_l4 B n E
  | 5 => z_l5 B n E
  | _ => z_pt B n E
theorem z_lvv_c {B : Nat → Nat} {n l : Nat} {E : Nat → zRs} (h : l < 6) (h2 : ¬ l = 2) : z_lvv B n E l = z_cn B n l (z_lvv B n E (l + 1)) (if l = 3 then 1 else 400) := by
  rcases (by omega : l = 0 ∨ l = 1 ∨ l = 3 ∨ l = 4 ∨ l = 5) with rfl | rfl | rfl | rfl | rfl <;> rfl
theorem z_gr_lvv {B : Nat → Nat} {n d l : Nat} (hd : d ≤ 5) (hl : l ≤ 6) : ∀ p, p ≤ n → z_gr n 0 p (z_lvv B n (z_exx B n (5 - d)) l p) := by
  have hE : ∀ p, p ≤ n → z_gr n (5 * d + 4 + 1) p (z_exx B n (5 - d) p) := fun p hp => by
    have := z_gr_ex (B := B) (n := n) (5 - d) (by omega) p hp
    rw [show 5 * (6 - (5 - d)) = 5 * d + 4 + 1 by omega] at this
    exact this
  have g6 : ∀ p, p ≤ n → z_gr n (5 * d + 4 + 1) p (z_pt B n (z_exx B n (5 - d)) p) := z_gr_pt (by omega) hE
  have g5 : ∀ p, p ≤ n → z_gr n (5 * d + 3 + 1) p (z_l5 B n (z_exx B n (5 - d)) p) := z_gr_cn g6
  have g4 : ∀ p, p ≤ n → z_gr n (5 * d + 2 + 1) p (z_l4 B n (z_exx B n (5 - d)) p) := z_gr_cn g5
  have g3 : ∀ p, p ≤ n → z_gr n (5 * d + 1 + 1) p (z_l3 B n (z_exx B n (5 - d)) p) := z_gr_cn g4
  have g2 : ∀ p, p ≤ n → z_gr n (5 * d + 1 + 1) p (z_l2 B n (z_exx B n (5 - d)) p) := z_gr_nt g3
  have g1 : ∀ p, p ≤ n → z_gr n (5 * d + 0 + 1) p (z_l1 B n (z_exx B n (5 - d)) p) := z_gr_cn g2
  have g0 : ∀ p, p ≤ n → z_gr n (5 * d + 0) p (z_l0 B n (z_exx B n (5 - d)) p) := z_gr_cn g1
  intro p hp
  rcases (by omega : l = 0 ∨ l = 1 ∨ l = 2 ∨ l = 3 ∨ l = 4 ∨ l = 5 ∨ l = 6) with rfl | rfl | rfl | rfl | rfl | rfl | rfl
  · exact z_gr_m (Nat.zero_le _) (g0 p hp)
  · exact z_gr_m (Nat.zero_le _) (g1 p hp)
  · exact z_gr_m (Nat.zero_le _) (g2 p hp)
  · exact z_gr_m (Nat.zero_le _) (g3 p hp)
  · exact z_gr_m (Nat.zero_le _) (g4 p hp)
  · exact z_gr_m (Nat.zero_le _) (g5 p hp)
  · exact z_gr_m (Nat.zero_le _) (g6 p hp)
theorem c_isWd {a : Int32} {m : mm_M} {k : Nat} (ha : a = Int32.ofNat k) (hk : k ≤ 268) : f_X9_isWord a m = some (if k = 3 ∨ 256 ≤ k then 1 else 0) := by
  have i256 : (256 : Int32).toInt = 256 := by decide
  apply v_is
  unfold f_X9_isWord
  by_cases h3 : k = 3
  · exact v_ifp (by rw [ha, h3]; rfl) (v_so (if_pos (Or.inl h3)).symm)
  refine v_ifn (by rw [ha]; exact fun z => h3 ((n_eq (b := 3) (by omega) (by omega)).mp z)) ?_
  by_cases h4 : 256 ≤ k
  · refine v_ifn (by rw [ha, iA_lt, i256, nJ_T (by omega)]; omega) (v_so (if_pos (Or.inr h4)).symm)
  · refine v_ifp (by rw [ha, iA_lt, i256, nJ_T (by omega)]; omega) (v_so (if_neg (by omega)).symm)
theorem c_canB {a : Int32} {m : mm_M} {k : Nat} (ha : a = Int32.ofNat k) (hk : k ≤ 268) : f_X3_canBegin a m = some (if k = 2 ∨ k = 40 ∨ k = 3 ∨ 256 ≤ k then 1 else 0) := by
  apply v_is
  unfold f_X3_canBegin
  by_cases h2 : k = 2
  · exact v_ifp (by rw [ha, h2]; rfl) (v_so (if_pos (Or.inl h2)).symm)
  refine v_ifn (by rw [ha]; exact fun z => h2 ((n_eq (b := 2) (by omega) (by omega)).mp z)) ?_
  by_cases h40 : k = 40
  · exact v_ifp (by rw [ha, h40]; rfl) (v_so (if_pos (Or.inr (Or.inl h40))).symm)
  refine v_ifn (by rw [ha]; exact fun z => h40 ((n_eq (b := 40) (by omega) (by omega)).mp z)) ?_
  refine v_b1e (c_isWd ha hk) ?_
  by_cases h3 : k = 3 ∨ 256 ≤ k
  · refine v_ifn (by rw [if_pos h3]; decide) (v_so (if_pos (Or.inr (Or.inr h3))).symm)
  · refine v_ifp (by rw [if_neg h3]) (v_so (if_neg (by omega)).symm)
theorem c_isVl {a : Int32} {m : mm_M} {k : Nat} (ha : a = Int32.ofNat k) (hk : k ≤ 268) : f_X3_isValue a m = some (if 264 ≤ k then 1 else 0) := by
  rw [c_isVal, ha, nJ_T (by omega)]
  by_cases h : 264 ≤ k
  · rw [if_pos h, if_pos (by omega)]
  · rw [if_neg h, if_neg (by omega)]
theorem v_lK0' {α : Type} {k : Option α} {B : Option α → Option α} {Q : α → Prop} {P1 P2 : Prop} (hk : P1 → P2 → vW k Q) (h : ∀ k' : Option α, (P1 → P2 → vW k' Q) → vW (B k') Q) : vW (mm_let k B) Q := h k hk
theorem c_chain {B : Nat → Nat} {n i : Nat} (hn : n ≤ 400) : ∀ (f l d : Nat) (C : zCd) (c : mm_M) (p : Nat) (a2 a3 : Int32), 7 * (5 - d) + (7 - l) ≤ f → l ≤ 6 → d ≤ 5 → a2 = Int32.ofNat l → a3 = Int32.ofNat d → p ≤ n → C.length ≤ p → c_at c B n p → c_cd c i C → vW (f_X3_readChain f i a2 a3 c) (c_ok B n i C c (z_lvv B n (z_exx B n (5 - d)) l p))
  | 0, l, d, C, c, p, a2, a3, hf, hl, hd, _, _, _, _, _, _ => by omega
  | f + 1, l, d, C, c, p, a2, a3, hf, hl, hd, e2, e3, hp, hC, hat, hcd => by
    have n2 : ∀ x : Nat, x < 10 → (a2 = Int32.ofNat x ↔ l = x) := fun x hx => by
      rw [e2]
      exact n_eq (by omega) (by omega)
    have hkb := z_kd_b (B := B) (n := n) (p := p)
    rw [f_X3_readChain]
    by_cases hl2 : l = 2
    · -- not
      refine v_ifn (fun z => z ((n2 2 (by omega)).mpr hl2)) ?_
      have eo : z_lvv B n (z_exx B n (5 - d)) l p = z_nts B n (z_lvv B n (z_exx B n (5 - d)) 3) p := by
        rw [hl2]
        rfl
      have hg3 := z_gr_lvv (B := B) (n := n) hd (show 3 ≤ 6 by omega)
      have ih := fun C c p h1 h2 h3 h4 => c_chain (B := B) (n := n) (i := i) hn f 3 d C c p 3 a3 (by omega) (by omega) hd rfl e3 h1 h2 h3 h4
      rw [eo]
      generalize z_lvv B n (z_exx B n (5 - d)) 3 = g at hg3 ih ⊢
      unfold f_X3_readNots
      have main : vW (mm_b1 (mm_loop (σ := Int32 × mm_M) (ρ := (Int32 × mm_M)) (fun (s : Int32 × mm_M) => match s with
| (v2, m3) => (if 6 ≤ v2 then (some (.inr (v2, m3)))
else (if (m3 1 0 7) ≠ 263 then (some (.inr (v2, m3)))
else (mm_b1 (f_X9_advance m3) fun m5 =>
mm_let (v2 + 1) fun v6 =>
some (.inl (v6, m5)))) : Option ((Int32 × mm_M) ⊕ ((Int32 × mm_M))))) mm_fu (0, c)) fun t => match t with
| (v7, m8) => if (m8 1 0 7) ≠ 263 then (mm_b2 (f_X3_readChain f i 3 a3 m8) fun r9 m10 =>
(mm_b1 (mm_loop (σ := Int32 × Int32 × mm_M) (ρ := (Int32 × mm_M)) (fun (s : Int32 × Int32 × mm_M) => match s with
| (v12, v13, m14) => (if v7 ≤ v13 then (some (.inr (v12, m14)))
else (if v12 = 0 then (some (.inr (v12, m14)))
else (mm_b2 (f_X3_put i 263 0 m14) fun r15 m16 =>
mm_let (v13 + 1) fun v17 =>
some (.inl (r15, v17, m16)))) : Option ((Int32 × Int32 × mm_M) ⊕ ((Int32 × mm_M))))) mm_fu (r9, 0, m10)) fun t => match t with
| (v18, m19) => if v18 = 0 ∨ v18 = 1 then some (v18, m19) else none))
else (mm_b2 (f_X9_refuse 2 m8) fun r20 m21 =>
if r20 = 0 ∨ r20 = 1 then some (r20, m21) else none)) (c_ok B n i C c (z_nts B n g p)) := by
        obtain ⟨q1, q2, q3⟩ := z_nn_b (B := B) (n := n) 6 p hp
        refine v_s1 (P := fun t => t.1.toInt = ((z_nn B n 6 p).1 : Int) ∧ c_lf i c t.2 ∧ c_at t.2 B n (z_nn B n 6 p).2 ∧ c_cd t.2 i C) ?_ ?_
        · refine v_for (fun j s => s.1.toInt = (j : Int) ∧ c_lf i c s.2 ∧ c_cd s.2 i C ∧ ∃ p', p' ≤ n ∧ c_at s.2 B n p' ∧ (z_nn B n 6 p).1 = j + (z_nn B n (6 - j) p').1 ∧ (z_nn B n 6 p).2 = (z_nn B n (6 - j) p').2) 0 6 (by omega) (by omega) ⟨i_0, c_lfr, hcd, p, hp, hat, by rw [Nat.zero_add], rfl⟩ ?_ ?_
          · rintro j ⟨v, e⟩ hj ⟨hv, hlf, hce, p', hp', hae, h1, h2⟩
            dsimp only at hv hlf hce hae ⊢
            have hk := (c_kd hae).1
            have hkb' := z_kd_b (B := B) (n := n) (p := p')
            have i6 : (6 : Int32).toInt = 6 := by decide
            refine v_ifn (by rw [iA_le, i6, hv]; omega) ?_
            obtain ⟨r, hr⟩ : ∃ r, 6 - j = r + 1 := ⟨5 - j, by omega⟩
            rw [hr] at h1 h2
            by_cases h263 : z_kd B n p' = 263
            · have en : z_nn B n (r + 1) p' = ((z_nn B n r (z_te B n p')).1 + 1, (z_nn B n r (z_te B n p')).2) := if_pos h263
              rw [en] at h1 h2
              dsimp only at h1 h2
              refine v_ifn (fun z => z (by rw [hk, h263]; rfl)) ?_
              refine v_s1 (c_adv hp' hae) (fun w hw => ?_)
              refine v_l1 ?_
              refine v_il ⟨n_s3 hv (by omega), c_lft hlf (c_lfA hw.1), c_cd_fr hw.1 (by decide) hce, z_te B n p', z_te_b hp', hw.2, ?_, ?_⟩
              · rw [show 6 - (j + 1) = r by omega]
                omega
              · rw [show 6 - (j + 1) = r by omega]
                exact h2
            · have en : z_nn B n (r + 1) p' = (0, p') := if_neg h263
              rw [en] at h1 h2
              dsimp only at h1 h2
              refine v_ifp (by rw [hk]; exact fun z => h263 ((n_eq (b := 263) (by omega) (by omega)).mp z)) ?_
              refine v_ir ⟨by dsimp only; rw [hv, h1, Nat.add_zero], hlf, ?_, hce⟩
              rw [h2]
              exact hae
          · rintro ⟨v, e⟩ ⟨hv, hlf, hce, p', hp', hae, h1, h2⟩
            dsimp only at hv hlf hce hae ⊢
            have i6 : (6 : Int32).toInt = 6 := by decide
            have h1' : (z_nn B n 6 p).1 = 6 + 0 := h1
            have h2' : (z_nn B n 6 p).2 = p' := h2
            refine v_ifp (by rw [iA_le, i6, hv]; omega) ?_
            refine v_ir ⟨by dsimp only; rw [hv, h1'], hlf, ?_, hce⟩
            rw [h2']
            exact hae
        · rintro ⟨v7, m8⟩ ⟨hv, hlf, hae, hce⟩
          dsimp only at hv hlf hae hce ⊢
          have hk := (c_kd hae).1
          have hkb' := z_kd_b (B := B) (n := n) (p := (z_nn B n 6 p).2)
          by_cases h263 : z_kd B n (z_nn B n 6 p).2 = 263
          · refine v_ifn (fun z => z (by rw [hk, h263]; rfl)) ?_
            have es : z_nts B n g p = .inl (2, z_ts B n (z_nn B n 6 p).2) := if_pos h263
            refine v_mono (c_rfK (a := 2) (i := i) (C := C) hae es) (fun t ht => ⟨c_lft hlf ht.1, ht.2⟩)
          · refine v_ifp (by rw [hk]; exact fun z => h263 ((n_eq (b := 263) (by omega) (by omega)).mp z)) ?_
            have es : z_nts B n g p = z_nx (z_nn B n 6 p).1 (g (z_nn B n 6 p).2) := if_neg h263
            have hgr := hg3 (z_nn B n 6 p).2 q1
            generalize (z_nn B n 6 p).1 = cN at hv es q2 q3
            generalize (z_nn B n 6 p).2 = pN at es q1 q2 hgr hae
            refine v_s2 (ih C m8 pN q1 (by omega) hae hce) ?_
            rintro r9 m10 hr9
            obtain ⟨hl9, hr9⟩ := hr9
            dsimp only at hl9 hr9
            refine v_s1 (P := fun t => c_lf i c t.2 ∧ ((∃ x, g pN = .inr x ∧ t.1 = 1 ∧ c_cd t.2 i (C ++ (x.1 ++ List.replicate cN (263, 0))) ∧ c_at t.2 B n x.2) ∨ (∃ e, g pN = .inl e ∧ t.1 = 0 ∧ t.2 1 0 9 = Int32.ofNat e.1 ∧ t.2 1 0 10 = Int32.ofNat e.2))) ?_ ?_
            · rcases hr9 with ⟨x, hx, h1, h2, h3⟩ | ⟨e, hx, h1, h2, h3⟩
              · rw [hx] at hgr
                obtain ⟨g1, g2, g3, g4⟩ := hgr
                refine v_for (fun j s => s.2.1.toInt = (j : Int) ∧ s.1 = 1 ∧ c_lf i c s.2.2 ∧ c_cd s.2.2 i (C ++ (x.1 ++ List.replicate j (263, 0))) ∧ c_at s.2.2 B n x.2) 0 cN (Nat.zero_le _) (by omega) ⟨i_0, h1, c_lft hlf hl9, by rw [List.replicate_zero, List.append_nil]; exact h2, h3⟩ ?_ ?_
                · rintro j ⟨a, v, e⟩ hj ⟨hw, ha, hle, hcc, haa⟩
                  dsimp only at hw ha hle hcc haa ⊢
                  refine v_ifn (by rw [iA_le, hv, hw]; omega) ?_
                  refine v_ifn (by rw [ha]; decide) ?_
                  have hlen : (C ++ (x.1 ++ List.replicate j ((263, 0) : Int32 × Int32))).length < 400 := by
                    rw [List.length_append, List.length_append, List.length_replicate]
                    omega
                  refine v_s2 (c_xput hcc hlen) ?_
                  rintro r15 m16 ⟨y1, y2, y3, y4⟩
                  dsimp only at y1 y2 y3 y4
                  refine v_l1 ?_
                  refine v_il ⟨n_s3 hw (by omega), y1, c_lft hle y2, ?_, c_at_fr y4 (by decide) haa⟩
                  dsimp only
                  rw [List.replicate_succ', ← List.append_assoc, ← List.append_assoc, List.append_assoc C]
                  exact y3
                · rintro ⟨a, v, e⟩ ⟨hw, ha, hle, hcc, haa⟩
                  dsimp only at hw ha hle hcc haa ⊢
                  refine v_ifp (by rw [iA_le, hv, hw]; omega) ?_
                  exact v_ir ⟨hle, Or.inl ⟨x, hx, ha, hcc, haa⟩⟩
              · refine v_for (fun j s => j = 0 ∧ s = (r9, 0, m10)) 0 1 (by omega) (by omega) ⟨rfl, rfl⟩ ?_ (fun s hs => absurd hs.1 (by omega))
                rintro j ⟨a, v, e⟩ hj ⟨_, hs⟩
                cases hs
                by_cases hc : v7 ≤ 0
                · exact v_ifp hc (v_ir ⟨c_lft hlf hl9, Or.inr ⟨_, hx, h1, h2, h3⟩⟩)
                · exact v_ifn hc (v_ifp h1 (v_ir ⟨c_lft hlf hl9, Or.inr ⟨_, hx, h1, h2, h3⟩⟩))
            · rintro ⟨v18, m19⟩ ⟨hlf2, hs⟩
              dsimp only at hlf2 hs ⊢
              rcases hs with ⟨x, hx, h1, h2, h3⟩ | ⟨e, hx, h1, h2, h3⟩
              · refine v_ifp (Or.inr h1) (v_so ⟨hlf2, Or.inl ⟨(x.1 ++ List.replicate cN (263, 0), x.2), ?_, h1, h2, h3⟩⟩)
                rw [es, hx]
                rfl
              · refine v_ifp (Or.inl h1) (v_so ⟨hlf2, Or.inr ⟨e, ?_, h1, h2, h3⟩⟩)
                rw [es, hx]
                rfl
      refine v_s2 main ?_
      rintro r24 m25 ⟨h1, h2⟩
      dsimp only at h1 h2
      rcases h2 with ⟨x, hx, j1, j2, j3⟩ | ⟨e, hx, j1, j2, j3⟩
      · exact v_ifp (Or.inr j1) (v_so ⟨h1, Or.inl ⟨x, hx, j1, j2, j3⟩⟩)
      · exact v_ifp (Or.inl j1) (v_so ⟨h1, Or.inr ⟨e, hx, j1, j2, j3⟩⟩)
    refine v_ifp (fun z => hl2 ((n2 2 (by omega)).mp z)) ?_
    have i6 : (6 : Int32).toInt = 6 := by decide
    by_cases hl6 : l < 6
    · -- a chain
      refine v_ifp (by rw [e2, iA_lt, i6, nJ_T (by omega)]; omega) ?_
      have eo := z_lvv_c (B := B) (n := n) (E := z_exx B n (5 - d)) hl6 hl2
      have hgl := z_gr_lvv (B := B) (n := n) hd (show l + 1 ≤ 6 by omega)
      have ih := fun C c p h1 h2 h3 h4 => c_chain (B := B) (n := n) (i := i) hn f (l + 1) d C c p (a2 + 1) a3 (by omega) (by omega) hd (by rw [e2, n_a1]) e3 h1 h2 h3 h4
      rw [eo]
      generalize z_lvv B n (z_exx B n (5 - d)) (l + 1) = g at hgl ih ⊢
      obtain ⟨K, hK⟩ : ∃ K, K = (if l = 3 then 1 else 400) := ⟨_, rfl⟩
      have hK400 : K ≤ 400 := by
        rw [hK]
        split <;> omega
      rw [← hK]
      refine v_lK (fun w => w.toInt = (K : Int)) ?_ (fun k2 hk2 => ?_)
      · intro w1 hw1
        refine v_s2 (ih C c p hp hC hat hcd) ?_
        rintro r3 m4 ⟨hl4, hr3⟩
        dsimp only at hl4 hr3
        refine v_s1 (P := fun t => c_ok B n i C c (z_cn B n l g K p) t) ?_ ?_
        · refine v_for (fun j s => s.2.1.toInt = (j : Int) ∧ c_lf i c s.2.2 ∧ ((s.1 = 1 ∧ ∃ cd p', p' ≤ n ∧ (C ++ cd).length ≤ p' ∧ c_at s.2.2 B n p' ∧ c_cd s.2.2 i (C ++ cd) ∧ z_cn B n l g K p = z_lp B n l g (K - j) cd p') ∨ (s.1 = 0 ∧ ∃ e, z_cn B n l g K p = .inl e ∧ s.2.2 1 0 9 = Int32.ofNat e.1 ∧ s.2.2 1 0 10 = Int32.ofNat e.2))) 0 K (Nat.zero_le _) (by omega) ⟨i_0, hl4, ?_⟩ ?_ ?_
          · dsimp only
            rcases hr3 with ⟨x, hx, h1, h2, h3⟩ | ⟨e, hx, h1, h2, h3⟩
            · have hgr := hgl p hp
              rw [hx] at hgr
              obtain ⟨g1, g2, g3, g4⟩ := hgr
              refine Or.inl ⟨h1, x.1, x.2, g2, ?_, h3, h2, z_cn_s hx⟩
              rw [List.length_append]
              omega
            · exact Or.inr ⟨h1, e, z_cn_e hx, h2, h3⟩
          · rintro j ⟨a, v, e⟩ hj ⟨hv, hle, hs⟩
            dsimp only at hv hle hs ⊢
            refine v_ifn (by rw [iA_le, hw1, hv]; omega) ?_
            rcases hs with ⟨ha, cd, p', hp', hlen, hae, hce, hR⟩ | ⟨ha, er, hx, h2, h3⟩
            · refine v_ifn (by rw [ha]; decide) ?_
              have hk := (c_kd hae).1
              have hkb' := z_kd_b (B := B) (n := n) (p := p')
              refine v_s1 (c_lvl hk hkb') (fun r9 hr9 => ?_)
              obtain ⟨r, hr⟩ : ∃ r, K - j = r + 1 := ⟨K - j - 1, by omega⟩
              rw [hr] at hR
              by_cases ho : z_opl l (z_kd B n p') = true
              · refine v_ifn (fun z => z (by rw [e2]; exact (hr9 l (by omega)).mpr ho)) ?_
                refine v_lI (fun w hw => ?_)
                rw [hk] at hw
                refine v_s1 (c_adv hp' hae) (fun m12 h12 => ?_)
                have hk0 : ¬ z_kd B n p' = 0 := fun z => by
                  have := of_decide_eq_true ho
                  omega
                obtain ⟨t1, t2, t3, t4⟩ := z_te_n (B := B) hp' hk0
                refine v_s2 (ih (C ++ cd) m12 (z_te B n p') t4 (by omega) h12.2 (c_cd_fr h12.1 (by decide) hce)) ?_
                rintro r13 m14 ⟨hl14, hr13⟩
                dsimp only at hl14 hr13
                have hl14' : c_lf i c m14 := c_lft hle (c_lft (c_lfA h12.1) hl14)
                rcases hr13 with ⟨x, hx, h1, h2, h3⟩ | ⟨er, hx, h1, h2, h3⟩
                · refine v_ifn (by rw [h1]; decide) ?_
                  have hgr := hgl (z_te B n p') t4
                  rw [hx] at hgr
                  obtain ⟨g1, g2, g3, g4⟩ := hgr
                  have hlen2 : (C ++ cd ++ x.1).length < 400 := by
                    rw [List.length_append]
                    omega
                  refine v_s2 (c_xput h2 hlen2) ?_
                  rintro r16 m17 ⟨y1, y2, y3, y4⟩
                  dsimp only at y1 y2 y3 y4
                  refine v_ifn (by rw [y1]; decide) ?_
                  refine v_l1 ?_
                  refine v_il ⟨n_s3 hv (by omega), c_lft hl14' y2, Or.inl ⟨rfl, cd ++ x.1 ++ [(w, 0)], x.2, g2, ?_, c_at_fr y4 (by decide) h3, ?_, ?_⟩⟩
                  · rw [List.length_append, List.length_append, List.length_append]
                    rw [List.length_append] at hlen
                    show C.length + (cd.length + x.1.length + 1) ≤ x.2
                    omega
                  · dsimp only
                    rw [← List.append_assoc, ← List.append_assoc]
                    exact y3
                  · rw [hR, z_lp_s ho hx, hw, show K - (j + 1) = r by omega]
                · refine v_ifp h1 ?_
                  refine v_l1 ?_
                  refine v_il ⟨n_s3 hv (by omega), hl14', Or.inr ⟨rfl, er, ?_, h2, h3⟩⟩
                  rw [hR]
                  exact z_lp_e ho hx
              · refine v_ifp (fun z => ho ((hr9 l (by omega)).mp (z.trans e2))) ?_
                refine v_ir ⟨hle, Or.inl ⟨(cd, p'), ?_, ha, hce, hae⟩⟩
                rw [hR]
                exact z_lp_n ho
            · refine v_ifp ha ?_
              exact v_ir ⟨hle, Or.inr ⟨er, hx, ha, h2, h3⟩⟩
          · rintro ⟨a, v, e⟩ ⟨hv, hle, hs⟩
            dsimp only at hv hle hs ⊢
            refine v_ifp (by rw [iA_le, hw1, hv]; omega) ?_
            rcases hs with ⟨ha, cd, p', hp', hlen, hae, hce, hR⟩ | ⟨ha, er, hx, h2, h3⟩
            · rw [Nat.sub_self] at hR
              exact v_ir ⟨hle, Or.inl ⟨(cd, p'), hR, ha, hce, hae⟩⟩
            · exact v_ir ⟨hle, Or.inr ⟨er, hx, ha, h2, h3⟩⟩
        · rintro ⟨v20, m21⟩ ⟨h1, h2⟩
          dsimp only at h1 h2 ⊢
          rcases h2 with ⟨x, hx, j1, j2, j3⟩ | ⟨er, hx, j1, j2, j3⟩
          · exact v_ifp (Or.inr j1) (v_so ⟨h1, Or.inl ⟨x, hx, j1, j2, j3⟩⟩)
          · exact v_ifp (Or.inl j1) (v_so ⟨h1, Or.inr ⟨er, hx, j1, j2, j3⟩⟩)
      · by_cases hl3 : l = 3
        · refine v_ifn (fun z => z ((n2 3 (by omega)).mpr hl3)) ?_
          refine hk2 1 ?_
          rw [hK, if_pos hl3]
          decide
        · refine v_ifp (fun z => hl3 ((n2 3 (by omega)).mp z)) ?_
          refine hk2 400 ?_
          rw [hK, if_neg hl3]
          decide
    · -- a point
      have hl6' : l = 6 := by omega
      refine v_ifn (by rw [e2, iA_lt, i6, nJ_T (by omega)]; omega) ?_
      have eo : z_lvv B n (z_exx B n (5 - d)) l p = z_pt B n (z_exx B n (5 - d)) p := by
        rw [hl6']
        rfl
      rw [eo]
      obtain ⟨hk, hnm⟩ := c_kd hat
      have fin : vW (f_X3_readPoint (f_X3_readChain f) i a3 c) (c_ok B n i C c (z_pt B n (z_exx B n (5 - d)) p)) := by
        unfold f_X3_readPoint
        by_cases h40 : z_kd B n p = 40
        · refine v_ifn (fun z => z (by rw [hk, h40]; rfl)) ?_
          have es : z_pt B n (z_exx B n (5 - d)) p = z_cl2 B n (z_exx B n (5 - d) (z_te B n p)) := if_pos h40
          obtain ⟨t1, t2, t3, t4⟩ := z_te_n (B := B) hp (by omega)
          refine v_s1 (c_adv hp hat) (fun m16 h16 => ?_)
          have hcd16 := c_cd_fr h16.1 (by decide) hcd
          have ex : vW (f_X3_readExpression (f_X3_readChain f) i (a3 + 1) m16) (c_ok B n i C m16 (z_exx B n (5 - d) (z_te B n p))) := by
            unfold f_X3_readExpression
            have e31 : a3 + 1 = Int32.ofNat (d + 1) := by rw [e3, n_a1]
            by_cases hd5 : d = 5
            · refine v_ifn (by rw [e31, iA_lt, i6, nJ_T (by omega)]; omega) ?_
              have hk16 := (c_kd h16.2).1
              have hkb16 := z_kd_b (B := B) (n := n) (p := z_te B n p)
              have ez : z_exx B n (5 - d) (z_te B n p) = .inl (if z_kd B n (z_te B n p) = 2 ∨ z_kd B n (z_te B n p) = 40 ∨ z_kd B n (z_te B n p) = 3 ∨ 256 ≤ z_kd B n (z_te B n p) then 2 else 1, z_ts B n (z_te B n p)) := by
                rw [hd5]
                rfl
              refine v_b1e (c_canB hk16 hkb16) ?_
              by_cases hb : z_kd B n (z_te B n p) = 2 ∨ z_kd B n (z_te B n p) = 40 ∨ z_kd B n (z_te B n p) = 3 ∨ 256 ≤ z_kd B n (z_te B n p)
              · rw [if_pos hb] at ez
                refine v_ifn (by rw [if_pos hb]; decide) ?_
                exact c_rfK (a := 2) h16.2 ez
              · rw [if_neg hb] at ez
                refine v_ifp (by rw [if_neg hb]) ?_
                exact c_rfK (a := 1) h16.2 ez
            · refine v_ifp (by rw [e31, iA_lt, i6, nJ_T (by omega)]; omega) ?_
              have ez : z_exx B n (5 - d) (z_te B n p) = z_lvv B n (z_exx B n (5 - (d + 1))) 0 (z_te B n p) := by
                rw [show 5 - d = (5 - (d + 1)) + 1 by omega]
                rfl
              rw [ez]
              refine v_s2 (c_chain (B := B) (n := n) (i := i) hn f 0 (d + 1) C m16 (z_te B n p) 0 (a3 + 1) (by omega) (by omega) (by omega) rfl e31 t4 (by omega) h16.2 hcd16) ?_
              rintro r1 m2 ⟨h1, h2⟩
              dsimp only at h1 h2
              rcases h2 with ⟨x, hx, j1, j2, j3⟩ | ⟨er, hx, j1, j2, j3⟩
              · exact v_ifp (Or.inr j1) (v_so ⟨h1, Or.inl ⟨x, hx, j1, j2, j3⟩⟩)
              · exact v_ifp (Or.inl j1) (v_so ⟨h1, Or.inr ⟨er, hx, j1, j2, j3⟩⟩)
          have hgE := z_gr_ex (B := B) (n := n) (5 - d) (by omega) (z_te B n p) t4
          refine v_s2 ex ?_
          rintro r17 m18 ⟨h1, h2⟩
          dsimp only at h1 h2
          have h1' : c_lf i c m18 := c_lft (c_lfA h16.1) h1
          rcases h2 with ⟨x, hx, j1, j2, j3⟩ | ⟨er, hx, j1, j2, j3⟩
          · refine v_ifn (by rw [j1]; decide) ?_
            rw [hx] at hgE
            refine v_s2 (c_pass (k := 41) j3 hgE.2.1 rfl (by omega)) ?_
            rintro r19 m20 hr19
            dsimp only at hr19
            rcases hr19 with ⟨y1, y2, y3, y4⟩ | ⟨y1, y2, y3, y4, y5⟩
            · refine v_ifn (by rw [y2]; decide) ?_
              refine v_so ⟨c_lft h1' (c_lfA y3), Or.inl ⟨(x.1, z_te B n x.2), ?_, rfl, c_cd_fr y3 (by decide) j2, y4⟩⟩
              rw [es, hx]
              exact if_pos y1
            · refine v_ifp y2 ?_
              refine v_so ⟨c_lft h1' (c_lfE y3), Or.inr ⟨(1, z_ts B n x.2), ?_, rfl, y4, y5⟩⟩
              rw [es, hx]
              exact if_neg y1
          · refine v_ifp j1 ?_
            refine v_so ⟨h1', Or.inr ⟨er, ?_, rfl, j2, j3⟩⟩
            rw [es, hx]
            rfl
        refine v_ifp (by rw [hk]; exact fun z => h40 ((n_eq (b := 40) (by omega) (by omega)).mp z)) ?_
        have k1 : z_pt B n (z_exx B n (5 - d)) p = .inr ([z_tkC B n p], z_te B n p) → ¬ z_kd B n p = 0 → vW (mm_b2 (f_X3_put i (c 1 0 7) (c 1 0 8) c) fun r2 m3 =>
mm_b1 (f_X9_advance m3) fun m5 =>
if r2 = 0 ∨ r2 = 1 then some (r2, m5) else none) (c_ok B n i C c (z_pt B n (z_exx B n (5 - d)) p)) := fun hz hk0 => by
          obtain ⟨t1, t2, t3, t4⟩ := z_te_n (B := B) hp hk0
          refine v_s2 (c_xput hcd (by omega)) ?_
          rintro r2 m3 ⟨y1, y2, y3, y4⟩
          dsimp only at y1 y2 y3 y4
          refine v_s1 (c_adv hp (c_at_fr y4 (by decide) hat)) (fun m5 h5 => ?_)
          refine v_ifp (Or.inr y1) (v_so ⟨c_lft y2 (c_lfA h5.1), Or.inl ⟨_, hz, y1, ?_, h5.2⟩⟩)
          dsimp only
          refine c_cd_fr h5.1 (by decide) ?_
          rw [hk, hnm] at y3
          exact y3
        refine v_lK0' k1 ?_
        intro k' hk'
        by_cases h2 : z_kd B n p = 2
        · refine v_ifn (fun z => z (by rw [hk, h2]; rfl)) ?_
          have es : z_pt B n (z_exx B n (5 - d)) p = if z_nm B n p ≤ 99999 then .inr ([z_tkC B n p], z_te B n p) else .inl (2, z_ts B n p) := (if_neg h40).trans (if_pos h2)
          refine v_s1 (c_isN (lo := 0) (hi := 99999) hat rfl rfl (by omega) (by omega)) (fun r12 hr => ?_)
          rcases hr with ⟨hr, hz⟩ | ⟨hr, hz⟩
          · refine v_ifp (by rw [hr]; decide) ?_
            exact hk' (es.trans (if_pos hz.2.2)) (by omega)
          · refine v_ifn (by rw [hr]; decide) ?_
            refine v_s2 (c_rfN hat) ?_
            rintro r d' ⟨h1, h2', h3, h4⟩
            dsimp only at h1 h2' h3 h4
            rw [if_pos h2] at h3
            refine v_ifp (Or.inl h1) (v_so ⟨c_lfE h2', Or.inr ⟨(2, z_ts B n p), ?_, h1, h3, h4⟩⟩)
            exact es.trans (if_neg (fun z => hz ⟨h2, Nat.zero_le _, z⟩))
        refine v_ifp (by rw [hk]; exact fun z => h2 ((n_eq (b := 2) (by omega) (by omega)).mp z)) ?_
        refine v_b1e (c_isVl hk hkb) ?_
        by_cases h264 : 264 ≤ z_kd B n p
        · refine v_ifp (by rw [if_pos h264]; decide) ?_
          exact hk' ((if_neg h40).trans ((if_neg h2).trans (if_pos h264))) (by omega)
        refine v_ifn (by rw [if_neg h264]; decide) ?_
        refine v_b1e (c_isWd hk hkb) ?_
        by_cases h3 : z_kd B n p = 3 ∨ 256 ≤ z_kd B n p
        · refine v_ifn (by rw [if_pos h3]; decide) ?_
          exact c_rfK (a := 3) hat ((if_neg h40).trans ((if_neg h2).trans ((if_neg h264).trans (if_pos h3))))
        · refine v_ifp (by rw [if_neg h3]) ?_
          exact c_rfK (a := 1) hat ((if_neg h40).trans ((if_neg h2).trans ((if_neg h264).trans (if_neg h3))))
      refine v_s2 fin ?_
      rintro r22 m23 ⟨h1, h2⟩
      dsimp only at h1 h2
      rcases h2 with ⟨x, hx, j1, j2, j3⟩ | ⟨er, hx, j1, j2, j3⟩
      · exact v_ifp (Or.inr j1) (v_so ⟨h1, Or.inl ⟨x, hx, j1, j2, j3⟩⟩)
      · exact v_ifp (Or.inl j1) (v_so ⟨h1, Or.inr ⟨er, hx, j1, j2, j3⟩⟩)
