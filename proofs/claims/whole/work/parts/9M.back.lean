/-! readBack -/
def z_bit (v : Int32) (i : Nat) : Int32 := (v >>> (Int32.ofNat i &&& 31)) &&& 1
def z_bk (P : Nat → Nat) (S : Nat → Int32) (v : Int32) (f : Nat → Int32) : Nat → Nat → Int32
  | 0 => f
  | i + 1 => fun p => if p = P i then (if z_bit v i = 1 then S i else 0) else z_bk P S v f i p
theorem z_bk_2 {P : Nat → Nat} {S : Nat → Int32} {v : Int32} {f g : Nat → Int32} {p : Nat} : ∀ i, (f p = g p ∨ ∃ j, j < i ∧ P j = p) → z_bk P S v f i p = z_bk P S v g i p
  | 0, h => by
    rcases h with h | ⟨j, hj, _⟩
    · exact h
    · exact absurd hj (Nat.not_lt_zero j)
  | i + 1, h => by
    show (if p = P i then (if z_bit v i = 1 then S i else 0) else z_bk P S v f i p) = (if p = P i then (if z_bit v i = 1 then S i else 0) else z_bk P S v g i p)
    by_cases e : p = P i
    · rw [if_pos e, if_pos e]
    · rw [if_neg e, if_neg e]
      refine z_bk_2 i ?_
      rcases h with h | ⟨j, hj, h⟩
      · exact Or.inl h
      · refine Or.inr ⟨j, ?_, h⟩
        by_cases e2 : j = i
        · rw [e2] at h
          exact absurd h.symm e
        · omega
theorem z_bk_0 {P : Nat → Nat} {S : Nat → Int32} {v : Int32} {f : Nat → Int32} {p : Nat} : ∀ i, (∀ j, j < i → ¬ P j = p) → z_bk P S v f i p = f p
  | 0, _ => rfl
  | i + 1, h => by
    show (if p = P i then (if z_bit v i = 1 then S i else 0) else z_bk P S v f i p) = f p
    rw [if_neg (fun z => h i (by omega) z.symm)]
    exact z_bk_0 i (fun j hj => h j (by omega))
theorem z_shl : ∀ s : Fin 9, ((1 : Int32) <<< (Int32.ofNat s.val &&& 31)).toInt = ((2 ^ s.val : Nat) : Int) := by decide
theorem z_2s {s : Nat} (h : s ≤ 8) : 2 ^ s ≤ 256 := Nat.pow_le_pow_right (by decide) h
theorem c_bend {m : mm_M} {s : Nat} {P : Nat → Nat} {S : Nat → Int32} {v : Int32} (h3 : m 7 0 3 = Int32.ofNat s) (h8 : s ≤ 8) (hP : ∀ i, i < s → m 45 0 i = Int32.ofNat (P i) ∧ P i < 24 ∧ m 46 0 i = S i) : vW (f_X1_bend v m) (fun r => fp [(33, none, none)] m r ∧ ∀ p, r 33 0 p = z_bk P S v (fun p => m 33 0 p) s p) := by
  unfold f_X1_bend
  refine v_s1 (P := fun r => fp [(33, none, none)] m r ∧ ∀ p, r 33 0 p = z_bk P S v (fun p => m 33 0 p) s p) ?_ (fun r h => v_so h)
  refine v_for (fun j q => q.1.toInt = (j : Int) ∧ fp [(33, none, none)] m q.2 ∧ ∀ p, q.2 33 0 p = z_bk P S v (fun p => m 33 0 p) j p) 0 s (Nat.zero_le _) (by omega) ⟨i_0, fp_rf, fun p => rfl⟩ ?_ ?_
  · rintro j ⟨u, c⟩ hj ⟨hu, hf, hz⟩
    dsimp only at hu hf hz ⊢
    obtain ⟨p1, p2, p3⟩ := hP j hj
    have eu : u = Int32.ofNat j := n_0L (by omega) hu
    have iu : mm_in u 8 := v_in.mpr (by omega)
    have ku := n_k hu
    have c45 : c 45 0 u.toNatClampNeg = Int32.ofNat (P j) := by rw [ku, hf 45 0 j rfl]; exact p1
    have c46 : c 46 0 u.toNatClampNeg = S j := by rw [ku, hf 46 0 j rfl]; exact p3
    have i45 : mm_in (c 45 0 u.toNatClampNeg) 24 := by rw [c45]; exact nJ_in p2 (by decide)
    have k45 : (c 45 0 u.toNatClampNeg).toNatClampNeg = P j := by rw [c45]; exact nJ_N (by omega)
    have eb : ((v >>> (u &&& 31)) &&& 1) = z_bit v j := by rw [eu]; rfl
    refine v_ifn (by rw [hf 7 0 3 rfl, h3, iA_le, nJ_T (by omega)]; omega) ?_
    refine v_ifp iu ?_
    by_cases hb : z_bit v j = 1
    · refine v_ifn (by rw [eb]; exact fun z => z hb) (v_ifp iu (v_ifp i45 ?_))
      rw [k45, c46]
      refine v_lM (v_l1 (v_il ⟨n_s3 hu (by omega), fp_w rfl hf, fun p => ?_⟩))
      dsimp only
      show _ = if p = P j then (if z_bit v j = 1 then S j else 0) else z_bk P S v (fun p => m 33 0 p) j p
      by_cases e : p = P j
      · rw [if_pos e, if_pos hb, e, mw_s]
      · rw [if_neg e, mw_k e]
        exact hz p
    · refine v_ifp (by rw [eb]; exact hb) (v_ifp i45 ?_)
      rw [k45]
      refine v_lM (v_l1 (v_il ⟨n_s3 hu (by omega), fp_w rfl hf, fun p => ?_⟩))
      dsimp only
      show _ = if p = P j then (if z_bit v j = 1 then S j else 0) else z_bk P S v (fun p => m 33 0 p) j p
      by_cases e : p = P j
      · rw [if_pos e, if_neg hb, e, mw_s]
      · rw [if_neg e, mw_k e]
        exact hz p
  · rintro ⟨u, c⟩ ⟨hu, hf, hz⟩
    dsimp only at hu hf hz ⊢
    exact v_ifp (by rw [hf 7 0 3 rfl, h3, iA_le, nJ_T (by omega)]; omega) (v_ir ⟨hf, hz⟩)
/-- a row is as it was told -/
def z_as (m : mm_M) (s : Nat) (Q : List zQ) : Prop := m 6 (1 + s) 3 = Int32.ofNat Q.length ∧ ∀ i x, Q[i]? = some x → m 41 (1 + s) i = x.1 ∧ m 42 (1 + s) i = x.2.1
theorem c_looks {m : mm_M} {s n : Nat} {Q : List zQ} (hr : c_rw m 3 Q) (hl : Q.length ≤ 49) (hn : m 6 (1 + s) 3 = Int32.ofNat n) (h49 : n ≤ 49) : vW (f_X5_looksLike 3 (1 + s) m) (fun r => (r = 1 ∧ z_as m s Q) ∨ (r = 0 ∧ ¬ z_as m s Q)) := by
  unfold f_X5_looksLike
  by_cases h : Q.length = n
  · have e1 : m 6 (1 + s) 3 = Int32.ofNat Q.length := by rw [hn, h]
    refine v_ifp (by rw [hr.1, e1]) ?_
    refine v_s1 (P := fun t => (t = .inr () ∧ z_as m s Q) ∨ (t = .inl () ∧ ¬ z_as m s Q)) ?_ ?_
    · refine v_for (fun j v => v.toInt = (j : Int) ∧ ∀ i x, i < j → Q[i]? = some x → m 41 (1 + s) i = x.1 ∧ m 42 (1 + s) i = x.2.1) 0 Q.length (Nat.zero_le _) (by omega) ⟨i_0, fun i x hi => absurd hi (Nat.not_lt_zero i)⟩ ?_ ?_
      · rintro j v hj ⟨hv, hz⟩
        obtain ⟨x, hx⟩ := z_ex hj
        obtain ⟨x1, x2, _⟩ := hr.2 j x hx
        have iv : mm_in v 49 := v_in.mpr (by omega)
        refine v_ifn (by rw [hr.1, iA_le, nJ_T (by omega)]; omega) (v_ifp iv (v_ifp iv ?_))
        by_cases g1 : m 41 (1 + s) j = x.1
        · refine v_ifn (by rw [n_k hv, x1]; exact fun z => z g1.symm) (v_ifp iv (v_ifp iv ?_))
          by_cases g2 : m 42 (1 + s) j = x.2.1
          · refine v_ifp (by rw [n_k hv, x2]; exact g2.symm) (v_l1 (v_il ⟨n_s3 hv (by omega), fun i y hi hy => ?_⟩))
            by_cases e : i = j
            · rw [e] at hy ⊢
              rw [hx] at hy
              cases hy
              exact ⟨g1, g2⟩
            · exact hz i y (by omega) hy
          · exact v_ifn (by rw [n_k hv, x2]; exact fun z => g2 z.symm) (v_ir (Or.inr ⟨rfl, fun z => g2 (z.2 j x hx).2⟩))
        · exact v_ifp (by rw [n_k hv, x1]; exact fun z => g1 z.symm) (v_ir (Or.inr ⟨rfl, fun z => g1 (z.2 j x hx).1⟩))
      · rintro v ⟨hv, hz⟩
        exact v_ifp (by rw [hr.1, iA_le, nJ_T (by omega)]; omega) (v_ir (Or.inl ⟨rfl, e1, fun i x hx => hz i x (z_lt hx) hx⟩))
    · rintro t (⟨rfl, h⟩ | ⟨rfl, h⟩)
      · exact v_so (Or.inl ⟨rfl, h⟩)
      · exact v_so (Or.inr ⟨rfl, h⟩)
  · refine v_ifn (by rw [hr.1, hn]; exact n_ne (by rw [nJ_T (by omega), nJ_T (by omega)]; omega)) (v_so (Or.inr ⟨rfl, fun z => ?_⟩))
    have := z.1
    rw [hn, n_eq (by omega) (by omega)] at this
    exact h this.symm
/-- the same for the other side -/
def z_at2 (m : mm_M) (s : Nat) (Q : List zQ) : Prop := m 105 0 s = Int32.ofNat Q.length ∧ ∀ i x, Q[i]? = some x → m 106 0 (60 * s + i) = x.1 ∧ m 107 0 (60 * s + i) = x.2.1
theorem z_told_as {m : mm_M} {s : Nat} {Q : List zQ} (h : z_told m m s) (hQ : Q.length ≤ 49) (hn : ¬ m 105 0 s = -1) : z_as m s Q ↔ z_at2 m s Q := by
  rcases h with ⟨_, h⟩ | ⟨n, h49, h1, h2, h3⟩
  · exact absurd h hn
  · unfold z_as z_at2
    rw [h1, h2]
    constructor
    · rintro ⟨g1, g2⟩
      have e : n = Q.length := (n_eq (by omega) (by omega)).mp g1
      refine ⟨g1, fun i x hx => ?_⟩
      obtain ⟨y1, y2⟩ := h3 i (by have := z_lt hx; omega)
      obtain ⟨x1, x2⟩ := g2 i x hx
      exact ⟨y1.symm.trans x1, y2.symm.trans x2⟩
    · rintro ⟨g1, g2⟩
      have e : n = Q.length := (n_eq (by omega) (by omega)).mp g1
      refine ⟨g1, fun i x hx => ?_⟩
      obtain ⟨y1, y2⟩ := h3 i (by have := z_lt hx; omega)
      obtain ⟨x1, x2⟩ := g2 i x hx
      exact ⟨y1.trans x1, y2.trans x2⟩
theorem r_told {m : mm_M} {s n : Nat} {a1 : Int32} {Q : List zQ} (ha : a1.toInt = (s : Int)) (hs : s < 2) (hr : r_rw m Q) (hl : Q.length ≤ 49) (hn : m 105 0 s = Int32.ofNat n) (h49 : n ≤ 49) : vW (f_X12_isTold a1 m) (fun r => (r = 1 ∧ z_at2 m s Q) ∨ (r = 0 ∧ ¬ z_at2 m s Q)) := by
  have ka := n_k ha
  have i60 : (60 : Int32).toInt = ((60 : Nat) : Int) := by decide
  have hm := iA_mulN i60 ha (by omega)
  unfold f_X12_isTold
  refine v_ifp (v_in.mpr (by omega)) ?_
  by_cases h : Q.length = n
  · have e1 : m 105 0 s = Int32.ofNat Q.length := by rw [hn, h]
    refine v_ifn (by rw [ka, e1, hr.1]; exact fun z => z rfl) ?_
    refine v_s1 (P := fun r => (r = 1 ∧ z_at2 m s Q) ∨ (r = 0 ∧ ¬ z_at2 m s Q)) ?_ ?_
    · refine v_for (fun j q => q.2.toInt = (j : Int) ∧ ((q.1 = 1 ∧ ∀ i x, i < j → Q[i]? = some x → m 106 0 (60 * s + i) = x.1 ∧ m 107 0 (60 * s + i) = x.2.1) ∨ (q.1 = 0 ∧ ¬ z_at2 m s Q))) 0 Q.length (Nat.zero_le _) (by omega) ⟨i_0, Or.inl ⟨rfl, fun i x hi => absurd hi (Nat.not_lt_zero i)⟩⟩ ?_ ?_
      · rintro j ⟨u, v⟩ hj ⟨hv, hz⟩
        dsimp only at hv hz ⊢
        rcases hz with ⟨hu, hz⟩ | ⟨hu, hz⟩
        · refine v_ifn (by rw [hu]; decide) ?_
          obtain ⟨x, hx⟩ := z_ex hj
          obtain ⟨x1, x2, _⟩ := hr.2 j x hx
          have hi := iA_addN hm hv (by omega)
          have iv : mm_in v 60 := v_in.mpr (by omega)
          have ii : mm_in (60 * a1 + v) 120 := v_in.mpr (by omega)
          refine v_ifn (by rw [hr.1, iA_le, nJ_T (by omega)]; omega) (v_ifp ii (v_ifp iv ?_))
          by_cases g1 : m 106 0 (60 * s + j) = x.1
          · refine v_ifn (by rw [n_k hi, n_k hv, x1]; exact fun z => z g1) (v_ifp ii (v_ifp iv ?_))
            by_cases g2 : m 107 0 (60 * s + j) = x.2.1
            · refine v_ifn (by rw [n_k hi, n_k hv, x2]; exact fun z => z g2) (v_l1 (v_il ⟨n_s3 hv (by omega), Or.inl ⟨rfl, fun i y hi hy => ?_⟩⟩))
              by_cases e : i = j
              · rw [e] at hy ⊢
                rw [hx] at hy
                cases hy
                exact ⟨g1, g2⟩
              · exact hz i y (by omega) hy
            · exact v_ifp (by rw [n_k hi, n_k hv, x2]; exact g2) (v_l1 (v_il ⟨n_s3 hv (by omega), Or.inr ⟨rfl, fun z => g2 (z.2 j x hx).2⟩⟩))
          · exact v_ifp (by rw [n_k hi, n_k hv, x1]; exact g1) (v_l1 (v_il ⟨n_s3 hv (by omega), Or.inr ⟨rfl, fun z => g1 (z.2 j x hx).1⟩⟩))
        · exact v_ifp hu (v_ir (Or.inr ⟨hu, hz⟩))
      · rintro ⟨u, v⟩ ⟨hv, hz⟩
        dsimp only at hv hz ⊢
        rcases hz with ⟨hu, hz⟩ | ⟨hu, hz⟩
        · refine v_ifn (by rw [hu]; decide) ?_
          exact v_ifp (by rw [hr.1, iA_le, nJ_T (by omega)]; omega) (v_ir (Or.inl ⟨hu, e1, fun i x hx => hz i x (z_lt hx) hx⟩))
        · exact v_ifp hu (v_ir (Or.inr ⟨hu, hz⟩))
    · rintro r (⟨rfl, h⟩ | ⟨rfl, h⟩)
      · exact v_ifp (Or.inr rfl) (v_so (Or.inl ⟨rfl, h⟩))
      · exact v_ifp (Or.inl rfl) (v_so (Or.inr ⟨rfl, h⟩))
  · have hne : ¬ z_at2 m s Q := fun z => by
      have := z.1
      rw [hn, n_eq (by omega) (by omega)] at this
      exact h this.symm
    refine v_ifp (by rw [ka, hn, hr.1]; exact n_ne (by rw [nJ_T (by omega), nJ_T (by omega)]; omega)) ?_
    refine v_s1 (P := fun r => r = 0) ?_ ?_
    · refine v_for (fun j q => q.1 = 0) 0 1 (by decide) (by decide) rfl ?_ ?_
      · rintro j ⟨u, v⟩ hj hu
        dsimp only at hu ⊢
        exact v_ifp hu (v_ir hu)
      · rintro ⟨u, v⟩ hu
        dsimp only at hu ⊢
        exact v_ifp hu (v_ir hu)
    · rintro r rfl
      exact v_ifp (Or.inl rfl) (v_so (Or.inr ⟨rfl, hne⟩))
/-- what is found among the first k sets -/
noncomputable def z_fo (ok : Nat → Prop) : Nat → Int32 × Int32 × Int32 × Int32
  | 0 => (0, -1, 0, 0)
  | k + 1 => @ite _ (ok k) (Classical.propDecidable _) ((z_fo ok k).1 + 1, if (z_fo ok k).1 = 0 then Int32.ofNat k else (z_fo ok k).2.1, if (z_fo ok k).1 = 0 then Int32.ofNat k else (z_fo ok k).2.2.1 &&& Int32.ofNat k, (z_fo ok k).2.2.2 ||| Int32.ofNat k) (z_fo ok k)
theorem z_fo_y {ok : Nat → Prop} {k : Nat} (h : ok k) : z_fo ok (k + 1) = ((z_fo ok k).1 + 1, if (z_fo ok k).1 = 0 then Int32.ofNat k else (z_fo ok k).2.1, if (z_fo ok k).1 = 0 then Int32.ofNat k else (z_fo ok k).2.2.1 &&& Int32.ofNat k, (z_fo ok k).2.2.2 ||| Int32.ofNat k) := if_pos h
theorem z_fo_n {ok : Nat → Prop} {k : Nat} (h : ¬ ok k) : z_fo ok (k + 1) = z_fo ok k := if_neg h
theorem z_fo_b {ok : Nat → Prop} : ∀ k, k ≤ 1000 → (0 ≤ (z_fo ok k).1.toInt ∧ (z_fo ok k).1.toInt ≤ (k : Int)) ∧ ((z_fo ok k).1 = 0 ↔ (z_fo ok k).2.1 = -1)
  | 0, _ => ⟨by show 0 ≤ (0 : Int32).toInt ∧ (0 : Int32).toInt ≤ _; rw [i_0]; omega, ⟨fun _ => rfl, fun _ => rfl⟩⟩
  | k + 1, hk => by
    obtain ⟨h1, h2⟩ := z_fo_b (ok := ok) k (by omega)
    by_cases h : ok k
    · rw [z_fo_y h]
      dsimp only
      have e1 : ((z_fo ok k).1 + 1).toInt = (z_fo ok k).1.toInt + 1 := n_1 (by omega)
      refine ⟨by rw [e1]; omega, fun z => ?_, fun z => ?_⟩
      · rw [iA_eq, e1, i_0] at z
        omega
      · by_cases h0 : (z_fo ok k).1 = 0
        · rw [if_pos h0] at z
          exact absurd z (n_m1 (by omega))
        · rw [if_neg h0] at z
          exact absurd (h2.mpr z) h0
    · rw [z_fo_n h]
      exact ⟨by omega, h2⟩
abbrev zR3 : zT := [(6, some 3, some 3), (6, some 3, some 5), (41, some 3, none), (42, some 3, none), (43, some 3, none), (44, none, none)]
theorem d_fr3 {m r : mm_M} (h : d_fr 3 m r) : fp zR3 m r := fun g i k hz => h g i k (fun z => by
  obtain ⟨rfl, rfl | rfl | rfl | rfl | ⟨rfl, rfl | rfl⟩⟩ := z
  · exact z_tf rfl hz
  · exact z_tf rfl hz
  · exact z_tf rfl hz
  · exact z_tf rfl hz
  · exact z_tf rfl hz
  · exact z_tf rfl hz)
theorem z_as_fr {L : zT} {m m' : mm_M} {s : Nat} {Q : List zQ} (hs : s < 2) (hf : fp L m m') (hd : z_dis [(6, some 1, some 3), (6, some 2, some 3), (41, some 1, none), (42, some 1, none), (41, some 2, none), (42, some 2, none)] L = true) : z_as m' s Q ↔ z_as m s Q := by
  unfold z_as
  rcases (by omega : s = 0 ∨ s = 1) with rfl | rfl
  · rw [hf 6 (1 + 0) 3 (z_dis_of hd rfl)]
    simp only [fun i => hf 41 (1 + 0) i (z_dis_of hd rfl), fun i => hf 42 (1 + 0) i (z_dis_of hd rfl)]
  · rw [hf 6 (1 + 1) 3 (z_dis_of hd rfl)]
    simp only [fun i => hf 41 (1 + 1) i (z_dis_of hd rfl), fun i => hf 42 (1 + 1) i (z_dis_of hd rfl)]
/-- no row was told, or the row is as it was told -/
def z_ok (m : mm_M) (s : Nat) (Q : List zQ) : Prop := m 6 (1 + s) 3 = -1 ∨ z_as m s Q
theorem c_agr0 {m : mm_M} {t N Y : Nat} {D : Int32} {K A B H L bn ct o : Nat → Int32} (h4 : m 4 0 4 = Int32.ofNat t) (ht : t < 8) (h24 : N ≤ 24) (hT : z_thC m t N K A B H Y) (hs : z_scC m bn ct o) (hb : z_nb N K A ct) (hL : ∀ p, p < N → m 36 0 p = L p) (hD : 0 ≤ D.toInt) (ht2 : m 6 (1 + 0) 3 = -1 ∨ ∃ n, n ≤ 49 ∧ m 6 (1 + 0) 3 = Int32.ofNat n) : vW (f_X1_agrees 0 D m) (fun q => fp zR3 m q.2 ∧ ((q.1 = 1 ∧ z_ok m 0 (z_row D (z_wk K A L bn ct 0 N N).2.1 (z_seen D (z_wk K A L bn ct 0 N N).1))) ∨ (q.1 = 0 ∧ ¬ z_ok m 0 (z_row D (z_wk K A L bn ct 0 N N).2.1 (z_seen D (z_wk K A L bn ct 0 N N).1))))) := by
  unfold f_X1_agrees
  refine v_b1e (a := 1 + 0) rfl ?_
  rcases ht2 with h | ⟨n, h49, h⟩
  · exact v_ifn (fun z => z h) (v_so ⟨fp_rf, Or.inl ⟨rfl, Or.inl h⟩⟩)
  · refine v_ifp (by rw [h]; exact n_m1 (by omega)) ?_
    refine v_s1 (c_obs (i := 3) (e := 0) h4 ht h24 hT hs hb hL hD) ?_
    rintro c ⟨hf, hr⟩
    have hf3 := d_fr3 hf
    refine v_s1 (c_looks (s := 0) hr (z_row_b hD hb h24) ((hf3 6 (1 + 0) 3 rfl).trans h) h49) ?_
    have hnt : ¬ m 6 (1 + 0) 3 = -1 := by rw [h]; exact n_m1 (by omega)
    rintro r (⟨rfl, hq⟩ | ⟨rfl, hq⟩)
    · exact v_ifp (Or.inr rfl) (v_so ⟨hf3, Or.inl ⟨rfl, Or.inr ((z_as_fr (by decide) hf3 (by decide)).mp hq)⟩⟩)
    · exact v_ifp (Or.inl rfl) (v_so ⟨hf3, Or.inr ⟨rfl, fun z => by
        rcases z with z | z
        · exact hnt z
        · exact hq ((z_as_fr (by decide) hf3 (by decide)).mpr z)⟩⟩)
theorem c_agr1 {m : mm_M} {t N Y : Nat} {D : Int32} {K A B H L bn ct o : Nat → Int32} (h4 : m 4 0 4 = Int32.ofNat t) (ht : t < 8) (h24 : N ≤ 24) (hT : z_thC m t N K A B H Y) (hs : z_scC m bn ct o) (hb : z_nb N K A ct) (hL : ∀ p, p < N → m 36 0 p = L p) (hD : 0 ≤ D.toInt) (ht2 : m 6 (1 + 1) 3 = -1 ∨ ∃ n, n ≤ 49 ∧ m 6 (1 + 1) 3 = Int32.ofNat n) : vW (f_X1_agrees 1 D m) (fun q => fp zR3 m q.2 ∧ ((q.1 = 1 ∧ z_ok m 1 (z_row D (z_wk K A L bn ct 1 N N).2.1 (z_seen D (z_wk K A L bn ct 1 N N).1))) ∨ (q.1 = 0 ∧ ¬ z_ok m 1 (z_row D (z_wk K A L bn ct 1 N N).2.1 (z_seen D (z_wk K A L bn ct 1 N N).1))))) := by
  unfold f_X1_agrees
  refine v_b1e (a := 1 + 1) rfl ?_
  rcases ht2 with h | ⟨n, h49, h⟩
  · exact v_ifn (fun z => z h) (v_so ⟨fp_rf, Or.inl ⟨rfl, Or.inl h⟩⟩)
  · refine v_ifp (by rw [h]; exact n_m1 (by omega)) ?_
    refine v_s1 (c_obs (i := 3) (e := 1) h4 ht h24 hT hs hb hL hD) ?_
    rintro c ⟨hf, hr⟩
    have hf3 := d_fr3 hf
    refine v_s1 (c_looks (s := 1) hr (z_row_b hD hb h24) ((hf3 6 (1 + 1) 3 rfl).trans h) h49) ?_
    have hnt : ¬ m 6 (1 + 1) 3 = -1 := by rw [h]; exact n_m1 (by omega)
    rintro r (⟨rfl, hq⟩ | ⟨rfl, hq⟩)
    · exact v_ifp (Or.inr rfl) (v_so ⟨hf3, Or.inl ⟨rfl, Or.inr ((z_as_fr (by decide) hf3 (by decide)).mp hq)⟩⟩)
    · exact v_ifp (Or.inl rfl) (v_so ⟨hf3, Or.inr ⟨rfl, fun z => by
        rcases z with z | z
        · exact hnt z
        · exact hq ((z_as_fr (by decide) hf3 (by decide)).mpr z)⟩⟩)
theorem z_ok_fr {L : zT} {m m' : mm_M} {s : Nat} {Q : List zQ} (hs : s < 2) (hf : fp L m m') (hd : z_dis [(6, some 1, some 3), (6, some 2, some 3), (41, some 1, none), (42, some 1, none), (41, some 2, none), (42, some 2, none)] L = true) : z_ok m' s Q ↔ z_ok m s Q := by
  unfold z_ok
  rw [z_as_fr hs hf hd]
  rcases (by omega : s = 0 ∨ s = 1) with rfl | rfl
  · rw [hf 6 (1 + 0) 3 (z_dis_of hd rfl)]
  · rw [hf 6 (1 + 1) 3 (z_dis_of hd rfl)]
/-- the row that a set would make -/
noncomputable def z_rwk (N : Nat) (K A L : Nat → Int32) (P : Nat → Nat) (S : Nat → Int32) (s : Nat) (D e : Int32) (k : Nat) : List zQ := z_row D (z_wk K A L (fun p => z_bk P S (Int32.ofNat k) (fun _ => 0) s p) (fun _ => -1) e N N).2.1 (z_seen D (z_wk K A L (fun p => z_bk P S (Int32.ofNat k) (fun _ => 0) s p) (fun _ => -1) e N N).1)
abbrev zRB : zT := [(33, none, none), (7, none, some 7), (7, none, some 8), (7, none, some 9), (7, none, some 10), (6, some 3, some 3), (6, some 3, some 5), (41, some 3, none), (42, some 3, none), (43, some 3, none), (44, none, none)]
def z_sets (m : mm_M) (N : Nat) (K A L : Nat → Int32) (P : Nat → Nat) (S : Nat → Int32) (s : Nat) (D : Int32) (k : Nat) : Prop := z_ok m 0 (z_rwk N K A L P S s D 0 k) ∧ z_ok m 1 (z_rwk N K A L P S s D 1 k)
theorem c_search {m : mm_M} {t N Y s : Nat} {D : Int32} {K A B H L : Nat → Int32} {P : Nat → Nat} {S : Nat → Int32} (h4 : m 4 0 4 = Int32.ofNat t) (ht : t < 8) (h24 : N ≤ 24) (hT : z_thC m t N K A B H Y) (hs : z_scC m (fun _ => 0) (fun _ => -1) (fun _ => 0)) (hb : z_nb N K A (fun _ => -1)) (hL : ∀ p, p < N → m 36 0 p = L p) (hD : 0 ≤ D.toInt) (ht0 : m 6 (1 + 0) 3 = -1 ∨ ∃ n, n ≤ 49 ∧ m 6 (1 + 0) 3 = Int32.ofNat n) (ht1 : m 6 (1 + 1) 3 = -1 ∨ ∃ n, n ≤ 49 ∧ m 6 (1 + 1) 3 = Int32.ofNat n) (h3 : m 7 0 3 = Int32.ofNat s) (h8 : s ≤ 8) (hP : ∀ i, i < s → m 45 0 i = Int32.ofNat (P i) ∧ P i < 24 ∧ m 46 0 i = S i) : vW (f_X1_search D m) (fun q => q.1 = (z_fo (z_sets m N K A L P S s D) (2 ^ s)).1 ∧ fp zRB m q.2 ∧ q.2 7 0 7 = (z_fo (z_sets m N K A L P S s D) (2 ^ s)).1 ∧ q.2 7 0 8 = (z_fo (z_sets m N K A L P S s D) (2 ^ s)).2.1 ∧ q.2 7 0 9 = (z_fo (z_sets m N K A L P S s D) (2 ^ s)).2.2.1 ∧ q.2 7 0 10 = (z_fo (z_sets m N K A L P S s D) (2 ^ s)).2.2.2) := by
  have h256 := z_2s h8
  generalize hok : z_sets m N K A L P S s D = ok
  unfold f_X1_search
  refine v_lM (v_lM (v_lM (v_lM ?_)))
  refine v_s1 (P := fun c => fp zRB m c ∧ c 7 0 7 = (z_fo ok (2 ^ s)).1 ∧ c 7 0 8 = (z_fo ok (2 ^ s)).2.1 ∧ c 7 0 9 = (z_fo ok (2 ^ s)).2.2.1 ∧ c 7 0 10 = (z_fo ok (2 ^ s)).2.2.2) ?_ ?_
  · refine v_for (fun k q => q.1.toInt = (k : Int) ∧ fp zRB m q.2 ∧ (q.2 7 0 7 = (z_fo ok k).1 ∧ q.2 7 0 8 = (z_fo ok k).2.1 ∧ q.2 7 0 9 = (z_fo ok k).2.2.1 ∧ q.2 7 0 10 = (z_fo ok k).2.2.2) ∧ ∀ p, p < 24 → q.2 33 0 p = 0 ∨ ∃ j, j < s ∧ P j = p) 0 (2 ^ s) (Nat.zero_le _) (by omega) ⟨i_0, fp_w rfl (fp_w rfl (fp_w rfl (fp_w rfl fp_rf))), ⟨by simp (disch := first | omega | decide | fail) only [mw_s, mw_k, mw_i, mw_g]; rfl, by simp (disch := first | omega | decide | fail) only [mw_s, mw_k, mw_i, mw_g]; rfl, by simp (disch := first | omega | decide | fail) only [mw_s, mw_k, mw_i, mw_g]; rfl, by simp (disch := first | omega | decide | fail) only [mw_s, mw_k, mw_i, mw_g]; rfl⟩, fun p hp => Or.inl (by dsimp only; rw [mw_g (by decide), mw_g (by decide), mw_g (by decide), mw_g (by decide)]; exact (hs p hp).1)⟩ ?_ ?_
    · rintro k ⟨v, c⟩ hk ⟨hv, hf, hst, hz⟩
      dsimp only at hv hf hst hz ⊢
      have ev : v = Int32.ofNat k := n_0L (by omega) hv
      have c3 : c 7 0 3 = Int32.ofNat s := (hf 7 0 3 rfl).trans h3
      refine v_ifn (by rw [c3, iA_le, z_shl ⟨s, by omega⟩]; dsimp only; omega) ?_
      refine v_s1 (c_bend (P := P) (S := S) c3 h8 (fun i hi => ?_)) ?_
      · obtain ⟨p1, p2, p3⟩ := hP i hi
        exact ⟨(hf 45 0 i rfl).trans p1, p2, (hf 46 0 i rfl).trans p3⟩
      · rintro c9 ⟨hf9, hz9⟩
        have hf9' : fp zRB m c9 := fp_tr hf (fp_sb (by decide) hf9)
        have hbn : ∀ p, p < 24 → c9 33 0 p = z_bk P S (Int32.ofNat k) (fun _ => 0) s p := fun p hp => by
          rw [hz9 p, ev]
          exact z_bk_2 s (hz p hp)
        have hs9 : z_scC c9 (fun p => z_bk P S (Int32.ofNat k) (fun _ => 0) s p) (fun _ => -1) (fun _ => 0) := fun p hp => ⟨hbn p hp, (hf9' 34 0 p rfl).trans (hs p hp).2.1, (hf9' 35 0 p rfl).trans (hs p hp).2.2⟩
        have hz9' : ∀ c', fp zR3 c9 c' → ∀ p, p < 24 → c' 33 0 p = 0 ∨ ∃ j, j < s ∧ P j = p := fun c' hc p hp => by
          rw [hc 33 0 p rfl, hbn p hp]
          by_cases h : ∃ j, j < s ∧ P j = p
          · exact Or.inr h
          · exact Or.inl (z_bk_0 s (fun j hj e => h ⟨j, hj, e⟩))
        have t0 : ∀ c', fp zR3 c9 c' → (c' 4 0 4 = Int32.ofNat t ∧ z_thC c' t N K A B H Y ∧ z_scC c' (fun p => z_bk P S (Int32.ofNat k) (fun _ => 0) s p) (fun _ => -1) (fun _ => 0) ∧ (∀ p, p < N → c' 36 0 p = L p)) := fun c' hc => by
          have hcc : fp zRB m c' := fp_tr hf9' (fp_sb (by decide) hc)
          exact ⟨(hcc 4 0 4 rfl).trans h4, z_thC_fr (fun g i k hg => hcc g i k (z_dis_of (by decide) hg)) hT, z_scC_fr (fun g i k hg => hc g i k (z_dis_of (by decide) hg)) hs9, fun p hp => (hcc 36 0 p rfl).trans (hL p hp)⟩
        obtain ⟨a1, a2, a3, a4⟩ := t0 c9 fp_rf
        refine v_s2 (c_agr0 a1 ht h24 a2 a3 hb a4 hD (by rw [hf9' 6 (1 + 0) 3 rfl]; exact ht0)) ?_
        rintro r10 m11 ⟨hf11, h10⟩
        dsimp only at hf11 h10
        have hst9 : ∀ c', fp zR3 c9 c' → c' 7 0 7 = (z_fo ok k).1 ∧ c' 7 0 8 = (z_fo ok k).2.1 ∧ c' 7 0 9 = (z_fo ok k).2.2.1 ∧ c' 7 0 10 = (z_fo ok k).2.2.2 := fun c' hc => by
          obtain ⟨s1, s2, s3, s4⟩ := hst
          exact ⟨(hc 7 0 7 rfl).trans ((hf9 7 0 7 rfl).trans s1), (hc 7 0 8 rfl).trans ((hf9 7 0 8 rfl).trans s2), (hc 7 0 9 rfl).trans ((hf9 7 0 9 rfl).trans s3), (hc 7 0 10 rfl).trans ((hf9 7 0 10 rfl).trans s4)⟩
        have no : ∀ c', fp zR3 c9 c' → ¬ ok k → (v + 1).toInt = ((k + 1 : Nat) : Int) ∧ fp zRB m c' ∧ (c' 7 0 7 = (z_fo ok (k + 1)).1 ∧ c' 7 0 8 = (z_fo ok (k + 1)).2.1 ∧ c' 7 0 9 = (z_fo ok (k + 1)).2.2.1 ∧ c' 7 0 10 = (z_fo ok (k + 1)).2.2.2) ∧ ∀ p, p < 24 → c' 33 0 p = 0 ∨ ∃ j, j < s ∧ P j = p := fun c' hc hn => by
          rw [z_fo_n hn]
          exact ⟨n_s3 hv (by omega), fp_tr hf9' (fp_sb (by decide) hc), hst9 c' hc, hz9' c' hc⟩
        have ok0 : z_ok c9 0 (z_rwk N K A L P S s D 0 k) ↔ z_ok m 0 (z_rwk N K A L P S s D 0 k) := z_ok_fr (by decide) hf9' (by decide)
        rcases h10 with ⟨rfl, h10⟩ | ⟨rfl, h10⟩
        · refine v_ifn (by decide) ?_
          obtain ⟨b1, b2, b3, b4⟩ := t0 m11 hf11
          refine v_s2 (c_agr1 b1 ht h24 b2 b3 hb b4 hD (by rw [hf11 6 (1 + 1) 3 rfl, hf9' 6 (1 + 1) 3 rfl]; exact ht1)) ?_
          rintro r13 m14 ⟨hf14, h13⟩
          dsimp only at hf14 h13
          have hf14' : fp zR3 c9 m14 := fp_tr hf11 hf14
          have ok1 : z_ok m11 1 (z_rwk N K A L P S s D 1 k) ↔ z_ok m 1 (z_rwk N K A L P S s D 1 k) := z_ok_fr (by decide) (fp_tr hf9' (fp_sb (L2 := zRB) (by decide) hf11)) (by decide)
          rcases h13 with ⟨rfl, h13⟩ | ⟨rfl, h13⟩
          · refine v_ifn (by decide) ?_
            have hy : ok k := by
              rw [← hok]
              exact ⟨ok0.mp h10, ok1.mp h13⟩
            obtain ⟨s1, s2, s3, s4⟩ := hst9 m14 hf14'
            refine v_s1 (P := fun c' => fp [(7, none, some 7), (7, none, some 8), (7, none, some 9), (7, none, some 10)] m14 c' ∧ c' 7 0 7 = (z_fo ok (k + 1)).1 ∧ c' 7 0 8 = (z_fo ok (k + 1)).2.1 ∧ c' 7 0 9 = (z_fo ok (k + 1)).2.2.1 ∧ c' 7 0 10 = (z_fo ok (k + 1)).2.2.2) ?_ ?_
            · rw [z_fo_y hy, ← ev]
              dsimp only
              unfold f_X1_keep
              refine v_lF ?_
              by_cases h0 : (z_fo ok k).1 = 0
              · refine v_ifn (by rw [s1]; exact fun z => z h0) ?_
                refine v_lM (v_lM (v_lM (v_lM (v_lM (v_so ?_)))))
                rw [if_pos h0, if_pos h0]
                refine ⟨fp_w rfl (fp_w rfl (fp_w rfl (fp_w rfl (fp_w rfl fp_rf)))), ?_, ?_, ?_, ?_⟩
                · simp (disch := first | omega | decide | fail) only [mw_s, mw_k, mw_i, mw_g, s1]
                · simp (disch := first | omega | decide | fail) only [mw_s, mw_k, mw_i, mw_g]
                · simp (disch := first | omega | decide | fail) only [mw_s, mw_k, mw_i, mw_g, Int32.and_self]
                · simp (disch := first | omega | decide | fail) only [mw_s, mw_k, mw_i, mw_g, s4]
              · refine v_ifp (by rw [s1]; exact h0) ?_
                refine v_lM (v_lM (v_lM (v_so ?_)))
                rw [if_neg h0, if_neg h0]
                refine ⟨fp_w rfl (fp_w rfl (fp_w rfl fp_rf)), ?_, ?_, ?_, ?_⟩
                · simp (disch := first | omega | decide | fail) only [mw_s, mw_k, mw_i, mw_g, s1]
                · simp (disch := first | omega | decide | fail) only [mw_s, mw_k, mw_i, mw_g, s2]
                · simp (disch := first | omega | decide | fail) only [mw_s, mw_k, mw_i, mw_g, s3]
                · simp (disch := first | omega | decide | fail) only [mw_s, mw_k, mw_i, mw_g, s4]
            · rintro m17 ⟨hf17, hk17⟩
              refine v_l1 (v_il ⟨n_s3 hv (by omega), fp_tr hf9' (fp_tr (fp_sb (by decide) hf14') (fp_sb (by decide) hf17)), hk17, fun p hp => ?_⟩)
              dsimp only
              rw [hf17 33 0 p rfl]
              exact hz9' m14 hf14' p hp
          · refine v_ifp rfl (v_l1 (v_il (no m14 hf14' (fun z => ?_))))
            rw [← hok] at z
            exact h13 (ok1.mpr z.2)
        · refine v_ifp rfl (v_l1 (v_il (no m11 hf11 (fun z => ?_))))
          rw [← hok] at z
          exact h10 (ok0.mpr z.1)
    · rintro ⟨v, c⟩ ⟨hv, hf, hst, hz⟩
      dsimp only at hv hf hst hz ⊢
      have c3 : c 7 0 3 = Int32.ofNat s := (hf 7 0 3 rfl).trans h3
      exact v_ifp (by rw [c3, iA_le, z_shl ⟨s, by omega⟩]; dsimp only; omega) (v_ir ⟨hf, hst⟩)
  · rintro c ⟨hf, s1, s2, s3, s4⟩
    exact v_so ⟨s1, hf, s1, s2, s3, s4⟩
