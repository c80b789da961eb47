/-! a thread's parts, read by the class -/
abbrev zP : Type := Nat × Nat × Nat × Nat
abbrev zEr : Type := Nat × Nat
def z_cp (L : List zP) (q : Nat) : Nat := (L.filter fun x => decide (x.1 = q)).length
theorem z_tkP {L : List zP} {k : Nat} (h : k < L.length) : ∃ x, L[k]? = some x ∧ L.take (k + 1) = L.take k ++ [x] := ⟨L[k], List.getElem?_eq_getElem h, by rw [List.take_succ, List.getElem?_eq_getElem h]; rfl⟩
theorem z_cp_s {L : List zP} {x : zP} {q : Nat} : z_cp (L ++ [x]) q = z_cp L q + (if x.1 = q then 1 else 0) := by
  unfold z_cp
  rw [List.filter_append, List.length_append]
  by_cases h : x.1 = q
  · have e : [x].filter (fun y : zP => decide (y.1 = q)) = [x] := List.filter_cons_of_pos (p := fun y : zP => decide (y.1 = q)) (decide_eq_true h)
    rw [if_pos h, e]
    rfl
  · have e : [x].filter (fun y : zP => decide (y.1 = q)) = [] := List.filter_cons_of_neg (p := fun y : zP => decide (y.1 = q)) (fun z => h (of_decide_eq_true z))
    rw [if_neg h, e]
    rfl
theorem z_cp_b {L : List zP} {q : Nat} : z_cp L q ≤ L.length := List.length_filter_le _ _
def z_rnu (B : Nat → Nat) (n lo hi p : Nat) : zEr ⊕ (Nat × Nat) := if z_kd B n p = 2 ∧ lo ≤ z_nm B n p ∧ z_nm B n p ≤ hi then .inr (z_nm B n p, z_te B n p) else .inl (if z_kd B n p = 2 then 2 else 1, z_ts B n p)
theorem z_rnu_y {B : Nat → Nat} {n lo hi p : Nat} (h : z_ok2 B n lo hi p) : z_rnu B n lo hi p = .inr (z_nm B n p, z_te B n p) := if_pos h
theorem z_rnu_n {B : Nat → Nat} {n lo hi p : Nat} (h : ¬ z_ok2 B n lo hi p) : z_rnu B n lo hi p = .inl (if z_kd B n p = 2 then 2 else 1, z_ts B n p) := if_neg h
def z_a1 (o : zEr ⊕ (Nat × Nat)) : zEr ⊕ ((Nat × Nat) × Nat) := match o with
  | .inl e => .inl e
  | .inr x => .inr ((x.1, 0), x.2)
def z_a2 (a : Nat) (o : zEr ⊕ (Nat × Nat)) : zEr ⊕ ((Nat × Nat) × Nat) := match o with
  | .inl e => .inl e
  | .inr x => .inr ((a, x.1), x.2)
def z_ab2 (B : Nat → Nat) (n : Nat) (o : zEr ⊕ (Nat × Nat)) : zEr ⊕ ((Nat × Nat) × Nat) := match o with
  | .inl e => .inl e
  | .inr x => z_a2 x.1 (z_rnu B n 0 30000 x.2)
def z_ab (B : Nat → Nat) (n q p : Nat) : zEr ⊕ ((Nat × Nat) × Nat) := if q = 0 then z_a1 (z_rnu B n 1 9999 p) else if q = 1 then .inr ((0, 0), p) else if q = 2 then z_a1 (z_rnu B n 0 99 p) else z_ab2 B n (z_rnu B n 0 40000 p)
def z_fin (B : Nat → Nat) (n k h : Nat) (o : zEr ⊕ ((Nat × Nat) × Nat)) : zEr ⊕ (zP × Nat) := match o with
  | .inl e => .inl e
  | .inr x => if z_kd B n x.2 = 59 then .inr ((k, x.1.1, x.1.2, h), z_te B n x.2) else .inl (1, z_ts B n x.2)
def z_part (B : Nat → Nat) (n : Nat) (L : List zP) (p : Nat) : zEr ⊕ (zP × Nat) := if z_kd B n p < 256 ∨ 259 < z_kd B n p then .inl (1, z_ts B n p) else if 24 ≤ L.length then .inl (2, z_ts B n p) else if z_kd B n p = 259 ∧ 6 ≤ z_cp L 3 then .inl (2, z_ts B n p) else z_fin B n (z_kd B n p - 256) (z_cp L (z_kd B n p - 256) + 1) (z_ab B n (z_kd B n p - 256) (z_te B n p))
def z_pars (B : Nat → Nat) (n : Nat) : Nat → List zP → Nat → zEr ⊕ List zP
  | 0, L, _ => .inr L
  | f + 1, L, p => match z_part B n L p with
    | .inl e => .inl e
    | .inr x => if z_kd B n x.2 = 0 then .inr (L ++ [x.1]) else z_pars B n f (L ++ [x.1]) x.2
/-- what is left to do behind some parts -/
def z_parR (B : Nat → Nat) (n : Nat) (L : List zP) (p : Nat) : zEr ⊕ List zP := if z_kd B n p = 0 then .inr L else z_pars B n (25 - L.length) L p
theorem z_pars_e {B : Nat → Nat} {n f : Nat} {L : List zP} {p : Nat} {e : zEr} (h : z_part B n L p = .inl e) : z_pars B n (f + 1) L p = .inl e := by
  show (match z_part B n L p with
    | .inl e => (Sum.inl e : zEr ⊕ List zP)
    | .inr x => if z_kd B n x.2 = 0 then Sum.inr (L ++ [x.1]) else z_pars B n f (L ++ [x.1]) x.2) = _
  rw [h]
theorem z_pars_s {B : Nat → Nat} {n : Nat} {L : List zP} {p : Nat} {x : zP × Nat} (h : z_part B n L p = .inr x) (hl : L.length < 25) : z_pars B n (25 - L.length) L p = z_parR B n (L ++ [x.1]) x.2 := by
  obtain ⟨f, hf⟩ : ∃ f, 25 - L.length = f + 1 := ⟨24 - L.length, by omega⟩
  rw [hf]
  show (match z_part B n L p with
    | .inl e => (Sum.inl e : zEr ⊕ List zP)
    | .inr x => if z_kd B n x.2 = 0 then Sum.inr (L ++ [x.1]) else z_pars B n f (L ++ [x.1]) x.2) = _
  rw [h]
  unfold z_parR
  rw [List.length_append, show 25 - (L.length + [x.1].length) = f by show 25 - (L.length + 1) = f; omega]
/-- good parts -/
def z_gdP (x : zP) : Prop := x.1 < 4 ∧ x.2.1 ≤ 40000 ∧ x.2.2.1 ≤ 30000 ∧ (x.1 = 1 → x.2.1 = 0)
theorem z_rnu_b {B : Nat → Nat} {n lo hi p : Nat} {x : Nat × Nat} (h : z_rnu B n lo hi p = .inr x) : x.1 ≤ hi ∧ x.2 = z_te B n p := by
  by_cases hz : z_ok2 B n lo hi p
  · rw [z_rnu_y hz] at h
    have := Sum.inr.inj h
    rw [← this]
    exact ⟨hz.2.2, rfl⟩
  · rw [z_rnu_n hz] at h
    cases h
theorem z_ab_b {B : Nat → Nat} {n q p : Nat} {x : (Nat × Nat) × Nat} (hp : p ≤ n) (h : z_ab B n q p = .inr x) : x.1.1 ≤ 40000 ∧ x.1.2 ≤ 30000 ∧ (q = 1 → x.1.1 = 0) ∧ x.2 ≤ n := by
  have hte := z_te_b (B := B) hp
  unfold z_ab at h
  by_cases h0 : q = 0
  · rw [if_pos h0] at h
    cases hr : z_rnu B n 1 9999 p with
    | inl e =>
      rw [hr] at h
      cases h
    | inr y =>
      rw [hr] at h
      have := z_rnu_b hr
      have h2 := Sum.inr.inj h
      rw [← h2]
      exact ⟨by show y.1 ≤ 40000; omega, Nat.zero_le _, fun z => by omega, by show y.2 ≤ n; omega⟩
  rw [if_neg h0] at h
  by_cases h1 : q = 1
  · rw [if_pos h1] at h
    have h2 := Sum.inr.inj h
    rw [← h2]
    exact ⟨Nat.zero_le _, Nat.zero_le _, fun _ => rfl, hp⟩
  rw [if_neg h1] at h
  by_cases h2 : q = 2
  · rw [if_pos h2] at h
    cases hr : z_rnu B n 0 99 p with
    | inl e =>
      rw [hr] at h
      cases h
    | inr y =>
      rw [hr] at h
      have := z_rnu_b hr
      have h2 := Sum.inr.inj h
      rw [← h2]
      exact ⟨by show y.1 ≤ 40000; omega, Nat.zero_le _, fun z => by omega, by show y.2 ≤ n; omega⟩
  rw [if_neg h2] at h
  cases hr : z_rnu B n 0 40000 p with
  | inl e =>
    rw [hr] at h
    cases h
  | inr y =>
    rw [hr] at h
    have b1 := z_rnu_b hr
    have h3 : z_a2 y.1 (z_rnu B n 0 30000 y.2) = .inr x := h
    cases hr2 : z_rnu B n 0 30000 y.2 with
    | inl e =>
      rw [hr2] at h3
      cases h3
    | inr w =>
      rw [hr2] at h3
      have b2 := z_rnu_b hr2
      have h4 := Sum.inr.inj h3
      have hte2 := z_te_b (B := B) (n := n) (p := y.2) (by omega)
      rw [← h4]
      exact ⟨by show y.1 ≤ 40000; omega, by show w.1 ≤ 30000; omega, fun z => absurd z h1, by show w.2 ≤ n; omega⟩
theorem z_part_b {B : Nat → Nat} {n p : Nat} {L : List zP} {x : zP × Nat} (hp : p ≤ n) (h : z_part B n L p = .inr x) : z_gdP x.1 ∧ x.2 ≤ n ∧ L.length < 24 := by
  have hte := z_te_b (B := B) hp
  unfold z_part at h
  by_cases h1 : z_kd B n p < 256 ∨ 259 < z_kd B n p
  · rw [if_pos h1] at h
    cases h
  rw [if_neg h1] at h
  by_cases h2 : 24 ≤ L.length
  · rw [if_pos h2] at h
    cases h
  rw [if_neg h2] at h
  by_cases h3 : z_kd B n p = 259 ∧ 6 ≤ z_cp L 3
  · rw [if_pos h3] at h
    cases h
  rw [if_neg h3] at h
  cases hr : z_ab B n (z_kd B n p - 256) (z_te B n p) with
  | inl e =>
    rw [hr] at h
    cases h
  | inr y =>
    rw [hr] at h
    obtain ⟨b1, b2, b3, b4⟩ := z_ab_b hte hr
    have h4 : (if z_kd B n y.2 = 59 then Sum.inr ((z_kd B n p - 256, y.1.1, y.1.2, z_cp L (z_kd B n p - 256) + 1), z_te B n y.2) else Sum.inl (1, z_ts B n y.2)) = (Sum.inr x : zEr ⊕ (zP × Nat)) := h
    by_cases h5 : z_kd B n y.2 = 59
    · rw [if_pos h5] at h4
      have h6 := Sum.inr.inj h4
      rw [← h6]
      exact ⟨⟨by show z_kd B n p - 256 < 4; omega, b1, b2, b3⟩, z_te_b b4, by omega⟩
    · rw [if_neg h5] at h4
      cases h4
theorem z_pars_b {B : Nat → Nat} {n : Nat} : ∀ (f : Nat) (L : List zP) (p : Nat) (R : List zP), p ≤ n → (∀ x, x ∈ L → z_gdP x) → L.length ≤ 24 → (0 < f ∨ 1 ≤ L.length) → z_pars B n f L p = .inr R → (∀ x, x ∈ R → z_gdP x) ∧ 1 ≤ R.length ∧ R.length ≤ 24
  | 0, L, p, R, hp, hg, hl, hf, h => by
    have := Sum.inr.inj h
    rw [← this]
    exact ⟨hg, by omega, hl⟩
  | f + 1, L, p, R, hp, hg, hl, hf, h => by
    cases hr : z_part B n L p with
    | inl e =>
      rw [z_pars_e hr] at h
      cases h
    | inr x =>
      have e : z_pars B n (f + 1) L p = if z_kd B n x.2 = 0 then .inr (L ++ [x.1]) else z_pars B n f (L ++ [x.1]) x.2 := by
        show (match z_part B n L p with
          | .inl e => (Sum.inl e : zEr ⊕ List zP)
          | .inr x => if z_kd B n x.2 = 0 then Sum.inr (L ++ [x.1]) else z_pars B n f (L ++ [x.1]) x.2) = _
        rw [hr]
      rw [e] at h
      obtain ⟨b1, b2, b3⟩ := z_part_b hp hr
      have hl2 : (L ++ [x.1]).length = L.length + 1 := by rw [List.length_append]; rfl
      have hg2 : ∀ y, y ∈ L ++ [x.1] → z_gdP y := fun y hy => by
        rcases List.mem_append.mp hy with hy | hy
        · exact hg y hy
        · rw [List.mem_singleton.mp hy]
          exact b1
      by_cases h0 : z_kd B n x.2 = 0
      · rw [if_pos h0] at h
        have := Sum.inr.inj h
        rw [← this]
        exact ⟨hg2, by omega, by omega⟩
      · rw [if_neg h0] at h
        exact z_pars_b f (L ++ [x.1]) x.2 R b2 hg2 (by omega) (Or.inr (by omega)) h
/-- the class: what may change -/
def c_pf (i : Nat) (c r : mm_M) : Prop := ∀ g j k, ¬ ((g = 1 ∧ 6 ≤ k ∧ k ≤ 10) ∨ (j = i ∧ ((g = 5 ∧ k = 4) ∨ (37 ≤ g ∧ g ≤ 40)))) → r g j k = c g j k
theorem c_pfr {i : Nat} {c : mm_M} : c_pf i c c := fun _ _ _ _ => rfl
theorem c_pft {i : Nat} {c d e : mm_M} (h1 : c_pf i c d) (h2 : c_pf i d e) : c_pf i c e := fun g j k h => (h2 g j k h).trans (h1 g j k h)
theorem c_pfw {i g k : Nat} {c d : mm_M} {x : Int32} (h : (g = 5 ∧ k = 4) ∨ (37 ≤ g ∧ g ≤ 40)) (h1 : c_pf i c d) : c_pf i c (mm_w d g i k x) := fun g' j' k' h' => by
  rw [mw_get, if_neg (fun z => h' (Or.inr ⟨z.2.1, by rw [z.1, z.2.2]; exact h⟩))]
  exact h1 g' j' k' h'
theorem z_inE {L : zT} {g i k : Nat} (h : ∀ e, e ∈ L → ¬ (e.1 = g ∧ z_o e.2.1 i = true ∧ z_o e.2.2 k = true)) : z_in L g i k = false := by
  cases hz : z_in L g i k with
  | false => rfl
  | true =>
    obtain ⟨e, he, h1⟩ := z_in_ex hz
    exact absurd h1 (h e he)
theorem c_pfA {i : Nat} {c d : mm_M} (h : fp zAd c d) : c_pf i c d := fun g j k h' => h g j k (z_inE (fun e he z => by
  have hz := z.2.2
  rcases List.mem_cons.mp he with rfl | he
  · exact h' (Or.inl ⟨z.1.symm, by have := Nat.eq_of_beq_eq_true hz; omega⟩)
  rcases List.mem_cons.mp he with rfl | he
  · exact h' (Or.inl ⟨z.1.symm, by have := Nat.eq_of_beq_eq_true hz; omega⟩)
  rcases List.mem_cons.mp he with rfl | he
  · exact h' (Or.inl ⟨z.1.symm, by have := Nat.eq_of_beq_eq_true hz; omega⟩)
  cases he))
theorem c_pfE {i : Nat} {c d : mm_M} (h : fp zEc c d) : c_pf i c d := fun g j k h' => h g j k (z_inE (fun e he z => by
  have hz := z.2.2
  rcases List.mem_cons.mp he with rfl | he
  · exact h' (Or.inl ⟨z.1.symm, by have := Nat.eq_of_beq_eq_true hz; omega⟩)
  rcases List.mem_cons.mp he with rfl | he
  · exact h' (Or.inl ⟨z.1.symm, by have := Nat.eq_of_beq_eq_true hz; omega⟩)
  cases he))
def c_ps (c : mm_M) (i : Nat) (L : List zP) : Prop := c 5 i 4 = Int32.ofNat L.length ∧ ∀ j x, L[j]? = some x → c 37 i j = Int32.ofNat x.1 ∧ c 38 i j = Int32.ofNat x.2.1 ∧ c 39 i j = Int32.ofNat x.2.2.1 ∧ c 40 i j = Int32.ofNat x.2.2.2
theorem c_ps_fr {c r : mm_M} {i : Nat} {L : List zP} (h5 : r 5 i 4 = c 5 i 4) (h : ∀ g j, 37 ≤ g → g ≤ 40 → j < L.length → r g i j = c g i j) (hp : c_ps c i L) : c_ps r i L := ⟨h5.trans hp.1, fun j x hx => by
  have hj := (List.getElem?_eq_some_iff.mp hx).1
  obtain ⟨a1, a2, a3, a4⟩ := hp.2 j x hx
  exact ⟨(h 37 j (by omega) (by omega) hj).trans a1, (h 38 j (by omega) (by omega) hj).trans a2, (h 39 j (by omega) (by omega) hj).trans a3, (h 40 j (by omega) (by omega) hj).trans a4⟩⟩
theorem c_cnt {c : mm_M} {i q : Nat} {L : List zP} {a : Int32} (hp : c_ps c i L) (hl : L.length ≤ 24) (hg : ∀ x, x ∈ L → x.1 < 4) (ha : a = Int32.ofNat q) (hq : q < 4) : f_X8_countOf i a c = some (Int32.ofNat (z_cp L q)) := by
  apply v_is
  unfold f_X8_countOf
  refine v_s1 (P := fun r => r = Int32.ofNat (z_cp L q)) ?_ (fun r h => v_so h)
  refine v_for (fun j s => s.2.toInt = (j : Int) ∧ s.1 = Int32.ofNat (z_cp (L.take j) q)) 0 L.length (Nat.zero_le _) (by omega) ⟨i_0, rfl⟩ ?_ ?_
  · rintro j ⟨x, v⟩ hj ⟨hv, hx⟩
    dsimp only at hv hx ⊢
    obtain ⟨y, hy, htk⟩ := z_tkP hj
    have hym : y ∈ L := List.mem_of_getElem? hy
    have hy4 := hg y hym
    have kv := n_k hv
    have r37 : c 37 i v.toNatClampNeg = Int32.ofNat y.1 := by rw [kv]; exact (hp.2 j y hy).1
    refine v_ifn (by rw [iA_le, hp.1, hv, nJ_T (by omega)]; omega) ?_
    refine v_ifp (v_in.mpr (by omega)) ?_
    by_cases he : y.1 = q
    · refine v_ifn (fun z => z (by rw [r37, ha, he])) ?_
      refine v_l1 ?_
      refine v_l1 ?_
      refine v_il ⟨n_s3 hv (by omega), ?_⟩
      dsimp only
      rw [htk, z_cp_s, if_pos he, hx, n_a1]
    · refine v_ifp (by rw [r37, ha]; exact fun z => he ((n_eq (by omega) (by omega)).mp z)) ?_
      refine v_l1 ?_
      refine v_il ⟨n_s3 hv (by omega), ?_⟩
      dsimp only
      rw [htk, z_cp_s, if_neg he, hx, Nat.add_zero]
  · rintro ⟨x, v⟩ ⟨hv, hx⟩
    dsimp only at hv hx ⊢
    rw [List.take_length] at hx
    refine v_ifp (by rw [iA_le, hp.1, hv, nJ_T (by omega)]; omega) ?_
    exact v_ir hx
/-- a number read into a part -/
theorem c_in38 {c : mm_M} {B : Nat → Nat} {n p lo hi i N : Nat} {a b : Int32} (h : c_at c B n p) (hp : p ≤ n) (ha : a = Int32.ofNat lo) (hb : b = Int32.ofNat hi) (hhi : hi ≤ 99999) (hlo : lo ≤ hi) (h5 : c 5 i 4 = Int32.ofNat N) (hN : N < 24) : vW (f_X8_readInto_g38 i i a b c) (fun q => (z_ok2 B n lo hi p ∧ q.1 = 1 ∧ c_pf i c q.2 ∧ (∀ g j, ¬ (g = 38 ∧ j = N) → ¬ g = 1 → q.2 g i j = c g i j) ∧ q.2 38 i N = Int32.ofNat (z_nm B n p) ∧ c_at q.2 B n (z_te B n p)) ∨ (¬ z_ok2 B n lo hi p ∧ q.1 = 0 ∧ c_pf i c q.2 ∧ q.2 1 0 9 = Int32.ofNat (if z_kd B n p = 2 then 2 else 1) ∧ q.2 1 0 10 = Int32.ofNat (z_ts B n p))) := by
  have h8 : c 1 0 8 = Int32.ofNat (z_nm B n p) := by
    obtain ⟨_, _, _, _, _, _, _, h8, _⟩ := h
    exact h8
  unfold f_X8_readInto_g38
  refine v_s1 (c_isN h ha hb hhi hlo) (fun r hr => ?_)
  rcases hr with ⟨hr, hz⟩ | ⟨hr, hz⟩
  · refine v_ifp (by rw [hr]; decide) ?_
    refine v_ifp (by rw [h5]; exact nJ_in hN (by omega)) ?_
    refine v_lM ?_
    rw [show (c 5 i 4).toNatClampNeg = N by rw [h5, nJ_N (by omega)], h8]
    have f1 : fp [(38, none, none)] c (mm_w c 38 i N (Int32.ofNat (z_nm B n p))) := fp_w rfl fp_rf
    refine v_s1 (c_adv hp (c_at_fr f1 (by decide) h)) (fun d hd => ?_)
    refine v_so (Or.inl ⟨hz, rfl, c_pft (c_pfw (Or.inr (by omega)) c_pfr) (c_pfA hd.1), fun g j hg h1 => ?_, ?_, hd.2⟩)
    · dsimp only
      rw [hd.1 g i j (z_inE (fun e he z => by
        rcases List.mem_cons.mp he with rfl | he
        · exact h1 z.1.symm
        rcases List.mem_cons.mp he with rfl | he
        · exact h1 z.1.symm
        rcases List.mem_cons.mp he with rfl | he
        · exact h1 z.1.symm
        cases he)), mw_get, if_neg (fun z => hg ⟨z.1, z.2.2⟩)]
    · dsimp only
      rw [hd.1 38 i N rfl]
      exact mw_s
  · refine v_ifn (by rw [hr]; decide) ?_
    refine v_s2 (c_rfN h) ?_
    rintro r2 d ⟨h1, h2, h3, h4⟩
    dsimp only at h1 h2 h3 h4
    exact v_ifp (Or.inl h1) (v_so (Or.inr ⟨hz, h1, c_pfE h2, h3, h4⟩))
theorem c_in39 {c : mm_M} {B : Nat → Nat} {n p lo hi i N : Nat} {a b : Int32} (h : c_at c B n p) (hp : p ≤ n) (ha : a = Int32.ofNat lo) (hb : b = Int32.ofNat hi) (hhi : hi ≤ 99999) (hlo : lo ≤ hi) (h5 : c 5 i 4 = Int32.ofNat N) (hN : N < 24) : vW (f_X8_readInto_g39 i i a b c) (fun q => (z_ok2 B n lo hi p ∧ q.1 = 1 ∧ c_pf i c q.2 ∧ (∀ g j, ¬ (g = 39 ∧ j = N) → ¬ g = 1 → q.2 g i j = c g i j) ∧ q.2 39 i N = Int32.ofNat (z_nm B n p) ∧ c_at q.2 B n (z_te B n p)) ∨ (¬ z_ok2 B n lo hi p ∧ q.1 = 0 ∧ c_pf i c q.2 ∧ q.2 1 0 9 = Int32.ofNat (if z_kd B n p = 2 then 2 else 1) ∧ q.2 1 0 10 = Int32.ofNat (z_ts B n p))) := by
  have h8 : c 1 0 8 = Int32.ofNat (z_nm B n p) := by
    obtain ⟨_, _, _, _, _, _, _, h8, _⟩ := h
    exact h8
  unfold f_X8_readInto_g39
  refine v_s1 (c_isN h ha hb hhi hlo) (fun r hr => ?_)
  rcases hr with ⟨hr, hz⟩ | ⟨hr, hz⟩
  · refine v_ifp (by rw [hr]; decide) ?_
    refine v_ifp (by rw [h5]; exact nJ_in hN (by omega)) ?_
    refine v_lM ?_
    rw [show (c 5 i 4).toNatClampNeg = N by rw [h5, nJ_N (by omega)], h8]
    have f1 : fp [(39, none, none)] c (mm_w c 39 i N (Int32.ofNat (z_nm B n p))) := fp_w rfl fp_rf
    refine v_s1 (c_adv hp (c_at_fr f1 (by decide) h)) (fun d hd => ?_)
    refine v_so (Or.inl ⟨hz, rfl, c_pft (c_pfw (Or.inr (by omega)) c_pfr) (c_pfA hd.1), fun g j hg h1 => ?_, ?_, hd.2⟩)
    · dsimp only
      rw [hd.1 g i j (z_inE (fun e he z => by
        rcases List.mem_cons.mp he with rfl | he
        · exact h1 z.1.symm
        rcases List.mem_cons.mp he with rfl | he
        · exact h1 z.1.symm
        rcases List.mem_cons.mp he with rfl | he
        · exact h1 z.1.symm
        cases he)), mw_get, if_neg (fun z => hg ⟨z.1, z.2.2⟩)]
    · dsimp only
      rw [hd.1 39 i N rfl]
      exact mw_s
  · refine v_ifn (by rw [hr]; decide) ?_
    refine v_s2 (c_rfN h) ?_
    rintro r2 d ⟨h1, h2, h3, h4⟩
    dsimp only at h1 h2 h3 h4
    exact v_ifp (Or.inl h1) (v_so (Or.inr ⟨hz, h1, c_pfE h2, h3, h4⟩))
theorem c_nums {c : mm_M} {B : Nat → Nat} {n p i N q : Nat} {a : Int32} (h : c_at c B n p) (hp : p ≤ n) (ha : a = Int32.ofNat q) (hq : q < 4) (h5 : c 5 i 4 = Int32.ofNat N) (hN : N < 24) (h38 : c 38 i N = 0) (h39 : c 39 i N = 0) : vW (f_X8_readNumbers i a c) (fun t => (∃ x, z_ab B n q p = .inr x ∧ t.1 = 1 ∧ c_pf i c t.2 ∧ (∀ g j, ¬ ((g = 38 ∨ g = 39) ∧ j = N) → ¬ g = 1 → t.2 g i j = c g i j) ∧ t.2 38 i N = Int32.ofNat x.1.1 ∧ t.2 39 i N = Int32.ofNat x.1.2 ∧ c_at t.2 B n x.2) ∨ (∃ e, z_ab B n q p = .inl e ∧ t.1 = 0 ∧ c_pf i c t.2 ∧ t.2 1 0 9 = Int32.ofNat e.1 ∧ t.2 1 0 10 = Int32.ofNat e.2)) := by
  unfold f_X8_readNumbers
  rcases (by omega : q = 0 ∨ q = 1 ∨ q = 2 ∨ q = 3) with rfl | rfl | rfl | rfl
  · refine v_ifp ha ?_
    have eab : z_ab B n 0 p = z_a1 (z_rnu B n 1 9999 p) := rfl
    refine v_s2 (c_in38 (lo := 1) (hi := 9999) h hp rfl rfl (by omega) (by omega) h5 hN) ?_
    rintro r d hr
    dsimp only at hr
    rcases hr with ⟨hz, h1, h2, h3, h4, h6⟩ | ⟨hz, h1, h2, h3, h4⟩
    · refine v_ifp (Or.inr h1) (v_so (Or.inl ⟨((z_nm B n p, 0), z_te B n p), ?_, h1, h2, fun g j hg => h3 g j (fun z => hg ⟨Or.inl z.1, z.2⟩), h4, (h3 39 N (fun z => by omega) (by omega)).trans h39, h6⟩))
      rw [eab, z_rnu_y hz]
      rfl
    · refine v_ifp (Or.inl h1) (v_so (Or.inr ⟨(if z_kd B n p = 2 then 2 else 1, z_ts B n p), ?_, h1, h2, h3, h4⟩))
      rw [eab, z_rnu_n hz]
      rfl
  · refine v_ifn (by rw [ha]; decide) ?_
    refine v_ifp ha ?_
    refine v_so (Or.inl ⟨((0, 0), p), rfl, rfl, c_pfr, fun _ _ _ _ => rfl, h38, h39, h⟩)
  · refine v_ifn (by rw [ha]; decide) ?_
    refine v_ifn (by rw [ha]; decide) ?_
    refine v_ifp ha ?_
    have eab : z_ab B n 2 p = z_a1 (z_rnu B n 0 99 p) := rfl
    refine v_s2 (c_in38 (lo := 0) (hi := 99) h hp rfl rfl (by omega) (by omega) h5 hN) ?_
    rintro r d hr
    dsimp only at hr
    rcases hr with ⟨hz, h1, h2, h3, h4, h6⟩ | ⟨hz, h1, h2, h3, h4⟩
    · refine v_ifp (Or.inr h1) (v_so (Or.inl ⟨((z_nm B n p, 0), z_te B n p), ?_, h1, h2, fun g j hg => h3 g j (fun z => hg ⟨Or.inl z.1, z.2⟩), h4, (h3 39 N (fun z => by omega) (by omega)).trans h39, h6⟩))
      rw [eab, z_rnu_y hz]
      rfl
    · refine v_ifp (Or.inl h1) (v_so (Or.inr ⟨(if z_kd B n p = 2 then 2 else 1, z_ts B n p), ?_, h1, h2, h3, h4⟩))
      rw [eab, z_rnu_n hz]
      rfl
  · refine v_ifn (by rw [ha]; decide) ?_
    refine v_ifn (by rw [ha]; decide) ?_
    refine v_ifn (by rw [ha]; decide) ?_
    refine v_ifp ha ?_
    have eab : z_ab B n 3 p = z_ab2 B n (z_rnu B n 0 40000 p) := rfl
    refine v_s2 (c_in38 (lo := 0) (hi := 40000) h hp rfl rfl (by omega) (by omega) h5 hN) ?_
    rintro r d hr
    dsimp only at hr
    rcases hr with ⟨hz, h1, h2, h3, h4, h6⟩ | ⟨hz, h1, h2, h3, h4⟩
    · refine v_ifn (by rw [h1]; decide) ?_
      refine v_s2 (c_in39 (lo := 0) (hi := 30000) h6 (z_te_b hp) rfl rfl (by omega) (by omega) ((h3 5 4 (fun z => by omega) (by omega)).trans h5) hN) ?_
      rintro r2 d2 hr2
      dsimp only at hr2
      rcases hr2 with ⟨gz, g1, g2, g3, g4, g6⟩ | ⟨gz, g1, g2, g3, g4⟩
      · refine v_ifn (by rw [g1]; decide) ?_
        refine v_so (Or.inl ⟨((z_nm B n p, z_nm B n (z_te B n p)), z_te B n (z_te B n p)), ?_, rfl, c_pft h2 g2, fun g j hg h1' => ?_, ?_, g4, g6⟩)
        · rw [eab, z_rnu_y hz]
          show z_a2 _ (z_rnu B n 0 30000 (z_te B n p)) = _
          rw [z_rnu_y gz]
          rfl
        · exact (g3 g j (fun z => hg ⟨Or.inr z.1, z.2⟩) h1').trans (h3 g j (fun z => hg ⟨Or.inl z.1, z.2⟩) h1')
        · exact (g3 38 N (fun z => by omega) (by omega)).trans h4
      · refine v_ifp g1 ?_
        refine v_so (Or.inr ⟨(if z_kd B n (z_te B n p) = 2 then 2 else 1, z_ts B n (z_te B n p)), ?_, rfl, c_pft h2 g2, g3, g4⟩)
        rw [eab, z_rnu_y hz]
        show z_a2 _ (z_rnu B n 0 30000 (z_te B n p)) = _
        rw [z_rnu_n gz]
        rfl
    · refine v_ifp h1 ?_
      refine v_so (Or.inr ⟨(if z_kd B n p = 2 then 2 else 1, z_ts B n p), ?_, rfl, h2, h3, h4⟩)
      rw [eab, z_rnu_n hz]
      rfl
