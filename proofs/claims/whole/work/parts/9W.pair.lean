/-! pairs of ways: the reference, and the op -/
theorem z_dj_e {x y : Int32} {p q : List Nat} (hx : ∀ k, z_bt x k = decide (k ∈ p)) (hy : ∀ k, z_bt y k = decide (k ∈ q)) : x &&& y = 0 ↔ z_dj p q = true := by
  rw [z_and0]
  constructor
  · intro h
    refine List.all_eq_true.mpr (fun i hi => ?_)
    have := h i
    rw [hx, hy, decide_eq_true hi] at this
    show (!decide (i ∈ p)) = true
    rw [decide_eq_false (fun z => this ⟨decide_eq_true z, rfl⟩)]
    rfl
  · intro h k hk
    rw [hx, hy] at hk
    have : (!decide (k ∈ p)) = true := List.all_eq_true.mp h k (of_decide_eq_true hk.2)
    rw [hk.1] at this
    cases this
theorem r_cpy {m : mm_M} {i b : Nat} {p : List Nat} {v : Int32} (hv : v.toInt = (i : Int)) (hi : i < 400) (h120 : m 120 0 i = Int32.ofNat p.length) (h7 : p.length ≤ 7) (h121 : ∀ k x, p[k]? = some x → m 121 0 (10 * i + k) = Int32.ofNat x) (h80 : m 12 0 80 = Int32.ofNat b) (hb : b ≤ 7) : vW (mm_loop (σ := Int32 × mm_M) (ρ := (mm_M)) (fun (s : Int32 × mm_M) => match s with
| (v43, m44) => (if mm_in v 400 then (
if (m44 120 0 v.toNatClampNeg) ≤ v43 then (some (.inr m44))
else (if mm_in ((10 * v) + v43) 4000 then (
if mm_in (m44 12 0 80) 20 then (
mm_let (mm_w m44 124 0 ((m44 12 0 80).toNatClampNeg) (m44 121 0 ((10 * v) + v43).toNatClampNeg)) fun m45 =>
mm_let (mm_w m45 12 0 80 ((m45 12 0 80) + 1)) fun m46 =>
mm_let (v43 + 1) fun v47 =>
some (.inl (v47, m46))) else none) else none)) else none : Option ((Int32 × mm_M) ⊕ ((mm_M))))) mm_fu (0, m)) (fun r => fp [(12, none, some 80), (124, none, none)] m r ∧ r 12 0 80 = Int32.ofNat (b + p.length) ∧ (∀ k x, p[k]? = some x → r 124 0 (b + k) = Int32.ofNat x) ∧ ∀ k, k < b → r 124 0 k = m 124 0 k) := by
  have iv : mm_in v 400 := v_in.mpr (by omega)
  have kv := n_k hv
  refine v_for (fun j s => s.1.toInt = (j : Int) ∧ fp [(12, none, some 80), (124, none, none)] m s.2 ∧ s.2 12 0 80 = Int32.ofNat (b + j) ∧ (∀ k x, k < j → p[k]? = some x → s.2 124 0 (b + k) = Int32.ofNat x) ∧ ∀ k, k < b → s.2 124 0 k = m 124 0 k) 0 p.length (Nat.zero_le _) (by omega) ⟨i_0, fp_rf, h80, fun k x hk => absurd hk (Nat.not_lt_zero k), fun k _ => rfl⟩ ?_ ?_
  · rintro j ⟨w, e⟩ hj ⟨hw, hf, e80, hx, hk⟩
    dsimp only at hw hf e80 hx hk ⊢
    obtain ⟨x, hxj, _⟩ := z_tk hj
    have hix : (10 * v + w).toInt = ((10 * i + j : Nat) : Int) := iA_addN (iA_mulN (show (10 : Int32).toInt = ((10 : Nat) : Int) by decide) hv (by omega)) hw (by omega)
    have g121 : e 121 0 (10 * i + j) = Int32.ofNat x := (hf 121 0 _ rfl).trans (h121 j x hxj)
    refine v_ifp iv ?_
    rw [kv]
    refine v_ifn (by rw [iA_le, hf 120 0 i rfl, h120, hw, nJ_T (by omega)]; omega) ?_
    refine v_ifp (v_in.mpr (by rw [hix]; omega)) ?_
    rw [e80, n_k hix, g121]
    refine v_ifp (nJ_in (by omega) (by omega)) ?_
    rw [nJ_N (show b + j < 2147483648 by omega)]
    refine v_lM ?_
    refine v_lM ?_
    refine v_l1 ?_
    refine v_il ⟨n_s3 hw (by omega), fp_w rfl (fp_w rfl hf), ?_, fun k y hk2 hy => ?_, fun k hkb => ?_⟩
    · dsimp only
      rw [mw_s, mw_g (by decide), e80, n_a1]
      rfl
    · dsimp only
      rw [mw_g (by decide)]
      by_cases hkj : k = j
      · rw [hkj] at hy ⊢
        rw [hxj] at hy
        cases hy
        exact mw_s
      · rw [mw_k (by omega)]
        exact hx k y (by omega) hy
    · dsimp only
      rw [mw_g (by decide), mw_k (by omega)]
      exact hk k hkb
  · rintro ⟨w, e⟩ ⟨hw, hf, e80, hx, hk⟩
    dsimp only at hw hf e80 hx hk ⊢
    refine v_ifp iv ?_
    rw [kv]
    refine v_ifp (by rw [iA_le, hf 120 0 i rfl, h120, hw, nJ_T (by omega)]; omega) ?_
    exact v_ir ⟨hf, e80, fun k x h => hx k x (List.getElem?_eq_some_iff.mp h).1 h, hk⟩
/-- which two ways are kept -/
def z_ki (L : List (List Nat)) (i : Nat) (k : Option (List Nat × List Nat)) (x y : Int32) : Prop := match k with
  | none => x = -1 ∧ y = -1
  | some pq => ∃ a b, a < i ∧ b < 400 ∧ x = Int32.ofNat a ∧ y = Int32.ofNat b ∧ L[a]? = some pq.1 ∧ L[b]? = some pq.2
/-- the same while the second of them is looked for -/
def z_kj (W : Nat → Nat) (L : List (List Nat)) (i j : Nat) (k : Option (List Nat × List Nat)) (p : List Nat) (o : Option (List Nat)) (x y : Int32) : Prop := ((∀ q, o = some q → ∃ pq, k = some pq ∧ ¬ z_bp W pq.1 pq.2 p q = true) ∧ z_ki L i k x y) ∨ ∃ b q, o = some q ∧ (∀ pq, k = some pq → z_bp W pq.1 pq.2 p q = true) ∧ b < j ∧ b < 400 ∧ x = Int32.ofNat i ∧ y = Int32.ofNat b ∧ L[b]? = some q
theorem z_kj_k {W : Nat → Nat} {L : List (List Nat)} {i j : Nat} {k : Option (List Nat × List Nat)} {p : List Nat} {o : Option (List Nat)} {x y : Int32} (hp : L[i]? = some p) (h : z_kj W L i j k p o x y) : z_ki L (i + 1) (z_kq W k p o) x y := by
  rcases h with ⟨h1, h2⟩ | ⟨b, q, h1, h2, h3, h4, h5, h6, h7⟩
  · have e : z_kq W k p o = k := by
      cases o with
      | none => rfl
      | some q =>
        obtain ⟨pq, e1, e2⟩ := h1 q rfl
        rw [e1]
        exact if_neg e2
    rw [e]
    cases k with
    | none => exact h2
    | some pq =>
      obtain ⟨a, b, g1, g2, g3⟩ := h2
      exact ⟨a, b, by omega, g2, g3⟩
  · have e : z_kq W k p (some q) = some (p, q) := by
      cases k with
      | none => rfl
      | some pq => exact if_pos (h2 pq rfl)
    rw [h1, e]
    exact ⟨i, b, by omega, h4, h5, h6, hp, h7⟩
theorem o_27r {m : mm_M} {a1 a2 : Int32} {P Q W : Nat → Nat} {C d u : Nat} (hC : C ≤ 10) (hP : ∀ i, i < C → P i < 8 ∧ Q i < 8) (hW : ∀ i, W i ≤ 2400000) (htc : ∀ n, fp [(12, none, some 3)] m n → vW (f_X12_tellCosts n) (fun c => fp [(84, none, none), (85, none, none), (116, none, none)] n c ∧ r_nt c P Q W C)) (h1 : 0 ≤ a1.toInt ∧ a1.toInt ≤ 7) (h2 : 0 ≤ a2.toInt ∧ a2.toInt ≤ 7) (hne : a1 ≠ a2) (hu : a1.toInt = (u : Int)) (hu8 : u < 8) (hd : a2.toInt = (d : Int)) : vW (f_X12_pair a1 a2 m) (fun q => q.2 12 0 3 = 0 ∧ fp [(12, none, some 3), (84, none, none), (85, none, none), (116, none, none), (12, none, some 79), (119, none, none), (120, none, none), (121, none, none), (122, none, none), (123, none, none), (12, none, some 80), (124, none, none)] m q.2 ∧ ((z_pr W (z_ws P Q C (fun _ => false) d 16 [u] [] u) = none ∧ q.1 = -1 ∧ q.2 12 0 80 = m 12 0 80 ∧ ∀ k, q.2 124 0 k = m 124 0 k) ∨ ∃ p0 q0, z_pr W (z_ws P Q C (fun _ => false) d 16 [u] [] u) = some (p0, q0) ∧ q.1 = Int32.ofNat (z_co W p0 + z_co W q0) ∧ (p0.length ≤ 7 ∧ q0.length ≤ 7) ∧ q.2 12 0 80 = Int32.ofNat (p0.length + q0.length) ∧ (∀ k x, p0[k]? = some x → q.2 124 0 k = Int32.ofNat x) ∧ ∀ k x, q0[k]? = some x → q.2 124 0 (p0.length + k) = Int32.ofNat x)) := by
  unfold f_X12_pair
  refine v_lM ?_
  refine v_b1e (r_nok h1) ?_
  refine v_ifn (by decide) ?_
  refine v_b1e (r_nok h2) ?_
  refine v_ifp (by decide) ?_
  refine v_ifp hne ?_
  refine v_s1 (htc _ fp_30) (fun c1 hc1 => ?_)
  refine v_s1 (r_ways (bar := fun _ => false) hC hP (fun i _ => z_bt_0) hd hu hu8 hc1.2) (fun c2 hc2 => ?_)
  have h36 := z_ws_36 (P := P) (Q := Q) (bar := fun _ => false) (d := d) (n := 16) (p := []) hC (show u ∈ [u] from List.mem_cons_self)
  generalize z_ws P Q C (fun _ => false) d 16 [u] [] u = L at hc2 h36 ⊢
  have hfa : fp [(12, none, some 3), (84, none, none), (85, none, none), (116, none, none), (12, none, some 79), (119, none, none), (120, none, none), (121, none, none), (122, none, none), (123, none, none)] m c2 := fp_tr (fp_sb (by decide) fp_30) (fp_tr (fp_sb (by decide) hc1.1) (fp_sb (by decide) hc2.1))
  have h3 : c2 12 0 3 = 0 := (hc2.1 12 0 3 rfl).trans ((hc1.1 12 0 3 rfl).trans mw_s)
  have ht := hc2.2
  refine v_s1 (P := fun s => z_ki L 400 (z_pr W L) s.1 s.2) ?_ ?_
  · refine v_for (fun i s => s.2.2.toInt = (i : Int) ∧ z_ki L i ((L.take i).foldl (z_k1 W L) none) s.1 s.2.1) 0 L.length (Nat.zero_le _) (by omega) ⟨i_0, rfl, rfl⟩ ?_ ?_
    · rintro i ⟨x0, y0, v⟩ hi ⟨hv, hk⟩
      dsimp only at hv hk ⊢
      obtain ⟨p, hp, htk⟩ := z_tkL hi
      have kv := n_k hv
      have iv : mm_in v 400 := v_in.mpr (by omega)
      obtain ⟨⟨lp, _⟩, p1, p2, _, p4⟩ := ht.2 i p hp
      have bp := z_co_b hW p
      generalize hK : (L.take i).foldl (z_k1 W L) none = k at hk
      refine v_ifn (by rw [iA_le, ht.1, hv, nJ_T (by omega)]; omega) ?_
      refine v_s1 (P := fun s => z_kj W L i L.length k p (z_bst W (L.filter (z_dj p)) none) s.1 s.2) ?_ ?_
      · refine v_for (fun j s => s.2.2.toInt = (j : Int) ∧ z_kj W L i j k p (z_bst W ((L.take j).filter (z_dj p)) none) s.1 s.2.1) 0 L.length (Nat.zero_le _) (by omega) ⟨i_0, Or.inl ⟨fun q hq => (by cases hq), hk⟩⟩ ?_ ?_
        · rintro j ⟨x, y, w⟩ hj ⟨hw, hs⟩
          dsimp only at hw hs ⊢
          obtain ⟨q, hq, htq⟩ := z_tkL hj
          obtain ⟨⟨lq, _⟩, q1, q2, _, q4⟩ := ht.2 j q hq
          have bq := z_co_b hW q
          have kw := n_k hw
          have iw : mm_in w 400 := v_in.mpr (by omega)
          refine v_ifn (by rw [iA_le, ht.1, hw, nJ_T (by omega)]; omega) ?_
          refine v_ifp iv ?_
          refine v_ifp iw ?_
          by_cases hdj : z_dj p q = true
          · have eo : z_bst W ((L.take (j + 1)).filter (z_dj p)) none = z_up W (z_bst W ((L.take j).filter (z_dj p)) none) q := by
              rw [htq, List.filter_append, z_bst_a, List.filter_cons_of_pos hdj]
              rfl
            rw [eo]
            generalize z_bst W ((L.take j).filter (z_dj p)) none = o at hs ⊢
            refine v_ifp (by rw [kv, kw]; exact (z_dj_e p4 q4).mpr hdj) ?_
            refine v_lF ?_
            -- what is to be shown when the new pair is taken, and when it isn't
            have tk : (∀ pq, k = some pq → z_bp W pq.1 pq.2 p q = true) → z_up W o q = some q → v_st (fun s : Int32 × Int32 × Int32 => s.2.2.toInt = ((j + 1 : Nat) : Int) ∧ z_kj W L i (j + 1) k p (z_up W o q) s.1 s.2.1) (fun s : Int32 × Int32 => z_kj W L i L.length k p (z_bst W (L.filter (z_dj p)) none) s.1 s.2) (.inl (v, w, w + 1)) := fun e1 e2 => by
              refine v_pl.mpr ⟨n_s3 hw (by omega), Or.inr ⟨j, q, e2, e1, by omega, by omega, n_0L (by omega) hv, n_0L (by omega) hw, hq⟩⟩
            have st : (z_kj W L i (j + 1) k p (z_up W o q) x y) → v_st (fun s : Int32 × Int32 × Int32 => s.2.2.toInt = ((j + 1 : Nat) : Int) ∧ z_kj W L i (j + 1) k p (z_up W o q) s.1 s.2.1) (fun s : Int32 × Int32 => z_kj W L i L.length k p (z_bst W (L.filter (z_dj p)) none) s.1 s.2) (.inl (x, y, w + 1)) := fun e1 => v_pl.mpr ⟨n_s3 hw (by omega), e1⟩
            -- the two that are kept so far, with the sums
            have go2 : ∀ a b p0 q0, a ≤ i → b < 400 → x = Int32.ofNat a → y = Int32.ofNat b → L[a]? = some p0 → L[b]? = some q0 → (a = i → b < j) → (((z_co W p + z_co W q < z_co W p0 + z_co W q0 ∨ (z_co W p + z_co W q = z_co W p0 + z_co W q0 ∧ ((¬ a = i ∧ z_lt2 W p p0 = true) ∨ (a = i ∧ z_lt2 W q q0 = true)))) → (∀ pq, k = some pq → z_bp W pq.1 pq.2 p q = true) ∧ z_up W o q = some q)) → ((¬ (z_co W p + z_co W q < z_co W p0 + z_co W q0 ∨ (z_co W p + z_co W q = z_co W p0 + z_co W q0 ∧ ((¬ a = i ∧ z_lt2 W p p0 = true) ∨ (a = i ∧ z_lt2 W q q0 = true)))) → z_kj W L i (j + 1) k p (z_up W o q) x y)) → vW ((fun (w18 : Int32) => (if w18 ≠ 0 then (mm_let (fun (w20 : Int32) => (if w18 = 0 then (mm_let (w + 1) fun v22 =>
some (.inl (w20, y, v22)))
else (mm_let (w + 1) fun v23 =>
some (.inl (w20, w, v23))) : Option ((Int32 × Int32 × Int32) ⊕ ((Int32 × Int32))))) fun k21 =>
if w18 = 0 then (k21 x)
else (k21 v))
else (if mm_in v 400 then (
if mm_in w 400 then (
if mm_in x 400 then (
if mm_in y 400 then (
mm_let ((((c2 119 0 v.toNatClampNeg) + (c2 119 0 w.toNatClampNeg)) - (c2 119 0 x.toNatClampNeg)) - (c2 119 0 y.toNatClampNeg)) fun v24 =>
mm_let ((mm_let (fun (w26 : Int32) => (mm_let (w + 1) fun v28 =>
some (.inl (w26, w, v28)) : Option ((Int32 × Int32 × Int32) ⊕ ((Int32 × Int32))))) fun k27 =>
k27 v : Option ((Int32 × Int32 × Int32) ⊕ ((Int32 × Int32))))) fun k25 =>
if v24 < 0 then (k25)
else (mm_let ((mm_let (fun (w30 : Int32) => (mm_let (w + 1) fun v32 =>
some (.inl (w30, y, v32)) : Option ((Int32 × Int32 × Int32) ⊕ ((Int32 × Int32))))) fun k31 =>
k31 x : Option ((Int32 × Int32 × Int32) ⊕ ((Int32 × Int32))))) fun k29 =>
if v24 ≠ 0 then (k29)
else (if v ≠ x then (mm_b1 (f_X12_isAhead v x c2) fun r33 =>
if r33 = 0 then (k29)
else (k25))
else (mm_b1 (f_X12_isAhead w y c2) fun r34 =>
if r34 = 0 then (k29)
else (k25))))) else none) else none) else none) else none) : Option ((Int32 × Int32 × Int32) ⊕ ((Int32 × Int32))))) 0) (v_st (fun s : Int32 × Int32 × Int32 => s.2.2.toInt = ((j + 1 : Nat) : Int) ∧ z_kj W L i (j + 1) k p (z_up W o q) s.1 s.2.1) (fun s : Int32 × Int32 => z_kj W L i L.length k p (z_bst W (L.filter (z_dj p)) none) s.1 s.2)) := fun a b p0 q0 hai hb4 hx hy hp0 hq0 hbj hyes hno => by
              obtain ⟨⟨lp0, _⟩, s1, _⟩ := ht.2 a p0 hp0
              obtain ⟨⟨lq0, _⟩, t1, _⟩ := ht.2 b q0 hq0
              have bp0 := z_co_b hW p0
              have bq0 := z_co_b hW q0
              have hxI : x.toInt = (a : Int) := by rw [hx]; exact nJ_T (by omega)
              have hyI : y.toInt = (b : Int) := by rw [hy]; exact nJ_T (by omega)
              refine v_ifn (fun z => z rfl) ?_
              refine v_ifp iv ?_
              refine v_ifp iw ?_
              refine v_ifp (v_in.mpr (by omega)) ?_
              refine v_ifp (v_in.mpr (by omega)) ?_
              rw [kv, kw, n_k hxI, n_k hyI, p1, q1, s1, t1]
              refine v_lI (fun t htt => ?_)
              have htI : t.toInt = (z_co W p : Int) + (z_co W q : Int) - (z_co W p0 : Int) - (z_co W q0 : Int) := by
                rw [htt, nJ_a, iA_sub, iA_sub, nJ_T (by omega), nJ_T (by omega), nJ_T (by omega)]
                · omega
                · rw [nJ_T (by omega), nJ_T (by omega)]
                  omega
                · rw [nJ_T (by omega), nJ_T (by omega)]
                  omega
                · rw [iA_sub (by rw [nJ_T (by omega), nJ_T (by omega)]; omega) (by rw [nJ_T (by omega), nJ_T (by omega)]; omega), nJ_T (by omega), nJ_T (by omega), nJ_T (by omega)]
                  omega
                · rw [iA_sub (by rw [nJ_T (by omega), nJ_T (by omega)]; omega) (by rw [nJ_T (by omega), nJ_T (by omega)]; omega), nJ_T (by omega), nJ_T (by omega), nJ_T (by omega)]
                  omega
              clear htt
              refine v_lO ?_
              have yes : (z_co W p + z_co W q < z_co W p0 + z_co W q0 ∨ (z_co W p + z_co W q = z_co W p0 + z_co W q0 ∧ ((¬ a = i ∧ z_lt2 W p p0 = true) ∨ (a = i ∧ z_lt2 W q q0 = true)))) → vW (mm_let (fun (w26 : Int32) => (mm_let (w + 1) fun v28 =>
some (.inl (w26, w, v28)) : Option ((Int32 × Int32 × Int32) ⊕ ((Int32 × Int32))))) fun k27 => k27 v) (v_st (fun s : Int32 × Int32 × Int32 => s.2.2.toInt = ((j + 1 : Nat) : Int) ∧ z_kj W L i (j + 1) k p (z_up W o q) s.1 s.2.1) (fun s : Int32 × Int32 => z_kj W L i L.length k p (z_bst W (L.filter (z_dj p)) none) s.1 s.2)) := fun h => by
                refine v_lF ?_
                refine v_l1 ?_
                exact v_so (tk (hyes h).1 (hyes h).2)
              by_cases c1 : z_co W p + z_co W q < z_co W p0 + z_co W q0
              · refine v_ifp (by rw [iA_lt, i_0, htI]; omega) ?_
                exact yes (Or.inl c1)
              · refine v_ifn (by rw [iA_lt, i_0, htI]; omega) ?_
                refine v_lO ?_
                have no : ¬ (z_co W p + z_co W q < z_co W p0 + z_co W q0 ∨ (z_co W p + z_co W q = z_co W p0 + z_co W q0 ∧ ((¬ a = i ∧ z_lt2 W p p0 = true) ∨ (a = i ∧ z_lt2 W q q0 = true)))) → vW (mm_let (fun (w30 : Int32) => (mm_let (w + 1) fun v32 =>
some (.inl (w30, y, v32)) : Option ((Int32 × Int32 × Int32) ⊕ ((Int32 × Int32))))) fun k31 => k31 x) (v_st (fun s : Int32 × Int32 × Int32 => s.2.2.toInt = ((j + 1 : Nat) : Int) ∧ z_kj W L i (j + 1) k p (z_up W o q) s.1 s.2.1) (fun s : Int32 × Int32 => z_kj W L i L.length k p (z_bst W (L.filter (z_dj p)) none) s.1 s.2)) := fun h => by
                  refine v_lF ?_
                  refine v_l1 ?_
                  exact v_so (st (hno h))
                by_cases c2' : z_co W p + z_co W q = z_co W p0 + z_co W q0
                · refine v_ifn (fun z => z (by rw [iA_eq, i_0, htI]; omega)) ?_
                  by_cases hai2 : a = i
                  · refine v_ifn (fun z => z (by rw [iA_eq, hv, hxI, hai2])) ?_
                    refine v_b1e (r_ahd hW ht (by omega) hw hyI hq hq0) ?_
                    have hbj2 := hbj hai2
                    have hpp : p0 = p := by
                      rw [hai2, hp] at hp0
                      exact (Option.some.inj hp0).symm
                    have hqq : z_ah W j b q q0 = z_lt2 W q q0 := by
                      unfold z_ah z_lt2
                      exact decide_eq_decide.mpr (by omega)
                    by_cases hlt : z_lt2 W q q0 = true
                    · refine v_ifn (by rw [hqq, if_pos hlt]; decide) ?_
                      exact yes (Or.inr ⟨c2', Or.inr ⟨hai2, hlt⟩⟩)
                    · refine v_ifp (by rw [hqq, if_neg hlt]) ?_
                      exact no (fun z => by
                        rcases z with z | ⟨_, ⟨z, _⟩ | ⟨_, z⟩⟩
                        · exact c1 z
                        · exact z hai2
                        · exact hlt z)
                  · refine v_ifp (fun z => hai2 (by have := iA_eq.mp z; omega)) ?_
                    refine v_b1e (r_ahd hW ht (by omega) hv hxI hp hp0) ?_
                    have hqq : z_ah W i a p p0 = z_lt2 W p p0 := by
                      unfold z_ah z_lt2
                      exact decide_eq_decide.mpr (by omega)
                    by_cases hlt : z_lt2 W p p0 = true
                    · refine v_ifn (by rw [hqq, if_pos hlt]; decide) ?_
                      exact yes (Or.inr ⟨c2', Or.inl ⟨hai2, hlt⟩⟩)
                    · refine v_ifp (by rw [hqq, if_neg hlt]) ?_
                      exact no (fun z => by
                        rcases z with z | ⟨_, ⟨_, z⟩ | ⟨z, _⟩⟩
                        · exact c1 z
                        · exact hlt z
                        · exact hai2 z)
                · refine v_ifp (fun z => c2' (by rw [iA_eq, i_0, htI] at z; omega)) ?_
                  exact no (fun z => by
                    rcases z with z | ⟨z, _⟩
                    · exact c1 z
                    · exact c2' z)
            rcases hs with ⟨hs1, hs2⟩ | ⟨b, q0, ho, hkq, hbj, hb4, hx, hy, hq0⟩
            · cases k with
              | none =>
                have ho : o = none := by
                  cases o with
                  | none => rfl
                  | some z =>
                    obtain ⟨pq, e1, _⟩ := hs1 z rfl
                    cases e1
                refine v_ifn (fun z => z hs2.1) ?_
                refine v_ifp (by decide) ?_
                refine v_lF ?_
                refine v_ifn (by decide) ?_
                refine v_ifn (by decide) ?_
                refine v_l1 ?_
                exact v_so (tk (fun pq h => by cases h) (by rw [ho]; rfl))
              | some pq =>
                obtain ⟨a, b, ha, hb4, hx, hy, hp0, hq0⟩ := hs2
                refine v_ifp (by rw [hx]; exact n_m1 (by omega)) ?_
                have hnb : ∀ q', o = some q' → ¬ z_bp W pq.1 pq.2 p q' = true := fun q' ho => by
                  obtain ⟨pq', e1, e2⟩ := hs1 q' ho
                  cases e1
                  exact e2
                refine go2 a b pq.1 pq.2 (by omega) hb4 hx hy hp0 hq0 (fun z => by omega) (fun h => ?_) (fun h => ?_)
                · have hz2 : z_co W p + z_co W q < z_co W pq.1 + z_co W pq.2 ∨ (z_co W p + z_co W q = z_co W pq.1 + z_co W pq.2 ∧ z_lt2 W p pq.1 = true) := by
                    rcases h with h | ⟨h, ⟨_, h2⟩ | ⟨h2, _⟩⟩
                    · exact Or.inl h
                    · exact Or.inr ⟨h, h2⟩
                    · omega
                  have hz : z_bp W pq.1 pq.2 p q = true := decide_eq_true hz2
                  refine ⟨fun pq' h => by cases h; exact hz, ?_⟩
                  cases o with
                  | none => rfl
                  | some q' =>
                    have g1 := hnb q' rfl
                    show (if z_lt2 W q q' = true then some q else some q') = some q
                    have hlt : z_lt2 W q q' = true := decide_eq_true (by
                      by_cases he : z_co W q < z_co W q'
                      · exact Or.inl he
                      · exfalso
                        refine g1 (decide_eq_true ?_)
                        by_cases he2 : z_co W p + z_co W q' < z_co W pq.1 + z_co W pq.2
                        · exact Or.inl he2
                        · rcases hz2 with z | ⟨z, z2⟩
                          · omega
                          · exact Or.inr ⟨by omega, z2⟩)
                    exact if_pos hlt
                · have hnz : ¬ z_bp W pq.1 pq.2 p q = true := fun z => h (by
                    rcases of_decide_eq_true z with z | ⟨z, z2⟩
                    · exact Or.inl z
                    · exact Or.inr ⟨z, Or.inl ⟨by omega, z2⟩⟩)
                  refine Or.inl ⟨fun q' hq' => ⟨pq, rfl, ?_⟩, a, b, ha, hb4, hx, hy, hp0, hq0⟩
                  have hq2 : q' = q ∨ o = some q' := by
                    cases o with
                    | none => exact Or.inl (Option.some.inj hq').symm
                    | some z =>
                      have hz : (if z_lt2 W q z = true then some q else some z) = some q' := hq'
                      by_cases hlt : z_lt2 W q z = true
                      · rw [if_pos hlt] at hz
                        exact Or.inl (Option.some.inj hz).symm
                      · rw [if_neg hlt] at hz
                        exact Or.inr hz
                  rcases hq2 with hq2 | hq2
                  · rw [hq2]
                    exact hnz
                  · exact hnb q' hq2
            · refine v_ifp (by rw [hx]; exact n_m1 (by omega)) ?_
              have eu : z_up W o q = if z_lt2 W q q0 = true then some q else some q0 := by
                rw [ho]
                rfl
              refine go2 i b p q0 (Nat.le_refl _) hb4 hx hy hp hq0 (fun _ => hbj) (fun h => ?_) (fun h => ?_)
              · have hlt : z_lt2 W q q0 = true := by
                  rcases h with h | ⟨_, ⟨h, _⟩ | ⟨_, h⟩⟩
                  · exact decide_eq_true (Or.inl (by omega))
                  · exact absurd rfl h
                  · exact h
                refine ⟨fun pq hpq => decide_eq_true ?_, by rw [eu, if_pos hlt]⟩
                have hcq := of_decide_eq_true hlt
                rcases of_decide_eq_true (hkq pq hpq) with z | ⟨z, z2⟩
                · exact Or.inl (by omega)
                · by_cases he : z_co W q = z_co W q0
                  · exact Or.inr ⟨by omega, z2⟩
                  · exact Or.inl (by omega)
              · have hnl : ¬ z_lt2 W q q0 = true := fun z => h (by
                  have hz := of_decide_eq_true z
                  by_cases he : z_co W q < z_co W q0
                  · exact Or.inl (by omega)
                  · exact Or.inr ⟨by omega, Or.inr ⟨rfl, z⟩⟩)
                exact Or.inr ⟨b, q0, by rw [eu, if_neg hnl], hkq, by omega, hb4, hx, hy, hq0⟩
          · have eo : z_bst W ((L.take (j + 1)).filter (z_dj p)) none = z_bst W ((L.take j).filter (z_dj p)) none := by
              rw [htq, List.filter_append, List.filter_cons_of_neg hdj]
              show z_bst W (_ ++ []) none = _
              rw [List.append_nil]
            rw [eo]
            refine v_ifn (by rw [kv, kw]; exact fun z => hdj ((z_dj_e p4 q4).mp z)) ?_
            refine v_l1 ?_
            refine v_il ⟨n_s3 hw (by omega), ?_⟩
            dsimp only
            rcases hs with hs | ⟨b, q0, ho, hkq, hbj, hb4, hx, hy, hq0⟩
            · exact Or.inl hs
            · exact Or.inr ⟨b, q0, ho, hkq, by omega, hb4, hx, hy, hq0⟩
        · rintro ⟨x, y, w⟩ ⟨hw, hs⟩
          dsimp only at hw hs ⊢
          rw [List.take_length] at hs
          refine v_ifp (by rw [iA_le, ht.1, hw, nJ_T (by omega)]; omega) ?_
          exact v_ir hs
      · rintro ⟨x, y⟩ hs
        dsimp only at hs ⊢
        refine v_l1 ?_
        refine v_il ⟨n_s3 hv (by omega), ?_⟩
        dsimp only
        rw [htk, List.foldl_append, hK]
        exact z_kj_k hp hs
    · rintro ⟨x0, y0, v⟩ ⟨hv, hk⟩
      dsimp only at hv hk ⊢
      rw [List.take_length] at hk
      refine v_ifp (by rw [iA_le, ht.1, hv, nJ_T (by omega)]; omega) ?_
      refine v_ir ?_
      dsimp only
      unfold z_pr
      generalize List.foldl (z_k1 W L) none L = k at hk ⊢
      cases k with
      | none => exact hk
      | some pq =>
        obtain ⟨a, b, g1, g2, g3⟩ := hk
        exact ⟨a, b, by omega, g2, g3⟩
  · rintro ⟨x, y⟩ hk
    dsimp only at hk ⊢
    cases hz : z_pr W L with
    | none =>
      rw [hz] at hk
      refine v_ifn (fun z => z hk.1) ?_
      exact v_so ⟨h3, fp_sb (by decide) hfa, Or.inl ⟨rfl, rfl, hfa 12 0 80 rfl, fun k => hfa 124 0 k rfl⟩⟩
    | some pq =>
      rw [hz] at hk
      obtain ⟨i, j, hi, hj, hx, hy, hp, hq⟩ := hk
      have hxI : x.toInt = (i : Int) := by rw [hx]; exact nJ_T (by omega)
      have hyI : y.toInt = (j : Int) := by rw [hy]; exact nJ_T (by omega)
      obtain ⟨⟨lp, _⟩, p1, p2, p3, _⟩ := ht.2 i pq.1 hp
      obtain ⟨⟨lq, _⟩, q1, q2, q3, _⟩ := ht.2 j pq.2 hq
      refine v_ifp (by rw [hx]; exact n_m1 (by omega)) ?_
      refine v_lM ?_
      have w0 : ∀ g k, ¬ g = 12 → mm_w c2 12 0 80 0 g 0 k = c2 g 0 k := fun g k hg => mw_g hg
      refine v_s1 (r_cpy (p := pq.1) (b := 0) hxI hi ((w0 120 i (by decide)).trans p2) lp (fun k z hz => (w0 121 _ (by decide)).trans (p3 k z hz)) mw_s (by omega)) ?_
      rintro c3 ⟨g1, g2, g3, _⟩
      refine v_s1 (r_cpy (p := pq.2) (b := pq.1.length) hyI hj ((g1 120 0 j rfl).trans ((w0 120 j (by decide)).trans q2)) lq (fun k z hz => (g1 121 0 _ rfl).trans ((w0 121 _ (by decide)).trans (q3 k z hz))) (g2.trans (by rw [Nat.zero_add])) lp) ?_
      rintro c4 ⟨g5, g6, g7, g8⟩
      have g119 : ∀ z, c4 119 0 z = c2 119 0 z := fun z => (g5 119 0 z rfl).trans ((g1 119 0 z rfl).trans (w0 119 z (by decide)))
      refine v_ifp (v_in.mpr (by omega)) ?_
      refine v_ifp (v_in.mpr (by omega)) ?_
      refine v_so ⟨?_, ?_, Or.inr ⟨pq.1, pq.2, rfl, ?_, ⟨lp, lq⟩, g6, fun k z hz => ?_, g7⟩⟩
      · dsimp only
        rw [g5 12 0 3 rfl, g1 12 0 3 rfl, mw_k (by decide)]
        exact h3
      · exact fp_tr (fp_w rfl (fp_sb (by decide) hfa)) (fp_tr (fp_sb (by decide) g1) (fp_sb (by decide) g5))
      · dsimp only
        rw [n_k hxI, n_k hyI, g119, g119, p1, q1, nJ_a]
      · dsimp only
        rw [g8 k (List.getElem?_eq_some_iff.mp hz).1]
        have := g3 k z hz
        rw [Nat.zero_add] at this
        exact this
theorem o_27 : q_Sim qJ 27 := fun m a hJ hop => by
  have hJ0 := hJ
  obtain ⟨hday, hfault, hdead, hstr, htap, hlaw, hev, hrow, hinq, hfound, hlamps, hnet, htsk, hdl, halo, hshe⟩ := hJ
  obtain ⟨P, Q, W, X, C, hC, hC1, hC2, hP, hW, hX, h03, hwg, htc⟩ := z_netOf hstr hlaw hnet
  have bad : f_X11_pair (a 1) (a 2) m = some (.inl 1) → f_X12_pair (a 1) (a 2) m = some (0, mm_w (mm_w m 12 0 3 0) 12 0 3 1) → ∃ mC mM, q_To m a mC mM ∧ qJ mC mM := fun eC eM => by
    refine ⟨_, _, t_op27 hop eC eM (thrown_eq _) (fun e9 h => ?_) (fun t h => by cases h), qJ_3 fp_31 hJ0⟩
    cases h
    exact ⟨rfl, mw_s⟩
  by_cases h1 : 0 ≤ (a 1).toInt ∧ (a 1).toInt ≤ 7
  · by_cases h2 : 0 ≤ (a 2).toInt ∧ (a 2).toInt ≤ 7
    · by_cases hne : a 1 ≠ a 2
      · obtain ⟨u, hu8, hu⟩ := z_arN h1
        obtain ⟨d, hd8, hd⟩ := z_arN h2
        have eCx : vW (f_X11_pair (a 1) (a 2) m) (fun o => ∃ x c c1, o = .inr (x, c) ∧ fp [(23, none, none), (24, none, none), (56, none, none)] m c1 ∧ fp zLd c1 c ∧ x = c 9 0 14 ∧ z_kh c1 c W (z_pr W (z_ws P Q C (fun _ => false) d 16 [u] [] u))) := by
          unfold f_X11_pair
          refine v_bxe (c_nok h1) ?_
          refine v_bxe (c_nok h2) ?_
          refine v_ifp hne ?_
          refine v_ifn h03 ?_
          refine v_lN ?_
          refine v_s1 hwg (fun c1 hc1 => ?_)
          refine v_s2 (c_keepP hC hP hW hd hu hu8 hc1.2) (fun x c hc => ?_)
          exact v_so ⟨x, c, c1, rfl, hc1.1, hc.1, hc.2.1, hc.2.2⟩
        have eMx := o_27r hC hP hW htc h1 h2 hne hu hu8 hd
        obtain ⟨o, eC, x, c, c1, ho, hf1, hf2, hx, hkh⟩ := eCx
        obtain ⟨⟨y, mM⟩, eM, h3, hM, hms⟩ := eMx
        dsimp only at h3 hM hms
        subst ho
        have hC : fp [(23, none, none), (24, none, none), (56, none, none), (9, none, some 14), (10, some 0, none), (62, some 0, none), (10, some 1, none), (62, some 1, none), (10, some 2, none), (62, some 2, none), (10, some 3, none), (62, some 3, none), (10, some 4, none), (62, some 4, none)] m c := fp_tr (fp_sb (by decide) hf1) (fp_sb (by decide) hf2)
        have hj : j_alo c mM ∧ y = x := by
          rcases hms with ⟨hb, hy, m80, m124⟩ | ⟨p0, q0, hb, hy, ⟨lp, lq⟩, m80, m124, m124b⟩
          · rw [hb] at hkh
            obtain ⟨g14, gk⟩ := hkh
            obtain ⟨a8, b8, g1, g2, g3, g4, g5, g6, g7⟩ := halo
            refine ⟨⟨a8, b8, g1, g2, ?_, ?_, m80.trans g5, fun i hi => ?_, fun i hi => ?_⟩, by rw [hy, hx, g14]⟩
            · rw [(gk 1).1, hf1 10 3 1 rfl]
              exact g3
            · rw [(gk 1).2.2.1, hf1 10 4 1 rfl]
              exact g4
            · rw [(gk i).2.1, hf1 62 3 i rfl, m124]
              exact g6 i hi
            · rw [(gk i).2.2.2, hf1 62 4 i rfl, m124]
              exact g7 i hi
          · rw [hb] at hkh
            obtain ⟨g14, w3', w4'⟩ := hkh
            refine ⟨⟨p0.length, q0.length, by omega, by omega, w3'.2.2.1, w4'.2.2.1, m80, fun i hi => ?_, fun i hi => ?_⟩, by rw [hy, hx, g14]⟩
            · obtain ⟨z, hz, _⟩ := z_tk hi
              rw [w3'.2.2.2.2.2 i z hz, m124 i z hz]
            · obtain ⟨z, hz, _⟩ := z_tk hi
              rw [w4'.2.2.2.2.2 i z hz, m124b i z hz]
        obtain ⟨hj, hxy⟩ := hj
        refine ⟨_, _, t_op27 hop eC eM (thrown_eq _) (fun e9 h => by cases h) (fun t h => ?_), ⟨j_day_kp hC hM (by decide) (by decide) hday, j_fault_kp hC hM (by decide) (by decide) hfault, j_dead_kp hC hM (by decide) (by decide) hdead, j_str_kp hC hM (by decide) (by decide) hstr, j_tap_kp hC hM (by decide) (by decide) htap, j_law_kp hC hM (by decide) (by decide) hlaw, j_ev_kp hC hM (by decide) (by decide) hev, j_row_kp hC hM (by decide) (by decide) hrow, j_inq_kp hC hM (by decide) (by decide) hinq, j_found_kp hC hM (by decide) (by decide) hfound, j_lamps_kp hC hM (by decide) (by decide) hlamps, j_net_kp hC hM (by decide) (by decide) hnet, j_tsk_kp hC hM (by decide) (by decide) htsk, j_dl_kp hC hM (by decide) (by decide) hdl, hj, j_she_kp hC hM (by decide) (by decide) hshe⟩⟩
        cases h
        exact ⟨h3, hxy⟩
      · have eC : f_X11_pair (a 1) (a 2) m = some (.inr (-1, m)) := v_is (by
          unfold f_X11_pair
          refine v_bxe (c_nok h1) ?_
          refine v_bxe (c_nok h2) ?_
          exact v_ifn hne (v_so rfl))
        have eM : f_X12_pair (a 1) (a 2) m = some (-1, mm_w m 12 0 3 0) := v_is (by
          unfold f_X12_pair
          refine v_lM ?_
          refine v_b1e (r_nok h1) ?_
          refine v_ifn (by decide) ?_
          refine v_b1e (r_nok h2) ?_
          refine v_ifp (by decide) ?_
          exact v_ifn hne (v_so rfl))
        refine ⟨_, _, t_op27 hop eC eM (thrown_eq _) (fun e9 h => by cases h) (fun t h => ?_), qJ_3 fp_30 hJ0⟩
        cases h
        exact ⟨mw_s, rfl⟩
    · refine bad (v_is ?_) (v_is ?_)
      · unfold f_X11_pair
        refine v_bxe (c_nok h1) ?_
        exact v_bxi (c_non h2) rfl
      · unfold f_X12_pair
        refine v_lM ?_
        refine v_b1e (r_nok h1) ?_
        refine v_ifn (by decide) ?_
        refine v_b1e (r_non h2) ?_
        refine v_ifn (by decide) ?_
        exact v_b2e r_fail1 (v_so rfl)
  · refine bad (v_is ?_) (v_is ?_)
    · unfold f_X11_pair
      exact v_bxi (c_non h1) rfl
    · unfold f_X12_pair
      refine v_lM ?_
      refine v_b1e (r_non h1) ?_
      refine v_ifp rfl ?_
      exact v_b2e r_fail1 (v_so rfl)
