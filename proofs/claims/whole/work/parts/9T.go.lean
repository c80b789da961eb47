/-! walking the net: the reference -/
/-- the table of ways -/
def r_tb (m : mm_M) (W : Nat → Nat) (L : List (List Nat)) : Prop := m 12 0 79 = Int32.ofNat L.length ∧ ∀ w p, L[w]? = some p → (p.length ≤ 7 ∧ ∀ x, x ∈ p → x < 10) ∧ m 119 0 w = Int32.ofNat (z_co W p) ∧ m 120 0 w = Int32.ofNat p.length ∧ (∀ k x, p[k]? = some x → m 121 0 (10 * w + k) = Int32.ofNat x) ∧ ∀ k, z_bt (m 122 0 w) k = decide (k ∈ p)
def r_pa (m : mm_M) (p : List Nat) : Prop := ∀ k x, p[k]? = some x → m 123 0 k = Int32.ofNat x
/-- the net as the reference has it -/
def r_nt (c : mm_M) (P Q W : Nat → Nat) (C : Nat) : Prop := c 12 0 77 = Int32.ofNat C ∧ ∀ i, i < C → c 112 0 i = Int32.ofNat (P i) ∧ c 113 0 i = Int32.ofNat (Q i) ∧ c 116 0 i = Int32.ofNat (W i)
theorem r_nt_fr {L : zT} {c r : mm_M} {P Q W : Nat → Nat} {C : Nat} (hf : fp L c r) (hd : z_dis [(12, none, some 77), (112, none, none), (113, none, none), (116, none, none)] L = true) (h : r_nt c P Q W C) : r_nt r P Q W C := ⟨(hf 12 0 77 (z_dis_of hd rfl)).trans h.1, fun i hi => ⟨(hf 112 0 i (z_dis_of hd rfl)).trans (h.2 i hi).1, (hf 113 0 i (z_dis_of hd rfl)).trans (h.2 i hi).2.1, (hf 116 0 i (z_dis_of hd rfl)).trans (h.2 i hi).2.2⟩⟩
theorem r_tb_fr {Z : zT} {c r : mm_M} {W : Nat → Nat} {L : List (List Nat)} (hf : fp Z c r) (hd : z_dis [(12, none, some 79), (119, none, none), (120, none, none), (121, none, none), (122, none, none)] Z = true) (h : r_tb c W L) : r_tb r W L := ⟨(hf 12 0 79 (z_dis_of hd rfl)).trans h.1, fun w p hp => by
  obtain ⟨a1, a2, a3, a4, a5⟩ := h.2 w p hp
  refine ⟨a1, (hf 119 0 w (z_dis_of hd rfl)).trans a2, (hf 120 0 w (z_dis_of hd rfl)).trans a3, fun k x hk => (hf 121 0 (10 * w + k) (z_dis_of hd rfl)).trans (a4 k x hk), fun k => ?_⟩
  rw [hf 122 0 w (z_dis_of hd rfl)]
  exact a5 k⟩
abbrev zGo : zT := [(12, none, some 79), (119, none, none), (120, none, none), (121, none, none), (122, none, none), (123, none, none)]
abbrev zLf : zT := [(12, none, some 79), (119, none, none), (120, none, none), (121, none, none), (122, none, none)]
theorem z_tk {p : List Nat} {k : Nat} (h : k < p.length) : ∃ x, p[k]? = some x ∧ p.take (k + 1) = p.take k ++ [x] := ⟨p[k], List.getElem?_eq_getElem h, by rw [List.take_succ, List.getElem?_eq_getElem h]; rfl⟩
/-- a way that has come to its end goes into the table -/
theorem r_leaf {P Q W : Nat → Nat} {C : Nat} {c : mm_M} {a4 : Int32} {p : List Nat} {L : List (List Nat)} (hC : C ≤ 10) (h4 : a4.toInt = (p.length : Int)) (h7 : p.length ≤ 7) (hpC : ∀ i, i ∈ p → i < C) (hnt : r_nt c P Q W C) (ht : r_tb c W L) (hp : r_pa c p) (hL : L.length < 400) : vW (if mm_in (c 12 0 79) 400 then (
mm_let (mm_w c 119 0 ((c 12 0 79).toNatClampNeg) 0) fun m15 =>
if mm_in (m15 12 0 79) 400 then (
mm_let (mm_w m15 122 0 ((m15 12 0 79).toNatClampNeg) 0) fun m16 =>
if mm_in (m16 12 0 79) 400 then (
mm_let (mm_w m16 120 0 ((m16 12 0 79).toNatClampNeg) a4) fun m17 =>
(mm_b1 (mm_loop (σ := Int32 × mm_M) (ρ := (mm_M)) (fun (s : Int32 × mm_M) => match s with
| (v19, m20) => (if a4 ≤ v19 then (some (.inr m20))
else (if mm_in v19 10 then (
if mm_in ((10 * (m20 12 0 79)) + v19) 4000 then (
mm_let (mm_w m20 121 0 (((10 * (m20 12 0 79)) + v19).toNatClampNeg) (m20 123 0 v19.toNatClampNeg)) fun m21 =>
if mm_in (m21 12 0 79) 400 then (
if mm_in v19 10 then (
if mm_in (m21 123 0 v19.toNatClampNeg) 10 then (
if mm_in (m21 12 0 79) 400 then (
mm_let (mm_w m21 119 0 ((m21 12 0 79).toNatClampNeg) ((m21 119 0 (m21 12 0 79).toNatClampNeg) + (m21 116 0 (m21 123 0 v19.toNatClampNeg).toNatClampNeg))) fun m22 =>
if mm_in (m22 12 0 79) 400 then (
if mm_in v19 10 then (
if mm_in (m22 12 0 79) 400 then (
mm_let (mm_w m22 122 0 ((m22 12 0 79).toNatClampNeg) ((m22 122 0 (m22 12 0 79).toNatClampNeg) ||| (1 <<< ((m22 123 0 v19.toNatClampNeg) &&& 31)))) fun m23 =>
mm_let (v19 + 1) fun v24 =>
some (.inl (v24, m23))) else none) else none) else none) else none) else none) else none) else none) else none) else none) : Option ((Int32 × mm_M) ⊕ ((mm_M))))) mm_fu (0, m17)) fun m25 =>
mm_let (mm_w m25 12 0 79 ((m25 12 0 79) + 1)) fun m26 =>
some m26)) else none) else none) else none) (fun r => fp zLf c r ∧ r_tb r W (L ++ [p])) := by
  have i79 : mm_in (Int32.ofNat L.length) 400 := nJ_in hL (by omega)
  have k79 : (Int32.ofNat L.length).toNatClampNeg = L.length := nJ_N (by omega)
  have kc : (c 12 0 79).toNatClampNeg = L.length := by rw [ht.1]; exact k79
  refine v_ifp (by rw [ht.1]; exact i79) ?_
  refine v_lM ?_
  rw [kc]
  have e1 : mm_w c 119 0 L.length 0 12 0 79 = Int32.ofNat L.length := (mw_g (by decide)).trans ht.1
  have kc1 : (mm_w c 119 0 L.length 0 12 0 79).toNatClampNeg = L.length := by rw [e1]; exact k79
  refine v_ifp (by rw [e1]; exact i79) ?_
  refine v_lM ?_
  rw [kc1]
  have e2 : mm_w (mm_w c 119 0 L.length 0) 122 0 L.length 0 12 0 79 = Int32.ofNat L.length := (mw_g (by decide)).trans e1
  have kc2 : (mm_w (mm_w c 119 0 L.length 0) 122 0 L.length 0 12 0 79).toNatClampNeg = L.length := by rw [e2]; exact k79
  refine v_ifp (by rw [e2]; exact i79) ?_
  refine v_lM ?_
  rw [kc2]
  refine v_s1 (P := fun r => fp [(119, none, none), (120, none, none), (121, none, none), (122, none, none)] c r ∧ (∀ k i, ¬ i = L.length → r 119 k i = c 119 k i ∧ r 120 k i = c 120 k i ∧ r 122 k i = c 122 k i) ∧ (∀ k i, i < 10 * L.length → r 121 k i = c 121 k i) ∧ r 120 0 L.length = a4 ∧ r 119 0 L.length = Int32.ofNat (z_co W p) ∧ (∀ k, z_bt (r 122 0 L.length) k = decide (k ∈ p)) ∧ ∀ k x, p[k]? = some x → r 121 0 (10 * L.length + k) = Int32.ofNat x) ?_ (fun r hr => ?_)
  · refine v_for (fun j s => s.1.toInt = (j : Int) ∧ fp [(119, none, none), (120, none, none), (121, none, none), (122, none, none)] c s.2 ∧ (∀ k i, ¬ i = L.length → s.2 119 k i = c 119 k i ∧ s.2 120 k i = c 120 k i ∧ s.2 122 k i = c 122 k i) ∧ (∀ k i, i < 10 * L.length → s.2 121 k i = c 121 k i) ∧ s.2 120 0 L.length = a4 ∧ s.2 119 0 L.length = Int32.ofNat (z_co W (p.take j)) ∧ (∀ k, z_bt (s.2 122 0 L.length) k = decide (k ∈ p.take j)) ∧ ∀ k x, (p.take j)[k]? = some x → s.2 121 0 (10 * L.length + k) = Int32.ofNat x) 0 p.length (Nat.zero_le _) (by omega) ?_ ?_ ?_
    · refine ⟨i_0, fp_w rfl (fp_w rfl (fp_w rfl fp_rf)), fun k i hi => ?_, fun k i hi => ?_, ?_, ?_, fun k => ?_, fun k x hk => ?_⟩
      · dsimp only
        refine ⟨?_, ?_, ?_⟩
        · rw [mw_g (by decide), mw_g (by decide), mw_get, if_neg (fun z => hi z.2.2)]
        · rw [mw_get, if_neg (fun z => hi z.2.2), mw_g (by decide), mw_g (by decide)]
        · rw [mw_g (by decide), mw_get, if_neg (fun z => hi z.2.2), mw_g (by decide)]
      · dsimp only
        rw [mw_g (by decide), mw_g (by decide), mw_g (by decide)]
      · dsimp only
        exact mw_s
      · dsimp only
        rw [mw_g (by decide), mw_g (by decide), mw_s, List.take_zero]
        rfl
      · dsimp only
        rw [mw_g (by decide), mw_s, z_bt_0, List.take_zero]
        rfl
      · rw [List.take_zero] at hk
        cases hk
    · rintro j ⟨v, e⟩ hj ⟨hv, hf, h1, h2, h3, h5, h6, h8⟩
      dsimp only at hv hf h1 h2 h3 h5 h6 h8 ⊢
      obtain ⟨x, hx, htk⟩ := z_tk hj
      have hxp : x ∈ p := List.mem_of_getElem? hx
      have hxC := hpC x hxp
      have kv := n_k hv
      have iv : mm_in v 10 := v_in.mpr (by omega)
      have g79 : e 12 0 79 = Int32.ofNat L.length := (hf 12 0 79 rfl).trans ht.1
      have g123 : e 123 0 j = Int32.ofNat x := (hf 123 0 j rfl).trans (hp j x hx)
      have kx : (Int32.ofNat x).toNatClampNeg = x := nJ_N (by omega)
      have hix : (10 * Int32.ofNat L.length + v).toInt = ((10 * L.length + j : Nat) : Int) := iA_addN (iA_mulN (show (10 : Int32).toInt = ((10 : Nat) : Int) by decide) (nJ_T (by omega)) (by omega)) hv (by omega)
      have hixe : (10 * e 12 0 79 + v).toInt = ((10 * L.length + j : Nat) : Int) := by rw [g79]; exact hix
      have a1 := n_k hixe
      have a2 : e 123 0 v.toNatClampNeg = Int32.ofNat x := by rw [kv]; exact g123
      refine v_ifn (by rw [iA_le, h4, hv]; omega) ?_
      refine v_ifp iv ?_
      refine v_ifp (v_in.mpr (by rw [hixe]; omega)) ?_
      refine v_lM ?_
      rw [a1, a2]
      have w79 : mm_w e 121 0 (10 * L.length + j) (Int32.ofNat x) 12 0 79 = Int32.ofNat L.length := (mw_g (by decide)).trans g79
      have w123 : mm_w e 121 0 (10 * L.length + j) (Int32.ofNat x) 123 0 v.toNatClampNeg = Int32.ofNat x := (mw_g (by decide)).trans a2
      have w119 : mm_w e 121 0 (10 * L.length + j) (Int32.ofNat x) 119 0 L.length = Int32.ofNat (z_co W (p.take j)) := (mw_g (by decide)).trans h5
      have w116 : mm_w e 121 0 (10 * L.length + j) (Int32.ofNat x) 116 0 x = Int32.ofNat (W x) := ((mw_g (by decide)).trans (hf 116 0 x rfl)).trans (hnt.2 x hxC).2.2
      have b1 : (mm_w e 121 0 (10 * L.length + j) (Int32.ofNat x) 12 0 79).toNatClampNeg = L.length := by rw [w79]; exact k79
      have b2 : (mm_w e 121 0 (10 * L.length + j) (Int32.ofNat x) 123 0 v.toNatClampNeg).toNatClampNeg = x := by rw [w123]; exact kx
      refine v_ifp (by rw [w79]; exact i79) ?_
      refine v_ifp iv ?_
      refine v_ifp (by rw [w123]; exact nJ_in (by omega) (by omega)) ?_
      refine v_ifp (by rw [w79]; exact i79) ?_
      refine v_lM ?_
      rw [b1, b2, w119, w116]
      have y79 : ∀ q, mm_w (mm_w e 121 0 (10 * L.length + j) (Int32.ofNat x)) 119 0 L.length q 12 0 79 = Int32.ofNat L.length := fun q => (mw_g (by decide)).trans w79
      have y123 : ∀ q, mm_w (mm_w e 121 0 (10 * L.length + j) (Int32.ofNat x)) 119 0 L.length q 123 0 v.toNatClampNeg = Int32.ofNat x := fun q => (mw_g (by decide)).trans w123
      refine v_ifp (by rw [y79]; exact i79) ?_
      refine v_ifp iv ?_
      refine v_ifp (by rw [y79]; exact i79) ?_
      refine v_lM ?_
      refine v_l1 ?_
      rw [y79, k79, y123]
      refine v_il ⟨n_s3 hv (by omega), fp_w rfl (fp_w rfl (fp_w rfl hf)), fun k i hi => ?_, fun k i hi => ?_, ?_, ?_, fun k => ?_, fun k y hy => ?_⟩
      · dsimp only
        obtain ⟨a1, a2, a3⟩ := h1 k i hi
        refine ⟨?_, ?_, ?_⟩
        · rw [mw_g (by decide), mw_get, if_neg (fun z => hi z.2.2), mw_g (by decide)]
          exact a1
        · rw [mw_g (by decide), mw_g (by decide), mw_g (by decide)]
          exact a2
        · rw [mw_get, if_neg (fun z => hi z.2.2), mw_g (by decide), mw_g (by decide)]
          exact a3
      · dsimp only
        rw [mw_g (by decide), mw_g (by decide), mw_get, if_neg (fun z => by omega)]
        exact h2 k i hi
      · dsimp only
        rw [mw_g (by decide), mw_g (by decide), mw_g (by decide)]
        exact h3
      · dsimp only
        rw [mw_g (by decide), mw_s, htk, nJ_a, z_co_a]
      · dsimp only
        rw [mw_s, mw_g (by decide), mw_g (by decide), z_bt_or, h6, z_bt_s (nJ_T (by omega)) (by omega), htk]
        simp only [List.mem_append, List.mem_singleton, Bool.decide_or]
      · dsimp only
        rw [mw_g (by decide), mw_g (by decide)]
        rw [htk] at hy
        have hlt : (p.take j).length = j := by rw [List.length_take]; omega
        rcases z_apx hy with ⟨hk, hy⟩ | ⟨hk, hy⟩
        · rw [mw_k (by omega)]
          exact h8 k y hy
        · rw [hk, hlt, hy, mw_s]
    · rintro ⟨v, e⟩ ⟨hv, hf, h1, h2, h3, h5, h6, h8⟩
      dsimp only at hv hf h1 h2 h3 h5 h6 h8 ⊢
      rw [List.take_length] at h5 h6 h8
      refine v_ifp (by rw [iA_le, h4, hv]; omega) ?_
      exact v_ir ⟨hf, h1, h2, h3, h5, h6, h8⟩
  · obtain ⟨hf, h1, h2, h3, h5, h6, h8⟩ := hr
    have g79 : r 12 0 79 = Int32.ofNat L.length := (hf 12 0 79 rfl).trans ht.1
    refine v_lM ?_
    refine v_so ⟨fp_w rfl (fp_sb (by decide) hf), ?_, fun w q hq => ?_⟩
    · rw [mw_s, g79, n_a1, List.length_append]
      rfl
    · by_cases hw : w < L.length
      · rw [List.getElem?_append_left hw] at hq
        obtain ⟨a1, a2, a3, a4, a5⟩ := ht.2 w q hq
        obtain ⟨b1, b2, b3⟩ := h1 0 w (by omega)
        refine ⟨a1, ?_, ?_, fun k x hk => ?_, fun k => ?_⟩
        · rw [mw_g (by decide), b1]
          exact a2
        · rw [mw_g (by decide), b2]
          exact a3
        · have hkl : k < q.length := by
            by_cases hkl : k < q.length
            · exact hkl
            · rw [List.getElem?_eq_none (by omega)] at hk
              cases hk
          rw [mw_g (by decide), h2 0 _ (by omega)]
          exact a4 k x hk
        · rw [mw_g (by decide), b3]
          exact a5 k
      · rw [List.getElem?_append_right (by omega)] at hq
        have hwe : w = L.length := by
          by_cases hwe : w = L.length
          · exact hwe
          · obtain ⟨j, hj⟩ : ∃ j, w - L.length = j + 1 := ⟨w - L.length - 1, by omega⟩
            rw [hj] at hq
            cases hq
        rw [hwe, Nat.sub_self] at hq
        have hq2 : some p = some q := hq
        cases hq2
        rw [hwe]
        refine ⟨⟨h7, fun x hx => by have := hpC x hx; omega⟩, ?_, ?_, fun k x hk => ?_, fun k => ?_⟩
        · rw [mw_g (by decide)]
          exact h5
        · rw [mw_g (by decide), h3]
          exact n_0L (by omega) h4
        · rw [mw_g (by decide)]
          exact h8 k x hk
        · rw [mw_g (by decide)]
          exact h6 k
theorem r_go {P Q W : Nat → Nat} {C d : Nat} {bar : Nat → Bool} {D a5 : Int32} (hC : C ≤ 10) (hP : ∀ i, i < C → P i < 8 ∧ Q i < 8) (hb : ∀ i, i < 10 → z_bt a5 i = bar i) (hD : D.toInt = (d : Int)) : ∀ (n : Nat) (S p : List Nat) (u : Nat) (U A3 a4 : Int32) (c : mm_M) (L : List (List Nat)), U.toInt = (u : Int) → u < 8 → u ∈ S → p.length + z_uv S ≤ 7 → 16 ≤ n + p.length → (∀ x, x < 8 → z_bt A3 x = decide (x ∈ S)) → (∀ i, i ∈ p → i < C) → a4.toInt = (p.length : Int) → r_nt c P Q W C → r_pa c p → r_tb c W L → L.length + (z_ws P Q C bar d n S p u).length ≤ 400 → vW (f_X12_go n U D A3 a4 a5 c) (fun r => fp zGo c r ∧ r_pa r p ∧ r_tb r W (L ++ z_ws P Q C bar d n S p u))
  | 0, S, p, u, U, A3, a4, c, L, _, _, _, h7, h16, _, _, _, _, _, _, _ => by omega
  | n + 1, S, p, u, U, A3, a4, c, L, hU, hu, huS, h7, h16, hS, hpC, h4, hnt, hpa, htb, hln => by
    rw [f_X12_go]
    by_cases hud : u = d
    · refine v_ifn (fun z => z (by rw [iA_eq, hU, hD, hud])) ?_
      rw [z_ws_d hud] at hln ⊢
      have hln2 : L.length + 1 ≤ 400 := hln
      refine v_mono (r_leaf hC h4 (by omega) hpC hnt htb hpa (by omega)) (fun r hr => ⟨fp_sb (by decide) hr.1, fun k x hk => ?_, hr.2⟩)
      rw [hr.1 123 0 k rfl]
      exact hpa k x hk
    · refine v_ifp (fun z => hud (by have := iA_eq.mp z; omega)) ?_
      rw [z_ws_n hud] at hln ⊢
      refine v_s1 (P := fun r => fp zGo c r ∧ r_pa r p ∧ r_tb r W (L ++ (List.range C).flatMap fun i => z_on (z_br P Q bar S u i) (fun w => z_ws P Q C bar d n (w :: S) (p ++ [i]) w))) ?_ (fun r hr => v_so hr)
      refine v_for (fun j s => s.1.toInt = (j : Int) ∧ fp zGo c s.2 ∧ r_pa s.2 p ∧ r_tb s.2 W (L ++ (List.range j).flatMap fun i => z_on (z_br P Q bar S u i) (fun w => z_ws P Q C bar d n (w :: S) (p ++ [i]) w))) 0 C (Nat.zero_le _) (by omega) ⟨i_0, fp_rf, hpa, by show r_tb c W (L ++ []); rw [List.append_nil]; exact htb⟩ ?_ ?_
      · rintro j ⟨v, e⟩ hj ⟨hv, hf, hpe, hte⟩
        dsimp only at hv hf hpe hte ⊢
        have hne := r_nt_fr hf (by decide) hnt
        have kv := n_k hv
        have iv : mm_in v 10 := v_in.mpr (by omega)
        obtain ⟨e1, e2, _⟩ := hne.2 j hj
        have hPj := hP j hj
        have hUe : U = Int32.ofNat u := n_0L (by omega) hU
        have nxt : ∀ r, z_on (z_br P Q bar S u j) (fun w => z_ws P Q C bar d n (w :: S) (p ++ [j]) w) = [] → r = e → v_st (fun s : Int32 × mm_M => s.1.toInt = ((j + 1 : Nat) : Int) ∧ fp zGo c s.2 ∧ r_pa s.2 p ∧ r_tb s.2 W (L ++ (List.range (j + 1)).flatMap fun i => z_on (z_br P Q bar S u i) (fun w => z_ws P Q C bar d n (w :: S) (p ++ [i]) w))) (fun r => fp zGo c r ∧ r_pa r p ∧ r_tb r W (L ++ (List.range C).flatMap fun i => z_on (z_br P Q bar S u i) (fun w => z_ws P Q C bar d n (w :: S) (p ++ [i]) w))) (.inl (v + 1, r)) := fun r h1 h2 => by
          refine v_pl.mpr ⟨n_s3 hv (by omega), ?_⟩
          rw [z_fl, h1, List.append_nil, h2]
          exact ⟨hf, hpe, hte⟩
        refine v_ifn (by rw [iA_le, hne.1, hv, nJ_T (by omega)]; omega) ?_
        by_cases hbj : bar j = true
        · refine v_ifp (z_bt_t1 hv (by omega) (by rw [hb j (by omega)]; exact hbj)) ?_
          refine v_l1 ?_
          exact v_so (nxt e (by rw [z_br_b hbj]; rfl) rfl)
        · have hbf : bar j = false := by
            cases hx : bar j
            · rfl
            · exact absurd hx hbj
          refine v_ifn (by rw [z_bt_t0 hv (by omega) (by rw [hb j (by omega)]; exact hbf)]; decide) ?_
          refine v_ifp iv ?_
          have r112 : e 112 0 v.toNatClampNeg = Int32.ofNat (P j) := by rw [kv]; exact e1
          have r113 : e 113 0 v.toNatClampNeg = Int32.ofNat (Q j) := by rw [kv]; exact e2
          have stp : ∀ (x : Int32) (w : Nat), x = Int32.ofNat w → z_oth P Q j u = some w → vW (if ((A3 >>> (x &&& 31)) &&& 1) ≠ 1 then (if mm_in a4 10 then (
mm_let (mm_w e 123 0 a4.toNatClampNeg v) fun m8 =>
mm_b1 (f_X12_go n x D (A3 ||| (1 <<< (x &&& 31))) (a4 + 1) a5 m8) fun m10 =>
mm_let (v + 1) fun v11 =>
some (.inl (v11, m10))) else none)
else (mm_let (v + 1) fun v12 =>
some (.inl (v12, e))) : Option ((Int32 × mm_M) ⊕ ((mm_M)))) (v_st (fun s : Int32 × mm_M => s.1.toInt = ((j + 1 : Nat) : Int) ∧ fp zGo c s.2 ∧ r_pa s.2 p ∧ r_tb s.2 W (L ++ (List.range (j + 1)).flatMap fun i => z_on (z_br P Q bar S u i) (fun w => z_ws P Q C bar d n (w :: S) (p ++ [i]) w))) (fun r => fp zGo c r ∧ r_pa r p ∧ r_tb r W (L ++ (List.range C).flatMap fun i => z_on (z_br P Q bar S u i) (fun w => z_ws P Q C bar d n (w :: S) (p ++ [i]) w)))) := fun x w hxw ho => by
            subst hxw
            have hw8 : w < 8 := by
              rcases z_oth_e ho with ⟨_, z⟩ | ⟨_, z⟩
              · rw [← z]
                exact hPj.2
              · rw [← z]
                exact hPj.1
            have hwn : (Int32.ofNat w).toInt = (w : Int) := nJ_T (by omega)
            by_cases hwS : w ∈ S
            · refine v_ifn (fun z => z (z_bt_t1 hwn (by omega) (by rw [hS w hw8]; exact decide_eq_true hwS))) ?_
              refine v_l1 ?_
              exact v_so (nxt e (by rw [z_br_s ho hwS]; rfl) rfl)
            · refine v_ifp (by rw [z_bt_t0 hwn (by omega) (by rw [hS w hw8]; exact decide_eq_false hwS)]; decide) ?_
              have hun := z_uv_c hw8 hwS
              have k4 := n_k h4
              have hlj : (p ++ [j]).length = p.length + 1 := by rw [List.length_append]; rfl
              refine v_ifp (v_in.mpr (by omega)) ?_
              refine v_lM ?_
              rw [k4]
              have f1 : fp [(123, none, none)] e (mm_w e 123 0 p.length v) := fp_w rfl fp_rf
              have hbw : z_on (z_br P Q bar S u j) (fun w => z_ws P Q C bar d n (w :: S) (p ++ [j]) w) = z_ws P Q C bar d n (w :: S) (p ++ [j]) w := by
                rw [z_br_w hbf ho hwS]
                rfl
              have hcnt := z_pfx (F := fun i => z_on (z_br P Q bar S u i) (fun w => z_ws P Q C bar d n (w :: S) (p ++ [i]) w)) C (show j + 1 ≤ C by omega)
              rw [z_fl, hbw, List.length_append] at hcnt
              refine v_s1 (r_go hC hP hb hD n (w :: S) (p ++ [j]) w (Int32.ofNat w) (A3 ||| ((1 : Int32) <<< (Int32.ofNat w &&& 31))) (a4 + 1) (mm_w e 123 0 p.length v) (L ++ (List.range j).flatMap fun i => z_on (z_br P Q bar S u i) (fun w => z_ws P Q C bar d n (w :: S) (p ++ [i]) w)) hwn hw8 List.mem_cons_self (by omega) (by omega) (fun x hx => ?_) (fun i hi => ?_) (by rw [hlj]; exact n_s3 h4 (by omega)) (r_nt_fr f1 (by decide) hne) (fun k x hk => ?_) (r_tb_fr f1 (by decide) hte) (by rw [List.length_append]; omega)) (fun r2 hr2 => ?_)
              · rw [z_bt_or, hS x hx, z_bt_s hwn (by omega)]
                simp only [List.mem_cons, Bool.decide_or]
                exact Bool.or_comm _ _
              · rcases List.mem_append.mp hi with hi | hi
                · exact hpC i hi
                · rw [List.mem_singleton.mp hi]
                  exact hj
              · rcases z_apx hk with ⟨hk, hx⟩ | ⟨hk, hx⟩
                · rw [mw_k (by omega)]
                  exact hpe k x hx
                · rw [hk, hx, mw_s]
                  exact n_0L (by omega) hv
              · refine v_l1 ?_
                refine v_il ⟨n_s3 hv (by omega), fp_tr hf (fp_tr (fp_sb (by decide) f1) hr2.1), fun k x hk => ?_, ?_⟩
                · have hkl : k < p.length := by
                    by_cases hkl : k < p.length
                    · exact hkl
                    · rw [List.getElem?_eq_none (by omega)] at hk
                      cases hk
                  exact hr2.2.1 k x (by rw [List.getElem?_append_left hkl]; exact hk)
                · dsimp only
                  rw [z_fl, hbw, ← List.append_assoc]
                  exact hr2.2.2
          refine v_lO ?_
          have hK : ∀ w, z_oth P Q j u = some w → vW ((if mm_in v 10 then (
mm_let (fun (w6 : Int32) => (if ((A3 >>> (w6 &&& 31)) &&& 1) ≠ 1 then (if mm_in a4 10 then (
mm_let (mm_w e 123 0 a4.toNatClampNeg v) fun m8 =>
mm_b1 (f_X12_go n w6 D (A3 ||| (1 <<< (w6 &&& 31))) (a4 + 1) a5 m8) fun m10 =>
mm_let (v + 1) fun v11 =>
some (.inl (v11, m10))) else none)
else (mm_let (v + 1) fun v12 =>
some (.inl (v12, e))) : Option ((Int32 × mm_M) ⊕ ((mm_M))))) fun k7 =>
if (e 112 0 v.toNatClampNeg) ≠ U then (if mm_in v 10 then (
k7 (e 112 0 v.toNatClampNeg)) else none)
else (if mm_in v 10 then (
k7 (e 113 0 v.toNatClampNeg)) else none)) else none : Option ((Int32 × mm_M) ⊕ ((mm_M))))) (v_st (fun s : Int32 × mm_M => s.1.toInt = ((j + 1 : Nat) : Int) ∧ fp zGo c s.2 ∧ r_pa s.2 p ∧ r_tb s.2 W (L ++ (List.range (j + 1)).flatMap fun i => z_on (z_br P Q bar S u i) (fun w => z_ws P Q C bar d n (w :: S) (p ++ [i]) w))) (fun r => fp zGo c r ∧ r_pa r p ∧ r_tb r W (L ++ (List.range C).flatMap fun i => z_on (z_br P Q bar S u i) (fun w => z_ws P Q C bar d n (w :: S) (p ++ [i]) w)))) := fun w ho => by
            refine v_ifp iv ?_
            refine v_lF ?_
            by_cases h1 : P j = u
            · have e5 : z_oth P Q j u = some (Q j) := if_pos h1
              refine v_ifn (fun z => z (by rw [r112, hUe, h1])) ?_
              refine v_ifp iv ?_
              exact stp _ (Q j) r113 e5
            · refine v_ifp (fun z => h1 ((n_eq (by omega) (by omega)).mp (r112.symm.trans (z.trans hUe)))) ?_
              refine v_ifp iv ?_
              have h2 : Q j = u := by
                rcases z_oth_e ho with ⟨z, _⟩ | ⟨z, _⟩
                · exact absurd z h1
                · exact z
              exact stp _ (P j) r112 ((if_neg h1).trans (if_pos h2))
          by_cases h1 : P j = u
          · refine v_ifp (by rw [r112, hUe, h1]) ?_
            exact hK (Q j) (if_pos h1)
          · refine v_ifn (fun z => h1 ((n_eq (by omega) (by omega)).mp (r112.symm.trans (z.trans hUe)))) ?_
            refine v_ifp iv ?_
            by_cases h2 : Q j = u
            · refine v_ifp (by rw [r113, hUe, h2]) ?_
              exact hK (P j) ((if_neg h1).trans (if_pos h2))
            · refine v_ifn (fun z => h2 ((n_eq (by omega) (by omega)).mp (r113.symm.trans (z.trans hUe)))) ?_
              refine v_l1 ?_
              exact v_so (nxt e (by rw [z_br_n ((if_neg h1).trans (if_neg h2))]; rfl) rfl)
      · rintro ⟨v, e⟩ ⟨hv, hf, hpe, hte⟩
        dsimp only at hv hf hpe hte ⊢
        have hne := r_nt_fr hf (by decide) hnt
        refine v_ifp (by rw [iA_le, hne.1, hv, nJ_T (by omega)]; omega) ?_
        exact v_ir ⟨hf, hpe, hte⟩
/-- all ways, in their order -/
theorem r_ways {P Q W : Nat → Nat} {C d u : Nat} {bar : Nat → Bool} {U D a3 : Int32} {c : mm_M} (hC : C ≤ 10) (hP : ∀ i, i < C → P i < 8 ∧ Q i < 8) (hb : ∀ i, i < 10 → z_bt a3 i = bar i) (hD : D.toInt = (d : Int)) (hU : U.toInt = (u : Int)) (hu : u < 8) (hnt : r_nt c P Q W C) : vW (f_X12_tellWays U D a3 c) (fun r => fp zGo c r ∧ r_tb r W (z_ws P Q C bar d 16 [u] [] u)) := by
  unfold f_X12_tellWays
  refine v_lM ?_
  have f2 : fp zGo c (mm_w c 12 0 79 0) := fp_w rfl fp_rf
  have hun := z_uv_1 hu
  have h36 := z_ws_36 (P := P) (Q := Q) (bar := bar) (d := d) (n := 16) (p := []) hC (show u ∈ [u] from List.mem_cons_self)
  refine v_s1 (r_go (W := W) hC hP hb hD 16 [u] [] u U ((1 : Int32) <<< (U &&& 31)) 0 (mm_w c 12 0 79 0) [] hU hu List.mem_cons_self (by show 0 + z_uv [u] ≤ 7; omega) (by omega) (fun x hx => ?_) (fun i hi => (by cases hi)) i_0 (r_nt_fr f2 (by decide) hnt) (fun k x h => (by cases h)) ⟨mw_s, fun w p h => (by cases h)⟩ (by show 0 + _ ≤ 400; omega)) (fun r2 hr2 => ?_)
  · rw [z_bt_s hU (by omega)]
    simp only [List.mem_singleton]
  · exact v_so ⟨fp_tr f2 hr2.1, hr2.2.2⟩
