/-! walking the net: the class -/
def c_wf (i : Nat) (m r : mm_M) : Prop := ∀ g j k, ¬ (j = i ∧ (g = 10 ∨ g = 62)) → r g j k = m g j k
theorem c_wfr {i : Nat} {m : mm_M} : c_wf i m m := fun _ _ _ _ => rfl
theorem c_wft {i : Nat} {m1 m2 m3 : mm_M} (h1 : c_wf i m1 m2) (h2 : c_wf i m2 m3) : c_wf i m1 m3 := fun g j k h => (h2 g j k h).trans (h1 g j k h)
theorem c_wfw {i g k : Nat} {m m1 : mm_M} {x : Int32} (h : g = 10 ∨ g = 62) (h1 : c_wf i m m1) : c_wf i m (mm_w m1 g i k x) := fun g' j' k' h' => by
  rw [mw_get, if_neg (fun z => h' ⟨z.2.1, by rw [z.1]; exact h⟩)]
  exact h1 g' j' k' h'
theorem c_wfa {i g : Nat} {m m1 : mm_M} {f : Nat → Int32} (h : g = 10 ∨ g = 62) (h1 : c_wf i m m1) : c_wf i m (mm_wa m1 g i f) := fun g' j' k' h' => by
  have e : mm_wa m1 g i f g' j' = m1 g' j' := if_neg (fun z => h' ⟨z.2, by rw [z.1]; exact h⟩)
  rw [e]
  exact h1 g' j' k' h'
theorem z_inf {L : zT} {g i k : Nat} {P : Prop} (h : z_in L g i k = true) (h2 : z_in L g i k = false) : P := by
  rw [h] at h2
  cases h2
theorem c_wfp {i : Nat} {L : zT} {m r : mm_M} (h1 : ∀ k, z_in L 10 i k = true) (h2 : ∀ k, z_in L 62 i k = true) (h : c_wf i m r) : fp L m r := fun g j k hz => h g j k (fun z => by
  obtain ⟨rfl, rfl | rfl⟩ := z
  · exact z_inf (h1 k) hz
  · exact z_inf (h2 k) hz)
/-- a walk's fields tell the way p -/
def z_wak (c : mm_M) (i : Nat) (W : Nat → Nat) (p : List Nat) : Prop := p.length ≤ 7 ∧ (∀ x, x ∈ p → x < 10) ∧ c 10 i 1 = Int32.ofNat p.length ∧ c 10 i 2 = Int32.ofNat (z_co W p) ∧ (∀ k, z_bt (c 10 i 3) k = decide (k ∈ p)) ∧ ∀ k x, p[k]? = some x → c 62 i k = Int32.ofNat x
theorem z_wak_fr {c r : mm_M} {i : Nat} {W : Nat → Nat} {p : List Nat} (h1 : ∀ k, r 10 i k = c 10 i k) (h2 : ∀ k, r 62 i k = c 62 i k) (h : z_wak c i W p) : z_wak r i W p := by
  unfold z_wak at h ⊢
  simp only [h1, h2]
  exact h
def z_ho (c : mm_M) (i : Nat) (W : Nat → Nat) (o : Option (List Nat)) : Prop := match o with
  | none => c 10 i 2 = -1
  | some q => z_wak c i W q
theorem z_ho_fr {c r : mm_M} {i : Nat} {W : Nat → Nat} {o : Option (List Nat)} (h1 : ∀ k, r 10 i k = c 10 i k) (h2 : ∀ k, r 62 i k = c 62 i k) (h : z_ho c i W o) : z_ho r i W o := by
  cases o with
  | none =>
    show r 10 i 2 = -1
    rw [h1]
    exact h
  | some q => exact z_wak_fr h1 h2 h
theorem c_clr {c : mm_M} {i : Nat} {W : Nat → Nat} : vW (f_X10_clear i c) (fun r => c_wf i c r ∧ z_wak r i W []) := by
  unfold f_X10_clear
  refine v_lM ?_
  refine v_lM ?_
  refine v_lM ?_
  refine v_so ⟨c_wfw (Or.inl rfl) (c_wfw (Or.inl rfl) (c_wfw (Or.inl rfl) c_wfr)), Nat.zero_le _, fun x hx => (by cases hx), ?_, ?_, fun k => ?_, fun k x h => (by cases h)⟩
  · rw [mw_k (show 1 ≠ 3 by decide), mw_k (show 1 ≠ 2 by decide), mw_s]
    rfl
  · rw [mw_k (show 2 ≠ 3 by decide), mw_s]
    rfl
  · rw [mw_s, z_bt_0]
    rfl
theorem c_take {c : mm_M} {W : Nat → Nat} {i0 i1 : Nat} {p : List Nat} (hi : ¬ i1 = i0) (h : z_wak c i1 W p) : vW (f_X10_takeOver i0 i1 c) (fun r => c_wf i0 c r ∧ z_wak r i0 W p) := by
  obtain ⟨h1, h2, h3, h4, h5, h6⟩ := h
  unfold f_X10_takeOver
  refine v_ifp (by decide) ?_
  refine v_lM ?_
  refine v_lM ?_
  refine v_lM ?_
  refine v_lM ?_
  refine v_so ⟨c_wfw (Or.inl rfl) (c_wfw (Or.inl rfl) (c_wfw (Or.inl rfl) (c_wfa (Or.inr rfl) c_wfr))), h1, h2, ?_, ?_, fun k => ?_, fun k x hx => ?_⟩
  · rw [mw_k (show 1 ≠ 3 by decide), mw_k (show 1 ≠ 2 by decide), mw_s, mwa_g (show 10 ≠ 62 by decide)]
    exact h3
  · rw [mw_k (show 2 ≠ 3 by decide), mw_s, mw_i hi, mwa_g (show 10 ≠ 62 by decide)]
    exact h4
  · rw [mw_s, mw_i hi, mw_i hi, mwa_g (show 10 ≠ 62 by decide)]
    exact h5 k
  · have hk : k < p.length := by
      by_cases hk : k < p.length
      · exact hk
      · rw [List.getElem?_eq_none (by omega)] at hx
        cases hx
    rw [mw_g (show 62 ≠ 10 by decide), mw_g (show 62 ≠ 10 by decide), mw_g (show 62 ≠ 10 by decide), mwa_s, pk_cpy_in (Nat.zero_le _) (by omega), Nat.sub_zero, Nat.zero_add]
    exact h6 k x hx
theorem c_lessW {c : mm_M} {W : Nat → Nat} {i0 i1 : Nat} {p q : List Nat} (hW : ∀ i, W i ≤ 2400000) (hp : z_wak c i0 W p) (hq : z_wak c i1 W q) : f_X10_isLessThan i0 i1 c = some (if z_lt2 W p q = true then 1 else 0) := by
  have b1 := z_co_b hW p
  have b2 := z_co_b hW q
  have l1 := hp.1
  have l2 := hq.1
  have ep1 := hp.2.2.1
  have ep2 := hp.2.2.2.1
  have eq1 := hq.2.2.1
  have eq2 := hq.2.2.2.1
  apply v_is
  unfold f_X10_isLessThan
  by_cases h1 : z_co W p < z_co W q
  · refine v_ifp (by rw [iA_lt, ep2, eq2, nJ_T (by omega), nJ_T (by omega)]; omega) ?_
    exact v_so (if_pos (decide_eq_true (Or.inl h1))).symm
  refine v_ifn (by rw [iA_lt, ep2, eq2, nJ_T (by omega), nJ_T (by omega)]; omega) ?_
  by_cases h2 : z_co W p = z_co W q
  · refine v_ifn (fun z => z (by rw [ep2, eq2, h2])) ?_
    by_cases h3 : p.length < q.length
    · refine v_ifn (by rw [iA_le, ep1, eq1, nJ_T (by omega), nJ_T (by omega)]; omega) ?_
      exact v_so (if_pos (decide_eq_true (Or.inr ⟨h2, h3⟩))).symm
    · refine v_ifp (by rw [iA_le, ep1, eq1, nJ_T (by omega), nJ_T (by omega)]; omega) ?_
      exact v_so (if_neg (fun z => by have := of_decide_eq_true z; omega)).symm
  · refine v_ifp (by rw [ep2, eq2]; exact fun z => h2 ((n_eq (by omega) (by omega)).mp z)) ?_
    exact v_so (if_neg (fun z => by have := of_decide_eq_true z; omega)).symm
theorem c_wadd {c : mm_M} {W : Nat → Nat} {i0 x : Nat} {a1 : Int32} {p : List Nat} (ha : a1.toInt = (x : Int)) (hx : x < 10) (h : z_wak c i0 W p) (h6 : p.length ≤ 6) : vW (f_X10_add i0 a1 (Int32.ofNat (W x)) c) (fun r => c_wf i0 c r ∧ z_wak r i0 W (p ++ [x])) := by
  obtain ⟨h1, h2, h3, h4, h5, h7⟩ := h
  have kp : (c 10 i0 1).toNatClampNeg = p.length := by rw [h3, nJ_N (by omega)]
  unfold f_X10_add
  refine v_ifn (by rw [h3, iA_le, i_8, nJ_T (by omega)]; omega) ?_
  refine v_ifp (by rw [h3]; exact nJ_in (by omega) (by omega)) ?_
  rw [kp]
  refine v_lM ?_
  refine v_lM ?_
  refine v_lM ?_
  refine v_lM ?_
  have hl : (p ++ [x]).length = p.length + 1 := by rw [List.length_append]; rfl
  refine v_so ⟨c_wfw (Or.inl rfl) (c_wfw (Or.inl rfl) (c_wfw (Or.inl rfl) (c_wfw (Or.inr rfl) c_wfr))), by omega, fun y hy => ?_, ?_, ?_, fun k => ?_, fun k y hy => ?_⟩
  · rcases List.mem_append.mp hy with hy | hy
    · exact h2 y hy
    · rw [List.mem_singleton.mp hy]
      exact hx
  · rw [mw_k (show 1 ≠ 3 by decide), mw_k (show 1 ≠ 2 by decide), mw_s, mw_g (show 10 ≠ 62 by decide), h3, n_a1, hl]
  · rw [mw_k (show 2 ≠ 3 by decide), mw_s, mw_k (show 2 ≠ 1 by decide), mw_g (show 10 ≠ 62 by decide), h4, nJ_a, z_co_a]
  · rw [mw_s, mw_k (show 3 ≠ 2 by decide), mw_k (show 3 ≠ 1 by decide), mw_g (show 10 ≠ 62 by decide), z_bt_or, h5, z_bt_s ha hx]
    simp only [List.mem_append, List.mem_singleton, Bool.decide_or]
  · rw [mw_g (show 62 ≠ 10 by decide), mw_g (show 62 ≠ 10 by decide), mw_g (show 62 ≠ 10 by decide)]
    rcases z_apx hy with ⟨hk, hy⟩ | ⟨hk, hy⟩
    · rw [mw_k (by omega)]
      exact h7 k y hy
    · rw [hk, hy, mw_s]
      exact n_0L (by omega) ha
theorem c_wdrop {c : mm_M} {W : Nat → Nat} {i0 x : Nat} {p : List Nat} (h : z_wak c i0 W (p ++ [x])) (hx : ¬ x ∈ p) : vW (f_X10_dropLast i0 (Int32.ofNat (W x)) c) (fun r => c_wf i0 c r ∧ z_wak r i0 W p) := by
  obtain ⟨h1, h2, h3, h4, h5, h7⟩ := h
  have hl : (p ++ [x]).length = p.length + 1 := by rw [List.length_append]; rfl
  rw [hl] at h1 h3
  rw [z_co_a] at h4
  have hx10 : x < 10 := h2 x (List.mem_append.mpr (Or.inr (List.mem_singleton.mpr rfl)))
  unfold f_X10_dropLast
  refine v_ifn (by rw [h3, iA_le, i_0, nJ_T (by omega)]; omega) ?_
  refine v_lM ?_
  refine v_lM ?_
  have e1 : mm_w (mm_w c 10 i0 1 (c 10 i0 1 - 1)) 10 i0 2 (mm_w c 10 i0 1 (c 10 i0 1 - 1) 10 i0 2 - Int32.ofNat (W x)) 10 i0 1 = Int32.ofNat p.length := by rw [mw_k (show 1 ≠ 2 by decide), mw_s, h3, n_d (by omega), Nat.add_sub_cancel]
  refine v_ifp (by rw [e1]; exact nJ_in (by omega) (by omega)) ?_
  refine v_lM ?_
  rw [e1, nJ_N (show p.length < 2147483648 by omega)]
  refine v_so ⟨c_wfw (Or.inl rfl) (c_wfw (Or.inl rfl) (c_wfw (Or.inl rfl) c_wfr)), by omega, fun y hy => h2 y (List.mem_append.mpr (Or.inl hy)), ?_, ?_, fun k => ?_, fun k y hy => ?_⟩
  · rw [mw_k (show 1 ≠ 3 by decide)]
    exact e1
  · rw [mw_k (show 2 ≠ 3 by decide), mw_s, mw_k (show 2 ≠ 1 by decide), h4, n_sb (by omega), Nat.add_sub_cancel]
  · rw [mw_s, mw_k (show 3 ≠ 2 by decide), mw_k (show 3 ≠ 1 by decide), mw_g (show 62 ≠ 10 by decide), mw_g (show 62 ≠ 10 by decide), h7 p.length x z_apl, z_bt_n (nJ_T (by omega)) hx10, h5]
    by_cases hk : k = x
    · rw [decide_eq_true hk, hk, decide_eq_false hx, Bool.not_true, Bool.and_false]
    · rw [decide_eq_false hk, Bool.not_false, Bool.and_true]
      simp only [List.mem_append, List.mem_singleton, hk, or_false]
  · rw [mw_g (show 62 ≠ 10 by decide), mw_g (show 62 ≠ 10 by decide), mw_g (show 62 ≠ 10 by decide)]
    refine h7 k y ?_
    have hk : k < p.length := by
      by_cases hk : k < p.length
      · exact hk
      · rw [List.getElem?_eq_none (by omega)] at hy
        cases hy
    rw [List.getElem?_append_left hk]
    exact hy
/-- the net as the class has it -/
def z_nt (c : mm_M) (P Q W : Nat → Nat) (C : Nat) : Prop := c 9 0 5 = Int32.ofNat C ∧ ∀ i, i < C → c 52 0 i = Int32.ofNat (P i) ∧ c 53 0 i = Int32.ofNat (Q i) ∧ c 56 0 i = Int32.ofNat (W i)
theorem z_nt_fr {L : zT} {c r : mm_M} {P Q W : Nat → Nat} {C : Nat} (hf : fp L c r) (hd : z_dis [(9, none, some 5), (52, none, none), (53, none, none), (56, none, none)] L = true) (h : z_nt c P Q W C) : z_nt r P Q W C := ⟨(hf 9 0 5 (z_dis_of hd rfl)).trans h.1, fun i hi => ⟨(hf 52 0 i (z_dis_of hd rfl)).trans (h.2 i hi).1, (hf 53 0 i (z_dis_of hd rfl)).trans (h.2 i hi).2.1, (hf 56 0 i (z_dis_of hd rfl)).trans (h.2 i hi).2.2⟩⟩
theorem c_othE {c : mm_M} {P Q W : Nat → Nat} {C j u : Nat} {v U : Int32} (hC : C ≤ 10) (hP : ∀ i, i < C → P i < 8 ∧ Q i < 8) (h : z_nt c P Q W C) (hv : v.toInt = (j : Int)) (hj : j < C) (hU : U.toInt = (u : Int)) (hu : u < 8) : f_X4_otherEnd v U c = some (match z_oth P Q j u with
  | none => -1
  | some w => Int32.ofNat w) := by
  have kv := n_k hv
  have iv : mm_in v 10 := v_in.mpr (by omega)
  obtain ⟨e1, e2, e3⟩ := h.2 j hj
  have b := hP j hj
  have hUe : U = Int32.ofNat u := n_0L (by omega) hU
  apply v_is
  unfold f_X4_otherEnd z_oth
  have r1 : c 52 0 v.toNatClampNeg = Int32.ofNat (P j) := by rw [kv]; exact e1
  have r2 : c 53 0 v.toNatClampNeg = Int32.ofNat (Q j) := by rw [kv]; exact e2
  refine v_ifp iv ?_
  by_cases h1 : P j = u
  · refine v_ifn (fun z => z (by rw [r1, hUe, h1])) ?_
    refine v_ifp iv ?_
    refine v_so ?_
    rw [if_pos h1]
    exact r2
  · refine v_ifp (fun z => h1 ((n_eq (by omega) (by omega)).mp (r1.symm.trans (z.trans hUe)))) ?_
    refine v_ifp iv ?_
    rw [if_neg h1]
    by_cases h2 : Q j = u
    · refine v_ifn (fun z => z (by rw [r2, hUe, h2])) ?_
      refine v_ifp iv ?_
      refine v_so ?_
      rw [if_pos h2]
      exact r1
    · refine v_ifp (fun z => h2 ((n_eq (by omega) (by omega)).mp (r2.symm.trans (z.trans hUe)))) ?_
      refine v_so ?_
      rw [if_neg h2]
abbrev zWk : zT := [(10, some 0, none), (62, some 0, none), (10, some 1, none), (62, some 1, none)]
theorem c_walk {P Q W : Nat → Nat} {C d : Nat} {bar : Nat → Bool} {D a4 : Int32} (hC : C ≤ 10) (hP : ∀ i, i < C → P i < 8 ∧ Q i < 8) (hW : ∀ i, W i ≤ 2400000) (hb : ∀ i, i < 10 → z_bt a4 i = bar i) (hD : D.toInt = (d : Int)) : ∀ (n : Nat) (S p : List Nat) (u : Nat) (U A3 : Int32) (c : mm_M) (o : Option (List Nat)), U.toInt = (u : Int) → u < 8 → u ∈ S → p.length + z_uv S ≤ 7 → 16 ≤ n + p.length → (∀ x, x < 8 → z_bt A3 x = decide (x ∈ S)) → (∀ i, i ∈ p → P i ∈ S ∧ Q i ∈ S) → z_nt c P Q W C → z_wak c 0 W p → z_ho c 1 W o → vW (f_X4_walkOn n U D A3 a4 c) (fun r => fp zWk c r ∧ z_wak r 0 W p ∧ z_ho r 1 W (z_bst W (z_ws P Q C bar d n S p u) o))
  | 0, S, p, u, U, A3, c, o, _, _, _, h7, h16, _, _, _, _, _ => by omega
  | n + 1, S, p, u, U, A3, c, o, hU, hu, huS, h7, h16, hS, hpS, hnt, hwk, hho => by
    rw [f_X4_walkOn]
    by_cases hud : u = d
    · refine v_ifn (fun z => z (by rw [iA_eq, hU, hD, hud])) ?_
      refine v_lO ?_
      have hK : vW (mm_b1 (f_X10_takeOver 1 0 c) fun m19 => some m19) (fun r => fp zWk c r ∧ z_wak r 0 W p ∧ z_wak r 1 W p) := by
        refine v_s1 (c_take (show ¬ 0 = 1 by decide) hwk) (fun r hr => ?_)
        refine v_so ⟨c_wfp (fun k => rfl) (fun k => rfl) hr.1, z_wak_fr (fun k => hr.1 10 0 k (by omega)) (fun k => hr.1 62 0 k (by omega)) hwk, hr.2⟩
      rw [z_ws_d hud]
      cases o with
      | none =>
        refine v_ifp hho ?_
        exact v_mono hK (fun r hr => ⟨hr.1, hr.2.1, hr.2.2⟩)
      | some q =>
        have hq : z_wak c 1 W q := hho
        have b2 := z_co_b hW q
        have l2 := hq.1
        refine v_ifn (by rw [hq.2.2.2.1]; exact n_m1 (by omega)) ?_
        refine v_b1e (c_lessW hW hwk hq) ?_
        by_cases hlt : z_lt2 W p q = true
        · refine v_ifn (by rw [if_pos hlt]; decide) ?_
          refine v_mono hK (fun r hr => ⟨hr.1, hr.2.1, ?_⟩)
          show z_ho r 1 W (if z_lt2 W p q = true then some p else some q)
          rw [if_pos hlt]
          exact hr.2.2
        · refine v_ifp (by rw [if_neg hlt]) ?_
          refine v_so ⟨fp_rf, hwk, ?_⟩
          show z_ho c 1 W (if z_lt2 W p q = true then some p else some q)
          rw [if_neg hlt]
          exact hq
    · refine v_ifp (fun z => hud (by have := iA_eq.mp z; omega)) ?_
      rw [z_ws_n hud]
      refine v_s1 (P := fun r => fp zWk c r ∧ z_wak r 0 W p ∧ z_ho r 1 W (z_bst W ((List.range C).flatMap fun i => z_on (z_br P Q bar S u i) (fun w => z_ws P Q C bar d n (w :: S) (p ++ [i]) w)) o)) ?_ (fun r hr => v_so hr)
      refine v_for (fun j s => s.1.toInt = (j : Int) ∧ fp zWk c s.2 ∧ z_wak s.2 0 W p ∧ z_ho s.2 1 W (z_bst W ((List.range j).flatMap fun i => z_on (z_br P Q bar S u i) (fun w => z_ws P Q C bar d n (w :: S) (p ++ [i]) w)) o)) 0 C (Nat.zero_le _) (by omega) ⟨i_0, fp_rf, hwk, hho⟩ ?_ ?_
      · rintro j ⟨v, e⟩ hj ⟨hv, hf, hwe, hoe⟩
        dsimp only at hv hf hwe hoe ⊢
        have hne := z_nt_fr hf (by decide) hnt
        have kv := n_k hv
        have iv : mm_in v 10 := v_in.mpr (by omega)
        have nxt : ∀ r, z_on (z_br P Q bar S u j) (fun w => z_ws P Q C bar d n (w :: S) (p ++ [j]) w) = [] → r = e → v_st (fun s : Int32 × mm_M => s.1.toInt = ((j + 1 : Nat) : Int) ∧ fp zWk c s.2 ∧ z_wak s.2 0 W p ∧ z_ho s.2 1 W (z_bst W ((List.range (j + 1)).flatMap fun i => z_on (z_br P Q bar S u i) (fun w => z_ws P Q C bar d n (w :: S) (p ++ [i]) w)) o)) (fun r => fp zWk c r ∧ z_wak r 0 W p ∧ z_ho r 1 W (z_bst W ((List.range C).flatMap fun i => z_on (z_br P Q bar S u i) (fun w => z_ws P Q C bar d n (w :: S) (p ++ [i]) w)) o)) (.inl (v + 1, r)) := fun r h1 h2 => by
          refine v_pl.mpr ⟨n_s3 hv (by omega), ?_⟩
          rw [z_fl, h1, List.append_nil, h2]
          exact ⟨hf, hwe, hoe⟩
        have h77 := hwe.1
        refine v_ifn (by rw [iA_le, hne.1, hv, nJ_T (by omega)]; omega) ?_
        refine v_ifn (by rw [iA_le, hwe.2.2.1, i_8, nJ_T (by omega)]; omega) ?_
        refine v_lF ?_
        by_cases hbj : bar j = true
        · refine v_ifn (fun z => z (z_bt_t1 hv (by omega) (by rw [hb j (by omega)]; exact hbj))) ?_
          refine v_ifp rfl ?_
          refine v_l1 ?_
          exact v_so (nxt e (by rw [z_br_b hbj]; rfl) rfl)
        · have hbf : bar j = false := by
            cases hx : bar j
            · rfl
            · exact absurd hx hbj
          refine v_ifp (by rw [z_bt_t0 hv (by omega) (by rw [hb j (by omega)]; exact hbf)]; decide) ?_
          refine v_b1e (c_othE hC hP hne hv hj hU hu) ?_
          cases ho : z_oth P Q j u with
          | none =>
            refine v_ifp rfl ?_
            refine v_l1 ?_
            exact v_so (nxt e (by rw [z_br_n ho]; rfl) rfl)
          | some w =>
            have hw8 : w < 8 := by
              rcases z_oth_e ho with ⟨_, z⟩ | ⟨_, z⟩
              · rw [← z]
                exact (hP j hj).2
              · rw [← z]
                exact (hP j hj).1
            have hwn : (Int32.ofNat w).toInt = (w : Int) := nJ_T (by omega)
            refine v_ifn (n_m1 (by omega)) ?_
            by_cases hwS : w ∈ S
            · refine v_ifp (by rw [z_bt_t1 hwn (by omega) (by rw [hS w hw8]; exact decide_eq_true hwS)]; decide) ?_
              refine v_l1 ?_
              exact v_so (nxt e (by rw [z_br_s ho hwS]; rfl) rfl)
            · refine v_ifn (by rw [z_bt_t0 hwn (by omega) (by rw [hS w hw8]; exact decide_eq_false hwS)]; decide) ?_
              refine v_ifp iv ?_
              have hun := z_uv_c hw8 hwS
              have hjp : ¬ j ∈ p := fun hjp => by
                have := hpS j hjp
                rcases z_oth_e ho with ⟨_, z⟩ | ⟨_, z⟩
                · rw [z] at this
                  exact hwS this.2
                · rw [z] at this
                  exact hwS this.1
              have hlj : (p ++ [j]).length = p.length + 1 := by rw [List.length_append]; rfl
              have r56 : e 56 0 v.toNatClampNeg = Int32.ofNat (W j) := by rw [kv]; exact (hne.2 j hj).2.2
              rw [r56]
              refine v_s1 (c_wadd hv (by omega) hwe (by omega)) (fun r1 hr1 => ?_)
              have f1 : fp zWk e r1 := c_wfp (fun k => rfl) (fun k => rfl) hr1.1
              refine v_s1 (c_walk hC hP hW hb hD n (w :: S) (p ++ [j]) w (Int32.ofNat w) (A3 ||| ((1 : Int32) <<< (Int32.ofNat w &&& 31))) r1 (z_bst W ((List.range j).flatMap fun i => z_on (z_br P Q bar S u i) (fun w => z_ws P Q C bar d n (w :: S) (p ++ [i]) w)) o) hwn hw8 List.mem_cons_self (by omega) (by omega) (fun x hx => ?_) (fun i hi => ?_) (z_nt_fr f1 (by decide) hne) hr1.2 (z_ho_fr (fun k => hr1.1 10 1 k (by omega)) (fun k => hr1.1 62 1 k (by omega)) hoe)) (fun r2 hr2 => ?_)
              · rw [z_bt_or, hS x hx, z_bt_s hwn (by omega)]
                simp only [List.mem_cons, Bool.decide_or]
                exact Bool.or_comm _ _
              · rcases List.mem_append.mp hi with hi | hi
                · exact ⟨List.mem_cons_of_mem _ (hpS i hi).1, List.mem_cons_of_mem _ (hpS i hi).2⟩
                · rw [List.mem_singleton.mp hi]
                  rcases z_oth_e ho with ⟨z1, z2⟩ | ⟨z1, z2⟩
                  · rw [z1, z2]
                    exact ⟨List.mem_cons_of_mem _ huS, List.mem_cons_self⟩
                  · rw [z1, z2]
                    exact ⟨List.mem_cons_self, List.mem_cons_of_mem _ huS⟩
              · have f2 : fp zWk e r2 := fp_tr f1 hr2.1
                refine v_ifp iv ?_
                rw [kv, ((z_nt_fr f2 (by decide) hne).2 j hj).2.2]
                refine v_s1 (c_wdrop hr2.2.1 hjp) (fun r3 hr3 => ?_)
                refine v_l1 ?_
                refine v_il ⟨n_s3 hv (by omega), fp_tr hf (fp_tr f2 (c_wfp (fun k => rfl) (fun k => rfl) hr3.1)), hr3.2, ?_⟩
                dsimp only
                rw [z_fl, z_bst_a, z_br_w hbf ho hwS]
                exact z_ho_fr (fun k => hr3.1 10 1 k (by omega)) (fun k => hr3.1 62 1 k (by omega)) hr2.2.2
      · rintro ⟨v, e⟩ ⟨hv, hf, hwe, hoe⟩
        dsimp only at hv hf hwe hoe ⊢
        have hne := z_nt_fr hf (by decide) hnt
        refine v_ifp (by rw [iA_le, hne.1, hv, nJ_T (by omega)]; omega) ?_
        exact v_ir ⟨hf, hwe, hoe⟩
/-- the least way, if there is one -/
theorem c_findL {P Q W : Nat → Nat} {C d u : Nat} {bar : Nat → Bool} {U D a3 : Int32} {c : mm_M} (hC : C ≤ 10) (hP : ∀ i, i < C → P i < 8 ∧ Q i < 8) (hW : ∀ i, W i ≤ 2400000) (hb : ∀ i, i < 10 → z_bt a3 i = bar i) (hD : D.toInt = (d : Int)) (hU : U.toInt = (u : Int)) (hu : u < 8) (hnt : z_nt c P Q W C) : vW (f_X4_findLeast U D a3 c) (fun q => fp zWk c q.2 ∧ z_ho q.2 1 W (z_bst W (z_ws P Q C bar d 16 [u] [] u) none) ∧ q.1 = (match z_bst W (z_ws P Q C bar d 16 [u] [] u) none with
  | none => 0
  | some _ => 1)) := by
  unfold f_X4_findLeast
  refine v_s1 (c_clr (W := W)) (fun r1 hr1 => ?_)
  refine v_lM ?_
  have f1 : fp zWk c r1 := c_wfp (fun k => rfl) (fun k => rfl) hr1.1
  have f2 : fp zWk c (mm_w r1 10 1 2 (-1)) := fp_w rfl f1
  have hun := z_uv_1 hu
  refine v_s1 (c_walk hC hP hW hb hD 16 [u] [] u U ((1 : Int32) <<< (U &&& 31)) (mm_w r1 10 1 2 (-1)) none hU hu List.mem_cons_self (by show 0 + z_uv [u] ≤ 7; omega) (by omega) (fun x hx => ?_) (fun i hi => (by cases hi)) (z_nt_fr f2 (by decide) hnt) (z_wak_fr (fun k => mw_i (by decide)) (fun k => mw_g (by decide)) hr1.2) mw_s) (fun r2 hr2 => ?_)
  · rw [z_bt_s hU (by omega)]
    simp only [List.mem_singleton]
  · have h2 := hr2.2.2
    cases hz : z_bst W (z_ws P Q C bar d 16 [u] [] u) none with
    | none =>
      rw [hz] at h2
      refine v_ifp h2 ?_
      exact v_so ⟨fp_tr f2 hr2.1, h2, rfl⟩
    | some q =>
      rw [hz] at h2
      have hq : z_wak r2 1 W q := h2
      have b2 := z_co_b hW q
      have l2 := hq.1
      refine v_ifn (by rw [hq.2.2.2.1]; exact n_m1 (by omega)) ?_
      exact v_so ⟨fp_tr f2 hr2.1, h2, rfl⟩
