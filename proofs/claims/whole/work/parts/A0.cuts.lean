/-! what is lost by cuts: both sides, and the ops -/
def z_lo1 (P Q : Nat → Nat) (C : Nat) (F G : Nat → Nat) (bar : Nat → Bool) (t : Nat) : Bool := decide (¬ z_ws P Q C (fun _ => false) (G t) 16 [F t] [] (F t) = [] ∧ z_ws P Q C bar (G t) 16 [F t] [] (F t) = [])
def z_lb (lo : Nat → Bool) : Nat → Nat
  | 0 => 0
  | j + 1 => z_lb lo j + (if lo j = true then 2 ^ j else 0)
theorem z_lb_b (lo : Nat → Bool) : ∀ j, z_lb lo j < 2 ^ j
  | 0 => by
    show 0 < 1
    omega
  | j + 1 => by
    have := z_lb_b lo j
    show z_lb lo j + _ < 2 ^ (j + 1)
    rw [Nat.pow_succ]
    split <;> omega
theorem z_orb : ∀ j : Fin 6, ∀ x : Fin 64, x.val < 2 ^ j.val → (Int32.ofNat x.val ||| ((1 : Int32) <<< (Int32.ofNat j.val &&& 31))) = Int32.ofNat (x.val + 2 ^ j.val) := by decide +kernel
theorem z_or0 : ∀ x : Fin 64, (Int32.ofNat x.val ||| (0 : Int32)) = Int32.ofNat x.val := by decide +kernel
theorem z_p64 {j : Nat} (h : j ≤ 6) : 2 ^ j ≤ 64 := Nat.pow_le_pow_right (by decide) h
theorem c_lostB {c : mm_M} {P Q F G : Nat → Nat} {C k : Nat} {bar : Nat → Bool} {A : Int32} (hC : C ≤ 10) (hk : k ≤ 6) (hP : ∀ i, i < C → P i < 8 ∧ Q i < 8) (h5 : c 9 0 5 = Int32.ofNat C) (h52 : ∀ i, i < C → c 52 0 i = Int32.ofNat (P i) ∧ c 53 0 i = Int32.ofNat (Q i)) (h8 : c 9 0 8 = Int32.ofNat k) (hF : ∀ t, t < k → (F t < 8 ∧ G t < 8) ∧ c 57 0 t = Int32.ofNat (F t) ∧ c 58 0 t = Int32.ofNat (G t)) (hb : ∀ i, i < 10 → z_bt A i = bar i) : f_X4_lostBy A c = some (Int32.ofNat (z_lb (z_lo1 P Q C F G bar) k)) := by
  apply v_is
  unfold f_X4_lostBy
  refine v_s1 (P := fun r => r = Int32.ofNat (z_lb (z_lo1 P Q C F G bar) k)) ?_ (fun r h => v_so h)
  refine v_for (fun j s => s.2.toInt = (j : Int) ∧ s.1 = Int32.ofNat (z_lb (z_lo1 P Q C F G bar) j)) 0 k (Nat.zero_le _) (by omega) ⟨i_0, rfl⟩ ?_ ?_
  · rintro j ⟨x, v⟩ hj ⟨hv, hx⟩
    dsimp only at hv hx ⊢
    have kv := n_k hv
    have iv : mm_in v 6 := v_in.mpr (by omega)
    obtain ⟨⟨hF8, hG8⟩, g57, g58⟩ := hF j hj
    have r57 : (c 57 0 v.toNatClampNeg).toInt = (F j : Int) := by rw [kv, g57, nJ_T (by omega)]
    have r58 : (c 58 0 v.toNatClampNeg).toInt = (G j : Int) := by rw [kv, g58, nJ_T (by omega)]
    have hlb := z_lb_b (z_lo1 P Q C F G bar) j
    have h64 := z_p64 (show j ≤ 6 by omega)
    have nl : z_lo1 P Q C F G bar j = false → z_lb (z_lo1 P Q C F G bar) (j + 1) = z_lb (z_lo1 P Q C F G bar) j := fun h => by
      show z_lb (z_lo1 P Q C F G bar) j + (if z_lo1 P Q C F G bar j = true then 2 ^ j else 0) = _
      rw [if_neg (by rw [h]; decide), Nat.add_zero]
    refine v_ifn (by rw [iA_le, h8, hv, nJ_T (by omega)]; omega) ?_
    refine v_ifp iv ?_
    refine v_ifp iv ?_
    refine v_s1 (c_joind (bar := fun _ => false) hC hP h5 h52 (fun i _ => z_bt_0) r57 hF8 r58 hG8) (fun r hr => ?_)
    rcases hr with ⟨hr, h0⟩ | ⟨hr, h0⟩
    · refine v_ifn (by rw [hr]; decide) ?_
      refine v_ifp iv ?_
      refine v_ifp iv ?_
      refine v_s1 (c_joind (bar := bar) hC hP h5 h52 hb r57 hF8 r58 hG8) (fun r2 hr2 => ?_)
      rcases hr2 with ⟨hr2, h1⟩ | ⟨hr2, h1⟩
      · refine v_ifp (by rw [hr2]; decide) ?_
        refine v_l1 ?_
        refine v_il ⟨n_s3 hv (by omega), ?_⟩
        dsimp only
        rw [nl (decide_eq_false (fun z => h1 z.2))]
        exact hx
      · refine v_ifn (by rw [hr2]; decide) ?_
        refine v_l ?_
        refine v_l1 ?_
        refine v_il ⟨n_s3 hv (by omega), ?_⟩
        dsimp only
        have e : z_lb (z_lo1 P Q C F G bar) (j + 1) = z_lb (z_lo1 P Q C F G bar) j + 2 ^ j := by
          show z_lb (z_lo1 P Q C F G bar) j + (if z_lo1 P Q C F G bar j = true then 2 ^ j else 0) = _
          rw [if_pos (show z_lo1 P Q C F G bar j = true from decide_eq_true ⟨h0, h1⟩)]
        rw [e, hx, n_0L (by omega) hv]
        exact z_orb ⟨j, by omega⟩ ⟨z_lb (z_lo1 P Q C F G bar) j, by omega⟩ hlb
    · refine v_ifp hr ?_
      refine v_l1 ?_
      refine v_il ⟨n_s3 hv (by omega), ?_⟩
      dsimp only
      rw [nl (decide_eq_false (fun z => z.1 h0))]
      exact hx
  · rintro ⟨x, v⟩ ⟨hv, hx⟩
    dsimp only at hv hx ⊢
    refine v_ifp (by rw [iA_le, h8, hv, nJ_T (by omega)]; omega) ?_
    exact v_ir hx
theorem z_bst_k {W : Nat → Nat} : ∀ (L : List (List Nat)) (q : List Nat), ∃ r, z_bst W L (some q) = some r
  | [], q => ⟨q, rfl⟩
  | p :: L, q => by
    show ∃ r, z_bst W L (z_up W (some q) p) = some r
    show ∃ r, z_bst W L (if z_lt2 W p q = true then some p else some q) = some r
    split
    · exact z_bst_k L p
    · exact z_bst_k L q
theorem z_bst_n {W : Nat → Nat} {L : List (List Nat)} (h : z_bst W L none = none) : L = [] := by
  cases L with
  | nil => rfl
  | cons p L =>
    exfalso
    have h2 : z_bst W L (some p) = none := h
    obtain ⟨r, hr⟩ := z_bst_k (W := W) L p
    rw [hr] at h2
    cases h2
theorem z_bst_m {W : Nat → Nat} : ∀ (L : List (List Nat)) (o : Option (List Nat)) (p : List Nat), z_bst W L o = some p → p ∈ L ∨ o = some p
  | [], o, p, h => Or.inr h
  | q :: L, o, p, h => by
    have h2 : z_bst W L (z_up W o q) = some p := h
    rcases z_bst_m L (z_up W o q) p h2 with h3 | h3
    · exact Or.inl (List.mem_cons_of_mem _ h3)
    · cases o with
      | none => exact Or.inl (by rw [← Option.some.inj h3]; exact List.mem_cons_self)
      | some r =>
        have h4 : (if z_lt2 W q r = true then some q else some r) = some p := h3
        by_cases hlt : z_lt2 W q r = true
        · rw [if_pos hlt] at h4
          exact Or.inl (by rw [← Option.some.inj h4]; exact List.mem_cons_self)
        · rw [if_neg hlt] at h4
          exact Or.inr h4
theorem z_ws_cg {P Q : Nat → Nat} {C : Nat} {bar ba2 : Nat → Bool} {d : Nat} (h : ∀ i, i < C → bar i = ba2 i) : ∀ (n : Nat) (S p : List Nat) (u : Nat), z_ws P Q C bar d n S p u = z_ws P Q C ba2 d n S p u
  | 0, S, p, u => rfl
  | n + 1, S, p, u => by
    by_cases hud : u = d
    · rw [z_ws_d hud, z_ws_d hud]
    · rw [z_ws_n hud, z_ws_n hud]
      have key : ∀ j, j ≤ C → ((List.range j).flatMap fun i => z_on (z_br P Q bar S u i) (fun w => z_ws P Q C bar d n (w :: S) (p ++ [i]) w)) = ((List.range j).flatMap fun i => z_on (z_br P Q ba2 S u i) (fun w => z_ws P Q C ba2 d n (w :: S) (p ++ [i]) w)) := fun j => by
        induction j with
        | zero => exact fun _ => rfl
        | succ j ih =>
          intro hj
          rw [z_fl, z_fl, ih (by omega)]
          have e1 : z_br P Q bar S u j = z_br P Q ba2 S u j := by
            unfold z_br
            rw [h j (by omega)]
          have e2 : (fun w => z_ws P Q C bar d n (w :: S) (p ++ [j]) w) = fun w => z_ws P Q C ba2 d n (w :: S) (p ++ [j]) w := by
            funext w
            exact z_ws_cg h n (w :: S) (p ++ [j]) w
          rw [e1, e2]
      exact key C (Nat.le_refl C)
theorem z_ws_c {P Q : Nat → Nat} {C : Nat} {bar : Nat → Bool} {d : Nat} : ∀ (n : Nat) (S p : List Nat) (u : Nat) (q : List Nat), q ∈ z_ws P Q C bar d n S p u → ∀ x, x ∈ q → x ∈ p ∨ x < C
  | 0, S, p, u, q, h, x, hx => by cases h
  | n + 1, S, p, u, q, h, x, hx => by
    by_cases hud : u = d
    · rw [z_ws_d hud] at h
      rw [List.mem_singleton.mp h] at hx
      exact Or.inl hx
    · rw [z_ws_n hud] at h
      obtain ⟨i, hi, hq⟩ := List.mem_flatMap.mp h
      cases hb : z_br P Q bar S u i with
      | none =>
        rw [hb] at hq
        cases hq
      | some w =>
        rw [hb] at hq
        rcases z_ws_c n (w :: S) (p ++ [i]) w q hq x hx with h1 | h1
        · rcases List.mem_append.mp h1 with h1 | h1
          · exact Or.inl h1
          · rw [List.mem_singleton.mp h1]
            exact Or.inr (List.mem_range.mp hi)
        · exact Or.inr h1
theorem r_lostB {c : mm_M} {P Q W X F G : Nat → Nat} {C k : Nat} {bar : Nat → Bool} {A : Int32} (hC : C ≤ 10) (hk : k ≤ 6) (hP : ∀ i, i < C → P i < 8 ∧ Q i < 8) (hnt : r_nt c P Q W C) (h78 : c 12 0 78 = Int32.ofNat k) (hF : ∀ t, t < k → (F t < 8 ∧ G t < 8) ∧ c 117 0 t = Int32.ofNat (F t) ∧ c 118 0 t = Int32.ofNat (G t)) (htw : ∀ t, t < k → r_tw c X C t (z_tw P Q W C F G t)) (hb : ∀ i, i < 10 → z_bt A i = bar i) : vW (f_X12_lostBy A c) (fun q => q.1 = Int32.ofNat (z_lb (z_lo1 P Q C F G bar) k) ∧ fp zGo c q.2) := by
  unfold f_X12_lostBy
  refine v_s1 (P := fun q => q.1 = Int32.ofNat (z_lb (z_lo1 P Q C F G bar) k) ∧ fp zGo c q.2) ?_ (fun r h => v_so h)
  refine v_for (fun j s => s.1 = Int32.ofNat (z_lb (z_lo1 P Q C F G bar) j) ∧ s.2.1.toInt = (j : Int) ∧ fp zGo c s.2.2) 0 k (Nat.zero_le _) (by omega) ⟨rfl, i_0, fp_rf⟩ ?_ ?_
  · rintro j ⟨x, v, e⟩ hj ⟨hx, hv, hf⟩
    dsimp only at hv hx hf ⊢
    have kv := n_k hv
    have iv : mm_in v 6 := v_in.mpr (by omega)
    obtain ⟨⟨hF8, hG8⟩, g117, g118⟩ := hF j hj
    have r117 : (e 117 0 v.toNatClampNeg).toInt = (F j : Int) := by rw [kv, hf 117 0 j rfl, g117, nJ_T (by omega)]
    have r118 : (e 118 0 v.toNatClampNeg).toInt = (G j : Int) := by rw [kv, hf 118 0 j rfl, g118, nJ_T (by omega)]
    have r125 : e 125 0 v.toNatClampNeg = c 125 0 j := by rw [kv]; exact hf 125 0 j rfl
    have hlb := z_lb_b (z_lo1 P Q C F G bar) j
    have h64 := z_p64 (show j ≤ 6 by omega)
    have nl : z_lo1 P Q C F G bar j = false → z_lb (z_lo1 P Q C F G bar) (j + 1) = z_lb (z_lo1 P Q C F G bar) j := fun h => by
      show z_lb (z_lo1 P Q C F G bar) j + (if z_lo1 P Q C F G bar j = true then 2 ^ j else 0) = _
      rw [if_neg (by rw [h]; decide), Nat.add_zero]
    have h1 := htw j hj
    refine v_ifn (by rw [iA_le, hf 12 0 78 rfl, h78, hv, nJ_T (by omega)]; omega) ?_
    refine v_ifp iv ?_
    cases hz : z_tw P Q W C F G j with
    | none =>
      rw [hz] at h1
      have h0 : z_ws P Q C (fun _ => false) (G j) 16 [F j] [] (F j) = [] := z_bst_n hz
      refine v_ifp (r125.trans h1) ?_
      refine v_l1 ?_
      refine v_il ⟨?_, n_s3 hv (by omega), hf⟩
      dsimp only
      rw [nl (decide_eq_false (fun z => z.1 h0))]
      exact hx
    | some p =>
      rw [hz] at h1
      obtain ⟨⟨hp7, hp10⟩, h2, _⟩ := h1
      have hpm : p ∈ z_ws P Q C (fun _ => false) (G j) 16 [F j] [] (F j) := by
        rcases z_bst_m _ _ _ hz with h3 | h3
        · exact h3
        · cases h3
      have h0 : ¬ z_ws P Q C (fun _ => false) (G j) 16 [F j] [] (F j) = [] := fun z => by
        rw [z] at hpm
        cases hpm
      refine v_ifn (fun z => z_btM h2 hp10 (r125.symm.trans z)) ?_
      refine v_ifp iv ?_
      by_cases hm : c 125 0 j &&& A = 0
      · refine v_ifn (by rw [r125]; exact fun z => z hm) ?_
        refine v_l1 ?_
        refine v_il ⟨?_, n_s3 hv (by omega), hf⟩
        dsimp only
        have hfr : z_fr bar p = true := List.all_eq_true.mpr (fun i hi => by
          have h3 := z_and0.mp hm i
          rw [h2, decide_eq_true hi, hb i (hp10 i hi)] at h3
          cases hx : bar i
          · rfl
          · exact absurd ⟨rfl, hx⟩ h3)
        have hn : ¬ z_ws P Q C bar (G j) 16 [F j] [] (F j) = [] := fun z => by
          rw [z_ws_f 16 [F j] [] (F j) (fun i hi => by cases hi)] at z
          have := List.mem_filter.mpr ⟨hpm, hfr⟩
          rw [z] at this
          cases this
        rw [nl (decide_eq_false (fun z => hn z.2))]
        exact hx
      · refine v_ifp (by rw [r125]; exact hm) ?_
        refine v_ifp iv ?_
        refine v_ifp iv ?_
        refine v_s1 (r_ways (W := W) (bar := bar) hC hP hb r118 r117 hF8 (r_nt_fr hf (by decide) hnt)) (fun m7 h7 => ?_)
        have h36 := z_ws_36 (P := P) (Q := Q) (bar := bar) (d := G j) (n := 16) (p := []) hC (show F j ∈ [F j] from List.mem_cons_self)
        have hf7 : fp zGo c m7 := fp_tr hf h7.1
        by_cases h3 : z_ws P Q C bar (G j) 16 [F j] [] (F j) = []
        · refine v_ifn (fun z => z (by rw [h7.2.1, h3]; rfl)) ?_
          refine v_l ?_
          refine v_l1 ?_
          refine v_il ⟨?_, n_s3 hv (by omega), hf7⟩
          dsimp only
          have e : z_lb (z_lo1 P Q C F G bar) (j + 1) = z_lb (z_lo1 P Q C F G bar) j + 2 ^ j := by
            show z_lb (z_lo1 P Q C F G bar) j + (if z_lo1 P Q C F G bar j = true then 2 ^ j else 0) = _
            rw [if_pos (show z_lo1 P Q C F G bar j = true from decide_eq_true ⟨h0, h3⟩)]
          rw [e, hx, n_0L (by omega) hv]
          exact z_orb ⟨j, by omega⟩ ⟨z_lb (z_lo1 P Q C F G bar) j, by omega⟩ hlb
        · have hl1 : 1 ≤ (z_ws P Q C bar (G j) 16 [F j] [] (F j)).length := by
            cases hz2 : z_ws P Q C bar (G j) 16 [F j] [] (F j) with
            | nil => exact absurd hz2 h3
            | cons q r => exact Nat.succ_le_succ (Nat.zero_le _)
          refine v_ifp (by rw [h7.2.1]; exact n_ne (by rw [nJ_T (by omega), i_0]; omega)) ?_
          refine v_l ?_
          refine v_l1 ?_
          refine v_il ⟨?_, n_s3 hv (by omega), hf7⟩
          dsimp only
          rw [nl (decide_eq_false (fun z => h3 z.2)), hx]
          exact z_or0 ⟨z_lb (z_lo1 P Q C F G bar) j, by omega⟩
  · rintro ⟨x, v, e⟩ ⟨hx, hv, hf⟩
    dsimp only at hv hx hf ⊢
    refine v_ifp (by rw [iA_le, hf 12 0 78 rfl, h78, hv, nJ_T (by omega)]; omega) ?_
    exact v_ir ⟨hx, hf⟩
/-- the tasks' ends -/
theorem z_tskF {m : mm_M} (h : j_tsk m m) : ∃ (k : Nat) (F G : Nat → Nat), k ≤ 6 ∧ m 9 0 8 = Int32.ofNat k ∧ m 12 0 78 = Int32.ofNat k ∧ ∀ t, t < k → (F t < 8 ∧ G t < 8) ∧ (m 57 0 t = Int32.ofNat (F t) ∧ m 58 0 t = Int32.ofNat (G t)) ∧ m 117 0 t = Int32.ofNat (F t) ∧ m 118 0 t = Int32.ofNat (G t) := by
  obtain ⟨k, hk6, hk1, hk2, hks⟩ := h
  refine ⟨k, fun t => (m 57 0 t).toNatClampNeg, fun t => (m 58 0 t).toNatClampNeg, hk6, hk1, hk2, fun t ht => ?_⟩
  obtain ⟨e1, e2, ⟨x, hx, ex⟩, ⟨y, hy, ey⟩⟩ := hks t ht
  dsimp only
  rw [← e1, ← e2, ex, ey, nJ_N (by omega), nJ_N (by omega)]
  exact ⟨⟨hx, hy⟩, ⟨rfl, rfl⟩, rfl, rfl⟩
theorem z_msk : ∀ C : Fin 11, ∀ k : Fin 32, z_bt (((1 : Int32) <<< (Int32.ofNat C.val &&& 31)) - 1) k.val = decide (k.val < C.val) := by decide +kernel
theorem o_31 : q_Sim qJ 31 := fun m a hJ hop => by
  obtain ⟨hday, hfault, hdead, hstr, htap, hlaw, hev, hrow, hinq, hfound, hlamps, hnet, htsk, hdl, halo, hshe⟩ := hJ
  obtain ⟨P, Q, W, X, C, hC, hC1, hC2, hP, hW, hX, h03, ⟨cw, _, hfw, hnw⟩, htc⟩ := z_netOf hstr hlaw hnet
  obtain ⟨k, F, G, hk6, hk1, hk2, hF⟩ := z_tskF htsk
  have h52 : ∀ i, i < C → m 52 0 i = Int32.ofNat (P i) ∧ m 53 0 i = Int32.ofNat (Q i) := fun i hi => ⟨(hfw 52 0 i rfl).symm.trans (hnw.2 i hi).1, (hfw 53 0 i rfl).symm.trans (hnw.2 i hi).2.1⟩
  have eC : f_X11_lost (a 1) m = some (Int32.ofNat (z_lb (z_lo1 P Q C F G (z_bt (a 1))) k)) := v_is (by
    unfold f_X11_lost
    exact v_b1e (c_lostB hC hk6 hP hC1 h52 hk1 (fun t ht => ⟨(hF t ht).1, (hF t ht).2.1⟩) (fun i _ => rfl)) (v_so rfl))
  have hlo : z_lo1 P Q C F G (fun i => z_bt (a 1) i && decide (i < C)) = z_lo1 P Q C F G (z_bt (a 1)) := by
    funext t
    unfold z_lo1
    have hcg : ∀ d n S p u, z_ws P Q C (fun i => z_bt (a 1) i && decide (i < C)) d n S p u = z_ws P Q C (z_bt (a 1)) d n S p u := fun d n S p u => z_ws_cg (fun i hi => by show (z_bt (a 1) i && decide (i < C)) = _; rw [decide_eq_true hi, Bool.and_true]) n S p u
    rw [hcg]
  have eMx : vW (f_X12_lost (a 1) m) (fun q => q.1 = Int32.ofNat (z_lb (z_lo1 P Q C F G (z_bt (a 1))) k) ∧ fp ((12, none, some 3) :: zTW) m q.2) := by
    unfold f_X12_lost
    refine v_lM ?_
    refine v_s1 (r_ttw (X := X) (F := F) (G := G) hC hk6 hP hW ((fp_30 12 0 78 rfl).trans hk2) (fun t ht => ⟨(hF t ht).1, (fp_30 117 0 t rfl).trans (hF t ht).2.2.1, (fp_30 118 0 t rfl).trans (hF t ht).2.2.2⟩) (fun i hi => (fp_30 115 0 i rfl).trans (hX i hi).2.2) (htc _ fp_30)) (fun c1 hc1 => ?_)
    obtain ⟨hf1, hnt1, htw⟩ := hc1
    have hfa : fp ((12, none, some 3) :: zTW) m c1 := fp_tr (fp_sb (by decide) fp_30) (fp_sb (by decide) hf1)
    refine v_s2 (r_lostB (X := X) (bar := fun i => z_bt (a 1) i && decide (i < C)) hC hk6 hP hnt1 ((hfa 12 0 78 rfl).trans hk2) (fun t ht => ⟨(hF t ht).1, (hfa 117 0 t rfl).trans (hF t ht).2.2.1, (hfa 118 0 t rfl).trans (hF t ht).2.2.2⟩) htw (fun i hi => ?_)) ?_
    · rw [z_bt_and, hnt1.1, show z_bt (((1 : Int32) <<< (Int32.ofNat C &&& 31)) - 1) i = decide (i < C) from z_msk ⟨C, by omega⟩ ⟨i, by omega⟩]
    · rintro r c2 ⟨hr, hf2⟩
      dsimp only at hr hf2
      rw [hlo] at hr
      exact v_so ⟨hr, fp_tr hfa (fp_sb (by decide) hf2)⟩
  obtain ⟨⟨y, mM⟩, eM, hy, hM⟩ := eMx
  dsimp only at hy hM
  subst hy
  have hC : fp [] m m := fp_rf
  exact ⟨_, _, t_op31 hop eC eM, ⟨j_day_kp hC hM (by decide) (by decide) hday, j_fault_kp hC hM (by decide) (by decide) hfault, j_dead_kp hC hM (by decide) (by decide) hdead, j_str_kp hC hM (by decide) (by decide) hstr, j_tap_kp hC hM (by decide) (by decide) htap, j_law_kp hC hM (by decide) (by decide) hlaw, j_ev_kp hC hM (by decide) (by decide) hev, j_row_kp hC hM (by decide) (by decide) hrow, j_inq_kp hC hM (by decide) (by decide) hinq, j_found_kp hC hM (by decide) (by decide) hfound, j_lamps_kp hC hM (by decide) (by decide) hlamps, j_net_kp hC hM (by decide) (by decide) hnet, j_tsk_kp hC hM (by decide) (by decide) htsk, j_dl_kp hC hM (by decide) (by decide) hdl, j_alo_kp hC hM (by decide) (by decide) halo, j_she_kp hC hM (by decide) (by decide) hshe⟩⟩
