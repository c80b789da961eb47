/-! pairs of ways: the class -/
theorem z_ws_p {P Q : Nat → Nat} {C : Nat} {bar : Nat → Bool} {d : Nat} : ∀ (n : Nat) (S p : List Nat) (u : Nat) (q : List Nat), q ∈ z_ws P Q C bar d n S p u → ∀ x, x ∈ p → x ∈ q
  | 0, S, p, u, q, h, x, hx => by cases h
  | n + 1, S, p, u, q, h, x, hx => by
    by_cases hud : u = d
    · rw [z_ws_d hud] at h
      rw [List.mem_singleton.mp h]
      exact hx
    · rw [z_ws_n hud] at h
      obtain ⟨i, hi, hq⟩ := List.mem_flatMap.mp h
      cases hb : z_br P Q bar S u i with
      | none =>
        rw [hb] at hq
        cases hq
      | some w =>
        rw [hb] at hq
        exact z_ws_p n (w :: S) (p ++ [i]) w q hq x (List.mem_append.mpr (Or.inl hx))
theorem z_br_fg {P Q : Nat → Nat} {bar : Nat → Bool} {S : List Nat} {u j : Nat} (h : bar j = false) : z_br P Q bar S u j = z_br P Q (fun _ => false) S u j := by
  unfold z_br
  exact (if_neg (by rw [h]; decide)).trans (if_neg (fun z => by cases z)).symm
/-- no cable of q is barred -/
def z_fr (bar : Nat → Bool) (q : List Nat) : Bool := q.all fun i => !bar i
theorem z_ws_f {P Q : Nat → Nat} {C : Nat} {bar : Nat → Bool} {d : Nat} : ∀ (n : Nat) (S p : List Nat) (u : Nat), (∀ i, i ∈ p → bar i = false) → z_ws P Q C bar d n S p u = (z_ws P Q C (fun _ => false) d n S p u).filter (z_fr bar)
  | 0, S, p, u, _ => rfl
  | n + 1, S, p, u, hp => by
    by_cases hud : u = d
    · rw [z_ws_d hud, z_ws_d hud]
      have : z_fr bar p = true := List.all_eq_true.mpr (fun i hi => by rw [hp i hi]; rfl)
      rw [List.filter_cons_of_pos this]
      rfl
    · rw [z_ws_n hud, z_ws_n hud]
      have key : ∀ j, ((List.range j).flatMap fun i => z_on (z_br P Q bar S u i) (fun w => z_ws P Q C bar d n (w :: S) (p ++ [i]) w)) = ((List.range j).flatMap fun i => z_on (z_br P Q (fun _ => false) S u i) (fun w => z_ws P Q C (fun _ => false) d n (w :: S) (p ++ [i]) w)).filter (z_fr bar) := fun j => by
        induction j with
        | zero => rfl
        | succ j ih =>
          rw [z_fl, z_fl, List.filter_append, ih]
          congr 1
          cases hb : z_br P Q (fun _ => false) S u j with
          | none =>
            have : z_br P Q bar S u j = none := by
              by_cases hbj : bar j = true
              · exact z_br_b hbj
              · have hbf : bar j = false := by
                  cases hx : bar j
                  · rfl
                  · exact absurd hx hbj
                rw [z_br_fg hbf]
                exact hb
            rw [this]
            rfl
          | some w =>
            by_cases hbj : bar j = true
            · rw [z_br_b hbj]
              show [] = (z_ws P Q C (fun _ => false) d n (w :: S) (p ++ [j]) w).filter (z_fr bar)
              symm
              rw [List.filter_eq_nil_iff]
              intro q hq hz
              have hjq := z_ws_p n (w :: S) (p ++ [j]) w q hq j (List.mem_append.mpr (Or.inr (List.mem_singleton.mpr rfl)))
              have := List.all_eq_true.mp hz j hjq
              rw [hbj] at this
              cases this
            · have hbf : bar j = false := by
                cases hx : bar j
                · rfl
                · exact absurd hx hbj
              have : z_br P Q bar S u j = some w := by
                rw [z_br_fg hbf]
                exact hb
              rw [this]
              exact z_ws_f n (w :: S) (p ++ [j]) w (fun i hi => by
                rcases List.mem_append.mp hi with hi | hi
                · exact hp i hi
                · rw [List.mem_singleton.mp hi]
                  exact hbf)
      exact key C
/-- q shares no cable with p -/
def z_dj (p : List Nat) : List Nat → Bool := z_fr (fun i => decide (i ∈ p))
def z_bp (W : Nat → Nat) (p0 q0 p q : List Nat) : Bool := decide (z_co W p + z_co W q < z_co W p0 + z_co W q0 ∨ (z_co W p + z_co W q = z_co W p0 + z_co W q0 ∧ z_lt2 W p p0 = true))
/-- the pair that is kept when p leads and q is the least way beside it -/
def z_kq (W : Nat → Nat) (k : Option (List Nat × List Nat)) (p : List Nat) (o : Option (List Nat)) : Option (List Nat × List Nat) := match o with
  | none => k
  | some q => match k with
    | none => some (p, q)
    | some pq => if z_bp W pq.1 pq.2 p q = true then some (p, q) else some pq
def z_k1 (W : Nat → Nat) (L : List (List Nat)) (k : Option (List Nat × List Nat)) (p : List Nat) : Option (List Nat × List Nat) := z_kq W k p (z_bst W (L.filter (z_dj p)) none)
def z_kh (c0 c : mm_M) (W : Nat → Nat) (k : Option (List Nat × List Nat)) : Prop := match k with
  | none => c 9 0 14 = -1 ∧ ∀ j, c 10 3 j = c0 10 3 j ∧ c 62 3 j = c0 62 3 j ∧ c 10 4 j = c0 10 4 j ∧ c 62 4 j = c0 62 4 j
  | some pq => c 9 0 14 = Int32.ofNat (z_co W pq.1 + z_co W pq.2) ∧ z_wak c 3 W pq.1 ∧ z_wak c 4 W pq.2
theorem z_kh_fr {c0 c r : mm_M} {W : Nat → Nat} {k : Option (List Nat × List Nat)} (h : r 9 0 14 = c 9 0 14) (h1 : ∀ k, r 10 3 k = c 10 3 k) (h2 : ∀ k, r 62 3 k = c 62 3 k) (h3 : ∀ k, r 10 4 k = c 10 4 k) (h4 : ∀ k, r 62 4 k = c 62 4 k) (hk : z_kh c0 c W k) : z_kh c0 r W k := by
  cases k with
  | none =>
    refine ⟨h.trans hk.1, fun j => ?_⟩
    rw [h1, h2, h3, h4]
    exact hk.2 j
  | some pq => exact ⟨h.trans hk.1, z_wak_fr h1 h2 hk.2.1, z_wak_fr h3 h4 hk.2.2⟩
abbrev zLd : zT := [(9, none, some 14), (10, some 0, none), (62, some 0, none), (10, some 1, none), (62, some 1, none), (10, some 2, none), (62, some 2, none), (10, some 3, none), (62, some 3, none), (10, some 4, none), (62, some 4, none)]
theorem c_btp {c0 c : mm_M} {W : Nat → Nat} {p q : List Nat} {k : Option (List Nat × List Nat)} (hW : ∀ i, W i ≤ 2400000) (hp : z_wak c 2 W p) (hq : z_wak c 1 W q) (hk : z_kh c0 c W k) : vW (f_X4_isBetterPair c) (fun r => (r = 1 ∧ z_kq W k p (some q) = some (p, q)) ∨ (r = 0 ∧ z_kq W k p (some q) = k)) := by
  have b1 := z_co_b hW p
  have b2 := z_co_b hW q
  have l1 := hp.1
  have l2 := hq.1
  have e2 := hp.2.2.2.1
  have e1 := hq.2.2.2.1
  unfold f_X4_isBetterPair
  rw [e2, e1, nJ_a]
  refine v_l ?_
  refine v_lO ?_
  cases k with
  | none =>
    refine v_ifp hk.1 ?_
    refine v_ifp hk.1 ?_
    exact v_so (Or.inl ⟨rfl, rfl⟩)
  | some pq =>
    obtain ⟨h14, h3, h4⟩ := hk
    have b3 := z_co_b hW pq.1
    have b4 := z_co_b hW pq.2
    have l3 := h3.1
    have l4 := h4.1
    have hn : ¬ c 9 0 14 = -1 := by rw [h14]; exact n_m1 (by omega)
    have ez : z_kq W (some pq) p (some q) = if z_bp W pq.1 pq.2 p q = true then some (p, q) else some pq := rfl
    refine v_ifn hn ?_
    by_cases hs : z_co W p + z_co W q = z_co W pq.1 + z_co W pq.2
    · refine v_ifp (by rw [h14, hs]) ?_
      refine v_b1e (c_lessW hW hp h3) ?_
      by_cases hlt : z_lt2 W p pq.1 = true
      · rw [if_pos hlt]
        refine v_ifp (Or.inr rfl) ?_
        refine v_so (Or.inl ⟨rfl, ?_⟩)
        rw [ez]
        exact if_pos (decide_eq_true (Or.inr ⟨hs, hlt⟩))
      · rw [if_neg hlt]
        refine v_ifp (Or.inl rfl) ?_
        refine v_so (Or.inr ⟨rfl, ?_⟩)
        rw [ez, if_neg (fun z => by
          rcases of_decide_eq_true z with z | z
          · omega
          · exact hlt z.2)]
    · refine v_ifn (by rw [h14]; exact fun z => hs ((n_eq (by omega) (by omega)).mp z)) ?_
      refine v_ifn hn ?_
      by_cases hl : z_co W p + z_co W q < z_co W pq.1 + z_co W pq.2
      · refine v_ifn (by rw [h14, iA_le, nJ_T (by omega), nJ_T (by omega)]; omega) ?_
        refine v_so (Or.inl ⟨rfl, ?_⟩)
        rw [ez]
        exact if_pos (decide_eq_true (Or.inl hl))
      · refine v_ifp (by rw [h14, iA_le, nJ_T (by omega), nJ_T (by omega)]; omega) ?_
        refine v_so (Or.inr ⟨rfl, ?_⟩)
        rw [ez, if_neg (fun z => by
          rcases of_decide_eq_true z with z | z
          · omega
          · exact hs z.1)]
theorem c_lead {P Q W : Nat → Nat} {C d u0 : Nat} {U0 D : Int32} {c0 : mm_M} (hC : C ≤ 10) (hP : ∀ i, i < C → P i < 8 ∧ Q i < 8) (hW : ∀ i, W i ≤ 2400000) (hU0 : U0.toInt = (u0 : Int)) (hu0 : u0 < 8) (hD : D.toInt = (d : Int)) : ∀ (n : Nat) (S p : List Nat) (u : Nat) (U A4 : Int32) (c : mm_M) (k : Option (List Nat × List Nat)), U.toInt = (u : Int) → u < 8 → u ∈ S → p.length + z_uv S ≤ 7 → 16 ≤ n + p.length → (∀ x, x < 8 → z_bt A4 x = decide (x ∈ S)) → (∀ i, i ∈ p → P i ∈ S ∧ Q i ∈ S) → z_nt c P Q W C → z_wak c 2 W p → z_kh c0 c W k → vW (f_X4_leadOn n U U0 D A4 c) (fun r => fp zLd c r ∧ z_wak r 2 W p ∧ z_kh c0 r W ((z_ws P Q C (fun _ => false) d n S p u).foldl (z_k1 W (z_ws P Q C (fun _ => false) d 16 [u0] [] u0)) k))
  | 0, S, p, u, U, A4, c, k, _, _, _, h7, h16, _, _, _, _, _ => by omega
  | n + 1, S, p, u, U, A4, c, k, hU, hu, huS, h7, h16, hS, hpS, hnt, hwk, hkh => by
    rw [f_X4_leadOn]
    by_cases hud : u = d
    · refine v_ifn (fun z => z (by rw [iA_eq, hU, hD, hud])) ?_
      rw [z_ws_d hud]
      show vW _ (fun r => fp zLd c r ∧ z_wak r 2 W p ∧ z_kh c0 r W (z_kq W k p (z_bst W ((z_ws P Q C (fun _ => false) d 16 [u0] [] u0).filter (z_dj p)) none)))
      refine v_s2 (c_findL (bar := fun i => decide (i ∈ p)) hC hP hW (fun i _ => hwk.2.2.2.2.1 i) hD hU0 hu0 hnt) ?_
      rintro x c1 ⟨hf, hh, hx⟩
      dsimp only at hf hh hx
      rw [z_ws_f 16 [u0] [] u0 (fun i hi => by cases hi)] at hh hx
      have hwk1 : z_wak c1 2 W p := z_wak_fr (fun k => hf 10 2 k rfl) (fun k => hf 62 2 k rfl) hwk
      have hkh1 : z_kh c0 c1 W k := z_kh_fr (hf 9 0 14 rfl) (fun k => hf 10 3 k rfl) (fun k => hf 62 3 k rfl) (fun k => hf 10 4 k rfl) (fun k => hf 62 4 k rfl) hkh
      have hfl : fp zLd c c1 := fp_sb (by decide) hf
      change z_ho c1 1 W (z_bst W ((z_ws P Q C (fun _ => false) d 16 [u0] [] u0).filter (z_dj p)) none) at hh
      change x = (match z_bst W ((z_ws P Q C (fun _ => false) d 16 [u0] [] u0).filter (z_dj p)) none with
        | none => 0
        | some _ => 1) at hx
      cases hz : z_bst W ((z_ws P Q C (fun _ => false) d 16 [u0] [] u0).filter (z_dj p)) none with
      | none =>
        rw [hz] at hx
        refine v_ifp hx ?_
        exact v_so ⟨hfl, hwk1, hkh1⟩
      | some q =>
        rw [hz] at hx hh
        refine v_ifn (by rw [hx]; show ¬ (1 : Int32) = 0; decide) ?_
        refine v_s1 (c_btp hW hwk1 hh hkh1) (fun r hr => ?_)
        rcases hr with ⟨hr, he⟩ | ⟨hr, he⟩
        · refine v_ifn (by rw [hr]; decide) ?_
          refine v_lM ?_
          have hq : z_wak c1 1 W q := hh
          have e2 := hwk1.2.2.2.1
          have e1 := hq.2.2.2.1
          rw [e2, e1, nJ_a]
          refine v_s1 (c_take (show ¬ 2 = 3 by decide) (z_wak_fr (fun k => mw_g (by decide)) (fun k => mw_g (by decide)) hwk1)) (fun c2 h2 => ?_)
          refine v_s1 (c_take (show ¬ 1 = 4 by decide) (z_wak_fr (c := c1) (fun k => (h2.1 10 1 k (by omega)).trans (mw_g (by decide))) (fun k => (h2.1 62 1 k (by omega)).trans (mw_g (by decide))) hq)) (fun c3 h3 => ?_)
          have f3 : fp zLd c c3 := fp_tr (fp_w rfl hfl) (fp_tr (c_wfp (fun k => rfl) (fun k => rfl) h2.1) (c_wfp (fun k => rfl) (fun k => rfl) h3.1))
          refine v_so ⟨f3, z_wak_fr (fun k => (h3.1 10 2 k (by omega)).trans ((h2.1 10 2 k (by omega)).trans (mw_g (by decide)))) (fun k => (h3.1 62 2 k (by omega)).trans ((h2.1 62 2 k (by omega)).trans (mw_g (by decide)))) hwk1, ?_⟩
          rw [he]
          refine ⟨?_, z_wak_fr (fun k => h3.1 10 3 k (by omega)) (fun k => h3.1 62 3 k (by omega)) h2.2, h3.2⟩
          rw [h3.1 9 0 14 (by omega), h2.1 9 0 14 (by omega)]
          exact mw_s
        · refine v_ifp hr ?_
          refine v_so ⟨hfl, hwk1, ?_⟩
          rw [he]
          exact hkh1
    · refine v_ifp (fun z => hud (by have := iA_eq.mp z; omega)) ?_
      rw [z_ws_n hud]
      generalize hLL : z_k1 W (z_ws P Q C (fun _ => false) d 16 [u0] [] u0) = K1
      refine v_s1 (P := fun r => fp zLd c r ∧ z_wak r 2 W p ∧ z_kh c0 r W (((List.range C).flatMap fun i => z_on (z_br P Q (fun _ => false) S u i) (fun w => z_ws P Q C (fun _ => false) d n (w :: S) (p ++ [i]) w)).foldl K1 k)) ?_ (fun r hr => v_so hr)
      refine v_for (fun j s => s.1.toInt = (j : Int) ∧ fp zLd c s.2 ∧ z_wak s.2 2 W p ∧ z_kh c0 s.2 W (((List.range j).flatMap fun i => z_on (z_br P Q (fun _ => false) S u i) (fun w => z_ws P Q C (fun _ => false) d n (w :: S) (p ++ [i]) w)).foldl K1 k)) 0 C (Nat.zero_le _) (by omega) ⟨i_0, fp_rf, hwk, hkh⟩ ?_ ?_
      · rintro j ⟨v, e⟩ hj ⟨hv, hf, hwe, hoe⟩
        dsimp only at hv hf hwe hoe ⊢
        have hne := z_nt_fr hf (by decide) hnt
        have kv := n_k hv
        have iv : mm_in v 10 := v_in.mpr (by omega)
        have nxt : ∀ r, z_on (z_br P Q (fun _ => false) S u j) (fun w => z_ws P Q C (fun _ => false) d n (w :: S) (p ++ [j]) w) = [] → r = e → v_st (fun s : Int32 × mm_M => s.1.toInt = ((j + 1 : Nat) : Int) ∧ fp zLd c s.2 ∧ z_wak s.2 2 W p ∧ z_kh c0 s.2 W (((List.range (j + 1)).flatMap fun i => z_on (z_br P Q (fun _ => false) S u i) (fun w => z_ws P Q C (fun _ => false) d n (w :: S) (p ++ [i]) w)).foldl K1 k)) (fun r => fp zLd c r ∧ z_wak r 2 W p ∧ z_kh c0 r W (((List.range C).flatMap fun i => z_on (z_br P Q (fun _ => false) S u i) (fun w => z_ws P Q C (fun _ => false) d n (w :: S) (p ++ [i]) w)).foldl K1 k)) (.inl (v + 1, r)) := fun r h1 h2 => by
          refine v_pl.mpr ⟨n_s3 hv (by omega), ?_⟩
          rw [z_fl, h1, List.append_nil, h2]
          exact ⟨hf, hwe, hoe⟩
        have h77 := hwe.1
        refine v_ifn (by rw [iA_le, hne.1, hv, nJ_T (by omega)]; omega) ?_
        refine v_ifn (by rw [iA_le, hwe.2.2.1, i_8, nJ_T (by omega)]; omega) ?_
        refine v_b1e (c_othE hC hP hne hv hj hU hu) ?_
        cases ho : z_oth P Q j u with
        | none =>
          refine v_ifp rfl ?_
          refine v_l1 ?_
          exact v_so (nxt e (by rw [z_br_n ho]; rfl) rfl)
        | some w =>
          have hw8 : w < 8 := by
            rcases z_oth_e ho with ⟨_, z⟩ | ⟨_, z⟩
            · rw [← z]
              exact (hP j hj).2
            · rw [← z]
              exact (hP j hj).1
          have hwn : (Int32.ofNat w).toInt = (w : Int) := nJ_T (by omega)
          refine v_ifn (n_m1 (by omega)) ?_
          by_cases hwS : w ∈ S
          · refine v_ifp (by rw [z_bt_t1 hwn (by omega) (by rw [hS w hw8]; exact decide_eq_true hwS)]; decide) ?_
            refine v_l1 ?_
            exact v_so (nxt e (by rw [z_br_s ho hwS]; rfl) rfl)
          · refine v_ifn (by rw [z_bt_t0 hwn (by omega) (by rw [hS w hw8]; exact decide_eq_false hwS)]; decide) ?_
            refine v_ifp iv ?_
            have hun := z_uv_c hw8 hwS
            have hjp : ¬ j ∈ p := fun hjp => by
              have := hpS j hjp
              rcases z_oth_e ho with ⟨_, z⟩ | ⟨_, z⟩
              · rw [z] at this
                exact hwS this.2
              · rw [z] at this
                exact hwS this.1
            have hlj : (p ++ [j]).length = p.length + 1 := by rw [List.length_append]; rfl
            have r56 : e 56 0 v.toNatClampNeg = Int32.ofNat (W j) := by rw [kv]; exact (hne.2 j hj).2.2
            rw [r56]
            refine v_s1 (c_wadd hv (by omega) hwe (by omega)) (fun r1 hr1 => ?_)
            have f1 : fp zLd e r1 := c_wfp (fun k => rfl) (fun k => rfl) hr1.1
            refine v_s1 (c_lead (c0 := c0) hC hP hW hU0 hu0 hD n (w :: S) (p ++ [j]) w (Int32.ofNat w) (A4 ||| ((1 : Int32) <<< (Int32.ofNat w &&& 31))) r1 (((List.range j).flatMap fun i => z_on (z_br P Q (fun _ => false) S u i) (fun w => z_ws P Q C (fun _ => false) d n (w :: S) (p ++ [i]) w)).foldl K1 k) hwn hw8 List.mem_cons_self (by omega) (by omega) (fun x hx => ?_) (fun i hi => ?_) (z_nt_fr f1 (by decide) hne) hr1.2 (z_kh_fr (hr1.1 9 0 14 (by omega)) (fun k => hr1.1 10 3 k (by omega)) (fun k => hr1.1 62 3 k (by omega)) (fun k => hr1.1 10 4 k (by omega)) (fun k => hr1.1 62 4 k (by omega)) hoe)) (fun r2 hr2 => ?_)
            · rw [z_bt_or, hS x hx, z_bt_s hwn (by omega)]
              simp only [List.mem_cons, Bool.decide_or]
              exact Bool.or_comm _ _
            · rcases List.mem_append.mp hi with hi | hi
              · exact ⟨List.mem_cons_of_mem _ (hpS i hi).1, List.mem_cons_of_mem _ (hpS i hi).2⟩
              · rw [List.mem_singleton.mp hi]
                rcases z_oth_e ho with ⟨z1, z2⟩ | ⟨z1, z2⟩
                · rw [z1, z2]
                  exact ⟨List.mem_cons_of_mem _ huS, List.mem_cons_self⟩
                · rw [z1, z2]
                  exact ⟨List.mem_cons_self, List.mem_cons_of_mem _ huS⟩
            · have f2 : fp zLd e r2 := fp_tr f1 hr2.1
              refine v_ifp iv ?_
              rw [kv, ((z_nt_fr f2 (by decide) hne).2 j hj).2.2]
              refine v_s1 (c_wdrop hr2.2.1 hjp) (fun r3 hr3 => ?_)
              refine v_l1 ?_
              refine v_il ⟨n_s3 hv (by omega), fp_tr hf (fp_tr f2 (c_wfp (fun k => rfl) (fun k => rfl) hr3.1)), hr3.2, ?_⟩
              dsimp only
              rw [z_fl, List.foldl_append, z_br_w rfl ho hwS]
              have h5 := hr2.2.2
              rw [hLL] at h5
              exact z_kh_fr (hr3.1 9 0 14 (by omega)) (fun k => hr3.1 10 3 k (by omega)) (fun k => hr3.1 62 3 k (by omega)) (fun k => hr3.1 10 4 k (by omega)) (fun k => hr3.1 62 4 k (by omega)) h5
      · rintro ⟨v, e⟩ ⟨hv, hf, hwe, hoe⟩
        dsimp only at hv hf hwe hoe ⊢
        have hne := z_nt_fr hf (by decide) hnt
        refine v_ifp (by rw [iA_le, hne.1, hv, nJ_T (by omega)]; omega) ?_
        exact v_ir ⟨hf, hwe, hoe⟩
/-- the least pair -/
def z_pr (W : Nat → Nat) (L : List (List Nat)) : Option (List Nat × List Nat) := L.foldl (z_k1 W L) none
theorem c_keepP {P Q W : Nat → Nat} {C d u : Nat} {U D : Int32} {c : mm_M} (hC : C ≤ 10) (hP : ∀ i, i < C → P i < 8 ∧ Q i < 8) (hW : ∀ i, W i ≤ 2400000) (hD : D.toInt = (d : Int)) (hU : U.toInt = (u : Int)) (hu : u < 8) (hnt : z_nt c P Q W C) : vW (f_X4_keepPair U D c) (fun q => fp zLd c q.2 ∧ q.1 = q.2 9 0 14 ∧ z_kh c q.2 W (z_pr W (z_ws P Q C (fun _ => false) d 16 [u] [] u))) := by
  unfold f_X4_keepPair
  refine v_lM ?_
  have f0 : fp zLd c (mm_w c 9 0 14 (-1)) := fp_w rfl fp_rf
  refine v_s1 (c_clr (W := W) (i := 2)) (fun c1 h1 => ?_)
  have f1 : fp zLd c c1 := fp_tr f0 (c_wfp (fun k => rfl) (fun k => rfl) h1.1)
  have hun := z_uv_1 hu
  refine v_s1 (c_lead (c0 := c) hC hP hW hU hu hD 16 [u] [] u U ((1 : Int32) <<< (U &&& 31)) c1 none hU hu List.mem_cons_self (by show 0 + z_uv [u] ≤ 7; omega) (by omega) (fun x hx => ?_) (fun i hi => (by cases hi)) (z_nt_fr f1 (by decide) hnt) h1.2 ⟨?_, fun j => ⟨?_, ?_, ?_, ?_⟩⟩) (fun c2 h2 => ?_)
  · rw [z_bt_s hU (by omega)]
    simp only [List.mem_singleton]
  · exact (h1.1 9 0 14 (by omega)).trans mw_s
  · exact (h1.1 10 3 j (by omega)).trans (mw_g (by decide))
  · exact (h1.1 62 3 j (by omega)).trans (mw_g (by decide))
  · exact (h1.1 10 4 j (by omega)).trans (mw_g (by decide))
  · exact (h1.1 62 4 j (by omega)).trans (mw_g (by decide))
  · exact v_so ⟨fp_tr f1 h2.1, rfl, h2.2.2⟩
