/-! a continuation as a thing known by what it does -/
theorem v_lK {α : Type} {k : Int32 → Option α} {B : (Int32 → Option α) → Option α} {Q : α → Prop} (P : Int32 → Prop) (hk : ∀ w, P w → vW (k w) Q) (h : ∀ k' : Int32 → Option α, (∀ w, P w → vW (k' w) Q) → vW (B k') Q) : vW (mm_let k B) Q := h k hk
theorem v_lK2 {α : Type} {k : Int32 → mm_M → Option α} {B : (Int32 → mm_M → Option α) → Option α} {Q : α → Prop} (P : Int32 → mm_M → Prop) (hk : ∀ w c, P w c → vW (k w c) Q) (h : ∀ k' : Int32 → mm_M → Option α, (∀ w c, P w c → vW (k' w c) Q) → vW (B k') Q) : vW (mm_let k B) Q := h k hk
theorem v_lKm {α : Type} {k : mm_M → Option α} {B : (mm_M → Option α) → Option α} {Q : α → Prop} (P : mm_M → Prop) (hk : ∀ c, P c → vW (k c) Q) (h : ∀ k' : mm_M → Option α, (∀ c, P c → vW (k' c) Q) → vW (B k') Q) : vW (mm_let k B) Q := h k hk
theorem v_lK0 {α : Type} {k : Option α} {B : Option α → Option α} {Q : α → Prop} (hk : vW k Q) (h : ∀ k' : Option α, vW k' Q → vW (B k') Q) : vW (mm_let k B) Q := h k hk
/-! the row of one side -/
def d_fr (i : Nat) (m r : mm_M) : Prop := ∀ g j k, ¬ (j = i ∧ (g = 41 ∨ g = 42 ∨ g = 43 ∨ g = 44 ∨ (g = 6 ∧ (k = 3 ∨ k = 5)))) → r g j k = m g j k
theorem d_frr {i : Nat} {m : mm_M} : d_fr i m m := fun _ _ _ _ => rfl
theorem d_frt {i : Nat} {m1 m2 m3 : mm_M} (h1 : d_fr i m1 m2) (h2 : d_fr i m2 m3) : d_fr i m1 m3 := fun g j k h => (h2 g j k h).trans (h1 g j k h)
theorem d_fr_c {i : Nat} {m r : mm_M} (h : c_fr i m r) : d_fr i m r := fun g j k hz => h g j k (fun z => hz ⟨z.1, by
  rcases z.2 with h | h | h | h
  · exact Or.inl h
  · exact Or.inr (Or.inl h)
  · exact Or.inr (Or.inr (Or.inl h))
  · exact Or.inr (Or.inr (Or.inr (Or.inr ⟨h.1, Or.inl h.2⟩)))⟩)
theorem d_frw {i g k : Nat} {m m1 : mm_M} {x : Int32} (h : g = 41 ∨ g = 42 ∨ g = 43 ∨ g = 44 ∨ (g = 6 ∧ (k = 3 ∨ k = 5))) (h1 : d_fr i m m1) : d_fr i m (mm_w m1 g i k x) := fun g' i' k' h' => by
  rw [mw_get, if_neg (fun z => h' ⟨z.2.1, by rw [z.1, z.2.2]; exact h⟩)]
  exact h1 g' i' k' h'
/-- groups other than a row's -/
theorem d_fro {i g j k : Nat} {m r : mm_M} (h : d_fr i m r) (hg : z_in [(6, none, none), (41, none, none), (42, none, none), (43, none, none), (44, none, none)] g j k = false) : r g j k = m g j k := h g j k (fun z => by
  rcases z.2 with h | h | h | h | h
  · rw [h] at hg
    exact z_tf rfl hg
  · rw [h] at hg
    exact z_tf rfl hg
  · rw [h] at hg
    exact z_tf rfl hg
  · rw [h] at hg
    exact z_tf rfl hg
  · rw [h.1] at hg
    exact z_tf rfl hg)
theorem d_frf {i : Nat} {m r : mm_M} (h : d_fr i m r) : fp [(6, none, none), (41, none, none), (42, none, none), (43, none, none), (44, none, none)] m r := fun _ _ _ hz => d_fro h hz
def c_rw (c : mm_M) (i : Nat) (Q : List zQ) : Prop := c 6 i 3 = Int32.ofNat Q.length ∧ ∀ k x, Q[k]? = some x → c 41 i k = x.1 ∧ c 42 i k = x.2.1 ∧ c 43 i k = x.2.2
def c_mr (c : mm_M) (i : Nat) (M : List Int32) : Prop := c 6 i 5 = Int32.ofNat M.length ∧ ∀ k d, M[k]? = some d → c 44 i k = d
theorem c_mr_fr {i : Nat} {m r : mm_M} {M : List Int32} (h : c_fr i m r) (hm : c_mr m i M) : c_mr r i M := ⟨(h 6 i 5 (fun z => by
  rcases z.2 with h | h | h | h
  · cases h
  · cases h
  · cases h
  · cases h.2)).trans hm.1, fun k d hk => (h 44 i k (fun z => by
  rcases z.2 with h | h | h | h
  · cases h
  · cases h
  · cases h
  · cases h.1)).trans (hm.2 k d hk)⟩
theorem c_insL {m : mm_M} {i p : Nat} {P a b s : Int32} {Q : List zQ} (hr : c_rw m i Q) (h48 : Q.length ≤ 48) (hP : P.toInt = (p : Int)) (hp : p ≤ Q.length) : vW (f_X5_insert i P a b s m) (fun r => c_fr i m r ∧ c_rw r i (Q.take p ++ (a, b, s) :: Q.drop p)) := v_mono (c_ins hr.1 h48 hP hp) (fun r ⟨h1, h2, h3⟩ => by
  refine ⟨h1, by rw [z_tkln hp]; exact h2, fun k x hx => ?_⟩
  obtain ⟨hk, hc⟩ := z_tkdr hp hx
  obtain ⟨y1, y2, y3⟩ := h3 k hk
  unfold z_put at y1 y2 y3
  rcases hc with ⟨g1, g2⟩ | ⟨g1, g2⟩ | ⟨g1, g2⟩
  · rw [if_pos g1] at y1 y2 y3
    obtain ⟨z1, z2, z3⟩ := hr.2 k x g2
    exact ⟨y1.trans z1, y2.trans z2, y3.trans z3⟩
  · rw [if_neg (by omega), if_pos g1] at y1 y2 y3
    rw [g2]
    exact ⟨y1, y2, y3⟩
  · rw [if_neg (by omega), if_neg (by omega)] at y1 y2 y3
    obtain ⟨z1, z2, z3⟩ := hr.2 (k - 1) x g2
    exact ⟨y1.trans z1, y2.trans z2, y3.trans z3⟩)
theorem c_insX {m : mm_M} {i : Nat} {a b s q : Int32} {R : List zX} (hr : c_rw m i (R.map (·.1))) (h48 : R.length ≤ 48) : vW (f_X5_insert i (m 6 i 3) a b s m) (fun r => c_fr i m r ∧ c_rw r i ((R ++ [((a, b, s), q)]).map (·.1))) := by
  have hl : (R.map (·.1)).length = R.length := List.length_map _
  refine v_mono (c_insL (p := R.length) hr (by omega) (by rw [hr.1, hl, nJ_T (by omega)]) (by omega)) (fun r ⟨h1, h2⟩ => ⟨h1, ?_⟩)
  rw [← hl, List.take_length, List.drop_length] at h2
  rw [List.map_append]
  exact h2
theorem z_see_0 {D : Int32} {x : zX} : z_see D [] x := trivial
theorem z_see_l {D : Int32} {R : List zX} {x y : zX} (h : R[R.length - 1]? = some y) : z_see D R x ↔ (D.toInt < x.1.1.toInt - y.1.1.toInt ∧ (40 ≤ x.1.2.1.toInt ∨ x.1.2.2 = 3)) := by
  unfold z_see
  rw [List.getLast?_eq_getElem?, h]
theorem i_40 : (40 : Int32).toInt = 40 := by decide
theorem c_step {m : mm_M} {i : Nat} {R : List zX} {D d s k q : Int32} (hr : c_rw m i (R.map (·.1))) (hl : R.length ≤ 48) (hR : ∀ y, y ∈ R → z_xb y) (hx : -40000 ≤ d.toInt ∧ d.toInt ≤ 1000000) : vW (f_X5_step i d s k D m) (fun r => c_fr i m r.2 ∧ c_rw r.2 i ((z_add D R ((d, s, k), q)).map (·.1)) ∧ ((r.1 = 1 ∧ z_see D R ((d, s, k), q)) ∨ (r.1 = 0 ∧ ¬ z_see D R ((d, s, k), q)))) := by
  have h6 : m 6 i 3 = Int32.ofNat R.length := by rw [hr.1, List.length_map]
  unfold f_X5_step
  refine v_lK (fun w => (w = 1 ∧ z_see D R ((d, s, k), q)) ∨ (w = 0 ∧ ¬ z_see D R ((d, s, k), q))) ?_ (fun k2 hk2 => ?_)
  · rintro w (⟨rfl, h⟩ | ⟨rfl, h⟩)
    · refine v_ifn (by decide) ?_
      refine v_s1 (c_insX (q := q) hr hl) ?_
      rintro r ⟨h1, h2⟩
      refine v_ifp (Or.inr rfl) (v_so ⟨h1, ?_, Or.inl ⟨rfl, h⟩⟩)
      rw [z_add_y h]
      exact h2
    · refine v_ifp rfl (v_ifp (Or.inl rfl) (v_so ⟨c_frr, ?_, Or.inr ⟨rfl, h⟩⟩))
      rw [z_add_n h]
      exact hr
  · by_cases h0 : R.length = 0
    · have hR0 : R = [] := List.length_eq_zero_iff.mp h0
      refine v_ifp (by rw [h6, h0]; rfl) (hk2 1 (Or.inl ⟨rfl, ?_⟩))
      rw [hR0]
      exact z_see_0
    · obtain ⟨y, hy⟩ := z_ex (l := R) (k := R.length - 1) (by omega)
      have hyb := hR y (List.mem_of_getElem? hy)
      have hy1 : (R.map (·.1))[R.length - 1]? = some y.1 := by rw [List.getElem?_map, hy]; rfl
      have e41 := (hr.2 _ _ hy1).1
      have e1 : (m 6 i 3 - 1).toInt = ((R.length - 1 : Nat) : Int) := by rw [h6, n_0N (by omega)]; omega
      have hi := z_see_l (D := D) (x := ((d, s, k), q)) hy
      dsimp only at hi
      refine v_ifn (by rw [h6]; exact n_ne (by rw [nJ_T (by omega), i_0]; omega)) ?_
      refine v_ifp (v_in.mpr (by omega)) ?_
      have e2 : (d - m 41 i (m 6 i 3 - 1).toNatClampNeg).toInt = d.toInt - y.1.1.toInt := by
        have := hyb.1
        rw [n_k e1, e41, iA_sub (by omega) (by omega)]
      by_cases g1 : d.toInt - y.1.1.toInt ≤ D.toInt
      · refine v_ifp (by rw [iA_le, e2]; exact g1) (hk2 0 (Or.inr ⟨rfl, ?_⟩))
        rw [hi]
        omega
      refine v_ifn (by rw [iA_le, e2]; exact g1) ?_
      by_cases g2 : 40 ≤ s.toInt
      · refine v_ifp (by rw [iA_le, i_40]; exact g2) (hk2 1 (Or.inl ⟨rfl, ?_⟩))
        rw [hi]
        exact ⟨by omega, Or.inl g2⟩
      refine v_ifn (by rw [iA_le, i_40]; exact g2) ?_
      by_cases g3 : k = 3
      · refine v_ifn (fun z => z g3) (hk2 1 (Or.inl ⟨rfl, ?_⟩))
        rw [hi]
        exact ⟨by omega, Or.inr g3⟩
      · refine v_ifp g3 (hk2 0 (Or.inr ⟨rfl, ?_⟩))
        rw [hi]
        rintro ⟨_, h | h⟩
        · exact g2 h
        · exact g3 h
theorem c_run {m : mm_M} {i t N Y p : Nat} {R : List zX} {D e v a2 : Int32} {K A B H L bn ct o : Nat → Int32} (h4 : m 4 0 4 = Int32.ofNat t) (ht : t < 8) (h24 : N ≤ 24) (hT : z_thC m t N K A B H Y) (hs : z_scC m bn ct o) (hb : z_nb N K A ct) (hp : p < N) (hK : K p = 0) (ha : a2.toInt = (p : Int)) (hv : 0 ≤ v.toInt ∧ v.toInt ≤ 960000) (hr : c_rw m i (R.map (·.1))) (hl : R.length ≤ 46) (hR : ∀ y, y ∈ R → z_xb y) (hso : z_so (R.map (·.1))) (hD : 0 ≤ D.toInt) : vW (f_X5_passRun i a2 v e D m) (fun r => r.1 = z_lit A ct e p ∧ c_fr i m r.2 ∧ c_rw r.2 i (((z_ps K A L bn ct e p v).foldl (z_add D) R).map (·.1))) := by
  have kp := n_k ha
  have ip : mm_in a2 24 := v_in.mpr (by omega)
  have kt : (m 4 0 4).toNatClampNeg = t := by rw [h4, nJ_N (by omega)]
  have e38 : m 38 t p = A p := (hT.2.2 p hp).2.1
  obtain ⟨e33, e34, _⟩ := hs p (by omega)
  obtain ⟨hA, hct, _⟩ := hb p hp
  have hlit := z_lit_b (e := e) hb hp
  have hhalf := n_half hA.1
  have hps : z_ps K A L bn ct e p v = (if bn p ≤ 0 ∨ z_lit A ct e p < A p / 2 then [] else [((v + A p / 2, bn p, 0), 0)]) ++ (if ct p = -1 then [] else [((v + z_lit A ct e p, 0, 3), 0)]) := if_pos hK
  rw [hps]
  unfold f_X5_passRun
  refine v_ifn (by rw [h4]; exact n_m1 (by omega)) (v_lN ?_)
  rw [kt]
  refine v_ifp ip ?_
  refine v_lI (fun v2 h2 => ?_)
  rw [kp, e38] at h2
  refine v_ifp ip ?_
  refine v_lI (fun v3 h3 => ?_)
  rw [kp, e34] at h3
  refine v_lK (fun w => w = z_lit A ct e p) ?_ (fun k5 hk5 => ?_)
  · rintro w hw
    refine v_lI (fun h6 e6 => ?_)
    rw [h2] at e6
    refine v_ifp ip ?_
    refine v_lKm (fun c => c_fr i m c ∧ c_rw c i (((if bn p ≤ 0 ∨ z_lit A ct e p < A p / 2 then [] else [((v + A p / 2, bn p, 0), 0)]).foldl (z_add D) R).map (·.1))) ?_ (fun k8 hk8 => ?_)
    · rintro c ⟨f1, r1⟩
      rw [List.foldl_append]
      generalize hS : (if bn p ≤ 0 ∨ z_lit A ct e p < A p / 2 then ([] : List zX) else [((v + A p / 2, bn p, 0), 0)]) = S at r1 ⊢
      have hSb : (∀ y, y ∈ S → z_xb y) ∧ S.length ≤ 1 := by
        rw [← hS]
        by_cases g : bn p ≤ 0 ∨ z_lit A ct e p < A p / 2
        · rw [if_pos g]
          exact ⟨fun y hy => (by cases hy), Nat.zero_le _⟩
        · rw [if_neg g]
          refine ⟨fun y hy => ?_, Nat.le_refl _⟩
          rw [List.mem_singleton] at hy
          rw [hy]
          exact ⟨by dsimp only; rw [iA_add (by omega) (by omega)]; omega, fun z => absurd (show (0 : Int32) = 2 from z) (by decide), fun z => absurd (show (0 : Int32) = 4 from z) (by decide)⟩
      obtain ⟨y1, y2, y3⟩ := z_fold_b hD S R hso hR hSb.1
      by_cases hc : ct p = -1
      · rw [if_pos hc]
        refine v_ifp (by rw [h3]; exact hc) (v_so ⟨hw, f1, r1⟩)
      · rw [if_neg hc]
        refine v_ifn (by rw [h3]; exact hc) ?_
        refine v_s2 (c_step (q := 0) r1 (by omega) y2 (by rw [hw, iA_add (by omega) (by omega)]; omega)) ?_
        rintro r9 m10 ⟨f2, r2, _⟩
        refine v_so ⟨hw, c_frt f1 f2, ?_⟩
        rw [hw] at r2
        exact r2
    · by_cases g1 : bn p ≤ 0
      · refine v_ifp (by rw [kp, e33]; exact g1) (hk8 m ⟨c_frr, ?_⟩)
        rw [if_pos (Or.inl g1)]
        exact hr
      · refine v_ifn (by rw [kp, e33]; exact g1) ?_
        by_cases g2 : z_lit A ct e p < A p / 2
        · refine v_ifp (by rw [hw, e6]; exact g2) (hk8 m ⟨c_frr, ?_⟩)
          rw [if_pos (Or.inr g2)]
          exact hr
        · refine v_ifn (by rw [hw, e6]; exact g2) (v_ifp ip ?_)
          rw [kp, e33, e6]
          refine v_s2 (c_step (q := 0) hr (by omega) hR (by rw [iA_add (by omega) (by omega)]; omega)) ?_
          rintro r9 m10 ⟨f2, r2, _⟩
          refine hk8 m10 ⟨f2, ?_⟩
          rw [if_neg (fun z => by rcases z with z | z; exact g1 z; exact g2 z)]
          exact r2
  · by_cases hc : ct p = -1
    · refine v_ifp (by rw [h3]; exact hc) (hk5 v2 ?_)
      unfold z_lit
      rw [if_pos hc]
      exact h2
    · refine v_ifn (by rw [h3]; exact hc) ?_
      by_cases he : e = 0
      · refine v_ifp he (hk5 v3 ?_)
        unfold z_lit
        rw [if_neg hc, if_pos he]
        exact h3
      · refine v_ifn he (v_l (hk5 _ ?_))
        unfold z_lit
        rw [if_neg hc, if_neg he, h2, h3]
theorem c_mirror {m : mm_M} {i : Nat} {M : List Int32} {d : Int32} (hm : c_mr m i M) (h24 : M.length < 24) : vW (f_X5_addMirror i d m) (fun r => d_fr i m r ∧ (∀ k, r 6 i 3 = m 6 i 3 ∧ r 41 i k = m 41 i k ∧ r 42 i k = m 42 i k ∧ r 43 i k = m 43 i k) ∧ c_mr r i (if 0 < d.toInt then M ++ [d] else M)) := by
  unfold f_X5_addMirror
  by_cases h0 : 0 < d.toInt
  · rw [if_pos h0]
    refine v_ifn (by rw [iA_le, i_0]; omega) ?_
    refine v_ifn (by rw [hm.1, iA_le, nJ_T (by omega), show (24 : Int32).toInt = 24 by decide]; omega) ?_
    refine v_ifp (by rw [hm.1]; exact nJ_in (by omega) (by decide)) ?_
    rw [hm.1, nJ_N (by omega)]
    refine v_lM (v_lM (v_so ?_))
    rw [mw_g (show 6 ≠ 44 by decide), hm.1, n_a1]
    refine ⟨d_frw (Or.inr (Or.inr (Or.inr (Or.inr ⟨rfl, Or.inr rfl⟩)))) (d_frw (Or.inr (Or.inr (Or.inr (Or.inl rfl)))) d_frr), fun k => ⟨?_, ?_, ?_, ?_⟩, ?_, fun k x hx => ?_⟩
    · rw [mw_k (show 3 ≠ 5 by decide), mw_g (by decide)]
    · rw [mw_g (by decide), mw_g (by decide)]
    · rw [mw_g (by decide), mw_g (by decide)]
    · rw [mw_g (by decide), mw_g (by decide)]
    · rw [mw_s, List.length_append, List.length_singleton]
    · rw [mw_g (by decide)]
      rcases z_snoc hx with ⟨g1, g2⟩ | ⟨g1, g2⟩
      · rw [mw_k (by omega)]
        exact hm.2 k x g2
      · rw [g1, mw_s, g2]
  · rw [if_neg h0]
    exact v_ifp (by rw [iA_le, i_0]; omega) (v_so ⟨d_frr, fun k => ⟨rfl, rfl, rfl, rfl⟩, hm⟩)
/-- a row with its plugs -/
def c_ob (c : mm_M) (i : Nat) (R : List zX) : Prop := c_rw c i (R.map (·.1)) ∧ c_mr c i (z_mi R)
theorem c_near {m : mm_M} {i : Nat} {R : List zX} {Q : List zQ} {x D : Int32} (hr : c_rw m i Q) (hl : Q.length ≤ 49) (hg : z_rg R Q) : vW (f_X5_isNearSeen i x D m) (fun r => (r = 0 ∧ ∀ y, y ∈ R → D.toInt < (mm_abs (y.1.1 - x)).toInt) ∨ (r = 1 ∧ ¬ ∀ y, y ∈ R → D.toInt < (mm_abs (y.1.1 - x)).toInt)) := by
  unfold f_X5_isNearSeen
  refine v_s1 (P := fun t => (t = .inr () ∧ ∀ y, y ∈ R → D.toInt < (mm_abs (y.1.1 - x)).toInt) ∨ (t = .inl () ∧ ¬ ∀ y, y ∈ R → D.toInt < (mm_abs (y.1.1 - x)).toInt)) ?_ ?_
  · refine v_for (fun j v => v.toInt = (j : Int) ∧ ∀ k t, k < j → Q[k]? = some t → ¬ t.2.2 = 4 → D.toInt < (mm_abs (t.1 - x)).toInt) 0 Q.length (Nat.zero_le _) (by omega) ⟨i_0, fun k t hk => absurd hk (Nat.not_lt_zero k)⟩ ?_ ?_
    · rintro j v hj ⟨hv, hz⟩
      obtain ⟨t, hq⟩ := z_ex hj
      obtain ⟨e41, _, e43⟩ := hr.2 j t hq
      refine v_ifn (by rw [hr.1, iA_le, nJ_T (by omega)]; omega) ?_
      refine v_ifp (v_in.mpr (by omega)) ?_
      by_cases g4 : t.2.2 = 4
      · refine v_ifp (by rw [n_k hv, e43]; exact g4) ?_
        refine v_l1 (v_il ⟨n_s3 hv (by omega), fun k u hk hu h4 => ?_⟩)
        by_cases e : k = j
        · rw [e, hq] at hu
          cases hu
          exact absurd g4 h4
        · exact hz k u (by omega) hu h4
      · refine v_ifn (by rw [n_k hv, e43]; exact g4) ?_
        refine v_ifp (v_in.mpr (by omega)) ?_
        by_cases g5 : D.toInt < (mm_abs (t.1 - x)).toInt
        · refine v_ifp (by rw [n_k hv, e41, iA_lt]; exact g5) ?_
          refine v_l1 (v_il ⟨n_s3 hv (by omega), fun k u hk hu h4 => ?_⟩)
          by_cases e : k = j
          · rw [e, hq] at hu
            cases hu
            exact g5
          · exact hz k u (by omega) hu h4
        · refine v_ifn (by rw [n_k hv, e41, iA_lt]; exact g5) (v_ir (Or.inr ⟨rfl, fun h => ?_⟩))
          obtain ⟨y, hy, hyt⟩ := hg.2.1 t (List.mem_of_getElem? hq) g4
          have := h y hy
          rw [hyt] at this
          exact g5 this
    · rintro v ⟨hv, hz⟩
      refine v_ifp (by rw [hr.1, iA_le, nJ_T (by omega)]; omega) (v_ir (Or.inl ⟨rfl, fun y hy => ?_⟩))
      obtain ⟨t, ht, h1, h2⟩ := hg.2.2 y hy
      obtain ⟨k, hk⟩ := List.mem_iff_getElem?.mp ht
      rw [← h1]
      exact hz k t (z_lt hk) hk h2
  · rintro t (⟨rfl, h⟩ | ⟨rfl, h⟩)
    · exact v_so (Or.inl ⟨rfl, h⟩)
    · exact v_so (Or.inr ⟨rfl, h⟩)
theorem c_place {m : mm_M} {i : Nat} {Q : List zQ} {x : Int32} (hr : c_rw m i Q) (hl : Q.length ≤ 49) : vW (f_X5_placeBehind i x m) (fun r => r.toInt = (z_pl Q x : Int)) := by
  unfold f_X5_placeBehind
  refine v_s1 (P := fun r => r.toInt = (z_pl Q x : Int)) ?_ (fun r h => v_so h)
  refine v_for (fun j v => v.toInt = (j : Int) ∧ ∀ k t, k < j → Q[k]? = some t → t.1.toInt ≤ x.toInt) 0 Q.length (Nat.zero_le _) (by omega) ⟨i_0, fun k t hk => absurd hk (Nat.not_lt_zero k)⟩ ?_ ?_
  · rintro j v hj ⟨hv, hz⟩
    obtain ⟨t, hq⟩ := z_ex hj
    have e41 := (hr.2 j t hq).1
    refine v_ifn (by rw [hr.1, iA_le, nJ_T (by omega)]; omega) ?_
    refine v_ifp (v_in.mpr (by omega)) ?_
    by_cases g : x.toInt < t.1.toInt
    · refine v_ifp (by rw [n_k hv, e41, iA_lt]; exact g) (v_ir ?_)
      rw [hv, z_pl_u (p := j) (by omega) (fun k y hk hy => hz k y hk hy) (fun y hy => by rw [hq] at hy; cases hy; exact g)]
    · refine v_ifn (by rw [n_k hv, e41, iA_lt]; exact g) ?_
      refine v_l1 (v_il ⟨n_s3 hv (by omega), fun k u hk hu => ?_⟩)
      by_cases e : k = j
      · rw [e, hq] at hu
        cases hu
        omega
      · exact hz k u (by omega) hu
  · rintro v ⟨hv, hz⟩
    refine v_ifp (by rw [hr.1, iA_le, nJ_T (by omega)]; omega) (v_ir ?_)
    rw [hv, z_pl_u (p := Q.length) (Nat.le_refl _) (fun k y hk hy => hz k y hk hy) (fun y hy => absurd (z_lt hy) (Nat.lt_irrefl _))]
theorem c_ghosts {m : mm_M} {i : Nat} {R : List zX} {len D : Int32} (ho : c_ob m i R) (h25 : R.length ≤ 25) (hM : (z_mi R).length ≤ 24) (hg : z_rg R (R.map (·.1))) : vW (f_X5_addGhosts i len D m) (fun r => c_fr i m r ∧ c_rw r i (z_row D len R)) := by
  unfold f_X5_addGhosts
  refine v_s1 (P := fun r => c_fr i m r ∧ c_rw r i (z_row D len R)) ?_ (fun r h => v_so h)
  refine v_for (fun j q => q.1.toInt = (j : Int) ∧ c_fr i m q.2 ∧ c_rw q.2 i (((z_mi R).take j).foldl (z_g1 D len R) (R.map (fun x : zX => x.1)))) 0 (z_mi R).length (Nat.zero_le _) (by omega) ⟨i_0, c_frr, ho.1⟩ ?_ ?_
  · rintro j ⟨v, c⟩ hj ⟨hv, hf, hr⟩
    dsimp only at hv hf hr ⊢
    obtain ⟨hg1, hg2⟩ := z_gf_r (D := D) (len := len) ((z_mi R).take j) (R.map (·.1)) hg
    have htj : ((z_mi R).take j).length = j := by rw [List.length_take]; omega
    rw [List.length_map, htj] at hg2
    generalize hQ : ((z_mi R).take j).foldl (z_g1 D len R) (R.map (·.1)) = Q at hr hg1 hg2
    obtain ⟨d, hd⟩ := z_ex hj
    have hnx : ((z_mi R).take (j + 1)).foldl (z_g1 D len R) (R.map (·.1)) = z_g1 D len R Q d := by
      rw [List.take_succ, hd, List.foldl_append, hQ]
      rfl
    have hmr := c_mr_fr hf ho.2
    refine v_ifn (by rw [hmr.1, iA_le, nJ_T (by omega)]; omega) ?_
    refine v_ifp (v_in.mpr (by omega)) ?_
    rw [n_k hv, hmr.2 j d hd]
    refine v_lI (fun w hw => ?_)
    have nxt : ∀ c', c_fr i m c' → c_rw c' i (z_g1 D len R Q d) → (v + 1).toInt = ((j + 1 : Nat) : Int) ∧ c_fr i m c' ∧ c_rw c' i (((z_mi R).take (j + 1)).foldl (z_g1 D len R) (R.map (·.1))) := fun c' h1 h2 => ⟨n_s3 hv (by omega), h1, by rw [hnx]; exact h2⟩
    by_cases g1 : len.toInt ≤ w.toInt
    · refine v_ifp (by rw [iA_le]; exact g1) (v_l1 (v_il (nxt c hf ?_)))
      rw [z_g1_n (fun z => by unfold z_gy at z; rw [← hw] at z; have := z.1; omega)]
      exact hr
    · refine v_ifn (by rw [iA_le]; exact g1) ?_
      refine v_s1 (c_near (R := R) hr (by omega) hg1) ?_
      rintro r (⟨rfl, h⟩ | ⟨rfl, h⟩)
      · refine v_ifn (by decide) ?_
        refine v_s1 (c_place hr (by omega)) ?_
        intro p hp
        refine v_s1 (c_insL hr (by omega) hp (z_pl_le Q w)) ?_
        rintro c' ⟨f1, r1⟩
        refine v_l1 (v_il (nxt c' (c_frt hf f1) ?_))
        rw [z_g1_y (⟨by rw [← hw]; omega, by rw [← hw]; exact h⟩ : z_gy D len R d), ← hw]
        exact r1
      · refine v_ifp (by decide) (v_l1 (v_il (nxt c hf ?_)))
        rw [z_g1_n (fun z => by unfold z_gy at z; rw [← hw] at z; exact h z.2)]
        exact hr
  · rintro ⟨v, c⟩ ⟨hv, hf, hr⟩
    dsimp only at hv hf hr ⊢
    have hmr := c_mr_fr hf ho.2
    refine v_ifp (by rw [hmr.1, iA_le, nJ_T (by omega)]; omega) (v_ir ⟨hf, ?_⟩)
    rw [List.take_length] at hr
    exact hr
theorem z_thC_d {i t N Y : Nat} {c c' : mm_M} {K A B H : Nat → Int32} (hf : d_fr i c c') (h : z_thC c t N K A B H Y) : z_thC c' t N K A B H Y := z_thC_fr (fun g i k hg => d_frf hf g i k (z_dis_of (by decide) hg)) h
theorem z_scC_d {i : Nat} {c c' : mm_M} {bn ct o : Nat → Int32} (hf : d_fr i c c') (h : z_scC c bn ct o) : z_scC c' bn ct o := z_scC_fr (fun g i k hg => d_frf hf g i k (z_dis_of (by decide) hg)) h
theorem c_obs {m : mm_M} {i t N Y : Nat} {D e : Int32} {K A B H L bn ct o : Nat → Int32} (h4 : m 4 0 4 = Int32.ofNat t) (ht : t < 8) (h24 : N ≤ 24) (hT : z_thC m t N K A B H Y) (hs : z_scC m bn ct o) (hb : z_nb N K A ct) (hL : ∀ p, p < N → m 36 0 p = L p) (hD : 0 ≤ D.toInt) : vW (f_X5_observe i e D m) (fun r => d_fr i m r ∧ c_rw r i (z_row D (z_wk K A L bn ct e N N).2.1 (z_seen D (z_wk K A L bn ct e N N).1))) := by
  have hW := z_wk_b (L := L) (bn := bn) (e := e) hb h24
  unfold f_X5_observe
  refine v_lM (v_lM ?_)
  have e44 : mm_w (mm_w m 6 i 3 0) 6 i 5 0 4 0 4 = Int32.ofNat t := by rw [mw_g (by decide), mw_g (by decide)]; exact h4
  rw [e44, nJ_N (by omega)]
  refine v_ifn (n_m1 (by omega)) (v_lN ?_)
  have ho0 : c_ob (mm_w (mm_w m 6 i 3 0) 6 i 5 0) i (z_seen D (z_wk K A L bn ct e N 0).1) := by
    rw [show z_seen D (z_wk K A L bn ct e N 0).1 = [] from rfl]
    exact ⟨⟨by rw [mw_k (by decide), mw_s]; rfl, fun k x hx => by cases hx⟩, mw_s, fun k x hx => by cases hx⟩
  refine v_s1 (P := fun q => d_fr i m q.2 ∧ q.1 = (z_wk K A L bn ct e N N).2.1 ∧ c_ob q.2 i (z_seen D (z_wk K A L bn ct e N N).1)) ?_ ?_
  · refine v_for (fun j q => q.2.2.1.toInt = (j : Int) ∧ d_fr i m q.2.2.2 ∧ q.1 = (z_wk K A L bn ct e N j).2.1 ∧ ((q.2.1 = 0 ∧ (z_wk K A L bn ct e N j).2.2 = false) ∨ (q.2.1 = 1 ∧ (z_wk K A L bn ct e N j).2.2 = true)) ∧ c_ob q.2.2.2 i (z_seen D (z_wk K A L bn ct e N j).1)) 0 N (Nat.zero_le _) (by omega) ⟨i_0, d_frw (Or.inr (Or.inr (Or.inr (Or.inr ⟨rfl, Or.inr rfl⟩)))) (d_frw (Or.inr (Or.inr (Or.inr (Or.inr ⟨rfl, Or.inl rfl⟩)))) d_frr), rfl, Or.inl ⟨rfl, rfl⟩, ho0⟩ ?_ ?_
    · rintro j ⟨v5, v6, v7, c⟩ hj ⟨h7, hf, h5, h6, ho⟩
      dsimp only at h7 hf h5 h6 ho ⊢
      have hTc := z_thC_d hf hT
      have hsc := z_scC_d hf hs
      have c54 : c 5 t 4 = Int32.ofNat N := hTc.1
      refine v_ifn (by rw [c54, iA_le, nJ_T (by omega)]; omega) ?_
      rcases h6 with ⟨h6, hst⟩ | ⟨h6, hst⟩
      · refine v_ifn (fun z => z h6) ?_
        obtain ⟨w1, w2, w3', w4⟩ := hW j (by omega)
        obtain ⟨w5, w6⟩ := w2 hst
        have hp : z_at N e j < N := z_at_lt hj
        obtain ⟨s1, s2, s3⟩ := z_seen_b hD w4
        have e1 : z_wk K A L bn ct e N (j + 1) = ((z_wk K A L bn ct e N j).1 ++ z_ps K A L bn ct e (z_at N e j) (z_wk K A L bn ct e N j).2.1, (if K (z_at N e j) = 0 then (z_wk K A L bn ct e N j).2.1 + z_lit A ct e (z_at N e j) else (z_wk K A L bn ct e N j).2.1), decide (K (z_at N e j) = 3 ∨ ¬ ct (z_at N e j) = -1)) := if_neg (by rw [hst]; decide)
        refine v_lK (fun w => w.toInt = ((z_at N e j : Nat) : Int)) ?_ (fun k10 hk10 => ?_)
        · intro w hw
          generalize z_at N e j = p at hp e1 hw
          rw [e1]
          dsimp only
          rw [z_seen_app]
          generalize z_wk K A L bn ct e N j = W at h5 hst ho w1 w4 w5 w6 s1 s2 s3 ⊢
          rw [h5]
          obtain ⟨hA, hct, hK4⟩ := hb p hp
          have kw := n_k hw
          have iw : mm_in w 24 := v_in.mpr (by omega)
          have c37 : c 37 t p = K p := (hTc.2.2 p hp).1
          refine v_ifp iw ?_
          refine v_lI (fun v11 h11 => ?_)
          rw [kw, c37] at h11
          refine v_lK2 (fun v12 m13 => d_fr i m m13 ∧ v12 = (if K p = 0 then W.2.1 + z_lit A ct e p else W.2.1) ∧ c_ob m13 i ((z_ps K A L bn ct e p W.2.1).foldl (z_add D) (z_seen D W.1))) ?_ (fun k14 hk14 => ?_)
          · rintro v12 m13 ⟨f1, g1, g2⟩
            have e34 : m13 34 0 p = ct p := (z_scC_d f1 hs p (by omega)).2.1
            by_cases hK3 : K p = 3
            · refine v_ifp (by rw [h11]; exact hK3) (v_l1 (v_il ⟨n_s3 h7 (by omega), f1, g1, Or.inr ⟨rfl, decide_eq_true (Or.inl hK3)⟩, g2⟩))
            · refine v_ifn (by rw [h11]; exact hK3) (v_ifp iw ?_)
              by_cases hc : ct p = -1
              · refine v_ifp (by rw [kw, e34]; exact hc) (v_l1 (v_il ⟨n_s3 h7 (by omega), f1, g1, Or.inl ⟨rfl, decide_eq_false (fun z => by rcases z with z | z; exact hK3 z; exact z hc)⟩, g2⟩))
              · refine v_ifn (by rw [kw, e34]; exact hc) (v_l1 (v_il ⟨n_s3 h7 (by omega), f1, g1, Or.inr ⟨rfl, decide_eq_true (Or.inr hc)⟩, g2⟩))
          · by_cases hK : K p = 0
            · refine v_ifn (by rw [h11]; exact fun z => z hK) ?_
              refine v_s2 (c_run (L := L) (by rw [d_fro hf rfl]; exact h4) ht h24 hTc hsc hb hp hK hw (by omega) ho.1 (by omega) s2 s1 hD) ?_
              rintro r22 m23 ⟨g1, g2, g3⟩
              dsimp only at g1 g2 g3
              refine v_l (hk14 _ m23 ⟨d_frt hf (d_fr_c g2), ?_, g3, ?_⟩)
              · rw [if_pos hK, g1]
              · have e2 : ∀ x, x ∈ z_ps K A L bn ct e p W.2.1 → z_mi1 x = [] := fun x hx => by
                  rw [show z_ps K A L bn ct e p W.2.1 = _ from if_pos hK] at hx
                  unfold z_mi1
                  rw [List.mem_append] at hx
                  rcases hx with hx | hx
                  · split at hx
                    · cases hx
                    · rw [List.mem_singleton] at hx
                      rw [hx]
                      exact if_neg (fun z => absurd (show (0 : Int32) = 2 from z.1) (by decide))
                  · split at hx
                    · cases hx
                    · rw [List.mem_singleton] at hx
                      rw [hx]
                      exact if_neg (fun z => absurd (show (3 : Int32) = 2 from z.1) (by decide))
                have e3 : ∀ (S R : List zX), (∀ x, x ∈ S → z_mi1 x = []) → z_mi (S.foldl (z_add D) R) = z_mi R := by
                  intro S
                  induction S with
                  | nil => exact fun R _ => rfl
                  | cons x S ih =>
                    intro R h
                    rw [List.foldl_cons, ih _ (fun y hy => h y (List.mem_cons_of_mem _ hy))]
                    by_cases hq : z_see D R x
                    · rw [z_add_y hq, z_mi_sn, h x List.mem_cons_self, List.append_nil]
                    · rw [z_add_n hq]
                rw [e3 _ _ e2]
                exact c_mr_fr g2 ho.2
            · refine v_ifp (by rw [h11]; exact hK) ?_
              by_cases hK3 : K p = 3
              · refine v_ifp (by rw [h11]; exact hK3) (hk14 _ c ⟨hf, ?_, ?_⟩)
                · rw [if_neg hK]
                · rw [show z_ps K A L bn ct e p W.2.1 = [] from (if_neg hK).trans (if_pos hK3)]
                  exact ho
              · refine v_ifn (by rw [h11]; exact hK3) (v_ifp iw ?_)
                rw [show c 36 0 w.toNatClampNeg = L p from by rw [kw]; exact (d_fro hf rfl).trans (hL p hp), h11]
                have ez : z_ps K A L bn ct e p W.2.1 = [((W.2.1, L p, K p), if K p = 2 then A p else 0)] := (if_neg hK).trans (if_neg hK3)
                rw [ez, if_neg hK, List.foldl_cons, List.foldl_nil]
                rw [ez] at hk14
                rw [if_neg hK] at hk14
                refine v_s2 (c_step (q := if K p = 2 then A p else 0) ho.1 (by omega) s2 (by omega)) ?_
                rintro r18 m19 ⟨f1, r1, hsee⟩
                dsimp only at f1 r1 hsee
                have f19 := d_frt hf (d_fr_c f1)
                rw [List.foldl_cons, List.foldl_nil] at hk14
                rcases hsee with ⟨rfl, hsee⟩ | ⟨rfl, hsee⟩
                · refine v_ifn (by decide) ?_
                  rw [z_add_y hsee] at hk14 r1 ⊢
                  have hmr := c_mr_fr f1 ho.2
                  by_cases hK2 : K p = 2
                  · refine v_ifn (fun z => z hK2) (v_ifp iw ?_)
                    have e38 : m19 38 t p = A p := ((z_thC_d f19 hT).2.2 p hp).2.1
                    by_cases h10 : (A p).toInt < 10
                    · refine v_ifp (by rw [kw, e38, iA_lt, show (10 : Int32).toInt = 10 by decide]; exact h10) (hk14 _ m19 ⟨f19, rfl, r1, ?_⟩)
                      rw [z_mi_sn, show z_mi1 ((W.2.1, L p, K p), if K p = 2 then A p else 0) = [] from if_neg (fun z => by have z2 : 10 ≤ (if K p = 2 then A p else (0 : Int32)).toInt := z.2.1; rw [if_pos hK2] at z2; omega), List.append_nil]
                      exact hmr
                    · refine v_ifn (by rw [kw, e38, iA_lt, show (10 : Int32).toInt = 10 by decide]; exact h10) ?_
                      have hml := z_mi_l (z_seen D W.1)
                      refine v_s1 (c_mirror (d := W.2.1) hmr (by omega)) ?_
                      rintro m21 ⟨f2, f3, f4⟩
                      refine hk14 _ m21 ⟨d_frt f19 f2, rfl, ⟨(f3 0).1.trans r1.1, fun k x hx => ?_⟩, ?_⟩
                      · obtain ⟨y1, y2, y3⟩ := r1.2 k x hx
                        exact ⟨(f3 k).2.1.trans y1, (f3 k).2.2.1.trans y2, (f3 k).2.2.2.trans y3⟩
                      · rw [z_mi_sn]
                        by_cases h0 : 0 < W.2.1.toInt
                        · rw [show z_mi1 ((W.2.1, L p, K p), if K p = 2 then A p else 0) = [W.2.1] from if_pos ⟨hK2, by show 10 ≤ (if K p = 2 then A p else (0 : Int32)).toInt; rw [if_pos hK2]; omega, h0⟩]
                          rw [if_pos h0] at f4
                          exact f4
                        · rw [show z_mi1 ((W.2.1, L p, K p), if K p = 2 then A p else 0) = [] from if_neg (fun z => h0 z.2.2), List.append_nil]
                          rw [if_neg h0] at f4
                          exact f4
                  · refine v_ifp hK2 (hk14 _ m19 ⟨f19, rfl, r1, ?_⟩)
                    rw [z_mi_sn, show z_mi1 ((W.2.1, L p, K p), if K p = 2 then A p else 0) = [] from if_neg (fun z => hK2 z.1), List.append_nil]
                    exact hmr
                · rw [z_add_n hsee] at hk14 r1 ⊢
                  exact v_ifp rfl (hk14 _ m19 ⟨f19, rfl, r1, c_mr_fr f1 ho.2⟩)
        · by_cases he : e = 0
          · refine v_ifp he (hk10 v7 ?_)
            unfold z_at
            rw [if_pos he]
            exact h7
          · refine v_ifn he (hk10 _ ?_)
            unfold z_at
            rw [if_neg he, c54, iA_sub (by rw [n_0N (by omega)]; omega) (by rw [n_0N (by omega)]; omega), n_0N (by omega)]
            omega
      · refine v_ifp (by rw [h6]; decide) (v_ir ?_)
        rw [z_wk_e hst (by omega)]
        exact ⟨hf, h5, ho⟩
    · rintro ⟨v5, v6, v7, c⟩ ⟨h7, hf, h5, h6, ho⟩
      dsimp only at h7 hf h5 h6 ho ⊢
      have c54 : c 5 t 4 = Int32.ofNat N := (z_thC_d hf hT).1
      exact v_ifp (by rw [c54, iA_le, nJ_T (by omega)]; omega) (v_ir ⟨hf, h5, ho⟩)
  · rintro ⟨v25, m26⟩ ⟨hf, h5, ho⟩
    dsimp only at hf h5 ho ⊢
    obtain ⟨_, _, w3', w4⟩ := hW N (Nat.le_refl _)
    obtain ⟨s1, s2, s3⟩ := z_seen_b hD w4
    have hml : (z_mi (z_seen D (z_wk K A L bn ct e N N).1)).length ≤ 24 := z_wk_mi hD hb h24
    rw [h5]
    refine v_s1 (c_ghosts ho (by omega) hml (z_rg_0 s1 s2)) ?_
    rintro r ⟨f1, r1⟩
    exact v_so ⟨d_frt hf (d_fr_c f1), r1⟩
