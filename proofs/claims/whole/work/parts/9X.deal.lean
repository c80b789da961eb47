/-! the tasks' ways, and how colours are dealt -/
theorem z_btM {x : Int32} {p : List Nat} (h : ∀ b, z_bt x b = decide (b ∈ p)) (hp : ∀ b, b ∈ p → b < 10) : ¬ x = -1 := fun e => by
  have h1 := h 31
  rw [e, show z_bt (-1) 31 = true from z_bt_m1 ⟨31, by omega⟩] at h1
  have := hp 31 (of_decide_eq_true h1.symm)
  omega
/-- how many colours a way bears -/
def z_lc (X : Nat → Nat) (p : List Nat) : Nat → Int32
  | 0 => 8
  | j + 1 => if j ∈ p then mm_min (z_lc X p j) (Int32.ofNat (X j)) else z_lc X p j
theorem z_lc_b {X : Nat → Nat} {p : List Nat} {C : Nat} (hX : ∀ i, i < C → 1 ≤ X i ∧ X i ≤ 8) : ∀ j, j ≤ C → 1 ≤ (z_lc X p j).toInt ∧ (z_lc X p j).toInt ≤ 8
  | 0, _ => by
    show 1 ≤ (8 : Int32).toInt ∧ (8 : Int32).toInt ≤ 8
    rw [i_8]
    omega
  | j + 1, hj => by
    have ih := z_lc_b (p := p) hX j (by omega)
    have hx := hX j (by omega)
    show 1 ≤ (if j ∈ p then mm_min (z_lc X p j) (Int32.ofNat (X j)) else z_lc X p j).toInt ∧ (if j ∈ p then mm_min (z_lc X p j) (Int32.ofNat (X j)) else z_lc X p j).toInt ≤ 8
    split
    · unfold mm_min
      split
      · rw [nJ_T (by omega)]
        omega
      · exact ih
    · exact ih
theorem c_lcol {c : mm_M} {X : Nat → Nat} {C : Nat} {p : List Nat} {x : Int32} (hC : C ≤ 10) (h5 : c 9 0 5 = Int32.ofNat C) (h55 : ∀ i, i < C → c 55 0 i = Int32.ofNat (X i)) (hx : ∀ b, z_bt x b = decide (b ∈ p)) : f_X4_leastColours x c = some (z_lc X p C) := by
  apply v_is
  unfold f_X4_leastColours
  refine v_s1 (P := fun r => r = z_lc X p C) ?_ (fun r h => v_so h)
  refine v_for (fun j s => s.1 = z_lc X p j ∧ s.2.toInt = (j : Int)) 0 C (Nat.zero_le _) (by omega) ⟨rfl, i_0⟩ ?_ ?_
  · rintro j ⟨y, v⟩ hj ⟨hy, hv⟩
    dsimp only at hy hv ⊢
    have kv := n_k hv
    refine v_ifn (by rw [iA_le, h5, hv, nJ_T (by omega)]; omega) ?_
    by_cases hjp : j ∈ p
    · refine v_ifn (fun z => z (z_bt_t1 hv (by omega) (by rw [hx]; exact decide_eq_true hjp))) ?_
      refine v_ifp (v_in.mpr (by omega)) ?_
      rw [kv, h55 j hj, hy]
      refine v_l ?_
      refine v_l1 ?_
      exact v_il ⟨(if_pos hjp).symm, n_s3 hv (by omega)⟩
    · refine v_ifp (by rw [z_bt_t0 hv (by omega) (by rw [hx]; exact decide_eq_false hjp)]; decide) ?_
      refine v_l1 ?_
      exact v_il ⟨hy.trans (if_neg hjp).symm, n_s3 hv (by omega)⟩
  · rintro ⟨y, v⟩ ⟨hy, hv⟩
    dsimp only at hy hv ⊢
    refine v_ifp (by rw [iA_le, h5, hv, nJ_T (by omega)]; omega) ?_
    exact v_ir hy
/-- a task's least way -/
def z_tw (P Q W : Nat → Nat) (C : Nat) (F G : Nat → Nat) (t : Nat) : Option (List Nat) := z_bst W (z_ws P Q C (fun _ => false) (G t) 16 [F t] [] (F t)) none
def r_tw (c : mm_M) (X : Nat → Nat) (C t : Nat) (o : Option (List Nat)) : Prop := match o with
  | none => c 125 0 t = -1
  | some p => (p.length ≤ 7 ∧ ∀ b, b ∈ p → b < 10) ∧ (∀ b, z_bt (c 125 0 t) b = decide (b ∈ p)) ∧ c 126 0 t = z_lc X p C
abbrev zTW : zT := [(84, none, none), (85, none, none), (116, none, none), (12, none, some 79), (119, none, none), (120, none, none), (121, none, none), (122, none, none), (123, none, none), (125, none, none), (126, none, none)]
theorem r_ttw {n : mm_M} {P Q W X F G : Nat → Nat} {C k : Nat} (hC : C ≤ 10) (hk : k ≤ 6) (hP : ∀ i, i < C → P i < 8 ∧ Q i < 8) (hW : ∀ i, W i ≤ 2400000) (h78 : n 12 0 78 = Int32.ofNat k) (hF : ∀ t, t < k → (F t < 8 ∧ G t < 8) ∧ n 117 0 t = Int32.ofNat (F t) ∧ n 118 0 t = Int32.ofNat (G t)) (h115 : ∀ i, i < C → n 115 0 i = Int32.ofNat (X i)) (htc : vW (f_X12_tellCosts n) (fun c => fp [(84, none, none), (85, none, none), (116, none, none)] n c ∧ r_nt c P Q W C)) : vW (f_X12_tellTaskWays n) (fun c => fp zTW n c ∧ r_nt c P Q W C ∧ ∀ t, t < k → r_tw c X C t (z_tw P Q W C F G t)) := by
  unfold f_X12_tellTaskWays
  refine v_s1 htc (fun c1 hc1 => ?_)
  refine v_s1 (P := fun c => fp zTW n c ∧ r_nt c P Q W C ∧ ∀ t, t < k → r_tw c X C t (z_tw P Q W C F G t)) ?_ (fun r h => v_so h)
  refine v_for (fun t s => s.1.toInt = (t : Int) ∧ fp zTW n s.2 ∧ r_nt s.2 P Q W C ∧ ∀ x, x < t → r_tw s.2 X C x (z_tw P Q W C F G x)) 0 k (Nat.zero_le _) (by omega) ⟨i_0, fp_sb (by decide) hc1.1, hc1.2, fun x hx => absurd hx (Nat.not_lt_zero x)⟩ ?_ ?_
  · rintro t ⟨v, c⟩ ht ⟨hv, hf, hnt, hw⟩
    dsimp only at hv hf hnt hw ⊢
    obtain ⟨⟨hF8, hG8⟩, g117, g118⟩ := hF t ht
    have kv := n_k hv
    have iv : mm_in v 6 := v_in.mpr (by omega)
    refine v_ifn (by rw [iA_le, hf 12 0 78 rfl, h78, hv, nJ_T (by omega)]; omega) ?_
    refine v_ifp iv ?_
    refine v_ifp iv ?_
    have r117 : c 117 0 v.toNatClampNeg = Int32.ofNat (F t) := by rw [kv, hf 117 0 t rfl]; exact g117
    have r118 : c 118 0 v.toNatClampNeg = Int32.ofNat (G t) := by rw [kv, hf 118 0 t rfl]; exact g118
    rw [r117, r118]
    refine v_s1 (r_ways (bar := fun _ => false) hC hP (fun i _ => z_bt_0) (nJ_T (show G t < 2147483648 by omega)) (nJ_T (show F t < 2147483648 by omega)) hF8 hnt) (fun c2 hc2 => ?_)
    have h36 := z_ws_36 (P := P) (Q := Q) (bar := fun _ => false) (d := G t) (n := 16) (p := []) hC (show F t ∈ [F t] from List.mem_cons_self)
    have etw : z_tw P Q W C F G t = z_bst W (z_ws P Q C (fun _ => false) (G t) 16 [F t] [] (F t)) none := rfl
    have hfa : fp zTW n c2 := fp_tr hf (fp_sb (by decide) hc2.1)
    have hnt2 : r_nt c2 P Q W C := r_nt_fr hc2.1 (by decide) hnt
    have hw2 : ∀ x, x < t → r_tw c2 X C x (z_tw P Q W C F G x) := fun x hx => by
      have := hw x hx
      generalize z_tw P Q W C F G x = o at this ⊢
      cases o with
      | none => exact (hc2.1 125 0 x rfl).trans this
      | some p =>
        refine ⟨this.1, ?_, (hc2.1 126 0 x rfl).trans this.2.2⟩
        rw [hc2.1 125 0 x rfl]
        exact this.2.1
    have nx : ∀ e, fp [(125, none, none), (126, none, none)] c2 e → (∀ x, ¬ x = t → e 125 0 x = c2 125 0 x ∧ e 126 0 x = c2 126 0 x) → r_tw e X C t (z_bst W (z_ws P Q C (fun _ => false) (G t) 16 [F t] [] (F t)) none) → v_st (fun s : Int32 × mm_M => s.1.toInt = ((t + 1 : Nat) : Int) ∧ fp zTW n s.2 ∧ r_nt s.2 P Q W C ∧ ∀ x, x < t + 1 → r_tw s.2 X C x (z_tw P Q W C F G x)) (fun c => fp zTW n c ∧ r_nt c P Q W C ∧ ∀ t, t < k → r_tw c X C t (z_tw P Q W C F G t)) (.inl (v + 1, e)) := fun e he hx ho => by
      refine v_pl.mpr ⟨n_s3 hv (by omega), fp_tr hfa (fp_sb (by decide) he), r_nt_fr he (by decide) hnt2, fun x hxt => ?_⟩
      by_cases hxe : x = t
      · rw [hxe]
        exact ho
      · have := hw2 x (by omega)
        dsimp only
        generalize z_tw P Q W C F G x = o at this ⊢
        cases o with
        | none => exact (hx x hxe).1.trans this
        | some p =>
          refine ⟨this.1, ?_, (hx x hxe).2.trans this.2.2⟩
          rw [(hx x hxe).1]
          exact this.2.1
    generalize z_ws P Q C (fun _ => false) (G t) 16 [F t] [] (F t) = L at hc2 h36 nx
    refine v_s1 (r_lw hW hc2.2 (by omega)) (fun r hr => ?_)
    refine v_lF ?_
    rcases hr with ⟨hr, hb⟩ | ⟨i, q, hi, hr, hq, hb⟩
    · refine v_ifn (fun z => z hr) ?_
      refine v_ifp iv ?_
      refine v_lM ?_
      refine v_ifp iv ?_
      refine v_lM ?_
      rw [show mm_w (mm_w c2 125 0 v.toNatClampNeg (-1)) 126 0 v.toNatClampNeg 8 = mm_w (mm_w c2 125 0 t (-1)) 126 0 t 8 by rw [kv]]
      refine v_s1 (P := fun e => e = mm_w (mm_w c2 125 0 t (-1)) 126 0 t 8) ?_ (fun e he => ?_)
      · refine v_loop (fun _ => 0) (fun s => s.2 = mm_w (mm_w c2 125 0 t (-1)) 126 0 t 8) rfl (by omega) ?_
        rintro ⟨y, e⟩ he
        dsimp only at he ⊢
        by_cases hc : e 12 0 77 ≤ y
        · exact v_ifp hc (v_ir he)
        · exact v_ifn hc (v_ifp hr (v_ir he))
      · refine v_l1 ?_
        refine v_so (nx e ?_ (fun x hx => ?_) ?_)
        · rw [he]
          exact fp_w rfl (fp_w rfl fp_rf)
        · rw [he]
          exact ⟨(mw_g (by decide)).trans (mw_k hx), (mw_k hx).trans (mw_g (by decide))⟩
        · rw [hb, he]
          exact (mw_g (by decide)).trans mw_s
    · have hrI : r.toInt = (i : Int) := by rw [hr]; exact nJ_T (by omega)
      have ir : mm_in r 400 := v_in.mpr (by omega)
      have kr := n_k hrI
      obtain ⟨⟨lq, l10⟩, q1, q2, q3, q4⟩ := hc2.2.2 i q hq
      have hn1 : ¬ r = -1 := by rw [hr]; exact n_m1 (by omega)
      refine v_ifp hn1 ?_
      refine v_ifp ir ?_
      refine v_ifp iv ?_
      refine v_lM ?_
      refine v_ifp iv ?_
      refine v_lM ?_
      rw [show mm_w (mm_w c2 125 0 v.toNatClampNeg (c2 122 0 r.toNatClampNeg)) 126 0 v.toNatClampNeg 8 = mm_w (mm_w c2 125 0 t (c2 122 0 i)) 126 0 t 8 by rw [kv, kr]]
      refine v_s1 (P := fun e => fp [(126, none, none)] (mm_w (mm_w c2 125 0 t (c2 122 0 i)) 126 0 t 8) e ∧ e 126 0 t = z_lc X q C ∧ ∀ x, ¬ x = t → e 126 0 x = c2 126 0 x) ?_ (fun e he => ?_)
      · refine v_for (fun j s => s.1.toInt = (j : Int) ∧ fp [(126, none, none)] (mm_w (mm_w c2 125 0 t (c2 122 0 i)) 126 0 t 8) s.2 ∧ s.2 126 0 t = z_lc X q j ∧ ∀ x, ¬ x = t → s.2 126 0 x = c2 126 0 x) 0 C (Nat.zero_le _) (by omega) ⟨i_0, fp_rf, by dsimp only; exact mw_s, fun x hx => by dsimp only; exact (mw_k hx).trans (mw_g (by decide))⟩ ?_ ?_
        · rintro j ⟨w, e⟩ hj ⟨hw3, he, h126, hx⟩
          dsimp only at hw3 he h126 hx ⊢
          have kw := n_k hw3
          have e77 : e 12 0 77 = Int32.ofNat C := (he 12 0 77 rfl).trans ((mw_g (by decide)).trans ((mw_g (by decide)).trans hnt2.1))
          have e122 : e 122 0 i = c2 122 0 i := (he 122 0 i rfl).trans ((mw_g (by decide)).trans (mw_g (by decide)))
          have e115 : e 115 0 j = Int32.ofNat (X j) := (he 115 0 j rfl).trans ((mw_g (by decide)).trans ((mw_g (by decide)).trans ((hfa 115 0 j rfl).trans (h115 j hj))))
          refine v_ifn (by rw [iA_le, e77, hw3, nJ_T (by omega)]; omega) ?_
          refine v_ifn hn1 ?_
          refine v_ifp ir ?_
          by_cases hjq : j ∈ q
          · refine v_ifn (fun z => z (by rw [kr, e122]; exact z_bt_t1 hw3 (by omega) (by rw [q4]; exact decide_eq_true hjq))) ?_
            refine v_ifp iv ?_
            refine v_ifp (v_in.mpr (by omega)) ?_
            refine v_ifp iv ?_
            rw [kv, kw, e115, h126]
            refine v_lM ?_
            refine v_l1 ?_
            refine v_il ⟨n_s3 hw3 (by omega), fp_w rfl he, by dsimp only; exact mw_s.trans (if_pos hjq).symm, fun x hxt => by dsimp only; exact (mw_k hxt).trans (hx x hxt)⟩
          · refine v_ifp (by rw [kr, e122, z_bt_t0 hw3 (by omega) (by rw [q4]; exact decide_eq_false hjq)]; decide) ?_
            refine v_l1 ?_
            exact v_il ⟨n_s3 hw3 (by omega), he, h126.trans (if_neg hjq).symm, hx⟩
        · rintro ⟨w, e⟩ ⟨hw3, he, h126, hx⟩
          dsimp only at hw3 he h126 hx ⊢
          have e77 : e 12 0 77 = Int32.ofNat C := (he 12 0 77 rfl).trans ((mw_g (by decide)).trans ((mw_g (by decide)).trans hnt2.1))
          refine v_ifp (by rw [iA_le, e77, hw3, nJ_T (by omega)]; omega) ?_
          exact v_ir ⟨he, h126, hx⟩
      · have e125 : ∀ x, e 125 0 x = mm_w c2 125 0 t (c2 122 0 i) 125 0 x := fun x => (he.1 125 0 x rfl).trans (mw_g (by decide))
        refine v_l1 ?_
        refine v_so (nx e ?_ (fun x hx => ⟨(e125 x).trans (mw_k hx), he.2.2 x hx⟩) ?_)
        · exact fp_tr (fp_w rfl (fp_w rfl fp_rf)) (fp_sb (by decide) he.1)
        · rw [hb]
          refine ⟨⟨lq, l10⟩, ?_, he.2.1⟩
          rw [e125 t, mw_s]
          exact q4
  · rintro ⟨v, c⟩ ⟨hv, hf, hnt, hw⟩
    dsimp only at hv hf hnt hw ⊢
    refine v_ifp (by rw [iA_le, hf 12 0 78 rfl, h78, hv, nJ_T (by omega)]; omega) ?_
    exact v_ir ⟨hf, hnt, hw⟩
