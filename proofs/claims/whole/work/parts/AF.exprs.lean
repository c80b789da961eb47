/-! expressions read by the reference, level by level -/
theorem z_pt0 {RF : Int32 → mm_M → Option mm_M} {a : Int32} {m : mm_M} (h29 : ¬ m 12 0 29 = 0) : f_X12_readPoint RF a m = some m := v_is (by
  unfold f_X12_readPoint
  exact v_ifn h29 (v_so rfl))
theorem z_pr0 {RF : Int32 → mm_M → Option mm_M} {a : Int32} {m : mm_M} (h29 : ¬ m 12 0 29 = 0) : f_X12_readProduct RF a m = some m := v_is (by
  unfold f_X12_readProduct
  refine v_b1e (z_pt0 h29) ?_
  refine v_b1e (r_loop0 (fun m h => v_is ?_) h29) (v_so rfl)
  refine v_b1e (r_isS0 h) ?_
  refine v_lO ?_
  refine v_ifn (fun z => z rfl) ?_
  refine v_b1e (r_isS0 h) ?_
  exact v_ifp rfl (v_so rfl))
theorem z_sm0 {RF : Int32 → mm_M → Option mm_M} {a : Int32} {m : mm_M} (h29 : ¬ m 12 0 29 = 0) : f_X12_readSum RF a m = some m := v_is (by
  unfold f_X12_readSum
  refine v_b1e (z_pr0 h29) ?_
  refine v_b1e (r_loop0 (fun m h => v_is ?_) h29) (v_so rfl)
  refine v_b1e (r_isS0 h) ?_
  refine v_lO ?_
  refine v_ifn (fun z => z rfl) ?_
  refine v_b1e (r_isS0 h) ?_
  exact v_ifp rfl (v_so rfl))
theorem z_9s0 {v : Int32} {c : Nat} {m : mm_M} (hv : v.toInt = (c : Int)) (h29 : ¬ m 12 0 29 = 0) : mm_loop (σ := Int32 × mm_M) (ρ := (mm_M)) (fun (s : Int32 × mm_M) => match s with
| (v27, m28) => (if v ≤ v27 then (some (.inr m28))
else (mm_b1 (f_X12_emit 9 m28) fun m30 =>
mm_let (v27 + 1) fun v31 =>
some (.inl (v31, m30))) : Option ((Int32 × mm_M) ⊕ ((mm_M))))) mm_fu (0, m) = some m := v_is (by
  have hb := iA_hi v
  refine v_for (fun j s => s.1.toInt = (j : Int) ∧ s.2 = m) 0 c (Nat.zero_le _) (by omega) ⟨i_0, rfl⟩ ?_ ?_
  · rintro j ⟨w, e⟩ hj ⟨hw, he⟩
    dsimp only at hw he ⊢
    refine v_ifn (by rw [iA_le, hv, hw]; omega) ?_
    refine v_b1e (r_emit0 (by rw [he]; exact h29)) ?_
    refine v_l1 ?_
    exact v_il ⟨n_s3 hw (by omega), he⟩
  · rintro ⟨w, e⟩ ⟨hw, he⟩
    dsimp only at hw he ⊢
    refine v_ifp (by rw [iA_le, hv, hw]; omega) ?_
    exact v_ir he)
theorem z_nt0 {RF : Int32 → mm_M → Option mm_M} {a : Int32} {m : mm_M} (h29 : ¬ m 12 0 29 = 0) : f_X12_readNot RF a m = some m := v_is (by
  unfold f_X12_readNot
  refine v_s1 (P := fun t => t = .inr (0, m)) ?_ (fun t ht => ?_)
  · refine v_for (fun _ s => s = (0, m)) 0 0 (Nat.le_refl 0) (by omega) rfl (fun j s hj => absurd hj (Nat.not_lt_zero j)) ?_
    rintro ⟨x, y⟩ hx
    cases hx
    refine v_b1e (r_isZ h29) ?_
    exact v_ifp rfl (v_ir rfl)
  · rw [ht]
    refine v_b1e (z_sm0 h29) ?_
    refine v_b1e (r_isS0 h29) ?_
    refine v_lO ?_
    refine v_ifn (fun z => z rfl) ?_
    refine v_b1e (r_isS0 h29) ?_
    refine v_ifp rfl ?_
    exact v_b1e (z_9s0 (c := 0) i_0 h29) (v_so rfl))
theorem z_lo0 {i : Nat} {w : Int32} {F : mm_M → Option mm_M} {m : mm_M} (h29 : ¬ m 12 0 29 = 0) : mm_loop (σ := mm_M) (ρ := mm_M) (fun (m4 : mm_M) => (mm_b1 (f_X12_is i m4) fun r5 =>
if r5 = 0 then (some (.inr m4))
else (mm_b1 (f_X12_step m4) fun m7 =>
mm_b1 (F m7) fun m9 =>
mm_b1 (f_X12_emit w m9) fun m11 =>
some (.inl m11)) : Option ((mm_M) ⊕ ((mm_M))))) mm_fu m = some m := r_loop0 (fun m h => v_is (by
  refine v_b1e (r_isZ h) ?_
  exact v_ifp rfl (v_so rfl))) h29
theorem z_an0 {RF : Int32 → mm_M → Option mm_M} {a : Int32} {m : mm_M} (h29 : ¬ m 12 0 29 = 0) : f_X12_readAnd RF a m = some m := v_is (by
  unfold f_X12_readAnd
  refine v_b1e (z_nt0 h29) ?_
  exact v_b1e (z_lo0 h29) (v_so rfl))
theorem z_en_v {k v : Nat} (hk : (k = 2 ∨ 264 ≤ k) ∧ k ≤ 268) : z_en (Int32.ofNat k, Int32.ofNat v) = if k = 2 then [0, Int32.ofNat v] else [20 + Int32.ofNat (k - 264)] := by
  have e : (Int32.ofNat k).toInt = (k : Int) := nJ_T (by omega)
  unfold z_en
  by_cases h2 : k = 2
  · rw [if_pos h2, if_pos (by rw [h2]; rfl)]
  · rw [if_neg h2, if_neg (fun z => by
      have h1 : Int32.ofNat k = 2 := z
      have := iA_eq.mp h1
      rw [e, show (2 : Int32).toInt = 2 by decide] at this
      omega), if_pos (by
      show 264 ≤ (Int32.ofNat k).toInt ∧ (Int32.ofNat k).toInt ≤ 268
      rw [e]
      omega)]
    show [20 + (Int32.ofNat k - Int32.ofNat 264)] = _
    rw [n_sb (by omega)]
theorem r_pt {B : Nat → Nat} {n : Nat} {RF : Int32 → mm_M → Option mm_M} {a : Int32} {E : Nat → zRs} (hn : n ≤ 400) (hE : r_S B n (RF (a + 1)) E) (hgE : ∀ p, p ≤ n → z_gr n 0 p (E p)) : r_S B n (f_X12_readPoint RF a) (z_pt B n E) := by
  refine ⟨fun C m p hp hC h29 hat hen => ?_, fun m h29 => z_pt0 h29⟩
  have hkb := z_kd_b (B := B) (n := n) (p := p)
  obtain ⟨_, e1, e2, _⟩ := z_rk_e (z_kd B n p) hkb
  have h24 := hat.2.2.2.2.1
  have h2C := z_enc_2 C
  have wr : ∀ x : Nat, 1 ≤ x ∧ x ≤ 3 → z_pt B n E p = .inl (x, z_ts B n p) → r_ok B n C m (z_pt B n E p) (mm_w (mm_w m 12 0 29 (Int32.ofNat x)) 12 0 30 (m 12 0 27)) := fun x hx hz => by
    refine ⟨r_lfS (fp_w rfl (fp_w rfl fp_rf)), Or.inr ⟨_, hz, hx, ?_, ?_⟩⟩
    · rw [mw_k (by decide)]
      exact mw_s
    · rw [mw_s]
      exact hat.2.2.1
  unfold f_X12_readPoint
  refine v_ifp h29 ?_
  by_cases h2 : z_kd B n p = 2
  · refine v_ifn (fun z => z (h24.trans (e2.mpr h2))) ?_
    have es : z_pt B n E p = if z_nm B n p ≤ 99999 then .inr ([z_tkC B n p], z_te B n p) else .inl (2, z_ts B n p) := (if_neg (by omega)).trans (if_pos h2)
    obtain ⟨t1, t2, t3, t4⟩ := z_te_n (B := B) hp (by omega)
    refine v_s2 (r_num (lo := 0) (hi := 99999) hat h29 hp rfl rfl (by omega) (by omega)) ?_
    rintro v m2 hr
    dsimp only at hr
    rcases hr with ⟨hz, h1, h3, h4⟩ | ⟨hz, h1, h3, h4⟩
    · have m29 : m2 12 0 29 = 0 := (h3 12 0 29 rfl).trans h29
      refine v_s1 (r_emit (a := 0) m29 (r_en_fr h3 (by decide) hen) (by omega)) ?_
      rintro m3 ⟨y1, y2, y3, y4⟩
      refine v_s1 (r_emit (a := v) y2 y3 (by rw [List.length_append]; show (z_enc C).length + 1 < 800; omega)) ?_
      rintro m4 ⟨w1, w2, w3, w4⟩
      refine v_so ⟨r_lft (r_lfS (fp_sb (by decide) h3)) (r_lft y1 w1), Or.inl ⟨([z_tkC B n p], z_te B n p), es.trans (if_pos hz.2.2), w2, ?_, r_at_fr w4 (by decide) (r_at_fr y4 (by decide) h4)⟩⟩
      dsimp only
      rw [z_enc_app, z_enc_1]
      unfold z_tkC
      rw [z_en_v ⟨Or.inl h2, hkb⟩, if_pos h2, ← h1]
      rw [List.append_assoc] at w3
      exact w3
    · rw [if_pos h2] at h3
      have her : r_e3 m2 (2, z_ts B n p) := ⟨by show 1 ≤ 2 ∧ 2 ≤ 3; omega, h3, h4⟩
      refine v_b1e (r_emit0 (r_e3n her)) ?_
      refine v_b1e (r_emit0 (r_e3n her)) (v_so ⟨r_lfS (fp_sb (by decide) h1), Or.inr ⟨_, es.trans (if_neg (fun z => hz ⟨h2, Nat.zero_le _, z⟩)), her⟩⟩)
  refine v_ifp (fun z => h2 (e2.mp (h24.symm.trans z))) ?_
  by_cases hw : z_kd B n p = 3 ∨ 256 ≤ z_kd B n p
  · refine v_ifn (fun z => z (h24.trans (e1.mpr hw))) ?_
    obtain ⟨t1, t2, t3, t4⟩ := z_te_n (B := B) hp (by omega)
    refine v_s1 (r_w64 hat h29 hp) (fun r10 hr => ?_)
    refine v_lF ?_
    rcases hr with ⟨j, hj5, hj, hr⟩ | ⟨hno, hr⟩
    · have es : z_pt B n E p = .inr ([z_tkC B n p], z_te B n p) := (if_neg (by omega)).trans ((if_neg h2).trans (if_pos (by omega)))
      refine v_ifp (by rw [hr]; exact n_m1 (by omega)) ?_
      refine v_s1 (r_emit (a := 20 + r10) h29 hen (by omega)) ?_
      rintro m14 ⟨y1, y2, y3, y4⟩
      refine v_ifn (fun z => z y2) ?_
      have at14 := r_at_fr y4 (by decide) hat
      refine v_s1 (r_step at14.1 (z_te_b hp) at14.2.1) (fun m16 h16 => ?_)
      refine v_so ⟨r_lft y1 (r_lfS (fp_sb (by decide) h16.1)), Or.inl ⟨([z_tkC B n p], z_te B n p), es, (h16.1 12 0 29 rfl).trans y2, ?_, h16.2⟩⟩
      dsimp only
      refine r_en_fr h16.1 (by decide) ?_
      rw [z_enc_app, z_enc_1]
      unfold z_tkC
      rw [z_en_v ⟨Or.inr (by omega), hkb⟩, if_neg h2, show z_kd B n p - 264 = j by omega, ← hr]
      exact y3
    · have h264 : ¬ 264 ≤ z_kd B n p := fun z => hno (z_kd B n p - 264) (by omega) (by omega)
      have es : z_pt B n E p = .inl (3, z_ts B n p) := (if_neg (by omega)).trans ((if_neg h2).trans ((if_neg h264).trans (if_pos hw)))
      refine v_ifn (fun z => z hr) ?_
      refine v_b1e (r_wr h29) ?_
      have hok := wr 3 (by omega) es
      rcases hok.2 with ⟨x, hx, _⟩ | ⟨e, _, he⟩
      · rw [es] at hx
        cases hx
      · refine v_b1e (r_emit0 (r_e3n he)) ?_
        exact v_ifp (r_e3n he) (v_so hok)
  · refine v_ifp (fun z => hw (e1.mp (h24.symm.trans z))) ?_
    refine v_b1e (r_isS (k := 40) hat h29 rfl (by omega)) ?_
    by_cases h40 : z_kd B n p = 40
    · refine v_ifn (by rw [if_pos h40]; decide) ?_
      have es : z_pt B n E p = z_cl2 B n (E (z_te B n p)) := if_pos h40
      obtain ⟨t1, t2, t3, t4⟩ := z_te_n (B := B) hp (by omega)
      refine v_s1 (r_step hat.1 (z_te_b hp) hat.2.1) (fun m5 h5 => ?_)
      have m29 : m5 12 0 29 = 0 := (h5.1 12 0 29 rfl).trans h29
      refine v_s1 (hE.1 C m5 (z_te B n p) t4 (by omega) m29 h5.2 (r_en_fr h5.1 (by decide) hen)) ?_
      rintro m7 ⟨hlf, hs⟩
      have hlf7 := r_lft (r_lfS (fp_sb (by decide) h5.1)) hlf
      have hgr := hgE (z_te B n p) t4
      rcases hs with ⟨x, hx, j1, j2, j3⟩ | ⟨er, hx, j1⟩
      · rw [hx] at hgr
        refine v_s1 (r_need (k := 41) j3 j1 hgr.2.1 rfl (by omega)) (fun r hr => v_so ?_)
        rcases hr with ⟨y1, y2, y3⟩ | ⟨y1, y2, y3, y4⟩
        · refine ⟨r_lft hlf7 (r_lfS (fp_sb (by decide) y2)), Or.inl ⟨(x.1, z_te B n x.2), ?_, (y2 12 0 29 rfl).trans j1, r_en_fr y2 (by decide) j2, y3⟩⟩
          rw [es, hx]
          exact if_pos y1
        · refine ⟨r_lft hlf7 (r_lfS (fp_sb (by decide) y2)), Or.inr ⟨(1, z_ts B n x.2), ?_, by show 1 ≤ 1 ∧ 1 ≤ 3; omega, y3, y4⟩⟩
          rw [es, hx]
          exact if_neg y1
      · refine v_b1e (r_need0 (r_e3n j1)) (v_so ⟨hlf7, Or.inr ⟨er, ?_, j1⟩⟩)
        rw [es, hx]
        rfl
    · refine v_ifp (by rw [if_neg h40]) ?_
      exact v_b1e (r_wr h29) (v_so (wr 1 (by omega) ((if_neg h40).trans ((if_neg h2).trans ((if_neg (by omega)).trans (if_neg hw))))))
theorem z_en9 : z_en ((263, 0) : Int32 × Int32) = [9] := by decide
theorem r_9s {v : Int32} {c : Nat} {m : mm_M} {D : zCd} (hv : v.toInt = (c : Int)) (h29 : m 12 0 29 = 0) (hen : r_en m (z_enc D)) (hl : D.length + c ≤ 400) : vW (mm_loop (σ := Int32 × mm_M) (ρ := (mm_M)) (fun (s : Int32 × mm_M) => match s with
| (v27, m28) => (if v ≤ v27 then (some (.inr m28))
else (mm_b1 (f_X12_emit 9 m28) fun m30 =>
mm_let (v27 + 1) fun v31 =>
some (.inl (v31, m30))) : Option ((Int32 × mm_M) ⊕ ((mm_M))))) mm_fu (0, m)) (fun r => r_lf m r ∧ r 12 0 29 = 0 ∧ r_en r (z_enc (D ++ List.replicate c (263, 0))) ∧ fp [(12, none, some 32), (83, none, none)] m r) := by
  refine v_for (fun j s => s.1.toInt = (j : Int) ∧ r_lf m s.2 ∧ s.2 12 0 29 = 0 ∧ r_en s.2 (z_enc (D ++ List.replicate j (263, 0))) ∧ fp [(12, none, some 32), (83, none, none)] m s.2) 0 c (Nat.zero_le _) (by omega) ⟨i_0, r_lfr, h29, by rw [List.replicate_zero, List.append_nil]; exact hen, fp_rf⟩ ?_ ?_
  · rintro j ⟨w, e⟩ hj ⟨hw, h1, h2, h3, h4⟩
    dsimp only at hw h1 h2 h3 h4 ⊢
    have h5 := z_enc_2 (D ++ List.replicate j ((263, 0) : Int32 × Int32))
    rw [List.length_append, List.length_replicate] at h5
    refine v_ifn (by rw [iA_le, hv, hw]; omega) ?_
    refine v_s1 (r_emit h2 h3 (by omega)) ?_
    rintro m3 ⟨y1, y2, y3, y4⟩
    refine v_l1 ?_
    refine v_il ⟨n_s3 hw (by omega), r_lft h1 y1, y2, ?_, fp_tr h4 y4⟩
    dsimp only
    rw [List.replicate_succ', ← List.append_assoc, z_enc_app, z_enc_1, z_en9]
    exact y3
  · rintro ⟨w, e⟩ ⟨hw, h1, h2, h3, h4⟩
    dsimp only at hw h1 h2 h3 h4 ⊢
    refine v_ifp (by rw [iA_le, hv, hw]; omega) ?_
    exact v_ir ⟨h1, h2, h3, h4⟩
theorem r_nt' {B : Nat → Nat} {n : Nat} {RF : Int32 → mm_M → Option mm_M} {a : Int32} {g : Nat → zRs} (hn : n ≤ 400) (hF : r_S B n (f_X12_readSum RF a) g) (hg : ∀ p, p ≤ n → z_gr n 0 p (g p)) : r_S B n (f_X12_readNot RF a) (z_nts B n (z_cn B n 3 g 1)) := by
  refine ⟨fun C m p hp hC h29 hat hen => ?_, fun m h29 => z_nt0 h29⟩
  obtain ⟨q1, q2, q3⟩ := z_nn_b (B := B) (n := n) 6 p hp
  unfold f_X12_readNot
  refine v_s1 (P := fun t => match t with
    | .inl m8 => z_kd B n (z_nn B n 6 p).2 = 263 ∧ fp zSt m m8 ∧ r_at m8 B n (z_nn B n 6 p).2
    | .inr w => ¬ z_kd B n (z_nn B n 6 p).2 = 263 ∧ w.1.toInt = ((z_nn B n 6 p).1 : Int) ∧ fp zSt m w.2 ∧ r_at w.2 B n (z_nn B n 6 p).2) ?_ (fun t ht => ?_)
  · have i6 : (6 : Int32).toInt = 6 := by decide
    have t26 : z_tx 26 = z_tx (13 + 7) := by decide +kernel
    refine v_for (fun j s => s.1.toInt = (j : Int) ∧ fp zSt m s.2 ∧ ∃ p', p' ≤ n ∧ r_at s.2 B n p' ∧ (z_nn B n 6 p).1 = j + (z_nn B n (6 - j) p').1 ∧ (z_nn B n 6 p).2 = (z_nn B n (6 - j) p').2) 0 6 (by omega) (by omega) ⟨i_0, fp_rf, p, hp, hat, by rw [Nat.zero_add], rfl⟩ ?_ ?_
    · rintro j ⟨v, e⟩ hj ⟨hv, hf, p', hp', hae, h1, h2⟩
      dsimp only at hv hf hae ⊢
      have e29 : e 12 0 29 = 0 := (hf 12 0 29 rfl).trans h29
      obtain ⟨r, hr⟩ : ∃ r, 6 - j = r + 1 := ⟨5 - j, by omega⟩
      rw [hr] at h1 h2
      refine v_b1e (r_isW (q := 7) hae e29 hp' (by omega) (by omega) t26) ?_
      by_cases h263 : z_kd B n p' = 263
      · have en : z_nn B n (r + 1) p' = ((z_nn B n r (z_te B n p')).1 + 1, (z_nn B n r (z_te B n p')).2) := if_pos h263
        rw [en] at h1 h2
        dsimp only at h1 h2
        refine v_ifn (by rw [if_pos h263]; decide) ?_
        refine v_ifp (n_ne (by rw [hv, i6]; omega)) ?_
        refine v_l1 ?_
        refine v_s1 (r_step hae.1 (z_te_b hp') hae.2.1) (fun m7 h7 => ?_)
        refine v_il ⟨n_s3 hv (by omega), fp_tr hf h7.1, z_te B n p', z_te_b hp', h7.2, ?_, ?_⟩
        · rw [show 6 - (j + 1) = r by omega]
          omega
        · rw [show 6 - (j + 1) = r by omega]
          exact h2
      · have en : z_nn B n (r + 1) p' = (0, p') := if_neg h263
        rw [en] at h1 h2
        dsimp only at h1 h2
        refine v_ifp (by rw [if_neg h263]) ?_
        refine v_ir ⟨by rw [h2]; exact h263, by dsimp only; rw [hv, h1, Nat.add_zero], hf, ?_⟩
        rw [h2]
        exact hae
    · rintro ⟨v, e⟩ ⟨hv, hf, p', hp', hae, h1, h2⟩
      dsimp only at hv hf hae ⊢
      have e29 : e 12 0 29 = 0 := (hf 12 0 29 rfl).trans h29
      have h1' : (z_nn B n 6 p).1 = 6 + 0 := h1
      have h2' : (z_nn B n 6 p).2 = p' := h2
      refine v_b1e (r_isW (q := 7) hae e29 hp' (by omega) (by omega) t26) ?_
      by_cases h263 : z_kd B n p' = 263
      · refine v_ifn (by rw [if_pos h263]; decide) ?_
        refine v_ifn (fun z => z (by rw [iA_eq, hv, i6]; rfl)) ?_
        refine v_ir ⟨by rw [h2']; exact h263, hf, ?_⟩
        rw [h2']
        exact hae
      · refine v_ifp (by rw [if_neg h263]) ?_
        refine v_ir ⟨by rw [h2']; exact h263, by dsimp only; rw [hv, h1'], hf, ?_⟩
        rw [h2']
        exact hae
  · cases t with
    | inl m8 =>
      obtain ⟨h263, hf, hae⟩ := ht
      have e29 : m8 12 0 29 = 0 := (hf 12 0 29 rfl).trans h29
      refine v_b1e (r_wr e29) (v_so ⟨r_lft (r_lfS (fp_sb (by decide) hf)) (r_lfS (fp_w rfl (fp_w rfl fp_rf))), Or.inr ⟨(2, z_ts B n (z_nn B n 6 p).2), if_pos h263, by show 1 ≤ 2 ∧ 2 ≤ 3; omega, ?_, ?_⟩⟩)
      · rw [mw_k (by decide)]
        exact mw_s
      · rw [mw_s]
        exact hae.2.2.1
    | inr w =>
      obtain ⟨v11, m12⟩ := w
      obtain ⟨h263, hv, hf, hae⟩ := ht
      dsimp only at hv hf hae ⊢
      have e29 : m12 12 0 29 = 0 := (hf 12 0 29 rfl).trans h29
      have hen12 := r_en_fr hf (by decide) hen
      have hlf12 := r_lfS (fp_sb (by decide) hf)
      have es : z_nts B n (z_cn B n 3 g 1) p = z_nx (z_nn B n 6 p).1 (z_cn B n 3 g 1 (z_nn B n 6 p).2) := if_neg h263
      have hgr := hg (z_nn B n 6 p).2 q1
      generalize (z_nn B n 6 p).1 = cN at hv es q2 q3
      generalize (z_nn B n 6 p).2 = pN at es q1 q2 hgr hae
      rw [es]
      refine v_s1 (hF.1 C m12 pN q1 (by omega) e29 hae hen12) ?_
      rintro m14 ⟨hlf, hs⟩
      have hl14 := r_lft hlf12 hlf
      rcases hs with ⟨x, hx, j1, j2, j3⟩ | ⟨er, hx, j1⟩
      · rw [hx] at hgr
        obtain ⟨g1, g2, g3, g4⟩ := hgr
        have hop : ∀ k, z_opl 3 k = true ↔ k = 60 ∨ k = 61 := fun k => by
          unfold z_opl
          rw [decide_eq_true_eq]
          omega
        have k16 : z_opl 3 (z_kd B n x.2) = true → vW (mm_b1 (f_X12_isSign 60 m14) fun r17 =>
mm_let (fun (w18 : Int32) => (mm_b1 (f_X12_step m14) fun m21 =>
mm_b1 (f_X12_readSum RF a m21) fun m23 =>
mm_b1 (f_X12_emit w18 m23) fun m25 =>
(mm_b1 (mm_loop (σ := Int32 × mm_M) (ρ := (mm_M)) (fun (s : Int32 × mm_M) => match s with
| (v27, m28) => (if v11 ≤ v27 then (some (.inr m28))
else (mm_b1 (f_X12_emit 9 m28) fun m30 =>
mm_let (v27 + 1) fun v31 =>
some (.inl (v31, m30))) : Option ((Int32 × mm_M) ⊕ ((mm_M))))) mm_fu (0, m25)) fun m32 =>
some m32) : Option (mm_M))) fun k19 =>
if r17 = 0 then (k19 6)
else (k19 5)) (r_ok B n C m (z_nx cN (z_cn B n 3 g 1 pN))) := fun ho => by
          have ho2 := (hop _).mp ho
          obtain ⟨t1, t2, t3, t4⟩ := z_te_n (B := B) g2 (by omega)
          have k19 : ∀ w, w = z_op (Int32.ofNat (z_kd B n x.2)) → vW (mm_b1 (f_X12_step m14) fun m21 =>
mm_b1 (f_X12_readSum RF a m21) fun m23 =>
mm_b1 (f_X12_emit w m23) fun m25 =>
(mm_b1 (mm_loop (σ := Int32 × mm_M) (ρ := (mm_M)) (fun (s : Int32 × mm_M) => match s with
| (v27, m28) => (if v11 ≤ v27 then (some (.inr m28))
else (mm_b1 (f_X12_emit 9 m28) fun m30 =>
mm_let (v27 + 1) fun v31 =>
some (.inl (v31, m30))) : Option ((Int32 × mm_M) ⊕ ((mm_M))))) mm_fu (0, m25)) fun m32 =>
some m32)) (r_ok B n C m (z_nx cN (z_cn B n 3 g 1 pN))) := fun w hw => by
            refine v_s1 (r_step j3.1 (z_te_b g2) j3.2.1) (fun m21 h21 => ?_)
            have l21 := r_lft hl14 (r_lfS (fp_sb (by decide) h21.1))
            have e21 : m21 12 0 29 = 0 := (h21.1 12 0 29 rfl).trans j1
            refine v_s1 (hF.1 (C ++ x.1) m21 (z_te B n x.2) t4 (by rw [List.length_append]; omega) e21 h21.2 (r_en_fr h21.1 (by decide) j2)) ?_
            rintro m23 ⟨l23, hs2⟩
            have hgr2 := hg (z_te B n x.2) t4
            rcases hs2 with ⟨y, hy, y1, y2, y3⟩ | ⟨er, hy, y1⟩
            · rw [hy] at hgr2
              obtain ⟨f1, f2, f3, f4⟩ := hgr2
              have hl3 : (C ++ x.1 ++ y.1).length + 1 + cN ≤ y.2 := by
                rw [List.length_append, List.length_append]
                omega
              have h2l := z_enc_2 (C ++ x.1 ++ y.1)
              refine v_s1 (r_emit (a := w) y1 y2 (by omega)) ?_
              rintro m25 ⟨w1, w2, w3, w4⟩
              have en25 : r_en m25 (z_enc (C ++ x.1 ++ y.1 ++ [(Int32.ofNat (z_kd B n x.2), 0)])) := by
                rw [z_enc_app (C ++ x.1 ++ y.1), z_enc_1, z_en_op ho, ← hw]
                exact w3
              refine v_s1 (r_9s hv w2 en25 ?_) ?_
              · rw [List.length_append]
                show (C ++ x.1 ++ y.1).length + 1 + cN ≤ 400
                omega
              · rintro m32 ⟨u1, u2, u3, u4⟩
                refine v_so ⟨r_lft l21 (r_lft l23 (r_lft w1 u1)), Or.inl ⟨(x.1 ++ y.1 ++ [(Int32.ofNat (z_kd B n x.2), 0)] ++ List.replicate cN (263, 0), y.2), ?_, u2, ?_, r_at_fr u4 (by decide) (r_at_fr w4 (by decide) y3)⟩⟩
                · rw [z_cn_s hx, z_lp_s ho hy]
                  rfl
                · dsimp only
                  rw [← List.append_assoc, ← List.append_assoc, ← List.append_assoc]
                  exact u3
            · refine v_b1e (r_emit0 (r_e3n y1)) ?_
              refine v_b1e (z_9s0 hv (r_e3n y1)) (v_so ⟨r_lft l21 l23, Or.inr ⟨er, ?_, y1⟩⟩)
              rw [z_cn_s hx, z_lp_e ho hy]
              rfl
          refine v_b1e (r_isS (k := 60) j3 j1 rfl (by omega)) ?_
          refine v_lF ?_
          by_cases h60 : z_kd B n x.2 = 60
          · refine v_ifn (by rw [if_pos h60]; decide) ?_
            exact k19 5 (by rw [h60]; decide)
          · refine v_ifp (by rw [if_neg h60]) ?_
            exact k19 6 (by rw [show z_kd B n x.2 = 61 by omega]; decide)
        refine v_b1e (r_isS (k := 60) j3 j1 rfl (by omega)) ?_
        refine v_lO ?_
        by_cases h60 : z_kd B n x.2 = 60
        · refine v_ifp (by rw [if_pos h60]; decide) ?_
          exact k16 ((hop _).mpr (Or.inl h60))
        · refine v_ifn (by rw [if_neg h60]; decide) ?_
          refine v_b1e (r_isS (k := 61) j3 j1 rfl (by omega)) ?_
          by_cases h61 : z_kd B n x.2 = 61
          · refine v_ifn (by rw [if_pos h61]; decide) ?_
            exact k16 ((hop _).mpr (Or.inr h61))
          · refine v_ifp (by rw [if_neg h61]) ?_
            refine v_s1 (r_9s hv j1 j2 (by rw [List.length_append]; omega)) ?_
            rintro m32 ⟨u1, u2, u3, u4⟩
            refine v_so ⟨r_lft hl14 u1, Or.inl ⟨(x.1 ++ List.replicate cN (263, 0), x.2), ?_, u2, ?_, r_at_fr u4 (by decide) j3⟩⟩
            · rw [z_cn_s hx, z_lp_n (fun z => by
                rcases (hop _).mp z with z | z
                · exact h60 z
                · exact h61 z)]
              rfl
            · dsimp only
              rw [← List.append_assoc]
              exact u3
      · refine v_b1e (r_isS0 (r_e3n j1)) ?_
        refine v_lO ?_
        refine v_ifn (fun z => z rfl) ?_
        refine v_b1e (r_isS0 (r_e3n j1)) ?_
        refine v_ifp rfl ?_
        refine v_b1e (z_9s0 hv (r_e3n j1)) (v_so ⟨hl14, Or.inr ⟨er, ?_, j1⟩⟩)
        rw [z_cn_e hx]
        rfl
theorem r_exp {B : Nat → Nat} {n : Nat} (hn : n ≤ 400) : ∀ (f d : Nat) (a : Int32), d ≤ 6 → 7 ≤ f + d → a = Int32.ofNat d → r_S B n (f_X12_readExpression f a) (z_exx B n (6 - d))
  | 0, d, a, hd, hf, ha => by omega
  | f + 1, d, a, hd, hf, ha => by
    have t28 : z_tx 28 = z_tx (13 + 5) := by decide +kernel
    have t27 : z_tx 27 = z_tx (13 + 6) := by decide +kernel
    refine ⟨fun C m p hp hC h29 hat hen => ?_, fun m h29 => v_is ?_⟩
    · have hkb := z_kd_b (B := B) (n := n) (p := p)
      obtain ⟨_, e1, e2, _⟩ := z_rk_e (z_kd B n p) hkb
      have h24 := hat.2.2.2.2.1
      rw [f_X12_readExpression]
      refine v_ifp h29 ?_
      have werr : ∀ x : Nat, 1 ≤ x ∧ x ≤ 3 → z_exx B n (6 - d) p = .inl (x, z_ts B n p) → vW (mm_b1 (f_X12_wrong (Int32.ofNat x) m) fun m30 =>
mm_b1 (f_X12_readAnd (f_X12_readExpression f) a m30) fun m32 =>
(mm_b1 (mm_loop (σ := mm_M) (ρ := (mm_M)) (fun (m34 : mm_M) => (mm_b1 (f_X12_is 28 m34) fun r35 =>
if r35 = 0 then (some (.inr m34))
else (mm_b1 (f_X12_step m34) fun m37 =>
mm_b1 (f_X12_readAnd (f_X12_readExpression f) a m37) fun m39 =>
mm_b1 (f_X12_emit 8 m39) fun m41 =>
some (.inl m41)) : Option ((mm_M) ⊕ ((mm_M))))) mm_fu m32) fun m42 =>
some m42)) (r_ok B n C m (z_exx B n (6 - d) p)) := fun x hx hz => by
        have her : r_e3 (mm_w (mm_w m 12 0 29 (Int32.ofNat x)) 12 0 30 (m 12 0 27)) (x, z_ts B n p) := by
          refine ⟨hx, ?_, ?_⟩
          · rw [mw_k (by decide)]
            exact mw_s
          · rw [mw_s]
            exact hat.2.2.1
        refine v_b1e (r_wr h29) ?_
        refine v_b1e (z_an0 (r_e3n her)) ?_
        refine v_b1e (z_lo0 (r_e3n her)) (v_so ⟨r_lfS (fp_w rfl (fp_w rfl fp_rf)), Or.inr ⟨_, hz, her⟩⟩)
      refine v_lK (fun w => (w = 1 ∧ (z_kd B n p = 2 ∨ z_kd B n p = 40 ∨ z_kd B n p = 3 ∨ 256 ≤ z_kd B n p)) ∨ (w = 0 ∧ ¬ (z_kd B n p = 2 ∨ z_kd B n p = 40 ∨ z_kd B n p = 3 ∨ 256 ≤ z_kd B n p))) ?_ (fun k2 hk2 => ?_)
      · rintro w (⟨hw, hb⟩ | ⟨hw, hb⟩)
        · refine v_ifp (by rw [hw]; decide) ?_
          by_cases hd6 : d = 6
          · refine v_ifn (fun z => z (by rw [ha, hd6]; rfl)) ?_
            refine werr 2 (by omega) ?_
            rw [hd6]
            show (Sum.inl (if z_kd B n p = 2 ∨ z_kd B n p = 40 ∨ z_kd B n p = 3 ∨ 256 ≤ z_kd B n p then 2 else 1, z_ts B n p) : zRs) = _
            rw [if_pos hb]
          · refine v_ifp (by rw [ha]; exact fun z => hd6 ((n_eq (b := 6) (by omega) (by omega)).mp z)) ?_
            have hE := r_exp (B := B) (n := n) hn f (d + 1) (a + 1) (by omega) (by omega) (by rw [ha, n_a1])
            have hd5 : d ≤ 5 := by omega
            have hgE : ∀ p, p ≤ n → z_gr n 0 p (z_exx B n (6 - (d + 1)) p) := fun p hp => z_gr_m (Nat.zero_le _) (z_gr_ex (B := B) (n := n) (6 - (d + 1)) (by omega) p hp)
            rw [show 6 - (d + 1) = 5 - d by omega] at hE hgE
            have s6 := r_pt hn hE hgE
            have s5 : r_S B n (f_X12_readProduct (f_X12_readExpression f) a) (z_l5 B n (z_exx B n (5 - d))) := r_cn2 (l := 5) (a := 42) (b := 47) hn s6 (z_gr_lvv hd5 (show 6 ≤ 6 by omega)) (Or.inr ⟨rfl, rfl, rfl⟩) (wa := 3) (wb := 4) (by decide) (by decide) (fun m => rfl)
            have s4 : r_S B n (f_X12_readSum (f_X12_readExpression f) a) (z_l4 B n (z_exx B n (5 - d))) := r_cn2 (l := 4) (a := 43) (b := 45) hn s5 (z_gr_lvv hd5 (show 5 ≤ 6 by omega)) (Or.inl ⟨rfl, rfl, rfl⟩) (wa := 1) (wb := 2) (by decide) (by decide) (fun m => rfl)
            have s2 : r_S B n (f_X12_readNot (f_X12_readExpression f) a) (z_l2 B n (z_exx B n (5 - d))) := r_nt' hn s4 (z_gr_lvv hd5 (show 4 ≤ 6 by omega))
            have s1 : r_S B n (f_X12_readAnd (f_X12_readExpression f) a) (z_l1 B n (z_exx B n (5 - d))) := r_cn1 (l := 1) (q := 6) (i := 27) (w := 7) hn s2 (z_gr_lvv hd5 (show 2 ≤ 6 by omega)) (Or.inr ⟨rfl, rfl⟩) (by omega) t27 (by decide) (fun m => rfl)
            have s0 : r_S B n (fun m => mm_b1 (f_X12_readAnd (f_X12_readExpression f) a m) fun m4 =>
(mm_b1 (mm_loop (σ := mm_M) (ρ := (mm_M)) (fun (m6 : mm_M) => (mm_b1 (f_X12_is 28 m6) fun r7 =>
if r7 = 0 then (some (.inr m6))
else (mm_b1 (f_X12_step m6) fun m9 =>
mm_b1 (f_X12_readAnd (f_X12_readExpression f) a m9) fun m11 =>
mm_b1 (f_X12_emit 8 m11) fun m13 =>
some (.inl m13)) : Option ((mm_M) ⊕ ((mm_M))))) mm_fu m4) fun m14 => some m14)) (z_l0 B n (z_exx B n (5 - d))) := r_cn1 (l := 0) (q := 5) (i := 28) (w := 8) hn s1 (z_gr_lvv hd5 (show 1 ≤ 6 by omega)) (Or.inl ⟨rfl, rfl⟩) (by omega) t28 (by decide) (fun m => rfl)
            rw [show 6 - d = (5 - d) + 1 by omega]
            exact s0.1 C m p hp hC h29 hat hen
        · refine v_ifn (fun z => z hw) ?_
          refine werr 1 (by omega) ?_
          by_cases hd6 : d = 6
          · rw [hd6]
            show (Sum.inl (if z_kd B n p = 2 ∨ z_kd B n p = 40 ∨ z_kd B n p = 3 ∨ 256 ≤ z_kd B n p then 2 else 1, z_ts B n p) : zRs) = _
            rw [if_neg hb]
          · rw [show 6 - d = (5 - d) + 1 by omega]
            exact z_nb0 hb
      · by_cases h2 : z_kd B n p = 2
        · refine v_ifp (h24.trans (e2.mpr h2)) ?_
          exact hk2 1 (Or.inl ⟨rfl, Or.inl h2⟩)
        refine v_ifn (fun z => h2 (e2.mp (h24.symm.trans z))) ?_
        by_cases hw : z_kd B n p = 3 ∨ 256 ≤ z_kd B n p
        · refine v_ifp (h24.trans (e1.mpr hw)) ?_
          exact hk2 1 (Or.inl ⟨rfl, Or.inr (Or.inr hw)⟩)
        refine v_ifn (fun z => hw (e1.mp (h24.symm.trans z))) ?_
        refine v_b1e (r_isS (k := 40) hat h29 rfl (by omega)) ?_
        by_cases h40 : z_kd B n p = 40
        · refine v_ifn (by rw [if_pos h40]; decide) ?_
          exact hk2 1 (Or.inl ⟨rfl, Or.inr (Or.inl h40)⟩)
        · refine v_ifp (by rw [if_neg h40]) ?_
          exact hk2 0 (Or.inr ⟨rfl, fun z => by omega⟩)
    · rw [f_X12_readExpression]
      exact v_ifn h29 (v_so rfl)
