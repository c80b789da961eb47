/-! a thread read by the reference -/
theorem z_rnu_er {B : Nat → Nat} {n lo hi p : Nat} {e : zEr} (h : z_rnu B n lo hi p = .inl e) : e.1 = 1 ∨ e.1 = 2 := by
  by_cases hz : z_ok2 B n lo hi p
  · rw [z_rnu_y hz] at h
    cases h
  · rw [z_rnu_n hz] at h
    rw [← Sum.inl.inj h]
    show (if z_kd B n p = 2 then 2 else 1) = 1 ∨ (if z_kd B n p = 2 then 2 else 1) = 2
    split
    · exact Or.inr rfl
    · exact Or.inl rfl
abbrev zS8 : zT := [(12, none, some 22), (12, none, some 24), (12, none, some 25), (12, none, some 26), (12, none, some 27), (12, none, some 28), (12, none, some 29), (12, none, some 30)]
def r_pf (m r : mm_M) : Prop := ∀ g j k, ¬ ((g = 12 ∧ (k = 22 ∨ (24 ≤ k ∧ k ≤ 30))) ∨ (g = 67 ∧ k = 8) ∨ (69 ≤ g ∧ g ≤ 72 ∧ 192 ≤ k)) → r g j k = m g j k
theorem r_pfr {m : mm_M} : r_pf m m := fun _ _ _ _ => rfl
theorem r_pft {c d e : mm_M} (h1 : r_pf c d) (h2 : r_pf d e) : r_pf c e := fun g j k h => (h2 g j k h).trans (h1 g j k h)
theorem r_pfw {g k : Nat} {c d : mm_M} {x : Int32} (h : (g = 67 ∧ k = 8) ∨ (69 ≤ g ∧ g ≤ 72 ∧ 192 ≤ k)) (h1 : r_pf c d) : r_pf c (mm_w d g 0 k x) := fun g' j' k' h' => by
  rw [mw_get, if_neg (fun z => h' (Or.inr (by rw [z.1, z.2.2]; exact h)))]
  exact h1 g' j' k' h'
theorem r_pfS {c d : mm_M} (h : fp zS8 c d) : r_pf c d := fun g j k h' => h g j k (z_inE (fun e he z => by
  have hz := z.2.2
  have h1 := z.1
  have fin : ∀ x : Nat, (x = 22 ∨ (24 ≤ x ∧ x ≤ 30)) → 12 = g → z_o (some x) k = true → False := fun x hx hg hk => h' (Or.inl ⟨hg.symm, by have := Nat.eq_of_beq_eq_true hk; omega⟩)
  rcases List.mem_cons.mp he with rfl | he
  · exact fin 22 (by omega) h1 hz
  rcases List.mem_cons.mp he with rfl | he
  · exact fin 24 (by omega) h1 hz
  rcases List.mem_cons.mp he with rfl | he
  · exact fin 25 (by omega) h1 hz
  rcases List.mem_cons.mp he with rfl | he
  · exact fin 26 (by omega) h1 hz
  rcases List.mem_cons.mp he with rfl | he
  · exact fin 27 (by omega) h1 hz
  rcases List.mem_cons.mp he with rfl | he
  · exact fin 28 (by omega) h1 hz
  rcases List.mem_cons.mp he with rfl | he
  · exact fin 29 (by omega) h1 hz
  rcases List.mem_cons.mp he with rfl | he
  · exact fin 30 (by omega) h1 hz
  cases he))
def r_psM (m : mm_M) (L : List zP) : Prop := m 67 0 8 = Int32.ofNat L.length ∧ ∀ j x, L[j]? = some x → m 69 0 (192 + j) = Int32.ofNat x.1 ∧ m 70 0 (192 + j) = Int32.ofNat x.2.1 ∧ m 71 0 (192 + j) = Int32.ofNat x.2.2.1 ∧ m 72 0 (192 + j) = Int32.ofNat x.2.2.2
def r_err (m : mm_M) (e : zEr) : Prop := (e.1 = 1 ∨ e.1 = 2) ∧ m 12 0 29 = Int32.ofNat e.1 ∧ m 12 0 30 = Int32.ofNat e.2
theorem r_err_n {m : mm_M} {e : zEr} (h : r_err m e) : ¬ m 12 0 29 = 0 := by
  rw [h.2.1]
  exact n_ne (by rw [nJ_T (by have := h.1; omega), i_0]; have := h.1; omega)
/-- a first number -/
theorem r_num1 {m : mm_M} {B : Nat → Nat} {n p lo hi : Nat} {a b : Int32} (h : r_at m B n p) (h29 : m 12 0 29 = 0) (hp : p ≤ n) (ha : a = Int32.ofNat lo) (hb : b = Int32.ofNat hi) (hhi : hi ≤ 99999) (hlo : lo ≤ hi) : vW (f_X12_readNumber a b m) (fun q => (∃ x, z_rnu B n lo hi p = .inr x ∧ q.1 = Int32.ofNat x.1 ∧ q.2 12 0 29 = 0 ∧ fp zS8 m q.2 ∧ r_at q.2 B n x.2) ∨ (∃ e, z_rnu B n lo hi p = .inl e ∧ fp zS8 m q.2 ∧ r_err q.2 e)) := by
  refine v_mono (r_num h h29 hp ha hb hhi hlo) (fun q hq => ?_)
  rcases hq with ⟨hz, h1, h2, h3⟩ | ⟨hz, h2, h3, h4⟩
  · exact Or.inl ⟨_, z_rnu_y hz, h1, (h2 12 0 29 rfl).trans h29, fp_sb (by decide) h2, h3⟩
  · refine Or.inr ⟨_, z_rnu_n hz, fp_sb (by decide) h2, ?_, h3, h4⟩
    exact z_rnu_er (z_rnu_n hz)
theorem r_part {m : mm_M} {B : Nat → Nat} {n p : Nat} {L : List zP} {a1 : Int32} (h : r_at m B n p) (h29 : m 12 0 29 = 0) (hp : p ≤ n) (hps : r_psM m L) (hl : L.length ≤ 24) (hg : ∀ x, x ∈ L → x.1 < 4) (ha : a1 = Int32.ofNat (z_cp L 3)) (h6 : z_cp L 3 ≤ 6) : vW (f_X12_readThreadPart a1 m) (fun r => (∃ x, z_part B n L p = .inr x ∧ r 12 0 29 = 0 ∧ r_pf m r ∧ r_psM r (L ++ [x.1]) ∧ r_at r B n x.2) ∨ (∃ e, z_part B n L p = .inl e ∧ r_pf m r ∧ r_err r e)) := by
  have hkb := z_kd_b (B := B) (n := n) (p := p)
  have hwr : ∀ a : Nat, r_err (mm_w (mm_w m 12 0 29 (Int32.ofNat a)) 12 0 30 (m 12 0 27)) (a, z_ts B n p) ∨ ¬ (a = 1 ∨ a = 2) := fun a => by
    by_cases h12 : a = 1 ∨ a = 2
    · refine Or.inl ⟨h12, ?_, ?_⟩
      · rw [mw_k (by decide)]
        exact mw_s
      · rw [mw_s]
        exact h.2.2.1
    · exact Or.inr h12
  have fwr : ∀ a : Nat, fp zS8 m (mm_w (mm_w m 12 0 29 (Int32.ofNat a)) 12 0 30 (m 12 0 27)) := fun a => fp_w rfl (fp_w rfl fp_rf)
  unfold f_X12_readThreadPart
  refine v_s1 (r_w65 h h29 hp) (fun r1 hr1 => ?_)
  refine v_lKm (fun m2 => (∃ q, z_kd B n p = 256 + q ∧ q < 4 ∧ r1 = Int32.ofNat q ∧ m2 = m ∧ z_part B n L p = z_fin B n q (z_cp L q + 1) (z_ab B n q (z_te B n p)) ∧ L.length < 24) ∨ (∃ e, z_part B n L p = .inl e ∧ r_pf m m2 ∧ r_err m2 e)) ?_ (fun k3 hk3 => ?_)
  · rintro m2 (⟨q, hq, hq4, hr, rfl, hpt, hl2⟩ | ⟨e, he, hpf, her⟩)
    · refine v_ifp h29 ?_
      refine v_s1 (r_step h.1 (z_te_b hp) h.2.1) ?_
      rintro m5 ⟨hf5, hat5⟩
      have hf58 : fp zS8 m2 m5 := fp_sb (by decide) hf5
      have g67 : m5 67 0 8 = Int32.ofNat L.length := (hf5 67 0 8 rfl).trans hps.1
      refine v_lI (fun v6 hv6 => ?_)
      have hv : v6.toInt = ((192 + L.length : Nat) : Int) := by
        rw [hv6, g67]
        exact iA_addN (show (192 : Int32).toInt = ((192 : Nat) : Int) by decide) (nJ_T (by omega)) (by omega)
      clear hv6
      have i6 : mm_in v6 216 := v_in.mpr (by omega)
      have k6 := n_k hv
      refine v_ifp i6 ?_
      refine v_lM ?_
      rw [show mm_w m5 69 0 v6.toNatClampNeg r1 = mm_w m5 69 0 (192 + L.length) (Int32.ofNat q) by rw [k6, hr]]
      have hat7 := r_at_fr (L := [(69, none, none)]) (r := mm_w m5 69 0 (192 + L.length) (Int32.ofNat q)) (fp_w rfl fp_rf) (by decide) hat5
      have h297 : mm_w m5 69 0 (192 + L.length) (Int32.ofNat q) 12 0 29 = 0 := (mw_g (by decide)).trans ((hf5 12 0 29 rfl).trans h29)
      have p7 : r_pf m2 (mm_w m5 69 0 (192 + L.length) (Int32.ofNat q)) := r_pfw (Or.inr ⟨by omega, by omega, by omega⟩) (r_pfS hf58)
      have lo7 : ∀ g k, ¬ g = 12 → ¬ (g = 69 ∧ k = 192 + L.length) → mm_w m5 69 0 (192 + L.length) (Int32.ofNat q) g 0 k = m2 g 0 k := fun g k hg hk => by
        rw [mw_get, if_neg (fun z => hk ⟨z.1, z.2.2⟩)]
        refine hf5 g 0 k (z_inE (fun e he z => hg ?_))
        rcases List.mem_cons.mp he with rfl | he
        · exact z.1.symm
        rcases List.mem_cons.mp he with rfl | he
        · exact z.1.symm
        rcases List.mem_cons.mp he with rfl | he
        · exact z.1.symm
        rcases List.mem_cons.mp he with rfl | he
        · exact z.1.symm
        rcases List.mem_cons.mp he with rfl | he
        · exact z.1.symm
        rcases List.mem_cons.mp he with rfl | he
        · exact z.1.symm
        cases he
      have s8 : ∀ c d : mm_M, fp zS8 c d → ∀ g k, ¬ g = 12 → d g 0 k = c g 0 k := fun c d hcd g k hg => hcd g 0 k (z_inE (fun e he z => hg (by
        rcases List.mem_cons.mp he with rfl | he
        · exact z.1.symm
        rcases List.mem_cons.mp he with rfl | he
        · exact z.1.symm
        rcases List.mem_cons.mp he with rfl | he
        · exact z.1.symm
        rcases List.mem_cons.mp he with rfl | he
        · exact z.1.symm
        rcases List.mem_cons.mp he with rfl | he
        · exact z.1.symm
        rcases List.mem_cons.mp he with rfl | he
        · exact z.1.symm
        rcases List.mem_cons.mp he with rfl | he
        · exact z.1.symm
        rcases List.mem_cons.mp he with rfl | he
        · exact z.1.symm
        cases he)))
      have a69 : mm_w m5 69 0 (192 + L.length) (Int32.ofNat q) 69 0 (192 + L.length) = Int32.ofNat q := mw_s
      generalize mm_w m5 69 0 (192 + L.length) (Int32.ofNat q) = m7 at hat7 h297 p7 lo7 a69 ⊢
      have hte := z_te_b (B := B) hp
      refine v_lK2 (fun w8 m9 => fp zS8 m7 m9 ∧ ((∃ a p1, p1 ≤ n ∧ w8 = Int32.ofNat a ∧ m9 12 0 29 = 0 ∧ r_at m9 B n p1 ∧ z_ab B n q (z_te B n p) = if q = 3 then z_a2 a (z_rnu B n 0 30000 p1) else .inr ((a, 0), p1)) ∨ (∃ e, z_ab B n q (z_te B n p) = .inl e ∧ r_err m9 e))) ?_ (fun k10 hk10 => ?_)
      · rintro w8 m9 ⟨hf9, hs9⟩
        refine v_ifp i6 ?_
        refine v_lM ?_
        rw [show mm_w m9 70 0 v6.toNatClampNeg w8 = mm_w m9 70 0 (192 + L.length) w8 by rw [k6]]
        have f11 : fp [(70, none, none)] m9 (mm_w m9 70 0 (192 + L.length) w8) := fp_w rfl fp_rf
        have p11 : r_pf m2 (mm_w m9 70 0 (192 + L.length) w8) := r_pfw (Or.inr ⟨by omega, by omega, by omega⟩) (r_pft p7 (r_pfS hf9))
        have lo11 : ∀ g k, ¬ g = 12 → ¬ ((g = 69 ∨ g = 70) ∧ k = 192 + L.length) → mm_w m9 70 0 (192 + L.length) w8 g 0 k = m2 g 0 k := fun g k hg hk => by
          rw [mw_get, if_neg (fun z => hk ⟨Or.inr z.1, z.2.2⟩), s8 _ _ hf9 g k hg]
          exact lo7 g k hg (fun z => hk ⟨Or.inl z.1, z.2⟩)
        have a69b : mm_w m9 70 0 (192 + L.length) w8 69 0 (192 + L.length) = Int32.ofNat q := (mw_g (by decide)).trans ((s8 _ _ hf9 69 _ (by decide)).trans a69)
        have a70 : mm_w m9 70 0 (192 + L.length) w8 70 0 (192 + L.length) = w8 := mw_s
        have hs11 : (∃ a p1, p1 ≤ n ∧ w8 = Int32.ofNat a ∧ mm_w m9 70 0 (192 + L.length) w8 12 0 29 = 0 ∧ r_at (mm_w m9 70 0 (192 + L.length) w8) B n p1 ∧ z_ab B n q (z_te B n p) = if q = 3 then z_a2 a (z_rnu B n 0 30000 p1) else .inr ((a, 0), p1)) ∨ (∃ e, z_ab B n q (z_te B n p) = .inl e ∧ r_err (mm_w m9 70 0 (192 + L.length) w8) e) := by
          rcases hs9 with ⟨a, p1, h1, h2, h3, h4, h5⟩ | ⟨e, h1, h2⟩
          · exact Or.inl ⟨a, p1, h1, h2, (mw_g (by decide)).trans h3, r_at_fr f11 (by decide) h4, h5⟩
          · exact Or.inr ⟨e, h1, h2.1, (mw_g (by decide)).trans h2.2.1, (mw_g (by decide)).trans h2.2.2⟩
        generalize mm_w m9 70 0 (192 + L.length) w8 = m11 at p11 lo11 a69b a70 hs11 ⊢
        refine v_lK2 (fun w12 m13 => fp zS8 m11 m13 ∧ ((∃ a b p2, p2 ≤ n ∧ w8 = Int32.ofNat a ∧ w12 = Int32.ofNat b ∧ m13 12 0 29 = 0 ∧ r_at m13 B n p2 ∧ z_ab B n q (z_te B n p) = .inr ((a, b), p2)) ∨ (∃ e, z_ab B n q (z_te B n p) = .inl e ∧ r_err m13 e))) ?_ (fun k14 hk14 => ?_)
        · rintro w12 m13 ⟨hf13, hs13⟩
          refine v_ifp i6 ?_
          refine v_lM ?_
          refine v_ifp i6 ?_
          refine v_lM ?_
          rw [show mm_w (mm_w m13 71 0 v6.toNatClampNeg w12) 72 0 v6.toNatClampNeg 1 = mm_w (mm_w m13 71 0 (192 + L.length) w12) 72 0 (192 + L.length) 1 by rw [k6]]
          have f16 : fp [(71, none, none), (72, none, none)] m13 (mm_w (mm_w m13 71 0 (192 + L.length) w12) 72 0 (192 + L.length) 1) := fp_w rfl (fp_w rfl fp_rf)
          have p16 : r_pf m2 (mm_w (mm_w m13 71 0 (192 + L.length) w12) 72 0 (192 + L.length) 1) := r_pfw (Or.inr ⟨by omega, by omega, by omega⟩) (r_pfw (Or.inr ⟨by omega, by omega, by omega⟩) (r_pft p11 (r_pfS hf13)))
          have lo16 : ∀ g k, ¬ g = 12 → ¬ ((69 ≤ g ∧ g ≤ 72) ∧ k = 192 + L.length) → mm_w (mm_w m13 71 0 (192 + L.length) w12) 72 0 (192 + L.length) 1 g 0 k = m2 g 0 k := fun g k hg hk => by
            rw [mw_get, if_neg (fun z => hk ⟨by omega, z.2.2⟩), mw_get, if_neg (fun z => hk ⟨by omega, z.2.2⟩), s8 _ _ hf13 g k hg]
            exact lo11 g k hg (fun z => hk ⟨by omega, z.2⟩)
          have b69 : mm_w (mm_w m13 71 0 (192 + L.length) w12) 72 0 (192 + L.length) 1 69 0 (192 + L.length) = Int32.ofNat q := (mw_g (by decide)).trans ((mw_g (by decide)).trans ((s8 _ _ hf13 69 _ (by decide)).trans a69b))
          have b70 : mm_w (mm_w m13 71 0 (192 + L.length) w12) 72 0 (192 + L.length) 1 70 0 (192 + L.length) = w8 := (mw_g (by decide)).trans ((mw_g (by decide)).trans ((s8 _ _ hf13 70 _ (by decide)).trans a70))
          have b71 : mm_w (mm_w m13 71 0 (192 + L.length) w12) 72 0 (192 + L.length) 1 71 0 (192 + L.length) = w12 := (mw_g (by decide)).trans mw_s
          have b72 : mm_w (mm_w m13 71 0 (192 + L.length) w12) 72 0 (192 + L.length) 1 72 0 (192 + L.length) = 1 := mw_s
          have hs16 : (∃ a b p2, p2 ≤ n ∧ w8 = Int32.ofNat a ∧ w12 = Int32.ofNat b ∧ mm_w (mm_w m13 71 0 (192 + L.length) w12) 72 0 (192 + L.length) 1 12 0 29 = 0 ∧ r_at (mm_w (mm_w m13 71 0 (192 + L.length) w12) 72 0 (192 + L.length) 1) B n p2 ∧ z_ab B n q (z_te B n p) = .inr ((a, b), p2)) ∨ (∃ e, z_ab B n q (z_te B n p) = .inl e ∧ r_err (mm_w (mm_w m13 71 0 (192 + L.length) w12) 72 0 (192 + L.length) 1) e) := by
            rcases hs13 with ⟨a, b, p2, h1, h2, h3, h4, h5, h6⟩ | ⟨e, h1, h2⟩
            · exact Or.inl ⟨a, b, p2, h1, h2, h3, (f16 12 0 29 rfl).trans h4, r_at_fr f16 (by decide) h5, h6⟩
            · exact Or.inr ⟨e, h1, h2.1, (f16 12 0 29 rfl).trans h2.2.1, (f16 12 0 30 rfl).trans h2.2.2⟩
          generalize mm_w (mm_w m13 71 0 (192 + L.length) w12) 72 0 (192 + L.length) 1 = m16 at p16 lo16 b69 b70 b71 b72 hs16 ⊢
          have hlo : ∀ g j, 69 ≤ g → g ≤ 72 → j < L.length → m16 g 0 (192 + j) = m2 g 0 (192 + j) := fun g j h1 h2 hj => lo16 g (192 + j) (by omega) (fun z => by omega)
          refine v_s1 (P := fun d => fp [(72, some 0, none)] m16 d ∧ d 72 0 (192 + L.length) = Int32.ofNat (z_cp L q + 1) ∧ ∀ k, ¬ k = 192 + L.length → d 72 0 k = m16 72 0 k) ?_ (fun d hd => ?_)
          · refine v_for (fun j s => s.1.toInt = ((192 + j : Nat) : Int) ∧ fp [(72, some 0, none)] m16 s.2 ∧ s.2 72 0 (192 + L.length) = Int32.ofNat (z_cp (L.take j) q + 1) ∧ ∀ k, ¬ k = 192 + L.length → s.2 72 0 k = m16 72 0 k) 0 L.length (Nat.zero_le _) (by omega) ⟨show (192 : Int32).toInt = ((192 + 0 : Nat) : Int) by decide, fp_rf, b72, fun _ _ => rfl⟩ ?_ ?_
            · rintro j ⟨v, e⟩ hj ⟨hw, hfe, h72, hk72⟩
              dsimp only at hw hfe h72 hk72 ⊢
              obtain ⟨y, hy, htk⟩ := z_tkP hj
              have kw := n_k hw
              have e69 : e 69 0 v.toNatClampNeg = Int32.ofNat y.1 := by
                rw [kw, hfe 69 0 _ rfl, hlo 69 j (by omega) (by omega) hj]
                exact (hps.2 j y hy).1
              have hy4 := hg y (List.mem_of_getElem? hy)
              refine v_ifn (by rw [iA_le, hv, hw]; omega) ?_
              refine v_ifp i6 ?_
              refine v_ifp (v_in.mpr (by omega)) ?_
              by_cases hyq : y.1 = q
              · refine v_ifn (fun z => z (by rw [e69, hr, hyq])) ?_
                refine v_ifp i6 ?_
                rw [k6, h72, n_a1]
                refine v_lM ?_
                refine v_l1 ?_
                refine v_il ⟨show (v + 1).toInt = ((192 + j + 1 : Nat) : Int) from n_s3 hw (by omega), fp_w rfl hfe, ?_, fun k hk => ?_⟩
                · dsimp only
                  rw [mw_s, htk, z_cp_s, if_pos hyq]
                · dsimp only
                  rw [mw_k hk]
                  exact hk72 k hk
              · refine v_ifp (by rw [e69, hr]; exact fun z => hyq ((n_eq (by omega) (by omega)).mp z)) ?_
                refine v_ifp i6 ?_
                rw [k6, h72, Int32.add_zero]
                refine v_lM ?_
                refine v_l1 ?_
                refine v_il ⟨show (v + 1).toInt = ((192 + j + 1 : Nat) : Int) from n_s3 hw (by omega), fp_w rfl hfe, ?_, fun k hk => ?_⟩
                · dsimp only
                  rw [mw_s, htk, z_cp_s, if_neg hyq, Nat.add_zero]
                · dsimp only
                  rw [mw_k hk]
                  exact hk72 k hk
            · rintro ⟨v, e⟩ ⟨hw, hfe, h72, hk72⟩
              dsimp only at hw hfe h72 hk72 ⊢
              rw [List.take_length] at h72
              refine v_ifp (by rw [iA_le, hv, hw]; omega) ?_
              exact v_ir ⟨hfe, h72, hk72⟩
          · obtain ⟨hfd, d72, hk72⟩ := hd
            have pd : r_pf m2 d := fun g j k hh => by
              by_cases hg72 : g = 72
              · by_cases hj0 : j = 0
                · by_cases hk : k = 192 + L.length
                  · exact absurd (Or.inr (Or.inr ⟨by omega, by omega, by omega⟩)) hh
                  · rw [hg72, hj0, hk72 k hk]
                    rw [hg72] at hh
                    exact p16 72 0 k hh
                · rw [hfd g j k (z_inE (fun e he z => by
                    rcases List.mem_cons.mp he with rfl | he
                    · exact hj0 (Nat.eq_of_beq_eq_true z.2.1).symm
                    cases he))]
                  exact p16 g j k hh
              · rw [hfd g j k (z_inE (fun e he z => by
                  rcases List.mem_cons.mp he with rfl | he
                  · exact hg72 z.1.symm
                  cases he))]
                exact p16 g j k hh
            rcases hs16 with ⟨a, b, p2, h1, h2, h3, h4, h5, h7⟩ | ⟨e, h1, h2⟩
            · rw [h7] at hpt
              have hd29 : d 12 0 29 = 0 := (hfd 12 0 29 rfl).trans h4
              refine v_s1 (r_need (k := 59) (r_at_fr hfd (by decide) h5) hd29 h1 rfl (by omega)) (fun f hf => ?_)
              rcases hf with ⟨j1, j2, j3⟩ | ⟨j1, j2, j3, j4⟩
              · have f29 : f 12 0 29 = 0 := (j2 12 0 29 rfl).trans hd29
                refine v_ifn (fun z => z f29) ?_
                have f67 : f 67 0 8 = Int32.ofNat L.length := (j2 67 0 8 rfl).trans ((hfd 67 0 8 rfl).trans ((lo16 67 8 (by omega) (fun z => by omega)).trans hps.1))
                rw [f67, n_a1]
                refine v_lM ?_
                have hpt2 : z_part B n L p = .inr ((q, a, b, z_cp L q + 1), z_te B n p2) := hpt.trans (if_pos j1)
                have jf : ∀ g k, ¬ g = 12 → f g 0 k = d g 0 k := fun g k hg => s8 _ _ (fp_sb (by decide) j2) g k hg
                refine v_so (Or.inl ⟨_, hpt2, (mw_g (by decide)).trans f29, r_pfw (Or.inl ⟨rfl, rfl⟩) (r_pft pd (r_pfS (fp_sb (by decide) j2))), ⟨?_, fun j y hy => ?_⟩, r_at_fr (L := [(67, none, none)]) (fp_w rfl fp_rf) (by decide) j3⟩)
                · rw [mw_s, List.length_append]
                  rfl
                · rw [mw_g (by decide), mw_g (by decide), mw_g (by decide), mw_g (by decide), jf 69 _ (by decide), jf 70 _ (by decide), jf 71 _ (by decide), jf 72 _ (by decide), hfd 69 0 _ rfl, hfd 70 0 _ rfl, hfd 71 0 _ rfl]
                  by_cases hj : j < L.length
                  · rw [List.getElem?_append_left hj] at hy
                    rw [hk72 _ (by omega), hlo 69 j (by omega) (by omega) hj, hlo 70 j (by omega) (by omega) hj, hlo 71 j (by omega) (by omega) hj, hlo 72 j (by omega) (by omega) hj]
                    exact hps.2 j y hy
                  · rw [List.getElem?_append_right (by omega)] at hy
                    have hje : j = L.length := by
                      by_cases hje : j = L.length
                      · exact hje
                      · obtain ⟨k, hk⟩ : ∃ k, j - L.length = k + 1 := ⟨j - L.length - 1, by omega⟩
                        rw [hk] at hy
                        cases hy
                    rw [hje, Nat.sub_self] at hy
                    have hy2 := (Option.some.inj hy).symm
                    rw [hje, hy2, b69, b70, b71, d72, h2, h3]
                    exact ⟨rfl, rfl, rfl, rfl⟩
              · have hpt2 : z_part B n L p = .inl (1, z_ts B n p2) := hpt.trans (if_neg j1)
                have her : r_err f (1, z_ts B n p2) := ⟨Or.inl rfl, j3, j4⟩
                refine v_ifp (r_err_n her) ?_
                exact v_so (Or.inr ⟨_, hpt2, r_pft pd (r_pfS (fp_sb (by decide) j2)), her⟩)
            · rw [h1] at hpt
              have her : r_err d e := ⟨h2.1, (hfd 12 0 29 rfl).trans h2.2.1, (hfd 12 0 30 rfl).trans h2.2.2⟩
              refine v_b1e (r_need0 (r_err_n her)) ?_
              refine v_ifp (r_err_n her) ?_
              exact v_so (Or.inr ⟨e, hpt, pd, her⟩)
        · by_cases hq3 : q = 3
          · refine v_ifn (fun z => z (by rw [hr, hq3]; rfl)) ?_
            rcases hs11 with ⟨a, p1, h1, h2, h3, h4, h5⟩ | ⟨e, h1, h2⟩
            · rw [if_pos hq3] at h5
              refine v_s2 (r_num1 (lo := 0) (hi := 30000) h4 h3 h1 rfl rfl (by omega) (by omega)) ?_
              rintro w c hw
              dsimp only at hw
              rcases hw with ⟨x, hx, j1, j2, j3, j4⟩ | ⟨e, hx, j1, j2⟩
              · rw [hx] at h5
                have hxb := z_rnu_b hx
                exact hk14 w c ⟨j3, Or.inl ⟨a, x.1, x.2, by rw [hxb.2]; exact z_te_b h1, h2, j1, j2, j4, h5⟩⟩
              · rw [hx] at h5
                exact hk14 w c ⟨j1, Or.inr ⟨e, h5, j2⟩⟩
            · refine v_b2e (r_num0 (r_err_n h2)) ?_
              exact hk14 0 m11 ⟨fp_rf, Or.inr ⟨e, h1, h2⟩⟩
          · refine v_ifp (by rw [hr]; exact fun z => hq3 ((n_eq (b := 3) (by omega) (by omega)).mp z)) ?_
            refine hk14 0 m11 ⟨fp_rf, ?_⟩
            rcases hs11 with ⟨a, p1, h1, h2, h3, h4, h5⟩ | ⟨e, h1, h2⟩
            · rw [if_neg hq3] at h5
              exact Or.inl ⟨a, 0, p1, h1, h2, rfl, h3, h4, h5⟩
            · exact Or.inr ⟨e, h1, h2⟩
      · rcases (by omega : q = 0 ∨ q = 1 ∨ q = 2 ∨ q = 3) with rfl | rfl | rfl | rfl
        · refine v_ifn (fun z => z (by rw [hr]; rfl)) ?_
          have eab : z_ab B n 0 (z_te B n p) = z_a1 (z_rnu B n 1 9999 (z_te B n p)) := rfl
          refine v_s2 (r_num1 (lo := 1) (hi := 9999) hat7 h297 hte rfl rfl (by omega) (by omega)) ?_
          rintro w c hw
          dsimp only at hw
          rcases hw with ⟨x, hx, j1, j2, j3, j4⟩ | ⟨e, hx, j1, j2⟩
          · have hxb := z_rnu_b hx
            refine hk10 w c ⟨j3, Or.inl ⟨x.1, x.2, by rw [hxb.2]; exact z_te_b hte, j1, j2, j4, ?_⟩⟩
            rw [eab, hx]
            rfl
          · refine hk10 w c ⟨j1, Or.inr ⟨e, ?_, j2⟩⟩
            rw [eab, hx]
            rfl
        · refine v_ifp (by rw [hr]; decide) ?_
          refine v_ifp (by rw [hr]; decide) ?_
          refine v_ifp (by rw [hr]; decide) ?_
          exact hk10 0 m7 ⟨fp_rf, Or.inl ⟨0, z_te B n p, hte, rfl, h297, hat7, rfl⟩⟩
        · refine v_ifp (by rw [hr]; decide) ?_
          refine v_ifn (fun z => z (by rw [hr]; rfl)) ?_
          have eab : z_ab B n 2 (z_te B n p) = z_a1 (z_rnu B n 0 99 (z_te B n p)) := rfl
          refine v_s2 (r_num1 (lo := 0) (hi := 99) hat7 h297 hte rfl rfl (by omega) (by omega)) ?_
          rintro w c hw
          dsimp only at hw
          rcases hw with ⟨x, hx, j1, j2, j3, j4⟩ | ⟨e, hx, j1, j2⟩
          · have hxb := z_rnu_b hx
            refine hk10 w c ⟨j3, Or.inl ⟨x.1, x.2, by rw [hxb.2]; exact z_te_b hte, j1, j2, j4, ?_⟩⟩
            rw [eab, hx]
            rfl
          · refine hk10 w c ⟨j1, Or.inr ⟨e, ?_, j2⟩⟩
            rw [eab, hx]
            rfl
        · refine v_ifp (by rw [hr]; decide) ?_
          refine v_ifp (by rw [hr]; decide) ?_
          refine v_ifn (fun z => z (by rw [hr]; rfl)) ?_
          have eab : z_ab B n 3 (z_te B n p) = z_ab2 B n (z_rnu B n 0 40000 (z_te B n p)) := rfl
          refine v_s2 (r_num1 (lo := 0) (hi := 40000) hat7 h297 hte rfl rfl (by omega) (by omega)) ?_
          rintro w c hw
          dsimp only at hw
          rcases hw with ⟨x, hx, j1, j2, j3, j4⟩ | ⟨e, hx, j1, j2⟩
          · have hxb := z_rnu_b hx
            refine hk10 w c ⟨j3, Or.inl ⟨x.1, x.2, by rw [hxb.2]; exact z_te_b hte, j1, j2, j4, ?_⟩⟩
            rw [eab, hx]
            rfl
          · refine hk10 w c ⟨j1, Or.inr ⟨e, ?_, j2⟩⟩
            rw [eab, hx]
            rfl
    · refine v_ifn (r_err_n her) ?_
      exact v_so (Or.inr ⟨e, he, hpf, her⟩)
  · rcases hr1 with ⟨q, hq4, hq, hr⟩ | ⟨hno, hr⟩
    · have hqk : z_kd B n p - 256 = q := by omega
      have kk : ¬ (z_kd B n p < 256 ∨ 259 < z_kd B n p) := by omega
      refine v_ifp (by rw [hr]; exact n_m1 (by omega)) ?_
      have i24 : (24 : Int32) = Int32.ofNat 24 := rfl
      by_cases k3' : 24 ≤ L.length
      · refine v_ifp (by rw [hps.1, show L.length = 24 by omega]; rfl) ?_
        refine v_b1e (r_wr h29) ?_
        rcases hwr 2 with z | z
        · exact hk3 _ (Or.inr ⟨_, z_part_2 kk k3', r_pfS (fwr 2), z⟩)
        · exact absurd (Or.inr rfl) z
      · refine v_ifn (by rw [hps.1]; exact fun z => k3' (by have := (n_eq (b := 24) (by omega) (by omega)).mp z; omega)) ?_
        by_cases hq3 : q = 3
        · refine v_ifn (fun z => z (by rw [hr, hq3]; rfl)) ?_
          by_cases hc6 : z_cp L 3 = 6
          · refine v_ifn (fun z => z (by rw [ha, hc6]; rfl)) ?_
            refine v_b1e (r_wr h29) ?_
            rcases hwr 2 with z | z
            · exact hk3 _ (Or.inr ⟨_, z_part_3 kk k3' ⟨by omega, by omega⟩, r_pfS (fwr 2), z⟩)
            · exact absurd (Or.inr rfl) z
          · refine v_ifp (by rw [ha]; exact fun z => hc6 ((n_eq (b := 6) (by omega) (by omega)).mp z)) ?_
            refine hk3 m (Or.inl ⟨q, hq, hq4, hr, rfl, ?_, by omega⟩)
            rw [z_part_4 kk k3' (fun z => by omega), hqk]
        · refine v_ifp (by rw [hr]; exact fun z => hq3 ((n_eq (b := 3) (by omega) (by omega)).mp z)) ?_
          refine hk3 m (Or.inl ⟨q, hq, hq4, hr, rfl, ?_, by omega⟩)
          rw [z_part_4 kk k3' (fun z => by omega), hqk]
    · refine v_ifn (fun z => z hr) ?_
      refine v_b1e (r_wr h29) ?_
      have kk : z_kd B n p < 256 ∨ 259 < z_kd B n p := by
        by_cases k1 : z_kd B n p < 256
        · exact Or.inl k1
        · by_cases k2 : 259 < z_kd B n p
          · exact Or.inr k2
          · exact absurd (show z_kd B n p = 256 + (z_kd B n p - 256) by omega) (hno (z_kd B n p - 256) (by omega))
      rcases hwr 1 with z | z
      · exact hk3 _ (Or.inr ⟨_, z_part_1 kk, r_pfS (fwr 1), z⟩)
      · exact absurd (Or.inl rfl) z
