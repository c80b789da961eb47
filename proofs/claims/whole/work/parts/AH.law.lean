/-! the law read by the reference, and the op -/
def r_lh (m r : mm_M) : Prop := ∀ g j k, ¬ ((g = 12 ∧ (k = 22 ∨ (24 ≤ k ∧ k ≤ 30) ∨ k = 32)) ∨ (g = 83 ∧ 800 ≤ k) ∨ ((g = 81 ∨ g = 82 ∨ g = 86) ∧ 4 ≤ k)) → r g j k = m g j k
theorem r_lhr {m : mm_M} : r_lh m m := fun _ _ _ _ => rfl
theorem r_lht {c d e : mm_M} (h1 : r_lh c d) (h2 : r_lh d e) : r_lh c e := fun g j k h => (h2 g j k h).trans (h1 g j k h)
theorem r_lhl {c d : mm_M} (h : r_lf c d) : r_lh c d := fun g j k hh => h g j k (fun z => hh (by omega))
theorem r_lhw {g k : Nat} {c d : mm_M} {x : Int32} (h : (g = 12 ∧ k = 32) ∨ ((g = 81 ∨ g = 82 ∨ g = 86) ∧ 4 ≤ k)) (h1 : r_lh c d) : r_lh c (mm_w d g 0 k x) := fun g' j' k' h' => by
  rw [mw_get, if_neg (fun z => h' (by omega))]
  exact h1 g' j' k' h'
def r_sl (m : mm_M) (sl : zSl) : Prop := ∀ k, k < 4 → (sl k = none → m 86 0 (4 + k) = 0) ∧ ∀ x, sl k = some x → m 86 0 (4 + k) = 1 ∧ m 81 0 (4 + k) = Int32.ofNat (z_enc x.1).length ∧ m 82 0 (4 + k) = Int32.ofNat ((z_enc x.1).length + (z_enc x.2).length)
theorem r_clauses {B : Nat → Nat} {n : Nat} {m : mm_M} (hn : n ≤ 400) (hat : r_at m B n 0) (h29 : m 12 0 29 = 0) (h32 : m 12 0 32 = 0) (h86 : ∀ k, k < 4 → m 86 0 (4 + k) = 0) : vW (mm_loop (σ := Int32 × mm_M) (ρ := (mm_M)) (fun (s : Int32 × mm_M) => match s with
| (v14, m15) => (if (m15 12 0 29) ≠ 0 then (some (.inr m15))
else (if (m15 12 0 24) = 0 then (some (.inr m15))
else (mm_b1 (f_X12_which_g66 m15) fun r16 =>
mm_let (fun (m17 : mm_M) => (if (m17 12 0 29) = 0 then (mm_let (v14 + 1) fun v19 =>
mm_b1 (f_X12_step m17) fun m21 =>
if mm_in (4 + r16) 8 then (
mm_let (mm_w m21 81 0 ((4 + r16).toNatClampNeg) (m21 12 0 32)) fun m22 =>
mm_b1 (f_X12_readExpression 16 0 m22) fun m24 =>
if mm_in (4 + r16) 8 then (
mm_let (mm_w m24 82 0 ((4 + r16).toNatClampNeg) (m24 12 0 32)) fun m25 =>
if mm_in (4 + r16) 8 then (
mm_let (mm_w m25 86 0 ((4 + r16).toNatClampNeg) 1) fun m26 =>
mm_b1 (f_X12_need 59 m26) fun m28 =>
some (.inl (v19, m28))) else none) else none) else none)
else (some (.inl (v14, m17))) : Option ((Int32 × mm_M) ⊕ ((mm_M))))) fun k18 =>
if r16 ≠ (-1) then (if v14 ≠ 16 then (k18 m15)
else (mm_b1 (f_X12_wrong 2 m15) fun m30 =>
k18 m30))
else (mm_b1 (f_X12_wrong 1 m15) fun m32 =>
k18 m32))) : Option ((Int32 × mm_M) ⊕ ((mm_M))))) mm_fu (0, m)) (fun r => r_lh m r ∧ ((∃ w, z_cls B n 17 [] (fun _ => none) 0 = .inr w ∧ r 12 0 29 = 0 ∧ r_en r (z_enc w.1) ∧ r_sl r w.2) ∨ (∃ e, z_cls B n 17 [] (fun _ => none) 0 = .inl e ∧ r_e3 r e))) := by
  have i16 : (16 : Int32).toInt = 16 := by decide
  refine v_for (fun j s => r_lh m s.2 ∧ ((s.2 12 0 29 = 0 ∧ s.1.toInt = (j : Int) ∧ j ≤ 16 ∧ ∃ C sl p, p ≤ n ∧ C.length ≤ p ∧ r_at s.2 B n p ∧ r_en s.2 (z_enc C) ∧ r_sl s.2 sl ∧ z_cls B n 17 [] (fun _ => none) 0 = z_cls B n (17 - j) C sl p) ∨ (∃ e, z_cls B n 17 [] (fun _ => none) 0 = .inl e ∧ r_e3 s.2 e))) 0 17 (by omega) (by omega) ⟨r_lhr, Or.inl ⟨h29, i_0, by omega, [], fun _ => none, 0, Nat.zero_le n, Nat.le_refl 0, hat, ⟨h32, fun j e he => (by cases he)⟩, fun k hk => ⟨fun _ => h86 k hk, fun x hx => (by cases hx)⟩, rfl⟩⟩ ?_ ?_
  · rintro j ⟨v, m15⟩ hj ⟨hlh, hs⟩
    dsimp only at hlh hs ⊢
    rcases hs with ⟨k29, hv, hj16, C, sl, p, hp, hC, hae, hen, hse, hR⟩ | ⟨er, hx, her⟩
    · refine v_ifn (fun z => z k29) ?_
      have hkb := z_kd_b (B := B) (n := n) (p := p)
      obtain ⟨_, _, _, e0⟩ := z_rk_e (z_kd B n p) hkb
      have h24 := hae.2.2.2.2.1
      rw [show 17 - j = (16 - j) + 1 by omega] at hR
      by_cases h0 : z_kd B n p = 0
      · refine v_ifp (h24.trans (e0.mpr h0)) ?_
        exact v_ir ⟨hlh, Or.inl ⟨(C, sl), hR.trans (z_cls_0 h0), k29, hen, hse⟩⟩
      · refine v_ifn (fun z => h0 (e0.mp (h24.symm.trans z))) ?_
        refine v_s1 (r_w66 hae k29 hp) (fun r16 hr => ?_)
        have werr : ∀ x : Nat, 1 ≤ x ∧ x ≤ 3 → r_e3 (mm_w (mm_w m15 12 0 29 (Int32.ofNat x)) 12 0 30 (m15 12 0 27)) (x, z_ts B n p) := fun x hx => by
          refine ⟨hx, ?_, ?_⟩
          · rw [mw_k (by decide)]
            exact mw_s
          · rw [mw_s]
            exact hae.2.2.1
        have wlh : ∀ x : Nat, r_lh m (mm_w (mm_w m15 12 0 29 (Int32.ofNat x)) 12 0 30 (m15 12 0 27)) := fun x => r_lht hlh (r_lhl (r_lfS (fp_w rfl (fp_w rfl fp_rf))))
        refine v_lKm (fun m17 => (m17 = m15 ∧ j < 16 ∧ ∃ q, q < 4 ∧ r16 = Int32.ofNat q ∧ z_isC (z_kd B n p) ∧ z_ck (z_kd B n p) = q) ∨ (r_lh m m17 ∧ ∃ e, z_cls B n 17 [] (fun _ => none) 0 = .inl e ∧ r_e3 m17 e)) ?_ (fun k18 hk18 => ?_)
        · rintro m17 (⟨rfl, hj2, q, hq4, hr, hi1, hck⟩ | ⟨l17, er, hx, her⟩)
          · refine v_ifp k29 ?_
            refine v_l1 ?_
            obtain ⟨t1, t2, t3, t4⟩ := z_te_n (B := B) hp h0
            refine v_s1 (r_step hae.1 (z_te_b hp) hae.2.1) ?_
            rintro m21 ⟨f21, at21⟩
            have l21 : r_lh m m21 := r_lht hlh (r_lhl (r_lfS (fp_sb (by decide) f21)))
            have e21 : m21 12 0 29 = 0 := (f21 12 0 29 rfl).trans k29
            have en21 := r_en_fr f21 (by decide) hen
            have hI : (4 + r16).toInt = ((4 + q : Nat) : Int) := by
              rw [hr]
              exact iA_addN (show (4 : Int32).toInt = ((4 : Nat) : Int) by decide) (nJ_T (by omega)) (by omega)
            have iI : mm_in (4 + r16) 8 := v_in.mpr (by rw [hI]; omega)
            have kI := n_k hI
            refine v_ifp iI ?_
            refine v_lM ?_
            rw [show mm_w m21 81 0 (4 + r16).toNatClampNeg (m21 12 0 32) = mm_w m21 81 0 (4 + q) (Int32.ofNat (z_enc C).length) by rw [kI, en21.1]]
            have f22 : fp [(81, none, none)] m21 (mm_w m21 81 0 (4 + q) (Int32.ofNat (z_enc C).length)) := fp_w rfl fp_rf
            have l22 : r_lh m (mm_w m21 81 0 (4 + q) (Int32.ofNat (z_enc C).length)) := r_lhw (Or.inr ⟨Or.inl rfl, by omega⟩) l21
            have hX := (r_exp (B := B) (n := n) hn 16 0 0 (by omega) (by omega) rfl).1 C (mm_w m21 81 0 (4 + q) (Int32.ofNat (z_enc C).length)) (z_te B n p) t4 (by omega) ((f22 12 0 29 rfl).trans e21) (r_at_fr f22 (by decide) at21) (r_en_fr f22 (by decide) en21)
            have g81 : mm_w m21 81 0 (4 + q) (Int32.ofNat (z_enc C).length) 81 0 (4 + q) = Int32.ofNat (z_enc C).length := mw_s
            have sl22 : ∀ k, k < 4 → ¬ k = q → mm_w m21 81 0 (4 + q) (Int32.ofNat (z_enc C).length) 81 0 (4 + k) = m17 81 0 (4 + k) ∧ mm_w m21 81 0 (4 + q) (Int32.ofNat (z_enc C).length) 82 0 (4 + k) = m17 82 0 (4 + k) ∧ mm_w m21 81 0 (4 + q) (Int32.ofNat (z_enc C).length) 86 0 (4 + k) = m17 86 0 (4 + k) := fun k hk4 hkq => ⟨(mw_k (by omega)).trans (f21 81 0 _ rfl), (mw_g (by decide)).trans (f21 82 0 _ rfl), (mw_g (by decide)).trans (f21 86 0 _ rfl)⟩
            generalize mm_w m21 81 0 (4 + q) (Int32.ofNat (z_enc C).length) = m22 at l22 hX g81 sl22 ⊢
            refine v_s1 hX ?_
            rintro m24 ⟨l24, hs24⟩
            refine v_ifp iI ?_
            refine v_lM ?_
            refine v_ifp iI ?_
            refine v_lM ?_
            rw [show mm_w (mm_w m24 82 0 (4 + r16).toNatClampNeg (m24 12 0 32)) 86 0 (4 + r16).toNatClampNeg 1 = mm_w (mm_w m24 82 0 (4 + q) (m24 12 0 32)) 86 0 (4 + q) 1 by rw [kI]]
            have f26 : fp [(82, none, none), (86, none, none)] m24 (mm_w (mm_w m24 82 0 (4 + q) (m24 12 0 32)) 86 0 (4 + q) 1) := fp_w rfl (fp_w rfl fp_rf)
            have l26 : r_lh m (mm_w (mm_w m24 82 0 (4 + q) (m24 12 0 32)) 86 0 (4 + q) 1) := r_lhw (Or.inr ⟨Or.inr (Or.inr rfl), by omega⟩) (r_lhw (Or.inr ⟨Or.inr (Or.inl rfl), by omega⟩) (r_lht l22 (r_lhl l24)))
            have g82 : mm_w (mm_w m24 82 0 (4 + q) (m24 12 0 32)) 86 0 (4 + q) 1 82 0 (4 + q) = m24 12 0 32 := (mw_g (by decide)).trans mw_s
            have g86 : mm_w (mm_w m24 82 0 (4 + q) (m24 12 0 32)) 86 0 (4 + q) 1 86 0 (4 + q) = 1 := mw_s
            have g81b : mm_w (mm_w m24 82 0 (4 + q) (m24 12 0 32)) 86 0 (4 + q) 1 81 0 (4 + q) = Int32.ofNat (z_enc C).length := (mw_g (by decide)).trans ((mw_g (by decide)).trans ((l24 81 0 _ (fun z => by omega)).trans g81))
            have sl26 : ∀ k, k < 4 → ¬ k = q → mm_w (mm_w m24 82 0 (4 + q) (m24 12 0 32)) 86 0 (4 + q) 1 81 0 (4 + k) = m17 81 0 (4 + k) ∧ mm_w (mm_w m24 82 0 (4 + q) (m24 12 0 32)) 86 0 (4 + q) 1 82 0 (4 + k) = m17 82 0 (4 + k) ∧ mm_w (mm_w m24 82 0 (4 + q) (m24 12 0 32)) 86 0 (4 + q) 1 86 0 (4 + k) = m17 86 0 (4 + k) := fun k hk4 hkq => by
              obtain ⟨y1, y2, y3⟩ := sl22 k hk4 hkq
              refine ⟨?_, ?_, ?_⟩
              · rw [mw_g (by decide), mw_g (by decide), l24 81 0 _ (fun z => by omega)]
                exact y1
              · rw [mw_g (by decide), mw_k (by omega), l24 82 0 _ (fun z => by omega)]
                exact y2
              · rw [mw_k (by omega), mw_g (by decide), l24 86 0 _ (fun z => by omega)]
                exact y3
            generalize mm_w (mm_w m24 82 0 (4 + q) (m24 12 0 32)) 86 0 (4 + q) 1 = m26 at f26 l26 g82 g86 g81b sl26 ⊢
            have hf0 : ¬ 16 - j = 0 := by omega
            have hgr := z_gr_ex (B := B) (n := n) 6 (by omega) (z_te B n p) t4
            rcases hs24 with ⟨x, hx, j1, j2, j3⟩ | ⟨er, hx, j1⟩
            · have hx6 : z_exx B n 6 (z_te B n p) = .inr x := hx
              rw [hx6] at hgr
              obtain ⟨g1, g2, g3, g4⟩ := hgr
              have e4 := z_cls_4 (C := C) (sl := sl) h0 hi1 hf0 hx6
              rw [hck] at e4
              refine v_s1 (r_need (k := 59) (r_at_fr f26 (by decide) j3) ((f26 12 0 29 rfl).trans j1) g2 rfl (by omega)) ?_
              rintro m28 (⟨y1, y2, y3⟩ | ⟨y1, y2, y3, y4⟩)
              · rw [if_pos y1] at e4
                obtain ⟨u1, u2, u3, u4⟩ := z_te_n (B := B) g2 (by omega)
                refine v_il ⟨r_lht l26 (r_lhl (r_lfS (fp_sb (by decide) y2))), Or.inl ⟨(y2 12 0 29 rfl).trans ((f26 12 0 29 rfl).trans j1), n_s3 hv (by omega), by omega, C ++ x.1, z_ud sl q (C, x.1), z_te B n x.2, u4, by rw [List.length_append]; omega, y3, r_en_fr y2 (by decide) (r_en_fr f26 (by decide) j2), fun k hk4 => ?_, ?_⟩⟩
                · dsimp only
                  rw [y2 81 0 _ rfl, y2 82 0 _ rfl, y2 86 0 _ rfl]
                  by_cases hkq : k = q
                  · unfold z_ud
                    rw [if_pos hkq, hkq]
                    refine ⟨fun z => (by cases z), fun w hw => ?_⟩
                    rw [← Option.some.inj hw]
                    refine ⟨g86, g81b, ?_⟩
                    rw [g82, j2.1, z_enc_app, List.length_append]
                  · unfold z_ud
                    rw [if_neg hkq]
                    obtain ⟨y5, y6, y7⟩ := sl26 k hk4 hkq
                    rw [y5, y6, y7]
                    exact hse k hk4
                · rw [hR, e4, show 17 - (j + 1) = 16 - j by omega]
              · rw [if_neg y1] at e4
                exact v_il ⟨r_lht l26 (r_lhl (r_lfS (fp_sb (by decide) y2))), Or.inr ⟨_, hR.trans e4, by show 1 ≤ 1 ∧ 1 ≤ 3; omega, y3, y4⟩⟩
            · have her : r_e3 m26 er := ⟨j1.1, (f26 12 0 29 rfl).trans j1.2.1, (f26 12 0 30 rfl).trans j1.2.2⟩
              refine v_b1e (r_need0 (r_e3n her)) ?_
              exact v_il ⟨l26, Or.inr ⟨er, hR.trans (z_cls_3 h0 hi1 hf0 hx), her⟩⟩
          · refine v_ifn (r_e3n her) ?_
            exact v_il ⟨l17, Or.inr ⟨er, hx, her⟩⟩
        · rcases hr with ⟨q, hq4, hq, hr⟩ | ⟨hno, hr⟩
          · have hi1 : z_isC (z_kd B n p) := by
              unfold z_isC
              by_cases hq3 : q < 3
              · rw [if_pos hq3] at hq
                omega
              · rw [if_neg hq3] at hq
                omega
            have hck : z_ck (z_kd B n p) = q := by
              unfold z_ck
              by_cases hq3 : q < 3
              · rw [if_pos hq3] at hq
                rw [if_neg (by omega)]
                omega
              · rw [if_neg hq3] at hq
                rw [if_pos (by omega)]
                omega
            refine v_ifp (by rw [hr]; exact n_m1 (by omega)) ?_
            by_cases hjv : j = 16
            · refine v_ifn (fun z => z (by rw [iA_eq, hv, i16, hjv]; rfl)) ?_
              refine v_b1e (r_wr k29) ?_
              refine hk18 _ (Or.inr ⟨wlh 2, _, ?_, werr 2 (by omega)⟩)
              rw [hR, show 16 - j = 0 by omega]
              exact z_cls_2 h0 hi1
            · refine v_ifp (n_ne (by rw [hv, i16]; omega)) ?_
              exact hk18 m15 (Or.inl ⟨rfl, by omega, q, hq4, hr, hi1, hck⟩)
          · have hi1 : ¬ z_isC (z_kd B n p) := fun z => by
              unfold z_isC at z
              by_cases h260 : z_kd B n p = 260
              · exact hno 3 (by omega) (by rw [if_neg (by omega)]; omega)
              · exact hno (z_kd B n p - 256) (by omega) (by rw [if_pos (by omega)]; omega)
            refine v_ifn (fun z => z hr) ?_
            refine v_b1e (r_wr k29) ?_
            exact hk18 _ (Or.inr ⟨wlh 1, _, hR.trans (z_cls_1 h0 hi1), werr 1 (by omega)⟩)
    · refine v_ifp (r_e3n her) ?_
      exact v_ir ⟨hlh, Or.inr ⟨er, hx, her⟩⟩
  · rintro ⟨v, m15⟩ ⟨hlh, hs⟩
    dsimp only at hlh hs ⊢
    rcases hs with ⟨_, _, hj16, _⟩ | ⟨er, hx, her⟩
    · omega
    · refine v_ifp (r_e3n her) ?_
      exact v_ir ⟨hlh, Or.inr ⟨er, hx, her⟩⟩
