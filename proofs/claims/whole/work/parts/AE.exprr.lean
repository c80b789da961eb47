/-! expressions read by the reference -/
def r_lf (m r : mm_M) : Prop := ∀ g j k, ¬ ((g = 12 ∧ (k = 22 ∨ (24 ≤ k ∧ k ≤ 30) ∨ k = 32)) ∨ (g = 83 ∧ 800 ≤ k)) → r g j k = m g j k
theorem r_lfr {m : mm_M} : r_lf m m := fun _ _ _ _ => rfl
theorem r_lft {c d e : mm_M} (h1 : r_lf c d) (h2 : r_lf d e) : r_lf c e := fun g j k h => (h2 g j k h).trans (h1 g j k h)
theorem r_lfS {c d : mm_M} (h : fp zS8 c d) : r_lf c d := fun g j k h' => h g j k (z_inE (fun e he z => by
  have hz := z.2.2
  have h1 := z.1
  have fin : ∀ x : Nat, (x = 22 ∨ (24 ≤ x ∧ x ≤ 30)) → 12 = g → z_o (some x) k = true → False := fun x hx hg hk => h' (Or.inl ⟨hg.symm, by have := Nat.eq_of_beq_eq_true hk; omega⟩)
  rcases List.mem_cons.mp he with rfl | he
  · exact fin 22 (by omega) h1 hz
  rcases List.mem_cons.mp he with rfl | he
  · exact fin 24 (by omega) h1 hz
  rcases List.mem_cons.mp he with rfl | he
  · exact fin 25 (by omega) h1 hz
  rcases List.mem_cons.mp he with rfl | he
  · exact fin 26 (by omega) h1 hz
  rcases List.mem_cons.mp he with rfl | he
  · exact fin 27 (by omega) h1 hz
  rcases List.mem_cons.mp he with rfl | he
  · exact fin 28 (by omega) h1 hz
  rcases List.mem_cons.mp he with rfl | he
  · exact fin 29 (by omega) h1 hz
  rcases List.mem_cons.mp he with rfl | he
  · exact fin 30 (by omega) h1 hz
  cases he))
def r_en (m : mm_M) (L : List Int32) : Prop := m 12 0 32 = Int32.ofNat L.length ∧ ∀ j e, L[j]? = some e → m 83 0 (800 + j) = e
theorem r_en_fr {Z : zT} {m r : mm_M} {L : List Int32} (hf : fp Z m r) (hd : z_dis [(12, none, some 32), (83, none, none)] Z = true) (h : r_en m L) : r_en r L := ⟨(hf 12 0 32 (z_dis_of hd rfl)).trans h.1, fun j e he => (hf 83 0 _ (z_dis_of hd rfl)).trans (h.2 j e he)⟩
def r_e3 (m : mm_M) (e : zEr) : Prop := (1 ≤ e.1 ∧ e.1 ≤ 3) ∧ m 12 0 29 = Int32.ofNat e.1 ∧ m 12 0 30 = Int32.ofNat e.2
theorem r_e3n {m : mm_M} {e : zEr} (h : r_e3 m e) : ¬ m 12 0 29 = 0 := by
  rw [h.2.1]
  exact n_ne (by rw [nJ_T (by have := h.1; omega), i_0]; have := h.1; omega)
def r_ok (B : Nat → Nat) (n : Nat) (C : zCd) (m : mm_M) (o : zRs) (r : mm_M) : Prop := r_lf m r ∧ ((∃ x, o = .inr x ∧ r 12 0 29 = 0 ∧ r_en r (z_enc (C ++ x.1)) ∧ r_at r B n x.2) ∨ (∃ e, o = .inl e ∧ r_e3 r e))
theorem z_enc_2 : ∀ C : zCd, (z_enc C).length ≤ 2 * C.length
  | [] => Nat.le_refl _
  | e :: r => by
    have := z_enc_2 r
    show (z_en e ++ z_enc r).length ≤ 2 * (r.length + 1)
    rw [List.length_append]
    have h1 : (z_en e).length ≤ 2 := by
      unfold z_en
      split
      · exact Nat.le_refl 2
      split
      · exact Nat.le_succ 1
      · exact Nat.le_succ 1
    omega
theorem z_enc_1 (e : Int32 × Int32) : z_enc [e] = z_en e := List.append_nil _
theorem z_en_op {l k : Nat} (h : z_opl l k = true) : z_en (Int32.ofNat k, 0) = [z_op (Int32.ofNat k)] := by
  have hk := of_decide_eq_true h
  have e : (Int32.ofNat k).toInt = (k : Int) := nJ_T (by omega)
  unfold z_en
  rw [if_neg (fun z => by
    have h1 : Int32.ofNat k = 2 := z
    have := iA_eq.mp h1
    rw [e, show (2 : Int32).toInt = 2 by decide] at this
    omega), if_neg (fun z => by
    have h1 : 264 ≤ (Int32.ofNat k).toInt := z.1
    rw [e] at h1
    omega)]
theorem r_emit {m : mm_M} {L : List Int32} {a : Int32} (h29 : m 12 0 29 = 0) (h : r_en m L) (hl : L.length < 800) : vW (f_X12_emit a m) (fun r => r_lf m r ∧ r 12 0 29 = 0 ∧ r_en r (L ++ [a]) ∧ fp [(12, none, some 32), (83, none, none)] m r) := by
  have hI : (800 + m 12 0 32).toInt = ((800 + L.length : Nat) : Int) := by
    rw [h.1]
    exact iA_addN (show (800 : Int32).toInt = ((800 : Nat) : Int) by decide) (nJ_T (by omega)) (by omega)
  unfold f_X12_emit
  refine v_ifp h29 ?_
  refine v_ifp (v_in.mpr (by rw [hI]; omega)) ?_
  rw [n_k hI]
  refine v_lM ?_
  rw [show mm_w m 83 0 (800 + L.length) a 12 0 32 + 1 = Int32.ofNat (L.length + 1) by rw [mw_g (by decide), h.1, n_a1]]
  refine v_lM ?_
  refine v_so ⟨fun g j k hh => ?_, ?_, ⟨?_, fun j e he => ?_⟩, fp_w rfl (fp_w rfl fp_rf)⟩
  · rw [mw_get, if_neg (fun z => hh (by omega)), mw_get, if_neg (fun z => hh (by omega))]
  · rw [mw_k (by decide), mw_g (by decide)]
    exact h29
  · rw [mw_s, List.length_append]
    rfl
  · rw [mw_g (by decide)]
    by_cases hj : j < L.length
    · rw [List.getElem?_append_left hj] at he
      rw [mw_k (by omega)]
      exact h.2 j e he
    · rw [List.getElem?_append_right (by omega)] at he
      have hje : j = L.length := by
        by_cases hje : j = L.length
        · exact hje
        · obtain ⟨k, hk⟩ : ∃ k, j - L.length = k + 1 := ⟨j - L.length - 1, by omega⟩
          rw [hk] at he
          cases he
      rw [hje, Nat.sub_self] at he
      rw [hje, mw_s]
      exact Option.some.inj he
theorem r_emit0 {m : mm_M} {a : Int32} (h29 : ¬ m 12 0 29 = 0) : f_X12_emit a m = some m := v_is (by
  unfold f_X12_emit
  exact v_ifn h29 (v_so rfl))
theorem r_isZ {m : mm_M} {i : Nat} (h29 : ¬ m 12 0 29 = 0) : f_X12_is i m = some 0 := v_is (by
  unfold f_X12_is
  refine v_ifp h29 ?_
  refine v_s1 (P := fun r => r = 0) ?_ (fun r hr => v_ifp (Or.inl hr) (v_so hr))
  refine v_for (fun _ s => s.1 = 0) 0 0 (Nat.le_refl 0) (by omega) rfl (fun j s hj => absurd hj (Nat.not_lt_zero j)) ?_
  rintro ⟨x, y⟩ hx
  dsimp only at hx ⊢
  exact v_ifp hx (v_ir hx))
/-- a function that reads as told -/
def r_S (B : Nat → Nat) (n : Nat) (F : mm_M → Option mm_M) (g : Nat → zRs) : Prop := (∀ C m p, p ≤ n → C.length ≤ p → m 12 0 29 = 0 → r_at m B n p → r_en m (z_enc C) → vW (F m) (r_ok B n C m (g p))) ∧ ∀ m, ¬ m 12 0 29 = 0 → F m = some m
/-- a loop over operators -/
theorem r_loop {B : Nat → Nat} {n l : Nat} {F : mm_M → Option mm_M} {g : Nat → zRs} {st : mm_M → Option (mm_M ⊕ mm_M)} (hn : n ≤ 400) (hF : r_S B n F g) (hg : ∀ p, p ≤ n → z_gr n 0 p (g p)) (ha : ∀ m p, p ≤ n → m 12 0 29 = 0 → r_at m B n p → ¬ z_opl l (z_kd B n p) = true → st m = some (.inr m)) (hb : ∀ m p (Q : mm_M ⊕ mm_M → Prop), p ≤ n → m 12 0 29 = 0 → r_at m B n p → z_opl l (z_kd B n p) = true → (∀ m1, fp zSt m m1 → r_at m1 B n (z_te B n p) → vW (F m1) (fun m2 => vW (f_X12_emit (z_op (Int32.ofNat (z_kd B n p))) m2) (fun m3 => Q (.inl m3)))) → vW (st m) Q) (hc : ∀ m, ¬ m 12 0 29 = 0 → st m = some (.inr m)) {C cd : zCd} {m : mm_M} {p : Nat} (hp : p ≤ n) (hlen : (C ++ cd).length ≤ p) (h29 : m 12 0 29 = 0) (hat : r_at m B n p) (hen : r_en m (z_enc (C ++ cd))) : vW (mm_loop st mm_fu m) (r_ok B n C m (z_lp B n l g 400 cd p)) := by
  refine v_loop (fun s => if s 12 0 29 = 0 then (n + 1 - (s 12 0 22).toInt.toNat) + 1 else 0) (fun s => r_lf m s ∧ ((s 12 0 29 = 0 ∧ ∃ k cd' p', n ≤ k + p' ∧ p' ≤ n ∧ (C ++ cd').length ≤ p' ∧ r_at s B n p' ∧ r_en s (z_enc (C ++ cd')) ∧ z_lp B n l g 400 cd p = z_lp B n l g k cd' p') ∨ (∃ e, z_lp B n l g 400 cd p = .inl e ∧ r_e3 s e))) ⟨r_lfr, Or.inl ⟨h29, 400, cd, p, by omega, hp, hlen, hat, hen, rfl⟩⟩ ?_ ?_
  · split <;> omega
  · rintro s ⟨hlf, hs⟩
    rcases hs with ⟨hs29, k, cd', p', hk, hp', hl', hat', hen', hR⟩ | ⟨e, hR, her⟩
    · by_cases ho : z_opl l (z_kd B n p') = true
      · have hk0 : ¬ z_kd B n p' = 0 := fun z => by
          have := of_decide_eq_true ho
          omega
        obtain ⟨t1, t2, t3, t4⟩ := z_te_n (B := B) hp' hk0
        obtain ⟨k', hk'⟩ : ∃ k', k = k' + 1 := ⟨k - 1, by omega⟩
        rw [hk'] at hR
        refine hb s p' _ hp' hs29 hat' ho (fun m1 hf1 hat1 => ?_)
        have h291 : m1 12 0 29 = 0 := (hf1 12 0 29 rfl).trans hs29
        refine v_mono (hF.1 (C ++ cd') m1 (z_te B n p') t4 (by omega) h291 hat1 (r_en_fr hf1 (by decide) hen')) (fun m2 h2 => ?_)
        obtain ⟨hlf2, h2⟩ := h2
        have hlfm : r_lf m m2 := r_lft hlf (r_lft (r_lfS (fp_sb (by decide) hf1)) hlf2)
        rcases h2 with ⟨x, hx, j1, j2, j3⟩ | ⟨er, hx, j1⟩
        · have hgr := hg (z_te B n p') t4
          rw [hx] at hgr
          obtain ⟨g1, g2, g3, g4⟩ := hgr
          have hl2 : (C ++ cd' ++ x.1).length + 1 ≤ x.2 := by
            rw [List.length_append]
            omega
          have h2l := z_enc_2 (C ++ cd' ++ x.1)
          refine v_mono (r_emit j1 j2 (by omega)) (fun m3 h3 => ?_)
          obtain ⟨y1, y2, y3, y4⟩ := h3
          refine v_pl.mpr ⟨⟨r_lft hlfm y1, Or.inl ⟨y2, k', cd' ++ x.1 ++ [(Int32.ofNat (z_kd B n p'), 0)], x.2, by omega, g2, ?_, r_at_fr y4 (by decide) j3, ?_, ?_⟩⟩, ?_⟩
          · rw [← List.append_assoc, ← List.append_assoc, List.length_append]
            exact hl2
          · rw [← List.append_assoc, ← List.append_assoc, z_enc_app, z_enc_1, z_en_op ho]
            exact y3
          · rw [hR]
            exact z_lp_s ho hx
          · have e1 : m3 12 0 22 = Int32.ofNat (z_te B n x.2) := (r_at_fr y4 (by decide) j3).2.1
            have e2 : s 12 0 22 = Int32.ofNat (z_te B n p') := hat'.2.1
            have b1 := z_te_b (B := B) g2
            have b2 : x.2 ≤ z_te B n x.2 := by
              by_cases hz : z_kd B n x.2 = 0
              · have := (z_end0 g2 hz).1
                omega
              · have := z_te_n (B := B) g2 hz
                omega
            rw [if_pos y2, if_pos hs29, e1, e2, nJ_T (by omega), nJ_T (by omega)]
            omega
        · refine v_of (r_emit0 (r_e3n j1)) ?_
          refine v_pl.mpr ⟨⟨hlfm, Or.inr ⟨er, ?_, j1⟩⟩, ?_⟩
          · rw [hR]
            exact z_lp_e ho hx
          · rw [if_neg (r_e3n j1), if_pos hs29]
            omega
      · refine v_of (ha s p' hp' hs29 hat' ho) ?_
        refine v_pr.mpr ⟨hlf, Or.inl ⟨(cd', p'), ?_, hs29, hen', hat'⟩⟩
        rw [hR]
        exact z_lp_n ho
    · refine v_of (hc s (r_e3n her)) ?_
      exact v_pr.mpr ⟨hlf, Or.inr ⟨e, hR, her⟩⟩
theorem r_loop0 {st : mm_M → Option (mm_M ⊕ mm_M)} (hc : ∀ m, ¬ m 12 0 29 = 0 → st m = some (.inr m)) {m : mm_M} (h29 : ¬ m 12 0 29 = 0) : mm_loop st mm_fu m = some m := v_is (by
  refine v_for (fun _ s => s = m) 0 0 (Nat.le_refl 0) (by omega) rfl (fun j s hj => absurd hj (Nat.not_lt_zero j)) ?_
  rintro s hs
  rw [hs, hc m h29]
  exact v_ir rfl)
/-- a chain: an operand, then the loop -/
theorem r_cn {B : Nat → Nat} {n l : Nat} {F G : mm_M → Option mm_M} {g : Nat → zRs} {st : mm_M → Option (mm_M ⊕ mm_M)} (hn : n ≤ 400) (hF : r_S B n F g) (hg : ∀ p, p ≤ n → z_gr n 0 p (g p)) (ha : ∀ m p, p ≤ n → m 12 0 29 = 0 → r_at m B n p → ¬ z_opl l (z_kd B n p) = true → st m = some (.inr m)) (hb : ∀ m p (Q : mm_M ⊕ mm_M → Prop), p ≤ n → m 12 0 29 = 0 → r_at m B n p → z_opl l (z_kd B n p) = true → (∀ m1, fp zSt m m1 → r_at m1 B n (z_te B n p) → vW (F m1) (fun m2 => vW (f_X12_emit (z_op (Int32.ofNat (z_kd B n p))) m2) (fun m3 => Q (.inl m3)))) → vW (st m) Q) (hc : ∀ m, ¬ m 12 0 29 = 0 → st m = some (.inr m)) (hG : ∀ m, G m = mm_b1 (F m) fun m2 => mm_b1 (mm_loop st mm_fu m2) fun m12 => some m12) : r_S B n G (z_cn B n l g 400) := by
  refine ⟨fun C m p hp hC h29 hat hen => ?_, fun m h29 => ?_⟩
  · rw [hG]
    refine v_s1 (hF.1 C m p hp hC h29 hat hen) (fun m2 h2 => ?_)
    obtain ⟨hlf, h2⟩ := h2
    rcases h2 with ⟨x, hx, j1, j2, j3⟩ | ⟨er, hx, j1⟩
    · have hgr := hg p hp
      rw [hx] at hgr
      obtain ⟨g1, g2, g3, g4⟩ := hgr
      refine v_s1 (r_loop hn hF hg ha hb hc (C := C) (cd := x.1) (p := x.2) g2 (by rw [List.length_append]; omega) j1 j3 j2) (fun r hr => v_so ?_)
      rw [z_cn_s hx]
      exact ⟨r_lft hlf hr.1, hr.2⟩
    · refine v_b1e (r_loop0 hc (r_e3n j1)) (v_so ⟨hlf, Or.inr ⟨er, ?_, j1⟩⟩)
      exact z_cn_e hx
  · rw [hG]
    apply v_is
    refine v_b1e (hF.2 m h29) ?_
    exact v_b1e (r_loop0 hc h29) (v_so rfl)
theorem z_opl_2 {l k a b : Nat} (hl : (l = 4 ∧ a = 43 ∧ b = 45) ∨ (l = 5 ∧ a = 42 ∧ b = 47)) : z_opl l k = true ↔ k = a ∨ k = b := by
  unfold z_opl
  rw [decide_eq_true_eq]
  omega
/-- the loop of readSum and of readProduct -/
theorem r_cn2 {B : Nat → Nat} {n l a b : Nat} {wa wb : Int32} {F G : mm_M → Option mm_M} {g : Nat → zRs} (hn : n ≤ 400) (hF : r_S B n F g) (hg : ∀ p, p ≤ n → z_gr n 0 p (g p)) (hl : (l = 4 ∧ a = 43 ∧ b = 45) ∨ (l = 5 ∧ a = 42 ∧ b = 47)) (hwa : wa = z_op (Int32.ofNat a)) (hwb : wb = z_op (Int32.ofNat b)) (hG : ∀ m, G m = mm_b1 (F m) fun m2 => mm_b1 (mm_loop (σ := mm_M) (ρ := mm_M) (fun (m4 : mm_M) => (mm_b1 (f_X12_isSign (Int32.ofNat a) m4) fun r5 =>
mm_let ((mm_b1 (f_X12_isSign (Int32.ofNat a) m4) fun r7 =>
mm_let (fun (w8 : Int32) => (mm_b1 (f_X12_step m4) fun m11 =>
mm_b1 (F m11) fun m13 =>
mm_b1 (f_X12_emit w8 m13) fun m15 =>
some (.inl m15) : Option ((mm_M) ⊕ ((mm_M))))) fun k9 =>
if r7 = 0 then (k9 wb)
else (k9 wa) : Option ((mm_M) ⊕ ((mm_M))))) fun k6 =>
if r5 ≠ 0 then (k6)
else (mm_b1 (f_X12_isSign (Int32.ofNat b) m4) fun r16 =>
if r16 = 0 then (some (.inr m4))
else (k6)) : Option ((mm_M) ⊕ ((mm_M))))) mm_fu m2) fun m12 => some m12) : r_S B n G (z_cn B n l g 400) := by
  have hab : 4 ≤ a ∧ a < 256 ∧ 4 ≤ b ∧ b < 256 ∧ ¬ a = b := by omega
  refine r_cn hn hF hg (fun m p hp h29 hat ho => v_is ?_) (fun m p Q hp h29 hat ho hk => ?_) (fun m h29 => v_is ?_) hG
  · have hno : ¬ z_kd B n p = a ∧ ¬ z_kd B n p = b := by
      rw [z_opl_2 hl] at ho
      exact ⟨fun z => ho (Or.inl z), fun z => ho (Or.inr z)⟩
    refine v_b1e (r_isS hat h29 rfl ⟨hab.1, hab.2.1⟩) ?_
    refine v_lO ?_
    refine v_ifn (by rw [if_neg hno.1]; decide) ?_
    refine v_b1e (r_isS hat h29 rfl ⟨hab.2.2.1, hab.2.2.2.1⟩) ?_
    exact v_ifp (by rw [if_neg hno.2]) (v_so rfl)
  · rw [z_opl_2 hl] at ho
    have k9 : ∀ w, w = z_op (Int32.ofNat (z_kd B n p)) → vW (mm_b1 (f_X12_step m) fun m11 => mm_b1 (F m11) fun m13 => mm_b1 (f_X12_emit w m13) fun m15 => some (.inl m15)) Q := fun w hw => by
      refine v_s1 (r_step hat.1 (z_te_b hp) hat.2.1) (fun m1 h1 => ?_)
      have := hk m1 h1.1 h1.2
      rw [hw]
      refine v_b1.mpr (v_mono this (fun m2 h2 => ?_))
      exact v_b1.mpr (v_mono h2 (fun m3 h3 => v_so h3))
    have k6 : vW (mm_b1 (f_X12_isSign (Int32.ofNat a) m) fun r7 =>
mm_let (fun (w8 : Int32) => (mm_b1 (f_X12_step m) fun m11 =>
mm_b1 (F m11) fun m13 =>
mm_b1 (f_X12_emit w8 m13) fun m15 =>
some (.inl m15) : Option ((mm_M) ⊕ ((mm_M))))) fun k9 =>
if r7 = 0 then (k9 wb) else (k9 wa)) Q := by
      refine v_b1e (r_isS hat h29 rfl ⟨hab.1, hab.2.1⟩) ?_
      refine v_lF ?_
      by_cases he : z_kd B n p = a
      · refine v_ifn (by rw [if_pos he]; decide) ?_
        exact k9 wa (by rw [hwa, he])
      · refine v_ifp (by rw [if_neg he]) ?_
        exact k9 wb (by rw [hwb, show z_kd B n p = b by omega])
    refine v_b1e (r_isS hat h29 rfl ⟨hab.1, hab.2.1⟩) ?_
    refine v_lO ?_
    by_cases he : z_kd B n p = a
    · exact v_ifp (by rw [if_pos he]; decide) k6
    · refine v_ifn (by rw [if_neg he]; decide) ?_
      refine v_b1e (r_isS hat h29 rfl ⟨hab.2.2.1, hab.2.2.2.1⟩) ?_
      exact v_ifn (by rw [if_pos (show z_kd B n p = b by omega)]; decide) k6
  · refine v_b1e (r_isS0 h29) ?_
    refine v_lO ?_
    refine v_ifn (fun z => z rfl) ?_
    refine v_b1e (r_isS0 h29) ?_
    exact v_ifp rfl (v_so rfl)
/-- the loop of readAnd and of readExpression -/
theorem r_cn1 {B : Nat → Nat} {n l q i : Nat} {w : Int32} {F G : mm_M → Option mm_M} {g : Nat → zRs} (hn : n ≤ 400) (hF : r_S B n F g) (hg : ∀ p, p ≤ n → z_gr n 0 p (g p)) (hl : (l = 0 ∧ q = 5) ∨ (l = 1 ∧ q = 6)) (hi : i < 29) (ht : z_tx i = z_tx (13 + q)) (hw : w = z_op (Int32.ofNat (256 + q))) (hG : ∀ m, G m = mm_b1 (F m) fun m2 => mm_b1 (mm_loop (σ := mm_M) (ρ := mm_M) (fun (m4 : mm_M) => (mm_b1 (f_X12_is i m4) fun r5 =>
if r5 = 0 then (some (.inr m4))
else (mm_b1 (f_X12_step m4) fun m7 =>
mm_b1 (F m7) fun m9 =>
mm_b1 (f_X12_emit w m9) fun m11 =>
some (.inl m11)) : Option ((mm_M) ⊕ ((mm_M))))) mm_fu m2) fun m12 => some m12) : r_S B n G (z_cn B n l g 400) := by
  have hop : ∀ k, z_opl l k = true ↔ k = 256 + q := fun k => by
    unfold z_opl
    rw [decide_eq_true_eq]
    omega
  refine r_cn hn hF hg (fun m p hp h29 hat ho => v_is ?_) (fun m p Q hp h29 hat ho hk => ?_) (fun m h29 => v_is ?_) hG
  · rw [hop] at ho
    refine v_b1e (r_isW hat h29 hp hi (by omega) ht) ?_
    exact v_ifp (by rw [if_neg ho]) (v_so rfl)
  · rw [hop] at ho
    refine v_b1e (r_isW hat h29 hp hi (by omega) ht) ?_
    refine v_ifn (by rw [if_pos ho]; decide) ?_
    refine v_s1 (r_step hat.1 (z_te_b hp) hat.2.1) (fun m1 h1 => ?_)
    have := hk m1 h1.1 h1.2
    rw [ho] at this
    rw [hw]
    refine v_b1.mpr (v_mono this (fun m2 h2 => ?_))
    exact v_b1.mpr (v_mono h2 (fun m3 h3 => v_so h3))
  · refine v_b1e (r_isZ h29) ?_
    exact v_ifp rfl (v_so rfl)
