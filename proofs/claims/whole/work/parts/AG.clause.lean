/-! clauses of a law -/
abbrev zSl : Type := Nat → Option (zCd × zCd)
def z_ud (sl : zSl) (q : Nat) (x : zCd × zCd) : zSl := fun k => if k = q then some x else sl k
def z_ck (k : Nat) : Nat := if k = 260 then 3 else k - 256
def z_isC (k : Nat) : Prop := k = 260 ∨ (256 ≤ k ∧ k ≤ 258)
theorem z_ck4 {k : Nat} (h : z_isC k) : z_ck k < 4 := by
  unfold z_ck
  unfold z_isC at h
  split <;> omega
abbrev zCr : Type := zEr ⊕ (zCd × zSl)
noncomputable def z_cls (B : Nat → Nat) (n : Nat) : Nat → zCd → zSl → Nat → zCr
  | 0, _, _, _ => .inl (0, 0)
  | f + 1, C, sl, p => if z_kd B n p = 0 then .inr (C, sl) else if ¬ (z_kd B n p = 260 ∨ (256 ≤ z_kd B n p ∧ z_kd B n p ≤ 258)) then .inl (1, z_ts B n p) else if f = 0 then .inl (2, z_ts B n p) else match z_exx B n 6 (z_te B n p) with
    | .inl e => .inl e
    | .inr x => if z_kd B n x.2 = 59 then z_cls B n f (C ++ x.1) (z_ud sl (z_ck (z_kd B n p)) (C, x.1)) (z_te B n x.2) else .inl (1, z_ts B n x.2)
theorem z_cls_0 {B : Nat → Nat} {n f p : Nat} {C : zCd} {sl : zSl} (h : z_kd B n p = 0) : z_cls B n (f + 1) C sl p = .inr (C, sl) := if_pos h
theorem z_cls_1 {B : Nat → Nat} {n f p : Nat} {C : zCd} {sl : zSl} (h : ¬ z_kd B n p = 0) (h2 : ¬ z_isC (z_kd B n p)) : z_cls B n (f + 1) C sl p = .inl (1, z_ts B n p) := (if_neg h).trans (if_pos h2)
theorem z_cls_2 {B : Nat → Nat} {n p : Nat} {C : zCd} {sl : zSl} (h : ¬ z_kd B n p = 0) (h2 : z_isC (z_kd B n p)) : z_cls B n (0 + 1) C sl p = .inl (2, z_ts B n p) := (if_neg h).trans ((if_neg (fun z => z h2)).trans (if_pos rfl))
theorem z_cls_3 {B : Nat → Nat} {n f p : Nat} {C : zCd} {sl : zSl} (h : ¬ z_kd B n p = 0) (h2 : z_isC (z_kd B n p)) (h3 : ¬ f = 0) {e : zEr} (he : z_exx B n 6 (z_te B n p) = .inl e) : z_cls B n (f + 1) C sl p = .inl e := by
  refine (if_neg h).trans ((if_neg (fun z => z h2)).trans ((if_neg h3).trans ?_))
  rw [he]
theorem z_cls_4 {B : Nat → Nat} {n f p : Nat} {C : zCd} {sl : zSl} (h : ¬ z_kd B n p = 0) (h2 : z_isC (z_kd B n p)) (h3 : ¬ f = 0) {x : zCd × Nat} (he : z_exx B n 6 (z_te B n p) = .inr x) : z_cls B n (f + 1) C sl p = if z_kd B n x.2 = 59 then z_cls B n f (C ++ x.1) (z_ud sl (z_ck (z_kd B n p)) (C, x.1)) (z_te B n x.2) else .inl (1, z_ts B n x.2) := by
  refine (if_neg h).trans ((if_neg (fun z => z h2)).trans ((if_neg h3).trans ?_))
  rw [he]
def z_gs (C : zCd) (sl : zSl) : Prop := ∀ k x, sl k = some x → (∃ R, C = x.1 ++ x.2 ++ R) ∧ z_dep x.2 0 = some 1
theorem z_gs_u {C : zCd} {sl : zSl} {q : Nat} {cd : zCd} (h : z_gs C sl) (hd : z_dep cd 0 = some 1) : z_gs (C ++ cd) (z_ud sl q (C, cd)) := fun k x hx => by
  unfold z_ud at hx
  by_cases hk : k = q
  · rw [if_pos hk] at hx
    rw [← Option.some.inj hx]
    exact ⟨⟨[], (List.append_nil _).symm⟩, hd⟩
  · rw [if_neg hk] at hx
    obtain ⟨⟨R, hR⟩, h2⟩ := h k x hx
    exact ⟨⟨R ++ cd, by rw [hR, List.append_assoc]⟩, h2⟩
theorem z_cls_b {B : Nat → Nat} {n : Nat} : ∀ (f : Nat) (C : zCd) (sl : zSl) (p : Nat) (r : zCd × zSl), p ≤ n → C.length ≤ p → z_gs C sl → z_cls B n f C sl p = .inr r → z_gs r.1 r.2 ∧ r.1.length ≤ n
  | 0, C, sl, p, r, _, _, _, h => by cases h
  | f + 1, C, sl, p, r, hp, hC, hg, h => by
    by_cases h0 : z_kd B n p = 0
    · rw [z_cls_0 h0] at h
      rw [← Sum.inr.inj h]
      exact ⟨hg, by show C.length ≤ n; omega⟩
    by_cases h1 : z_isC (z_kd B n p)
    · by_cases hf : f = 0
      · rw [hf, z_cls_2 h0 h1] at h
        cases h
      · obtain ⟨t1, t2, t3, t4⟩ := z_te_n (B := B) hp h0
        have hgr := z_gr_ex (B := B) (n := n) 6 (by omega) (z_te B n p) t4
        cases he : z_exx B n 6 (z_te B n p) with
        | inl e =>
          rw [z_cls_3 h0 h1 hf he] at h
          cases h
        | inr x =>
          rw [he] at hgr
          obtain ⟨g1, g2, g3, g4⟩ := hgr
          rw [z_cls_4 h0 h1 hf he] at h
          by_cases h59 : z_kd B n x.2 = 59
          · rw [if_pos h59] at h
            obtain ⟨u1, u2, u3, u4⟩ := z_te_n (B := B) g2 (by omega)
            exact z_cls_b f _ _ _ r u4 (by rw [List.length_append]; omega) (z_gs_u hg (g4 0 (Nat.zero_le _))) h
          · rw [if_neg h59] at h
            cases h
    · rw [z_cls_1 h0 h1] at h
      cases h
/-! the class -/
def c_lg (i : Nat) (c r : mm_M) : Prop := ∀ g j k, ¬ ((g = 1 ∧ 6 ≤ k ∧ k ≤ 10) ∨ (j = i ∧ ((g = 2 ∧ k = 2) ∨ (19 ≤ g ∧ g ≤ 22)))) → r g j k = c g j k
theorem c_lgr {i : Nat} {c : mm_M} : c_lg i c c := fun _ _ _ _ => rfl
theorem c_lgt {i : Nat} {c d e : mm_M} (h1 : c_lg i c d) (h2 : c_lg i d e) : c_lg i c e := fun g j k h => (h2 g j k h).trans (h1 g j k h)
theorem c_lgl {i : Nat} {c d : mm_M} (h : c_lf i c d) : c_lg i c d := fun g j k hh => h g j k (fun z => hh (by omega))
theorem c_lgw {i g k : Nat} {c d : mm_M} {x : Int32} (h : (g = 2 ∧ k = 2) ∨ (19 ≤ g ∧ g ≤ 22)) (h1 : c_lg i c d) : c_lg i c (mm_w d g i k x) := fun g' j' k' h' => by
  rw [mw_get, if_neg (fun z => h' (Or.inr ⟨z.2.1, by rw [z.1, z.2.2]; exact h⟩))]
  exact h1 g' j' k' h'
def c_sl (c : mm_M) (i : Nat) (sl : zSl) : Prop := ∀ k, k < 4 → (sl k = none → c 21 i k = -1) ∧ ∀ x, sl k = some x → c 21 i k = Int32.ofNat x.1.length ∧ c 22 i k = Int32.ofNat (x.1.length + x.2.length)
theorem c_ckd {k : Nat} {a : Int32} {m : mm_M} (ha : a = Int32.ofNat k) (hk : k ≤ 268) : vW (f_X3_clauseKind a m) (fun r => (z_isC k ∧ r = Int32.ofNat (z_ck k)) ∨ (¬ z_isC k ∧ r = -1)) := by
  have i256 : (256 : Int32).toInt = 256 := by decide
  have i258 : (258 : Int32).toInt = 258 := by decide
  have hI : a.toInt = (k : Int) := by rw [ha, nJ_T (by omega)]
  unfold f_X3_clauseKind z_isC z_ck
  by_cases h260 : k = 260
  · refine v_ifn (fun z => z (by rw [ha, h260]; rfl)) (v_so (Or.inl ⟨Or.inl h260, ?_⟩))
    rw [if_pos h260]
    rfl
  refine v_ifp (by rw [ha]; exact fun z => h260 ((n_eq (b := 260) (by omega) (by omega)).mp z)) ?_
  by_cases h1 : k < 256
  · exact v_ifp (by rw [iA_lt, i256, hI]; omega) (v_so (Or.inr ⟨by omega, rfl⟩))
  refine v_ifn (by rw [iA_lt, i256, hI]; omega) ?_
  by_cases h2 : 258 < k
  · exact v_ifp (by rw [iA_lt, i258, hI]; omega) (v_so (Or.inr ⟨by omega, rfl⟩))
  · refine v_ifn (by rw [iA_lt, i258, hI]; omega) (v_so (Or.inl ⟨by omega, ?_⟩))
    rw [if_neg h260, ha]
    show Int32.ofNat k - Int32.ofNat 256 = _
    rw [n_sb (by omega)]
theorem c_clause {B : Nat → Nat} {n i f p : Nat} {C : zCd} {sl : zSl} {c : mm_M} {a : Int32} (hn : n ≤ 400) (hp : p ≤ n) (hC : C.length ≤ p) (h0 : ¬ z_kd B n p = 0) (hat : c_at c B n p) (hcd : c_cd c i C) (hsl : c_sl c i sl) (ha : a.toInt = (16 : Int) - (f : Int)) (hf : f ≤ 16) : vW (f_X3_readClause i a c) (fun t => c_lg i c t.2 ∧ ((∃ C' sl' p', t.1 = 1 ∧ p' ≤ n ∧ C'.length ≤ p' ∧ c_at t.2 B n p' ∧ c_cd t.2 i C' ∧ c_sl t.2 i sl' ∧ 0 < f ∧ z_cls B n (f + 1) C sl p = z_cls B n f C' sl' p') ∨ (∃ e, t.1 = 0 ∧ z_cls B n (f + 1) C sl p = .inl e ∧ t.2 1 0 9 = Int32.ofNat e.1 ∧ t.2 1 0 10 = Int32.ofNat e.2))) := by
  have hkb := z_kd_b (B := B) (n := n) (p := p)
  have hk := (c_kd hat).1
  have i16 : (16 : Int32).toInt = 16 := by decide
  have rf : ∀ x : Nat, z_cls B n (f + 1) C sl p = .inl (x, z_ts B n p) → vW (mm_b2 (f_X9_refuse (Int32.ofNat x) c) fun r11 m12 => if r11 = 0 ∨ r11 = 1 then some (r11, m12) else none) (fun t => c_lg i c t.2 ∧ ((∃ C' sl' p', t.1 = 1 ∧ p' ≤ n ∧ C'.length ≤ p' ∧ c_at t.2 B n p' ∧ c_cd t.2 i C' ∧ c_sl t.2 i sl' ∧ 0 < f ∧ z_cls B n (f + 1) C sl p = z_cls B n f C' sl' p') ∨ (∃ e, t.1 = 0 ∧ z_cls B n (f + 1) C sl p = .inl e ∧ t.2 1 0 9 = Int32.ofNat e.1 ∧ t.2 1 0 10 = Int32.ofNat e.2))) := fun x hx => by
    refine v_s2 (c_rfs hat) ?_
    rintro r d ⟨h1, h2, h3, h4⟩
    dsimp only at h1 h2 h3 h4
    exact v_ifp (Or.inl h1) (v_so ⟨c_lgl (c_lfE h2), Or.inr ⟨_, h1, hx, h3, h4⟩⟩)
  unfold f_X3_readClause
  refine v_s1 (c_ckd hk hkb) (fun r1 hr1 => ?_)
  rcases hr1 with ⟨hi1, hr1⟩ | ⟨hi1, hr1⟩
  · have hq4 := z_ck4 hi1
    refine v_ifp (by rw [hr1]; exact n_m1 (by omega)) ?_
    by_cases hf0 : f = 0
    · refine v_ifn (by rw [iA_lt, i16, ha, hf0]; omega) ?_
      refine rf 2 ?_
      rw [hf0]
      exact z_cls_2 h0 hi1
    · refine v_ifp (by rw [iA_lt, i16, ha]; omega) ?_
      obtain ⟨t1, t2, t3, t4⟩ := z_te_n (B := B) hp h0
      refine v_s1 (c_adv hp hat) ?_
      rintro m3 ⟨f3, at3⟩
      have cd3 := c_cd_fr f3 (by decide) hcd
      refine v_lI (fun v4 hv4 => ?_)
      have ev4 : v4 = Int32.ofNat C.length := hv4.trans cd3.1
      clear hv4
      have sl3 : c_sl m3 i sl := fun k hk4 => by
        rw [f3 21 i k rfl, f3 22 i k rfl]
        exact hsl k hk4
      have hgr := z_gr_ex (B := B) (n := n) 6 (by omega) (z_te B n p) t4
      refine v_s2 (P := c_ok B n i C m3 (z_exx B n 6 (z_te B n p))) ?_ ?_
      · unfold f_X3_readExpression
        refine v_ifp (by decide) ?_
        refine v_s2 (c_chain (B := B) (n := n) (i := i) hn 64 0 0 C m3 (z_te B n p) 0 0 (by omega) (by omega) (by omega) rfl rfl t4 (by omega) at3 cd3) ?_
        rintro r1 m2 ⟨h1, h2⟩
        dsimp only at h1 h2
        rcases h2 with ⟨x, hx, j1, j2, j3⟩ | ⟨er, hx, j1, j2, j3⟩
        · exact v_ifp (Or.inr j1) (v_so ⟨h1, Or.inl ⟨x, hx, j1, j2, j3⟩⟩)
        · exact v_ifp (Or.inl j1) (v_so ⟨h1, Or.inr ⟨er, hx, j1, j2, j3⟩⟩)
      rintro r5 m6 ⟨l6, hs⟩
      dsimp only at l6 hs
      have lg6 : c_lg i c m6 := c_lgt (c_lgl (c_lfA f3)) (c_lgl l6)
      have sl6 : c_sl m6 i sl := fun k hk4 => by
        rw [l6 21 i k (fun z => by omega), l6 22 i k (fun z => by omega)]
        exact sl3 k hk4
      rcases hs with ⟨x, hx, j1, j2, j3⟩ | ⟨er, hx, j1, j2, j3⟩
      · refine v_ifn (by rw [j1]; decide) ?_
        rw [hx] at hgr
        obtain ⟨g1, g2, g3, g4⟩ := hgr
        have e4 := z_cls_4 (C := C) (sl := sl) h0 hi1 hf0 hx
        refine v_s2 (c_pass (k := 59) j3 g2 rfl (by omega)) ?_
        rintro r7 m8 hr7
        dsimp only at hr7
        rcases hr7 with ⟨y1, y2, y3, y4⟩ | ⟨y1, y2, y3, y4, y5⟩
        · rw [if_pos y1] at e4
          refine v_ifp (by rw [y2]; decide) ?_
          obtain ⟨u1, u2, u3, u4⟩ := z_te_n (B := B) g2 (by omega)
          have cd8 := c_cd_fr y3 (by decide) j2
          have ir : mm_in r1 4 := by
            rw [hr1]
            exact nJ_in hq4 (by omega)
          have kr : r1.toNatClampNeg = z_ck (z_kd B n p) := by rw [hr1, nJ_N (by omega)]
          refine v_ifp ir ?_
          refine v_lM ?_
          refine v_ifp ir ?_
          rw [show mm_w m8 21 i r1.toNatClampNeg v4 = mm_w m8 21 i (z_ck (z_kd B n p)) (Int32.ofNat C.length) by rw [kr, ev4]]
          rw [kr]
          generalize hq : z_ck (z_kd B n p) = q at hq4 e4
          rw [show mm_w m8 21 i q (Int32.ofNat C.length) 2 i 2 = Int32.ofNat (C ++ x.1).length from (mw_g (by decide)).trans cd8.1]
          refine v_lM ?_
          have ff : fp [(21, none, none), (22, none, none)] m8 (mm_w (mm_w m8 21 i q (Int32.ofNat C.length)) 22 i q (Int32.ofNat (C ++ x.1).length)) := fp_w rfl (fp_w rfl fp_rf)
          refine v_so ⟨c_lgw (Or.inr (by omega)) (c_lgw (Or.inr (by omega)) (c_lgt lg6 (c_lgl (c_lfA y3)))), Or.inl ⟨C ++ x.1, z_ud sl q (C, x.1), z_te B n x.2, rfl, u4, by rw [List.length_append]; omega, c_at_fr ff (by decide) y4, c_cd_fr ff (by decide) cd8, fun k hk4 => ?_, by omega, e4⟩⟩
          dsimp only
          by_cases hkq : k = q
          · unfold z_ud
            rw [if_pos hkq, hkq]
            refine ⟨fun z => (by cases z), fun y hy => ?_⟩
            rw [← Option.some.inj hy]
            refine ⟨?_, ?_⟩
            · rw [mw_g (by decide)]
              exact mw_s
            · rw [mw_s, List.length_append]
          · unfold z_ud
            rw [if_neg hkq, mw_g (by decide), mw_k hkq, mw_k hkq, mw_g (by decide), y3 21 i k rfl, y3 22 i k rfl]
            exact sl6 k hk4
        · rw [if_neg y1] at e4
          refine v_ifn (fun z => z y2) ?_
          exact v_so ⟨c_lgt lg6 (c_lgl (c_lfE y3)), Or.inr ⟨_, rfl, e4, y4, y5⟩⟩
      · refine v_ifp j1 ?_
        exact v_so ⟨lg6, Or.inr ⟨er, rfl, z_cls_3 h0 hi1 hf0 hx, j2, j3⟩⟩
  · refine v_ifn (fun z => z hr1) ?_
    exact rf 1 (z_cls_1 h0 hi1)
theorem c_law {B : Nat → Nat} {n i : Nat} {c : mm_M} (hn : n ≤ 400) (hat : c_at c B n 0) : vW (f_X3_readFrom i c) (fun t => c_lg i c t.2 ∧ ((∃ r, z_cls B n 17 [] (fun _ => none) 0 = .inr r ∧ t.1 = 1 ∧ c_cd t.2 i r.1 ∧ c_sl t.2 i r.2) ∨ (∃ e, z_cls B n 17 [] (fun _ => none) 0 = .inl e ∧ t.1 = 0 ∧ t.2 1 0 9 = Int32.ofNat e.1 ∧ t.2 1 0 10 = Int32.ofNat e.2))) := by
  have i16 : (16 : Int32).toInt = 16 := by decide
  unfold f_X3_readFrom
  refine v_lM ?_
  have f1 : fp [(2, none, none)] c (mm_w c 2 i 2 0) := fp_w rfl fp_rf
  have l1 : c_lg i c (mm_w c 2 i 2 0) := c_lgw (Or.inl ⟨rfl, rfl⟩) c_lgr
  refine v_s1 (P := fun d => c_lg i c d ∧ fp [(2, none, none), (21, none, none)] c d ∧ d 2 i 2 = 0 ∧ ∀ k, k < 4 → d 21 i k = -1) ?_ ?_
  · unfold f_J_fill_g21
    refine v_s1 (P := fun d => c_lg i c d ∧ fp [(2, none, none), (21, none, none)] c d ∧ d 2 i 2 = 0 ∧ ∀ k, k < 4 → d 21 i k = -1) ?_ (fun d h => v_so h)
    refine v_for (fun j s => s.1.toInt = (j : Int) ∧ c_lg i c s.2 ∧ fp [(2, none, none), (21, none, none)] c s.2 ∧ s.2 2 i 2 = 0 ∧ ∀ k, k < j → s.2 21 i k = -1) 0 4 (by omega) (by omega) ⟨i_0, l1, fp_sb (by decide) f1, by dsimp only; exact mw_s, fun k hk => absurd hk (Nat.not_lt_zero k)⟩ ?_ ?_
    · rintro j ⟨v, d⟩ hj ⟨hv, h1, h2, h3, h4⟩
      dsimp only at hv h1 h2 h3 h4 ⊢
      have i4 : (4 : Int32).toInt = 4 := by decide
      refine v_ifn (by rw [iA_le, i4, hv]; omega) ?_
      refine v_ifp (v_in.mpr (by omega)) ?_
      rw [n_k hv]
      refine v_lM ?_
      refine v_l1 ?_
      refine v_il ⟨n_s3 hv (by omega), c_lgw (Or.inr (by omega)) h1, fp_w rfl h2, by dsimp only; exact (mw_g (by decide)).trans h3, fun k hk => ?_⟩
      dsimp only
      by_cases hkj : k = j
      · rw [hkj]
        exact mw_s
      · rw [mw_k hkj]
        exact h4 k (by omega)
    · rintro ⟨v, d⟩ ⟨hv, h1, h2, h3, h4⟩
      dsimp only at hv h1 h2 h3 h4 ⊢
      have i4 : (4 : Int32).toInt = 4 := by decide
      refine v_ifp (by rw [iA_le, i4, hv]; omega) ?_
      exact v_ir ⟨h1, h2, h3, h4⟩
  · rintro m3 ⟨l3, f3, h23, h21⟩
    refine v_s1 (P := fun t => c_lg i c t.2 ∧ ((∃ r, z_cls B n 17 [] (fun _ => none) 0 = .inr r ∧ t.1 = 1 ∧ c_cd t.2 i r.1 ∧ c_sl t.2 i r.2) ∨ (∃ e, z_cls B n 17 [] (fun _ => none) 0 = .inl e ∧ t.1 = 0 ∧ t.2 1 0 9 = Int32.ofNat e.1 ∧ t.2 1 0 10 = Int32.ofNat e.2))) ?_ ?_
    · refine v_for (fun j s => s.2.1.toInt = (j : Int) ∧ c_lg i c s.2.2 ∧ ((s.1 = 1 ∧ j ≤ 16 ∧ ∃ C sl p, p ≤ n ∧ C.length ≤ p ∧ c_at s.2.2 B n p ∧ c_cd s.2.2 i C ∧ c_sl s.2.2 i sl ∧ z_cls B n 17 [] (fun _ => none) 0 = z_cls B n (17 - j) C sl p) ∨ (s.1 = 0 ∧ ∃ e, z_cls B n 17 [] (fun _ => none) 0 = .inl e ∧ s.2.2 1 0 9 = Int32.ofNat e.1 ∧ s.2.2 1 0 10 = Int32.ofNat e.2))) 0 17 (by omega) (by omega) ⟨i_0, l3, Or.inl ⟨rfl, by omega, [], fun _ => none, 0, Nat.zero_le n, Nat.le_refl 0, c_at_fr f3 (by decide) hat, ⟨h23, fun j e he => (by cases he)⟩, fun k hk => ⟨fun _ => h21 k hk, fun x hx => (by cases hx)⟩, rfl⟩⟩ ?_ ?_
      · rintro j ⟨a, v, e⟩ hj ⟨hv, hlg, hs⟩
        dsimp only at hv hlg hs ⊢
        refine v_ifn (by rw [iA_lt, i16, hv]; omega) ?_
        rcases hs with ⟨ha, hj16, C, sl, p, hp, hC, hae, hce, hse, hR⟩ | ⟨ha, er, hx, h3, h4⟩
        · refine v_ifn (by rw [ha]; decide) ?_
          have hkb := z_kd_b (B := B) (n := n) (p := p)
          have hk := (c_kd hae).1
          rw [show 17 - j = (16 - j) + 1 by omega] at hR
          by_cases h0 : z_kd B n p = 0
          · refine v_ifp (by rw [hk, h0]; rfl) ?_
            exact v_ir ⟨hlg, Or.inl ⟨(C, sl), hR.trans (z_cls_0 h0), ha, hce, hse⟩⟩
          · refine v_ifn (by rw [hk]; exact fun z => h0 ((n_eq (b := 0) (by omega) (by omega)).mp z)) ?_
            refine v_s2 (c_clause (f := 16 - j) hn hp hC h0 hae hce hse (by rw [hv]; omega) (by omega)) ?_
            rintro r8 m9 ⟨l9, hs9⟩
            dsimp only at l9 hs9
            refine v_l1 ?_
            rcases hs9 with ⟨C', sl', p', k1, k2, k3, k4, k5, k6, k7, k8⟩ | ⟨er, k1, k2, k3, k4⟩
            · refine v_il ⟨n_s3 hv (by omega), c_lgt hlg l9, Or.inl ⟨k1, by omega, C', sl', p', k2, k3, k4, k5, k6, ?_⟩⟩
              rw [hR, k8, show 17 - (j + 1) = 16 - j by omega]
            · exact v_il ⟨n_s3 hv (by omega), c_lgt hlg l9, Or.inr ⟨k1, er, hR.trans k2, k3, k4⟩⟩
        · refine v_ifp ha ?_
          exact v_ir ⟨hlg, Or.inr ⟨er, hx, ha, h3, h4⟩⟩
      · rintro ⟨a, v, e⟩ ⟨hv, hlg, hs⟩
        dsimp only at hv hlg hs ⊢
        refine v_ifp (by rw [iA_lt, i16, hv]; omega) ?_
        rcases hs with ⟨ha, hj16, _⟩ | ⟨ha, er, hx, h3, h4⟩
        · omega
        · exact v_ir ⟨hlg, Or.inr ⟨er, hx, ha, h3, h4⟩⟩
    · rintro ⟨a, e⟩ ⟨hlg, hs⟩
      dsimp only at hlg hs ⊢
      rcases hs with ⟨r, h1, h2, h3, h4⟩ | ⟨er, h1, h2, h3, h4⟩
      · exact v_ifp (Or.inr h2) (v_so ⟨hlg, Or.inl ⟨r, h1, h2, h3, h4⟩⟩)
      · exact v_ifp (Or.inl h2) (v_so ⟨hlg, Or.inr ⟨er, h1, h2, h3, h4⟩⟩)
