/-! the tape: the reference's tokens -/
def z_byM (m : mm_M) (B : Nat → Nat) (n : Nat) : Prop := n ≤ 400 ∧ m 12 0 23 = Int32.ofNat n ∧ ∀ k, k < n → B k < 256 ∧ m 80 0 k = Int32.ofNat (B k)
def z_rk (k : Nat) : Int32 := if k = 0 then 0 else if k = 1 then 4 else if k = 2 then 2 else if k = 3 ∨ 256 ≤ k then 1 else 3
/-- the reference stands at the token behind p -/
def r_at (m : mm_M) (B : Nat → Nat) (n p : Nat) : Prop := z_byM m B n ∧ m 12 0 22 = Int32.ofNat (z_te B n p) ∧ m 12 0 27 = Int32.ofNat (z_ts B n p) ∧ m 12 0 28 = Int32.ofNat (z_te B n p) ∧ m 12 0 24 = z_rk (z_kd B n p) ∧ (z_rk (z_kd B n p) = 3 → m 12 0 25 = Int32.ofNat (z_kd B n p)) ∧ (z_kd B n p = 2 → z_te B n p - z_ts B n p ≤ 5 → m 12 0 26 = Int32.ofNat (z_nm B n p))
theorem z_byM_fr {L : zT} {m r : mm_M} {B : Nat → Nat} {n : Nat} (hf : fp L m r) (hd : z_dis [(12, none, some 23), (80, none, none)] L = true) (h : z_byM m B n) : z_byM r B n := ⟨h.1, (hf 12 0 23 (z_dis_of hd rfl)).trans h.2.1, fun k hk => ⟨(h.2.2 k hk).1, (hf 80 0 k (z_dis_of hd rfl)).trans (h.2.2 k hk).2⟩⟩
theorem r_at_fr {L : zT} {m r : mm_M} {B : Nat → Nat} {n p : Nat} (hf : fp L m r) (hd : z_dis [(12, none, some 22), (12, none, some 23), (12, none, some 24), (12, none, some 25), (12, none, some 26), (12, none, some 27), (12, none, some 28), (80, none, none)] L = true) (h : r_at m B n p) : r_at r B n p := by
  obtain ⟨h0, h1, h2, h3, h4, h5, h6⟩ := h
  refine ⟨⟨h0.1, (hf 12 0 23 (z_dis_of hd rfl)).trans h0.2.1, fun k hk => ⟨(h0.2.2 k hk).1, (hf 80 0 k (z_dis_of hd rfl)).trans (h0.2.2 k hk).2⟩⟩, (hf 12 0 22 (z_dis_of hd rfl)).trans h1, (hf 12 0 27 (z_dis_of hd rfl)).trans h2, (hf 12 0 28 (z_dis_of hd rfl)).trans h3, (hf 12 0 24 (z_dis_of hd rfl)).trans h4, fun z => (hf 12 0 25 (z_dis_of hd rfl)).trans (h5 z), fun z y => (hf 12 0 26 (z_dis_of hd rfl)).trans (h6 z y)⟩
theorem r_byA {m : mm_M} {B : Nat → Nat} {n x : Nat} {a : Int32} (h : z_byM m B n) (ha : a.toInt = (x : Int)) : f_X12_byteAt a m = some (if x < n then Int32.ofNat (B x) else -1) := by
  have hn := h.1
  apply v_is
  unfold f_X12_byteAt
  by_cases hx : x < n
  · refine v_ifn (by rw [iA_le, h.2.1, ha, nJ_T (by omega)]; omega) ?_
    refine v_ifp (v_in.mpr (by omega)) ?_
    refine v_so ?_
    rw [n_k ha, if_pos hx]
    exact (h.2.2 x hx).2
  · refine v_ifp (by rw [iA_le, h.2.1, ha, nJ_T (by omega)]; omega) ?_
    exact v_so (if_neg hx).symm
theorem r_let {x : Int32} {b : Nat} {m : mm_M} (h : x.toInt = (b : Int)) : f_X12_isLetter x m = some (if z_let b = true then 1 else 0) := by
  have i97 : (97 : Int32).toInt = 97 := by decide
  have i122 : (122 : Int32).toInt = 122 := by decide
  apply v_is
  unfold f_X12_isLetter
  by_cases h1 : x.toInt < 97
  · refine v_ifp (by rw [iA_lt, i97]; exact h1) (v_so ?_)
    exact (if_neg (fun z => by have := of_decide_eq_true z; omega)).symm
  refine v_ifn (by rw [iA_lt, i97]; exact h1) ?_
  by_cases h2 : 122 < x.toInt
  · refine v_ifp (by rw [iA_lt, i122]; exact h2) (v_so ?_)
    exact (if_neg (fun z => by have := of_decide_eq_true z; omega)).symm
  · refine v_ifn (by rw [iA_lt, i122]; exact h2) (v_so ?_)
    exact (if_pos (decide_eq_true (by omega))).symm
theorem r_dgt {x : Int32} {b : Nat} {m : mm_M} (h : x.toInt = (b : Int)) : f_X12_isDigit x m = some (if z_dgt b = true then 1 else 0) := by
  have i48 : (48 : Int32).toInt = 48 := by decide
  have i57 : (57 : Int32).toInt = 57 := by decide
  apply v_is
  unfold f_X12_isDigit
  by_cases h1 : x.toInt < 48
  · refine v_ifp (by rw [iA_lt, i48]; exact h1) (v_so ?_)
    exact (if_neg (fun z => by have := of_decide_eq_true z; omega)).symm
  refine v_ifn (by rw [iA_lt, i48]; exact h1) ?_
  by_cases h2 : 57 < x.toInt
  · refine v_ifp (by rw [iA_lt, i57]; exact h2) (v_so ?_)
    exact (if_neg (fun z => by have := of_decide_eq_true z; omega)).symm
  · refine v_ifn (by rw [iA_lt, i57]; exact h2) (v_so ?_)
    exact (if_pos (decide_eq_true (by omega))).symm
theorem r_letm {m : mm_M} : f_X12_isLetter (-1) m = some 0 := v_is (by
  unfold f_X12_isLetter
  exact v_ifp (by decide) (v_so rfl))
theorem r_dgtm {m : mm_M} : f_X12_isDigit (-1) m = some 0 := v_is (by
  unfold f_X12_isDigit
  exact v_ifp (by decide) (v_so rfl))
abbrev zSt : zT := [(12, none, some 22), (12, none, some 24), (12, none, some 25), (12, none, some 26), (12, none, some 27), (12, none, some 28)]
theorem z_rk_w (w : List Nat) : z_rk (z_wcd w) = 1 := by
  have := z_wcd_b w
  unfold z_rk
  rw [if_neg (by omega), if_neg (by omega), if_neg (by omega), if_pos (by omega)]
theorem r_step {m : mm_M} {B : Nat → Nat} {n p : Nat} (hb : z_byM m B n) (hp : p ≤ n) (h22 : m 12 0 22 = Int32.ofNat p) : vW (f_X12_step m) (fun r => fp zSt m r ∧ r_at r B n p) := by
  have hn := hb.1
  obtain ⟨t1, t2, t3, t4⟩ := z_run_p (p := z_blk) (B := B) n p hp (by omega)
  have hts : z_run z_blk B n n p = z_ts B n p := rfl
  rw [hts] at t1 t2 t3 t4
  have ete : z_te B n p = z_tE B n (z_ts B n p) := rfl
  have ekd : z_kd B n p = z_kD B n (z_ts B n p) := rfl
  have enm : z_nm B n p = z_nM B n (z_ts B n p) := rfl
  generalize hS : z_ts B n p = s at t1 t2 t3 t4 ete ekd enm
  have i32 : (32 : Int32).toInt = 32 := by decide
  have i10 : (10 : Int32).toInt = 10 := by decide
  unfold f_X12_step
  refine v_s1 (P := fun c => fp [(12, none, some 22)] m c ∧ c 12 0 22 = Int32.ofNat s) ?_ (fun c hc => ?_)
  · refine v_for (fun j c => fp [(12, none, some 22)] m c ∧ c 12 0 22 = Int32.ofNat (p + j)) 0 (s - p) (Nat.zero_le _) (by omega) ⟨fp_rf, h22⟩ ?_ ?_
    · rintro j c hj ⟨hf, h⟩
      have hbc := z_byM_fr hf (by decide) hb
      have hI : (c 12 0 22).toInt = ((p + j : Nat) : Int) := by rw [h, nJ_T (by omega)]
      have hbl := of_decide_eq_true (t3 (p + j) (by omega) (by omega))
      have e1 := r_byA hbc hI
      rw [if_pos (show p + j < n by omega)] at e1
      have k4 : vW (mm_let (mm_w c 12 0 22 ((c 12 0 22) + 1)) fun m5 => some (.inl m5)) (v_st (fun c : mm_M => fp [(12, none, some 22)] m c ∧ c 12 0 22 = Int32.ofNat (p + (j + 1))) (fun c : mm_M => fp [(12, none, some 22)] m c ∧ c 12 0 22 = Int32.ofNat s)) := by
        refine v_lM ?_
        refine v_il ⟨fp_w rfl hf, ?_⟩
        rw [mw_s, h, n_a1]
        rfl
      refine v_b1e e1 ?_
      refine v_lO ?_
      by_cases h3 : B (p + j) = 32
      · exact v_ifp (by rw [h3]; rfl) k4
      · refine v_ifn (by rw [iA_eq, i32, nJ_T (by omega)]; omega) ?_
        refine v_b1e e1 ?_
        exact v_ifn (fun z => z (by rw [show B (p + j) = 10 by omega]; rfl)) k4
    · rintro c ⟨hf, h⟩
      have hbc := z_byM_fr hf (by decide) hb
      have h' : c 12 0 22 = Int32.ofNat s := by rw [h]; congr 1; omega
      have hI : (c 12 0 22).toInt = (s : Int) := by rw [h', nJ_T (by omega)]
      have e1 := r_byA hbc hI
      refine v_b1e e1 ?_
      refine v_lO ?_
      have hne : ∀ k : Nat, k = 32 ∨ k = 10 → ¬ (if s < n then Int32.ofNat (B s) else (-1 : Int32)) = Int32.ofNat k := fun k hk => by
        by_cases hsn : s < n
        · rw [if_pos hsn]
          intro z
          have hBs := (hb.2.2 s hsn).1
          have := (n_eq (by omega) (by omega)).mp z
          rcases t4 with t4 | t4
          · omega
          · have : z_blk (B s) = true := decide_eq_true (by omega)
            rw [t4] at this
            cases this
        · rw [if_neg hsn]
          intro z
          exact n_m1 (show k < 2147483648 by omega) z.symm
      refine v_ifn (hne 32 (Or.inl rfl)) ?_
      refine v_b1e e1 ?_
      refine v_ifp (hne 10 (Or.inr rfl)) ?_
      exact v_ir ⟨hf, h'⟩
  · obtain ⟨hf, h⟩ := hc
    refine v_lM ?_
    refine v_lM ?_
    rw [h]
    have f9 : fp zSt m (mm_w (mm_w c 12 0 27 (Int32.ofNat s)) 12 0 25 0) := fp_w rfl (fp_w rfl (fp_sb (by decide) hf))
    have g22 : mm_w (mm_w c 12 0 27 (Int32.ofNat s)) 12 0 25 0 12 0 22 = Int32.ofNat s := by
      rw [mw_k (by decide), mw_k (by decide)]
      exact h
    have g27 : mm_w (mm_w c 12 0 27 (Int32.ofNat s)) 12 0 25 0 12 0 27 = Int32.ofNat s := by
      rw [mw_k (by decide)]
      exact mw_s
    generalize mm_w (mm_w c 12 0 27 (Int32.ofNat s)) 12 0 25 0 = c9 at f9 g22 g27 ⊢
    have hb9 := z_byM_fr f9 (by decide) hb
    have g22I : (c9 12 0 22).toInt = (s : Int) := by rw [g22, nJ_T (by omega)]
    refine v_b1e (r_byA hb9 g22I) ?_
    by_cases hsn : s < n
    · have hns : ¬ n ≤ s := by omega
      have hB := (hb.2.2 s hsn).1
      have hBI : (Int32.ofNat (B s)).toInt = (B s : Int) := nJ_T (by omega)
      rw [if_pos hsn]
      refine v_ifp (n_m1 (by omega)) ?_
      refine v_b1e (r_let hBI) ?_
      by_cases hl : z_let (B s) = true
      · obtain ⟨r1, r2, r3, r4⟩ := z_run_p (p := z_let) (B := B) n (s + 1) (show s + 1 ≤ n by omega) (by omega)
        have eE : z_tE B n s = z_run z_let B n n (s + 1) := (if_neg hns).trans (if_pos hl)
        have eK : z_kD B n s = z_wcd (z_word B s (z_tE B n s)) := (if_neg hns).trans (if_pos hl)
        have hrk : z_rk (z_kd B n p) = 1 := by
          rw [ekd, eK]
          exact z_rk_w _
        generalize z_run z_let B n n (s + 1) = R at r1 r2 r3 r4 eE
        refine v_ifn (by rw [if_pos hl]; decide) ?_
        refine v_s1 (P := fun d => fp [(12, none, some 22)] c9 d ∧ d 12 0 22 = Int32.ofNat R) ?_ (fun d hd => ?_)
        · refine v_for (fun j d => fp [(12, none, some 22)] c9 d ∧ d 12 0 22 = Int32.ofNat (s + j)) 0 (R - s) (Nat.zero_le _) (by omega) ⟨fp_rf, g22⟩ ?_ ?_
          · rintro j d hj ⟨hfd, hd⟩
            have hbd := z_byM_fr hfd (by decide) hb9
            have e1 := r_byA hbd (show (d 12 0 22).toInt = ((s + j : Nat) : Int) by rw [hd, nJ_T (by omega)])
            rw [if_pos (show s + j < n by omega)] at e1
            have hlj : z_let (B (s + j)) = true := by
              by_cases hj0 : j = 0
              · rw [hj0, Nat.add_zero]
                exact hl
              · exact r3 (s + j) (by omega) (by omega)
            have hBj := (hb.2.2 (s + j) (by omega)).1
            refine v_b1e e1 ?_
            refine v_b1e (r_let (nJ_T (show B (s + j) < 2147483648 by omega))) ?_
            refine v_ifn (by rw [if_pos hlj]; decide) ?_
            refine v_lM ?_
            refine v_il ⟨fp_w rfl hfd, ?_⟩
            rw [mw_s, hd, n_a1]
            rfl
          · rintro d ⟨hfd, hd⟩
            have hbd := z_byM_fr hfd (by decide) hb9
            have hd' : d 12 0 22 = Int32.ofNat R := by rw [hd]; congr 1; omega
            have e1 := r_byA hbd (show (d 12 0 22).toInt = (R : Int) by rw [hd', nJ_T (by omega)])
            refine v_b1e e1 ?_
            have e2 : f_X12_isLetter (if R < n then Int32.ofNat (B R) else -1) d = some 0 := by
              by_cases hR : R < n
              · have hBR := (hb.2.2 R hR).1
                rw [if_pos hR, r_let (nJ_T (show B R < 2147483648 by omega))]
                rcases r4 with r4 | r4
                · omega
                · rw [r4]
                  rfl
              · rw [if_neg hR]
                exact r_letm
            refine v_b1e e2 ?_
            refine v_ifp rfl ?_
            exact v_ir ⟨hfd, hd'⟩
        · obtain ⟨hfd, hd⟩ := hd
          refine v_lM ?_
          refine v_lM ?_
          have e22 : mm_w d 12 0 24 1 12 0 22 = Int32.ofNat R := (mw_k (by decide)).trans hd
          rw [e22]
          have ff : fp zSt m (mm_w (mm_w d 12 0 24 1) 12 0 28 (Int32.ofNat R)) := fp_w rfl (fp_w rfl (fp_tr f9 (fp_sb (by decide) hfd)))
          refine v_so ⟨ff, z_byM_fr ff (by decide) hb, ?_, ?_, ?_, ?_, fun z => ?_, fun z => ?_⟩
          · rw [ete, eE, mw_k (by decide)]
            exact e22
          · rw [hS, mw_k (by decide), mw_k (by decide), hfd 12 0 27 rfl]
            exact g27
          · rw [ete, eE]
            exact mw_s
          · rw [hrk, mw_k (by decide)]
            exact mw_s
          · rw [hrk] at z
            exact absurd z (by decide)
          · rw [z] at hrk
            exact absurd hrk (by decide)
      · refine v_ifp (by rw [if_neg hl]) ?_
        refine v_b1e (r_dgt hBI) ?_
        by_cases hdg : z_dgt (B s) = true
        · obtain ⟨r1, r2, r3, r4⟩ := z_run_p (p := z_dgt) (B := B) n (s + 1) (show s + 1 ≤ n by omega) (by omega)
          have eE : z_tE B n s = z_run z_dgt B n n (s + 1) := (if_neg hns).trans ((if_neg hl).trans (if_pos hdg))
          have eK : z_kd B n p = 2 := by
            rw [ekd]
            exact (if_neg hns).trans ((if_neg hl).trans (if_pos hdg))
          have eN : z_nm B n p = if z_tE B n s - s ≤ 5 then z_nv B s (z_tE B n s - s) else 100000 := by
            rw [enm]
            exact (if_neg hns).trans ((if_neg hl).trans (if_pos hdg))
          generalize z_run z_dgt B n n (s + 1) = R at r1 r2 r3 r4 eE
          have hdj : ∀ x, s + x < R → z_dgt (B (s + x)) = true := fun x hx => by
            by_cases hj0 : x = 0
            · rw [hj0, Nat.add_zero]
              exact hdg
            · exact r3 (s + x) (by omega) (by omega)
          have hrk : z_rk 2 = 2 := by decide
          refine v_ifn (by rw [if_pos hdg]; decide) ?_
          refine v_lM ?_
          refine v_s1 (P := fun d => fp [(12, none, some 22), (12, none, some 26)] c9 d ∧ d 12 0 22 = Int32.ofNat R ∧ (R - s ≤ 5 → d 12 0 26 = Int32.ofNat (z_nv B s (R - s)))) ?_ (fun d hd => ?_)
          · refine v_for (fun j d => fp [(12, none, some 22), (12, none, some 26)] c9 d ∧ d 12 0 22 = Int32.ofNat (s + j) ∧ (0 ≤ (d 12 0 26).toInt ∧ (d 12 0 26).toInt ≤ 1000000) ∧ (j ≤ 5 → d 12 0 26 = Int32.ofNat (z_nv B s j))) 0 (R - s) (Nat.zero_le _) (by omega) ⟨fp_w rfl fp_rf, (mw_k (by decide)).trans g22, by rw [mw_s, i_0]; omega, fun _ => mw_s⟩ ?_ ?_
            · rintro j d hj ⟨hfd, hd, ⟨hlo, hhi⟩, hval⟩
              have hbd := z_byM_fr hfd (by decide) hb9
              have e1 := r_byA hbd (show (d 12 0 22).toInt = ((s + j : Nat) : Int) by rw [hd, nJ_T (by omega)])
              rw [if_pos (show s + j < n by omega)] at e1
              have hdd := hdj j (by omega)
              have hdb := of_decide_eq_true hdd
              have hBj := (hb.2.2 (s + j) (by omega)).1
              have i48 : (48 : Int32).toInt = 48 := by decide
              have iM : (1000000 : Int32).toInt = 1000000 := by decide
              have i10b : (10 : Int32).toInt = 10 := by decide
              have hX : ((10 * d 12 0 26 + Int32.ofNat (B (s + j))) - 48).toInt = 10 * (d 12 0 26).toInt + (B (s + j) : Int) - 48 := by
                have m1 : (10 * d 12 0 26).toInt = 10 * (d 12 0 26).toInt := by rw [iA_mul (by rw [i10b]; omega) (by rw [i10b]; omega), i10b]
                have m2 : (10 * d 12 0 26 + Int32.ofNat (B (s + j))).toInt = 10 * (d 12 0 26).toInt + (B (s + j) : Int) := by
                  have hBI2 : (Int32.ofNat (B (s + j))).toInt = (B (s + j) : Int) := nJ_T (by omega)
                  rw [iA_add (by rw [m1, hBI2]; omega) (by rw [m1, hBI2]; omega), m1, hBI2]
                rw [iA_sub (by rw [m2, i48]; omega) (by rw [m2, i48]; omega), m2, i48]
              refine v_b1e e1 ?_
              refine v_b1e (r_dgt (nJ_T (show B (s + j) < 2147483648 by omega))) ?_
              refine v_ifn (by rw [if_pos hdd]; decide) ?_
              refine v_b1e e1 ?_
              refine v_lM ?_
              refine v_lM ?_
              have e22 : ∀ x, mm_w d 12 0 26 x 12 0 22 = Int32.ofNat (s + j) := fun x => (mw_k (by decide)).trans hd
              have hmin : (mm_min 1000000 ((10 * d 12 0 26 + Int32.ofNat (B (s + j))) - 48)).toInt = min 1000000 (10 * (d 12 0 26).toInt + (B (s + j) : Int) - 48) := by
                unfold mm_min
                split
                · rename_i hz
                  rw [iA_lt, hX, iM] at hz
                  rw [hX]
                  omega
                · rename_i hz
                  rw [iA_lt, hX, iM] at hz
                  rw [iM]
                  omega
              refine v_il ⟨fp_w rfl (fp_w rfl hfd), ?_, ?_, fun hj5 => ?_⟩
              · rw [mw_s, e22, n_a1]
                rfl
              · rw [mw_k (by decide), mw_s, hmin]
                omega
              · rw [mw_k (by decide), mw_s]
                have hv := hval (by omega)
                have hnb := z_nv_b (B := B) (s := s) j (fun x hx => hdj x (by omega))
                have hpb := z_p10 (show j ≤ 5 by omega)
                have hnb2 := z_nv_b (B := B) (s := s) (j + 1) (fun x hx => hdj x (by omega))
                have hpb2 := z_p10 hj5
                have e3 : z_nv B s (j + 1) = z_nv B s j * 10 + (B (s + j) - 48) := rfl
                rw [iA_eq, hmin, hv, nJ_T (by omega), nJ_T (by omega), e3]
                omega
            · rintro d ⟨hfd, hd, _, hval⟩
              have hbd := z_byM_fr hfd (by decide) hb9
              have hd' : d 12 0 22 = Int32.ofNat R := by rw [hd]; congr 1; omega
              have e1 := r_byA hbd (show (d 12 0 22).toInt = (R : Int) by rw [hd', nJ_T (by omega)])
              refine v_b1e e1 ?_
              have e2 : f_X12_isDigit (if R < n then Int32.ofNat (B R) else -1) d = some 0 := by
                by_cases hR : R < n
                · have hBR := (hb.2.2 R hR).1
                  rw [if_pos hR, r_dgt (nJ_T (show B R < 2147483648 by omega))]
                  rcases r4 with r4 | r4
                  · omega
                  · rw [r4]
                    rfl
                · rw [if_neg hR]
                  exact r_dgtm
              refine v_b1e e2 ?_
              refine v_ifp rfl ?_
              exact v_ir ⟨hfd, hd', hval⟩
          · obtain ⟨hfd, hd, hval⟩ := hd
            refine v_lM ?_
            refine v_lM ?_
            have e22 : mm_w d 12 0 24 2 12 0 22 = Int32.ofNat R := (mw_k (by decide)).trans hd
            rw [e22]
            have ff : fp zSt m (mm_w (mm_w d 12 0 24 2) 12 0 28 (Int32.ofNat R)) := fp_w rfl (fp_w rfl (fp_tr f9 (fp_sb (by decide) hfd)))
            refine v_so ⟨ff, z_byM_fr ff (by decide) hb, ?_, ?_, ?_, ?_, fun z => ?_, fun _ z => ?_⟩
            · rw [ete, eE, mw_k (by decide)]
              exact e22
            · rw [hS, mw_k (by decide), mw_k (by decide), hfd 12 0 27 rfl]
              exact g27
            · rw [ete, eE]
              exact mw_s
            · rw [eK, hrk, mw_k (by decide)]
              exact mw_s
            · rw [eK, hrk] at z
              exact absurd z (by decide)
            · rw [ete, hS, eE] at z
              rw [eN, eE, if_pos z, mw_k (by decide), mw_k (by decide)]
              exact hval z
        · have eE : z_tE B n s = s + 1 := (if_neg hns).trans ((if_neg hl).trans (if_neg hdg))
          refine v_ifp (by rw [if_neg hdg]) ?_
          refine v_lM ?_
          rw [g22, n_a1]
          refine v_lF ?_
          have fin : ∀ w : Int32, (w = 1 ∧ z_sgn (B s) = true) ∨ (w = 0 ∧ ¬ z_sgn (B s) = true) → vW (mm_let (fun (w16 : Int32) => (mm_let (mm_w (mm_w c9 12 0 22 (Int32.ofNat (s + 1))) 12 0 24 w16) fun m18 =>
mm_let (mm_w m18 12 0 25 (Int32.ofNat (B s))) fun m19 =>
mm_let (mm_w m19 12 0 28 (m19 12 0 22)) fun m20 =>
some m20 : Option (mm_M))) fun k17 =>
if w = 0 then (k17 4)
else (k17 3)) (fun r => fp zSt m r ∧ r_at r B n p) := fun w hw => by
            have g : ∀ x : Int32, x = z_rk (z_kd B n p) → (z_rk (z_kd B n p) = 3 → Int32.ofNat (B s) = Int32.ofNat (z_kd B n p)) → vW (mm_let (mm_w (mm_w c9 12 0 22 (Int32.ofNat (s + 1))) 12 0 24 x) fun m18 =>
mm_let (mm_w m18 12 0 25 (Int32.ofNat (B s))) fun m19 =>
mm_let (mm_w m19 12 0 28 (m19 12 0 22)) fun m20 => some m20) (fun r => fp zSt m r ∧ r_at r B n p) := fun x hx h3 => by
              refine v_lM ?_
              refine v_lM ?_
              have e22 : mm_w (mm_w (mm_w c9 12 0 22 (Int32.ofNat (s + 1))) 12 0 24 x) 12 0 25 (Int32.ofNat (B s)) 12 0 22 = Int32.ofNat (s + 1) := by
                rw [mw_k (by decide), mw_k (by decide)]
                exact mw_s
              rw [e22]
              refine v_lM ?_
              have ff : fp zSt m (mm_w (mm_w (mm_w (mm_w c9 12 0 22 (Int32.ofNat (s + 1))) 12 0 24 x) 12 0 25 (Int32.ofNat (B s))) 12 0 28 (Int32.ofNat (s + 1))) := fp_w rfl (fp_w rfl (fp_w rfl (fp_w rfl f9)))
              refine v_so ⟨ff, z_byM_fr ff (by decide) hb, ?_, ?_, ?_, ?_, fun z => ?_, fun z => ?_⟩
              · rw [ete, eE, mw_k (by decide)]
                exact e22
              · rw [hS, mw_k (by decide), mw_k (by decide), mw_k (by decide), mw_k (by decide)]
                exact g27
              · rw [ete, eE]
                exact mw_s
              · rw [mw_k (by decide), mw_k (by decide), mw_s]
                exact hx
              · rw [mw_k (by decide), mw_s]
                exact h3 z
              · exfalso
                have e2 : z_kD B n s = if z_sgn (B s) = true then B s else 1 := (if_neg hns).trans ((if_neg hl).trans (if_neg hdg))
                rw [ekd, e2] at z
                by_cases hg : z_sgn (B s) = true
                · have := of_decide_eq_true hg
                  rw [if_pos hg] at z
                  omega
                · rw [if_neg hg] at z
                  omega
            refine v_lF ?_
            rcases hw with ⟨hw, hg⟩ | ⟨hw, hg⟩
            · have e2 : z_kd B n p = B s := by
                rw [ekd]
                exact (if_neg hns).trans ((if_neg hl).trans ((if_neg hdg).trans (if_pos hg)))
              have hgs := of_decide_eq_true hg
              refine v_ifn (by rw [hw]; decide) ?_
              refine g 3 ?_ (fun _ => by rw [e2])
              rw [e2]
              unfold z_rk
              rw [if_neg (by omega), if_neg (by omega), if_neg (by omega), if_neg (by omega)]
            · have e2 : z_kd B n p = 1 := by
                rw [ekd]
                exact (if_neg hns).trans ((if_neg hl).trans ((if_neg hdg).trans (if_neg hg)))
              refine v_ifp hw ?_
              refine g 4 (by rw [e2]; rfl) (fun z => ?_)
              rw [e2] at z
              exact absurd z (by decide)
          have ee : ∀ k : Nat, k < 128 → (Int32.ofNat (B s) = Int32.ofNat k ↔ B s = k) := fun k hk => n_eq (by omega) (by omega)
          have yes : z_sgn (B s) = true → _ := fun z => fin 1 (Or.inl ⟨rfl, z⟩)
          by_cases h1 : B s = 59
          · exact v_ifp ((ee 59 (by omega)).mpr h1) (yes (decide_eq_true (by omega)))
          refine v_ifn (fun z => h1 ((ee 59 (by omega)).mp z)) ?_
          by_cases h2 : B s = 40
          · exact v_ifp ((ee 40 (by omega)).mpr h2) (yes (decide_eq_true (by omega)))
          refine v_ifn (fun z => h2 ((ee 40 (by omega)).mp z)) ?_
          by_cases h3 : B s = 41
          · exact v_ifp ((ee 41 (by omega)).mpr h3) (yes (decide_eq_true (by omega)))
          refine v_ifn (fun z => h3 ((ee 41 (by omega)).mp z)) ?_
          by_cases h4 : B s = 43
          · exact v_ifp ((ee 43 (by omega)).mpr h4) (yes (decide_eq_true (by omega)))
          refine v_ifn (fun z => h4 ((ee 43 (by omega)).mp z)) ?_
          by_cases h5 : B s = 45
          · exact v_ifp ((ee 45 (by omega)).mpr h5) (yes (decide_eq_true (by omega)))
          refine v_ifn (fun z => h5 ((ee 45 (by omega)).mp z)) ?_
          by_cases h6 : B s = 42
          · exact v_ifp ((ee 42 (by omega)).mpr h6) (yes (decide_eq_true (by omega)))
          refine v_ifn (fun z => h6 ((ee 42 (by omega)).mp z)) ?_
          by_cases h7 : B s = 47
          · exact v_ifp ((ee 47 (by omega)).mpr h7) (yes (decide_eq_true (by omega)))
          refine v_ifn (fun z => h7 ((ee 47 (by omega)).mp z)) ?_
          by_cases h8 : B s = 60
          · exact v_ifp ((ee 60 (by omega)).mpr h8) (yes (decide_eq_true (by omega)))
          refine v_ifn (fun z => h8 ((ee 60 (by omega)).mp z)) ?_
          by_cases h9 : B s = 61
          · exact v_ifn (fun z => z ((ee 61 (by omega)).mpr h9)) (yes (decide_eq_true (by omega)))
          refine v_ifp (fun z => h9 ((ee 61 (by omega)).mp z)) ?_
          exact fin 0 (Or.inr ⟨rfl, fun z => by have := of_decide_eq_true z; omega⟩)
    · have hse : s = n := by omega
      have eE : z_tE B n s = n := if_pos (by omega)
      have eK : z_kd B n p = 0 := by
        rw [ekd]
        exact if_pos (by omega)
      rw [if_neg hsn]
      refine v_ifn (fun z => z rfl) ?_
      refine v_lM ?_
      refine v_lM ?_
      have e22 : mm_w c9 12 0 24 0 12 0 22 = Int32.ofNat s := (mw_k (by decide)).trans g22
      rw [e22]
      have ff : fp zSt m (mm_w (mm_w c9 12 0 24 0) 12 0 28 (Int32.ofNat s)) := fp_w rfl (fp_w rfl f9)
      refine v_so ⟨ff, z_byM_fr ff (by decide) hb, ?_, ?_, ?_, ?_, fun z => ?_, fun z => ?_⟩
      · rw [ete, eE, mw_k (by decide), e22, hse]
      · rw [hS, mw_k (by decide), mw_k (by decide)]
        exact g27
      · rw [ete, eE, mw_s, hse]
      · rw [eK, mw_k (by decide), mw_s]
        rfl
      · rw [eK] at z
        exact absurd z (by decide)
      · rw [eK] at z
        omega
