/-! the row of the other side -/
def r_st (m : mm_M) (S : List zX) : Prop := m 12 0 44 = Int32.ofNat S.length ∧ ∀ k x, S[k]? = some x → m 91 0 k = x.1.1 ∧ m 92 0 k = x.1.2.1 ∧ m 93 0 k = x.1.2.2 ∧ m 94 0 k = x.2
def r_rw (m : mm_M) (Q : List zQ) : Prop := m 12 0 45 = Int32.ofNat Q.length ∧ ∀ k t, Q[k]? = some t → m 95 0 k = t.1 ∧ m 96 0 k = t.2.1 ∧ m 97 0 k = t.2.2
theorem r_st_fr {L : zT} {m m' : mm_M} {S : List zX} (hf : fp L m m') (hd : z_dis [(12, none, some 44), (91, none, none), (92, none, none), (93, none, none), (94, none, none)] L = true) (h : r_st m S) : r_st m' S := ⟨(hf 12 0 44 (z_dis_of hd rfl)).trans h.1, fun k x hx => by
  obtain ⟨h1, h2, h3, h4⟩ := h.2 k x hx
  exact ⟨(hf 91 0 k (z_dis_of hd rfl)).trans h1, (hf 92 0 k (z_dis_of hd rfl)).trans h2, (hf 93 0 k (z_dis_of hd rfl)).trans h3, (hf 94 0 k (z_dis_of hd rfl)).trans h4⟩⟩
theorem r_addSt {m : mm_M} {S : List zX} {d s k q : Int32} (hr : r_st m S) (hl : S.length < 60) : vW (f_X12_addStep d s k q m) (fun r => fp [(12, none, some 44), (91, none, none), (92, none, none), (93, none, none), (94, none, none)] m r ∧ r_st r (S ++ [((d, s, k), q)])) := by
  have iS : mm_in (Int32.ofNat S.length) 60 := nJ_in hl (by decide)
  have kS : (Int32.ofNat S.length).toNatClampNeg = S.length := nJ_N (by omega)
  unfold f_X12_addStep
  simp only [ml_let, hr.1, if_pos iS, kS, mw_g (show 12 ≠ 91 by decide), mw_g (show 12 ≠ 92 by decide), mw_g (show 12 ≠ 93 by decide), mw_g (show 12 ≠ 94 by decide), n_a1]
  refine v_so ⟨fp_w rfl (fp_w rfl (fp_w rfl (fp_w rfl (fp_w rfl fp_rf)))), ?_, fun i x hx => ?_⟩
  · rw [mw_s, List.length_append, List.length_singleton]
  · rcases z_snoc hx with ⟨g1, g2⟩ | ⟨g1, g2⟩
    · obtain ⟨h1, h2, h3, h4⟩ := hr.2 i x g2
      simp (disch := first | omega | decide | fail) only [mw_s, mw_k, mw_i, mw_g]
      exact ⟨h1, h2, h3, h4⟩
    · subst g1
      subst g2
      simp (disch := first | omega | decide | fail) only [mw_s, mw_k, mw_i, mw_g]
      exact ⟨trivial, trivial, trivial, trivial⟩
theorem r_addRw {m : mm_M} {Q : List zQ} {a b s : Int32} (hr : r_rw m Q) (hso : z_so Q) (hl : Q.length < 60) : vW (f_X12_addRow a b s m) (fun r => fp [(12, none, some 45), (95, none, none), (96, none, none), (97, none, none)] m r ∧ r_rw r (z_ist Q (a, b, s))) := by
  unfold f_X12_addRow
  refine v_lI (fun w hw => ?_)
  have ew : w.toInt = (Q.length : Int) := by rw [hw, hr.1, nJ_T (by omega)]
  clear hw
  generalize hn : Q.length = n at ew hl
  refine v_s1 (P := fun t => fp [(95, none, none), (96, none, none), (97, none, none)] m t.2 ∧ ∃ p : Nat, t.1.toInt = (p : Int) ∧ p ≤ n ∧ (∀ k, k ≤ n → (t.2 95 0 k = if p < k then m 95 0 (k - 1) else m 95 0 k) ∧ (t.2 96 0 k = if p < k then m 96 0 (k - 1) else m 96 0 k) ∧ (t.2 97 0 k = if p < k then m 97 0 (k - 1) else m 97 0 k)) ∧ (∀ i y, p ≤ i → Q[i]? = some y → a.toInt < y.1.toInt) ∧ (p = 0 ∨ ∃ y, Q[p - 1]? = some y ∧ y.1.toInt ≤ a.toInt)) ?_ ?_
  · refine v_for (fun j t => t.1.toInt = ((n - j : Nat) : Int) ∧ fp [(95, none, none), (96, none, none), (97, none, none)] m t.2 ∧ (∀ k, k ≤ n → (t.2 95 0 k = if n - j < k then m 95 0 (k - 1) else m 95 0 k) ∧ (t.2 96 0 k = if n - j < k then m 96 0 (k - 1) else m 96 0 k) ∧ (t.2 97 0 k = if n - j < k then m 97 0 (k - 1) else m 97 0 k)) ∧ ∀ i y, n - j ≤ i → Q[i]? = some y → a.toInt < y.1.toInt) 0 n (Nat.zero_le _) (by omega) ⟨ew, fp_rf, fun k hk => ⟨by rw [if_neg (by omega)], by rw [if_neg (by omega)], by rw [if_neg (by omega)]⟩, fun i y h1 h2 => by have := z_lt h2; omega⟩ ?_ ?_
    · rintro j ⟨v, c⟩ hj ⟨hv, hf, hz, hd⟩
      dsimp only at hv hf hz hd ⊢
      obtain ⟨u, hu⟩ : ∃ u, n - j = u + 1 := ⟨n - j - 1, by omega⟩
      rw [hu] at hv hz hd
      have kv1 : (v - 1).toNatClampNeg = u := n_k (n_s1 hv)
      have i1 : mm_in (v - 1) 60 := v_in.mpr (by rw [n_s1 hv]; omega)
      have i2 : mm_in v 60 := v_in.mpr (by omega)
      obtain ⟨y, hy⟩ := z_ex (l := Q) (k := u) (by omega)
      obtain ⟨x1, x2, x3⟩ := hz u (by omega)
      rw [if_neg (by omega)] at x1 x2 x3
      have c95 : c 95 0 (v - 1).toNatClampNeg = y.1 := by rw [kv1, x1]; exact (hr.2 u y hy).1
      refine v_ifn (by rw [iA_le, i_0]; omega) ?_
      refine v_ifp i1 ?_
      by_cases hday : y.1.toInt ≤ a.toInt
      · refine v_ifp (by rw [c95, iA_le]; exact hday) ?_
        exact v_ir ⟨hf, u + 1, hv, by omega, hz, hd, Or.inr ⟨y, by rw [Nat.add_sub_cancel]; exact hy, hday⟩⟩
      · refine v_ifn (by rw [c95, iA_le]; exact hday) ?_
        refine v_ifp i1 (v_ifp i2 (v_lM ?_))
        refine v_ifp i1 (v_ifp i2 (v_lM ?_))
        refine v_ifp i1 (v_ifp i2 (v_lM ?_))
        refine v_l (v_il ?_)
        rw [n_k hv, kv1]
        refine ⟨by rw [show n - (j + 1) = u by omega]; exact n_s2 hv, fp_w rfl (fp_w rfl (fp_w rfl hf)), fun k hk => ?_, fun i y2 h1 h2 => ?_⟩
        · dsimp only
          rw [show n - (j + 1) = u by omega]
          obtain ⟨z1, z2, z3⟩ := hz k hk
          by_cases e : k = u + 1
          · subst e
            rw [if_pos (by omega), if_pos (by omega), if_pos (by omega), Nat.add_sub_cancel]
            refine ⟨?_, ?_, ?_⟩
            · rw [mw_g (by decide), mw_g (by decide), mw_s]
              exact x1
            · rw [mw_g (by decide), mw_s, mw_g (by decide)]
              exact x2
            · rw [mw_s, mw_g (by decide), mw_g (by decide)]
              exact x3
          · rw [mw_g (by decide), mw_g (by decide), mw_k e, mw_g (by decide), mw_k e, mw_g (by decide), mw_k e, mw_g (by decide), mw_g (by decide), z1, z2, z3]
            by_cases e2 : u + 1 < k
            · rw [if_pos e2, if_pos (by omega), if_pos e2, if_pos (by omega), if_pos e2, if_pos (by omega)]
              exact ⟨rfl, rfl, rfl⟩
            · rw [if_neg e2, if_neg (by omega), if_neg e2, if_neg (by omega), if_neg e2, if_neg (by omega)]
              exact ⟨rfl, rfl, rfl⟩
        · by_cases e : i = u
          · rw [e, hy] at h2
            cases h2
            omega
          · exact hd i y2 (by omega) h2
    · rintro ⟨v, c⟩ ⟨hv, hf, hz, hd⟩
      dsimp only at hv hf hz hd ⊢
      rw [Nat.sub_self] at hv hz hd
      refine v_ifp (by rw [iA_le, i_0]; omega) ?_
      exact v_ir ⟨hf, 0, hv, Nat.zero_le _, hz, hd, Or.inl rfl⟩
  · rintro ⟨v, c⟩ ⟨hf, p, hv, hp, hz, hd, hq⟩
    dsimp only at hv hf hz hd hq ⊢
    have ep : z_pl Q a = p := by
      refine z_pl_u (by omega) (fun i y hi hy => ?_) (fun y hy => hd p y (Nat.le_refl p) hy)
      rcases hq with h0 | ⟨x, hx, hxa⟩
      · omega
      · by_cases e : i = p - 1
        · rw [e, hx] at hy
          cases hy
          exact hxa
        · have := hso i (p - 1) y x (by omega) hy hx
          omega
    have e45 : c 12 0 45 = Int32.ofNat n := by rw [hf 12 0 45 rfl, hr.1, hn]
    have iv : mm_in v 60 := v_in.mpr (by omega)
    refine v_ifp iv (v_lM (v_ifp iv (v_lM (v_ifp iv (v_lM ?_)))))
    rw [n_k hv]
    refine v_lM (v_so ?_)
    rw [mw_g (show 12 ≠ 97 by decide), mw_g (show 12 ≠ 96 by decide), mw_g (show 12 ≠ 95 by decide), e45, n_a1]
    refine ⟨fp_w rfl (fp_w rfl (fp_w rfl (fp_w rfl (fp_sb (by decide) hf)))), ?_, fun k x hx => ?_⟩
    · rw [mw_s, z_ist_ln, hn]
    · obtain ⟨hk, hc⟩ := z_tkdr (z_pl_le Q a) hx
      rw [hn] at hk
      rw [ep] at hc
      obtain ⟨z1, z2, z3⟩ := hz k hk
      rcases hc with ⟨g1, g2⟩ | ⟨g1, g2⟩ | ⟨g1, g2⟩
      · rw [if_neg (by omega)] at z1 z2 z3
        obtain ⟨y1, y2, y3⟩ := hr.2 k x g2
        rw [mw_g (by decide), mw_g (by decide), mw_g (by decide), mw_k (by omega), mw_g (by decide), mw_g (by decide), mw_k (by omega), mw_g (by decide), mw_g (by decide), mw_k (by omega), mw_g (by decide), mw_g (by decide), z1, z2, z3]
        exact ⟨y1, y2, y3⟩
      · rw [g1, g2]
        simp (disch := first | omega | decide | fail) only [mw_s, mw_k, mw_i, mw_g]
        exact ⟨trivial, trivial, trivial⟩
      · rw [if_pos g1] at z1 z2 z3
        obtain ⟨y1, y2, y3⟩ := hr.2 (k - 1) x g2
        rw [mw_g (by decide), mw_g (by decide), mw_g (by decide), mw_k (by omega), mw_g (by decide), mw_g (by decide), mw_k (by omega), mw_g (by decide), mw_g (by decide), mw_k (by omega), mw_g (by decide), mw_g (by decide), z1, z2, z3]
        exact ⟨y1, y2, y3⟩
abbrev zS : zT := [(12, none, some 44), (12, none, some 58), (84, none, none), (85, none, none), (91, none, none), (92, none, none), (93, none, none), (94, none, none)]
def r_gd (m : mm_M) (W : List zX × Int32 × Bool) (r : mm_M) : Prop := fp zS m r ∧ r_st r W.1 ∧ r 12 0 58 = W.2.1
def r_ex (m : mm_M) (W : List zX × Int32 × Bool) : mm_M ⊕ (Int32 × mm_M) ⊕ mm_M → Prop
  | .inl r => r_gd m W r
  | .inr (.inl q) => ∃ S pos, fp zS m q.2 ∧ r_st q.2 S ∧ q.2 12 0 58 = pos ∧ W.1 = S ++ [((pos + q.1, 0, 3), 0)] ∧ W.2.1 = pos + q.1 ∧ S.length < 60
  | .inr (.inr r) => r_gd m W r
theorem r_steps {m : mm_M} {lw : zL} {t N Y : Nat} {K A B H bn ct o : Nat → Int32} {a1 col e age : Int32} (ht : t < 8) (hl : ∀ k, k < 4 → z_cdM m k (lw k)) (hd : ∀ k cd, lw k = some cd → z_dep cd 0 = some 1) (hB : z_thB N K A B Y) (hT : z_thM m t N K A B H Y) (hs : z_scM m bn ct o) (hb : z_nb N K A ct) (ha1 : a1.toInt = (t : Int)) : vW (f_X12_tellSteps a1 col e age m) (r_gd m (z_wk K A (z_lv lw K A H col age) bn ct e N N)) := by
  have h24 : N ≤ 24 := hB.2.1
  generalize hLL : z_lv lw K A H col age = L
  have hW := z_wk_b (L := L) (bn := bn) (e := e) hb h24
  have i9 : mm_in a1 9 := v_in.mpr (by omega)
  have k1 := n_k ha1
  unfold f_X12_tellSteps
  refine v_lM (v_lM ?_)
  have g0 : r_gd m (z_wk K A L bn ct e N 0) (mm_w (mm_w m 12 0 44 0) 12 0 58 0) := ⟨fp_w rfl (fp_w rfl fp_rf), ⟨by rw [mw_k (by decide), mw_s]; rfl, fun k x hx => by cases hx⟩, mw_s⟩
  refine v_s1 (P := r_ex m (z_wk K A L bn ct e N N)) ?_ ?_
  · refine v_for (fun j q => q.1.toInt = (j : Int) ∧ (z_wk K A L bn ct e N j).2.2 = false ∧ r_gd m (z_wk K A L bn ct e N j) q.2) 0 N (Nat.zero_le _) (by omega) ⟨i_0, rfl, g0⟩ ?_ ?_
    · rintro j ⟨v4, c⟩ hj ⟨h4, hst, hf, hr, h58⟩
      dsimp only at h4 hst hf hr h58 ⊢
      have hTc : z_thM c t N K A B H Y := z_thM_fr (fun g i k hg => hf g i k (z_dis_of (by decide) hg)) hT
      have hsc : z_scM c bn ct o := z_scM_fr (fun g i k hg => hf g i k (z_dis_of (by decide) hg)) hs
      have c67 : c 67 0 t = Int32.ofNat N := hTc.1
      refine v_ifp i9 ?_
      refine v_ifn (by rw [k1, c67, iA_le, nJ_T (by omega)]; omega) ?_
      obtain ⟨w1, w2, w3', w4⟩ := hW j (by omega)
      obtain ⟨w5, w6⟩ := w2 hst
      have hp : z_at N e j < N := z_at_lt hj
      have e1 : z_wk K A L bn ct e N (j + 1) = ((z_wk K A L bn ct e N j).1 ++ z_ps K A L bn ct e (z_at N e j) (z_wk K A L bn ct e N j).2.1, (if K (z_at N e j) = 0 then (z_wk K A L bn ct e N j).2.1 + z_lit A ct e (z_at N e j) else (z_wk K A L bn ct e N j).2.1), decide (K (z_at N e j) = 3 ∨ ¬ ct (z_at N e j) = -1)) := if_neg (by rw [hst]; decide)
      have eN : (z_wk K A L bn ct e N (j + 1)).2.2 = true → z_wk K A L bn ct e N N = z_wk K A L bn ct e N (j + 1) := fun h => z_wk_e h (by omega)
      refine v_lK (fun w => w.toInt = ((z_at N e j : Nat) : Int)) ?_ (fun k7 hk7 => ?_)
      · intro w hw
        generalize z_at N e j = p at hp e1 hw
        rw [e1] at eN
        dsimp only at eN
        rw [e1]
        generalize z_wk K A L bn ct e N j = W at h58 hst hr w1 w4 w5 w6 e1 eN ⊢
        obtain ⟨hA, hct, hK4⟩ := hb p hp
        have kw := n_k hw
        have iw : mm_in w 24 := v_in.mpr (by omega)
        have hx : (24 * a1 + w).toInt = ((24 * t + p : Nat) : Int) := z_ix ha1 hw (by omega) (by omega)
        refine v_lI (fun v8 h8 => ?_)
        rw [← h8] at hx
        clear h8
        have k8 := n_k hx
        have i8 : mm_in v8 216 := v_in.mpr (by omega)
        obtain ⟨c69, c70, _⟩ := hTc.2.2 p hp
        obtain ⟨c87, c88, _⟩ := hsc p (by omega)
        refine v_ifp i8 ?_
        by_cases hK3 : K p = 3
        · refine v_ifn (by rw [k8, c69]; exact fun z => z hK3) (v_ir ?_)
          have ez : z_ps K A L bn ct e p W.2.1 = [] := by
            unfold z_ps
            rw [if_neg (by rw [hK3]; decide), if_pos hK3]
          show r_gd m (z_wk K A L bn ct e N N) c
          rw [eN (decide_eq_true (Or.inl hK3)), ez, List.append_nil, if_neg (by rw [hK3]; decide)]
          exact ⟨hf, hr, h58⟩
        · refine v_ifp (by rw [k8, c69]; exact hK3) (v_ifp i8 ?_)
          by_cases hK : K p = 0
          · have hlit := z_lit_b (e := e) hb hp
            have hhalf := n_half hA.1
            have ez : z_ps K A L bn ct e p W.2.1 = (if bn p ≤ 0 ∨ z_lit A ct e p < A p / 2 then [] else [((W.2.1 + A p / 2, bn p, 0), 0)]) ++ (if ct p = -1 then [] else [((W.2.1 + z_lit A ct e p, 0, 3), 0)]) := if_pos hK
            refine v_ifp (by rw [k8, c69]; exact hK) (v_ifp iw ?_)
            refine v_lK (fun w9 => (w9 = 0 ∧ ct p = -1) ∨ (w9 = 1 ∧ ¬ ct p = -1)) ?_ (fun k10 hk10 => ?_)
            · intro w9 h9
              refine v_lK (fun w11 => ¬ ct p = -1 → w11 = z_lit A ct e p) ?_ (fun k12 hk12 => ?_)
              · intro w11 h11
                refine v_ifp i8 ?_
                refine v_lI (fun v13 h13 => ?_)
                rw [k8, c70] at h13
                refine v_ifp iw ?_
                refine v_lKm (fun c' => fp zS m c' ∧ r_st c' (W.1 ++ (if bn p ≤ 0 ∨ z_lit A ct e p < A p / 2 then [] else [((W.2.1 + A p / 2, bn p, 0), 0)])) ∧ c' 12 0 58 = W.2.1) ?_ (fun k15 hk15 => ?_)
                · rintro c' ⟨f1, r1, r2⟩
                  have hSl : (W.1 ++ (if bn p ≤ 0 ∨ z_lit A ct e p < A p / 2 then [] else [((W.2.1 + A p / 2, bn p, 0), 0)])).length < 60 := by
                    rw [List.length_append]
                    have : (if bn p ≤ 0 ∨ z_lit A ct e p < A p / 2 then ([] : List zX) else [((W.2.1 + A p / 2, bn p, 0), 0)]).length ≤ 1 := by split <;> simp
                    omega
                  rcases h9 with ⟨h9, hc⟩ | ⟨h9, hc⟩
                  · have c70' : c' 70 0 v8.toNatClampNeg = A p := by rw [k8, f1 70 0 _ rfl]; exact (hT.2.2 p hp).2.1
                    refine v_ifp h9 (v_ifp i8 (v_lM (v_l1 (v_il ⟨n_s3 h4 (by omega), ?_, fp_w rfl f1, ?_, ?_⟩))))
                    · dsimp only
                      exact decide_eq_false (fun z => by rcases z with z | z; exact hK3 z; exact z hc)
                    · dsimp only
                      rw [ez, if_pos hc, List.append_nil]
                      exact r_st_fr (L := [(12, none, some 58)]) (fp_w rfl fp_rf) (by decide) r1
                    · dsimp only
                      rw [mw_s, r2, c70', if_pos hK]
                      unfold z_lit
                      rw [if_pos hc]
                  · refine v_ifn (by rw [h9]; decide) (v_ir ?_)
                    show ∃ S pos, fp zS m c' ∧ r_st c' S ∧ c' 12 0 58 = pos ∧ (z_wk K A L bn ct e N N).1 = S ++ [((pos + w11, 0, 3), 0)] ∧ (z_wk K A L bn ct e N N).2.1 = pos + w11 ∧ S.length < 60
                    refine ⟨_, _, f1, r1, r2, ?_, ?_, hSl⟩
                    · rw [eN (decide_eq_true (Or.inr hc)), ez, if_neg hc, h11 hc, List.append_assoc]
                    · rw [eN (decide_eq_true (Or.inr hc)), if_pos hK, h11 hc]
                · by_cases g1 : bn p ≤ 0
                  · refine v_ifp (by rw [kw, c87]; exact g1) (hk15 c ⟨hf, ?_, h58⟩)
                    rw [if_pos (Or.inl g1), List.append_nil]
                    exact hr
                  · refine v_ifn (by rw [kw, c87]; exact g1) (v_lO ?_)
                    have k18 : ¬ z_lit A ct e p < A p / 2 → ∀ Q, (∀ c', (fp zS m c' ∧ r_st c' (W.1 ++ (if bn p ≤ 0 ∨ z_lit A ct e p < A p / 2 then [] else [((W.2.1 + A p / 2, bn p, 0), 0)])) ∧ c' 12 0 58 = W.2.1) → vW (k15 c') Q) → vW (if mm_in w 24 then mm_b1 (f_X12_addStep (c 12 0 58 + v13) (c 87 0 w.toNatClampNeg) 0 0 c) (fun m20 => k15 m20) else none) Q := fun g2 Q hq => by
                      refine v_ifp iw ?_
                      rw [kw, c87, h58, h13]
                      refine v_s1 (r_addSt hr (by omega)) ?_
                      rintro m20 ⟨f2, r2⟩
                      refine hq m20 ⟨fp_tr hf (fp_sb (by decide) f2), ?_, (f2 12 0 58 rfl).trans h58⟩
                      rw [if_neg (fun z => by rcases z with z | z; exact g1 z; exact g2 z)]
                      exact r2
                    rcases h9 with ⟨h9, hc⟩ | ⟨h9, hc⟩
                    · refine v_ifp h9 (k18 ?_ _ hk15)
                      unfold z_lit
                      rw [if_pos hc, iA_lt]
                      omega
                    · refine v_ifn (by rw [h9]; decide) ?_
                      by_cases g2 : z_lit A ct e p < A p / 2
                      · refine v_ifp (by rw [h11 hc, h13]; exact g2) (hk15 c ⟨hf, ?_, h58⟩)
                        rw [if_pos (Or.inr g2), List.append_nil]
                        exact hr
                      · exact v_ifn (by rw [h11 hc, h13]; exact g2) (k18 g2 _ hk15)
              · by_cases he : e = 0
                · refine v_ifp he (v_ifp iw (hk12 _ (fun hc => ?_)))
                  unfold z_lit
                  rw [if_neg hc, if_pos he, kw, c88]
                · refine v_ifn he (v_ifp i8 (v_ifp iw (hk12 _ (fun hc => ?_))))
                  unfold z_lit
                  rw [if_neg hc, if_neg he, kw, k8, c88, c70]
            · by_cases hc : ct p = -1
              · exact v_ifp (by rw [kw, c88]; exact hc) (hk10 0 (Or.inl ⟨rfl, hc⟩))
              · exact v_ifn (by rw [kw, c88]; exact hc) (hk10 1 (Or.inr ⟨rfl, hc⟩))
          · have hc : ct p = -1 := by
              rcases hct with h | h
              · exact h
              · exact absurd h.2.2 hK
            have ez : z_ps K A L bn ct e p W.2.1 = [((W.2.1, L p, K p), if K p = 2 then A p else 0)] := (if_neg hK).trans (if_neg hK3)
            refine v_ifn (by rw [k8, c69]; exact hK) ?_
            refine v_s2 (r_loss (col := col) (age := age) ht (fun k hk => z_cdM_fr (fun g i k hg => hf g i k (z_dis_of (by decide) hg)) (hl k hk)) hd hB hTc hx hp) ?_
            rintro r21 m22 ⟨h21, f22⟩
            dsimp only at h21 f22
            rw [hLL] at h21
            rw [h21]
            have d69 : m22 69 0 v8.toNatClampNeg = K p := by rw [k8, f22 69 0 _ rfl]; exact c69
            have d70 : m22 70 0 v8.toNatClampNeg = A p := by rw [k8, f22 70 0 _ rfl]; exact c70
            have r22 : r_st m22 W.1 := r_st_fr f22 (by decide) hr
            have fin : ∀ c', fp [(12, none, some 44), (91, none, none), (92, none, none), (93, none, none), (94, none, none)] m22 c' ∧ r_st c' (W.1 ++ [((W.2.1, L p, K p), if K p = 2 then A p else 0)]) → (v4 + 1).toInt = ((j + 1 : Nat) : Int) ∧ (decide (K p = 3 ∨ ¬ ct p = -1)) = false ∧ fp zS m c' ∧ r_st c' (W.1 ++ z_ps K A L bn ct e p W.2.1) ∧ c' 12 0 58 = (if K p = 0 then W.2.1 + z_lit A ct e p else W.2.1) := fun c' h => by
              refine ⟨n_s3 h4 (by omega), decide_eq_false (fun z => by rcases z with z | z; exact hK3 z; exact z hc), fp_tr hf (fp_tr (fp_sb (by decide) f22) (fp_sb (by decide) h.1)), by rw [ez]; exact h.2, ?_⟩
              rw [if_neg hK, h.1 12 0 58 rfl, f22 12 0 58 rfl]
              exact h58
            refine v_ifp i8 (v_ifp i8 ?_)
            rw [h58, d69, d70]
            by_cases hK2 : K p = 2
            · refine v_ifn (fun z => z hK2) (v_ifp i8 ?_)
              refine v_s1 (r_addSt r22 (by omega)) ?_
              intro c' h
              refine v_l1 (v_il (fin c' ⟨h.1, ?_⟩))
              rw [if_pos hK2]
              exact h.2
            · refine v_ifp hK2 ?_
              refine v_s1 (r_addSt r22 (by omega)) ?_
              intro c' h
              refine v_l1 (v_il (fin c' ⟨h.1, ?_⟩))
              rw [if_neg hK2]
              exact h.2
      · by_cases he : e = 0
        · refine v_ifp he (hk7 v4 ?_)
          unfold z_at
          rw [if_pos he]
          exact h4
        · refine v_ifn he (v_ifp i9 (hk7 _ ?_))
          unfold z_at
          rw [if_neg he, k1, c67, iA_sub (by rw [n_0N (by omega)]; omega) (by rw [n_0N (by omega)]; omega), n_0N (by omega)]
          omega
    · rintro ⟨v4, c⟩ ⟨h4, hst, hg⟩
      dsimp only at h4 hst hg ⊢
      have c67 : c 67 0 t = Int32.ofNat N := (hg.1 67 0 t rfl).trans hT.1
      exact v_ifp i9 (v_ifp (by rw [k1, c67, iA_le, nJ_T (by omega)]; omega) (v_ir hg))
  · rintro (m29 | ⟨v30, m31⟩ | m35) h
    · exact v_so h
    · obtain ⟨S, pos, f1, r1, h58, hS, hp, hSl⟩ := h
      dsimp only at f1 r1 h58 hS hp ⊢
      refine v_lM ?_
      rw [mw_s, h58]
      refine v_s1 (r_addSt (S := S) (r_st_fr (L := [(12, none, some 58)]) (fp_w rfl fp_rf) (by decide) r1) hSl) ?_
      rintro r ⟨f2, r2⟩
      refine v_so ⟨fp_tr (fp_w rfl f1) (fp_sb (by decide) f2), by rw [hS]; exact r2, ?_⟩
      rw [f2 12 0 58 rfl, mw_s, hp]
    · exact v_so h
