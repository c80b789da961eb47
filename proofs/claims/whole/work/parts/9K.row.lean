/-! the row of the other side, seen ones and ghosts -/
abbrev zW : zT := [(12, none, some 44), (12, none, some 45), (12, none, some 58), (84, none, none), (85, none, none), (91, none, none), (92, none, none), (93, none, none), (94, none, none), (95, none, none), (96, none, none), (97, none, none), (101, none, none), (102, none, none)]
theorem r_rw_fr {L : zT} {m m' : mm_M} {Q : List zQ} (hf : fp L m m') (hd : z_dis [(12, none, some 45), (95, none, none), (96, none, none), (97, none, none)] L = true) (h : r_rw m Q) : r_rw m' Q := ⟨(hf 12 0 45 (z_dis_of hd rfl)).trans h.1, fun k x hx => by
  obtain ⟨h1, h2, h3⟩ := h.2 k x hx
  exact ⟨(hf 95 0 k (z_dis_of hd rfl)).trans h1, (hf 96 0 k (z_dis_of hd rfl)).trans h2, (hf 97 0 k (z_dis_of hd rfl)).trans h3⟩⟩
theorem z_seen_tk {D : Int32} {S : List zX} {j : Nat} {x : zX} (h : S[j]? = some x) : z_seen D (S.take (j + 1)) = z_add D (z_seen D (S.take j)) x := by
  rw [List.take_succ, h, z_seen_app]
  rfl
theorem r_row {m : mm_M} {lw : zL} {t N Y : Nat} {K A B H bn ct o : Nat → Int32} {a1 col e age D : Int32} (ht : t < 8) (hl : ∀ k, k < 4 → z_cdM m k (lw k)) (hd : ∀ k cd, lw k = some cd → z_dep cd 0 = some 1) (hB : z_thB N K A B Y) (hT : z_thM m t N K A B H Y) (hs : z_scM m bn ct o) (hb : z_nb N K A ct) (ha1 : a1.toInt = (t : Int)) (hD : m 12 0 43 = D) (hD0 : 0 ≤ D.toInt ∧ D.toInt ≤ 99) : vW (f_X12_tellRow a1 col e age m) (fun r => fp zW m r ∧ r_rw r (z_row D (z_wk K A (z_lv lw K A H col age) bn ct e N N).2.1 (z_seen D (z_wk K A (z_lv lw K A H col age) bn ct e N N).1))) := by
  have h24 : N ≤ 24 := hB.2.1
  unfold f_X12_tellRow
  refine v_s1 (r_steps (e := e) ht hl hd hB hT hs hb ha1) ?_
  rintro m2 ⟨f2, r2, h58⟩
  obtain ⟨_, _, w3', w4⟩ := z_wk_b (L := z_lv lw K A H col age) (bn := bn) (e := e) hb h24 N (Nat.le_refl N)
  generalize z_wk K A (z_lv lw K A H col age) bn ct e N N = W at r2 h58 w3' w4 ⊢
  obtain ⟨S, len, st⟩ := W
  dsimp only at r2 h58 w3' w4 ⊢
  refine v_lM ?_
  have e43 : m2 12 0 43 = D := (f2 12 0 43 rfl).trans hD
  generalize hm3 : mm_w m2 12 0 45 0 = m3
  have f3 : fp zW m m3 := by rw [← hm3]; exact fp_w rfl (fp_sb (by decide) f2)
  have r3 : r_st m3 S := by rw [← hm3]; exact r_st_fr (L := [(12, none, some 45)]) (fp_w rfl fp_rf) (by decide) r2
  have q3 : r_rw m3 [] := ⟨by rw [← hm3, mw_s]; rfl, fun k x hx => by cases hx⟩
  have h58' : m3 12 0 58 = len := by rw [← hm3, mw_k (by decide)]; exact h58
  have e43' : m3 12 0 43 = D := by rw [← hm3, mw_k (by decide)]; exact e43
  clear hm3 e43 h58 r2 f2
  have sb : ∀ j, z_so ((z_seen D (S.take j)).map (·.1)) ∧ (∀ y, y ∈ z_seen D (S.take j) → z_xb y) ∧ (z_seen D (S.take j)).length ≤ 25 := fun j => by
    obtain ⟨h1, h2, h3⟩ := z_seen_b hD0.1 (S := S.take j) (fun y hy => w4 y (List.mem_of_mem_take hy))
    have : (S.take j).length ≤ S.length := by rw [List.length_take]; omega
    exact ⟨h1, h2, by omega⟩
  refine v_s1 (P := fun q => fp [(12, none, some 45), (95, none, none), (96, none, none), (97, none, none), (101, none, none)] m3 q.2 ∧ q.1.toInt = ((z_seen D S).length : Int) ∧ r_rw q.2 ((z_seen D S).map (·.1)) ∧ ∀ k x, (z_seen D S)[k]? = some x → ∃ i, i < S.length ∧ q.2 101 0 k = Int32.ofNat i ∧ S[i]? = some x) ?_ ?_
  · refine v_for (fun j q => q.2.2.1.toInt = (j : Int) ∧ q.1.toInt = ((z_seen D (S.take j)).length : Int) ∧ fp [(12, none, some 45), (95, none, none), (96, none, none), (97, none, none), (101, none, none)] m3 q.2.2.2 ∧ r_rw q.2.2.2 ((z_seen D (S.take j)).map (·.1)) ∧ (∀ k x, (z_seen D (S.take j))[k]? = some x → ∃ i, i < j ∧ q.2.2.2 101 0 k = Int32.ofNat i ∧ S[i]? = some x) ∧ ((z_seen D (S.take j) = [] ∧ q.2.1 = -1) ∨ ∃ i y, i < j ∧ q.2.1.toInt = (i : Int) ∧ S[i]? = some y ∧ (z_seen D (S.take j))[(z_seen D (S.take j)).length - 1]? = some y)) 0 S.length (Nat.zero_le _) (by omega) ⟨i_0, i_0, fp_rf, q3, fun k x hx => (by cases hx), Or.inl ⟨rfl, rfl⟩⟩ ?_ ?_
    · rintro j ⟨v5, v6, v7, c⟩ hj ⟨h7, h5, hf, hr, hx, hlast⟩
      dsimp only at h7 h5 hf hr hx hlast ⊢
      obtain ⟨s1, s2, s3⟩ := sb j
      obtain ⟨x, hS⟩ := z_ex hj
      rw [z_seen_tk hS]
      generalize z_seen D (S.take j) = R at h5 hr hx hlast s1 s2 s3 ⊢
      have rS : r_st c S := r_st_fr hf (by decide) r3
      obtain ⟨x1, x2, x3, x4⟩ := rS.2 j x hS
      have hxb := w4 x (List.mem_of_getElem? hS)
      have i7 : mm_in v7 60 := v_in.mpr (by omega)
      have k7 := n_k h7
      refine v_ifn (by rw [rS.1, iA_le, nJ_T (by omega)]; omega) ?_
      refine v_lK (fun w9 => (w9 = 1 ∧ z_see D R x) ∨ (w9 = 0 ∧ ¬ z_see D R x)) ?_ (fun k10 hk10 => ?_)
      · rintro w9 (⟨rfl, hsee⟩ | ⟨rfl, hsee⟩)
        · refine v_ifp (by decide) (v_ifp i7 (v_ifp i7 (v_ifp i7 ?_)))
          rw [k7, x1, x2, x3]
          refine v_s1 (r_addRw hr s1 (by rw [List.length_map]; omega)) ?_
          rintro m12 ⟨g1, g2⟩
          refine v_ifp (v_in.mpr (by omega)) ?_
          rw [n_k h5]
          refine v_lM (v_l1 (v_l1 (v_il ?_)))
          obtain ⟨b1, _, _, _⟩ := z_add_b hD0.1 s1 s2 hxb
          rw [z_add_y hsee] at b1 ⊢
          have eI : z_ist (R.map (·.1)) (x.1.1, x.1.2.1, x.1.2.2) = (R ++ [x]).map (·.1) := by
            rw [List.map_append]
            refine z_ist_E (fun y hy => ?_)
            obtain ⟨k, hk⟩ := List.mem_iff_getElem?.mp hy
            have hkl := z_lt hk
            rw [List.map_append] at b1
            refine b1 k (R.map (·.1)).length y x.1 hkl ?_ ?_
            · rw [List.getElem?_append, if_pos hkl]
              exact hk
            · exact List.getElem?_concat_length
          rw [eI] at g2
          refine ⟨n_s3 h7 (by omega), ?_, fp_w rfl (fp_tr hf (fp_sb (by decide) g1)), r_rw_fr (L := [(101, none, none)]) (fp_w rfl fp_rf) (by decide) g2, fun k y hy => ?_, Or.inr ⟨j, x, by omega, h7, hS, ?_⟩⟩
          · rw [List.length_append, List.length_singleton]
            exact n_s3 h5 (by omega)
          · rcases z_snoc hy with ⟨y1, y2⟩ | ⟨y1, y2⟩
            · obtain ⟨i, i1, i2, i3⟩ := hx k y y2
              refine ⟨i, by omega, ?_, i3⟩
              dsimp only
              rw [mw_k (by omega), g1 101 0 k rfl]
              exact i2
            · refine ⟨j, by omega, ?_, by rw [y2]; exact hS⟩
              dsimp only
              rw [y1, mw_s]
              exact n_0L (by omega) h7
          · rw [List.length_append, List.length_singleton, Nat.add_sub_cancel]
            exact List.getElem?_concat_length
        · refine v_ifn (by decide) (v_l1 (v_il ?_))
          rw [z_add_n hsee]
          refine ⟨n_s3 h7 (by omega), h5, hf, hr, fun k y hy => ?_, ?_⟩
          · obtain ⟨i, i1, i2, i3⟩ := hx k y hy
            exact ⟨i, by omega, i2, i3⟩
          · rcases hlast with h | ⟨i, y, i1, i2, i3, i4⟩
            · exact Or.inl h
            · exact Or.inr ⟨i, y, by omega, i2, i3, i4⟩
      · rcases hlast with ⟨hR0, h6⟩ | ⟨i, y, hi, h6, hSi, hRl⟩
        · refine v_ifp h6 (hk10 1 (Or.inl ⟨rfl, ?_⟩))
          rw [hR0]
          exact z_see_0
        · have hyb := w4 y (List.mem_of_getElem? hSi)
          have k6 := n_k h6
          have c43 : c 12 0 43 = D := (hf 12 0 43 rfl).trans e43'
          obtain ⟨y1, _⟩ := rS.2 i y hSi
          have hi2 := z_see_l (D := D) (x := x) hRl
          refine v_ifn (n_ne (by rw [h6, i_m1]; omega)) ?_
          refine v_ifp i7 (v_ifp (v_in.mpr (by omega)) ?_)
          have e2 : (c 91 0 v6.toNatClampNeg + c 12 0 43).toInt = y.1.1.toInt + D.toInt := by
            have := hyb.1
            rw [k6, y1, c43, iA_add (by omega) (by omega)]
          have e3 : c 91 0 v7.toNatClampNeg = x.1.1 := by rw [k7]; exact x1
          by_cases g1 : x.1.1.toInt ≤ y.1.1.toInt + D.toInt
          · refine v_ifp (by rw [e3, iA_le, e2]; exact g1) (hk10 0 (Or.inr ⟨rfl, ?_⟩))
            rw [hi2]
            omega
          refine v_ifn (by rw [e3, iA_le, e2]; exact g1) (v_ifp i7 ?_)
          by_cases g2 : 40 ≤ x.1.2.1.toInt
          · refine v_ifp (by rw [k7, x2, iA_le, i_40]; exact g2) (hk10 1 (Or.inl ⟨rfl, ?_⟩))
            rw [hi2]
            exact ⟨by omega, Or.inl g2⟩
          refine v_ifn (by rw [k7, x2, iA_le, i_40]; exact g2) (v_ifp i7 ?_)
          by_cases g3 : x.1.2.2 = 3
          · refine v_ifn (by rw [k7, x3]; exact fun z => z g3) (hk10 1 (Or.inl ⟨rfl, ?_⟩))
            rw [hi2]
            exact ⟨by omega, Or.inr g3⟩
          · refine v_ifp (by rw [k7, x3]; exact g3) (hk10 0 (Or.inr ⟨rfl, ?_⟩))
            rw [hi2]
            rintro ⟨_, h | h⟩
            · exact g2 h
            · exact g3 h
    · rintro ⟨v5, v6, v7, c⟩ ⟨h7, h5, hf, hr, hx, hlast⟩
      dsimp only at h7 h5 hf hr hx hlast ⊢
      have rS : r_st c S := r_st_fr hf (by decide) r3
      rw [List.take_length] at h5 hr hx
      exact v_ifp (by rw [rS.1, iA_le, nJ_T (by omega)]; omega) (v_ir ⟨hf, h5, hr, hx⟩)
  · rintro ⟨v17, m18⟩ ⟨f18, h17, r18, x18⟩
    dsimp only at f18 h17 r18 x18 ⊢
    have hsb := sb S.length
    rw [List.take_length] at hsb
    obtain ⟨s1, s2, s3⟩ := hsb
    generalize hR : z_seen D S = R at h17 r18 x18 s1 s2 s3 ⊢
    have hml : (R.map (·.1)).length = R.length := List.length_map _
    refine v_lI (fun v19 h19 => ?_)
    have e19 : v19.toInt = (R.length : Int) := by rw [h19, r18.1, hml, nJ_T (by omega)]
    clear h19
    refine v_s1 (P := fun c => fp [(102, none, none)] m18 c ∧ ∀ k, k < R.length → c 102 0 k = m18 95 0 k) ?_ ?_
    · refine v_for (fun j q => q.1.toInt = (j : Int) ∧ fp [(102, none, none)] m18 q.2 ∧ ∀ k, k < j → q.2 102 0 k = m18 95 0 k) 0 R.length (Nat.zero_le _) (by omega) ⟨i_0, fp_rf, fun k hk => absurd hk (Nat.not_lt_zero k)⟩ ?_ ?_
      · rintro j ⟨v, c⟩ hj ⟨hv, hf, hz⟩
        dsimp only at hv hf hz ⊢
        refine v_ifn (by rw [iA_le]; omega) ?_
        refine v_ifp (v_in.mpr (by omega)) (v_ifp (v_in.mpr (by omega)) (v_lM ?_))
        rw [n_k hv]
        refine v_l1 (v_il ⟨n_s3 hv (by omega), fp_w rfl hf, fun k hk => ?_⟩)
        dsimp only
        by_cases e : k = j
        · rw [e, mw_s]
          exact hf 95 0 j rfl
        · rw [mw_k e]
          exact hz k (by omega)
      · rintro ⟨v, c⟩ ⟨hv, hf, hz⟩
        dsimp only at hv hf hz ⊢
        exact v_ifp (by rw [iA_le]; omega) (v_ir ⟨hf, hz⟩)
    · rintro m25 ⟨f25, z25⟩
      have r25 := r_rw_fr f25 (by decide) r18
      have x25 : ∀ k x, R[k]? = some x → ∃ i, i < S.length ∧ m25 101 0 k = Int32.ofNat i ∧ S[i]? = some x := fun k x hx => by
        obtain ⟨i, i1, i2, i3⟩ := x18 k x hx
        exact ⟨i, i1, (f25 101 0 k rfl).trans i2, i3⟩
      have y25 : ∀ k x, R[k]? = some x → m25 102 0 k = x.1.1 := fun k x hx => by
        rw [z25 k (z_lt hx)]
        exact (r18.2 k x.1 (by rw [List.getElem?_map, hx]; rfl)).1
      have S25 : r_st m25 S := r_st_fr f25 (by decide) (r_st_fr f18 (by decide) r3)
      have d25 : m25 12 0 43 = D := (f25 12 0 43 rfl).trans ((f18 12 0 43 rfl).trans e43')
      have l25 : m25 12 0 58 = len := (f25 12 0 58 rfl).trans ((f18 12 0 58 rfl).trans h58')
      have g25 : fp zW m m25 := fp_tr f3 (fp_tr (fp_sb (by decide) f18) (fp_sb (by decide) f25))
      clear f25 f18 f3 r18 x18 z25 h58' e43' r3 q3
      refine v_s1 (P := fun r => fp zW m r ∧ r_rw r (z_row D len R)) ?_ (fun r h => v_so h)
      refine v_for (fun j q => q.1.toInt = (j : Int) ∧ fp [(12, none, some 45), (95, none, none), (96, none, none), (97, none, none)] m25 q.2 ∧ r_rw q.2 ((z_mi (R.take j)).foldl (z_g1 D len R) (R.map (fun x : zX => x.1)))) 0 R.length (Nat.zero_le _) (by omega) ⟨i_0, fp_rf, r25⟩ ?_ ?_
      · rintro j ⟨v, c⟩ hj ⟨hv, hf, hr⟩
        dsimp only at hv hf hr ⊢
        obtain ⟨hg1, hg2⟩ := z_gf_r (D := D) (len := len) (z_mi (R.take j)) (R.map (·.1)) (z_rg_0 s1 s2)
        have htj : (R.take j).length = j := by rw [List.length_take]; omega
        have hmj := z_mi_l (R.take j)
        rw [hml] at hg2
        obtain ⟨x, hx⟩ := z_ex hj
        have hxb := s2 x (List.mem_of_getElem? hx)
        have hnx : (z_mi (R.take (j + 1))).foldl (z_g1 D len R) (R.map (·.1)) = (z_mi1 x).foldl (z_g1 D len R) ((z_mi (R.take j)).foldl (z_g1 D len R) (R.map (·.1))) := by
          rw [List.take_succ, hx, Option.toList_some, z_mi_sn, List.foldl_append]
        rw [hnx]
        generalize (z_mi (R.take j)).foldl (z_g1 D len R) (R.map (·.1)) = Q at hr hg1 hg2 ⊢
        obtain ⟨i, hi, i101, iS⟩ := x25 j x hx
        have rS : r_st c S := r_st_fr hf (by decide) S25
        obtain ⟨x1, x2, x3, x4⟩ := rS.2 i x iS
        have c101 : c 101 0 j = Int32.ofNat i := (hf 101 0 j rfl).trans i101
        have i29 : mm_in (Int32.ofNat i) 60 := nJ_in (by omega) (by decide)
        have k29 : (Int32.ofNat i).toNatClampNeg = i := nJ_N (by omega)
        have same : z_mi1 x = [] → (v + 1).toInt = ((j + 1 : Nat) : Int) ∧ fp [(12, none, some 45), (95, none, none), (96, none, none), (97, none, none)] m25 c ∧ r_rw c ((z_mi1 x).foldl (z_g1 D len R) Q) := fun h => ⟨n_s3 hv (by omega), hf, by rw [h]; exact hr⟩
        refine v_ifn (by rw [iA_le]; omega) ?_
        refine v_ifp (v_in.mpr (by omega)) ?_
        rw [n_k hv, c101]
        refine v_lI (fun v29 h29 => ?_)
        rw [← h29] at i29 k29
        clear h29
        refine v_ifp i29 ?_
        refine v_lI (fun v30 h30 => ?_)
        rw [k29, x1] at h30
        refine v_ifp i29 ?_
        by_cases g1 : x.1.2.2 = 2
        · refine v_ifn (by rw [k29, x3]; exact fun z => z g1) (v_ifp i29 ?_)
          by_cases g2 : x.2.toInt < 10
          · exact v_ifp (by rw [k29, x4, iA_lt, show (10 : Int32).toInt = 10 by decide]; exact g2) (v_l1 (v_il (same (if_neg (fun z => by have := z.2.1; omega)))))
          refine v_ifn (by rw [k29, x4, iA_lt, show (10 : Int32).toInt = 10 by decide]; exact g2) ?_
          by_cases g3 : x.1.1 = 0
          · exact v_ifp (by rw [h30]; exact g3) (v_l1 (v_il (same (if_neg (fun z => by have := z.2.2; rw [g3, i_0] at this; omega)))))
          refine v_ifn (by rw [h30]; exact g3) ?_
          have hd0 : 0 < x.1.1.toInt := by
            have h1 := hxb.2.1 g1
            rw [iA_eq, i_0] at g3
            omega
          have em : z_mi1 x = [x.1.1] := if_pos ⟨g1, by omega, hd0⟩
          have c58 : c 12 0 58 = len := (hf 12 0 58 rfl).trans l25
          have c43 : c 12 0 43 = D := (hf 12 0 43 rfl).trans d25
          have one : (z_mi1 x).foldl (z_g1 D len R) Q = z_g1 D len R Q x.1.1 := by rw [em]; rfl
          by_cases g4 : (2 * x.1.1).toInt < len.toInt
          · refine v_ifp (by rw [h30, c58, iA_lt]; exact g4) ?_
            refine v_s1 (P := fun r => (r = 0 ∧ ∀ y, y ∈ R → D.toInt < (mm_abs (y.1.1 - 2 * x.1.1)).toInt) ∨ (r = 1 ∧ ¬ ∀ y, y ∈ R → D.toInt < (mm_abs (y.1.1 - 2 * x.1.1)).toInt)) ?_ ?_
            · refine v_for (fun k q => q.2.toInt = (k : Int) ∧ ((q.1 = 0 ∧ ∀ i y, i < k → R[i]? = some y → D.toInt < (mm_abs (y.1.1 - 2 * x.1.1)).toInt) ∨ (q.1 = 1 ∧ ¬ ∀ y, y ∈ R → D.toInt < (mm_abs (y.1.1 - 2 * x.1.1)).toInt))) 0 R.length (Nat.zero_le _) (by omega) ⟨i_0, Or.inl ⟨rfl, fun i y hi => absurd hi (Nat.not_lt_zero i)⟩⟩ ?_ ?_
              · rintro k ⟨u, w⟩ hk ⟨hw, hz⟩
                dsimp only at hw hz ⊢
                refine v_ifn (by rw [iA_le]; omega) ?_
                rcases hz with ⟨hu, hz⟩ | ⟨hu, hz⟩
                · refine v_ifn (by rw [hu]; decide) ?_
                  refine v_ifp (v_in.mpr (by omega)) ?_
                  obtain ⟨y, hy⟩ := z_ex hk
                  have c102 : c 102 0 w.toNatClampNeg = y.1.1 := by rw [n_k hw, hf 102 0 k rfl]; exact y25 k y hy
                  by_cases g5 : D.toInt < (mm_abs (y.1.1 - 2 * x.1.1)).toInt
                  · refine v_ifp (by rw [c43, c102, h30, iA_lt]; exact g5) (v_l1 (v_il ⟨n_s3 hw (by omega), Or.inl ⟨rfl, fun i z hi hz2 => ?_⟩⟩))
                    by_cases e : i = k
                    · rw [e, hy] at hz2
                      cases hz2
                      exact g5
                    · exact hz i z (by omega) hz2
                  · refine v_ifn (by rw [c43, c102, h30, iA_lt]; exact g5) (v_l1 (v_il ⟨n_s3 hw (by omega), Or.inr ⟨rfl, fun h => g5 (h y (List.mem_of_getElem? hy))⟩⟩))
                · exact v_ifp (by rw [hu]; decide) (v_l1 (v_il ⟨n_s3 hw (by omega), Or.inr ⟨rfl, hz⟩⟩))
              · rintro ⟨u, w⟩ ⟨hw, hz⟩
                dsimp only at hw hz ⊢
                refine v_ifp (by rw [iA_le]; omega) (v_ir ?_)
                rcases hz with ⟨hu, hz⟩ | hz
                · refine Or.inl ⟨hu, fun y hy => ?_⟩
                  obtain ⟨k, hk⟩ := List.mem_iff_getElem?.mp hy
                  exact hz k y (z_lt hk) hk
                · exact Or.inr hz
            · rintro v40 (⟨rfl, hn⟩ | ⟨rfl, hn⟩)
              · refine v_ifn (by decide) ?_
                rw [h30]
                refine v_s1 (r_addRw hr hg1.1 (by omega)) ?_
                rintro m43 ⟨g6, g7⟩
                refine v_l1 (v_il ⟨n_s3 hv (by omega), fp_tr hf g6, ?_⟩)
                rw [one, z_g1_y ⟨g4, hn⟩]
                exact g7
              · refine v_ifp (by decide) (v_l1 (v_il ⟨n_s3 hv (by omega), hf, ?_⟩))
                rw [one, z_g1_n (fun z => hn z.2)]
                exact hr
          · refine v_ifn (by rw [h30, c58, iA_lt]; exact g4) (v_l1 (v_il ⟨n_s3 hv (by omega), hf, ?_⟩))
            rw [one, z_g1_n (fun z => g4 z.1)]
            exact hr
        · exact v_ifp (by rw [k29, x3]; exact g1) (v_l1 (v_il (same (if_neg (fun z => g1 z.1)))))
      · rintro ⟨v, c⟩ ⟨hv, hf, hr⟩
        dsimp only at hv hf hr ⊢
        rw [List.take_length] at hr
        exact v_ifp (by rw [iA_le]; omega) (v_ir ⟨fp_tr g25 (fp_sb (by decide) hf), hr⟩)
