/-! readBack, the other side and the op -/
theorem v_s2p {α : Type} {o : Option α} {P Q : α → Prop} (h : ∀ q, P q → Q q) (hp : vW o P) : vW o Q := v_mono hp h
abbrev zRM : zT := [(12, none, some 3), (12, none, some 63), (12, none, some 64), (12, none, some 65), (12, none, some 66), (87, none, none), (88, none, none), (90, none, none), (12, none, some 44), (12, none, some 45), (12, none, some 58), (84, none, none), (85, none, none), (91, none, none), (92, none, none), (93, none, none), (94, none, none), (95, none, none), (96, none, none), (97, none, none), (101, none, none), (102, none, none)]
theorem z_e2 {j : Nat} (hj : j < 2) {v : Int32} (hv : v.toInt = (j : Int)) : v = Int32.ofNat j := n_0L (by omega) hv
theorem z_told_ok {m : mm_M} {s : Nat} {Q : List zQ} (h : z_told m m s) (hQ : Q.length ≤ 49) : (m 105 0 s = -1 → z_ok m s Q) ∧ (¬ m 105 0 s = -1 → (z_ok m s Q ↔ z_at2 m s Q)) := by
  refine ⟨fun h1 => ?_, fun h1 => ?_⟩
  · rcases h with ⟨g1, _⟩ | ⟨n, h49, g1, g2, _⟩
    · exact Or.inl g1
    · rw [g2] at h1
      exact absurd h1 (n_m1 (by omega))
  · rw [← z_told_as h hQ h1]
    refine ⟨fun z => ?_, fun z => Or.inr z⟩
    rcases z with z | z
    · rcases h with ⟨_, g2⟩ | ⟨n, h49, g1, _⟩
      · exact absurd g2 h1
      · rw [g1] at z
        exact absurd z (n_m1 (by omega))
    · exact z
theorem z_at2_fr {L : zT} {m m' : mm_M} {s : Nat} {Q : List zQ} (hf : fp L m m') (hd : z_dis [(105, none, none), (106, none, none), (107, none, none)] L = true) : z_at2 m' s Q ↔ z_at2 m s Q := by
  unfold z_at2
  rw [hf 105 0 s (z_dis_of hd rfl)]
  simp only [fun i => hf 106 0 i (z_dis_of hd rfl), fun i => hf 107 0 i (z_dis_of hd rfl)]
theorem z_rwk_l {N : Nat} {K A L : Nat → Int32} {P : Nat → Nat} {S : Nat → Int32} {s k : Nat} {D e : Int32} (hD : 0 ≤ D.toInt) (hb : z_nb N K A (fun _ => -1)) (h24 : N ≤ 24) : (z_rwk N K A L P S s D e k).length ≤ 49 := z_row_b hD hb h24
theorem r_rback {m0 : mm_M} {lw : zL} {t N Y s : Nat} {col D : Int32} {K A B H L : Nat → Int32} {P : Nat → Nat} {S : Nat → Int32} (ht : t < 8) (hl : ∀ k, k < 4 → z_cdM m0 k (lw k)) (hd : ∀ k cd, lw k = some cd → z_dep cd 0 = some 1) (hB : z_thB N K A B Y) (hT : z_thM m0 t N K A B H Y) (hb : z_nb N K A (fun _ => -1)) (h61 : m0 12 0 61 = Int32.ofNat t) (hD : m0 12 0 43 = D) (hD0 : 0 ≤ D.toInt ∧ D.toInt ≤ 99) (h62 : m0 12 0 62 = Int32.ofNat s) (h8 : s ≤ 8) (hP : ∀ i, i < s → m0 103 0 i = Int32.ofNat (P i) ∧ P i < 24 ∧ m0 104 0 i = S i) (ht0 : z_told m0 m0 0) (ht1 : z_told m0 m0 1) (hc : 0 ≤ col.toInt ∧ col.toInt ≤ 7) (hLL : z_lv lw K A H col 0 = L) : vW (f_X12_readBack col m0) (fun q => q.1 = (z_fo (z_sets m0 N K A L P S s D) (2 ^ s)).1 ∧ fp zRM m0 q.2 ∧ q.2 12 0 3 = 0 ∧ q.2 12 0 66 = 1 ∧ q.2 12 0 63 = (z_fo (z_sets m0 N K A L P S s D) (2 ^ s)).2.1 ∧ q.2 12 0 64 = (z_fo (z_sets m0 N K A L P S s D) (2 ^ s)).2.2.1 ∧ q.2 12 0 65 = (z_fo (z_sets m0 N K A L P S s D) (2 ^ s)).2.2.2) := by
  have h256 := z_2s h8
  have h24 : N ≤ 24 := hB.2.1
  generalize hok : z_sets m0 N K A L P S s D = ok
  have hQl : ∀ e k, (z_rwk N K A L P S s D e k).length ≤ 49 := fun e k => z_rwk_l hD0.1 hb h24
  unfold f_X12_readBack
  refine v_lM ?_
  refine v_b1e (r_colk hc) (v_ifn (by decide) ?_)
  refine v_ifp (by rw [w3 (by decide), h61]; exact n_m1 (by omega)) ?_
  refine v_lM (v_lM (v_lM ?_))
  have z0 : ∀ c, fp zRM m0 c → (∀ k, k < 4 → z_cdM c k (lw k)) ∧ z_thM c t N K A B H Y ∧ c 12 0 61 = Int32.ofNat t ∧ c 12 0 43 = D ∧ c 12 0 62 = Int32.ofNat s := fun c hf => ⟨fun k hk => z_cdM_fr (fun g i k hg => hf g i k (z_dis_of (by decide) hg)) (hl k hk), z_thM_fr (fun g i k hg => hf g i k (z_dis_of (by decide) hg)) hT, (hf 12 0 61 rfl).trans h61, (hf 12 0 43 rfl).trans hD, (hf 12 0 62 rfl).trans h62⟩
  refine v_s1 (P := fun q => fp zRM m0 q.2 ∧ q.2 12 0 3 = 0 ∧ q.1 = (z_fo ok (2 ^ s)).1 ∧ q.2 12 0 63 = (z_fo ok (2 ^ s)).2.1 ∧ q.2 12 0 64 = (z_fo ok (2 ^ s)).2.2.1 ∧ q.2 12 0 65 = (z_fo ok (2 ^ s)).2.2.2) ?_ ?_
  · refine v_for (fun k q => q.2.1.toInt = (k : Int) ∧ fp zRM m0 q.2.2 ∧ q.2.2 12 0 3 = 0 ∧ q.1 = (z_fo ok k).1 ∧ q.2.2 12 0 63 = (z_fo ok k).2.1 ∧ q.2.2 12 0 64 = (z_fo ok k).2.2.1 ∧ q.2.2 12 0 65 = (z_fo ok k).2.2.2) 0 (2 ^ s) (Nat.zero_le _) (by omega) ⟨i_0, fp_w rfl (fp_w rfl (fp_w rfl (fp_w rfl fp_rf))), by simp (disch := first | omega | decide | fail) only [mw_s, mw_k, mw_i, mw_g], rfl, by simp (disch := first | omega | decide | fail) only [mw_s, mw_k, mw_i, mw_g]; rfl, by simp (disch := first | omega | decide | fail) only [mw_s, mw_k, mw_i, mw_g]; rfl, by simp (disch := first | omega | decide | fail) only [mw_s, mw_k, mw_i, mw_g]; rfl⟩ ?_ ?_
    · rintro k ⟨v9, v, c0⟩ hk ⟨hv, hf0, h3, h9, s2, s3, s4⟩
      dsimp only at hv hf0 h3 h9 s2 s3 s4 ⊢
      have ev : v = Int32.ofNat k := n_0L (by omega) hv
      obtain ⟨_, _, _, _, z62⟩ := z0 c0 hf0
      refine v_ifn (by rw [z62, iA_le, z_shl ⟨s, by omega⟩]; dsimp only; omega) ?_
      refine v_s1 r_clear ?_
      rintro m ⟨hfm, hsm⟩
      have hP0 : ∀ i, i < s → m 103 0 i = Int32.ofNat (P i) ∧ P i < 24 ∧ m 104 0 i = S i := fun i hi => by
        obtain ⟨p1, p2, p3⟩ := hP i hi
        exact ⟨(hfm 103 0 i rfl).trans ((hf0 103 0 i rfl).trans p1), p2, (hfm 104 0 i rfl).trans ((hf0 104 0 i rfl).trans p3)⟩
      have h3s : m 12 0 62 = Int32.ofNat s := (hfm 12 0 62 rfl).trans z62
      have hf1 : fp zRM m0 m := fp_tr hf0 (fp_sb (by decide) hfm)
      refine v_s1 (P := fun r => fp [(87, none, none)] m r ∧ ∀ p, r 87 0 p = z_bk P S v (fun p => m 87 0 p) s p) ?_ ?_
      · refine v_for (fun j q => q.1.toInt = (j : Int) ∧ fp [(87, none, none)] m q.2 ∧ ∀ p, q.2 87 0 p = z_bk P S v (fun p => m 87 0 p) j p) 0 s (Nat.zero_le _) (by omega) ⟨i_0, fp_rf, fun p => rfl⟩ ?_ ?_
        · rintro j ⟨u, c⟩ hj ⟨hu, hf, hz⟩
          dsimp only at hu hf hz ⊢
          obtain ⟨p1, p2, p3⟩ := hP0 j hj
          have eu : u = Int32.ofNat j := n_0L (by omega) hu
          have iu : mm_in u 8 := v_in.mpr (by omega)
          have ku := n_k hu
          have c45 : c 103 0 u.toNatClampNeg = Int32.ofNat (P j) := by rw [ku, hf 103 0 j rfl]; exact p1
          have c46 : c 104 0 u.toNatClampNeg = S j := by rw [ku, hf 104 0 j rfl]; exact p3
          have i45 : mm_in (c 103 0 u.toNatClampNeg) 24 := by rw [c45]; exact nJ_in p2 (by decide)
          have k45 : (c 103 0 u.toNatClampNeg).toNatClampNeg = P j := by rw [c45]; exact nJ_N (by omega)
          have eb : ((v >>> (u &&& 31)) &&& 1) = z_bit v j := by rw [eu]; rfl
          refine v_ifn (by rw [hf 12 0 62 rfl, h3s, iA_le, nJ_T (by omega)]; omega) ?_
          refine v_ifp iu ?_
          by_cases hb : z_bit v j = 1
          · refine v_ifn (by rw [eb]; exact fun z => z hb) (v_ifp iu (v_ifp i45 ?_))
            rw [k45, c46]
            refine v_lM (v_l1 (v_il ⟨n_s3 hu (by omega), fp_w rfl hf, fun p => ?_⟩))
            dsimp only
            show _ = if p = P j then (if z_bit v j = 1 then S j else 0) else z_bk P S v (fun p => m 87 0 p) j p
            by_cases e : p = P j
            · rw [if_pos e, if_pos hb, e, mw_s]
            · rw [if_neg e, mw_k e]
              exact hz p
          · refine v_ifp (by rw [eb]; exact hb) (v_ifp i45 ?_)
            rw [k45]
            refine v_lM (v_l1 (v_il ⟨n_s3 hu (by omega), fp_w rfl hf, fun p => ?_⟩))
            dsimp only
            show _ = if p = P j then (if z_bit v j = 1 then S j else 0) else z_bk P S v (fun p => m 87 0 p) j p
            by_cases e : p = P j
            · rw [if_pos e, if_neg hb, e, mw_s]
            · rw [if_neg e, mw_k e]
              exact hz p
        · rintro ⟨u, c⟩ ⟨hu, hf, hz⟩
          dsimp only at hu hf hz ⊢
          exact v_ifp (by rw [hf 12 0 62 rfl, h3s, iA_le, nJ_T (by omega)]; omega) (v_ir ⟨hf, hz⟩)
      · rintro m21 ⟨hf21, hz21⟩
        have hf2 : fp zRM m0 m21 := fp_tr hf1 (fp_sb (by decide) hf21)
        have hs2 : z_scM m21 (fun p => z_bk P S (Int32.ofNat k) (fun _ => 0) s p) (fun _ => -1) (fun _ => 0) := fun p hp => by
          obtain ⟨g1, g2, g3⟩ := hsm p hp
          refine ⟨?_, (hf21 88 0 p rfl).trans g2, (hf21 90 0 p rfl).trans g3⟩
          rw [hz21 p, ev]
          exact z_bk_2 s (Or.inl g1)
        have t63 : m21 12 0 3 = 0 ∧ m21 12 0 63 = (z_fo ok k).2.1 ∧ m21 12 0 64 = (z_fo ok k).2.2.1 ∧ m21 12 0 65 = (z_fo ok k).2.2.2 := ⟨(hf21 12 0 3 rfl).trans ((hfm 12 0 3 rfl).trans h3), (hf21 12 0 63 rfl).trans ((hfm 12 0 63 rfl).trans s2), (hf21 12 0 64 rfl).trans ((hfm 12 0 64 rfl).trans s3), (hf21 12 0 65 rfl).trans ((hfm 12 0 65 rfl).trans s4)⟩
        refine v_s1 (P := fun q => fp zW m21 q.2 ∧ ((q.1 = 1 ∧ ok k) ∨ (q.1 = 0 ∧ ¬ ok k))) ?_ ?_
        · refine v_s2p (P := fun q => fp zW m21 q.2 ∧ ((q.1 = 1 ∧ ∀ i, i < 2 → z_ok m0 i (z_rwk N K A L P S s D (Int32.ofNat i) k)) ∨ (q.1 = 0 ∧ ¬ ∀ i, i < 2 → z_ok m0 i (z_rwk N K A L P S s D (Int32.ofNat i) k)))) (fun q h => ⟨h.1, ?_⟩) ?_
          · have e : ok k ↔ ∀ i, i < 2 → z_ok m0 i (z_rwk N K A L P S s D (Int32.ofNat i) k) := by
              rw [← hok]
              exact ⟨fun h i hi => by
                rcases (by omega : i = 0 ∨ i = 1) with rfl | rfl
                · exact h.1
                · exact h.2, fun h => ⟨h 0 (by decide), h 1 (by decide)⟩⟩
            rw [e]
            exact h.2
          · refine v_for (fun j q => q.2.1.toInt = (j : Int) ∧ fp zW m21 q.2.2 ∧ ((q.1 = 1 ∧ ∀ i, i < j → z_ok m0 i (z_rwk N K A L P S s D (Int32.ofNat i) k)) ∨ (q.1 = 0 ∧ ¬ ∀ i, i < j → z_ok m0 i (z_rwk N K A L P S s D (Int32.ofNat i) k)))) 0 2 (by decide) (by decide) ⟨i_0, fp_rf, Or.inl ⟨rfl, fun i hi => absurd hi (Nat.not_lt_zero i)⟩⟩ ?_ ?_
            · rintro j ⟨v23, v24, c⟩ hj ⟨h24', hfc, h23⟩
              dsimp only at h24' hfc h23 ⊢
              have hfc' : fp zRM m0 c := fp_tr hf2 (fp_sb (by decide) hfc)
              have k24 := n_k h24'
              have i24 : mm_in v24 2 := v_in.mpr (by omega)
              have e24 : v24 = Int32.ofNat j := n_0L (by omega) h24'
              have tj : z_told m0 m0 j := by
                rcases (by omega : j = 0 ∨ j = 1) with rfl | rfl
                · exact ht0
                · exact ht1
              obtain ⟨k1, k2⟩ := z_told_ok (Q := z_rwk N K A L P S s D (Int32.ofNat j) k) tj (hQl _ _)
              have c105 : c 105 0 v24.toNatClampNeg = m0 105 0 j := by rw [k24]; exact hfc' 105 0 j rfl
              have up : (∀ i, i < j → z_ok m0 i (z_rwk N K A L P S s D (Int32.ofNat i) k)) → z_ok m0 j (z_rwk N K A L P S s D (Int32.ofNat j) k) → ∀ i, i < j + 1 → z_ok m0 i (z_rwk N K A L P S s D (Int32.ofNat i) k) := fun h1 h2 i hi => by
                by_cases e : i = j
                · rw [e]
                  exact h2
                · exact h1 i (by omega)
              refine v_ifn (by rw [iA_le, i_2]; omega) (v_ifp i24 ?_)
              by_cases h105 : m0 105 0 j = -1
              · refine v_ifn (by rw [c105]; exact fun z => z h105) (v_l1 (v_il ⟨n_s3 h24' (by omega), hfc, ?_⟩))
                dsimp only
                rcases h23 with ⟨h23, h⟩ | ⟨h23, h⟩
                · exact Or.inl ⟨h23, up h (k1 h105)⟩
                · exact Or.inr ⟨h23, fun z => h (fun i hi => z i (by omega))⟩
              · refine v_ifp (by rw [c105]; exact h105) ?_
                refine v_lK (fun w => w = Int32.ofNat j) ?_ (fun k27 hk27 => ?_)
                · rintro w rfl
                  obtain ⟨y1, y2, y3, y4, _⟩ := z0 c hfc'
                  rw [y3]
                  have hsc : z_scM c (fun p => z_bk P S (Int32.ofNat k) (fun _ => 0) s p) (fun _ => -1) (fun _ => 0) := z_scM_fr (fun g i k hg => hfc g i k (z_dis_of (by decide) hg)) hs2
                  refine v_s1 (r_row (e := Int32.ofNat j) (col := col) (age := 0) ht y1 hd hB y2 hsc hb (nJ_T (by omega)) y4 hD0) ?_
                  rintro m29 ⟨f29, r29⟩
                  rw [hLL] at r29
                  have f29' : fp zW m21 m29 := fp_tr hfc f29
                  have f29m : fp zRM m0 m29 := fp_tr hf2 (fp_sb (by decide) f29')
                  rcases h23 with ⟨h23, h⟩ | ⟨h23, h⟩
                  · refine v_ifn (by rw [h23]; decide) ?_
                    obtain ⟨n, h49, g1, g2⟩ : ∃ n, n ≤ 49 ∧ m0 105 0 j = Int32.ofNat n ∧ True := by
                      rcases tj with ⟨_, g⟩ | ⟨n, h49, _, g, _⟩
                      · exact absurd g h105
                      · exact ⟨n, h49, g, trivial⟩
                    refine v_s1 (r_told h24' hj r29 (hQl _ _) ((f29m 105 0 j rfl).trans g1) h49) ?_
                    have ez : z_at2 m29 j (z_rwk N K A L P S s D (Int32.ofNat j) k) ↔ z_ok m0 j (z_rwk N K A L P S s D (Int32.ofNat j) k) := by
                      rw [k2 h105]
                      exact z_at2_fr f29m (by decide)
                    rintro r (⟨rfl, hr⟩ | ⟨rfl, hr⟩)
                    · exact v_ifn (by decide) (v_l1 (v_il ⟨n_s3 h24' (by omega), f29', Or.inl ⟨rfl, up h (ez.mp hr)⟩⟩))
                    · exact v_ifp rfl (v_l1 (v_il ⟨n_s3 h24' (by omega), f29', Or.inr ⟨rfl, fun z => hr (ez.mpr (z j (by omega)))⟩⟩))
                  · refine v_ifp h23 (v_l1 (v_il ⟨n_s3 h24' (by omega), f29', Or.inr ⟨rfl, fun z => h (fun i hi => z i (by omega))⟩⟩))
                · by_cases h1 : j = 1
                  · refine v_ifn (fun z => z (by rw [e24, h1]; rfl)) (hk27 1 (by rw [h1]; rfl))
                  · refine v_ifp (by rw [e24]; exact n_ne (by rw [nJ_T (by omega), i_1]; omega)) (hk27 0 (by rw [show j = 0 by omega]; rfl))
            · rintro ⟨v23, v24, c⟩ ⟨h24', hfc, h23⟩
              dsimp only at h24' hfc h23 ⊢
              exact v_ifp (by rw [iA_le, i_2]; omega) (v_ir ⟨hfc, h23⟩)
        · rintro ⟨v35, m36⟩ ⟨hf36, h35⟩
          dsimp only at hf36 h35 ⊢
          have f36 : fp zRM m0 m36 := fp_tr hf2 (fp_sb (by decide) hf36)
          obtain ⟨u1, u2, u3, u4⟩ := t63
          have q1 : m36 12 0 3 = 0 := (hf36 12 0 3 rfl).trans u1
          have q2 : m36 12 0 63 = (z_fo ok k).2.1 := (hf36 12 0 63 rfl).trans u2
          have q3 : m36 12 0 64 = (z_fo ok k).2.2.1 := (hf36 12 0 64 rfl).trans u3
          have q4 : m36 12 0 65 = (z_fo ok k).2.2.2 := (hf36 12 0 65 rfl).trans u4
          obtain ⟨hb1, hb2⟩ := z_fo_b (ok := ok) k (by omega)
          rcases h35 with ⟨rfl, hy⟩ | ⟨rfl, hn⟩
          · refine v_ifp (by decide) ?_
            rw [z_fo_y hy, ← ev]
            dsimp only
            refine v_lK (fun w => w = if (z_fo ok k).1 = 0 then v else (z_fo ok k).2.1) ?_ (fun k38 hk38 => ?_)
            · rintro w37 hw37
              refine v_lM ?_
              refine v_lK (fun w => w = if (z_fo ok k).1 = 0 then v else (z_fo ok k).2.2.1 &&& v) ?_ (fun k41 hk41 => ?_)
              · rintro w40 hw40
                refine v_lM (v_lM (v_l1 (v_l1 (v_il ⟨n_s3 hv (by omega), fp_w rfl (fp_w rfl (fp_w rfl f36)), ?_, ?_, ?_, ?_, ?_⟩))))
                · simp (disch := first | omega | decide | fail) only [mw_s, mw_k, mw_i, mw_g]
                  exact q1
                · rw [h9]
                · simp (disch := first | omega | decide | fail) only [mw_s, mw_k, mw_i, mw_g]
                  exact hw37
                · simp (disch := first | omega | decide | fail) only [mw_s, mw_k, mw_i, mw_g]
                  exact hw40
                · simp (disch := first | omega | decide | fail) only [mw_s, mw_k, mw_i, mw_g]
                  rw [q4]
              · by_cases h0 : (z_fo ok k).1 = 0
                · refine v_ifn (by rw [h9]; exact fun z => z h0) (hk41 v (by rw [if_pos h0]))
                · refine v_ifp (by rw [h9]; exact h0) (hk41 _ ?_)
                  rw [if_neg h0, mw_k (by decide), q3]
            · by_cases h0 : (z_fo ok k).1 = 0
              · refine v_ifn (by rw [q2, hb2.mp h0]; exact fun z => z rfl) (hk38 v (by rw [if_pos h0]))
              · refine v_ifp (by rw [q2]; exact fun z => h0 (hb2.mpr z)) (hk38 _ ?_)
                rw [if_neg h0, q2]
          · refine v_ifn (by decide) (v_l1 (v_il ?_))
            rw [z_fo_n hn]
            exact ⟨n_s3 hv (by omega), f36, q1, h9, q2, q3, q4⟩
    · rintro ⟨v9, v, c0⟩ ⟨hv, hf0, h3, h9, s2, s3, s4⟩
      dsimp only at hv hf0 h3 h9 s2 s3 s4 ⊢
      obtain ⟨_, _, _, _, z62⟩ := z0 c0 hf0
      exact v_ifp (by rw [z62, iA_le, z_shl ⟨s, by omega⟩]; dsimp only; omega) (v_ir ⟨hf0, h3, h9, s2, s3, s4⟩)
  · rintro ⟨v47, m48⟩ ⟨hf, h3, h9, s2, s3, s4⟩
    dsimp only at hf h3 h9 s2 s3 s4 ⊢
    refine v_lM (v_so ⟨h9, fp_w rfl hf, ?_, by dsimp only; exact mw_s, ?_, ?_, ?_⟩)
    · dsimp only
      rw [mw_k (by decide)]
      exact h3
    · dsimp only
      rw [mw_k (by decide)]
      exact s2
    · dsimp only
      rw [mw_k (by decide)]
      exact s3
    · dsimp only
      rw [mw_k (by decide)]
      exact s4
theorem o_18 : q_Sim qJ 18 := fun m a hJ hop => by
  have hJ0 := hJ
  obtain ⟨hday, hfault, hdead, hstr, htap, hlaw, hev, hrow, hinq, hfound, hlamps, hnet, htsk, hdl, halo, hshe⟩ := hJ
  have hstr0 := hstr
  have hlaw0 := hlaw
  have hinq0 := hinq
  obtain ⟨T, hT8, hT1, hT2, hth⟩ := hstr
  obtain ⟨lw, r, hr2, hr3, hr4, hlC, hlM, hdp⟩ := hlaw
  obtain ⟨hlk, ⟨s, hs8, hs1, hs2, hsr⟩, ht0, ht1⟩ := hinq
  have bad : f_X11_readBack (a 1) m = some (.inl 1) → f_X12_readBack (a 1) m = some (0, mm_w (mm_w m 12 0 3 0) 12 0 3 1) → ∃ mC mM, q_To m a mC mM ∧ qJ mC mM := fun eC eM => ⟨_, _, t_op18 hop eC eM (thrown_eq _) (fun e9 h => by cases h; exact ⟨rfl, mw_s⟩) (fun t h => by cases h), qJ_3 fp_31 hJ0⟩
  rcases hlk with ⟨h1, h2⟩ | ⟨t, ht8, htT, ht1', ht2'⟩
  · refine bad (v_is ?_) (v_is ?_)
    · unfold f_X11_readBack
      refine v_bxi (e := 1) ?_ rfl
      apply v_is
      unfold f_X11_needLook
      exact v_ifp h1 (v_so rfl)
    · unfold f_X12_readBack
      refine v_lM ?_
      by_cases hc : 0 ≤ (a 1).toInt ∧ (a 1).toInt ≤ 7
      · refine v_b1e (r_colk hc) (v_ifn (by decide) ?_)
        refine v_ifn (fun z => z ((w3 (by decide)).trans h2)) ?_
        exact v_b2e r_fail1 (v_so rfl)
      · refine v_b1e (r_coln hc) (v_ifp rfl ?_)
        exact v_b2e r_fail1 (v_so rfl)
  · by_cases hc : 0 ≤ (a 1).toInt ∧ (a 1).toInt ≤ 7
    · have htT' : t < T := by
        rw [hT1, iA_lt, nJ_T (by omega), nJ_T (by omega)] at htT
        omega
      obtain ⟨N, K, A, B, H, Y, hB, hC5, hM5⟩ := hth t htT'
      have hb : z_nb N K A (fun _ => -1) := z_nb_i hB (fun p hp => Or.inl rfl)
      have hD0 := hdead.2
      generalize hDD : m 0 0 9 = D at hD0
      have hDM : m 12 0 43 = D := hdead.1.symm.trans hDD
      have hPC : ∀ i, i < s → m 45 0 i = Int32.ofNat (m 45 0 i).toInt.toNat ∧ (m 45 0 i).toInt.toNat < 24 ∧ m 46 0 i = m 46 0 i := fun i hi => by
        obtain ⟨_, _, ⟨p, hp, h⟩, _⟩ := hsr i hi
        rw [h, nJ_T (by omega)]
        exact ⟨rfl, by omega, rfl⟩
      have hPM : ∀ i, i < s → m 103 0 i = Int32.ofNat (m 45 0 i).toInt.toNat ∧ (m 45 0 i).toInt.toNat < 24 ∧ m 104 0 i = m 46 0 i := fun i hi => by
        obtain ⟨h1, h2, _⟩ := hsr i hi
        rw [← h1, ← h2]
        exact hPC i hi
      generalize hPP : (fun i => (m 45 0 i).toInt.toNat) = P
      have hPC' : ∀ i, i < s → m 45 0 i = Int32.ofNat (P i) ∧ P i < 24 ∧ m 46 0 i = m 46 0 i := fun i hi => by rw [← hPP]; exact hPC i hi
      have hPM' : ∀ i, i < s → m 103 0 i = Int32.ofNat (P i) ∧ P i < 24 ∧ m 104 0 i = m 46 0 i := fun i hi => by rw [← hPP]; exact hPM i hi
      generalize hLL : z_lv lw K A H (a 1) 0 = L
      obtain ⟨⟨v, mM⟩, hM1, hM2, hM, hM3, hM66, g63, g64, g65⟩ := r_rback (S := fun i => m 46 0 i) ht8 hlM hdp hB hM5 hb ht2' hDM hD0 hs2 hs8 hPM' ht0 ht1 hc hLL
      dsimp only at hM2 hM hM3 hM66 g63 g64 g65
      have toldC : ∀ s', z_told m m s' → m 6 (1 + s') 3 = -1 ∨ ∃ n, n ≤ 49 ∧ m 6 (1 + s') 3 = Int32.ofNat n := fun s' h => by
        rcases h with ⟨h, _⟩ | ⟨n, h49, h, _⟩
        · exact Or.inl h
        · exact Or.inr ⟨n, h49, h⟩
      have eC : vW (f_X11_readBack (a 1) m) (fun q => ∃ c, q = .inr (v, c) ∧ fp [(4, none, some 4), (33, none, none), (34, none, none), (35, none, none), (23, none, none), (24, none, none), (36, none, none), (7, none, some 7), (7, none, some 8), (7, none, some 9), (7, none, some 10), (6, some 3, some 3), (6, some 3, some 5), (41, some 3, none), (42, some 3, none), (43, some 3, none), (44, none, none)] m c ∧ c 7 0 7 = (z_fo (z_sets m N K A L P (fun i => m 46 0 i) s D) (2 ^ s)).1 ∧ c 7 0 8 = (z_fo (z_sets m N K A L P (fun i => m 46 0 i) s D) (2 ^ s)).2.1 ∧ c 7 0 9 = (z_fo (z_sets m N K A L P (fun i => m 46 0 i) s D) (2 ^ s)).2.2.1 ∧ c 7 0 10 = (z_fo (z_sets m N K A L P (fun i => m 46 0 i) s D) (2 ^ s)).2.2.2) := by
        unfold f_X11_readBack
        refine v_bxe (z_look ht8 ht1') ?_
        refine v_bxe (c_colk hc) ?_
        rw [ht1', nJ_N (by omega)]
        refine v_ifn (n_m1 (by omega)) (v_lN ?_)
        refine v_s1 c_show ?_
        rintro c ⟨hf, h44, hsc⟩
        have hTc := z_thC_fr (fun g i k hg => hf g i k (z_dis_of (by decide) hg)) hC5
        have hlc : ∀ k, k < 4 → z_cdC c r k (lw k) := fun k hk => z_cdC_fr (fun g i k hg => hf g i k (z_dis_of (by decide) hg)) (hlC k hk)
        have h03 : c 0 0 3 = Int32.ofNat r := (hf 0 0 3 rfl).trans hr3
        refine v_ifn (by rw [h03]; exact n_m1 (by omega)) (v_lN ?_)
        rw [h03, nJ_N (by omega)]
        refine v_s1 (c_weigh (col := a 1) (age := 0) h44 (by omega) hlc hdp hB hTc) ?_
        rintro c2 ⟨hf2, hL⟩
        rw [hLL] at hL
        have hf02 : fp [(4, none, some 4), (33, none, none), (34, none, none), (35, none, none), (23, none, none), (24, none, none), (36, none, none)] m c2 := fp_tr (fp_sb (by decide) hf) (fp_sb (by decide) hf2)
        have h4b : c2 4 0 4 = Int32.ofNat t := (hf2 4 0 4 rfl).trans h44
        have hTb := z_thC_fr (fun g i k hg => hf2 g i k (z_dis_of (by decide) hg)) hTc
        have hsb := z_scC_fr (fun g i k hg => hf2 g i k (z_dis_of (by decide) hg)) hsc
        rw [show c2 0 0 9 = D from (hf02 0 0 9 rfl).trans hDD]
        have ezs : z_sets c2 N K A L P (fun i => m 46 0 i) s D = z_sets m N K A L P (fun i => m 46 0 i) s D := by
          funext k
          unfold z_sets
          rw [z_ok_fr (by decide) hf02 (by decide), z_ok_fr (by decide) hf02 (by decide)]
        refine v_s2 (c_search (S := fun i => m 46 0 i) (P := P) h4b ht8 hB.2.1 hTb hsb hb hL hD0.1 (by rw [hf02 6 (1 + 0) 3 rfl]; exact toldC 0 ht0) (by rw [hf02 6 (1 + 1) 3 rfl]; exact toldC 1 ht1) ((hf02 7 0 3 rfl).trans hs1) hs8 (fun i hi => ?_)) ?_
        · obtain ⟨p1, p2, p3⟩ := hPC' i hi
          exact ⟨(hf02 45 0 i rfl).trans p1, p2, hf02 46 0 i rfl⟩
        · rintro r9 m10 ⟨g0, g1, g2, g3, g4, g5⟩
          dsimp only at g0 g1 g2 g3 g4 g5
          rw [ezs] at g0 g2 g3 g4 g5
          exact v_so ⟨m10, by rw [g0, hM2], fp_tr (fp_sb (by decide) hf02) (fp_sb (by decide) g1), g2, g3, g4, g5⟩
      obtain ⟨q, hC1, mC, rfl, hC, c7, c8, c9, c10⟩ := eC
      have hj : j_found mC mM := by
        have hb1 := (z_fo_b (ok := z_sets m N K A L P (fun i => m 46 0 i) s D) (2 ^ s) (by have := z_2s hs8; omega)).1
        refine ⟨⟨fun z => ?_, fun z => ?_⟩, fun _ => ⟨by rw [c8, g63], by rw [c9, g64], by rw [c10, g65]⟩⟩
        · rw [c7, iA_eq, i_m1] at z
          omega
        · rw [hM66] at z
          exact absurd z (by decide)
      have hstr := hstr0
      have hlaw := hlaw0
      have hinq := hinq0
      refine ⟨_, _, t_op18 hop hC1 hM1 (thrown_eq _) (fun e9 h => by cases h) (fun t h => ?_), ⟨j_day_kp hC hM (by decide) (by decide) hday, j_fault_kp hC hM (by decide) (by decide) hfault, j_dead_kp hC hM (by decide) (by decide) hdead, j_str_kp hC hM (by decide) (by decide) hstr, j_tap_kp hC hM (by decide) (by decide) htap, j_law_kp hC hM (by decide) (by decide) hlaw, j_ev_kp hC hM (by decide) (by decide) hev, j_row_kp hC hM (by decide) (by decide) hrow, j_inq_kp hC hM (by decide) (by decide) hinq, hj, j_lamps_kp hC hM (by decide) (by decide) hlamps, j_net_kp hC hM (by decide) (by decide) hnet, j_tsk_kp hC hM (by decide) (by decide) htsk, j_dl_kp hC hM (by decide) (by decide) hdl, j_alo_kp hC hM (by decide) (by decide) halo, j_she_kp hC hM (by decide) (by decide) hshe⟩⟩
      cases h
      exact ⟨hM3, rfl⟩
    · refine bad (v_is ?_) (v_is ?_)
      · unfold f_X11_readBack
        refine v_bxe (z_look ht8 ht1') ?_
        exact v_bxi (c_coln hc) rfl
      · unfold f_X12_readBack
        refine v_lM ?_
        refine v_b1e (r_coln hc) (v_ifp rfl ?_)
        exact v_b2e r_fail1 (v_so rfl)
