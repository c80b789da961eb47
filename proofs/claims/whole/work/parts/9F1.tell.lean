/-! an event is told -/
theorem c_tell {m : mm_M} {E : Nat} {a1 a2 a3 a4 a5 a6 : Int32} (h8 : m 3 0 8 = Int32.ofNat E) (hE : E < 120) (l : List Nat) (hl : l.Perm (List.range E)) (h32 : ∀ i e, l[i]? = some e → m 32 0 i = Int32.ofNat e) : vW (f_X0_tell a1 a2 a3 a4 a5 a6 m) (fun q => q.1 = Int32.ofNat E ∧ fp [(3, none, some 8), (25, none, none), (26, none, none), (27, none, none), (28, none, none), (29, none, none), (30, none, none), (31, none, none), (32, none, none)] m q.2 ∧ q.2 3 0 8 = Int32.ofNat (E + 1) ∧ (q.2 25 0 E = a1 ∧ q.2 26 0 E = a2 ∧ q.2 27 0 E = a3 ∧ q.2 28 0 E = a4 ∧ q.2 29 0 E = a5 ∧ q.2 30 0 E = a6 ∧ q.2 31 0 E = (-1)) ∧ (∀ k, ¬ k = E → q.2 25 0 k = m 25 0 k ∧ q.2 26 0 k = m 26 0 k ∧ q.2 27 0 k = m 27 0 k ∧ q.2 28 0 k = m 28 0 k ∧ q.2 29 0 k = m 29 0 k ∧ q.2 30 0 k = m 30 0 k ∧ q.2 31 0 k = m 31 0 k) ∧ ∃ p, p ≤ E ∧ (∀ i, i ≤ E → q.2 32 0 i = if i < p then m 32 0 i else if i = p then Int32.ofNat E else m 32 0 (i - 1)) ∧ (∀ i e, p ≤ i → i < E → l[i]? = some e → a5.toInt < (m 29 0 e).toInt) ∧ (p = 0 ∨ ∃ e, l[p - 1]? = some e ∧ (m 29 0 e).toInt ≤ a5.toInt)) := by
  have kE : (Int32.ofNat E).toNatClampNeg = E := nJ_N (by omega)
  have iE : mm_in (Int32.ofNat E) 120 := nJ_in (by omega) (by decide)
  have hlen : l.length = E := by rw [hl.length_eq, List.length_range]
  have hlt : ∀ e ∈ l, e < E := fun e he => List.mem_range.mp (hl.mem_iff.mp he)
  unfold f_X0_tell
  refine v_ifp (by rw [h8, iA_lt, nJ_T (by omega), show (120 : Int32).toInt = 120 by decide]; omega) ?_
  have q0 : m 3 0 8 = Int32.ofNat E := by simp (disch := first | omega | decide | fail) only [mw_s, mw_k, mw_i, mw_g, h8]
  refine v_ifp (by rw [q0]; exact iE) ?_
  rw [q0, kE]
  refine v_lM ?_
  have q1 : (mm_w m 25 0 E a1) 3 0 8 = Int32.ofNat E := by simp (disch := first | omega | decide | fail) only [mw_s, mw_k, mw_i, mw_g, h8]
  refine v_ifp (by rw [q1]; exact iE) ?_
  rw [q1, kE]
  refine v_lM ?_
  have q2 : (mm_w (mm_w m 25 0 E a1) 26 0 E a2) 3 0 8 = Int32.ofNat E := by simp (disch := first | omega | decide | fail) only [mw_s, mw_k, mw_i, mw_g, h8]
  refine v_ifp (by rw [q2]; exact iE) ?_
  rw [q2, kE]
  refine v_lM ?_
  have q3 : (mm_w (mm_w (mm_w m 25 0 E a1) 26 0 E a2) 27 0 E a3) 3 0 8 = Int32.ofNat E := by simp (disch := first | omega | decide | fail) only [mw_s, mw_k, mw_i, mw_g, h8]
  refine v_ifp (by rw [q3]; exact iE) ?_
  rw [q3, kE]
  refine v_lM ?_
  have q4 : (mm_w (mm_w (mm_w (mm_w m 25 0 E a1) 26 0 E a2) 27 0 E a3) 28 0 E a4) 3 0 8 = Int32.ofNat E := by simp (disch := first | omega | decide | fail) only [mw_s, mw_k, mw_i, mw_g, h8]
  refine v_ifp (by rw [q4]; exact iE) ?_
  rw [q4, kE]
  refine v_lM ?_
  have q5 : (mm_w (mm_w (mm_w (mm_w (mm_w m 25 0 E a1) 26 0 E a2) 27 0 E a3) 28 0 E a4) 29 0 E a5) 3 0 8 = Int32.ofNat E := by simp (disch := first | omega | decide | fail) only [mw_s, mw_k, mw_i, mw_g, h8]
  refine v_ifp (by rw [q5]; exact iE) ?_
  rw [q5, kE]
  refine v_lM ?_
  have q6 : (mm_w (mm_w (mm_w (mm_w (mm_w (mm_w m 25 0 E a1) 26 0 E a2) 27 0 E a3) 28 0 E a4) 29 0 E a5) 30 0 E a6) 3 0 8 = Int32.ofNat E := by simp (disch := first | omega | decide | fail) only [mw_s, mw_k, mw_i, mw_g, h8]
  refine v_ifp (by rw [q6]; exact iE) ?_
  rw [q6, kE]
  refine v_lM ?_
  generalize hm7 : (mm_w (mm_w (mm_w (mm_w (mm_w (mm_w (mm_w m 25 0 E a1) 26 0 E a2) 27 0 E a3) 28 0 E a4) 29 0 E a5) 30 0 E a6) 31 0 E (-1)) = m7
  have f7 : fp [(25, none, none), (26, none, none), (27, none, none), (28, none, none), (29, none, none), (30, none, none), (31, none, none)] m m7 := by
    rw [← hm7]
    exact fp_w rfl (fp_w rfl (fp_w rfl (fp_w rfl (fp_w rfl (fp_w rfl (fp_w rfl fp_rf))))))
  have t25 : m7 25 0 E = a1 := by rw [← hm7]; simp (disch := first | omega | decide | fail) only [mw_s, mw_k, mw_i, mw_g]
  have t26 : m7 26 0 E = a2 := by rw [← hm7]; simp (disch := first | omega | decide | fail) only [mw_s, mw_k, mw_i, mw_g]
  have t27 : m7 27 0 E = a3 := by rw [← hm7]; simp (disch := first | omega | decide | fail) only [mw_s, mw_k, mw_i, mw_g]
  have t28 : m7 28 0 E = a4 := by rw [← hm7]; simp (disch := first | omega | decide | fail) only [mw_s, mw_k, mw_i, mw_g]
  have t29 : m7 29 0 E = a5 := by rw [← hm7]; simp (disch := first | omega | decide | fail) only [mw_s, mw_k, mw_i, mw_g]
  have t30 : m7 30 0 E = a6 := by rw [← hm7]; simp (disch := first | omega | decide | fail) only [mw_s, mw_k, mw_i, mw_g]
  have t31 : m7 31 0 E = (-1) := by rw [← hm7]; simp (disch := first | omega | decide | fail) only [mw_s, mw_k, mw_i, mw_g]
  have u25 : ∀ k, ¬ k = E → m7 25 0 k = m 25 0 k := fun k hk => by rw [← hm7]; simp (disch := first | omega | decide | fail) only [mw_s, mw_k, mw_i, mw_g]
  have u26 : ∀ k, ¬ k = E → m7 26 0 k = m 26 0 k := fun k hk => by rw [← hm7]; simp (disch := first | omega | decide | fail) only [mw_s, mw_k, mw_i, mw_g]
  have u27 : ∀ k, ¬ k = E → m7 27 0 k = m 27 0 k := fun k hk => by rw [← hm7]; simp (disch := first | omega | decide | fail) only [mw_s, mw_k, mw_i, mw_g]
  have u28 : ∀ k, ¬ k = E → m7 28 0 k = m 28 0 k := fun k hk => by rw [← hm7]; simp (disch := first | omega | decide | fail) only [mw_s, mw_k, mw_i, mw_g]
  have u29 : ∀ k, ¬ k = E → m7 29 0 k = m 29 0 k := fun k hk => by rw [← hm7]; simp (disch := first | omega | decide | fail) only [mw_s, mw_k, mw_i, mw_g]
  have u30 : ∀ k, ¬ k = E → m7 30 0 k = m 30 0 k := fun k hk => by rw [← hm7]; simp (disch := first | omega | decide | fail) only [mw_s, mw_k, mw_i, mw_g]
  have u31 : ∀ k, ¬ k = E → m7 31 0 k = m 31 0 k := fun k hk => by rw [← hm7]; simp (disch := first | omega | decide | fail) only [mw_s, mw_k, mw_i, mw_g]
  have t8 : m7 3 0 8 = Int32.ofNat E := (f7 3 0 8 rfl).trans h8
  clear hm7 q0 q1 q2 q3 q4 q5 q6
  refine v_lI (fun w hw => ?_)
  have ew : w.toInt = (E : Int) := by rw [hw, t8, nJ_T (by omega)]
  clear hw
  refine v_s1 (P := fun t => fp [(32, none, none)] m7 t.2 ∧ ∃ p : Nat, t.1.toInt = (p : Int) ∧ p ≤ E ∧ (∀ i, i ≤ E → t.2 32 0 i = if p < i then m 32 0 (i - 1) else m 32 0 i) ∧ (∀ i e, p ≤ i → i < E → l[i]? = some e → a5.toInt < (m 29 0 e).toInt) ∧ (p = 0 ∨ ∃ e, l[p - 1]? = some e ∧ (m 29 0 e).toInt ≤ a5.toInt)) ?_ ?_
  · refine v_for (fun j t => t.1.toInt = ((E - j : Nat) : Int) ∧ fp [(32, none, none)] m7 t.2 ∧ (∀ i, i ≤ E → t.2 32 0 i = if E - j < i then m 32 0 (i - 1) else m 32 0 i) ∧ (∀ i e, E - j ≤ i → i < E → l[i]? = some e → a5.toInt < (m 29 0 e).toInt)) 0 E (Nat.zero_le _) (by omega) ⟨ew, fp_rf, fun i hi => by rw [if_neg (by omega)]; exact f7 32 0 i rfl, fun i e h1 h2 => absurd h1 (by omega)⟩ ?_ ?_
    · rintro j ⟨v, c⟩ hj ⟨hv, hf, hz, hd⟩
      dsimp only at hv hf hz hd ⊢
      obtain ⟨u, hu⟩ : ∃ u, E - j = u + 1 := ⟨E - j - 1, by omega⟩
      rw [hu] at hv hz hd
      have kv1 : (v - 1).toNatClampNeg = u := n_k (n_s1 hv)
      have i1 : mm_in (v - 1) 120 := v_in.mpr (by rw [n_s1 hv]; omega)
      have i2 : mm_in v 120 := v_in.mpr (by omega)
      obtain ⟨e, he⟩ : ∃ e, l[u]? = some e := ⟨l[u]'(by omega), List.getElem?_eq_getElem (by omega)⟩
      have heE : e < E := hlt e (List.mem_of_getElem? he)
      have cu : c 32 0 (v - 1).toNatClampNeg = Int32.ofNat e := by
        rw [kv1, hz u (by omega), if_neg (by omega)]
        exact h32 u e he
      have ie : mm_in (c 32 0 (v - 1).toNatClampNeg) 120 := by rw [cu]; exact nJ_in (by omega) (by decide)
      have c29 : c 29 0 (c 32 0 (v - 1).toNatClampNeg).toNatClampNeg = m 29 0 e := by
        rw [cu, nJ_N (by omega), hf 29 0 e rfl]
        exact u29 e (by omega)
      refine v_ifn (by rw [iA_le, i_0]; omega) ?_
      refine v_ifp i1 ?_
      refine v_ifp ie ?_
      by_cases hday : (m 29 0 e).toInt ≤ a5.toInt
      · refine v_ifp (by rw [c29, iA_le]; exact hday) ?_
        refine v_ir ⟨hf, u + 1, hv, by omega, hz, hd, Or.inr ⟨e, by rw [Nat.add_sub_cancel]; exact he, hday⟩⟩
      · refine v_ifn (by rw [c29, iA_le]; exact hday) ?_
        refine v_ifp i1 (v_ifp i2 (v_lM ?_))
        refine v_l (v_il ?_)
        rw [cu, n_k hv]
        refine ⟨by rw [show E - (j + 1) = u by omega]; exact n_s2 hv, fp_w rfl hf, fun i hi => ?_, fun i e2 h1 h2 h3 => ?_⟩
        · dsimp only
          rw [show E - (j + 1) = u by omega]
          by_cases hiu : i = u + 1
          · rw [hiu, mw_s, if_pos (by omega), Nat.add_sub_cancel]
            exact (h32 u e he).symm
          · rw [mw_k hiu, hz i hi]
            by_cases h4 : u + 1 < i
            · rw [if_pos h4, if_pos (by omega)]
            · rw [if_neg h4, if_neg (by omega)]
        · by_cases hiu : i = u
          · rw [hiu, he] at h3
            cases h3
            omega
          · exact hd i e2 (by omega) h2 h3
    · rintro ⟨v, c⟩ ⟨hv, hf, hz, hd⟩
      dsimp only at hv hf hz hd ⊢
      rw [Nat.sub_self] at hv hz hd
      refine v_ifp (by rw [iA_le, i_0]; omega) ?_
      exact v_ir ⟨hf, 0, hv, Nat.zero_le _, hz, hd, Or.inl rfl⟩
  · rintro ⟨v, c⟩ ⟨hf, p, hv, hp, hz, hd, hq⟩
    dsimp only at hv hf hz hd hq ⊢
    have e8 : c 3 0 8 = Int32.ofNat E := (hf 3 0 8 rfl).trans t8
    refine v_ifp (v_in.mpr (by omega)) ?_
    rw [n_k hv, e8]
    refine v_lM (v_lM (v_so ?_))
    rw [mw_g (show 3 ≠ 32 by decide), e8, n_a1]
    dsimp only
    rw [mw_s, n_d (by omega), Nat.add_sub_cancel]
    refine ⟨rfl, fp_w rfl (fp_w rfl (fp_tr (fp_sb (by decide) f7) (fp_sb (by decide) hf))), rfl, ?_, fun k hk => ?_, p, hp, fun i hi => ?_, hd, hq⟩
    · simp (disch := first | omega | decide | fail) only [mw_s, mw_k, mw_i, mw_g, hf 25 0 E rfl, hf 26 0 E rfl, hf 27 0 E rfl, hf 28 0 E rfl, hf 29 0 E rfl, hf 30 0 E rfl, hf 31 0 E rfl, t25, t26, t27, t28, t29, t30, t31]
      exact ⟨trivial, trivial, trivial, trivial, trivial, trivial, trivial⟩
    · simp (disch := first | omega | decide | fail) only [mw_s, mw_k, mw_i, mw_g, hf 25 0 k rfl, hf 26 0 k rfl, hf 27 0 k rfl, hf 28 0 k rfl, hf 29 0 k rfl, hf 30 0 k rfl, hf 31 0 k rfl, u25 k hk, u26 k hk, u27 k hk, u28 k hk, u29 k hk, u30 k hk, u31 k hk]
      exact ⟨trivial, trivial, trivial, trivial, trivial, trivial, trivial⟩
    · rw [mw_g (show 32 ≠ 3 by decide)]
      by_cases e : i = p
      · rw [e, mw_s, if_neg (by omega), if_pos rfl]
      · rw [mw_k e, hz i hi]
        by_cases h4 : p < i
        · rw [if_pos h4, if_neg (by omega), if_neg e]
        · rw [if_neg h4, if_pos (by omega)]
