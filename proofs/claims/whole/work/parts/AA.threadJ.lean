/-! a new thread: what stays and what comes -/
def z_fC (T : Nat) (m c : mm_M) : Prop := ∀ g j k, ¬ ((g = 1 ∧ (k = 1 ∨ (5 ≤ k ∧ k ≤ 10))) ∨ (g = 16 ∨ g = 17 ∨ g = 18) ∨ (g = 0 ∧ (k = 5 ∨ k = 2)) ∨ (j = T ∧ ((g = 5 ∧ (k = 4 ∨ k = 5)) ∨ (37 ≤ g ∧ g ≤ 40)))) → c g j k = m g j k
def z_fM (T : Nat) (m r : mm_M) : Prop := ∀ g j k, ¬ ((g = 12 ∧ (k = 3 ∨ k = 4 ∨ (21 ≤ k ∧ k ≤ 31))) ∨ (g = 67 ∧ (k = 8 ∨ k = T)) ∨ (g = 68 ∧ k = T) ∨ (69 ≤ g ∧ g ≤ 72 ∧ (192 ≤ k ∨ (24 * T ≤ k ∧ k < 24 * T + 24)))) → r g j k = m g j k
abbrev zTC : zT := [(1, none, some 1), (1, none, some 5), (1, none, some 6), (1, none, some 7), (1, none, some 8), (1, none, some 9), (1, none, some 10), (16, none, none), (17, none, none), (18, none, none), (0, none, some 5), (0, none, some 2), (5, none, none), (37, none, none), (38, none, none), (39, none, none), (40, none, none)]
abbrev zTM : zT := [(12, none, some 3), (12, none, some 4), (12, none, some 21), (12, none, some 22), (12, none, some 23), (12, none, some 24), (12, none, some 25), (12, none, some 26), (12, none, some 27), (12, none, some 28), (12, none, some 29), (12, none, some 30), (12, none, some 31), (67, none, none), (68, none, none), (69, none, none), (70, none, none), (71, none, none), (72, none, none)]
theorem z_fC_fp {T : Nat} {m c : mm_M} (h : z_fC T m c) : fp zTC m c := fun g j k hz => h g j k (fun z => by
  rcases z with ⟨rfl, hk⟩ | hg | ⟨rfl, hk⟩ | ⟨_, hg⟩
  · rcases (by omega : k = 1 ∨ k = 5 ∨ k = 6 ∨ k = 7 ∨ k = 8 ∨ k = 9 ∨ k = 10) with rfl | rfl | rfl | rfl | rfl | rfl | rfl <;> exact z_inf rfl hz
  · rcases hg with rfl | rfl | rfl <;> exact z_inf rfl hz
  · rcases hk with rfl | rfl <;> exact z_inf rfl hz
  · rcases (by omega : g = 5 ∨ g = 37 ∨ g = 38 ∨ g = 39 ∨ g = 40) with rfl | rfl | rfl | rfl | rfl <;> exact z_inf rfl hz)
theorem z_fM_fp {T : Nat} {m c : mm_M} (h : z_fM T m c) : fp zTM m c := fun g j k hz => h g j k (fun z => by
  rcases z with ⟨rfl, hk⟩ | ⟨rfl, _⟩ | ⟨rfl, _⟩ | ⟨h1, h2, _⟩
  · rcases (by omega : k = 3 ∨ k = 4 ∨ k = 21 ∨ k = 22 ∨ k = 23 ∨ k = 24 ∨ k = 25 ∨ k = 26 ∨ k = 27 ∨ k = 28 ∨ k = 29 ∨ k = 30 ∨ k = 31) with rfl | rfl | rfl | rfl | rfl | rfl | rfl | rfl | rfl | rfl | rfl | rfl | rfl <;> exact z_inf rfl hz
  · exact z_inf rfl hz
  · exact z_inf rfl hz
  · rcases (by omega : g = 69 ∨ g = 70 ∨ g = 71 ∨ g = 72) with rfl | rfl | rfl | rfl <;> exact z_inf rfl hz)
theorem thr_J {m c r : mm_M} {T : Nat} (hJ : qJ m m) (hT : m 0 0 2 = Int32.ofNat T) (hT8 : T ≤ 8) (fC : z_fC T m c) (fM : z_fM T m r) (htC : c 1 0 1 = 0) (htM : r 12 0 21 = 0) (hf : c 0 0 5 = r 12 0 31) (h : (c 0 0 2 = Int32.ofNat T ∧ r 12 0 4 = Int32.ofNat T) ∨ (T < 8 ∧ c 0 0 2 = Int32.ofNat (T + 1) ∧ r 12 0 4 = Int32.ofNat (T + 1) ∧ ∃ N K A B H Y, z_thB N K A B Y ∧ z_thC c T N K A B H Y ∧ z_thM r T N K A B H Y)) : qJ c r := by
  have hC := z_fC_fp fC
  have hM := z_fM_fp fM
  obtain ⟨hday, hfault, hdead, hstr, htap, hlaw, hev, hrow, hinq, hfound, hlamps, hnet, htsk, hdl, halo, hshe⟩ := hJ
  obtain ⟨T2, hT82, hT1, hT2, hth⟩ := hstr
  have eT : T2 = T := by
    rw [hT] at hT1
    exact ((n_eq (by omega) (by omega)).mp hT1).symm
  subst eT
  have up : ∀ t, Int32.ofNat t < m 0 0 2 → t < 8 → t < T2 ∧ Int32.ofNat t < c 0 0 2 := fun t h1 h2 => by
    rw [hT, iA_lt, nJ_T (by omega), nJ_T (by omega)] at h1
    refine ⟨by omega, ?_⟩
    rcases h with ⟨e, _⟩ | ⟨_, e, _⟩
    · rw [e, iA_lt, nJ_T (by omega), nJ_T (by omega)]
      exact h1
    · rw [e, iA_lt, nJ_T (by omega), nJ_T (by omega)]
      omega
  have oldC : ∀ t, t < T2 → ∀ g k, (g = 5 ∨ (37 ≤ g ∧ g ≤ 40)) → c g t k = m g t k := fun t ht g k hg => fC g t k (fun z => by omega)
  have oldM : ∀ t, t < T2 → r 67 0 t = m 67 0 t ∧ r 68 0 t = m 68 0 t := fun t ht => ⟨fM 67 0 t (fun z => by omega), fM 68 0 t (fun z => by omega)⟩
  have oldP : ∀ t p, t < T2 → p < 24 → ∀ g, 69 ≤ g → g ≤ 72 → r g 0 (24 * t + p) = m g 0 (24 * t + p) := fun t p ht hp g h1 h2 => fM g 0 (24 * t + p) (fun z => by omega)
  have old : ∀ t, t < T2 → ∃ N K A B H Y, z_thB N K A B Y ∧ z_thC c t N K A B H Y ∧ z_thM r t N K A B H Y := fun t ht => by
    obtain ⟨N, K, A, B, H, Y, hB, hCt, hMt⟩ := hth t ht
    have h24 := hB.2.1
    refine ⟨N, K, A, B, H, Y, hB, ⟨(oldC t ht 5 4 (Or.inl rfl)).trans hCt.1, (oldC t ht 5 5 (Or.inl rfl)).trans hCt.2.1, fun p hp => ?_⟩, (oldM t ht).1.trans hMt.1, (oldM t ht).2.trans hMt.2.1, fun p hp => ?_⟩
    · obtain ⟨a1, a2, a3, a4⟩ := hCt.2.2 p hp
      exact ⟨(oldC t ht 37 p (by omega)).trans a1, (oldC t ht 38 p (by omega)).trans a2, (oldC t ht 39 p (by omega)).trans a3, (oldC t ht 40 p (by omega)).trans a4⟩
    · obtain ⟨a1, a2, a3, a4⟩ := hMt.2.2 p hp
      exact ⟨(oldP t p ht (by omega) 69 (by omega) (by omega)).trans a1, (oldP t p ht (by omega) 70 (by omega) (by omega)).trans a2, (oldP t p ht (by omega) 71 (by omega) (by omega)).trans a3, (oldP t p ht (by omega) 72 (by omega) (by omega)).trans a4⟩
  have js : j_str c r := by
    rcases h with ⟨e1, e2⟩ | ⟨h8, e1, e2, hnew⟩
    · exact ⟨T2, hT8, e1, e2, old⟩
    · refine ⟨T2 + 1, by omega, e1, e2, fun t ht => ?_⟩
      by_cases hte : t = T2
      · rw [hte]
        exact hnew
      · exact old t (by omega)
  have jt : j_tap c r := ⟨0, by omega, htC, htM, fun k hk => absurd hk (Nat.not_lt_zero k)⟩
  have je : j_ev c r := by
    obtain ⟨E, hE, h8, h6, hev, l, hl, hl2, hl3⟩ := hev
    have c25 : ∀ g k, 25 ≤ g → g ≤ 32 → c g 0 k = m g 0 k := fun g k h1 h2 => fC g 0 k (fun z => by omega)
    have m73 : ∀ g k, 73 ≤ g → g ≤ 79 → r g 0 k = m g 0 k := fun g k h1 h2 => fM g 0 k (fun z => by omega)
    refine ⟨E, hE, (fC 3 0 8 (fun z => by omega)).trans h8, (fM 12 0 6 (fun z => by omega)).trans h6, fun e he => ?_, l, hl, fun i e hie => (c25 32 i (by omega) (by omega)).trans (hl2 i e hie), ?_⟩
    · obtain ⟨a1, a2, a3, a4, a5, a6, a7, a8, ⟨t, ht8, ht, ht2, p, hp, hp2, hp3⟩, a10, a11⟩ := hev e he
      obtain ⟨u1, u2⟩ := up t ht ht8
      unfold z_ev
      rw [c25 25 e (by omega) (by omega), c25 26 e (by omega) (by omega), c25 27 e (by omega) (by omega), c25 28 e (by omega) (by omega), c25 29 e (by omega) (by omega), c25 30 e (by omega) (by omega), c25 31 e (by omega) (by omega), m73 73 e (by omega) (by omega), m73 74 e (by omega) (by omega), m73 75 e (by omega) (by omega), m73 76 e (by omega) (by omega), m73 77 e (by omega) (by omega), m73 78 e (by omega) (by omega), m73 79 e (by omega) (by omega)]
      exact ⟨a1, a2, a3, a4, a5, a6, a7, a8, ⟨t, ht8, u2, ht2, p, hp, hp2, fun z => (oldC t u1 37 p (by omega)).trans (hp3 z)⟩, a10, a11⟩
    · have eb : z_bf c = z_bf m := by
        funext a b
        unfold z_bf
        rw [c25 29 a (by omega) (by omega), c25 29 b (by omega) (by omega)]
      rw [eb]
      exact hl3
  have ji : j_inq c r := by
    obtain ⟨h1, ⟨s, hs8, hs1, hs2, hs3⟩, h3, h4⟩ := hinq
    have c7 : ∀ g j k, (g = 7 ∨ g = 45 ∨ g = 46 ∨ g = 6 ∨ g = 41 ∨ g = 42) → c g j k = m g j k := fun g j k hg => fC g j k (fun z => by omega)
    have m1 : ∀ g k, (103 ≤ g ∧ g ≤ 107) → r g 0 k = m g 0 k := fun g k hg => fM g 0 k (fun z => by omega)
    have m61 : r 12 0 61 = m 12 0 61 := fM 12 0 61 (fun z => by omega)
    have m62 : r 12 0 62 = m 12 0 62 := fM 12 0 62 (fun z => by omega)
    refine ⟨?_, ⟨s, hs8, (c7 7 0 3 (by omega)).trans hs1, m62.trans hs2, fun i hi => ?_⟩, ?_, ?_⟩
    · rw [c7 7 0 0 (by omega), m61]
      rcases h1 with h1 | ⟨t, ht8, ht, h5, h6⟩
      · exact Or.inl h1
      · exact Or.inr ⟨t, ht8, (up t ht ht8).2, h5, h6⟩
    · rw [c7 45 0 i (by omega), c7 46 0 i (by omega), m1 103 i (by omega), m1 104 i (by omega)]
      exact hs3 i hi
    · unfold z_told at h3 ⊢
      simp only [fun k => c7 6 (1 + 0) k (by omega), fun k => c7 41 (1 + 0) k (by omega), fun k => c7 42 (1 + 0) k (by omega), fun k => m1 105 k (by omega), fun k => m1 106 k (by omega), fun k => m1 107 k (by omega)]
      exact h3
    · unfold z_told at h4 ⊢
      simp only [fun k => c7 6 (1 + 1) k (by omega), fun k => c7 41 (1 + 1) k (by omega), fun k => c7 42 (1 + 1) k (by omega), fun k => m1 105 k (by omega), fun k => m1 106 k (by omega), fun k => m1 107 k (by omega)]
      exact h4
  have jn : j_net c r := by
    obtain ⟨C, hC10, hC1, hC2, hcs⟩ := hnet
    have c9 : ∀ g k, (g = 9 ∨ (52 ≤ g ∧ g ≤ 55)) → c g 0 k = m g 0 k := fun g k hg => fC g 0 k (fun z => by omega)
    have m1 : ∀ g k, (112 ≤ g ∧ g ≤ 115) → r g 0 k = m g 0 k := fun g k hg => fM g 0 k (fun z => by omega)
    refine ⟨C, hC10, (c9 9 5 (by omega)).trans hC1, (fM 12 0 77 (fun z => by omega)).trans hC2, fun i hi => ?_⟩
    obtain ⟨a1, a2, a3, a4, a5, a6, ⟨t, ht8, ht, ht2⟩, a8⟩ := hcs i hi
    rw [c9 52 i (by omega), c9 53 i (by omega), c9 54 i (by omega), c9 55 i (by omega), m1 112 i (by omega), m1 113 i (by omega), m1 114 i (by omega), m1 115 i (by omega)]
    exact ⟨a1, a2, a3, a4, a5, a6, ⟨t, ht8, (up t ht ht8).2, ht2⟩, a8⟩
  exact ⟨j_day_kp hC hM (by decide) (by decide) hday, hf, j_dead_kp hC hM (by decide) (by decide) hdead, js, jt, j_law_kp hC hM (by decide) (by decide) hlaw, je, j_row_kp hC hM (by decide) (by decide) hrow, ji, j_found_kp hC hM (by decide) (by decide) hfound, j_lamps_kp hC hM (by decide) (by decide) hlamps, jn, j_tsk_kp hC hM (by decide) (by decide) htsk, j_dl_kp hC hM (by decide) (by decide) hdl, j_alo_kp hC hM (by decide) (by decide) halo, j_she_kp hC hM (by decide) (by decide) hshe⟩
