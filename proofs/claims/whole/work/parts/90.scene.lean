/-! the scene on both sides -/
theorem z_SS_fold2 {ev : zE} {t D k : Int32} {p : Nat} : ∀ (r pre : List Nat) (s : Int32 × Int32 × Int32), (∀ e, e ∈ r → ev 0 e = 0 ∨ ev 0 e = 1 ∨ ev 0 e = 2 ∨ ev 0 e = 3) → (pre ++ r).Pairwise (z_b ev) → z_SS ev t D k p pre pre s → z_SS ev t D k p (pre ++ r) (pre ++ r) (r.foldl (z_sp ev t D k p) s)
  | [], pre, s, _, _, h => by
    rw [List.append_nil]
    exact h
  | e :: r, pre, s, hk, hp, h => by
    have h1 := z_SS_sn (e := e) (hk e List.mem_cons_self) (fun x hx => (List.pairwise_append.mp hp).2.2 x hx e List.mem_cons_self) h
    have h2 := z_SS_fold2 r (pre ++ [e]) _ (fun x hx => hk x (List.mem_cons_of_mem _ hx)) (by rw [List.append_assoc]; exact hp) h1
    rw [List.append_assoc] at h2
    exact h2
theorem z_sp_cg {ev ev2 : zE} {t D k : Int32} {p : Nat} (h : ∀ i, i < 7 → ev i = ev2 i) : z_sp ev t D k p = z_sp ev2 t D k p := by
  have e : z_a ev t D k p = z_a ev2 t D k p := by
    funext x
    unfold z_a
    rw [h 1 (by decide), h 2 (by decide), h 4 (by decide), h 5 (by decide), h 6 (by decide)]
  funext s x
  unfold z_sp
  rw [e, h 0 (by decide), h 3 (by decide)]
theorem z_k4 {x : Int32} (h : ∃ k, k < 4 ∧ x = Int32.ofNat k) : x = 0 ∨ x = 1 ∨ x = 2 ∨ x = 3 := by
  obtain ⟨k, hk, rfl⟩ := h
  rcases (by omega : k = 0 ∨ k = 1 ∨ k = 2 ∨ k = 3) with rfl | rfl | rfl | rfl
  · exact Or.inl rfl
  · exact Or.inr (Or.inl rfl)
  · exact Or.inr (Or.inr (Or.inl rfl))
  · exact Or.inr (Or.inr (Or.inr rfl))
abbrev zC4 : zT := [(4, none, some 4), (33, none, none), (34, none, none), (35, none, none)]
abbrev zM4 : zT := [(87, none, none), (88, none, none), (89, none, none), (90, none, none)]
theorem z_scene {m : mm_M} {t : Nat} {D k : Int32} (hev : j_ev m m) : ∃ bn ct o : Nat → Int32, (∀ T, m 0 0 2 = Int32.ofNat T → T ≤ 8 → t < T → vW (f_X11_showDay (Int32.ofNat t) D k m) (fun q => ∃ c, q = .inr c ∧ fp zC4 m c ∧ c 4 0 4 = Int32.ofNat t ∧ z_scC c bn ct o)) ∧ ∀ m1, fp [(12, none, some 3)] m m1 → vW (f_X12_tellState (Int32.ofNat t) D k m1) (fun c => fp zM4 m1 c ∧ z_scM c bn ct o) := by
  obtain ⟨E, hE, h38, h126, hz, l, hl, h32, hpw⟩ := hev
  have hkd : ∀ e, e < E → m 25 0 e = 0 ∨ m 25 0 e = 1 ∨ m 25 0 e = 2 ∨ m 25 0 e = 3 := fun e he => z_k4 (hz e he).2.2.2.2.2.2.2.1
  have hpt : ∀ e, e < E → ∃ p, p < 24 ∧ m 27 0 e = Int32.ofNat p := fun e he => by
    obtain ⟨t', _, _, _, p, hp, h2, _⟩ := (hz e he).2.2.2.2.2.2.2.2.1
    exact ⟨p, hp, h2⟩
  have hnum : ∀ e, e < E → ¬ m 28 0 e = -1 := fun e he => by
    obtain ⟨x, hx, h2⟩ := (hz e he).2.2.2.2.2.2.2.2.2.1
    rw [h2]
    exact n_m1 (by omega)
  have hmem : ∀ e, e ∈ l → e < E := fun e he => List.mem_range.mp (hl.mem_iff.mp he)
  have hS : ∀ p, z_SS (z_eC m) (Int32.ofNat t) D k p (List.range E) (List.range E) (l.foldl (z_sp (z_eC m) (Int32.ofNat t) D k p) (0, -1, 0)) := fun p => by
    refine z_SS_pm hl ?_
    have := z_SS_fold2 (ev := z_eC m) (t := Int32.ofNat t) (D := D) (k := k) (p := p) l [] (0, -1, 0) (fun e he => hkd e (hmem e he)) hpw ⟨rfl, Or.inr ⟨fun e he => (by cases he), rfl⟩, Or.inr ⟨fun e he => (by cases he), rfl⟩⟩
    exact this
  refine ⟨fun p => (l.foldl (z_sp (z_eC m) (Int32.ofNat t) D k p) (0, -1, 0)).1, fun p => (l.foldl (z_sp (z_eC m) (Int32.ofNat t) D k p) (0, -1, 0)).2.1, fun p => (l.foldl (z_sp (z_eC m) (Int32.ofNat t) D k p) (0, -1, 0)).2.2, fun T hT hT8 ht => ?_, fun m1 hf1 => ?_⟩
  · unfold f_X11_showDay
    refine v_bxe (c_sOk hT hT8 ht) ?_
    refine v_s1 c_show ?_
    rintro c1 ⟨hf1, h4, hc1⟩
    refine v_s1 (c_play (E := E) (l := l) (by rw [hf1 3 0 8 rfl, h38, nJ_T (by omega)]) hE hl (fun i e h => ?_) (fun e he => ?_) (fun e he => ?_)) ?_
    · have he := hmem e (List.mem_of_getElem? h)
      rw [hf1 32 0 i rfl, h32 i e h, nJ_T (by omega)]
    · rw [hf1 27 0 e rfl]
      exact hpt e he
    · rw [hf1 25 0 e rfl]
      exact hkd e he
    · rintro c ⟨hf, hc⟩
      refine v_so ⟨c, rfl, fp_tr hf1 (fp_sb (by decide) hf), (hf 4 0 4 rfl).trans h4, fun p hp => ?_⟩
      have e1 : z_sp (z_eC c1) (Int32.ofNat t) D k p = z_sp (z_eC m) (Int32.ofNat t) D k p := z_sp_cg (fun i hi => by
        funext e
        rcases (by omega : i = 0 ∨ i = 1 ∨ i = 2 ∨ i = 3 ∨ i = 4 ∨ i = 5 ∨ i = 6) with rfl | rfl | rfl | rfl | rfl | rfl | rfl <;> exact hf1 _ _ _ rfl)
      obtain ⟨a1, a2, a3⟩ := hc1 p hp
      have h5 := hc p hp
      rw [e1, a1, a2, a3] at h5
      exact ⟨congrArg (fun z : Int32 × Int32 × Int32 => z.1) h5, congrArg (fun z : Int32 × Int32 × Int32 => z.2.1) h5, congrArg (fun z : Int32 × Int32 × Int32 => z.2.2) h5⟩
  · have hev : z_eM m1 (z_eC m) E := fun e he => by
      obtain ⟨b0, b1, b2, b3, b4, b5, b6, _⟩ := hz e he
      exact ⟨(hf1 73 0 e rfl).trans b0.symm, (hf1 74 0 e rfl).trans b1.symm, (hf1 75 0 e rfl).trans b2.symm, (hf1 76 0 e rfl).trans b3.symm, (hf1 77 0 e rfl).trans b4.symm, (hf1 78 0 e rfl).trans b5.symm, (hf1 79 0 e rfl).trans b6.symm⟩
    refine v_mono (r_tell (t := Int32.ofNat t) (D := D) (k := k) hev (by rw [hf1 12 0 6 rfl, h126, nJ_T (by omega)]) hE hpt hkd hnum) ?_
    rintro c ⟨hf, hc⟩
    refine ⟨hf, fun p hp => ?_⟩
    have h5 := z_SS_u (hc p hp) (hS p)
    exact ⟨congrArg (fun z : Int32 × Int32 × Int32 => z.1) h5, congrArg (fun z : Int32 × Int32 × Int32 => z.2.1) h5, congrArg (fun z : Int32 × Int32 × Int32 => z.2.2) h5⟩
