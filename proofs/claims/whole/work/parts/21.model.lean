/-- GlassThreadsModel.both(IIIIII)I -/
def f_X12_both (a1 : Int32) (a2 : Int32) (a3 : Int32) (a4 : Int32) (a5 : Int32) (a6 : Int32) (m : mm_M) : Option (Int32 × mm_M) :=
mm_let (mm_w m 12 0 3 0) fun m1 =>
mm_b1 (f_X12_isDug a1 a4 a5 m1) fun r2 =>
if r2 = 0 then (mm_b2 (f_X12_fail 1 m1) fun r3 m4 =>
some (r3, m4))
else (mm_b1 (f_X12_isIn a2 0 99999 m1) fun r5 =>
if r5 = 0 then (mm_b2 (f_X12_fail 1 m1) fun r6 m7 =>
some (r6, m7))
else (mm_b1 (f_X12_isIn a3 0 99999 m1) fun r8 =>
if r8 ≠ 0 then (if a6 < 0 then (mm_b2 (f_X12_fail 2 m1) fun r9 m10 =>
some (r9, m10))
else (if a6 ≤ 1 then (mm_b1 (f_X12_least a1 a5 m1) fun r11 =>
mm_b1 (f_X12_most a2 a4 m1) fun r12 =>
mm_let (mm_max r11 (a3 - r12)) fun v13 =>
mm_b1 (f_X12_most a1 a4 m1) fun r14 =>
mm_b1 (f_X12_least a2 a5 m1) fun r15 =>
mm_let (mm_min r14 (a3 - r15)) fun v16 =>
if v13 ≤ v16 then (if a6 ≠ 0 then (some (v16, m1))
else (some (v13, m1)))
else (some ((-1), m1)))
else (mm_b2 (f_X12_fail 2 m1) fun r17 m18 =>
some (r17, m18))))
else (mm_b2 (f_X12_fail 1 m1) fun r19 m20 =>
some (r19, m20))))
set_option maxHeartbeats 4000000 in
set_option maxRecDepth 100000 in
theorem k_X12_both (d : Nat) (hd : 2 ≤ d) (a1 : Int32) (a2 : Int32) (a3 : Int32) (a4 : Int32) (a5 : Int32) (a6 : Int32) (m : mm_M) (r : Int32 × mm_M) (hres : f_X12_both a1 a2 a3 a4 a5 a6 m = some r) : mm_X d 226 [.inr (.inr (some (12, 0))), .inl a1, .inl a2, .inl a3, .inl a4, .inl a5, .inl a6] m (.inl (some (.inl r.1)), r.2, 0, 0) := by
  unfold f_X12_both at hres
  obtain ⟨d, rfl⟩ : ∃ e, d = e + 1 := ⟨d - 1, by omega⟩
  show mm_E (d + 1) 226 (0, [some (.inr (.inr (some (12, 0)))), some (.inl a1), some (.inl a2), some (.inl a3), some (.inl a4), some (.inl a5), some (.inl a6), none, none], [], m) (.inl (some (.inl r.1)), r.2, 0, 0)
  refine e_steps 3 (s' := (5, [some (.inr (.inr (some (12, 0)))), some (.inl a1), some (.inl a2), some (.inl a3), some (.inl a4), some (.inl a5), some (.inl a6), none, none], [], (mm_w m 12 0 3 0))) rfl ?_
  refine e_let (fun (m1 : mm_M) => (5, [some (.inr (.inr (some (12, 0)))), some (.inl a1), some (.inl a2), some (.inl a3), some (.inl a4), some (.inl a5), some (.inl a6), none, none], [], m1)) hres (fun m1 hres => ?_)
  refine e_steps 3 (s' := (10, [some (.inr (.inr (some (12, 0)))), some (.inl a1), some (.inl a2), some (.inl a3), some (.inl a4), some (.inl a5), some (.inl a6), none, none], [.inl a5, .inl a4, .inl a1], m1)) rfl ?_
  obtain ⟨r2, hv, hres⟩ := mm_b1_some hres
  refine e_call0 (pc := 13) (L := [some (.inr (.inr (some (12, 0)))), some (.inl a1), some (.inl a2), some (.inl a3), some (.inl a4), some (.inl a5), some (.inl a6), none, none]) (st := []) (m' := m1) (v := some (.inl r2)) rfl (k_X12_isDug d (by omega) a1 a4 a5 _ _ hv) ?_
  show mm_E (d + 1) 226 (13, [some (.inr (.inr (some (12, 0)))), some (.inl a1), some (.inl a2), some (.inl a3), some (.inl a4), some (.inl a5), some (.inl a6), none, none], [.inl r2], m1) (.inl (some (.inl r.1)), r.2, 0, 0)
  refine e_if (s1 := (38, [some (.inr (.inr (some (12, 0)))), some (.inl a1), some (.inl a2), some (.inl a3), some (.inl a4), some (.inl a5), some (.inl a6), none, none], [], m1)) (s2 := (16, [some (.inr (.inr (some (12, 0)))), some (.inl a1), some (.inl a2), some (.inl a3), some (.inl a4), some (.inl a5), some (.inl a6), none, none], [], m1)) rfl hres (fun hc hres => ?_) (fun hc hres => ?_)
  · refine e_mask (L' := [some (.inr (.inr (some (12, 0)))), none, none, none, none, none, none, none, none]) rfl ?_
    refine e_steps 2 (s' := (40, [some (.inr (.inr (some (12, 0)))), none, none, none, none, none, none, none, none], [.inl 1, .inr (.inr (some (12, 0)))], m1)) rfl ?_
    obtain ⟨r3, m4, hv, hres⟩ := mm_b2_some hres
    refine e_call0 (pc := 43) (L := [some (.inr (.inr (some (12, 0)))), none, none, none, none, none, none, none, none]) (st := []) (m' := m4) (v := some (.inl r3)) rfl (k_X12_fail d (by omega) 1 _ _ hv) ?_
    show mm_E (d + 1) 226 (43, [some (.inr (.inr (some (12, 0)))), none, none, none, none, none, none, none, none], [.inl r3], m4) (.inl (some (.inl r.1)), r.2, 0, 0)
    obtain rfl := Option.some.inj hres
    exact e_ret rfl rfl
  · refine e_steps 3 (s' := (21, [some (.inr (.inr (some (12, 0)))), some (.inl a1), some (.inl a2), some (.inl a3), some (.inl a4), some (.inl a5), some (.inl a6), none, none], [.inl 99999, .inl 0, .inl a2], m1)) rfl ?_
    obtain ⟨r5, hv, hres⟩ := mm_b1_some hres
    refine e_call0 (pc := 24) (L := [some (.inr (.inr (some (12, 0)))), some (.inl a1), some (.inl a2), some (.inl a3), some (.inl a4), some (.inl a5), some (.inl a6), none, none]) (st := []) (m' := m1) (v := some (.inl r5)) rfl (k_X12_isIn d (by omega) a2 0 99999 _ _ hv) ?_
    show mm_E (d + 1) 226 (24, [some (.inr (.inr (some (12, 0)))), some (.inl a1), some (.inl a2), some (.inl a3), some (.inl a4), some (.inl a5), some (.inl a6), none, none], [.inl r5], m1) (.inl (some (.inl r.1)), r.2, 0, 0)
    refine e_if (s1 := (38, [some (.inr (.inr (some (12, 0)))), some (.inl a1), some (.inl a2), some (.inl a3), some (.inl a4), some (.inl a5), some (.inl a6), none, none], [], m1)) (s2 := (27, [some (.inr (.inr (some (12, 0)))), some (.inl a1), some (.inl a2), some (.inl a3), some (.inl a4), some (.inl a5), some (.inl a6), none, none], [], m1)) rfl hres (fun hc hres => ?_) (fun hc hres => ?_)
    · refine e_mask (L' := [some (.inr (.inr (some (12, 0)))), none, none, none, none, none, none, none, none]) rfl ?_
      refine e_steps 2 (s' := (40, [some (.inr (.inr (some (12, 0)))), none, none, none, none, none, none, none, none], [.inl 1, .inr (.inr (some (12, 0)))], m1)) rfl ?_
      obtain ⟨r6, m7, hv, hres⟩ := mm_b2_some hres
      refine e_call0 (pc := 43) (L := [some (.inr (.inr (some (12, 0)))), none, none, none, none, none, none, none, none]) (st := []) (m' := m7) (v := some (.inl r6)) rfl (k_X12_fail d (by omega) 1 _ _ hv) ?_
      show mm_E (d + 1) 226 (43, [some (.inr (.inr (some (12, 0)))), none, none, none, none, none, none, none, none], [.inl r6], m7) (.inl (some (.inl r.1)), r.2, 0, 0)
      obtain rfl := Option.some.inj hres
      exact e_ret rfl rfl
    · refine e_steps 3 (s' := (32, [some (.inr (.inr (some (12, 0)))), some (.inl a1), some (.inl a2), some (.inl a3), some (.inl a4), some (.inl a5), some (.inl a6), none, none], [.inl 99999, .inl 0, .inl a3], m1)) rfl ?_
      obtain ⟨r8, hv, hres⟩ := mm_b1_some hres
      refine e_call0 (pc := 35) (L := [some (.inr (.inr (some (12, 0)))), some (.inl a1), some (.inl a2), some (.inl a3), some (.inl a4), some (.inl a5), some (.inl a6), none, none]) (st := []) (m' := m1) (v := some (.inl r8)) rfl (k_X12_isIn d (by omega) a3 0 99999 _ _ hv) ?_
      show mm_E (d + 1) 226 (35, [some (.inr (.inr (some (12, 0)))), some (.inl a1), some (.inl a2), some (.inl a3), some (.inl a4), some (.inl a5), some (.inl a6), none, none], [.inl r8], m1) (.inl (some (.inl r.1)), r.2, 0, 0)
      refine e_if (s1 := (44, [some (.inr (.inr (some (12, 0)))), some (.inl a1), some (.inl a2), some (.inl a3), some (.inl a4), some (.inl a5), some (.inl a6), none, none], [], m1)) (s2 := (38, [some (.inr (.inr (some (12, 0)))), some (.inl a1), some (.inl a2), some (.inl a3), some (.inl a4), some (.inl a5), some (.inl a6), none, none], [], m1)) rfl hres (fun hc hres => ?_) (fun hc hres => ?_)
      · refine e_steps 1 (s' := (46, [some (.inr (.inr (some (12, 0)))), some (.inl a1), some (.inl a2), some (.inl a3), some (.inl a4), some (.inl a5), some (.inl a6), none, none], [.inl a6], m1)) rfl ?_
        refine e_if (s1 := (55, [some (.inr (.inr (some (12, 0)))), some (.inl a1), some (.inl a2), some (.inl a3), some (.inl a4), some (.inl a5), some (.inl a6), none, none], [], m1)) (s2 := (49, [some (.inr (.inr (some (12, 0)))), some (.inl a1), some (.inl a2), some (.inl a3), some (.inl a4), some (.inl a5), some (.inl a6), none, none], [], m1)) rfl hres (fun hc hres => ?_) (fun hc hres => ?_)
        · refine e_mask (L' := [some (.inr (.inr (some (12, 0)))), none, none, none, none, none, none, none, none]) rfl ?_
          refine e_steps 2 (s' := (57, [some (.inr (.inr (some (12, 0)))), none, none, none, none, none, none, none, none], [.inl 2, .inr (.inr (some (12, 0)))], m1)) rfl ?_
          obtain ⟨r9, m10, hv, hres⟩ := mm_b2_some hres
          refine e_call0 (pc := 60) (L := [some (.inr (.inr (some (12, 0)))), none, none, none, none, none, none, none, none]) (st := []) (m' := m10) (v := some (.inl r9)) rfl (k_X12_fail d (by omega) 2 _ _ hv) ?_
          show mm_E (d + 1) 226 (60, [some (.inr (.inr (some (12, 0)))), none, none, none, none, none, none, none, none], [.inl r9], m10) (.inl (some (.inl r.1)), r.2, 0, 0)
          obtain rfl := Option.some.inj hres
          exact e_ret rfl rfl
        · refine e_steps 2 (s' := (52, [some (.inr (.inr (some (12, 0)))), some (.inl a1), some (.inl a2), some (.inl a3), some (.inl a4), some (.inl a5), some (.inl a6), none, none], [.inl 1, .inl a6], m1)) rfl ?_
          refine e_if (s1 := (61, [some (.inr (.inr (some (12, 0)))), some (.inl a1), some (.inl a2), some (.inl a3), some (.inl a4), some (.inl a5), some (.inl a6), none, none], [], m1)) (s2 := (55, [some (.inr (.inr (some (12, 0)))), some (.inl a1), some (.inl a2), some (.inl a3), some (.inl a4), some (.inl a5), some (.inl a6), none, none], [], m1)) rfl hres (fun hc hres => ?_) (fun hc hres => ?_)
          · refine e_steps 2 (s' := (64, [some (.inr (.inr (some (12, 0)))), some (.inl a1), some (.inl a2), some (.inl a3), some (.inl a4), some (.inl a5), some (.inl a6), none, none], [.inl a5, .inl a1], m1)) rfl ?_
            obtain ⟨r11, hv, hres⟩ := mm_b1_some hres
            refine e_call0 (pc := 67) (L := [some (.inr (.inr (some (12, 0)))), some (.inl a1), some (.inl a2), some (.inl a3), some (.inl a4), some (.inl a5), some (.inl a6), none, none]) (st := []) (m' := m1) (v := some (.inl r11)) rfl (k_X12_least d (by omega) a1 a5 _ _ hv) ?_
            show mm_E (d + 1) 226 (67, [some (.inr (.inr (some (12, 0)))), some (.inl a1), some (.inl a2), some (.inl a3), some (.inl a4), some (.inl a5), some (.inl a6), none, none], [.inl r11], m1) (.inl (some (.inl r.1)), r.2, 0, 0)
            refine e_steps 3 (s' := (71, [some (.inr (.inr (some (12, 0)))), some (.inl a1), some (.inl a2), some (.inl a3), some (.inl a4), some (.inl a5), some (.inl a6), none, none], [.inl a4, .inl a2, .inl a3, .inl r11], m1)) rfl ?_
            obtain ⟨r12, hv, hres⟩ := mm_b1_some hres
            refine e_call0 (pc := 74) (L := [some (.inr (.inr (some (12, 0)))), some (.inl a1), some (.inl a2), some (.inl a3), some (.inl a4), some (.inl a5), some (.inl a6), none, none]) (st := [.inl a3, .inl r11]) (m' := m1) (v := some (.inl r12)) rfl (k_X12_most d (by omega) a2 a4 _ _ hv) ?_
            show mm_E (d + 1) 226 (74, [some (.inr (.inr (some (12, 0)))), some (.inl a1), some (.inl a2), some (.inl a3), some (.inl a4), some (.inl a5), some (.inl a6), none, none], [.inl r12, .inl a3, .inl r11], m1) (.inl (some (.inl r.1)), r.2, 0, 0)
            refine e_steps 3 (s' := (80, [some (.inr (.inr (some (12, 0)))), some (.inl a1), some (.inl a2), some (.inl a3), some (.inl a4), some (.inl a5), some (.inl a6), some (.inl (mm_max r11 (a3 - r12))), none], [], m1)) rfl ?_
            refine e_let (fun (v13 : Int32) => (80, [some (.inr (.inr (some (12, 0)))), some (.inl a1), some (.inl a2), some (.inl a3), some (.inl a4), some (.inl a5), some (.inl a6), some (.inl v13), none], [], m1)) hres (fun v13 hres => ?_)
            refine e_steps 2 (s' := (83, [some (.inr (.inr (some (12, 0)))), some (.inl a1), some (.inl a2), some (.inl a3), some (.inl a4), some (.inl a5), some (.inl a6), some (.inl v13), none], [.inl a4, .inl a1], m1)) rfl ?_
            obtain ⟨r14, hv, hres⟩ := mm_b1_some hres
            refine e_call0 (pc := 86) (L := [some (.inr (.inr (some (12, 0)))), some (.inl a1), some (.inl a2), some (.inl a3), some (.inl a4), some (.inl a5), some (.inl a6), some (.inl v13), none]) (st := []) (m' := m1) (v := some (.inl r14)) rfl (k_X12_most d (by omega) a1 a4 _ _ hv) ?_
            show mm_E (d + 1) 226 (86, [some (.inr (.inr (some (12, 0)))), some (.inl a1), some (.inl a2), some (.inl a3), some (.inl a4), some (.inl a5), some (.inl a6), some (.inl v13), none], [.inl r14], m1) (.inl (some (.inl r.1)), r.2, 0, 0)
            refine e_steps 3 (s' := (90, [some (.inr (.inr (some (12, 0)))), some (.inl a1), some (.inl a2), some (.inl a3), some (.inl a4), some (.inl a5), some (.inl a6), some (.inl v13), none], [.inl a5, .inl a2, .inl a3, .inl r14], m1)) rfl ?_
            obtain ⟨r15, hv, hres⟩ := mm_b1_some hres
            refine e_call0 (pc := 93) (L := [some (.inr (.inr (some (12, 0)))), some (.inl a1), some (.inl a2), some (.inl a3), some (.inl a4), some (.inl a5), some (.inl a6), some (.inl v13), none]) (st := [.inl a3, .inl r14]) (m' := m1) (v := some (.inl r15)) rfl (k_X12_least d (by omega) a2 a5 _ _ hv) ?_
            show mm_E (d + 1) 226 (93, [some (.inr (.inr (some (12, 0)))), some (.inl a1), some (.inl a2), some (.inl a3), some (.inl a4), some (.inl a5), some (.inl a6), some (.inl v13), none], [.inl r15, .inl a3, .inl r14], m1) (.inl (some (.inl r.1)), r.2, 0, 0)
            refine e_steps 3 (s' := (99, [some (.inr (.inr (some (12, 0)))), some (.inl a1), some (.inl a2), some (.inl a3), some (.inl a4), some (.inl a5), some (.inl a6), some (.inl v13), some (.inl (mm_min r14 (a3 - r15)))], [], m1)) rfl ?_
            refine e_let (fun (v16 : Int32) => (99, [some (.inr (.inr (some (12, 0)))), some (.inl a1), some (.inl a2), some (.inl a3), some (.inl a4), some (.inl a5), some (.inl a6), some (.inl v13), some (.inl v16)], [], m1)) hres (fun v16 hres => ?_)
            refine e_steps 2 (s' := (103, [some (.inr (.inr (some (12, 0)))), some (.inl a1), some (.inl a2), some (.inl a3), some (.inl a4), some (.inl a5), some (.inl a6), some (.inl v13), some (.inl v16)], [.inl v16, .inl v13], m1)) rfl ?_
            refine e_if (s1 := (110, [some (.inr (.inr (some (12, 0)))), some (.inl a1), some (.inl a2), some (.inl a3), some (.inl a4), some (.inl a5), some (.inl a6), some (.inl v13), some (.inl v16)], [], m1)) (s2 := (106, [some (.inr (.inr (some (12, 0)))), some (.inl a1), some (.inl a2), some (.inl a3), some (.inl a4), some (.inl a5), some (.inl a6), some (.inl v13), some (.inl v16)], [], m1)) rfl hres (fun hc hres => ?_) (fun hc hres => ?_)
            · refine e_steps 1 (s' := (112, [some (.inr (.inr (some (12, 0)))), some (.inl a1), some (.inl a2), some (.inl a3), some (.inl a4), some (.inl a5), some (.inl a6), some (.inl v13), some (.inl v16)], [.inl a6], m1)) rfl ?_
              refine e_if (s1 := (120, [some (.inr (.inr (some (12, 0)))), some (.inl a1), some (.inl a2), some (.inl a3), some (.inl a4), some (.inl a5), some (.inl a6), some (.inl v13), some (.inl v16)], [], m1)) (s2 := (115, [some (.inr (.inr (some (12, 0)))), some (.inl a1), some (.inl a2), some (.inl a3), some (.inl a4), some (.inl a5), some (.inl a6), some (.inl v13), some (.inl v16)], [], m1)) rfl hres (fun hc hres => ?_) (fun hc hres => ?_)
              · refine e_steps 1 (s' := (122, [some (.inr (.inr (some (12, 0)))), some (.inl a1), some (.inl a2), some (.inl a3), some (.inl a4), some (.inl a5), some (.inl a6), some (.inl v13), some (.inl v16)], [.inl v16], m1)) rfl ?_
                refine e_mask (L' := [none, none, none, none, none, none, none, none, none]) rfl ?_
                obtain rfl := Option.some.inj hres
                exact e_ret rfl rfl
              · refine e_steps 2 (s' := (122, [some (.inr (.inr (some (12, 0)))), some (.inl a1), some (.inl a2), some (.inl a3), some (.inl a4), some (.inl a5), some (.inl a6), some (.inl v13), some (.inl v16)], [.inl v13], m1)) rfl ?_
                refine e_mask (L' := [none, none, none, none, none, none, none, none, none]) rfl ?_
                obtain rfl := Option.some.inj hres
                exact e_ret rfl rfl
            · refine e_steps 2 (s' := (122, [some (.inr (.inr (some (12, 0)))), some (.inl a1), some (.inl a2), some (.inl a3), some (.inl a4), some (.inl a5), some (.inl a6), some (.inl v13), some (.inl v16)], [.inl (-1)], m1)) rfl ?_
              refine e_mask (L' := [none, none, none, none, none, none, none, none, none]) rfl ?_
              obtain rfl := Option.some.inj hres
              exact e_ret rfl rfl
          · refine e_mask (L' := [some (.inr (.inr (some (12, 0)))), none, none, none, none, none, none, none, none]) rfl ?_
            refine e_steps 2 (s' := (57, [some (.inr (.inr (some (12, 0)))), none, none, none, none, none, none, none, none], [.inl 2, .inr (.inr (some (12, 0)))], m1)) rfl ?_
            obtain ⟨r17, m18, hv, hres⟩ := mm_b2_some hres
            refine e_call0 (pc := 60) (L := [some (.inr (.inr (some (12, 0)))), none, none, none, none, none, none, none, none]) (st := []) (m' := m18) (v := some (.inl r17)) rfl (k_X12_fail d (by omega) 2 _ _ hv) ?_
            show mm_E (d + 1) 226 (60, [some (.inr (.inr (some (12, 0)))), none, none, none, none, none, none, none, none], [.inl r17], m18) (.inl (some (.inl r.1)), r.2, 0, 0)
            obtain rfl := Option.some.inj hres
            exact e_ret rfl rfl
      · refine e_mask (L' := [some (.inr (.inr (some (12, 0)))), none, none, none, none, none, none, none, none]) rfl ?_
        refine e_steps 2 (s' := (40, [some (.inr (.inr (some (12, 0)))), none, none, none, none, none, none, none, none], [.inl 1, .inr (.inr (some (12, 0)))], m1)) rfl ?_
        obtain ⟨r19, m20, hv, hres⟩ := mm_b2_some hres
        refine e_call0 (pc := 43) (L := [some (.inr (.inr (some (12, 0)))), none, none, none, none, none, none, none, none]) (st := []) (m' := m20) (v := some (.inl r19)) rfl (k_X12_fail d (by omega) 1 _ _ hv) ?_
        show mm_E (d + 1) 226 (43, [some (.inr (.inr (some (12, 0)))), none, none, none, none, none, none, none, none], [.inl r19], m20) (.inl (some (.inl r.1)), r.2, 0, 0)
        obtain rfl := Option.some.inj hres
        exact e_ret rfl rfl
/-- GlassThreadsModel.disturbed(II)I -/
def f_X12_disturbed (a1 : Int32) (a2 : Int32) (m : mm_M) : Option (Int32) :=
(mm_b1 (mm_loop (σ := Int32 × Int32) (ρ := (Int32)) (fun (s : Int32 × Int32) => match s with
| (v2, v3) => (if a2 ≤ v3 then (some (.inr v2))
else (if v3 = a1 then (mm_let (v3 + 1) fun v4 =>
some (.inl (v2, v4)))
else (if mm_in v3 4 then (
if (mm_abs (v3 - a1)) = 0 then none else (
mm_let (v2 + (((m 110 0 v3.toNatClampNeg) * 100) / (mm_abs (v3 - a1)))) fun v5 =>
mm_let (v3 + 1) fun v6 =>
some (.inl (v5, v6)))) else none)) : Option ((Int32 × Int32) ⊕ ((Int32))))) mm_fu (0, 0)) fun v7 =>
some v7)
set_option maxHeartbeats 4000000 in
set_option maxRecDepth 100000 in
theorem k_X12_disturbed (d : Nat) (hd : 0 ≤ d) (a1 : Int32) (a2 : Int32) (m : mm_M) (r : Int32) (hres : f_X12_disturbed a1 a2 m = some r) : mm_X d 227 [.inr (.inr (some (12, 0))), .inl a1, .inl a2] m (.inl (some (.inl r)), m, 0, 0) := by
  unfold f_X12_disturbed at hres
  show mm_E d 227 (0, [some (.inr (.inr (some (12, 0)))), some (.inl a1), some (.inl a2), none, none], [], m) (.inl (some (.inl r)), m, 0, 0)
  refine e_steps 4 (s' := (5, [some (.inr (.inr (some (12, 0)))), some (.inl a1), some (.inl a2), some (.inl 0), some (.inl 0)], [], m)) rfl ?_
  refine e_mask (L' := [some (.inr (.inr (some (12, 0)))), some (.inl a1), some (.inl a2), some (.inl 0), some (.inl 0)]) rfl ?_
  refine e_loopb (φ := fun s => (5, [some (.inr (.inr (some (12, 0)))), some (.inl a1), some (.inl a2), some (.inl s.1), some (.inl s.2)], [], m)) (K := fun t => mm_E d 227 (44, [none, none, none, some (.inl t), none], [], m) (.inl (some (.inl r)), m, 0, 0)) hres (fun v7 hres => ?_) (fun s ol1 hres hcl1 hxl1 => ?_)
  · show mm_E d 227 (44, [none, none, none, some (.inl v7), none], [], m) (.inl (some (.inl r)), m, 0, 0)
    refine e_steps 1 (s' := (45, [none, none, none, some (.inl v7), none], [.inl v7], m)) rfl ?_
    obtain rfl := Option.some.inj hres
    exact e_ret rfl rfl
  · obtain ⟨v2, v3⟩ := s
    show mm_E d 227 (5, [some (.inr (.inr (some (12, 0)))), some (.inl a1), some (.inl a2), some (.inl v2), some (.inl v3)], [], m) (.inl (some (.inl r)), m, 0, 0)
    refine e_steps 2 (s' := (8, [some (.inr (.inr (some (12, 0)))), some (.inl a1), some (.inl a2), some (.inl v2), some (.inl v3)], [.inl a2, .inl v3], m)) rfl ?_
    refine e_if (s1 := (44, [some (.inr (.inr (some (12, 0)))), some (.inl a1), some (.inl a2), some (.inl v2), some (.inl v3)], [], m)) (s2 := (11, [some (.inr (.inr (some (12, 0)))), some (.inl a1), some (.inl a2), some (.inl v2), some (.inl v3)], [], m)) rfl hres (fun hc hres => ?_) (fun hc hres => ?_)
    · obtain rfl := Option.some.inj hres
      exact e_mask (L' := [none, none, none, some (.inl v2), none]) rfl (hxl1 _ rfl)
    · refine e_steps 2 (s' := (14, [some (.inr (.inr (some (12, 0)))), some (.inl a1), some (.inl a2), some (.inl v2), some (.inl v3)], [.inl a1, .inl v3], m)) rfl ?_
      refine e_if (s1 := (38, [some (.inr (.inr (some (12, 0)))), some (.inl a1), some (.inl a2), some (.inl v2), some (.inl v3)], [], m)) (s2 := (17, [some (.inr (.inr (some (12, 0)))), some (.inl a1), some (.inl a2), some (.inl v2), some (.inl v3)], [], m)) rfl hres (fun hc hres => ?_) (fun hc hres => ?_)
      · refine e_steps 1 (s' := (41, [some (.inr (.inr (some (12, 0)))), some (.inl a1), some (.inl a2), some (.inl v2), some (.inl (v3 + 1))], [], m)) rfl ?_
        refine e_let (fun (v4 : Int32) => (41, [some (.inr (.inr (some (12, 0)))), some (.inl a1), some (.inl a2), some (.inl v2), some (.inl v4)], [], m)) hres (fun v4 hres => ?_)
        refine e_steps 1 (s' := (5, [some (.inr (.inr (some (12, 0)))), some (.inl a1), some (.inl a2), some (.inl v2), some (.inl v4)], [], m)) rfl ?_
        obtain rfl := Option.some.inj hres
        exact e_mask (L' := [some (.inr (.inr (some (12, 0)))), some (.inl a1), some (.inl a2), some (.inl v2), some (.inl v4)]) rfl (hcl1 _ rfl)
      · refine e_steps 4 (s' := (24, [some (.inr (.inr (some (12, 0)))), some (.inl a1), some (.inl a2), some (.inl v2), some (.inl v3)], [.inl v3, .inr (.inr (some (110, 0))), .inl v2], m)) rfl ?_
        refine e_gd (s1 := (25, [some (.inr (.inr (some (12, 0)))), some (.inl a1), some (.inl a2), some (.inl v2), some (.inl v3)], [.inl (m 110 0 v3.toNatClampNeg), .inl v2], m)) rfl hres (fun hc hres => ?_)
        refine e_steps 6 (s' := (35, [some (.inr (.inr (some (12, 0)))), some (.inl a1), some (.inl a2), some (.inl v2), some (.inl v3)], [.inl (mm_abs (v3 - a1)), .inl ((m 110 0 v3.toNatClampNeg) * 100), .inl v2], m)) rfl ?_
        refine e_gn (s1 := (36, [some (.inr (.inr (some (12, 0)))), some (.inl a1), some (.inl a2), some (.inl v2), some (.inl v3)], [.inl (((m 110 0 v3.toNatClampNeg) * 100) / (mm_abs (v3 - a1))), .inl v2], m)) rfl hres (fun hc hres => ?_)
        refine e_steps 2 (s' := (38, [some (.inr (.inr (some (12, 0)))), some (.inl a1), some (.inl a2), some (.inl (v2 + (((m 110 0 v3.toNatClampNeg) * 100) / (mm_abs (v3 - a1))))), some (.inl v3)], [], m)) rfl ?_
        refine e_let (fun (v5 : Int32) => (38, [some (.inr (.inr (some (12, 0)))), some (.inl a1), some (.inl a2), some (.inl v5), some (.inl v3)], [], m)) hres (fun v5 hres => ?_)
        refine e_steps 1 (s' := (41, [some (.inr (.inr (some (12, 0)))), some (.inl a1), some (.inl a2), some (.inl v5), some (.inl (v3 + 1))], [], m)) rfl ?_
        refine e_let (fun (v6 : Int32) => (41, [some (.inr (.inr (some (12, 0)))), some (.inl a1), some (.inl a2), some (.inl v5), some (.inl v6)], [], m)) hres (fun v6 hres => ?_)
        refine e_steps 1 (s' := (5, [some (.inr (.inr (some (12, 0)))), some (.inl a1), some (.inl a2), some (.inl v5), some (.inl v6)], [], m)) rfl ?_
        obtain rfl := Option.some.inj hres
        exact e_mask (L' := [some (.inr (.inr (some (12, 0)))), some (.inl a1), some (.inl a2), some (.inl v5), some (.inl v6)]) rfl (hcl1 _ rfl)
/-- GlassThreadsModel.lamps(IIIIIIII)I -/
def f_X12_lamps (a1 : Int32) (a2 : Int32) (a3 : Int32) (a4 : Int32) (a5 : Int32) (a6 : Int32) (a7 : Int32) (a8 : Int32) (m : mm_M) : Option (Int32 × mm_M) :=
mm_let (mm_w m 12 0 3 0) fun m1 =>
mm_b1 (f_X12_isThread a1 m1) fun r2 =>
if r2 = 0 then (mm_b2 (f_X12_fail 1 m1) fun r3 m4 =>
some (r3, m4))
else (mm_b1 (f_X12_isIn a8 0 36499 m1) fun r5 =>
if r5 ≠ 0 then (mm_b1 (f_X12_isIn a2 1 4 m1) fun r6 =>
if r6 = 0 then (mm_b2 (f_X12_fail 2 m1) fun r7 m8 =>
some (r7, m8))
else (mm_b1 (f_X12_isIn a3 (-60000) 20000 m1) fun r9 =>
if r9 = 0 then (mm_b2 (f_X12_fail 2 m1) fun r10 m11 =>
some (r10, m11))
else (mm_b1 (f_X12_isLevel a4 m1) fun r12 =>
if r12 = 0 then (mm_b2 (f_X12_fail 2 m1) fun r13 m14 =>
some (r13, m14))
else (mm_b1 (f_X12_isLevel a5 m1) fun r15 =>
if r15 = 0 then (mm_b2 (f_X12_fail 2 m1) fun r16 m17 =>
some (r16, m17))
else (mm_b1 (f_X12_isLevel a6 m1) fun r18 =>
if r18 = 0 then (mm_b2 (f_X12_fail 2 m1) fun r19 m20 =>
some (r19, m20))
else (mm_b1 (f_X12_isLevel a7 m1) fun r21 =>
if r21 ≠ 0 then (mm_b1 (f_X12_tellState a1 a8 (m1 12 0 5) m1) fun m23 =>
if mm_in a1 9 then (
mm_b1 (f_X12_isDark a1 (m23 67 0 a1.toNatClampNeg) 0 m23) fun r24 =>
if r24 = 0 then (mm_let (mm_w m23 109 0 0 a4) fun m25 =>
mm_let (mm_w m25 109 0 1 a5) fun m26 =>
mm_let (mm_w m26 109 0 2 a6) fun m27 =>
mm_let (mm_w m27 109 0 3 a7) fun m28 =>
(mm_b1 (mm_loop (σ := Int32 × mm_M) (ρ := (mm_M)) (fun (s : Int32 × mm_M) => match s with
| (v30, m31) => (if a2 ≤ v30 then (some (.inr m31))
else ((mm_b1 (mm_loop (σ := Int32 × mm_M) (ρ := (mm_M)) (fun (s : Int32 × mm_M) => match s with
| (v33, m34) => (if 8 ≤ v33 then (some (.inr m34))
else (if mm_in v30 4 then (
mm_b1 (f_X12_ageOn a1 a8 m34) fun r35 =>
mm_b2 (f_X12_marginOf a1 v30 (a3 + (500 * v33)) (m34 109 0 v30.toNatClampNeg) r35 m34) fun r36 m37 =>
if mm_in ((8 * v30) + v33) 32 then (
mm_let (mm_w m37 111 0 (((8 * v30) + v33).toNatClampNeg) r36) fun m38 =>
mm_let (v33 + 1) fun v39 =>
some (.inl (v39, m38))) else none) else none) : Option ((Int32 × mm_M) ⊕ ((mm_M))))) mm_fu (0, m31)) fun m40 =>
mm_let (v30 + 1) fun v41 =>
some (.inl (v41, m40)))) : Option ((Int32 × mm_M) ⊕ ((mm_M))))) mm_fu (0, m28)) fun m42 =>
(mm_b1 (mm_loop (σ := Int32 × Int32) (ρ := (Int32)) (fun (s : Int32 × Int32) => match s with
| (v44, v45) => (if a2 ≤ v45 then (some (.inr v44))
else (mm_let (v44 * 8) fun v46 =>
mm_let (v45 + 1) fun v47 =>
some (.inl (v46, v47))) : Option ((Int32 × Int32) ⊕ ((Int32))))) mm_fu (1, 0)) fun v48 =>
(mm_b1 (mm_loop (σ := Int32 × Int32 × Int32 × Int32 × mm_M) (ρ := (Int32 × mm_M)) (fun (s : Int32 × Int32 × Int32 × Int32 × mm_M) => match s with
| (v50, v51, v52, v53, m54) => (if v48 ≤ v53 then (some (.inr (v51, m54)))
else (mm_let (a2 - 1) fun v55 =>
(mm_b1 (mm_loop (σ := Int32 × Int32 × Int32 × mm_M) (ρ := (Int32 × mm_M)) (fun (s : Int32 × Int32 × Int32 × mm_M) => match s with
| (v57, v58, v59, m60) => (if v59 < 0 then (some (.inr (v58, m60)))
else (if mm_in v59 4 then (
mm_let (mm_w m60 110 0 v59.toNatClampNeg (v57 % 8)) fun m61 =>
mm_let (v57 / 8) fun v62 =>
if mm_in v59 4 then (
mm_let (v58 + (m61 110 0 v59.toNatClampNeg)) fun v63 =>
mm_let (v59 + (-1)) fun v64 =>
some (.inl (v62, v63, v64, m61))) else none) else none) : Option ((Int32 × Int32 × Int32 × mm_M) ⊕ ((Int32 × mm_M))))) mm_fu (v53, 0, v55, m54)) fun t => match t with
| (v65, m66) => (mm_b1 (mm_loop (σ := Int32 × Int32) (ρ := (Int32)) (fun (s : Int32 × Int32) => match s with
| (v68, v69) => (if a2 ≤ v69 then (some (.inr v68))
else (if mm_in v69 4 then (
if mm_in ((8 * v69) + (m66 110 0 v69.toNatClampNeg)) 32 then (
mm_b1 (f_X12_disturbed v69 a2 m66) fun r70 =>
mm_let ((m66 111 0 ((8 * v69) + (m66 110 0 v69.toNatClampNeg)).toNatClampNeg) - r70) fun v71 =>
if v69 ≠ 0 then (mm_let (mm_min v68 v71) fun v72 =>
mm_let (v69 + 1) fun v73 =>
some (.inl (v72, v73)))
else (mm_let (v69 + 1) fun v74 =>
some (.inl (v71, v74)))) else none) else none) : Option ((Int32 × Int32) ⊕ ((Int32))))) mm_fu (0, 0)) fun v75 =>
mm_let (((mm_b1 (mm_loop (σ := Int32 × mm_M) (ρ := (mm_M)) (fun (s : Int32 × mm_M) => match s with
| (v78, m79) => (if a2 ≤ v78 then (some (.inr m79))
else (if mm_in v78 4 then (
if mm_in v78 4 then (
mm_let (mm_w m79 108 0 v78.toNatClampNeg (m79 110 0 v78.toNatClampNeg)) fun m80 =>
mm_let (v78 + 1) fun v81 =>
some (.inl (v81, m80))) else none) else none) : Option ((Int32 × mm_M) ⊕ ((mm_M))))) mm_fu (0, m66)) fun m82 =>
mm_let (v53 + 1) fun v83 =>
some (.inl (1, v75, v65, v83, m82))) : Option ((Int32 × Int32 × Int32 × Int32 × mm_M) ⊕ ((Int32 × mm_M))))) fun k76 =>
if v50 = 0 then (k76)
else (if v75 < v51 then (mm_let (v53 + 1) fun v84 =>
some (.inl (v50, v51, v52, v84, m66)))
else (if v75 ≠ v51 then (k76)
else (if v65 < v52 then (k76)
else (mm_let (v53 + 1) fun v85 =>
some (.inl (v50, v51, v52, v85, m66))))))))) : Option ((Int32 × Int32 × Int32 × Int32 × mm_M) ⊕ ((Int32 × mm_M))))) mm_fu (0, 0, 0, 0, m42)) fun t => match t with
| (v86, m87) => mm_let (mm_w m87 12 0 72 a2) fun m88 =>
some (v86, m88)))))
else (some ((-1000000), m23))) else none)
else (mm_b2 (f_X12_fail 2 m1) fun r89 m90 =>
some (r89, m90))))))))
else (mm_b2 (f_X12_fail 1 m1) fun r91 m92 =>
some (r91, m92)))
set_option maxHeartbeats 4000000 in
set_option maxRecDepth 100000 in
theorem k_X12_lamps (d : Nat) (hd : 5 ≤ d) (a1 : Int32) (a2 : Int32) (a3 : Int32) (a4 : Int32) (a5 : Int32) (a6 : Int32) (a7 : Int32) (a8 : Int32) (m : mm_M) (r : Int32 × mm_M) (hres : f_X12_lamps a1 a2 a3 a4 a5 a6 a7 a8 m = some r) : mm_X d 228 [.inr (.inr (some (12, 0))), .inl a1, .inl a2, .inl a3, .inl a4, .inl a5, .inl a6, .inl a7, .inl a8] m (.inl (some (.inl r.1)), r.2, 0, 0) := by
  unfold f_X12_lamps at hres
  obtain ⟨d, rfl⟩ : ∃ e, d = e + 1 := ⟨d - 1, by omega⟩
  show mm_E (d + 1) 228 (0, [some (.inr (.inr (some (12, 0)))), some (.inl a1), some (.inl a2), some (.inl a3), some (.inl a4), some (.inl a5), some (.inl a6), some (.inl a7), some (.inl a8), none, none, none, none, none, none, none, none, none, none], [], m) (.inl (some (.inl r.1)), r.2, 0, 0)
  refine e_steps 3 (s' := (5, [some (.inr (.inr (some (12, 0)))), some (.inl a1), some (.inl a2), some (.inl a3), some (.inl a4), some (.inl a5), some (.inl a6), some (.inl a7), some (.inl a8), none, none, none, none, none, none, none, none, none, none], [], (mm_w m 12 0 3 0))) rfl ?_
  refine e_let (fun (m1 : mm_M) => (5, [some (.inr (.inr (some (12, 0)))), some (.inl a1), some (.inl a2), some (.inl a3), some (.inl a4), some (.inl a5), some (.inl a6), some (.inl a7), some (.inl a8), none, none, none, none, none, none, none, none, none, none], [], m1)) hres (fun m1 hres => ?_)
  refine e_steps 2 (s' := (7, [some (.inr (.inr (some (12, 0)))), some (.inl a1), some (.inl a2), some (.inl a3), some (.inl a4), some (.inl a5), some (.inl a6), some (.inl a7), some (.inl a8), none, none, none, none, none, none, none, none, none, none], [.inl a1, .inr (.inr (some (12, 0)))], m1)) rfl ?_
  obtain ⟨r2, hv, hres⟩ := mm_b1_some hres
  refine e_call0 (pc := 10) (L := [some (.inr (.inr (some (12, 0)))), some (.inl a1), some (.inl a2), some (.inl a3), some (.inl a4), some (.inl a5), some (.inl a6), some (.inl a7), some (.inl a8), none, none, none, none, none, none, none, none, none, none]) (st := []) (m' := m1) (v := some (.inl r2)) rfl (k_X12_isThread d (by omega) a1 _ _ hv) ?_
  show mm_E (d + 1) 228 (10, [some (.inr (.inr (some (12, 0)))), some (.inl a1), some (.inl a2), some (.inl a3), some (.inl a4), some (.inl a5), some (.inl a6), some (.inl a7), some (.inl a8), none, none, none, none, none, none, none, none, none, none], [.inl r2], m1) (.inl (some (.inl r.1)), r.2, 0, 0)
  refine e_if (s1 := (25, [some (.inr (.inr (some (12, 0)))), some (.inl a1), some (.inl a2), some (.inl a3), some (.inl a4), some (.inl a5), some (.inl a6), some (.inl a7), some (.inl a8), none, none, none, none, none, none, none, none, none, none], [], m1)) (s2 := (13, [some (.inr (.inr (some (12, 0)))), some (.inl a1), some (.inl a2), some (.inl a3), some (.inl a4), some (.inl a5), some (.inl a6), some (.inl a7), some (.inl a8), none, none, none, none, none, none, none, none, none, none], [], m1)) rfl hres (fun hc hres => ?_) (fun hc hres => ?_)
  · refine e_mask (L' := [some (.inr (.inr (some (12, 0)))), none, none, none, none, none, none, none, none, none, none, none, none, none, none, none, none, none, none]) rfl ?_
    refine e_steps 2 (s' := (27, [some (.inr (.inr (some (12, 0)))), none, none, none, none, none, none, none, none, none, none, none, none, none, none, none, none, none, none], [.inl 1, .inr (.inr (some (12, 0)))], m1)) rfl ?_
    obtain ⟨r3, m4, hv, hres⟩ := mm_b2_some hres
    refine e_call0 (pc := 30) (L := [some (.inr (.inr (some (12, 0)))), none, none, none, none, none, none, none, none, none, none, none, none, none, none, none, none, none, none]) (st := []) (m' := m4) (v := some (.inl r3)) rfl (k_X12_fail d (by omega) 1 _ _ hv) ?_
    show mm_E (d + 1) 228 (30, [some (.inr (.inr (some (12, 0)))), none, none, none, none, none, none, none, none, none, none, none, none, none, none, none, none, none, none], [.inl r3], m4) (.inl (some (.inl r.1)), r.2, 0, 0)
    obtain rfl := Option.some.inj hres
    exact e_ret rfl rfl
  · refine e_steps 3 (s' := (19, [some (.inr (.inr (some (12, 0)))), some (.inl a1), some (.inl a2), some (.inl a3), some (.inl a4), some (.inl a5), some (.inl a6), some (.inl a7), some (.inl a8), none, none, none, none, none, none, none, none, none, none], [.inl 36499, .inl 0, .inl a8], m1)) rfl ?_
    obtain ⟨r5, hv, hres⟩ := mm_b1_some hres
    refine e_call0 (pc := 22) (L := [some (.inr (.inr (some (12, 0)))), some (.inl a1), some (.inl a2), some (.inl a3), some (.inl a4), some (.inl a5), some (.inl a6), some (.inl a7), some (.inl a8), none, none, none, none, none, none, none, none, none, none]) (st := []) (m' := m1) (v := some (.inl r5)) rfl (k_X12_isIn d (by omega) a8 0 36499 _ _ hv) ?_
    show mm_E (d + 1) 228 (22, [some (.inr (.inr (some (12, 0)))), some (.inl a1), some (.inl a2), some (.inl a3), some (.inl a4), some (.inl a5), some (.inl a6), some (.inl a7), some (.inl a8), none, none, none, none, none, none, none, none, none, none], [.inl r5], m1) (.inl (some (.inl r.1)), r.2, 0, 0)
    refine e_if (s1 := (31, [some (.inr (.inr (some (12, 0)))), some (.inl a1), some (.inl a2), some (.inl a3), some (.inl a4), some (.inl a5), some (.inl a6), some (.inl a7), some (.inl a8), none, none, none, none, none, none, none, none, none, none], [], m1)) (s2 := (25, [some (.inr (.inr (some (12, 0)))), some (.inl a1), some (.inl a2), some (.inl a3), some (.inl a4), some (.inl a5), some (.inl a6), some (.inl a7), some (.inl a8), none, none, none, none, none, none, none, none, none, none], [], m1)) rfl hres (fun hc hres => ?_) (fun hc hres => ?_)
    · refine e_steps 3 (s' := (34, [some (.inr (.inr (some (12, 0)))), some (.inl a1), some (.inl a2), some (.inl a3), some (.inl a4), some (.inl a5), some (.inl a6), some (.inl a7), some (.inl a8), none, none, none, none, none, none, none, none, none, none], [.inl 4, .inl 1, .inl a2], m1)) rfl ?_
      obtain ⟨r6, hv, hres⟩ := mm_b1_some hres
      refine e_call0 (pc := 37) (L := [some (.inr (.inr (some (12, 0)))), some (.inl a1), some (.inl a2), some (.inl a3), some (.inl a4), some (.inl a5), some (.inl a6), some (.inl a7), some (.inl a8), none, none, none, none, none, none, none, none, none, none]) (st := []) (m' := m1) (v := some (.inl r6)) rfl (k_X12_isIn d (by omega) a2 1 4 _ _ hv) ?_
      show mm_E (d + 1) 228 (37, [some (.inr (.inr (some (12, 0)))), some (.inl a1), some (.inl a2), some (.inl a3), some (.inl a4), some (.inl a5), some (.inl a6), some (.inl a7), some (.inl a8), none, none, none, none, none, none, none, none, none, none], [.inl r6], m1) (.inl (some (.inl r.1)), r.2, 0, 0)
      refine e_if (s1 := (85, [some (.inr (.inr (some (12, 0)))), some (.inl a1), some (.inl a2), some (.inl a3), some (.inl a4), some (.inl a5), some (.inl a6), some (.inl a7), some (.inl a8), none, none, none, none, none, none, none, none, none, none], [], m1)) (s2 := (40, [some (.inr (.inr (some (12, 0)))), some (.inl a1), some (.inl a2), some (.inl a3), some (.inl a4), some (.inl a5), some (.inl a6), some (.inl a7), some (.inl a8), none, none, none, none, none, none, none, none, none, none], [], m1)) rfl hres (fun hc hres => ?_) (fun hc hres => ?_)
      · refine e_mask (L' := [some (.inr (.inr (some (12, 0)))), none, none, none, none, none, none, none, none, none, none, none, none, none, none, none, none, none, none]) rfl ?_
        refine e_steps 2 (s' := (87, [some (.inr (.inr (some (12, 0)))), none, none, none, none, none, none, none, none, none, none, none, none, none, none, none, none, none, none], [.inl 2, .inr (.inr (some (12, 0)))], m1)) rfl ?_
        obtain ⟨r7, m8, hv, hres⟩ := mm_b2_some hres
        refine e_call0 (pc := 90) (L := [some (.inr (.inr (some (12, 0)))), none, none, none, none, none, none, none, none, none, none, none, none, none, none, none, none, none, none]) (st := []) (m' := m8) (v := some (.inl r7)) rfl (k_X12_fail d (by omega) 2 _ _ hv) ?_
        show mm_E (d + 1) 228 (90, [some (.inr (.inr (some (12, 0)))), none, none, none, none, none, none, none, none, none, none, none, none, none, none, none, none, none, none], [.inl r7], m8) (.inl (some (.inl r.1)), r.2, 0, 0)
        obtain rfl := Option.some.inj hres
        exact e_ret rfl rfl
      · refine e_steps 3 (s' := (47, [some (.inr (.inr (some (12, 0)))), some (.inl a1), some (.inl a2), some (.inl a3), some (.inl a4), some (.inl a5), some (.inl a6), some (.inl a7), some (.inl a8), none, none, none, none, none, none, none, none, none, none], [.inl 20000, .inl (-60000), .inl a3], m1)) rfl ?_
        obtain ⟨r9, hv, hres⟩ := mm_b1_some hres
        refine e_call0 (pc := 50) (L := [some (.inr (.inr (some (12, 0)))), some (.inl a1), some (.inl a2), some (.inl a3), some (.inl a4), some (.inl a5), some (.inl a6), some (.inl a7), some (.inl a8), none, none, none, none, none, none, none, none, none, none]) (st := []) (m' := m1) (v := some (.inl r9)) rfl (k_X12_isIn d (by omega) a3 (-60000) 20000 _ _ hv) ?_
        show mm_E (d + 1) 228 (50, [some (.inr (.inr (some (12, 0)))), some (.inl a1), some (.inl a2), some (.inl a3), some (.inl a4), some (.inl a5), some (.inl a6), some (.inl a7), some (.inl a8), none, none, none, none, none, none, none, none, none, none], [.inl r9], m1) (.inl (some (.inl r.1)), r.2, 0, 0)
        refine e_if (s1 := (85, [some (.inr (.inr (some (12, 0)))), some (.inl a1), some (.inl a2), some (.inl a3), some (.inl a4), some (.inl a5), some (.inl a6), some (.inl a7), some (.inl a8), none, none, none, none, none, none, none, none, none, none], [], m1)) (s2 := (53, [some (.inr (.inr (some (12, 0)))), some (.inl a1), some (.inl a2), some (.inl a3), some (.inl a4), some (.inl a5), some (.inl a6), some (.inl a7), some (.inl a8), none, none, none, none, none, none, none, none, none, none], [], m1)) rfl hres (fun hc hres => ?_) (fun hc hres => ?_)
        · refine e_mask (L' := [some (.inr (.inr (some (12, 0)))), none, none, none, none, none, none, none, none, none, none, none, none, none, none, none, none, none, none]) rfl ?_
          refine e_steps 2 (s' := (87, [some (.inr (.inr (some (12, 0)))), none, none, none, none, none, none, none, none, none, none, none, none, none, none, none, none, none, none], [.inl 2, .inr (.inr (some (12, 0)))], m1)) rfl ?_
          obtain ⟨r10, m11, hv, hres⟩ := mm_b2_some hres
          refine e_call0 (pc := 90) (L := [some (.inr (.inr (some (12, 0)))), none, none, none, none, none, none, none, none, none, none, none, none, none, none, none, none, none, none]) (st := []) (m' := m11) (v := some (.inl r10)) rfl (k_X12_fail d (by omega) 2 _ _ hv) ?_
          show mm_E (d + 1) 228 (90, [some (.inr (.inr (some (12, 0)))), none, none, none, none, none, none, none, none, none, none, none, none, none, none, none, none, none, none], [.inl r10], m11) (.inl (some (.inl r.1)), r.2, 0, 0)
          obtain rfl := Option.some.inj hres
          exact e_ret rfl rfl
        · refine e_steps 1 (s' := (55, [some (.inr (.inr (some (12, 0)))), some (.inl a1), some (.inl a2), some (.inl a3), some (.inl a4), some (.inl a5), some (.inl a6), some (.inl a7), some (.inl a8), none, none, none, none, none, none, none, none, none, none], [.inl a4], m1)) rfl ?_
          obtain ⟨r12, hv, hres⟩ := mm_b1_some hres
          refine e_call0 (pc := 58) (L := [some (.inr (.inr (some (12, 0)))), some (.inl a1), some (.inl a2), some (.inl a3), some (.inl a4), some (.inl a5), some (.inl a6), some (.inl a7), some (.inl a8), none, none, none, none, none, none, none, none, none, none]) (st := []) (m' := m1) (v := some (.inl r12)) rfl (k_X12_isLevel d (by omega) a4 _ _ hv) ?_
          show mm_E (d + 1) 228 (58, [some (.inr (.inr (some (12, 0)))), some (.inl a1), some (.inl a2), some (.inl a3), some (.inl a4), some (.inl a5), some (.inl a6), some (.inl a7), some (.inl a8), none, none, none, none, none, none, none, none, none, none], [.inl r12], m1) (.inl (some (.inl r.1)), r.2, 0, 0)
          refine e_if (s1 := (85, [some (.inr (.inr (some (12, 0)))), some (.inl a1), some (.inl a2), some (.inl a3), some (.inl a4), some (.inl a5), some (.inl a6), some (.inl a7), some (.inl a8), none, none, none, none, none, none, none, none, none, none], [], m1)) (s2 := (61, [some (.inr (.inr (some (12, 0)))), some (.inl a1), some (.inl a2), some (.inl a3), some (.inl a4), some (.inl a5), some (.inl a6), some (.inl a7), some (.inl a8), none, none, none, none, none, none, none, none, none, none], [], m1)) rfl hres (fun hc hres => ?_) (fun hc hres => ?_)
          · refine e_mask (L' := [some (.inr (.inr (some (12, 0)))), none, none, none, none, none, none, none, none, none, none, none, none, none, none, none, none, none, none]) rfl ?_
            refine e_steps 2 (s' := (87, [some (.inr (.inr (some (12, 0)))), none, none, none, none, none, none, none, none, none, none, none, none, none, none, none, none, none, none], [.inl 2, .inr (.inr (some (12, 0)))], m1)) rfl ?_
            obtain ⟨r13, m14, hv, hres⟩ := mm_b2_some hres
            refine e_call0 (pc := 90) (L := [some (.inr (.inr (some (12, 0)))), none, none, none, none, none, none, none, none, none, none, none, none, none, none, none, none, none, none]) (st := []) (m' := m14) (v := some (.inl r13)) rfl (k_X12_fail d (by omega) 2 _ _ hv) ?_
            show mm_E (d + 1) 228 (90, [some (.inr (.inr (some (12, 0)))), none, none, none, none, none, none, none, none, none, none, none, none, none, none, none, none, none, none], [.inl r13], m14) (.inl (some (.inl r.1)), r.2, 0, 0)
            obtain rfl := Option.some.inj hres
            exact e_ret rfl rfl
          · refine e_steps 1 (s' := (63, [some (.inr (.inr (some (12, 0)))), some (.inl a1), some (.inl a2), some (.inl a3), some (.inl a4), some (.inl a5), some (.inl a6), some (.inl a7), some (.inl a8), none, none, none, none, none, none, none, none, none, none], [.inl a5], m1)) rfl ?_
            obtain ⟨r15, hv, hres⟩ := mm_b1_some hres
            refine e_call0 (pc := 66) (L := [some (.inr (.inr (some (12, 0)))), some (.inl a1), some (.inl a2), some (.inl a3), some (.inl a4), some (.inl a5), some (.inl a6), some (.inl a7), some (.inl a8), none, none, none, none, none, none, none, none, none, none]) (st := []) (m' := m1) (v := some (.inl r15)) rfl (k_X12_isLevel d (by omega) a5 _ _ hv) ?_
            show mm_E (d + 1) 228 (66, [some (.inr (.inr (some (12, 0)))), some (.inl a1), some (.inl a2), some (.inl a3), some (.inl a4), some (.inl a5), some (.inl a6), some (.inl a7), some (.inl a8), none, none, none, none, none, none, none, none, none, none], [.inl r15], m1) (.inl (some (.inl r.1)), r.2, 0, 0)
            refine e_if (s1 := (85, [some (.inr (.inr (some (12, 0)))), some (.inl a1), some (.inl a2), some (.inl a3), some (.inl a4), some (.inl a5), some (.inl a6), some (.inl a7), some (.inl a8), none, none, none, none, none, none, none, none, none, none], [], m1)) (s2 := (69, [some (.inr (.inr (some (12, 0)))), some (.inl a1), some (.inl a2), some (.inl a3), some (.inl a4), some (.inl a5), some (.inl a6), some (.inl a7), some (.inl a8), none, none, none, none, none, none, none, none, none, none], [], m1)) rfl hres (fun hc hres => ?_) (fun hc hres => ?_)
            · refine e_mask (L' := [some (.inr (.inr (some (12, 0)))), none, none, none, none, none, none, none, none, none, none, none, none, none, none, none, none, none, none]) rfl ?_
              refine e_steps 2 (s' := (87, [some (.inr (.inr (some (12, 0)))), none, none, none, none, none, none, none, none, none, none, none, none, none, none, none, none, none, none], [.inl 2, .inr (.inr (some (12, 0)))], m1)) rfl ?_
              obtain ⟨r16, m17, hv, hres⟩ := mm_b2_some hres
              refine e_call0 (pc := 90) (L := [some (.inr (.inr (some (12, 0)))), none, none, none, none, none, none, none, none, none, none, none, none, none, none, none, none, none, none]) (st := []) (m' := m17) (v := some (.inl r16)) rfl (k_X12_fail d (by omega) 2 _ _ hv) ?_
              show mm_E (d + 1) 228 (90, [some (.inr (.inr (some (12, 0)))), none, none, none, none, none, none, none, none, none, none, none, none, none, none, none, none, none, none], [.inl r16], m17) (.inl (some (.inl r.1)), r.2, 0, 0)
              obtain rfl := Option.some.inj hres
              exact e_ret rfl rfl
            · refine e_steps 1 (s' := (71, [some (.inr (.inr (some (12, 0)))), some (.inl a1), some (.inl a2), some (.inl a3), some (.inl a4), some (.inl a5), some (.inl a6), some (.inl a7), some (.inl a8), none, none, none, none, none, none, none, none, none, none], [.inl a6], m1)) rfl ?_
              obtain ⟨r18, hv, hres⟩ := mm_b1_some hres
              refine e_call0 (pc := 74) (L := [some (.inr (.inr (some (12, 0)))), some (.inl a1), some (.inl a2), some (.inl a3), some (.inl a4), some (.inl a5), some (.inl a6), some (.inl a7), some (.inl a8), none, none, none, none, none, none, none, none, none, none]) (st := []) (m' := m1) (v := some (.inl r18)) rfl (k_X12_isLevel d (by omega) a6 _ _ hv) ?_
              show mm_E (d + 1) 228 (74, [some (.inr (.inr (some (12, 0)))), some (.inl a1), some (.inl a2), some (.inl a3), some (.inl a4), some (.inl a5), some (.inl a6), some (.inl a7), some (.inl a8), none, none, none, none, none, none, none, none, none, none], [.inl r18], m1) (.inl (some (.inl r.1)), r.2, 0, 0)
              refine e_if (s1 := (85, [some (.inr (.inr (some (12, 0)))), some (.inl a1), some (.inl a2), some (.inl a3), some (.inl a4), some (.inl a5), some (.inl a6), some (.inl a7), some (.inl a8), none, none, none, none, none, none, none, none, none, none], [], m1)) (s2 := (77, [some (.inr (.inr (some (12, 0)))), some (.inl a1), some (.inl a2), some (.inl a3), some (.inl a4), some (.inl a5), some (.inl a6), some (.inl a7), some (.inl a8), none, none, none, none, none, none, none, none, none, none], [], m1)) rfl hres (fun hc hres => ?_) (fun hc hres => ?_)
              · refine e_mask (L' := [some (.inr (.inr (some (12, 0)))), none, none, none, none, none, none, none, none, none, none, none, none, none, none, none, none, none, none]) rfl ?_
                refine e_steps 2 (s' := (87, [some (.inr (.inr (some (12, 0)))), none, none, none, none, none, none, none, none, none, none, none, none, none, none, none, none, none, none], [.inl 2, .inr (.inr (some (12, 0)))], m1)) rfl ?_
                obtain ⟨r19, m20, hv, hres⟩ := mm_b2_some hres
                refine e_call0 (pc := 90) (L := [some (.inr (.inr (some (12, 0)))), none, none, none, none, none, none, none, none, none, none, none, none, none, none, none, none, none, none]) (st := []) (m' := m20) (v := some (.inl r19)) rfl (k_X12_fail d (by omega) 2 _ _ hv) ?_
                show mm_E (d + 1) 228 (90, [some (.inr (.inr (some (12, 0)))), none, none, none, none, none, none, none, none, none, none, none, none, none, none, none, none, none, none], [.inl r19], m20) (.inl (some (.inl r.1)), r.2, 0, 0)
                obtain rfl := Option.some.inj hres
                exact e_ret rfl rfl
              · refine e_steps 1 (s' := (79, [some (.inr (.inr (some (12, 0)))), some (.inl a1), some (.inl a2), some (.inl a3), some (.inl a4), some (.inl a5), some (.inl a6), some (.inl a7), some (.inl a8), none, none, none, none, none, none, none, none, none, none], [.inl a7], m1)) rfl ?_
                obtain ⟨r21, hv, hres⟩ := mm_b1_some hres
                refine e_call0 (pc := 82) (L := [some (.inr (.inr (some (12, 0)))), some (.inl a1), some (.inl a2), some (.inl a3), some (.inl a4), some (.inl a5), some (.inl a6), some (.inl a7), some (.inl a8), none, none, none, none, none, none, none, none, none, none]) (st := []) (m' := m1) (v := some (.inl r21)) rfl (k_X12_isLevel d (by omega) a7 _ _ hv) ?_
                show mm_E (d + 1) 228 (82, [some (.inr (.inr (some (12, 0)))), some (.inl a1), some (.inl a2), some (.inl a3), some (.inl a4), some (.inl a5), some (.inl a6), some (.inl a7), some (.inl a8), none, none, none, none, none, none, none, none, none, none], [.inl r21], m1) (.inl (some (.inl r.1)), r.2, 0, 0)
                refine e_if (s1 := (91, [some (.inr (.inr (some (12, 0)))), some (.inl a1), some (.inl a2), some (.inl a3), some (.inl a4), some (.inl a5), some (.inl a6), some (.inl a7), some (.inl a8), none, none, none, none, none, none, none, none, none, none], [], m1)) (s2 := (85, [some (.inr (.inr (some (12, 0)))), some (.inl a1), some (.inl a2), some (.inl a3), some (.inl a4), some (.inl a5), some (.inl a6), some (.inl a7), some (.inl a8), none, none, none, none, none, none, none, none, none, none], [], m1)) rfl hres (fun hc hres => ?_) (fun hc hres => ?_)
                · refine e_steps 5 (s' := (99, [some (.inr (.inr (some (12, 0)))), some (.inl a1), some (.inl a2), some (.inl a3), some (.inl a4), some (.inl a5), some (.inl a6), some (.inl a7), some (.inl a8), none, none, none, none, none, none, none, none, none, none], [.inl (m1 12 0 5), .inl a8, .inl a1, .inr (.inr (some (12, 0)))], m1)) rfl ?_
                  obtain ⟨m23, hv, hres⟩ := mm_b1_some hres
                  refine e_call0 (pc := 102) (L := [some (.inr (.inr (some (12, 0)))), some (.inl a1), some (.inl a2), some (.inl a3), some (.inl a4), some (.inl a5), some (.inl a6), some (.inl a7), some (.inl a8), none, none, none, none, none, none, none, none, none, none]) (st := []) (m' := m23) (v := none) rfl (k_X12_tellState d (by omega) a1 a8 (m1 12 0 5) _ _ hv) ?_
                  show mm_E (d + 1) 228 (102, [some (.inr (.inr (some (12, 0)))), some (.inl a1), some (.inl a2), some (.inl a3), some (.inl a4), some (.inl a5), some (.inl a6), some (.inl a7), some (.inl a8), none, none, none, none, none, none, none, none, none, none], [], m23) (.inl (some (.inl r.1)), r.2, 0, 0)
                  refine e_steps 5 (s' := (109, [some (.inr (.inr (some (12, 0)))), some (.inl a1), some (.inl a2), some (.inl a3), some (.inl a4), some (.inl a5), some (.inl a6), some (.inl a7), some (.inl a8), none, none, none, none, none, none, none, none, none, none], [.inl a1, .inr (.inr (some (67, 0))), .inl a1, .inr (.inr (some (12, 0)))], m23)) rfl ?_
                  refine e_gd (s1 := (110, [some (.inr (.inr (some (12, 0)))), some (.inl a1), some (.inl a2), some (.inl a3), some (.inl a4), some (.inl a5), some (.inl a6), some (.inl a7), some (.inl a8), none, none, none, none, none, none, none, none, none, none], [.inl (m23 67 0 a1.toNatClampNeg), .inl a1, .inr (.inr (some (12, 0)))], m23)) rfl hres (fun hc hres => ?_)
                  refine e_steps 1 (s' := (111, [some (.inr (.inr (some (12, 0)))), some (.inl a1), some (.inl a2), some (.inl a3), some (.inl a4), some (.inl a5), some (.inl a6), some (.inl a7), some (.inl a8), none, none, none, none, none, none, none, none, none, none], [.inl 0, .inl (m23 67 0 a1.toNatClampNeg), .inl a1, .inr (.inr (some (12, 0)))], m23)) rfl ?_
                  obtain ⟨r24, hv, hres⟩ := mm_b1_some hres
                  refine e_call0 (pc := 114) (L := [some (.inr (.inr (some (12, 0)))), some (.inl a1), some (.inl a2), some (.inl a3), some (.inl a4), some (.inl a5), some (.inl a6), some (.inl a7), some (.inl a8), none, none, none, none, none, none, none, none, none, none]) (st := []) (m' := m23) (v := some (.inl r24)) rfl (k_X12_isDark d (by omega) a1 (m23 67 0 a1.toNatClampNeg) 0 _ _ hv) ?_
                  show mm_E (d + 1) 228 (114, [some (.inr (.inr (some (12, 0)))), some (.inl a1), some (.inl a2), some (.inl a3), some (.inl a4), some (.inl a5), some (.inl a6), some (.inl a7), some (.inl a8), none, none, none, none, none, none, none, none, none, none], [.inl r24], m23) (.inl (some (.inl r.1)), r.2, 0, 0)
                  refine e_if (s1 := (121, [some (.inr (.inr (some (12, 0)))), some (.inl a1), some (.inl a2), some (.inl a3), some (.inl a4), some (.inl a5), some (.inl a6), some (.inl a7), some (.inl a8), none, none, none, none, none, none, none, none, none, none], [], m23)) (s2 := (117, [some (.inr (.inr (some (12, 0)))), some (.inl a1), some (.inl a2), some (.inl a3), some (.inl a4), some (.inl a5), some (.inl a6), some (.inl a7), some (.inl a8), none, none, none, none, none, none, none, none, none, none], [], m23)) rfl hres (fun hc hres => ?_) (fun hc hres => ?_)
                  · refine e_steps 5 (s' := (129, [some (.inr (.inr (some (12, 0)))), some (.inl a1), some (.inl a2), some (.inl a3), some (.inl a4), some (.inl a5), some (.inl a6), some (.inl a7), some (.inl a8), none, none, none, none, none, none, none, none, none, none], [], (mm_w m23 109 0 0 a4))) rfl ?_
                    refine e_let (fun (m25 : mm_M) => (129, [some (.inr (.inr (some (12, 0)))), some (.inl a1), some (.inl a2), some (.inl a3), some (.inl a4), some (.inl a5), some (.inl a6), some (.inl a7), some (.inl a8), none, none, none, none, none, none, none, none, none, none], [], m25)) hres (fun m25 hres => ?_)
                    refine e_steps 5 (s' := (137, [some (.inr (.inr (some (12, 0)))), some (.inl a1), some (.inl a2), some (.inl a3), some (.inl a4), some (.inl a5), some (.inl a6), some (.inl a7), some (.inl a8), none, none, none, none, none, none, none, none, none, none], [], (mm_w m25 109 0 1 a5))) rfl ?_
                    refine e_let (fun (m26 : mm_M) => (137, [some (.inr (.inr (some (12, 0)))), some (.inl a1), some (.inl a2), some (.inl a3), some (.inl a4), some (.inl a5), some (.inl a6), some (.inl a7), some (.inl a8), none, none, none, none, none, none, none, none, none, none], [], m26)) hres (fun m26 hres => ?_)
                    refine e_steps 5 (s' := (145, [some (.inr (.inr (some (12, 0)))), some (.inl a1), some (.inl a2), some (.inl a3), some (.inl a4), some (.inl a5), some (.inl a6), some (.inl a7), some (.inl a8), none, none, none, none, none, none, none, none, none, none], [], (mm_w m26 109 0 2 a6))) rfl ?_
                    refine e_let (fun (m27 : mm_M) => (145, [some (.inr (.inr (some (12, 0)))), some (.inl a1), some (.inl a2), some (.inl a3), some (.inl a4), some (.inl a5), some (.inl a6), some (.inl a7), some (.inl a8), none, none, none, none, none, none, none, none, none, none], [], m27)) hres (fun m27 hres => ?_)
                    refine e_steps 5 (s' := (153, [some (.inr (.inr (some (12, 0)))), some (.inl a1), some (.inl a2), some (.inl a3), some (.inl a4), some (.inl a5), some (.inl a6), some (.inl a7), some (.inl a8), none, none, none, none, none, none, none, none, none, none], [], (mm_w m27 109 0 3 a7))) rfl ?_
                    refine e_let (fun (m28 : mm_M) => (153, [some (.inr (.inr (some (12, 0)))), some (.inl a1), some (.inl a2), some (.inl a3), some (.inl a4), some (.inl a5), some (.inl a6), some (.inl a7), some (.inl a8), none, none, none, none, none, none, none, none, none, none], [], m28)) hres (fun m28 hres => ?_)
                    refine e_steps 2 (s' := (156, [some (.inr (.inr (some (12, 0)))), some (.inl a1), some (.inl a2), some (.inl a3), some (.inl a4), some (.inl a5), some (.inl a6), some (.inl a7), some (.inl a8), some (.inl 0), none, none, none, none, none, none, none, none, none], [], m28)) rfl ?_
                    refine e_mask (L' := [some (.inr (.inr (some (12, 0)))), some (.inl a1), some (.inl a2), some (.inl a3), none, none, none, none, some (.inl a8), some (.inl 0), none, none, none, none, none, none, none, none, none]) rfl ?_
                    refine e_loopb (φ := fun s => (156, [some (.inr (.inr (some (12, 0)))), some (.inl a1), some (.inl a2), some (.inl a3), none, none, none, none, some (.inl a8), some (.inl s.1), none, none, none, none, none, none, none, none, none], [], s.2)) (K := fun t => mm_E (d + 1) 228 (226, [some (.inr (.inr (some (12, 0)))), none, some (.inl a2), none, none, none, none, none, none, none, none, none, none, none, none, none, none, none, none], [], t) (.inl (some (.inl r.1)), r.2, 0, 0)) hres (fun m42 hres => ?_) (fun s ol29 hres hcl29 hxl29 => ?_)
                    · show mm_E (d + 1) 228 (226, [some (.inr (.inr (some (12, 0)))), none, some (.inl a2), none, none, none, none, none, none, none, none, none, none, none, none, none, none, none, none], [], m42) (.inl (some (.inl r.1)), r.2, 0, 0)
                      refine e_steps 4 (s' := (232, [some (.inr (.inr (some (12, 0)))), none, some (.inl a2), none, none, none, none, none, none, some (.inl 1), some (.inl 0), none, none, none, none, none, none, none, none], [], m42)) rfl ?_
                      refine e_mask (L' := [some (.inr (.inr (some (12, 0)))), none, some (.inl a2), none, none, none, none, none, none, some (.inl 1), some (.inl 0), none, none, none, none, none, none, none, none]) rfl ?_
                      refine e_loopb (φ := fun s => (232, [some (.inr (.inr (some (12, 0)))), none, some (.inl a2), none, none, none, none, none, none, some (.inl s.1), some (.inl s.2), none, none, none, none, none, none, none, none], [], m42)) (K := fun t => mm_E (d + 1) 228 (251, [some (.inr (.inr (some (12, 0)))), none, some (.inl a2), none, none, none, none, none, none, some (.inl t), none, none, none, none, none, none, none, none, none], [], m42) (.inl (some (.inl r.1)), r.2, 0, 0)) hres (fun v48 hres => ?_) (fun s ol43 hres hcl43 hxl43 => ?_)
                      · show mm_E (d + 1) 228 (251, [some (.inr (.inr (some (12, 0)))), none, some (.inl a2), none, none, none, none, none, none, some (.inl v48), none, none, none, none, none, none, none, none, none], [], m42) (.inl (some (.inl r.1)), r.2, 0, 0)
                        refine e_steps 8 (s' := (263, [some (.inr (.inr (some (12, 0)))), none, some (.inl a2), none, none, none, none, none, none, some (.inl v48), some (.inl 0), some (.inl 0), some (.inl 0), some (.inl 0), none, none, none, none, none], [], m42)) rfl ?_
                        refine e_mask (L' := [some (.inr (.inr (some (12, 0)))), none, some (.inl a2), none, none, none, none, none, none, some (.inl v48), some (.inl 0), some (.inl 0), some (.inl 0), some (.inl 0), none, none, none, none, none]) rfl ?_
                        refine e_loopb (φ := fun s => (263, [some (.inr (.inr (some (12, 0)))), none, some (.inl a2), none, none, none, none, none, none, some (.inl v48), some (.inl s.1), some (.inl s.2.1), some (.inl s.2.2.1), some (.inl s.2.2.2.1), none, none, none, none, none], [], s.2.2.2.2)) (K := fun t => mm_E (d + 1) 228 (464, [some (.inr (.inr (some (12, 0)))), none, some (.inl a2), none, none, none, none, none, none, none, none, some (.inl t.1), none, none, none, none, none, none, none], [], t.2) (.inl (some (.inl r.1)), r.2, 0, 0)) hres (fun t hres => ?_) (fun s ol49 hres hcl49 hxl49 => ?_)
                        · obtain ⟨v86, m87⟩ := t
                          show mm_E (d + 1) 228 (464, [some (.inr (.inr (some (12, 0)))), none, some (.inl a2), none, none, none, none, none, none, none, none, some (.inl v86), none, none, none, none, none, none, none], [], m87) (.inl (some (.inl r.1)), r.2, 0, 0)
                          refine e_steps 3 (s' := (469, [some (.inr (.inr (some (12, 0)))), none, some (.inl a2), none, none, none, none, none, none, none, none, some (.inl v86), none, none, none, none, none, none, none], [], (mm_w m87 12 0 72 a2))) rfl ?_
                          refine e_let (fun (m88 : mm_M) => (469, [some (.inr (.inr (some (12, 0)))), none, some (.inl a2), none, none, none, none, none, none, none, none, some (.inl v86), none, none, none, none, none, none, none], [], m88)) hres (fun m88 hres => ?_)
                          refine e_steps 1 (s' := (471, [some (.inr (.inr (some (12, 0)))), none, some (.inl a2), none, none, none, none, none, none, none, none, some (.inl v86), none, none, none, none, none, none, none], [.inl v86], m88)) rfl ?_
                          obtain rfl := Option.some.inj hres
                          exact e_ret rfl rfl
                        · obtain ⟨v50, v51, v52, v53, m54⟩ := s
                          show mm_E (d + 1) 228 (263, [some (.inr (.inr (some (12, 0)))), none, some (.inl a2), none, none, none, none, none, none, some (.inl v48), some (.inl v50), some (.inl v51), some (.inl v52), some (.inl v53), none, none, none, none, none], [], m54) (.inl (some (.inl r.1)), r.2, 0, 0)
                          refine e_steps 2 (s' := (267, [some (.inr (.inr (some (12, 0)))), none, some (.inl a2), none, none, none, none, none, none, some (.inl v48), some (.inl v50), some (.inl v51), some (.inl v52), some (.inl v53), none, none, none, none, none], [.inl v48, .inl v53], m54)) rfl ?_
                          refine e_if (s1 := (464, [some (.inr (.inr (some (12, 0)))), none, some (.inl a2), none, none, none, none, none, none, some (.inl v48), some (.inl v50), some (.inl v51), some (.inl v52), some (.inl v53), none, none, none, none, none], [], m54)) (s2 := (270, [some (.inr (.inr (some (12, 0)))), none, some (.inl a2), none, none, none, none, none, none, some (.inl v48), some (.inl v50), some (.inl v51), some (.inl v52), some (.inl v53), none, none, none, none, none], [], m54)) rfl hres (fun hc hres => ?_) (fun hc hres => ?_)
                          · obtain rfl := Option.some.inj hres
                            exact e_mask (L' := [some (.inr (.inr (some (12, 0)))), none, some (.inl a2), none, none, none, none, none, none, none, none, some (.inl v51), none, none, none, none, none, none, none]) rfl (hxl49 _ rfl)
                          · refine e_steps 8 (s' := (282, [some (.inr (.inr (some (12, 0)))), none, some (.inl a2), none, none, none, none, none, none, some (.inl v48), some (.inl v50), some (.inl v51), some (.inl v52), some (.inl v53), some (.inl v53), some (.inl 0), some (.inl (a2 - 1)), none, none], [], m54)) rfl ?_
                            refine e_let (fun (v55 : Int32) => (282, [some (.inr (.inr (some (12, 0)))), none, some (.inl a2), none, none, none, none, none, none, some (.inl v48), some (.inl v50), some (.inl v51), some (.inl v52), some (.inl v53), some (.inl v53), some (.inl 0), some (.inl v55), none, none], [], m54)) hres (fun v55 hres => ?_)
                            refine e_mask (L' := [some (.inr (.inr (some (12, 0)))), none, some (.inl a2), none, none, none, none, none, none, some (.inl v48), some (.inl v50), some (.inl v51), some (.inl v52), some (.inl v53), some (.inl v53), some (.inl 0), some (.inl v55), none, none]) rfl ?_
                            refine e_loopb (φ := fun s => (282, [some (.inr (.inr (some (12, 0)))), none, some (.inl a2), none, none, none, none, none, none, some (.inl v48), some (.inl v50), some (.inl v51), some (.inl v52), some (.inl v53), some (.inl s.1), some (.inl s.2.1), some (.inl s.2.2.1), none, none], [], s.2.2.2)) (K := fun t => mm_E (d + 1) 228 (324, [some (.inr (.inr (some (12, 0)))), none, some (.inl a2), none, none, none, none, none, none, some (.inl v48), some (.inl v50), some (.inl v51), some (.inl v52), some (.inl v53), none, some (.inl t.1), none, none, none], [], t.2) (.inl (some (.inl r.1)), r.2, 0, 0)) hres (fun t hres => ?_) (fun s ol56 hres hcl56 hxl56 => ?_)
                            · obtain ⟨v65, m66⟩ := t
                              show mm_E (d + 1) 228 (324, [some (.inr (.inr (some (12, 0)))), none, some (.inl a2), none, none, none, none, none, none, some (.inl v48), some (.inl v50), some (.inl v51), some (.inl v52), some (.inl v53), none, some (.inl v65), none, none, none], [], m66) (.inl (some (.inl r.1)), r.2, 0, 0)
                              refine e_steps 4 (s' := (330, [some (.inr (.inr (some (12, 0)))), none, some (.inl a2), none, none, none, none, none, none, some (.inl v48), some (.inl v50), some (.inl v51), some (.inl v52), some (.inl v53), none, some (.inl v65), some (.inl 0), some (.inl 0), none], [], m66)) rfl ?_
                              refine e_mask (L' := [some (.inr (.inr (some (12, 0)))), none, some (.inl a2), none, none, none, none, none, none, some (.inl v48), some (.inl v50), some (.inl v51), some (.inl v52), some (.inl v53), none, some (.inl v65), some (.inl 0), some (.inl 0), none]) rfl ?_
                              refine e_loopb (φ := fun s => (330, [some (.inr (.inr (some (12, 0)))), none, some (.inl a2), none, none, none, none, none, none, some (.inl v48), some (.inl v50), some (.inl v51), some (.inl v52), some (.inl v53), none, some (.inl v65), some (.inl s.1), some (.inl s.2), none], [], m66)) (K := fun t => mm_E (d + 1) 228 (389, [some (.inr (.inr (some (12, 0)))), none, some (.inl a2), none, none, none, none, none, none, some (.inl v48), some (.inl v50), some (.inl v51), some (.inl v52), some (.inl v53), none, some (.inl v65), some (.inl t), none, none], [], m66) (.inl (some (.inl r.1)), r.2, 0, 0)) hres (fun v75 hres => ?_) (fun s ol67 hres hcl67 hxl67 => ?_)
                              · show mm_E (d + 1) 228 (389, [some (.inr (.inr (some (12, 0)))), none, some (.inl a2), none, none, none, none, none, none, some (.inl v48), some (.inl v50), some (.inl v51), some (.inl v52), some (.inl v53), none, some (.inl v65), some (.inl v75), none, none], [], m66) (.inl (some (.inl r.1)), r.2, 0, 0)
                                refine e_steps 1 (s' := (391, [some (.inr (.inr (some (12, 0)))), none, some (.inl a2), none, none, none, none, none, none, some (.inl v48), some (.inl v50), some (.inl v51), some (.inl v52), some (.inl v53), none, some (.inl v65), some (.inl v75), none, none], [.inl v50], m66)) rfl ?_
                                refine e_join (fun k76 => k76 = some ol49 → mm_E (d + 1) 228 (418, [some (.inr (.inr (some (12, 0)))), none, some (.inl a2), none, none, none, none, none, none, some (.inl v48), none, none, none, some (.inl v53), none, some (.inl v65), some (.inl v75), none, none], [], m66) (.inl (some (.inl r.1)), r.2, 0, 0)) hres (fun  hres => ?_) (fun k76 hk76 hres => ?_)
                                · refine e_steps 8 (s' := (432, [some (.inr (.inr (some (12, 0)))), none, some (.inl a2), none, none, none, none, none, none, some (.inl v48), some (.inl 1), some (.inl v75), some (.inl v65), some (.inl v53), none, some (.inl v65), some (.inl v75), some (.inl 0), none], [], m66)) rfl ?_
                                  refine e_mask (L' := [some (.inr (.inr (some (12, 0)))), none, some (.inl a2), none, none, none, none, none, none, some (.inl v48), some (.inl 1), some (.inl v75), some (.inl v65), some (.inl v53), none, none, none, some (.inl 0), none]) rfl ?_
                                  refine e_loopb (φ := fun s => (432, [some (.inr (.inr (some (12, 0)))), none, some (.inl a2), none, none, none, none, none, none, some (.inl v48), some (.inl 1), some (.inl v75), some (.inl v65), some (.inl v53), none, none, none, some (.inl s.1), none], [], s.2)) (K := fun t => mm_E (d + 1) 228 (458, [some (.inr (.inr (some (12, 0)))), none, some (.inl a2), none, none, none, none, none, none, some (.inl v48), some (.inl 1), some (.inl v75), some (.inl v65), some (.inl v53), none, none, none, none, none], [], t) (.inl (some (.inl r.1)), r.2, 0, 0)) hres (fun m82 hres => ?_) (fun s ol77 hres hcl77 hxl77 => ?_)
                                  · show mm_E (d + 1) 228 (458, [some (.inr (.inr (some (12, 0)))), none, some (.inl a2), none, none, none, none, none, none, some (.inl v48), some (.inl 1), some (.inl v75), some (.inl v65), some (.inl v53), none, none, none, none, none], [], m82) (.inl (some (.inl r.1)), r.2, 0, 0)
                                    refine e_steps 1 (s' := (461, [some (.inr (.inr (some (12, 0)))), none, some (.inl a2), none, none, none, none, none, none, some (.inl v48), some (.inl 1), some (.inl v75), some (.inl v65), some (.inl (v53 + 1)), none, none, none, none, none], [], m82)) rfl ?_
                                    refine e_let (fun (v83 : Int32) => (461, [some (.inr (.inr (some (12, 0)))), none, some (.inl a2), none, none, none, none, none, none, some (.inl v48), some (.inl 1), some (.inl v75), some (.inl v65), some (.inl v83), none, none, none, none, none], [], m82)) hres (fun v83 hres => ?_)
                                    refine e_steps 1 (s' := (263, [some (.inr (.inr (some (12, 0)))), none, some (.inl a2), none, none, none, none, none, none, some (.inl v48), some (.inl 1), some (.inl v75), some (.inl v65), some (.inl v83), none, none, none, none, none], [], m82)) rfl ?_
                                    obtain rfl := Option.some.inj hres
                                    exact e_mask (L' := [some (.inr (.inr (some (12, 0)))), none, some (.inl a2), none, none, none, none, none, none, some (.inl v48), some (.inl 1), some (.inl v75), some (.inl v65), some (.inl v83), none, none, none, none, none]) rfl (hcl49 _ rfl)
                                  · obtain ⟨v78, m79⟩ := s
                                    show mm_E (d + 1) 228 (432, [some (.inr (.inr (some (12, 0)))), none, some (.inl a2), none, none, none, none, none, none, some (.inl v48), some (.inl 1), some (.inl v75), some (.inl v65), some (.inl v53), none, none, none, some (.inl v78), none], [], m79) (.inl (some (.inl r.1)), r.2, 0, 0)
                                    refine e_steps 2 (s' := (435, [some (.inr (.inr (some (12, 0)))), none, some (.inl a2), none, none, none, none, none, none, some (.inl v48), some (.inl 1), some (.inl v75), some (.inl v65), some (.inl v53), none, none, none, some (.inl v78), none], [.inl a2, .inl v78], m79)) rfl ?_
                                    refine e_if (s1 := (458, [some (.inr (.inr (some (12, 0)))), none, some (.inl a2), none, none, none, none, none, none, some (.inl v48), some (.inl 1), some (.inl v75), some (.inl v65), some (.inl v53), none, none, none, some (.inl v78), none], [], m79)) (s2 := (438, [some (.inr (.inr (some (12, 0)))), none, some (.inl a2), none, none, none, none, none, none, some (.inl v48), some (.inl 1), some (.inl v75), some (.inl v65), some (.inl v53), none, none, none, some (.inl v78), none], [], m79)) rfl hres (fun hc hres => ?_) (fun hc hres => ?_)
                                    · obtain rfl := Option.some.inj hres
                                      exact e_mask (L' := [some (.inr (.inr (some (12, 0)))), none, some (.inl a2), none, none, none, none, none, none, some (.inl v48), some (.inl 1), some (.inl v75), some (.inl v65), some (.inl v53), none, none, none, none, none]) rfl (hxl77 _ rfl)
                                    · refine e_steps 6 (s' := (450, [some (.inr (.inr (some (12, 0)))), none, some (.inl a2), none, none, none, none, none, none, some (.inl v48), some (.inl 1), some (.inl v75), some (.inl v65), some (.inl v53), none, none, none, some (.inl v78), none], [.inl v78, .inr (.inr (some (110, 0))), .inl v78, .inr (.inr (some (108, 0)))], m79)) rfl ?_
                                      refine e_gd (s1 := (451, [some (.inr (.inr (some (12, 0)))), none, some (.inl a2), none, none, none, none, none, none, some (.inl v48), some (.inl 1), some (.inl v75), some (.inl v65), some (.inl v53), none, none, none, some (.inl v78), none], [.inl (m79 110 0 v78.toNatClampNeg), .inl v78, .inr (.inr (some (108, 0)))], m79)) rfl hres (fun hc hres => ?_)
                                      refine e_gd (s1 := (452, [some (.inr (.inr (some (12, 0)))), none, some (.inl a2), none, none, none, none, none, none, some (.inl v48), some (.inl 1), some (.inl v75), some (.inl v65), some (.inl v53), none, none, none, some (.inl v78), none], [], (mm_w m79 108 0 v78.toNatClampNeg (m79 110 0 v78.toNatClampNeg)))) rfl hres (fun hc hres => ?_)
                                      refine e_let (fun (m80 : mm_M) => (452, [some (.inr (.inr (some (12, 0)))), none, some (.inl a2), none, none, none, none, none, none, some (.inl v48), some (.inl 1), some (.inl v75), some (.inl v65), some (.inl v53), none, none, none, some (.inl v78), none], [], m80)) hres (fun m80 hres => ?_)
                                      refine e_steps 1 (s' := (455, [some (.inr (.inr (some (12, 0)))), none, some (.inl a2), none, none, none, none, none, none, some (.inl v48), some (.inl 1), some (.inl v75), some (.inl v65), some (.inl v53), none, none, none, some (.inl (v78 + 1)), none], [], m80)) rfl ?_
                                      refine e_let (fun (v81 : Int32) => (455, [some (.inr (.inr (some (12, 0)))), none, some (.inl a2), none, none, none, none, none, none, some (.inl v48), some (.inl 1), some (.inl v75), some (.inl v65), some (.inl v53), none, none, none, some (.inl v81), none], [], m80)) hres (fun v81 hres => ?_)
                                      refine e_steps 1 (s' := (432, [some (.inr (.inr (some (12, 0)))), none, some (.inl a2), none, none, none, none, none, none, some (.inl v48), some (.inl 1), some (.inl v75), some (.inl v65), some (.inl v53), none, none, none, some (.inl v81), none], [], m80)) rfl ?_
                                      obtain rfl := Option.some.inj hres
                                      exact e_mask (L' := [some (.inr (.inr (some (12, 0)))), none, some (.inl a2), none, none, none, none, none, none, some (.inl v48), some (.inl 1), some (.inl v75), some (.inl v65), some (.inl v53), none, none, none, some (.inl v81), none]) rfl (hcl77 _ rfl)
                                · refine e_if (s1 := (418, [some (.inr (.inr (some (12, 0)))), none, some (.inl a2), none, none, none, none, none, none, some (.inl v48), some (.inl v50), some (.inl v51), some (.inl v52), some (.inl v53), none, some (.inl v65), some (.inl v75), none, none], [], m66)) (s2 := (394, [some (.inr (.inr (some (12, 0)))), none, some (.inl a2), none, none, none, none, none, none, some (.inl v48), some (.inl v50), some (.inl v51), some (.inl v52), some (.inl v53), none, some (.inl v65), some (.inl v75), none, none], [], m66)) rfl hres (fun hc hres => ?_) (fun hc hres => ?_)
                                  · exact e_mask (L' := [some (.inr (.inr (some (12, 0)))), none, some (.inl a2), none, none, none, none, none, none, some (.inl v48), none, none, none, some (.inl v53), none, some (.inl v65), some (.inl v75), none, none]) rfl (hk76  hres)
                                  · refine e_steps 2 (s' := (398, [some (.inr (.inr (some (12, 0)))), none, some (.inl a2), none, none, none, none, none, none, some (.inl v48), some (.inl v50), some (.inl v51), some (.inl v52), some (.inl v53), none, some (.inl v65), some (.inl v75), none, none], [.inl v51, .inl v75], m66)) rfl ?_
                                    refine e_if (s1 := (458, [some (.inr (.inr (some (12, 0)))), none, some (.inl a2), none, none, none, none, none, none, some (.inl v48), some (.inl v50), some (.inl v51), some (.inl v52), some (.inl v53), none, some (.inl v65), some (.inl v75), none, none], [], m66)) (s2 := (401, [some (.inr (.inr (some (12, 0)))), none, some (.inl a2), none, none, none, none, none, none, some (.inl v48), some (.inl v50), some (.inl v51), some (.inl v52), some (.inl v53), none, some (.inl v65), some (.inl v75), none, none], [], m66)) rfl hres (fun hc hres => ?_) (fun hc hres => ?_)
                                    · refine e_mask (L' := [some (.inr (.inr (some (12, 0)))), none, some (.inl a2), none, none, none, none, none, none, some (.inl v48), some (.inl v50), some (.inl v51), some (.inl v52), some (.inl v53), none, none, none, none, none]) rfl ?_
                                      refine e_steps 1 (s' := (461, [some (.inr (.inr (some (12, 0)))), none, some (.inl a2), none, none, none, none, none, none, some (.inl v48), some (.inl v50), some (.inl v51), some (.inl v52), some (.inl (v53 + 1)), none, none, none, none, none], [], m66)) rfl ?_
                                      refine e_let (fun (v84 : Int32) => (461, [some (.inr (.inr (some (12, 0)))), none, some (.inl a2), none, none, none, none, none, none, some (.inl v48), some (.inl v50), some (.inl v51), some (.inl v52), some (.inl v84), none, none, none, none, none], [], m66)) hres (fun v84 hres => ?_)
                                      refine e_steps 1 (s' := (263, [some (.inr (.inr (some (12, 0)))), none, some (.inl a2), none, none, none, none, none, none, some (.inl v48), some (.inl v50), some (.inl v51), some (.inl v52), some (.inl v84), none, none, none, none, none], [], m66)) rfl ?_
                                      obtain rfl := Option.some.inj hres
                                      exact e_mask (L' := [some (.inr (.inr (some (12, 0)))), none, some (.inl a2), none, none, none, none, none, none, some (.inl v48), some (.inl v50), some (.inl v51), some (.inl v52), some (.inl v84), none, none, none, none, none]) rfl (hcl49 _ rfl)
                                    · refine e_steps 2 (s' := (405, [some (.inr (.inr (some (12, 0)))), none, some (.inl a2), none, none, none, none, none, none, some (.inl v48), some (.inl v50), some (.inl v51), some (.inl v52), some (.inl v53), none, some (.inl v65), some (.inl v75), none, none], [.inl v51, .inl v75], m66)) rfl ?_
                                      refine e_if (s1 := (418, [some (.inr (.inr (some (12, 0)))), none, some (.inl a2), none, none, none, none, none, none, some (.inl v48), some (.inl v50), some (.inl v51), some (.inl v52), some (.inl v53), none, some (.inl v65), some (.inl v75), none, none], [], m66)) (s2 := (408, [some (.inr (.inr (some (12, 0)))), none, some (.inl a2), none, none, none, none, none, none, some (.inl v48), some (.inl v50), some (.inl v51), some (.inl v52), some (.inl v53), none, some (.inl v65), some (.inl v75), none, none], [], m66)) rfl hres (fun hc hres => ?_) (fun hc hres => ?_)
                                      · exact e_mask (L' := [some (.inr (.inr (some (12, 0)))), none, some (.inl a2), none, none, none, none, none, none, some (.inl v48), none, none, none, some (.inl v53), none, some (.inl v65), some (.inl v75), none, none]) rfl (hk76  hres)
                                      · refine e_steps 2 (s' := (412, [some (.inr (.inr (some (12, 0)))), none, some (.inl a2), none, none, none, none, none, none, some (.inl v48), some (.inl v50), some (.inl v51), some (.inl v52), some (.inl v53), none, some (.inl v65), some (.inl v75), none, none], [.inl v52, .inl v65], m66)) rfl ?_
                                        refine e_if (s1 := (418, [some (.inr (.inr (some (12, 0)))), none, some (.inl a2), none, none, none, none, none, none, some (.inl v48), some (.inl v50), some (.inl v51), some (.inl v52), some (.inl v53), none, some (.inl v65), some (.inl v75), none, none], [], m66)) (s2 := (415, [some (.inr (.inr (some (12, 0)))), none, some (.inl a2), none, none, none, none, none, none, some (.inl v48), some (.inl v50), some (.inl v51), some (.inl v52), some (.inl v53), none, some (.inl v65), some (.inl v75), none, none], [], m66)) rfl hres (fun hc hres => ?_) (fun hc hres => ?_)
                                        · exact e_mask (L' := [some (.inr (.inr (some (12, 0)))), none, some (.inl a2), none, none, none, none, none, none, some (.inl v48), none, none, none, some (.inl v53), none, some (.inl v65), some (.inl v75), none, none]) rfl (hk76  hres)
                                        · refine e_steps 1 (s' := (458, [some (.inr (.inr (some (12, 0)))), none, some (.inl a2), none, none, none, none, none, none, some (.inl v48), some (.inl v50), some (.inl v51), some (.inl v52), some (.inl v53), none, some (.inl v65), some (.inl v75), none, none], [], m66)) rfl ?_
                                          refine e_mask (L' := [some (.inr (.inr (some (12, 0)))), none, some (.inl a2), none, none, none, none, none, none, some (.inl v48), some (.inl v50), some (.inl v51), some (.inl v52), some (.inl v53), none, none, none, none, none]) rfl ?_
                                          refine e_steps 1 (s' := (461, [some (.inr (.inr (some (12, 0)))), none, some (.inl a2), none, none, none, none, none, none, some (.inl v48), some (.inl v50), some (.inl v51), some (.inl v52), some (.inl (v53 + 1)), none, none, none, none, none], [], m66)) rfl ?_
                                          refine e_let (fun (v85 : Int32) => (461, [some (.inr (.inr (some (12, 0)))), none, some (.inl a2), none, none, none, none, none, none, some (.inl v48), some (.inl v50), some (.inl v51), some (.inl v52), some (.inl v85), none, none, none, none, none], [], m66)) hres (fun v85 hres => ?_)
                                          refine e_steps 1 (s' := (263, [some (.inr (.inr (some (12, 0)))), none, some (.inl a2), none, none, none, none, none, none, some (.inl v48), some (.inl v50), some (.inl v51), some (.inl v52), some (.inl v85), none, none, none, none, none], [], m66)) rfl ?_
                                          obtain rfl := Option.some.inj hres
                                          exact e_mask (L' := [some (.inr (.inr (some (12, 0)))), none, some (.inl a2), none, none, none, none, none, none, some (.inl v48), some (.inl v50), some (.inl v51), some (.inl v52), some (.inl v85), none, none, none, none, none]) rfl (hcl49 _ rfl)
                              · obtain ⟨v68, v69⟩ := s
                                show mm_E (d + 1) 228 (330, [some (.inr (.inr (some (12, 0)))), none, some (.inl a2), none, none, none, none, none, none, some (.inl v48), some (.inl v50), some (.inl v51), some (.inl v52), some (.inl v53), none, some (.inl v65), some (.inl v68), some (.inl v69), none], [], m66) (.inl (some (.inl r.1)), r.2, 0, 0)
                                refine e_steps 2 (s' := (333, [some (.inr (.inr (some (12, 0)))), none, some (.inl a2), none, none, none, none, none, none, some (.inl v48), some (.inl v50), some (.inl v51), some (.inl v52), some (.inl v53), none, some (.inl v65), some (.inl v68), some (.inl v69), none], [.inl a2, .inl v69], m66)) rfl ?_
                                refine e_if (s1 := (389, [some (.inr (.inr (some (12, 0)))), none, some (.inl a2), none, none, none, none, none, none, some (.inl v48), some (.inl v50), some (.inl v51), some (.inl v52), some (.inl v53), none, some (.inl v65), some (.inl v68), some (.inl v69), none], [], m66)) (s2 := (336, [some (.inr (.inr (some (12, 0)))), none, some (.inl a2), none, none, none, none, none, none, some (.inl v48), some (.inl v50), some (.inl v51), some (.inl v52), some (.inl v53), none, some (.inl v65), some (.inl v68), some (.inl v69), none], [], m66)) rfl hres (fun hc hres => ?_) (fun hc hres => ?_)
                                · obtain rfl := Option.some.inj hres
                                  exact e_mask (L' := [some (.inr (.inr (some (12, 0)))), none, some (.inl a2), none, none, none, none, none, none, some (.inl v48), some (.inl v50), some (.inl v51), some (.inl v52), some (.inl v53), none, some (.inl v65), some (.inl v68), none, none]) rfl (hxl67 _ rfl)
                                · refine e_steps 8 (s' := (351, [some (.inr (.inr (some (12, 0)))), none, some (.inl a2), none, none, none, none, none, none, some (.inl v48), some (.inl v50), some (.inl v51), some (.inl v52), some (.inl v53), none, some (.inl v65), some (.inl v68), some (.inl v69), none], [.inl v69, .inr (.inr (some (110, 0))), .inl (8 * v69), .inr (.inr (some (111, 0)))], m66)) rfl ?_
                                  refine e_gd (s1 := (352, [some (.inr (.inr (some (12, 0)))), none, some (.inl a2), none, none, none, none, none, none, some (.inl v48), some (.inl v50), some (.inl v51), some (.inl v52), some (.inl v53), none, some (.inl v65), some (.inl v68), some (.inl v69), none], [.inl (m66 110 0 v69.toNatClampNeg), .inl (8 * v69), .inr (.inr (some (111, 0)))], m66)) rfl hres (fun hc hres => ?_)
                                  refine e_steps 1 (s' := (353, [some (.inr (.inr (some (12, 0)))), none, some (.inl a2), none, none, none, none, none, none, some (.inl v48), some (.inl v50), some (.inl v51), some (.inl v52), some (.inl v53), none, some (.inl v65), some (.inl v68), some (.inl v69), none], [.inl ((8 * v69) + (m66 110 0 v69.toNatClampNeg)), .inr (.inr (some (111, 0)))], m66)) rfl ?_
                                  refine e_gd (s1 := (354, [some (.inr (.inr (some (12, 0)))), none, some (.inl a2), none, none, none, none, none, none, some (.inl v48), some (.inl v50), some (.inl v51), some (.inl v52), some (.inl v53), none, some (.inl v65), some (.inl v68), some (.inl v69), none], [.inl (m66 111 0 ((8 * v69) + (m66 110 0 v69.toNatClampNeg)).toNatClampNeg)], m66)) rfl hres (fun hc hres => ?_)
                                  refine e_steps 3 (s' := (358, [some (.inr (.inr (some (12, 0)))), none, some (.inl a2), none, none, none, none, none, none, some (.inl v48), some (.inl v50), some (.inl v51), some (.inl v52), some (.inl v53), none, some (.inl v65), some (.inl v68), some (.inl v69), none], [.inl a2, .inl v69, .inr (.inr (some (12, 0))), .inl (m66 111 0 ((8 * v69) + (m66 110 0 v69.toNatClampNeg)).toNatClampNeg)], m66)) rfl ?_
                                  obtain ⟨r70, hv, hres⟩ := mm_b1_some hres
                                  refine e_call0 (pc := 361) (L := [some (.inr (.inr (some (12, 0)))), none, some (.inl a2), none, none, none, none, none, none, some (.inl v48), some (.inl v50), some (.inl v51), some (.inl v52), some (.inl v53), none, some (.inl v65), some (.inl v68), some (.inl v69), none]) (st := [.inl (m66 111 0 ((8 * v69) + (m66 110 0 v69.toNatClampNeg)).toNatClampNeg)]) (m' := m66) (v := some (.inl r70)) rfl (k_X12_disturbed d (by omega) v69 a2 _ _ hv) ?_
                                  show mm_E (d + 1) 228 (361, [some (.inr (.inr (some (12, 0)))), none, some (.inl a2), none, none, none, none, none, none, some (.inl v48), some (.inl v50), some (.inl v51), some (.inl v52), some (.inl v53), none, some (.inl v65), some (.inl v68), some (.inl v69), none], [.inl r70, .inl (m66 111 0 ((8 * v69) + (m66 110 0 v69.toNatClampNeg)).toNatClampNeg)], m66) (.inl (some (.inl r.1)), r.2, 0, 0)
                                  refine e_steps 2 (s' := (364, [some (.inr (.inr (some (12, 0)))), none, some (.inl a2), none, none, none, none, none, none, some (.inl v48), some (.inl v50), some (.inl v51), some (.inl v52), some (.inl v53), none, some (.inl v65), some (.inl v68), some (.inl v69), some (.inl ((m66 111 0 ((8 * v69) + (m66 110 0 v69.toNatClampNeg)).toNatClampNeg) - r70))], [], m66)) rfl ?_
                                  refine e_let (fun (v71 : Int32) => (364, [some (.inr (.inr (some (12, 0)))), none, some (.inl a2), none, none, none, none, none, none, some (.inl v48), some (.inl v50), some (.inl v51), some (.inl v52), some (.inl v53), none, some (.inl v65), some (.inl v68), some (.inl v69), some (.inl v71)], [], m66)) hres (fun v71 hres => ?_)
                                  refine e_steps 1 (s' := (366, [some (.inr (.inr (some (12, 0)))), none, some (.inl a2), none, none, none, none, none, none, some (.inl v48), some (.inl v50), some (.inl v51), some (.inl v52), some (.inl v53), none, some (.inl v65), some (.inl v68), some (.inl v69), some (.inl v71)], [.inl v69], m66)) rfl ?_
                                  refine e_if (s1 := (374, [some (.inr (.inr (some (12, 0)))), none, some (.inl a2), none, none, none, none, none, none, some (.inl v48), some (.inl v50), some (.inl v51), some (.inl v52), some (.inl v53), none, some (.inl v65), some (.inl v68), some (.inl v69), some (.inl v71)], [], m66)) (s2 := (369, [some (.inr (.inr (some (12, 0)))), none, some (.inl a2), none, none, none, none, none, none, some (.inl v48), some (.inl v50), some (.inl v51), some (.inl v52), some (.inl v53), none, some (.inl v65), some (.inl v68), some (.inl v69), some (.inl v71)], [], m66)) rfl hres (fun hc hres => ?_) (fun hc hres => ?_)
                                  · refine e_steps 3 (s' := (381, [some (.inr (.inr (some (12, 0)))), none, some (.inl a2), none, none, none, none, none, none, some (.inl v48), some (.inl v50), some (.inl v51), some (.inl v52), some (.inl v53), none, some (.inl v65), some (.inl v68), some (.inl v69), some (.inl v71)], [.inl (mm_min v68 v71)], m66)) rfl ?_
                                    refine e_mask (L' := [some (.inr (.inr (some (12, 0)))), none, some (.inl a2), none, none, none, none, none, none, some (.inl v48), some (.inl v50), some (.inl v51), some (.inl v52), some (.inl v53), none, some (.inl v65), none, some (.inl v69), none]) rfl ?_
                                    refine e_steps 1 (s' := (383, [some (.inr (.inr (some (12, 0)))), none, some (.inl a2), none, none, none, none, none, none, some (.inl v48), some (.inl v50), some (.inl v51), some (.inl v52), some (.inl v53), none, some (.inl v65), some (.inl (mm_min v68 v71)), some (.inl v69), none], [], m66)) rfl ?_
                                    refine e_let (fun (v72 : Int32) => (383, [some (.inr (.inr (some (12, 0)))), none, some (.inl a2), none, none, none, none, none, none, some (.inl v48), some (.inl v50), some (.inl v51), some (.inl v52), some (.inl v53), none, some (.inl v65), some (.inl v72), some (.inl v69), none], [], m66)) hres (fun v72 hres => ?_)
                                    refine e_steps 1 (s' := (386, [some (.inr (.inr (some (12, 0)))), none, some (.inl a2), none, none, none, none, none, none, some (.inl v48), some (.inl v50), some (.inl v51), some (.inl v52), some (.inl v53), none, some (.inl v65), some (.inl v72), some (.inl (v69 + 1)), none], [], m66)) rfl ?_
                                    refine e_let (fun (v73 : Int32) => (386, [some (.inr (.inr (some (12, 0)))), none, some (.inl a2), none, none, none, none, none, none, some (.inl v48), some (.inl v50), some (.inl v51), some (.inl v52), some (.inl v53), none, some (.inl v65), some (.inl v72), some (.inl v73), none], [], m66)) hres (fun v73 hres => ?_)
                                    refine e_steps 1 (s' := (330, [some (.inr (.inr (some (12, 0)))), none, some (.inl a2), none, none, none, none, none, none, some (.inl v48), some (.inl v50), some (.inl v51), some (.inl v52), some (.inl v53), none, some (.inl v65), some (.inl v72), some (.inl v73), none], [], m66)) rfl ?_
                                    obtain rfl := Option.some.inj hres
                                    exact e_mask (L' := [some (.inr (.inr (some (12, 0)))), none, some (.inl a2), none, none, none, none, none, none, some (.inl v48), some (.inl v50), some (.inl v51), some (.inl v52), some (.inl v53), none, some (.inl v65), some (.inl v72), some (.inl v73), none]) rfl (hcl67 _ rfl)
                                  · refine e_steps 2 (s' := (381, [some (.inr (.inr (some (12, 0)))), none, some (.inl a2), none, none, none, none, none, none, some (.inl v48), some (.inl v50), some (.inl v51), some (.inl v52), some (.inl v53), none, some (.inl v65), some (.inl v68), some (.inl v69), some (.inl v71)], [.inl v71], m66)) rfl ?_
                                    refine e_mask (L' := [some (.inr (.inr (some (12, 0)))), none, some (.inl a2), none, none, none, none, none, none, some (.inl v48), some (.inl v50), some (.inl v51), some (.inl v52), some (.inl v53), none, some (.inl v65), none, some (.inl v69), none]) rfl ?_
                                    refine e_steps 2 (s' := (386, [some (.inr (.inr (some (12, 0)))), none, some (.inl a2), none, none, none, none, none, none, some (.inl v48), some (.inl v50), some (.inl v51), some (.inl v52), some (.inl v53), none, some (.inl v65), some (.inl v71), some (.inl (v69 + 1)), none], [], m66)) rfl ?_
                                    refine e_let (fun (v74 : Int32) => (386, [some (.inr (.inr (some (12, 0)))), none, some (.inl a2), none, none, none, none, none, none, some (.inl v48), some (.inl v50), some (.inl v51), some (.inl v52), some (.inl v53), none, some (.inl v65), some (.inl v71), some (.inl v74), none], [], m66)) hres (fun v74 hres => ?_)
                                    refine e_steps 1 (s' := (330, [some (.inr (.inr (some (12, 0)))), none, some (.inl a2), none, none, none, none, none, none, some (.inl v48), some (.inl v50), some (.inl v51), some (.inl v52), some (.inl v53), none, some (.inl v65), some (.inl v71), some (.inl v74), none], [], m66)) rfl ?_
                                    obtain rfl := Option.some.inj hres
                                    exact e_mask (L' := [some (.inr (.inr (some (12, 0)))), none, some (.inl a2), none, none, none, none, none, none, some (.inl v48), some (.inl v50), some (.inl v51), some (.inl v52), some (.inl v53), none, some (.inl v65), some (.inl v71), some (.inl v74), none]) rfl (hcl67 _ rfl)
                            · obtain ⟨v57, v58, v59, m60⟩ := s
                              show mm_E (d + 1) 228 (282, [some (.inr (.inr (some (12, 0)))), none, some (.inl a2), none, none, none, none, none, none, some (.inl v48), some (.inl v50), some (.inl v51), some (.inl v52), some (.inl v53), some (.inl v57), some (.inl v58), some (.inl v59), none, none], [], m60) (.inl (some (.inl r.1)), r.2, 0, 0)
                              refine e_steps 1 (s' := (284, [some (.inr (.inr (some (12, 0)))), none, some (.inl a2), none, none, none, none, none, none, some (.inl v48), some (.inl v50), some (.inl v51), some (.inl v52), some (.inl v53), some (.inl v57), some (.inl v58), some (.inl v59), none, none], [.inl v59], m60)) rfl ?_
                              refine e_if (s1 := (324, [some (.inr (.inr (some (12, 0)))), none, some (.inl a2), none, none, none, none, none, none, some (.inl v48), some (.inl v50), some (.inl v51), some (.inl v52), some (.inl v53), some (.inl v57), some (.inl v58), some (.inl v59), none, none], [], m60)) (s2 := (287, [some (.inr (.inr (some (12, 0)))), none, some (.inl a2), none, none, none, none, none, none, some (.inl v48), some (.inl v50), some (.inl v51), some (.inl v52), some (.inl v53), some (.inl v57), some (.inl v58), some (.inl v59), none, none], [], m60)) rfl hres (fun hc hres => ?_) (fun hc hres => ?_)
                              · obtain rfl := Option.some.inj hres
                                exact e_mask (L' := [some (.inr (.inr (some (12, 0)))), none, some (.inl a2), none, none, none, none, none, none, some (.inl v48), some (.inl v50), some (.inl v51), some (.inl v52), some (.inl v53), none, some (.inl v58), none, none, none]) rfl (hxl56 _ rfl)
                              · refine e_steps 6 (s' := (298, [some (.inr (.inr (some (12, 0)))), none, some (.inl a2), none, none, none, none, none, none, some (.inl v48), some (.inl v50), some (.inl v51), some (.inl v52), some (.inl v53), some (.inl v57), some (.inl v58), some (.inl v59), none, none], [.inl (v57 % 8), .inl v59, .inr (.inr (some (110, 0)))], m60)) rfl ?_
                                refine e_gd (s1 := (299, [some (.inr (.inr (some (12, 0)))), none, some (.inl a2), none, none, none, none, none, none, some (.inl v48), some (.inl v50), some (.inl v51), some (.inl v52), some (.inl v53), some (.inl v57), some (.inl v58), some (.inl v59), none, none], [], (mm_w m60 110 0 v59.toNatClampNeg (v57 % 8)))) rfl hres (fun hc hres => ?_)
                                refine e_let (fun (m61 : mm_M) => (299, [some (.inr (.inr (some (12, 0)))), none, some (.inl a2), none, none, none, none, none, none, some (.inl v48), some (.inl v50), some (.inl v51), some (.inl v52), some (.inl v53), some (.inl v57), some (.inl v58), some (.inl v59), none, none], [], m61)) hres (fun m61 hres => ?_)
                                refine e_steps 4 (s' := (306, [some (.inr (.inr (some (12, 0)))), none, some (.inl a2), none, none, none, none, none, none, some (.inl v48), some (.inl v50), some (.inl v51), some (.inl v52), some (.inl v53), some (.inl (v57 / 8)), some (.inl v58), some (.inl v59), none, none], [], m61)) rfl ?_
                                refine e_let (fun (v62 : Int32) => (306, [some (.inr (.inr (some (12, 0)))), none, some (.inl a2), none, none, none, none, none, none, some (.inl v48), some (.inl v50), some (.inl v51), some (.inl v52), some (.inl v53), some (.inl v62), some (.inl v58), some (.inl v59), none, none], [], m61)) hres (fun v62 hres => ?_)
                                refine e_steps 4 (s' := (314, [some (.inr (.inr (some (12, 0)))), none, some (.inl a2), none, none, none, none, none, none, some (.inl v48), some (.inl v50), some (.inl v51), some (.inl v52), some (.inl v53), some (.inl v62), some (.inl v58), some (.inl v59), none, none], [.inl v59, .inr (.inr (some (110, 0))), .inl v58], m61)) rfl ?_
                                refine e_gd (s1 := (315, [some (.inr (.inr (some (12, 0)))), none, some (.inl a2), none, none, none, none, none, none, some (.inl v48), some (.inl v50), some (.inl v51), some (.inl v52), some (.inl v53), some (.inl v62), some (.inl v58), some (.inl v59), none, none], [.inl (m61 110 0 v59.toNatClampNeg), .inl v58], m61)) rfl hres (fun hc hres => ?_)
                                refine e_steps 2 (s' := (318, [some (.inr (.inr (some (12, 0)))), none, some (.inl a2), none, none, none, none, none, none, some (.inl v48), some (.inl v50), some (.inl v51), some (.inl v52), some (.inl v53), some (.inl v62), some (.inl (v58 + (m61 110 0 v59.toNatClampNeg))), some (.inl v59), none, none], [], m61)) rfl ?_
                                refine e_let (fun (v63 : Int32) => (318, [some (.inr (.inr (some (12, 0)))), none, some (.inl a2), none, none, none, none, none, none, some (.inl v48), some (.inl v50), some (.inl v51), some (.inl v52), some (.inl v53), some (.inl v62), some (.inl v63), some (.inl v59), none, none], [], m61)) hres (fun v63 hres => ?_)
                                refine e_steps 1 (s' := (321, [some (.inr (.inr (some (12, 0)))), none, some (.inl a2), none, none, none, none, none, none, some (.inl v48), some (.inl v50), some (.inl v51), some (.inl v52), some (.inl v53), some (.inl v62), some (.inl v63), some (.inl (v59 + (-1))), none, none], [], m61)) rfl ?_
                                refine e_let (fun (v64 : Int32) => (321, [some (.inr (.inr (some (12, 0)))), none, some (.inl a2), none, none, none, none, none, none, some (.inl v48), some (.inl v50), some (.inl v51), some (.inl v52), some (.inl v53), some (.inl v62), some (.inl v63), some (.inl v64), none, none], [], m61)) hres (fun v64 hres => ?_)
                                refine e_steps 1 (s' := (282, [some (.inr (.inr (some (12, 0)))), none, some (.inl a2), none, none, none, none, none, none, some (.inl v48), some (.inl v50), some (.inl v51), some (.inl v52), some (.inl v53), some (.inl v62), some (.inl v63), some (.inl v64), none, none], [], m61)) rfl ?_
                                obtain rfl := Option.some.inj hres
                                exact e_mask (L' := [some (.inr (.inr (some (12, 0)))), none, some (.inl a2), none, none, none, none, none, none, some (.inl v48), some (.inl v50), some (.inl v51), some (.inl v52), some (.inl v53), some (.inl v62), some (.inl v63), some (.inl v64), none, none]) rfl (hcl56 _ rfl)
                      · obtain ⟨v44, v45⟩ := s
                        show mm_E (d + 1) 228 (232, [some (.inr (.inr (some (12, 0)))), none, some (.inl a2), none, none, none, none, none, none, some (.inl v44), some (.inl v45), none, none, none, none, none, none, none, none], [], m42) (.inl (some (.inl r.1)), r.2, 0, 0)
                        refine e_steps 2 (s' := (235, [some (.inr (.inr (some (12, 0)))), none, some (.inl a2), none, none, none, none, none, none, some (.inl v44), some (.inl v45), none, none, none, none, none, none, none, none], [.inl a2, .inl v45], m42)) rfl ?_
                        refine e_if (s1 := (251, [some (.inr (.inr (some (12, 0)))), none, some (.inl a2), none, none, none, none, none, none, some (.inl v44), some (.inl v45), none, none, none, none, none, none, none, none], [], m42)) (s2 := (238, [some (.inr (.inr (some (12, 0)))), none, some (.inl a2), none, none, none, none, none, none, some (.inl v44), some (.inl v45), none, none, none, none, none, none, none, none], [], m42)) rfl hres (fun hc hres => ?_) (fun hc hres => ?_)
                        · obtain rfl := Option.some.inj hres
                          exact e_mask (L' := [some (.inr (.inr (some (12, 0)))), none, some (.inl a2), none, none, none, none, none, none, some (.inl v44), none, none, none, none, none, none, none, none, none]) rfl (hxl43 _ rfl)
                        · refine e_steps 4 (s' := (245, [some (.inr (.inr (some (12, 0)))), none, some (.inl a2), none, none, none, none, none, none, some (.inl (v44 * 8)), some (.inl v45), none, none, none, none, none, none, none, none], [], m42)) rfl ?_
                          refine e_let (fun (v46 : Int32) => (245, [some (.inr (.inr (some (12, 0)))), none, some (.inl a2), none, none, none, none, none, none, some (.inl v46), some (.inl v45), none, none, none, none, none, none, none, none], [], m42)) hres (fun v46 hres => ?_)
                          refine e_steps 1 (s' := (248, [some (.inr (.inr (some (12, 0)))), none, some (.inl a2), none, none, none, none, none, none, some (.inl v46), some (.inl (v45 + 1)), none, none, none, none, none, none, none, none], [], m42)) rfl ?_
                          refine e_let (fun (v47 : Int32) => (248, [some (.inr (.inr (some (12, 0)))), none, some (.inl a2), none, none, none, none, none, none, some (.inl v46), some (.inl v47), none, none, none, none, none, none, none, none], [], m42)) hres (fun v47 hres => ?_)
                          refine e_steps 1 (s' := (232, [some (.inr (.inr (some (12, 0)))), none, some (.inl a2), none, none, none, none, none, none, some (.inl v46), some (.inl v47), none, none, none, none, none, none, none, none], [], m42)) rfl ?_
                          obtain rfl := Option.some.inj hres
                          exact e_mask (L' := [some (.inr (.inr (some (12, 0)))), none, some (.inl a2), none, none, none, none, none, none, some (.inl v46), some (.inl v47), none, none, none, none, none, none, none, none]) rfl (hcl43 _ rfl)
                    · obtain ⟨v30, m31⟩ := s
                      show mm_E (d + 1) 228 (156, [some (.inr (.inr (some (12, 0)))), some (.inl a1), some (.inl a2), some (.inl a3), none, none, none, none, some (.inl a8), some (.inl v30), none, none, none, none, none, none, none, none, none], [], m31) (.inl (some (.inl r.1)), r.2, 0, 0)
                      refine e_steps 2 (s' := (159, [some (.inr (.inr (some (12, 0)))), some (.inl a1), some (.inl a2), some (.inl a3), none, none, none, none, some (.inl a8), some (.inl v30), none, none, none, none, none, none, none, none, none], [.inl a2, .inl v30], m31)) rfl ?_
                      refine e_if (s1 := (226, [some (.inr (.inr (some (12, 0)))), some (.inl a1), some (.inl a2), some (.inl a3), none, none, none, none, some (.inl a8), some (.inl v30), none, none, none, none, none, none, none, none, none], [], m31)) (s2 := (162, [some (.inr (.inr (some (12, 0)))), some (.inl a1), some (.inl a2), some (.inl a3), none, none, none, none, some (.inl a8), some (.inl v30), none, none, none, none, none, none, none, none, none], [], m31)) rfl hres (fun hc hres => ?_) (fun hc hres => ?_)
                      · obtain rfl := Option.some.inj hres
                        exact e_mask (L' := [some (.inr (.inr (some (12, 0)))), none, some (.inl a2), none, none, none, none, none, none, none, none, none, none, none, none, none, none, none, none]) rfl (hxl29 _ rfl)
                      · refine e_steps 2 (s' := (165, [some (.inr (.inr (some (12, 0)))), some (.inl a1), some (.inl a2), some (.inl a3), none, none, none, none, some (.inl a8), some (.inl v30), some (.inl 0), none, none, none, none, none, none, none, none], [], m31)) rfl ?_
                        refine e_mask (L' := [some (.inr (.inr (some (12, 0)))), some (.inl a1), some (.inl a2), some (.inl a3), none, none, none, none, some (.inl a8), some (.inl v30), some (.inl 0), none, none, none, none, none, none, none, none]) rfl ?_
                        refine e_loopb (φ := fun s => (165, [some (.inr (.inr (some (12, 0)))), some (.inl a1), some (.inl a2), some (.inl a3), none, none, none, none, some (.inl a8), some (.inl v30), some (.inl s.1), none, none, none, none, none, none, none, none], [], s.2)) (K := fun t => mm_E (d + 1) 228 (220, [some (.inr (.inr (some (12, 0)))), some (.inl a1), some (.inl a2), some (.inl a3), none, none, none, none, some (.inl a8), some (.inl v30), none, none, none, none, none, none, none, none, none], [], t) (.inl (some (.inl r.1)), r.2, 0, 0)) hres (fun m40 hres => ?_) (fun s ol32 hres hcl32 hxl32 => ?_)
                        · show mm_E (d + 1) 228 (220, [some (.inr (.inr (some (12, 0)))), some (.inl a1), some (.inl a2), some (.inl a3), none, none, none, none, some (.inl a8), some (.inl v30), none, none, none, none, none, none, none, none, none], [], m40) (.inl (some (.inl r.1)), r.2, 0, 0)
                          refine e_steps 1 (s' := (223, [some (.inr (.inr (some (12, 0)))), some (.inl a1), some (.inl a2), some (.inl a3), none, none, none, none, some (.inl a8), some (.inl (v30 + 1)), none, none, none, none, none, none, none, none, none], [], m40)) rfl ?_
                          refine e_let (fun (v41 : Int32) => (223, [some (.inr (.inr (some (12, 0)))), some (.inl a1), some (.inl a2), some (.inl a3), none, none, none, none, some (.inl a8), some (.inl v41), none, none, none, none, none, none, none, none, none], [], m40)) hres (fun v41 hres => ?_)
                          refine e_steps 1 (s' := (156, [some (.inr (.inr (some (12, 0)))), some (.inl a1), some (.inl a2), some (.inl a3), none, none, none, none, some (.inl a8), some (.inl v41), none, none, none, none, none, none, none, none, none], [], m40)) rfl ?_
                          obtain rfl := Option.some.inj hres
                          exact e_mask (L' := [some (.inr (.inr (some (12, 0)))), some (.inl a1), some (.inl a2), some (.inl a3), none, none, none, none, some (.inl a8), some (.inl v41), none, none, none, none, none, none, none, none, none]) rfl (hcl29 _ rfl)
                        · obtain ⟨v33, m34⟩ := s
                          show mm_E (d + 1) 228 (165, [some (.inr (.inr (some (12, 0)))), some (.inl a1), some (.inl a2), some (.inl a3), none, none, none, none, some (.inl a8), some (.inl v30), some (.inl v33), none, none, none, none, none, none, none, none], [], m34) (.inl (some (.inl r.1)), r.2, 0, 0)
                          refine e_steps 2 (s' := (169, [some (.inr (.inr (some (12, 0)))), some (.inl a1), some (.inl a2), some (.inl a3), none, none, none, none, some (.inl a8), some (.inl v30), some (.inl v33), none, none, none, none, none, none, none, none], [.inl 8, .inl v33], m34)) rfl ?_
                          refine e_if (s1 := (220, [some (.inr (.inr (some (12, 0)))), some (.inl a1), some (.inl a2), some (.inl a3), none, none, none, none, some (.inl a8), some (.inl v30), some (.inl v33), none, none, none, none, none, none, none, none], [], m34)) (s2 := (172, [some (.inr (.inr (some (12, 0)))), some (.inl a1), some (.inl a2), some (.inl a3), none, none, none, none, some (.inl a8), some (.inl v30), some (.inl v33), none, none, none, none, none, none, none, none], [], m34)) rfl hres (fun hc hres => ?_) (fun hc hres => ?_)
                          · obtain rfl := Option.some.inj hres
                            exact e_mask (L' := [some (.inr (.inr (some (12, 0)))), some (.inl a1), some (.inl a2), some (.inl a3), none, none, none, none, some (.inl a8), some (.inl v30), none, none, none, none, none, none, none, none, none]) rfl (hxl32 _ rfl)
                          · refine e_steps 18 (s' := (202, [some (.inr (.inr (some (12, 0)))), some (.inl a1), some (.inl a2), some (.inl a3), none, none, none, none, some (.inl a8), some (.inl v30), some (.inl v33), none, none, none, none, none, none, none, none], [.inl v30, .inr (.inr (some (109, 0))), .inl (a3 + (500 * v33)), .inl v30, .inl a1, .inr (.inr (some (12, 0))), .inl ((8 * v30) + v33), .inr (.inr (some (111, 0)))], m34)) rfl ?_
                            refine e_gd (s1 := (203, [some (.inr (.inr (some (12, 0)))), some (.inl a1), some (.inl a2), some (.inl a3), none, none, none, none, some (.inl a8), some (.inl v30), some (.inl v33), none, none, none, none, none, none, none, none], [.inl (m34 109 0 v30.toNatClampNeg), .inl (a3 + (500 * v33)), .inl v30, .inl a1, .inr (.inr (some (12, 0))), .inl ((8 * v30) + v33), .inr (.inr (some (111, 0)))], m34)) rfl hres (fun hc hres => ?_)
                            refine e_steps 3 (s' := (207, [some (.inr (.inr (some (12, 0)))), some (.inl a1), some (.inl a2), some (.inl a3), none, none, none, none, some (.inl a8), some (.inl v30), some (.inl v33), none, none, none, none, none, none, none, none], [.inl a8, .inl a1, .inr (.inr (some (12, 0))), .inl (m34 109 0 v30.toNatClampNeg), .inl (a3 + (500 * v33)), .inl v30, .inl a1, .inr (.inr (some (12, 0))), .inl ((8 * v30) + v33), .inr (.inr (some (111, 0)))], m34)) rfl ?_
                            obtain ⟨r35, hv, hres⟩ := mm_b1_some hres
                            refine e_call0 (pc := 210) (L := [some (.inr (.inr (some (12, 0)))), some (.inl a1), some (.inl a2), some (.inl a3), none, none, none, none, some (.inl a8), some (.inl v30), some (.inl v33), none, none, none, none, none, none, none, none]) (st := [.inl (m34 109 0 v30.toNatClampNeg), .inl (a3 + (500 * v33)), .inl v30, .inl a1, .inr (.inr (some (12, 0))), .inl ((8 * v30) + v33), .inr (.inr (some (111, 0)))]) (m' := m34) (v := some (.inl r35)) rfl (k_X12_ageOn d (by omega) a1 a8 _ _ hv) ?_
                            show mm_E (d + 1) 228 (210, [some (.inr (.inr (some (12, 0)))), some (.inl a1), some (.inl a2), some (.inl a3), none, none, none, none, some (.inl a8), some (.inl v30), some (.inl v33), none, none, none, none, none, none, none, none], [.inl r35, .inl (m34 109 0 v30.toNatClampNeg), .inl (a3 + (500 * v33)), .inl v30, .inl a1, .inr (.inr (some (12, 0))), .inl ((8 * v30) + v33), .inr (.inr (some (111, 0)))], m34) (.inl (some (.inl r.1)), r.2, 0, 0)
                            obtain ⟨r36, m37, hv, hres⟩ := mm_b2_some hres
                            refine e_call0 (pc := 213) (L := [some (.inr (.inr (some (12, 0)))), some (.inl a1), some (.inl a2), some (.inl a3), none, none, none, none, some (.inl a8), some (.inl v30), some (.inl v33), none, none, none, none, none, none, none, none]) (st := [.inl ((8 * v30) + v33), .inr (.inr (some (111, 0)))]) (m' := m37) (v := some (.inl r36)) rfl (k_X12_marginOf d (by omega) a1 v30 (a3 + (500 * v33)) (m34 109 0 v30.toNatClampNeg) r35 _ _ hv) ?_
                            show mm_E (d + 1) 228 (213, [some (.inr (.inr (some (12, 0)))), some (.inl a1), some (.inl a2), some (.inl a3), none, none, none, none, some (.inl a8), some (.inl v30), some (.inl v33), none, none, none, none, none, none, none, none], [.inl r36, .inl ((8 * v30) + v33), .inr (.inr (some (111, 0)))], m37) (.inl (some (.inl r.1)), r.2, 0, 0)
                            refine e_gd (s1 := (214, [some (.inr (.inr (some (12, 0)))), some (.inl a1), some (.inl a2), some (.inl a3), none, none, none, none, some (.inl a8), some (.inl v30), some (.inl v33), none, none, none, none, none, none, none, none], [], (mm_w m37 111 0 (((8 * v30) + v33).toNatClampNeg) r36))) rfl hres (fun hc hres => ?_)
                            refine e_let (fun (m38 : mm_M) => (214, [some (.inr (.inr (some (12, 0)))), some (.inl a1), some (.inl a2), some (.inl a3), none, none, none, none, some (.inl a8), some (.inl v30), some (.inl v33), none, none, none, none, none, none, none, none], [], m38)) hres (fun m38 hres => ?_)
                            refine e_steps 1 (s' := (217, [some (.inr (.inr (some (12, 0)))), some (.inl a1), some (.inl a2), some (.inl a3), none, none, none, none, some (.inl a8), some (.inl v30), some (.inl (v33 + 1)), none, none, none, none, none, none, none, none], [], m38)) rfl ?_
                            refine e_let (fun (v39 : Int32) => (217, [some (.inr (.inr (some (12, 0)))), some (.inl a1), some (.inl a2), some (.inl a3), none, none, none, none, some (.inl a8), some (.inl v30), some (.inl v39), none, none, none, none, none, none, none, none], [], m38)) hres (fun v39 hres => ?_)
                            refine e_steps 1 (s' := (165, [some (.inr (.inr (some (12, 0)))), some (.inl a1), some (.inl a2), some (.inl a3), none, none, none, none, some (.inl a8), some (.inl v30), some (.inl v39), none, none, none, none, none, none, none, none], [], m38)) rfl ?_
                            obtain rfl := Option.some.inj hres
                            exact e_mask (L' := [some (.inr (.inr (some (12, 0)))), some (.inl a1), some (.inl a2), some (.inl a3), none, none, none, none, some (.inl a8), some (.inl v30), some (.inl v39), none, none, none, none, none, none, none, none]) rfl (hcl32 _ rfl)
                  · refine e_steps 1 (s' := (120, [some (.inr (.inr (some (12, 0)))), some (.inl a1), some (.inl a2), some (.inl a3), some (.inl a4), some (.inl a5), some (.inl a6), some (.inl a7), some (.inl a8), none, none, none, none, none, none, none, none, none, none], [.inl (-1000000)], m23)) rfl ?_
                    obtain rfl := Option.some.inj hres
                    exact e_ret rfl rfl
                · refine e_mask (L' := [some (.inr (.inr (some (12, 0)))), none, none, none, none, none, none, none, none, none, none, none, none, none, none, none, none, none, none]) rfl ?_
                  refine e_steps 2 (s' := (87, [some (.inr (.inr (some (12, 0)))), none, none, none, none, none, none, none, none, none, none, none, none, none, none, none, none, none, none], [.inl 2, .inr (.inr (some (12, 0)))], m1)) rfl ?_
                  obtain ⟨r89, m90, hv, hres⟩ := mm_b2_some hres
                  refine e_call0 (pc := 90) (L := [some (.inr (.inr (some (12, 0)))), none, none, none, none, none, none, none, none, none, none, none, none, none, none, none, none, none, none]) (st := []) (m' := m90) (v := some (.inl r89)) rfl (k_X12_fail d (by omega) 2 _ _ hv) ?_
                  show mm_E (d + 1) 228 (90, [some (.inr (.inr (some (12, 0)))), none, none, none, none, none, none, none, none, none, none, none, none, none, none, none, none, none, none], [.inl r89], m90) (.inl (some (.inl r.1)), r.2, 0, 0)
                  obtain rfl := Option.some.inj hres
                  exact e_ret rfl rfl
    · refine e_mask (L' := [some (.inr (.inr (some (12, 0)))), none, none, none, none, none, none, none, none, none, none, none, none, none, none, none, none, none, none]) rfl ?_
      refine e_steps 2 (s' := (27, [some (.inr (.inr (some (12, 0)))), none, none, none, none, none, none, none, none, none, none, none, none, none, none, none, none, none, none], [.inl 1, .inr (.inr (some (12, 0)))], m1)) rfl ?_
      obtain ⟨r91, m92, hv, hres⟩ := mm_b2_some hres
      refine e_call0 (pc := 30) (L := [some (.inr (.inr (some (12, 0)))), none, none, none, none, none, none, none, none, none, none, none, none, none, none, none, none, none, none]) (st := []) (m' := m92) (v := some (.inl r91)) rfl (k_X12_fail d (by omega) 1 _ _ hv) ?_
      show mm_E (d + 1) 228 (30, [some (.inr (.inr (some (12, 0)))), none, none, none, none, none, none, none, none, none, none, none, none, none, none, none, none, none, none], [.inl r91], m92) (.inl (some (.inl r.1)), r.2, 0, 0)
      obtain rfl := Option.some.inj hres
      exact e_ret rfl rfl
/-- GlassThreadsModel.steps(I)I -/
def f_X12_steps (a1 : Int32) (m : mm_M) : Option (Int32 × mm_M) :=
mm_let (mm_w m 12 0 3 0) fun m1 =>
mm_b1 (f_X12_isColour a1 m1) fun r2 =>
if r2 ≠ 0 then (if (m1 12 0 72) ≤ a1 then (some ((-1), m1))
else (if mm_in a1 4 then (
some ((m1 108 0 a1.toNatClampNeg), m1)) else none))
else (mm_b2 (f_X12_fail 1 m1) fun r3 m4 =>
some (r3, m4))
set_option maxHeartbeats 4000000 in
set_option maxRecDepth 100000 in
theorem k_X12_steps (d : Nat) (hd : 2 ≤ d) (a1 : Int32) (m : mm_M) (r : Int32 × mm_M) (hres : f_X12_steps a1 m = some r) : mm_X d 229 [.inr (.inr (some (12, 0))), .inl a1] m (.inl (some (.inl r.1)), r.2, 0, 0) := by
  unfold f_X12_steps at hres
  obtain ⟨d, rfl⟩ : ∃ e, d = e + 1 := ⟨d - 1, by omega⟩
  show mm_E (d + 1) 229 (0, [some (.inr (.inr (some (12, 0)))), some (.inl a1)], [], m) (.inl (some (.inl r.1)), r.2, 0, 0)
  refine e_steps 3 (s' := (5, [some (.inr (.inr (some (12, 0)))), some (.inl a1)], [], (mm_w m 12 0 3 0))) rfl ?_
  refine e_let (fun (m1 : mm_M) => (5, [some (.inr (.inr (some (12, 0)))), some (.inl a1)], [], m1)) hres (fun m1 hres => ?_)
  refine e_steps 1 (s' := (6, [some (.inr (.inr (some (12, 0)))), some (.inl a1)], [.inl a1], m1)) rfl ?_
  obtain ⟨r2, hv, hres⟩ := mm_b1_some hres
  refine e_call0 (pc := 9) (L := [some (.inr (.inr (some (12, 0)))), some (.inl a1)]) (st := []) (m' := m1) (v := some (.inl r2)) rfl (k_X12_isColour d (by omega) a1 _ _ hv) ?_
  show mm_E (d + 1) 229 (9, [some (.inr (.inr (some (12, 0)))), some (.inl a1)], [.inl r2], m1) (.inl (some (.inl r.1)), r.2, 0, 0)
  refine e_if (s1 := (18, [some (.inr (.inr (some (12, 0)))), some (.inl a1)], [], m1)) (s2 := (12, [some (.inr (.inr (some (12, 0)))), some (.inl a1)], [], m1)) rfl hres (fun hc hres => ?_) (fun hc hres => ?_)
  · refine e_steps 3 (s' := (23, [some (.inr (.inr (some (12, 0)))), some (.inl a1)], [.inl (m1 12 0 72), .inl a1], m1)) rfl ?_
    refine e_if (s1 := (35, [some (.inr (.inr (some (12, 0)))), some (.inl a1)], [], m1)) (s2 := (26, [some (.inr (.inr (some (12, 0)))), some (.inl a1)], [], m1)) rfl hres (fun hc hres => ?_) (fun hc hres => ?_)
    · refine e_steps 1 (s' := (36, [some (.inr (.inr (some (12, 0)))), some (.inl a1)], [.inl (-1)], m1)) rfl ?_
      refine e_mask (L' := [none, none]) rfl ?_
      obtain rfl := Option.some.inj hres
      exact e_ret rfl rfl
    · refine e_steps 3 (s' := (31, [some (.inr (.inr (some (12, 0)))), some (.inl a1)], [.inl a1, .inr (.inr (some (108, 0)))], m1)) rfl ?_
      refine e_gd (s1 := (32, [some (.inr (.inr (some (12, 0)))), some (.inl a1)], [.inl (m1 108 0 a1.toNatClampNeg)], m1)) rfl hres (fun hc hres => ?_)
      refine e_steps 1 (s' := (36, [some (.inr (.inr (some (12, 0)))), some (.inl a1)], [.inl (m1 108 0 a1.toNatClampNeg)], m1)) rfl ?_
      refine e_mask (L' := [none, none]) rfl ?_
      obtain rfl := Option.some.inj hres
      exact e_ret rfl rfl
  · refine e_steps 2 (s' := (14, [some (.inr (.inr (some (12, 0)))), some (.inl a1)], [.inl 1, .inr (.inr (some (12, 0)))], m1)) rfl ?_
    obtain ⟨r3, m4, hv, hres⟩ := mm_b2_some hres
    refine e_call0 (pc := 17) (L := [some (.inr (.inr (some (12, 0)))), some (.inl a1)]) (st := []) (m' := m4) (v := some (.inl r3)) rfl (k_X12_fail d (by omega) 1 _ _ hv) ?_
    show mm_E (d + 1) 229 (17, [some (.inr (.inr (some (12, 0)))), some (.inl a1)], [.inl r3], m4) (.inl (some (.inl r.1)), r.2, 0, 0)
    obtain rfl := Option.some.inj hres
    exact e_ret rfl rfl
/-- GlassThreadsModel.isNode(I)Z -/
def f_X12_isNode (a0 : Int32) (m : mm_M) : Option (Int32) :=
mm_b1 (f_X12_isIn a0 0 7 m) fun r1 =>
if r1 = 0 ∨ r1 = 1 then some r1 else none
set_option maxHeartbeats 4000000 in
set_option maxRecDepth 100000 in
theorem k_X12_isNode (d : Nat) (hd : 1 ≤ d) (a0 : Int32) (m : mm_M) (r : Int32) (hres : f_X12_isNode a0 m = some r) : mm_X d 230 [.inl a0] m (.inl (some (.inl r)), m, 0, 0) := by
  unfold f_X12_isNode at hres
  obtain ⟨d, rfl⟩ : ∃ e, d = e + 1 := ⟨d - 1, by omega⟩
  show mm_E (d + 1) 230 (0, [some (.inl a0)], [], m) (.inl (some (.inl r)), m, 0, 0)
  refine e_steps 3 (s' := (4, [some (.inl a0)], [.inl 7, .inl 0, .inl a0], m)) rfl ?_
  obtain ⟨r1, hv, hres⟩ := mm_b1_some hres
  refine e_call0 (pc := 7) (L := [some (.inl a0)]) (st := []) (m' := m) (v := some (.inl r1)) rfl (k_X12_isIn d (by omega) a0 0 7 _ _ hv) ?_
  show mm_E (d + 1) 230 (7, [some (.inl a0)], [.inl r1], m) (.inl (some (.inl r)), m, 0, 0)
  refine e_gr (o := .inl (some (.inl r1))) rfl hres (fun hc hres => ?_)
  obtain rfl := Option.some.inj hres
  rfl
/-- GlassThreadsModel.cable(IIII)I -/
def f_X12_cable (a1 : Int32) (a2 : Int32) (a3 : Int32) (a4 : Int32) (m : mm_M) : Option (Int32 × mm_M) :=
mm_let (mm_w m 12 0 3 0) fun m1 =>
mm_b1 (f_X12_isNode a1 m1) fun r2 =>
if r2 = 0 then (mm_b2 (f_X12_fail 1 m1) fun r3 m4 =>
some (r3, m4))
else (mm_b1 (f_X12_isNode a2 m1) fun r5 =>
if r5 = 0 then (mm_b2 (f_X12_fail 1 m1) fun r6 m7 =>
some (r6, m7))
else (mm_b1 (f_X12_isThread a3 m1) fun r8 =>
if r8 ≠ 0 then (if (m1 12 0 77) = 10 then (some ((-1), m1))
else (if a1 = a2 then (some ((-1), m1))
else (mm_b1 (f_X12_isIn a4 1 8 m1) fun r9 =>
if r9 ≠ 0 then (if mm_in (m1 12 0 77) 10 then (
mm_let (mm_w m1 112 0 ((m1 12 0 77).toNatClampNeg) a1) fun m10 =>
if mm_in (m10 12 0 77) 10 then (
mm_let (mm_w m10 113 0 ((m10 12 0 77).toNatClampNeg) a2) fun m11 =>
if mm_in (m11 12 0 77) 10 then (
mm_let (mm_w m11 114 0 ((m11 12 0 77).toNatClampNeg) a3) fun m12 =>
if mm_in (m12 12 0 77) 10 then (
mm_let (mm_w m12 115 0 ((m12 12 0 77).toNatClampNeg) a4) fun m13 =>
mm_let (mm_w m13 12 0 77 ((m13 12 0 77) + 1)) fun m14 =>
some (((m14 12 0 77) - 1), m14)) else none) else none) else none) else none)
else (some ((-1), m1)))))
else (mm_b2 (f_X12_fail 1 m1) fun r15 m16 =>
some (r15, m16))))
set_option maxHeartbeats 4000000 in
set_option maxRecDepth 100000 in
theorem k_X12_cable (d : Nat) (hd : 2 ≤ d) (a1 : Int32) (a2 : Int32) (a3 : Int32) (a4 : Int32) (m : mm_M) (r : Int32 × mm_M) (hres : f_X12_cable a1 a2 a3 a4 m = some r) : mm_X d 231 [.inr (.inr (some (12, 0))), .inl a1, .inl a2, .inl a3, .inl a4] m (.inl (some (.inl r.1)), r.2, 0, 0) := by
  unfold f_X12_cable at hres
  obtain ⟨d, rfl⟩ : ∃ e, d = e + 1 := ⟨d - 1, by omega⟩
  show mm_E (d + 1) 231 (0, [some (.inr (.inr (some (12, 0)))), some (.inl a1), some (.inl a2), some (.inl a3), some (.inl a4)], [], m) (.inl (some (.inl r.1)), r.2, 0, 0)
  refine e_steps 3 (s' := (5, [some (.inr (.inr (some (12, 0)))), some (.inl a1), some (.inl a2), some (.inl a3), some (.inl a4)], [], (mm_w m 12 0 3 0))) rfl ?_
  refine e_let (fun (m1 : mm_M) => (5, [some (.inr (.inr (some (12, 0)))), some (.inl a1), some (.inl a2), some (.inl a3), some (.inl a4)], [], m1)) hres (fun m1 hres => ?_)
  refine e_steps 1 (s' := (6, [some (.inr (.inr (some (12, 0)))), some (.inl a1), some (.inl a2), some (.inl a3), some (.inl a4)], [.inl a1], m1)) rfl ?_
  obtain ⟨r2, hv, hres⟩ := mm_b1_some hres
  refine e_call0 (pc := 9) (L := [some (.inr (.inr (some (12, 0)))), some (.inl a1), some (.inl a2), some (.inl a3), some (.inl a4)]) (st := []) (m' := m1) (v := some (.inl r2)) rfl (k_X12_isNode d (by omega) a1 _ _ hv) ?_
  show mm_E (d + 1) 231 (9, [some (.inr (.inr (some (12, 0)))), some (.inl a1), some (.inl a2), some (.inl a3), some (.inl a4)], [.inl r2], m1) (.inl (some (.inl r.1)), r.2, 0, 0)
  refine e_if (s1 := (27, [some (.inr (.inr (some (12, 0)))), some (.inl a1), some (.inl a2), some (.inl a3), some (.inl a4)], [], m1)) (s2 := (12, [some (.inr (.inr (some (12, 0)))), some (.inl a1), some (.inl a2), some (.inl a3), some (.inl a4)], [], m1)) rfl hres (fun hc hres => ?_) (fun hc hres => ?_)
  · refine e_mask (L' := [some (.inr (.inr (some (12, 0)))), none, none, none, none]) rfl ?_
    refine e_steps 2 (s' := (29, [some (.inr (.inr (some (12, 0)))), none, none, none, none], [.inl 1, .inr (.inr (some (12, 0)))], m1)) rfl ?_
    obtain ⟨r3, m4, hv, hres⟩ := mm_b2_some hres
    refine e_call0 (pc := 32) (L := [some (.inr (.inr (some (12, 0)))), none, none, none, none]) (st := []) (m' := m4) (v := some (.inl r3)) rfl (k_X12_fail d (by omega) 1 _ _ hv) ?_
    show mm_E (d + 1) 231 (32, [some (.inr (.inr (some (12, 0)))), none, none, none, none], [.inl r3], m4) (.inl (some (.inl r.1)), r.2, 0, 0)
    obtain rfl := Option.some.inj hres
    exact e_ret rfl rfl
  · refine e_steps 1 (s' := (13, [some (.inr (.inr (some (12, 0)))), some (.inl a1), some (.inl a2), some (.inl a3), some (.inl a4)], [.inl a2], m1)) rfl ?_
    obtain ⟨r5, hv, hres⟩ := mm_b1_some hres
    refine e_call0 (pc := 16) (L := [some (.inr (.inr (some (12, 0)))), some (.inl a1), some (.inl a2), some (.inl a3), some (.inl a4)]) (st := []) (m' := m1) (v := some (.inl r5)) rfl (k_X12_isNode d (by omega) a2 _ _ hv) ?_
    show mm_E (d + 1) 231 (16, [some (.inr (.inr (some (12, 0)))), some (.inl a1), some (.inl a2), some (.inl a3), some (.inl a4)], [.inl r5], m1) (.inl (some (.inl r.1)), r.2, 0, 0)
    refine e_if (s1 := (27, [some (.inr (.inr (some (12, 0)))), some (.inl a1), some (.inl a2), some (.inl a3), some (.inl a4)], [], m1)) (s2 := (19, [some (.inr (.inr (some (12, 0)))), some (.inl a1), some (.inl a2), some (.inl a3), some (.inl a4)], [], m1)) rfl hres (fun hc hres => ?_) (fun hc hres => ?_)
    · refine e_mask (L' := [some (.inr (.inr (some (12, 0)))), none, none, none, none]) rfl ?_
      refine e_steps 2 (s' := (29, [some (.inr (.inr (some (12, 0)))), none, none, none, none], [.inl 1, .inr (.inr (some (12, 0)))], m1)) rfl ?_
      obtain ⟨r6, m7, hv, hres⟩ := mm_b2_some hres
      refine e_call0 (pc := 32) (L := [some (.inr (.inr (some (12, 0)))), none, none, none, none]) (st := []) (m' := m7) (v := some (.inl r6)) rfl (k_X12_fail d (by omega) 1 _ _ hv) ?_
      show mm_E (d + 1) 231 (32, [some (.inr (.inr (some (12, 0)))), none, none, none, none], [.inl r6], m7) (.inl (some (.inl r.1)), r.2, 0, 0)
      obtain rfl := Option.some.inj hres
      exact e_ret rfl rfl
    · refine e_steps 2 (s' := (21, [some (.inr (.inr (some (12, 0)))), some (.inl a1), some (.inl a2), some (.inl a3), some (.inl a4)], [.inl a3, .inr (.inr (some (12, 0)))], m1)) rfl ?_
      obtain ⟨r8, hv, hres⟩ := mm_b1_some hres
      refine e_call0 (pc := 24) (L := [some (.inr (.inr (some (12, 0)))), some (.inl a1), some (.inl a2), some (.inl a3), some (.inl a4)]) (st := []) (m' := m1) (v := some (.inl r8)) rfl (k_X12_isThread d (by omega) a3 _ _ hv) ?_
      show mm_E (d + 1) 231 (24, [some (.inr (.inr (some (12, 0)))), some (.inl a1), some (.inl a2), some (.inl a3), some (.inl a4)], [.inl r8], m1) (.inl (some (.inl r.1)), r.2, 0, 0)
      refine e_if (s1 := (33, [some (.inr (.inr (some (12, 0)))), some (.inl a1), some (.inl a2), some (.inl a3), some (.inl a4)], [], m1)) (s2 := (27, [some (.inr (.inr (some (12, 0)))), some (.inl a1), some (.inl a2), some (.inl a3), some (.inl a4)], [], m1)) rfl hres (fun hc hres => ?_) (fun hc hres => ?_)
      · refine e_steps 3 (s' := (39, [some (.inr (.inr (some (12, 0)))), some (.inl a1), some (.inl a2), some (.inl a3), some (.inl a4)], [.inl 10, .inl (m1 12 0 77)], m1)) rfl ?_
        refine e_if (s1 := (58, [some (.inr (.inr (some (12, 0)))), some (.inl a1), some (.inl a2), some (.inl a3), some (.inl a4)], [], m1)) (s2 := (42, [some (.inr (.inr (some (12, 0)))), some (.inl a1), some (.inl a2), some (.inl a3), some (.inl a4)], [], m1)) rfl hres (fun hc hres => ?_) (fun hc hres => ?_)
        · refine e_mask (L' := [none, none, none, none, none]) rfl ?_
          refine e_steps 1 (s' := (59, [none, none, none, none, none], [.inl (-1)], m1)) rfl ?_
          obtain rfl := Option.some.inj hres
          exact e_ret rfl rfl
        · refine e_steps 2 (s' := (44, [some (.inr (.inr (some (12, 0)))), some (.inl a1), some (.inl a2), some (.inl a3), some (.inl a4)], [.inl a2, .inl a1], m1)) rfl ?_
          refine e_if (s1 := (58, [some (.inr (.inr (some (12, 0)))), some (.inl a1), some (.inl a2), some (.inl a3), some (.inl a4)], [], m1)) (s2 := (47, [some (.inr (.inr (some (12, 0)))), some (.inl a1), some (.inl a2), some (.inl a3), some (.inl a4)], [], m1)) rfl hres (fun hc hres => ?_) (fun hc hres => ?_)
          · refine e_mask (L' := [none, none, none, none, none]) rfl ?_
            refine e_steps 1 (s' := (59, [none, none, none, none, none], [.inl (-1)], m1)) rfl ?_
            obtain rfl := Option.some.inj hres
            exact e_ret rfl rfl
          · refine e_steps 3 (s' := (52, [some (.inr (.inr (some (12, 0)))), some (.inl a1), some (.inl a2), some (.inl a3), some (.inl a4)], [.inl 8, .inl 1, .inl a4], m1)) rfl ?_
            obtain ⟨r9, hv, hres⟩ := mm_b1_some hres
            refine e_call0 (pc := 55) (L := [some (.inr (.inr (some (12, 0)))), some (.inl a1), some (.inl a2), some (.inl a3), some (.inl a4)]) (st := []) (m' := m1) (v := some (.inl r9)) rfl (k_X12_isIn d (by omega) a4 1 8 _ _ hv) ?_
            show mm_E (d + 1) 231 (55, [some (.inr (.inr (some (12, 0)))), some (.inl a1), some (.inl a2), some (.inl a3), some (.inl a4)], [.inl r9], m1) (.inl (some (.inl r.1)), r.2, 0, 0)
            refine e_if (s1 := (60, [some (.inr (.inr (some (12, 0)))), some (.inl a1), some (.inl a2), some (.inl a3), some (.inl a4)], [], m1)) (s2 := (58, [some (.inr (.inr (some (12, 0)))), some (.inl a1), some (.inl a2), some (.inl a3), some (.inl a4)], [], m1)) rfl hres (fun hc hres => ?_) (fun hc hres => ?_)
            · refine e_steps 5 (s' := (69, [some (.inr (.inr (some (12, 0)))), some (.inl a1), some (.inl a2), some (.inl a3), some (.inl a4)], [.inl a1, .inl (m1 12 0 77), .inr (.inr (some (112, 0)))], m1)) rfl ?_
              refine e_gd (s1 := (70, [some (.inr (.inr (some (12, 0)))), some (.inl a1), some (.inl a2), some (.inl a3), some (.inl a4)], [], (mm_w m1 112 0 ((m1 12 0 77).toNatClampNeg) a1))) rfl hres (fun hc hres => ?_)
              refine e_let (fun (m10 : mm_M) => (70, [some (.inr (.inr (some (12, 0)))), some (.inl a1), some (.inl a2), some (.inl a3), some (.inl a4)], [], m10)) hres (fun m10 hres => ?_)
              refine e_steps 5 (s' := (79, [some (.inr (.inr (some (12, 0)))), some (.inl a1), some (.inl a2), some (.inl a3), some (.inl a4)], [.inl a2, .inl (m10 12 0 77), .inr (.inr (some (113, 0)))], m10)) rfl ?_
              refine e_gd (s1 := (80, [some (.inr (.inr (some (12, 0)))), some (.inl a1), some (.inl a2), some (.inl a3), some (.inl a4)], [], (mm_w m10 113 0 ((m10 12 0 77).toNatClampNeg) a2))) rfl hres (fun hc hres => ?_)
              refine e_let (fun (m11 : mm_M) => (80, [some (.inr (.inr (some (12, 0)))), some (.inl a1), some (.inl a2), some (.inl a3), some (.inl a4)], [], m11)) hres (fun m11 hres => ?_)
              refine e_steps 5 (s' := (89, [some (.inr (.inr (some (12, 0)))), some (.inl a1), some (.inl a2), some (.inl a3), some (.inl a4)], [.inl a3, .inl (m11 12 0 77), .inr (.inr (some (114, 0)))], m11)) rfl ?_
              refine e_gd (s1 := (90, [some (.inr (.inr (some (12, 0)))), some (.inl a1), some (.inl a2), some (.inl a3), some (.inl a4)], [], (mm_w m11 114 0 ((m11 12 0 77).toNatClampNeg) a3))) rfl hres (fun hc hres => ?_)
              refine e_let (fun (m12 : mm_M) => (90, [some (.inr (.inr (some (12, 0)))), some (.inl a1), some (.inl a2), some (.inl a3), some (.inl a4)], [], m12)) hres (fun m12 hres => ?_)
              refine e_steps 5 (s' := (100, [some (.inr (.inr (some (12, 0)))), some (.inl a1), some (.inl a2), some (.inl a3), some (.inl a4)], [.inl a4, .inl (m12 12 0 77), .inr (.inr (some (115, 0)))], m12)) rfl ?_
              refine e_gd (s1 := (101, [some (.inr (.inr (some (12, 0)))), some (.inl a1), some (.inl a2), some (.inl a3), some (.inl a4)], [], (mm_w m12 115 0 ((m12 12 0 77).toNatClampNeg) a4))) rfl hres (fun hc hres => ?_)
              refine e_let (fun (m13 : mm_M) => (101, [some (.inr (.inr (some (12, 0)))), some (.inl a1), some (.inl a2), some (.inl a3), some (.inl a4)], [], m13)) hres (fun m13 hres => ?_)
              refine e_steps 6 (s' := (111, [some (.inr (.inr (some (12, 0)))), some (.inl a1), some (.inl a2), some (.inl a3), some (.inl a4)], [], (mm_w m13 12 0 77 ((m13 12 0 77) + 1)))) rfl ?_
              refine e_let (fun (m14 : mm_M) => (111, [some (.inr (.inr (some (12, 0)))), some (.inl a1), some (.inl a2), some (.inl a3), some (.inl a4)], [], m14)) hres (fun m14 hres => ?_)
              refine e_steps 4 (s' := (117, [some (.inr (.inr (some (12, 0)))), some (.inl a1), some (.inl a2), some (.inl a3), some (.inl a4)], [.inl ((m14 12 0 77) - 1)], m14)) rfl ?_
              obtain rfl := Option.some.inj hres
              exact e_ret rfl rfl
            · refine e_mask (L' := [none, none, none, none, none]) rfl ?_
              refine e_steps 1 (s' := (59, [none, none, none, none, none], [.inl (-1)], m1)) rfl ?_
              obtain rfl := Option.some.inj hres
              exact e_ret rfl rfl
      · refine e_mask (L' := [some (.inr (.inr (some (12, 0)))), none, none, none, none]) rfl ?_
        refine e_steps 2 (s' := (29, [some (.inr (.inr (some (12, 0)))), none, none, none, none], [.inl 1, .inr (.inr (some (12, 0)))], m1)) rfl ?_
        obtain ⟨r15, m16, hv, hres⟩ := mm_b2_some hres
        refine e_call0 (pc := 32) (L := [some (.inr (.inr (some (12, 0)))), none, none, none, none]) (st := []) (m' := m16) (v := some (.inl r15)) rfl (k_X12_fail d (by omega) 1 _ _ hv) ?_
        show mm_E (d + 1) 231 (32, [some (.inr (.inr (some (12, 0)))), none, none, none, none], [.inl r15], m16) (.inl (some (.inl r.1)), r.2, 0, 0)
        obtain rfl := Option.some.inj hres
        exact e_ret rfl rfl
/-- GlassThreadsModel.task(II)I -/
def f_X12_task (a1 : Int32) (a2 : Int32) (m : mm_M) : Option (Int32 × mm_M) :=
mm_let (mm_w m 12 0 3 0) fun m1 =>
mm_b1 (f_X12_isNode a1 m1) fun r2 =>
if r2 = 0 then (mm_b2 (f_X12_fail 1 m1) fun r3 m4 =>
some (r3, m4))
else (mm_b1 (f_X12_isNode a2 m1) fun r5 =>
if r5 ≠ 0 then (if (m1 12 0 78) = 6 then (some ((-1), m1))
else (if a1 ≠ a2 then (if mm_in (m1 12 0 78) 6 then (
mm_let (mm_w m1 117 0 ((m1 12 0 78).toNatClampNeg) a1) fun m6 =>
if mm_in (m6 12 0 78) 6 then (
mm_let (mm_w m6 118 0 ((m6 12 0 78).toNatClampNeg) a2) fun m7 =>
mm_let (mm_w m7 12 0 78 ((m7 12 0 78) + 1)) fun m8 =>
some (((m8 12 0 78) - 1), m8)) else none) else none)
else (some ((-1), m1))))
else (mm_b2 (f_X12_fail 1 m1) fun r9 m10 =>
some (r9, m10)))
set_option maxHeartbeats 4000000 in
set_option maxRecDepth 100000 in
theorem k_X12_task (d : Nat) (hd : 2 ≤ d) (a1 : Int32) (a2 : Int32) (m : mm_M) (r : Int32 × mm_M) (hres : f_X12_task a1 a2 m = some r) : mm_X d 232 [.inr (.inr (some (12, 0))), .inl a1, .inl a2] m (.inl (some (.inl r.1)), r.2, 0, 0) := by
  unfold f_X12_task at hres
  obtain ⟨d, rfl⟩ : ∃ e, d = e + 1 := ⟨d - 1, by omega⟩
  show mm_E (d + 1) 232 (0, [some (.inr (.inr (some (12, 0)))), some (.inl a1), some (.inl a2)], [], m) (.inl (some (.inl r.1)), r.2, 0, 0)
  refine e_steps 3 (s' := (5, [some (.inr (.inr (some (12, 0)))), some (.inl a1), some (.inl a2)], [], (mm_w m 12 0 3 0))) rfl ?_
  refine e_let (fun (m1 : mm_M) => (5, [some (.inr (.inr (some (12, 0)))), some (.inl a1), some (.inl a2)], [], m1)) hres (fun m1 hres => ?_)
  refine e_steps 1 (s' := (6, [some (.inr (.inr (some (12, 0)))), some (.inl a1), some (.inl a2)], [.inl a1], m1)) rfl ?_
  obtain ⟨r2, hv, hres⟩ := mm_b1_some hres
  refine e_call0 (pc := 9) (L := [some (.inr (.inr (some (12, 0)))), some (.inl a1), some (.inl a2)]) (st := []) (m' := m1) (v := some (.inl r2)) rfl (k_X12_isNode d (by omega) a1 _ _ hv) ?_
  show mm_E (d + 1) 232 (9, [some (.inr (.inr (some (12, 0)))), some (.inl a1), some (.inl a2)], [.inl r2], m1) (.inl (some (.inl r.1)), r.2, 0, 0)
  refine e_if (s1 := (19, [some (.inr (.inr (some (12, 0)))), some (.inl a1), some (.inl a2)], [], m1)) (s2 := (12, [some (.inr (.inr (some (12, 0)))), some (.inl a1), some (.inl a2)], [], m1)) rfl hres (fun hc hres => ?_) (fun hc hres => ?_)
  · refine e_mask (L' := [some (.inr (.inr (some (12, 0)))), none, none]) rfl ?_
    refine e_steps 2 (s' := (21, [some (.inr (.inr (some (12, 0)))), none, none], [.inl 1, .inr (.inr (some (12, 0)))], m1)) rfl ?_
    obtain ⟨r3, m4, hv, hres⟩ := mm_b2_some hres
    refine e_call0 (pc := 24) (L := [some (.inr (.inr (some (12, 0)))), none, none]) (st := []) (m' := m4) (v := some (.inl r3)) rfl (k_X12_fail d (by omega) 1 _ _ hv) ?_
    show mm_E (d + 1) 232 (24, [some (.inr (.inr (some (12, 0)))), none, none], [.inl r3], m4) (.inl (some (.inl r.1)), r.2, 0, 0)
    obtain rfl := Option.some.inj hres
    exact e_ret rfl rfl
  · refine e_steps 1 (s' := (13, [some (.inr (.inr (some (12, 0)))), some (.inl a1), some (.inl a2)], [.inl a2], m1)) rfl ?_
    obtain ⟨r5, hv, hres⟩ := mm_b1_some hres
    refine e_call0 (pc := 16) (L := [some (.inr (.inr (some (12, 0)))), some (.inl a1), some (.inl a2)]) (st := []) (m' := m1) (v := some (.inl r5)) rfl (k_X12_isNode d (by omega) a2 _ _ hv) ?_
    show mm_E (d + 1) 232 (16, [some (.inr (.inr (some (12, 0)))), some (.inl a1), some (.inl a2)], [.inl r5], m1) (.inl (some (.inl r.1)), r.2, 0, 0)
    refine e_if (s1 := (25, [some (.inr (.inr (some (12, 0)))), some (.inl a1), some (.inl a2)], [], m1)) (s2 := (19, [some (.inr (.inr (some (12, 0)))), some (.inl a1), some (.inl a2)], [], m1)) rfl hres (fun hc hres => ?_) (fun hc hres => ?_)
    · refine e_steps 3 (s' := (31, [some (.inr (.inr (some (12, 0)))), some (.inl a1), some (.inl a2)], [.inl 6, .inl (m1 12 0 78)], m1)) rfl ?_
      refine e_if (s1 := (39, [some (.inr (.inr (some (12, 0)))), some (.inl a1), some (.inl a2)], [], m1)) (s2 := (34, [some (.inr (.inr (some (12, 0)))), some (.inl a1), some (.inl a2)], [], m1)) rfl hres (fun hc hres => ?_) (fun hc hres => ?_)
      · refine e_mask (L' := [none, none, none]) rfl ?_
        refine e_steps 1 (s' := (40, [none, none, none], [.inl (-1)], m1)) rfl ?_
        obtain rfl := Option.some.inj hres
        exact e_ret rfl rfl
      · refine e_steps 2 (s' := (36, [some (.inr (.inr (some (12, 0)))), some (.inl a1), some (.inl a2)], [.inl a2, .inl a1], m1)) rfl ?_
        refine e_if (s1 := (41, [some (.inr (.inr (some (12, 0)))), some (.inl a1), some (.inl a2)], [], m1)) (s2 := (39, [some (.inr (.inr (some (12, 0)))), some (.inl a1), some (.inl a2)], [], m1)) rfl hres (fun hc hres => ?_) (fun hc hres => ?_)
        · refine e_steps 5 (s' := (50, [some (.inr (.inr (some (12, 0)))), some (.inl a1), some (.inl a2)], [.inl a1, .inl (m1 12 0 78), .inr (.inr (some (117, 0)))], m1)) rfl ?_
          refine e_gd (s1 := (51, [some (.inr (.inr (some (12, 0)))), some (.inl a1), some (.inl a2)], [], (mm_w m1 117 0 ((m1 12 0 78).toNatClampNeg) a1))) rfl hres (fun hc hres => ?_)
          refine e_let (fun (m6 : mm_M) => (51, [some (.inr (.inr (some (12, 0)))), some (.inl a1), some (.inl a2)], [], m6)) hres (fun m6 hres => ?_)
          refine e_steps 5 (s' := (60, [some (.inr (.inr (some (12, 0)))), some (.inl a1), some (.inl a2)], [.inl a2, .inl (m6 12 0 78), .inr (.inr (some (118, 0)))], m6)) rfl ?_
          refine e_gd (s1 := (61, [some (.inr (.inr (some (12, 0)))), some (.inl a1), some (.inl a2)], [], (mm_w m6 118 0 ((m6 12 0 78).toNatClampNeg) a2))) rfl hres (fun hc hres => ?_)
          refine e_let (fun (m7 : mm_M) => (61, [some (.inr (.inr (some (12, 0)))), some (.inl a1), some (.inl a2)], [], m7)) hres (fun m7 hres => ?_)
          refine e_steps 6 (s' := (71, [some (.inr (.inr (some (12, 0)))), some (.inl a1), some (.inl a2)], [], (mm_w m7 12 0 78 ((m7 12 0 78) + 1)))) rfl ?_
          refine e_let (fun (m8 : mm_M) => (71, [some (.inr (.inr (some (12, 0)))), some (.inl a1), some (.inl a2)], [], m8)) hres (fun m8 hres => ?_)
          refine e_steps 4 (s' := (77, [some (.inr (.inr (some (12, 0)))), some (.inl a1), some (.inl a2)], [.inl ((m8 12 0 78) - 1)], m8)) rfl ?_
          obtain rfl := Option.some.inj hres
          exact e_ret rfl rfl
        · refine e_mask (L' := [none, none, none]) rfl ?_
          refine e_steps 1 (s' := (40, [none, none, none], [.inl (-1)], m1)) rfl ?_
          obtain rfl := Option.some.inj hres
          exact e_ret rfl rfl
    · refine e_mask (L' := [some (.inr (.inr (some (12, 0)))), none, none]) rfl ?_
      refine e_steps 2 (s' := (21, [some (.inr (.inr (some (12, 0)))), none, none], [.inl 1, .inr (.inr (some (12, 0)))], m1)) rfl ?_
      obtain ⟨r9, m10, hv, hres⟩ := mm_b2_some hres
      refine e_call0 (pc := 24) (L := [some (.inr (.inr (some (12, 0)))), none, none]) (st := []) (m' := m10) (v := some (.inl r9)) rfl (k_X12_fail d (by omega) 1 _ _ hv) ?_
      show mm_E (d + 1) 232 (24, [some (.inr (.inr (some (12, 0)))), none, none], [.inl r9], m10) (.inl (some (.inl r.1)), r.2, 0, 0)
      obtain rfl := Option.some.inj hres
      exact e_ret rfl rfl
/-- GlassThreadsModel.tellCosts()V -/
def f_X12_tellCosts  (m : mm_M) : Option (mm_M) :=
(mm_b1 (mm_loop (σ := Int32 × mm_M) (ρ := (mm_M)) (fun (s : Int32 × mm_M) => match s with
| (v2, m3) => (if (m3 12 0 77) ≤ v2 then (some (.inr m3))
else (if mm_in v2 10 then (
mm_let (m3 114 0 v2.toNatClampNeg) fun v4 =>
(mm_b1 (mm_loop (σ := Int32 × Int32 × mm_M) (ρ := (Int32 × mm_M)) (fun (s : Int32 × Int32 × mm_M) => match s with
| (v6, v7, m8) => (if mm_in v4 9 then (
if (m8 67 0 v4.toNatClampNeg) ≤ v7 then (some (.inr (v6, m8)))
else (if mm_in ((24 * v4) + v7) 216 then (
if (m8 69 0 ((24 * v4) + v7).toNatClampNeg) ≠ 3 then (mm_b2 (f_X12_lossOf ((24 * v4) + v7) 0 0 m8) fun r9 m10 =>
mm_let (v6 + r9) fun v11 =>
mm_let (v7 + 1) fun v12 =>
some (.inl (v11, v12, m10)))
else (mm_let (v6 + 0) fun v13 =>
mm_let (v7 + 1) fun v14 =>
some (.inl (v13, v14, m8)))) else none)) else none : Option ((Int32 × Int32 × mm_M) ⊕ ((Int32 × mm_M))))) mm_fu (0, 0, m3)) fun t => match t with
| (v15, m16) => if mm_in v2 10 then (
mm_let (mm_w m16 116 0 v2.toNatClampNeg (mm_max 1 v15)) fun m17 =>
mm_let (v2 + 1) fun v18 =>
some (.inl (v18, m17))) else none)) else none) : Option ((Int32 × mm_M) ⊕ ((mm_M))))) mm_fu (0, m)) fun m19 =>
some m19)
set_option maxHeartbeats 4000000 in
set_option maxRecDepth 100000 in
theorem k_X12_tellCosts (d : Nat) (hd : 3 ≤ d)  (m : mm_M) (r : mm_M) (hres : f_X12_tellCosts  m = some r) : mm_X d 233 [.inr (.inr (some (12, 0)))] m (.inl none, r, 0, 0) := by
  unfold f_X12_tellCosts at hres
  obtain ⟨d, rfl⟩ : ∃ e, d = e + 1 := ⟨d - 1, by omega⟩
  show mm_E (d + 1) 233 (0, [some (.inr (.inr (some (12, 0)))), none, none, none, none], [], m) (.inl none, r, 0, 0)
  refine e_steps 2 (s' := (2, [some (.inr (.inr (some (12, 0)))), some (.inl 0), none, none, none], [], m)) rfl ?_
  refine e_mask (L' := [some (.inr (.inr (some (12, 0)))), some (.inl 0), none, none, none]) rfl ?_
  refine e_loopb (φ := fun s => (2, [some (.inr (.inr (some (12, 0)))), some (.inl s.1), none, none, none], [], s.2)) (K := fun t => mm_E (d + 1) 233 (92, [none, none, none, none, none], [], t) (.inl none, r, 0, 0)) hres (fun m19 hres => ?_) (fun s ol1 hres hcl1 hxl1 => ?_)
  · show mm_E (d + 1) 233 (92, [none, none, none, none, none], [], m19) (.inl none, r, 0, 0)
    obtain rfl := Option.some.inj hres
    exact e_ret rfl rfl
  · obtain ⟨v2, m3⟩ := s
    show mm_E (d + 1) 233 (2, [some (.inr (.inr (some (12, 0)))), some (.inl v2), none, none, none], [], m3) (.inl none, r, 0, 0)
    refine e_steps 3 (s' := (7, [some (.inr (.inr (some (12, 0)))), some (.inl v2), none, none, none], [.inl (m3 12 0 77), .inl v2], m3)) rfl ?_
    refine e_if (s1 := (92, [some (.inr (.inr (some (12, 0)))), some (.inl v2), none, none, none], [], m3)) (s2 := (10, [some (.inr (.inr (some (12, 0)))), some (.inl v2), none, none, none], [], m3)) rfl hres (fun hc hres => ?_) (fun hc hres => ?_)
    · obtain rfl := Option.some.inj hres
      exact e_mask (L' := [none, none, none, none, none]) rfl (hxl1 _ rfl)
    · refine e_steps 3 (s' := (15, [some (.inr (.inr (some (12, 0)))), some (.inl v2), none, none, none], [.inl v2, .inr (.inr (some (114, 0)))], m3)) rfl ?_
      refine e_gd (s1 := (16, [some (.inr (.inr (some (12, 0)))), some (.inl v2), none, none, none], [.inl (m3 114 0 v2.toNatClampNeg)], m3)) rfl hres (fun hc hres => ?_)
      refine e_steps 1 (s' := (17, [some (.inr (.inr (some (12, 0)))), some (.inl v2), some (.inl (m3 114 0 v2.toNatClampNeg)), none, none], [], m3)) rfl ?_
      refine e_let (fun (v4 : Int32) => (17, [some (.inr (.inr (some (12, 0)))), some (.inl v2), some (.inl v4), none, none], [], m3)) hres (fun v4 hres => ?_)
      refine e_steps 4 (s' := (22, [some (.inr (.inr (some (12, 0)))), some (.inl v2), some (.inl v4), some (.inl 0), some (.inl 0)], [], m3)) rfl ?_
      refine e_mask (L' := [some (.inr (.inr (some (12, 0)))), some (.inl v2), some (.inl v4), some (.inl 0), some (.inl 0)]) rfl ?_
      refine e_loopb (φ := fun s => (22, [some (.inr (.inr (some (12, 0)))), some (.inl v2), some (.inl v4), some (.inl s.1), some (.inl s.2.1)], [], s.2.2)) (K := fun t => mm_E (d + 1) 233 (75, [some (.inr (.inr (some (12, 0)))), some (.inl v2), none, some (.inl t.1), none], [], t.2) (.inl none, r, 0, 0)) hres (fun t hres => ?_) (fun s ol5 hres hcl5 hxl5 => ?_)
      · obtain ⟨v15, m16⟩ := t
        show mm_E (d + 1) 233 (75, [some (.inr (.inr (some (12, 0)))), some (.inl v2), none, some (.inl v15), none], [], m16) (.inl none, r, 0, 0)
        refine e_steps 6 (s' := (85, [some (.inr (.inr (some (12, 0)))), some (.inl v2), none, some (.inl v15), none], [.inl (mm_max 1 v15), .inl v2, .inr (.inr (some (116, 0)))], m16)) rfl ?_
        refine e_gd (s1 := (86, [some (.inr (.inr (some (12, 0)))), some (.inl v2), none, some (.inl v15), none], [], (mm_w m16 116 0 v2.toNatClampNeg (mm_max 1 v15)))) rfl hres (fun hc hres => ?_)
        refine e_let (fun (m17 : mm_M) => (86, [some (.inr (.inr (some (12, 0)))), some (.inl v2), none, some (.inl v15), none], [], m17)) hres (fun m17 hres => ?_)
        refine e_steps 1 (s' := (89, [some (.inr (.inr (some (12, 0)))), some (.inl (v2 + 1)), none, some (.inl v15), none], [], m17)) rfl ?_
        refine e_let (fun (v18 : Int32) => (89, [some (.inr (.inr (some (12, 0)))), some (.inl v18), none, some (.inl v15), none], [], m17)) hres (fun v18 hres => ?_)
        refine e_steps 1 (s' := (2, [some (.inr (.inr (some (12, 0)))), some (.inl v18), none, some (.inl v15), none], [], m17)) rfl ?_
        obtain rfl := Option.some.inj hres
        exact e_mask (L' := [some (.inr (.inr (some (12, 0)))), some (.inl v18), none, none, none]) rfl (hcl1 _ rfl)
      · obtain ⟨v6, v7, m8⟩ := s
        show mm_E (d + 1) 233 (22, [some (.inr (.inr (some (12, 0)))), some (.inl v2), some (.inl v4), some (.inl v6), some (.inl v7)], [], m8) (.inl none, r, 0, 0)
        refine e_steps 4 (s' := (29, [some (.inr (.inr (some (12, 0)))), some (.inl v2), some (.inl v4), some (.inl v6), some (.inl v7)], [.inl v4, .inr (.inr (some (67, 0))), .inl v7], m8)) rfl ?_
        refine e_gd (s1 := (30, [some (.inr (.inr (some (12, 0)))), some (.inl v2), some (.inl v4), some (.inl v6), some (.inl v7)], [.inl (m8 67 0 v4.toNatClampNeg), .inl v7], m8)) rfl hres (fun hc hres => ?_)
        refine e_if (s1 := (75, [some (.inr (.inr (some (12, 0)))), some (.inl v2), some (.inl v4), some (.inl v6), some (.inl v7)], [], m8)) (s2 := (33, [some (.inr (.inr (some (12, 0)))), some (.inl v2), some (.inl v4), some (.inl v6), some (.inl v7)], [], m8)) rfl hres (fun hc hres => ?_) (fun hc hres => ?_)
        · obtain rfl := Option.some.inj hres
          exact e_mask (L' := [some (.inr (.inr (some (12, 0)))), some (.inl v2), none, some (.inl v6), none]) rfl (hxl5 _ rfl)
        · refine e_steps 8 (s' := (45, [some (.inr (.inr (some (12, 0)))), some (.inl v2), some (.inl v4), some (.inl v6), some (.inl v7)], [.inl ((24 * v4) + v7), .inr (.inr (some (69, 0))), .inl v6], m8)) rfl ?_
          refine e_gd (s1 := (46, [some (.inr (.inr (some (12, 0)))), some (.inl v2), some (.inl v4), some (.inl v6), some (.inl v7)], [.inl (m8 69 0 ((24 * v4) + v7).toNatClampNeg), .inl v6], m8)) rfl hres (fun hc hres => ?_)
          refine e_steps 1 (s' := (47, [some (.inr (.inr (some (12, 0)))), some (.inl v2), some (.inl v4), some (.inl v6), some (.inl v7)], [.inl 3, .inl (m8 69 0 ((24 * v4) + v7).toNatClampNeg), .inl v6], m8)) rfl ?_
          refine e_if (s1 := (54, [some (.inr (.inr (some (12, 0)))), some (.inl v2), some (.inl v4), some (.inl v6), some (.inl v7)], [.inl v6], m8)) (s2 := (50, [some (.inr (.inr (some (12, 0)))), some (.inl v2), some (.inl v4), some (.inl v6), some (.inl v7)], [.inl v6], m8)) rfl hres (fun hc hres => ?_) (fun hc hres => ?_)
          · refine e_steps 8 (s' := (64, [some (.inr (.inr (some (12, 0)))), some (.inl v2), some (.inl v4), some (.inl v6), some (.inl v7)], [.inl 0, .inl 0, .inl ((24 * v4) + v7), .inr (.inr (some (12, 0))), .inl v6], m8)) rfl ?_
            obtain ⟨r9, m10, hv, hres⟩ := mm_b2_some hres
            refine e_call0 (pc := 67) (L := [some (.inr (.inr (some (12, 0)))), some (.inl v2), some (.inl v4), some (.inl v6), some (.inl v7)]) (st := [.inl v6]) (m' := m10) (v := some (.inl r9)) rfl (k_X12_lossOf d (by omega) ((24 * v4) + v7) 0 0 _ _ hv) ?_
            show mm_E (d + 1) 233 (67, [some (.inr (.inr (some (12, 0)))), some (.inl v2), some (.inl v4), some (.inl v6), some (.inl v7)], [.inl r9, .inl v6], m10) (.inl none, r, 0, 0)
            refine e_mask (L' := [some (.inr (.inr (some (12, 0)))), some (.inl v2), some (.inl v4), none, some (.inl v7)]) rfl ?_
            refine e_steps 2 (s' := (69, [some (.inr (.inr (some (12, 0)))), some (.inl v2), some (.inl v4), some (.inl (v6 + r9)), some (.inl v7)], [], m10)) rfl ?_
            refine e_let (fun (v11 : Int32) => (69, [some (.inr (.inr (some (12, 0)))), some (.inl v2), some (.inl v4), some (.inl v11), some (.inl v7)], [], m10)) hres (fun v11 hres => ?_)
            refine e_steps 1 (s' := (72, [some (.inr (.inr (some (12, 0)))), some (.inl v2), some (.inl v4), some (.inl v11), some (.inl (v7 + 1))], [], m10)) rfl ?_
            refine e_let (fun (v12 : Int32) => (72, [some (.inr (.inr (some (12, 0)))), some (.inl v2), some (.inl v4), some (.inl v11), some (.inl v12)], [], m10)) hres (fun v12 hres => ?_)
            refine e_steps 1 (s' := (22, [some (.inr (.inr (some (12, 0)))), some (.inl v2), some (.inl v4), some (.inl v11), some (.inl v12)], [], m10)) rfl ?_
            obtain rfl := Option.some.inj hres
            exact e_mask (L' := [some (.inr (.inr (some (12, 0)))), some (.inl v2), some (.inl v4), some (.inl v11), some (.inl v12)]) rfl (hcl5 _ rfl)
          · refine e_steps 2 (s' := (67, [some (.inr (.inr (some (12, 0)))), some (.inl v2), some (.inl v4), some (.inl v6), some (.inl v7)], [.inl 0, .inl v6], m8)) rfl ?_
            refine e_mask (L' := [some (.inr (.inr (some (12, 0)))), some (.inl v2), some (.inl v4), none, some (.inl v7)]) rfl ?_
            refine e_steps 2 (s' := (69, [some (.inr (.inr (some (12, 0)))), some (.inl v2), some (.inl v4), some (.inl (v6 + 0)), some (.inl v7)], [], m8)) rfl ?_
            refine e_let (fun (v13 : Int32) => (69, [some (.inr (.inr (some (12, 0)))), some (.inl v2), some (.inl v4), some (.inl v13), some (.inl v7)], [], m8)) hres (fun v13 hres => ?_)
            refine e_steps 1 (s' := (72, [some (.inr (.inr (some (12, 0)))), some (.inl v2), some (.inl v4), some (.inl v13), some (.inl (v7 + 1))], [], m8)) rfl ?_
            refine e_let (fun (v14 : Int32) => (72, [some (.inr (.inr (some (12, 0)))), some (.inl v2), some (.inl v4), some (.inl v13), some (.inl v14)], [], m8)) hres (fun v14 hres => ?_)
            refine e_steps 1 (s' := (22, [some (.inr (.inr (some (12, 0)))), some (.inl v2), some (.inl v4), some (.inl v13), some (.inl v14)], [], m8)) rfl ?_
            obtain rfl := Option.some.inj hres
            exact e_mask (L' := [some (.inr (.inr (some (12, 0)))), some (.inl v2), some (.inl v4), some (.inl v13), some (.inl v14)]) rfl (hcl5 _ rfl)
