/-- GlassThreadsModel.isLevel(I)Z -/
def f_X12_isLevel (a0 : Int32) (m : mm_M) : Option (Int32) :=
mm_b1 (f_X12_isIn a0 (-60000) 30000 m) fun r1 =>
if r1 = 0 ∨ r1 = 1 then some r1 else none
set_option maxHeartbeats 4000000 in
set_option maxRecDepth 100000 in
theorem k_X12_isLevel (d : Nat) (hd : 1 ≤ d) (a0 : Int32) (m : mm_M) (r : Int32) (hres : f_X12_isLevel a0 m = some r) : mm_X d 203 [.inl a0] m (.inl (some (.inl r)), m, 0, 0) := by
  unfold f_X12_isLevel at hres
  obtain ⟨d, rfl⟩ : ∃ e, d = e + 1 := ⟨d - 1, by omega⟩
  show mm_E (d + 1) 203 (0, [some (.inl a0)], [], m) (.inl (some (.inl r)), m, 0, 0)
  refine e_steps 3 (s' := (7, [some (.inl a0)], [.inl 30000, .inl (-60000), .inl a0], m)) rfl ?_
  obtain ⟨r1, hv, hres⟩ := mm_b1_some hres
  refine e_call0 (pc := 10) (L := [some (.inl a0)]) (st := []) (m' := m) (v := some (.inl r1)) rfl (k_X12_isIn d (by omega) a0 (-60000) 30000 _ _ hv) ?_
  show mm_E (d + 1) 203 (10, [some (.inl a0)], [.inl r1], m) (.inl (some (.inl r)), m, 0, 0)
  refine e_gr (o := .inl (some (.inl r1))) rfl hres (fun hc hres => ?_)
  obtain rfl := Option.some.inj hres
  rfl
/-- GlassThreadsModel.level(IIIIZII)I -/
def f_X12_level (a1 : Int32) (a2 : Int32) (a3 : Int32) (a4 : Int32) (a5 : Int32) (a6 : Int32) (a7 : Int32) (m : mm_M) : Option (Int32 × mm_M) :=
mm_let (mm_w m 12 0 3 0) fun m1 =>
mm_b1 (f_X12_isPart a1 a2 m1) fun r2 =>
if r2 = 0 then (mm_b2 (f_X12_fail 1 m1) fun r3 m4 =>
some (r3, m4))
else (mm_b1 (f_X12_isColour a3 m1) fun r5 =>
if r5 = 0 then (mm_b2 (f_X12_fail 1 m1) fun r6 m7 =>
some (r6, m7))
else (mm_b1 (f_X12_isIn a6 0 36499 m1) fun r8 =>
if r8 ≠ 0 then (mm_b1 (f_X12_isLevel a4 m1) fun r9 =>
if r9 = 0 then (mm_b2 (f_X12_fail 2 m1) fun r10 m11 =>
some (r10, m11))
else (mm_b1 (f_X12_isIn a7 0 (m1 12 0 5) m1) fun r12 =>
if r12 ≠ 0 then (mm_b1 (f_X12_tellState a1 a6 a7 m1) fun m14 =>
mm_let (fun (w15 : Int32) => (mm_b1 (f_X12_ageOn a1 a6 m14) fun r17 =>
mm_b2 (f_X12_through a1 w15 a3 a4 a5 r17 m14) fun r18 m19 =>
some (r18, m19) : Option (Int32 × mm_M))) fun k16 =>
if a5 = 0 then (k16 (a2 + 1))
else (if mm_in a1 9 then (
k16 ((m14 67 0 a1.toNatClampNeg) - a2)) else none))
else (mm_b2 (f_X12_fail 2 m1) fun r20 m21 =>
some (r20, m21))))
else (mm_b2 (f_X12_fail 1 m1) fun r22 m23 =>
some (r22, m23))))
set_option maxHeartbeats 4000000 in
set_option maxRecDepth 100000 in
theorem k_X12_level (d : Nat) (hd : 4 ≤ d) (a1 : Int32) (a2 : Int32) (a3 : Int32) (a4 : Int32) (a5 : Int32) (a6 : Int32) (a7 : Int32) (m : mm_M) (r : Int32 × mm_M) (hres : f_X12_level a1 a2 a3 a4 a5 a6 a7 m = some r) : mm_X d 204 [.inr (.inr (some (12, 0))), .inl a1, .inl a2, .inl a3, .inl a4, .inl a5, .inl a6, .inl a7] m (.inl (some (.inl r.1)), r.2, 0, 0) := by
  unfold f_X12_level at hres
  obtain ⟨d, rfl⟩ : ∃ e, d = e + 1 := ⟨d - 1, by omega⟩
  show mm_E (d + 1) 204 (0, [some (.inr (.inr (some (12, 0)))), some (.inl a1), some (.inl a2), some (.inl a3), some (.inl a4), some (.inl a5), some (.inl a6), some (.inl a7)], [], m) (.inl (some (.inl r.1)), r.2, 0, 0)
  refine e_steps 3 (s' := (5, [some (.inr (.inr (some (12, 0)))), some (.inl a1), some (.inl a2), some (.inl a3), some (.inl a4), some (.inl a5), some (.inl a6), some (.inl a7)], [], (mm_w m 12 0 3 0))) rfl ?_
  refine e_let (fun (m1 : mm_M) => (5, [some (.inr (.inr (some (12, 0)))), some (.inl a1), some (.inl a2), some (.inl a3), some (.inl a4), some (.inl a5), some (.inl a6), some (.inl a7)], [], m1)) hres (fun m1 hres => ?_)
  refine e_steps 3 (s' := (8, [some (.inr (.inr (some (12, 0)))), some (.inl a1), some (.inl a2), some (.inl a3), some (.inl a4), some (.inl a5), some (.inl a6), some (.inl a7)], [.inl a2, .inl a1, .inr (.inr (some (12, 0)))], m1)) rfl ?_
  obtain ⟨r2, hv, hres⟩ := mm_b1_some hres
  refine e_call0 (pc := 11) (L := [some (.inr (.inr (some (12, 0)))), some (.inl a1), some (.inl a2), some (.inl a3), some (.inl a4), some (.inl a5), some (.inl a6), some (.inl a7)]) (st := []) (m' := m1) (v := some (.inl r2)) rfl (k_X12_isPart d (by omega) a1 a2 _ _ hv) ?_
  show mm_E (d + 1) 204 (11, [some (.inr (.inr (some (12, 0)))), some (.inl a1), some (.inl a2), some (.inl a3), some (.inl a4), some (.inl a5), some (.inl a6), some (.inl a7)], [.inl r2], m1) (.inl (some (.inl r.1)), r.2, 0, 0)
  refine e_if (s1 := (33, [some (.inr (.inr (some (12, 0)))), some (.inl a1), some (.inl a2), some (.inl a3), some (.inl a4), some (.inl a5), some (.inl a6), some (.inl a7)], [], m1)) (s2 := (14, [some (.inr (.inr (some (12, 0)))), some (.inl a1), some (.inl a2), some (.inl a3), some (.inl a4), some (.inl a5), some (.inl a6), some (.inl a7)], [], m1)) rfl hres (fun hc hres => ?_) (fun hc hres => ?_)
  · refine e_mask (L' := [some (.inr (.inr (some (12, 0)))), none, none, none, none, none, none, none]) rfl ?_
    refine e_steps 2 (s' := (35, [some (.inr (.inr (some (12, 0)))), none, none, none, none, none, none, none], [.inl 1, .inr (.inr (some (12, 0)))], m1)) rfl ?_
    obtain ⟨r3, m4, hv, hres⟩ := mm_b2_some hres
    refine e_call0 (pc := 38) (L := [some (.inr (.inr (some (12, 0)))), none, none, none, none, none, none, none]) (st := []) (m' := m4) (v := some (.inl r3)) rfl (k_X12_fail d (by omega) 1 _ _ hv) ?_
    show mm_E (d + 1) 204 (38, [some (.inr (.inr (some (12, 0)))), none, none, none, none, none, none, none], [.inl r3], m4) (.inl (some (.inl r.1)), r.2, 0, 0)
    obtain rfl := Option.some.inj hres
    exact e_ret rfl rfl
  · refine e_steps 1 (s' := (15, [some (.inr (.inr (some (12, 0)))), some (.inl a1), some (.inl a2), some (.inl a3), some (.inl a4), some (.inl a5), some (.inl a6), some (.inl a7)], [.inl a3], m1)) rfl ?_
    obtain ⟨r5, hv, hres⟩ := mm_b1_some hres
    refine e_call0 (pc := 18) (L := [some (.inr (.inr (some (12, 0)))), some (.inl a1), some (.inl a2), some (.inl a3), some (.inl a4), some (.inl a5), some (.inl a6), some (.inl a7)]) (st := []) (m' := m1) (v := some (.inl r5)) rfl (k_X12_isColour d (by omega) a3 _ _ hv) ?_
    show mm_E (d + 1) 204 (18, [some (.inr (.inr (some (12, 0)))), some (.inl a1), some (.inl a2), some (.inl a3), some (.inl a4), some (.inl a5), some (.inl a6), some (.inl a7)], [.inl r5], m1) (.inl (some (.inl r.1)), r.2, 0, 0)
    refine e_if (s1 := (33, [some (.inr (.inr (some (12, 0)))), some (.inl a1), some (.inl a2), some (.inl a3), some (.inl a4), some (.inl a5), some (.inl a6), some (.inl a7)], [], m1)) (s2 := (21, [some (.inr (.inr (some (12, 0)))), some (.inl a1), some (.inl a2), some (.inl a3), some (.inl a4), some (.inl a5), some (.inl a6), some (.inl a7)], [], m1)) rfl hres (fun hc hres => ?_) (fun hc hres => ?_)
    · refine e_mask (L' := [some (.inr (.inr (some (12, 0)))), none, none, none, none, none, none, none]) rfl ?_
      refine e_steps 2 (s' := (35, [some (.inr (.inr (some (12, 0)))), none, none, none, none, none, none, none], [.inl 1, .inr (.inr (some (12, 0)))], m1)) rfl ?_
      obtain ⟨r6, m7, hv, hres⟩ := mm_b2_some hres
      refine e_call0 (pc := 38) (L := [some (.inr (.inr (some (12, 0)))), none, none, none, none, none, none, none]) (st := []) (m' := m7) (v := some (.inl r6)) rfl (k_X12_fail d (by omega) 1 _ _ hv) ?_
      show mm_E (d + 1) 204 (38, [some (.inr (.inr (some (12, 0)))), none, none, none, none, none, none, none], [.inl r6], m7) (.inl (some (.inl r.1)), r.2, 0, 0)
      obtain rfl := Option.some.inj hres
      exact e_ret rfl rfl
    · refine e_steps 3 (s' := (27, [some (.inr (.inr (some (12, 0)))), some (.inl a1), some (.inl a2), some (.inl a3), some (.inl a4), some (.inl a5), some (.inl a6), some (.inl a7)], [.inl 36499, .inl 0, .inl a6], m1)) rfl ?_
      obtain ⟨r8, hv, hres⟩ := mm_b1_some hres
      refine e_call0 (pc := 30) (L := [some (.inr (.inr (some (12, 0)))), some (.inl a1), some (.inl a2), some (.inl a3), some (.inl a4), some (.inl a5), some (.inl a6), some (.inl a7)]) (st := []) (m' := m1) (v := some (.inl r8)) rfl (k_X12_isIn d (by omega) a6 0 36499 _ _ hv) ?_
      show mm_E (d + 1) 204 (30, [some (.inr (.inr (some (12, 0)))), some (.inl a1), some (.inl a2), some (.inl a3), some (.inl a4), some (.inl a5), some (.inl a6), some (.inl a7)], [.inl r8], m1) (.inl (some (.inl r.1)), r.2, 0, 0)
      refine e_if (s1 := (39, [some (.inr (.inr (some (12, 0)))), some (.inl a1), some (.inl a2), some (.inl a3), some (.inl a4), some (.inl a5), some (.inl a6), some (.inl a7)], [], m1)) (s2 := (33, [some (.inr (.inr (some (12, 0)))), some (.inl a1), some (.inl a2), some (.inl a3), some (.inl a4), some (.inl a5), some (.inl a6), some (.inl a7)], [], m1)) rfl hres (fun hc hres => ?_) (fun hc hres => ?_)
      · refine e_steps 1 (s' := (41, [some (.inr (.inr (some (12, 0)))), some (.inl a1), some (.inl a2), some (.inl a3), some (.inl a4), some (.inl a5), some (.inl a6), some (.inl a7)], [.inl a4], m1)) rfl ?_
        obtain ⟨r9, hv, hres⟩ := mm_b1_some hres
        refine e_call0 (pc := 44) (L := [some (.inr (.inr (some (12, 0)))), some (.inl a1), some (.inl a2), some (.inl a3), some (.inl a4), some (.inl a5), some (.inl a6), some (.inl a7)]) (st := []) (m' := m1) (v := some (.inl r9)) rfl (k_X12_isLevel d (by omega) a4 _ _ hv) ?_
        show mm_E (d + 1) 204 (44, [some (.inr (.inr (some (12, 0)))), some (.inl a1), some (.inl a2), some (.inl a3), some (.inl a4), some (.inl a5), some (.inl a6), some (.inl a7)], [.inl r9], m1) (.inl (some (.inl r.1)), r.2, 0, 0)
        refine e_if (s1 := (60, [some (.inr (.inr (some (12, 0)))), some (.inl a1), some (.inl a2), some (.inl a3), some (.inl a4), some (.inl a5), some (.inl a6), some (.inl a7)], [], m1)) (s2 := (47, [some (.inr (.inr (some (12, 0)))), some (.inl a1), some (.inl a2), some (.inl a3), some (.inl a4), some (.inl a5), some (.inl a6), some (.inl a7)], [], m1)) rfl hres (fun hc hres => ?_) (fun hc hres => ?_)
        · refine e_mask (L' := [some (.inr (.inr (some (12, 0)))), none, none, none, none, none, none, none]) rfl ?_
          refine e_steps 2 (s' := (62, [some (.inr (.inr (some (12, 0)))), none, none, none, none, none, none, none], [.inl 2, .inr (.inr (some (12, 0)))], m1)) rfl ?_
          obtain ⟨r10, m11, hv, hres⟩ := mm_b2_some hres
          refine e_call0 (pc := 65) (L := [some (.inr (.inr (some (12, 0)))), none, none, none, none, none, none, none]) (st := []) (m' := m11) (v := some (.inl r10)) rfl (k_X12_fail d (by omega) 2 _ _ hv) ?_
          show mm_E (d + 1) 204 (65, [some (.inr (.inr (some (12, 0)))), none, none, none, none, none, none, none], [.inl r10], m11) (.inl (some (.inl r.1)), r.2, 0, 0)
          obtain rfl := Option.some.inj hres
          exact e_ret rfl rfl
        · refine e_steps 4 (s' := (54, [some (.inr (.inr (some (12, 0)))), some (.inl a1), some (.inl a2), some (.inl a3), some (.inl a4), some (.inl a5), some (.inl a6), some (.inl a7)], [.inl (m1 12 0 5), .inl 0, .inl a7], m1)) rfl ?_
          obtain ⟨r12, hv, hres⟩ := mm_b1_some hres
          refine e_call0 (pc := 57) (L := [some (.inr (.inr (some (12, 0)))), some (.inl a1), some (.inl a2), some (.inl a3), some (.inl a4), some (.inl a5), some (.inl a6), some (.inl a7)]) (st := []) (m' := m1) (v := some (.inl r12)) rfl (k_X12_isIn d (by omega) a7 0 (m1 12 0 5) _ _ hv) ?_
          show mm_E (d + 1) 204 (57, [some (.inr (.inr (some (12, 0)))), some (.inl a1), some (.inl a2), some (.inl a3), some (.inl a4), some (.inl a5), some (.inl a6), some (.inl a7)], [.inl r12], m1) (.inl (some (.inl r.1)), r.2, 0, 0)
          refine e_if (s1 := (66, [some (.inr (.inr (some (12, 0)))), some (.inl a1), some (.inl a2), some (.inl a3), some (.inl a4), some (.inl a5), some (.inl a6), some (.inl a7)], [], m1)) (s2 := (60, [some (.inr (.inr (some (12, 0)))), some (.inl a1), some (.inl a2), some (.inl a3), some (.inl a4), some (.inl a5), some (.inl a6), some (.inl a7)], [], m1)) rfl hres (fun hc hres => ?_) (fun hc hres => ?_)
          · refine e_steps 4 (s' := (72, [some (.inr (.inr (some (12, 0)))), some (.inl a1), some (.inl a2), some (.inl a3), some (.inl a4), some (.inl a5), some (.inl a6), some (.inl a7)], [.inl a7, .inl a6, .inl a1, .inr (.inr (some (12, 0)))], m1)) rfl ?_
            obtain ⟨m14, hv, hres⟩ := mm_b1_some hres
            refine e_call0 (pc := 75) (L := [some (.inr (.inr (some (12, 0)))), some (.inl a1), some (.inl a2), some (.inl a3), some (.inl a4), some (.inl a5), some (.inl a6), some (.inl a7)]) (st := []) (m' := m14) (v := none) rfl (k_X12_tellState d (by omega) a1 a6 a7 _ _ hv) ?_
            show mm_E (d + 1) 204 (75, [some (.inr (.inr (some (12, 0)))), some (.inl a1), some (.inl a2), some (.inl a3), some (.inl a4), some (.inl a5), some (.inl a6), some (.inl a7)], [], m14) (.inl (some (.inl r.1)), r.2, 0, 0)
            refine e_steps 3 (s' := (79, [some (.inr (.inr (some (12, 0)))), some (.inl a1), some (.inl a2), some (.inl a3), some (.inl a4), some (.inl a5), some (.inl a6), some (.inl a7)], [.inl a5, .inl a1, .inr (.inr (some (12, 0)))], m14)) rfl ?_
            refine e_join (fun k16 => ∀ (w15 : Int32), k16 w15 = some r → mm_E (d + 1) 204 (96, [some (.inr (.inr (some (12, 0)))), some (.inl a1), none, some (.inl a3), some (.inl a4), some (.inl a5), some (.inl a6), none], [.inl w15, .inl a1, .inr (.inr (some (12, 0)))], m14) (.inl (some (.inl r.1)), r.2, 0, 0)) hres (fun w15 hres => ?_) (fun k16 hk16 hres => ?_)
            · refine e_steps 6 (s' := (105, [some (.inr (.inr (some (12, 0)))), some (.inl a1), none, some (.inl a3), some (.inl a4), some (.inl a5), some (.inl a6), none], [.inl a6, .inl a1, .inr (.inr (some (12, 0))), .inl a5, .inl a4, .inl a3, .inl w15, .inl a1, .inr (.inr (some (12, 0)))], m14)) rfl ?_
              obtain ⟨r17, hv, hres⟩ := mm_b1_some hres
              refine e_call0 (pc := 108) (L := [some (.inr (.inr (some (12, 0)))), some (.inl a1), none, some (.inl a3), some (.inl a4), some (.inl a5), some (.inl a6), none]) (st := [.inl a5, .inl a4, .inl a3, .inl w15, .inl a1, .inr (.inr (some (12, 0)))]) (m' := m14) (v := some (.inl r17)) rfl (k_X12_ageOn d (by omega) a1 a6 _ _ hv) ?_
              show mm_E (d + 1) 204 (108, [some (.inr (.inr (some (12, 0)))), some (.inl a1), none, some (.inl a3), some (.inl a4), some (.inl a5), some (.inl a6), none], [.inl r17, .inl a5, .inl a4, .inl a3, .inl w15, .inl a1, .inr (.inr (some (12, 0)))], m14) (.inl (some (.inl r.1)), r.2, 0, 0)
              obtain ⟨r18, m19, hv, hres⟩ := mm_b2_some hres
              refine e_call0 (pc := 111) (L := [some (.inr (.inr (some (12, 0)))), some (.inl a1), none, some (.inl a3), some (.inl a4), some (.inl a5), some (.inl a6), none]) (st := []) (m' := m19) (v := some (.inl r18)) rfl (k_X12_through d (by omega) a1 w15 a3 a4 a5 r17 _ _ hv) ?_
              show mm_E (d + 1) 204 (111, [some (.inr (.inr (some (12, 0)))), some (.inl a1), none, some (.inl a3), some (.inl a4), some (.inl a5), some (.inl a6), none], [.inl r18], m19) (.inl (some (.inl r.1)), r.2, 0, 0)
              obtain rfl := Option.some.inj hres
              exact e_ret rfl rfl
            · refine e_if (s1 := (93, [some (.inr (.inr (some (12, 0)))), some (.inl a1), some (.inl a2), some (.inl a3), some (.inl a4), some (.inl a5), some (.inl a6), some (.inl a7)], [.inl a1, .inr (.inr (some (12, 0)))], m14)) (s2 := (82, [some (.inr (.inr (some (12, 0)))), some (.inl a1), some (.inl a2), some (.inl a3), some (.inl a4), some (.inl a5), some (.inl a6), some (.inl a7)], [.inl a1, .inr (.inr (some (12, 0)))], m14)) rfl hres (fun hc hres => ?_) (fun hc hres => ?_)
              · refine e_steps 3 (s' := (96, [some (.inr (.inr (some (12, 0)))), some (.inl a1), some (.inl a2), some (.inl a3), some (.inl a4), some (.inl a5), some (.inl a6), some (.inl a7)], [.inl (a2 + 1), .inl a1, .inr (.inr (some (12, 0)))], m14)) rfl ?_
                exact e_mask (L' := [some (.inr (.inr (some (12, 0)))), some (.inl a1), none, some (.inl a3), some (.inl a4), some (.inl a5), some (.inl a6), none]) rfl (hk16 _ hres)
              · refine e_steps 3 (s' := (87, [some (.inr (.inr (some (12, 0)))), some (.inl a1), some (.inl a2), some (.inl a3), some (.inl a4), some (.inl a5), some (.inl a6), some (.inl a7)], [.inl a1, .inr (.inr (some (67, 0))), .inl a1, .inr (.inr (some (12, 0)))], m14)) rfl ?_
                refine e_gd (s1 := (88, [some (.inr (.inr (some (12, 0)))), some (.inl a1), some (.inl a2), some (.inl a3), some (.inl a4), some (.inl a5), some (.inl a6), some (.inl a7)], [.inl (m14 67 0 a1.toNatClampNeg), .inl a1, .inr (.inr (some (12, 0)))], m14)) rfl hres (fun hc hres => ?_)
                refine e_steps 3 (s' := (96, [some (.inr (.inr (some (12, 0)))), some (.inl a1), some (.inl a2), some (.inl a3), some (.inl a4), some (.inl a5), some (.inl a6), some (.inl a7)], [.inl ((m14 67 0 a1.toNatClampNeg) - a2), .inl a1, .inr (.inr (some (12, 0)))], m14)) rfl ?_
                exact e_mask (L' := [some (.inr (.inr (some (12, 0)))), some (.inl a1), none, some (.inl a3), some (.inl a4), some (.inl a5), some (.inl a6), none]) rfl (hk16 _ hres)
          · refine e_mask (L' := [some (.inr (.inr (some (12, 0)))), none, none, none, none, none, none, none]) rfl ?_
            refine e_steps 2 (s' := (62, [some (.inr (.inr (some (12, 0)))), none, none, none, none, none, none, none], [.inl 2, .inr (.inr (some (12, 0)))], m1)) rfl ?_
            obtain ⟨r20, m21, hv, hres⟩ := mm_b2_some hres
            refine e_call0 (pc := 65) (L := [some (.inr (.inr (some (12, 0)))), none, none, none, none, none, none, none]) (st := []) (m' := m21) (v := some (.inl r20)) rfl (k_X12_fail d (by omega) 2 _ _ hv) ?_
            show mm_E (d + 1) 204 (65, [some (.inr (.inr (some (12, 0)))), none, none, none, none, none, none, none], [.inl r20], m21) (.inl (some (.inl r.1)), r.2, 0, 0)
            obtain rfl := Option.some.inj hres
            exact e_ret rfl rfl
      · refine e_mask (L' := [some (.inr (.inr (some (12, 0)))), none, none, none, none, none, none, none]) rfl ?_
        refine e_steps 2 (s' := (35, [some (.inr (.inr (some (12, 0)))), none, none, none, none, none, none, none], [.inl 1, .inr (.inr (some (12, 0)))], m1)) rfl ?_
        obtain ⟨r22, m23, hv, hres⟩ := mm_b2_some hres
        refine e_call0 (pc := 38) (L := [some (.inr (.inr (some (12, 0)))), none, none, none, none, none, none, none]) (st := []) (m' := m23) (v := some (.inl r22)) rfl (k_X12_fail d (by omega) 1 _ _ hv) ?_
        show mm_E (d + 1) 204 (38, [some (.inr (.inr (some (12, 0)))), none, none, none, none, none, none, none], [.inl r22], m23) (.inl (some (.inl r.1)), r.2, 0, 0)
        obtain rfl := Option.some.inj hres
        exact e_ret rfl rfl
/-- GlassThreadsModel.noise(III)I -/
def f_X12_noise (a1 : Int32) (a2 : Int32) (a3 : Int32) (m : mm_M) : Option (Int32 × mm_M) :=
(mm_b1 (mm_loop (σ := Int32 × Int32 × mm_M) (ρ := (Int32 × mm_M)) (fun (s : Int32 × Int32 × mm_M) => match s with
| (v2, v3, m4) => (if mm_in a1 9 then (
if (m4 67 0 a1.toNatClampNeg) ≤ v3 then (some (.inr (v2, m4)))
else (if mm_in ((24 * a1) + v3) 216 then (
if (m4 69 0 ((24 * a1) + v3).toNatClampNeg) ≠ 3 then (mm_let (v3 + 1) fun v5 =>
some (.inl (v2, v5, m4)))
else (if mm_in v3 24 then (
if (m4 90 0 v3.toNatClampNeg) ≠ 0 then (mm_let (v3 + 1) fun v6 =>
some (.inl (v2, v6, m4)))
else (mm_b2 (f_X12_lossOf ((24 * a1) + v3) a2 a3 m4) fun r7 m8 =>
mm_let (v2 + r7) fun v9 =>
mm_let (v3 + 1) fun v10 =>
some (.inl (v9, v10, m8)))) else none)) else none)) else none : Option ((Int32 × Int32 × mm_M) ⊕ ((Int32 × mm_M))))) mm_fu (0, 0, m)) fun t => match t with
| (v11, m12) => some (v11, m12))
set_option maxHeartbeats 4000000 in
set_option maxRecDepth 100000 in
theorem k_X12_noise (d : Nat) (hd : 3 ≤ d) (a1 : Int32) (a2 : Int32) (a3 : Int32) (m : mm_M) (r : Int32 × mm_M) (hres : f_X12_noise a1 a2 a3 m = some r) : mm_X d 205 [.inr (.inr (some (12, 0))), .inl a1, .inl a2, .inl a3] m (.inl (some (.inl r.1)), r.2, 0, 0) := by
  unfold f_X12_noise at hres
  obtain ⟨d, rfl⟩ : ∃ e, d = e + 1 := ⟨d - 1, by omega⟩
  show mm_E (d + 1) 205 (0, [some (.inr (.inr (some (12, 0)))), some (.inl a1), some (.inl a2), some (.inl a3), none, none], [], m) (.inl (some (.inl r.1)), r.2, 0, 0)
  refine e_steps 4 (s' := (6, [some (.inr (.inr (some (12, 0)))), some (.inl a1), some (.inl a2), some (.inl a3), some (.inl 0), some (.inl 0)], [], m)) rfl ?_
  refine e_mask (L' := [some (.inr (.inr (some (12, 0)))), some (.inl a1), some (.inl a2), some (.inl a3), some (.inl 0), some (.inl 0)]) rfl ?_
  refine e_loopb (φ := fun s => (6, [some (.inr (.inr (some (12, 0)))), some (.inl a1), some (.inl a2), some (.inl a3), some (.inl s.1), some (.inl s.2.1)], [], s.2.2)) (K := fun t => mm_E (d + 1) 205 (67, [none, none, none, none, some (.inl t.1), none], [], t.2) (.inl (some (.inl r.1)), r.2, 0, 0)) hres (fun t hres => ?_) (fun s ol1 hres hcl1 hxl1 => ?_)
  · obtain ⟨v11, m12⟩ := t
    show mm_E (d + 1) 205 (67, [none, none, none, none, some (.inl v11), none], [], m12) (.inl (some (.inl r.1)), r.2, 0, 0)
    refine e_steps 1 (s' := (69, [none, none, none, none, some (.inl v11), none], [.inl v11], m12)) rfl ?_
    obtain rfl := Option.some.inj hres
    exact e_ret rfl rfl
  · obtain ⟨v2, v3, m4⟩ := s
    show mm_E (d + 1) 205 (6, [some (.inr (.inr (some (12, 0)))), some (.inl a1), some (.inl a2), some (.inl a3), some (.inl v2), some (.inl v3)], [], m4) (.inl (some (.inl r.1)), r.2, 0, 0)
    refine e_steps 4 (s' := (13, [some (.inr (.inr (some (12, 0)))), some (.inl a1), some (.inl a2), some (.inl a3), some (.inl v2), some (.inl v3)], [.inl a1, .inr (.inr (some (67, 0))), .inl v3], m4)) rfl ?_
    refine e_gd (s1 := (14, [some (.inr (.inr (some (12, 0)))), some (.inl a1), some (.inl a2), some (.inl a3), some (.inl v2), some (.inl v3)], [.inl (m4 67 0 a1.toNatClampNeg), .inl v3], m4)) rfl hres (fun hc hres => ?_)
    refine e_if (s1 := (67, [some (.inr (.inr (some (12, 0)))), some (.inl a1), some (.inl a2), some (.inl a3), some (.inl v2), some (.inl v3)], [], m4)) (s2 := (17, [some (.inr (.inr (some (12, 0)))), some (.inl a1), some (.inl a2), some (.inl a3), some (.inl v2), some (.inl v3)], [], m4)) rfl hres (fun hc hres => ?_) (fun hc hres => ?_)
    · obtain rfl := Option.some.inj hres
      exact e_mask (L' := [none, none, none, none, some (.inl v2), none]) rfl (hxl1 _ rfl)
    · refine e_steps 7 (s' := (28, [some (.inr (.inr (some (12, 0)))), some (.inl a1), some (.inl a2), some (.inl a3), some (.inl v2), some (.inl v3)], [.inl ((24 * a1) + v3), .inr (.inr (some (69, 0)))], m4)) rfl ?_
      refine e_gd (s1 := (29, [some (.inr (.inr (some (12, 0)))), some (.inl a1), some (.inl a2), some (.inl a3), some (.inl v2), some (.inl v3)], [.inl (m4 69 0 ((24 * a1) + v3).toNatClampNeg)], m4)) rfl hres (fun hc hres => ?_)
      refine e_steps 1 (s' := (30, [some (.inr (.inr (some (12, 0)))), some (.inl a1), some (.inl a2), some (.inl a3), some (.inl v2), some (.inl v3)], [.inl 3, .inl (m4 69 0 ((24 * a1) + v3).toNatClampNeg)], m4)) rfl ?_
      refine e_if (s1 := (61, [some (.inr (.inr (some (12, 0)))), some (.inl a1), some (.inl a2), some (.inl a3), some (.inl v2), some (.inl v3)], [], m4)) (s2 := (33, [some (.inr (.inr (some (12, 0)))), some (.inl a1), some (.inl a2), some (.inl a3), some (.inl v2), some (.inl v3)], [], m4)) rfl hres (fun hc hres => ?_) (fun hc hres => ?_)
      · refine e_steps 1 (s' := (64, [some (.inr (.inr (some (12, 0)))), some (.inl a1), some (.inl a2), some (.inl a3), some (.inl v2), some (.inl (v3 + 1))], [], m4)) rfl ?_
        refine e_let (fun (v5 : Int32) => (64, [some (.inr (.inr (some (12, 0)))), some (.inl a1), some (.inl a2), some (.inl a3), some (.inl v2), some (.inl v5)], [], m4)) hres (fun v5 hres => ?_)
        refine e_steps 1 (s' := (6, [some (.inr (.inr (some (12, 0)))), some (.inl a1), some (.inl a2), some (.inl a3), some (.inl v2), some (.inl v5)], [], m4)) rfl ?_
        obtain rfl := Option.some.inj hres
        exact e_mask (L' := [some (.inr (.inr (some (12, 0)))), some (.inl a1), some (.inl a2), some (.inl a3), some (.inl v2), some (.inl v5)]) rfl (hcl1 _ rfl)
      · refine e_steps 3 (s' := (39, [some (.inr (.inr (some (12, 0)))), some (.inl a1), some (.inl a2), some (.inl a3), some (.inl v2), some (.inl v3)], [.inl v3, .inr (.inr (some (90, 0)))], m4)) rfl ?_
        refine e_gd (s1 := (40, [some (.inr (.inr (some (12, 0)))), some (.inl a1), some (.inl a2), some (.inl a3), some (.inl v2), some (.inl v3)], [.inl (m4 90 0 v3.toNatClampNeg)], m4)) rfl hres (fun hc hres => ?_)
        refine e_if (s1 := (61, [some (.inr (.inr (some (12, 0)))), some (.inl a1), some (.inl a2), some (.inl a3), some (.inl v2), some (.inl v3)], [], m4)) (s2 := (43, [some (.inr (.inr (some (12, 0)))), some (.inl a1), some (.inl a2), some (.inl a3), some (.inl v2), some (.inl v3)], [], m4)) rfl hres (fun hc hres => ?_) (fun hc hres => ?_)
        · refine e_steps 1 (s' := (64, [some (.inr (.inr (some (12, 0)))), some (.inl a1), some (.inl a2), some (.inl a3), some (.inl v2), some (.inl (v3 + 1))], [], m4)) rfl ?_
          refine e_let (fun (v6 : Int32) => (64, [some (.inr (.inr (some (12, 0)))), some (.inl a1), some (.inl a2), some (.inl a3), some (.inl v2), some (.inl v6)], [], m4)) hres (fun v6 hres => ?_)
          refine e_steps 1 (s' := (6, [some (.inr (.inr (some (12, 0)))), some (.inl a1), some (.inl a2), some (.inl a3), some (.inl v2), some (.inl v6)], [], m4)) rfl ?_
          obtain rfl := Option.some.inj hres
          exact e_mask (L' := [some (.inr (.inr (some (12, 0)))), some (.inl a1), some (.inl a2), some (.inl a3), some (.inl v2), some (.inl v6)]) rfl (hcl1 _ rfl)
        · refine e_steps 9 (s' := (55, [some (.inr (.inr (some (12, 0)))), some (.inl a1), some (.inl a2), some (.inl a3), some (.inl v2), some (.inl v3)], [.inl a3, .inl a2, .inl ((24 * a1) + v3), .inr (.inr (some (12, 0))), .inl v2], m4)) rfl ?_
          obtain ⟨r7, m8, hv, hres⟩ := mm_b2_some hres
          refine e_call0 (pc := 58) (L := [some (.inr (.inr (some (12, 0)))), some (.inl a1), some (.inl a2), some (.inl a3), some (.inl v2), some (.inl v3)]) (st := [.inl v2]) (m' := m8) (v := some (.inl r7)) rfl (k_X12_lossOf d (by omega) ((24 * a1) + v3) a2 a3 _ _ hv) ?_
          show mm_E (d + 1) 205 (58, [some (.inr (.inr (some (12, 0)))), some (.inl a1), some (.inl a2), some (.inl a3), some (.inl v2), some (.inl v3)], [.inl r7, .inl v2], m8) (.inl (some (.inl r.1)), r.2, 0, 0)
          refine e_steps 2 (s' := (61, [some (.inr (.inr (some (12, 0)))), some (.inl a1), some (.inl a2), some (.inl a3), some (.inl (v2 + r7)), some (.inl v3)], [], m8)) rfl ?_
          refine e_let (fun (v9 : Int32) => (61, [some (.inr (.inr (some (12, 0)))), some (.inl a1), some (.inl a2), some (.inl a3), some (.inl v9), some (.inl v3)], [], m8)) hres (fun v9 hres => ?_)
          refine e_steps 1 (s' := (64, [some (.inr (.inr (some (12, 0)))), some (.inl a1), some (.inl a2), some (.inl a3), some (.inl v9), some (.inl (v3 + 1))], [], m8)) rfl ?_
          refine e_let (fun (v10 : Int32) => (64, [some (.inr (.inr (some (12, 0)))), some (.inl a1), some (.inl a2), some (.inl a3), some (.inl v9), some (.inl v10)], [], m8)) hres (fun v10 hres => ?_)
          refine e_steps 1 (s' := (6, [some (.inr (.inr (some (12, 0)))), some (.inl a1), some (.inl a2), some (.inl a3), some (.inl v9), some (.inl v10)], [], m8)) rfl ?_
          obtain rfl := Option.some.inj hres
          exact e_mask (L' := [some (.inr (.inr (some (12, 0)))), some (.inl a1), some (.inl a2), some (.inl a3), some (.inl v9), some (.inl v10)]) rfl (hcl1 _ rfl)
/-- GlassThreadsModel.marginOf(IIIII)I -/
def f_X12_marginOf (a1 : Int32) (a2 : Int32) (a3 : Int32) (a4 : Int32) (a5 : Int32) (m : mm_M) : Option (Int32 × mm_M) :=
if mm_in a1 9 then (
mm_b1 (f_X12_isDark a1 (m 67 0 a1.toNatClampNeg) 0 m) fun r1 =>
if r1 = 0 then (if mm_in a1 9 then (
mm_b2 (f_X12_through a1 (m 67 0 a1.toNatClampNeg) a2 a3 0 a5 m) fun r2 m3 =>
mm_b2 (f_X12_noise a1 a2 a5 m3) fun r4 m5 =>
some (((r2 - a4) - r4), m5)) else none)
else (some ((-1000000), m))) else none
set_option maxHeartbeats 4000000 in
set_option maxRecDepth 100000 in
theorem k_X12_marginOf (d : Nat) (hd : 4 ≤ d) (a1 : Int32) (a2 : Int32) (a3 : Int32) (a4 : Int32) (a5 : Int32) (m : mm_M) (r : Int32 × mm_M) (hres : f_X12_marginOf a1 a2 a3 a4 a5 m = some r) : mm_X d 206 [.inr (.inr (some (12, 0))), .inl a1, .inl a2, .inl a3, .inl a4, .inl a5] m (.inl (some (.inl r.1)), r.2, 0, 0) := by
  unfold f_X12_marginOf at hres
  obtain ⟨d, rfl⟩ : ∃ e, d = e + 1 := ⟨d - 1, by omega⟩
  show mm_E (d + 1) 206 (0, [some (.inr (.inr (some (12, 0)))), some (.inl a1), some (.inl a2), some (.inl a3), some (.inl a4), some (.inl a5)], [], m) (.inl (some (.inl r.1)), r.2, 0, 0)
  refine e_steps 5 (s' := (7, [some (.inr (.inr (some (12, 0)))), some (.inl a1), some (.inl a2), some (.inl a3), some (.inl a4), some (.inl a5)], [.inl a1, .inr (.inr (some (67, 0))), .inl a1, .inr (.inr (some (12, 0)))], m)) rfl ?_
  refine e_gd (s1 := (8, [some (.inr (.inr (some (12, 0)))), some (.inl a1), some (.inl a2), some (.inl a3), some (.inl a4), some (.inl a5)], [.inl (m 67 0 a1.toNatClampNeg), .inl a1, .inr (.inr (some (12, 0)))], m)) rfl hres (fun hc hres => ?_)
  refine e_steps 1 (s' := (9, [some (.inr (.inr (some (12, 0)))), some (.inl a1), some (.inl a2), some (.inl a3), some (.inl a4), some (.inl a5)], [.inl 0, .inl (m 67 0 a1.toNatClampNeg), .inl a1, .inr (.inr (some (12, 0)))], m)) rfl ?_
  obtain ⟨r1, hv, hres⟩ := mm_b1_some hres
  refine e_call0 (pc := 12) (L := [some (.inr (.inr (some (12, 0)))), some (.inl a1), some (.inl a2), some (.inl a3), some (.inl a4), some (.inl a5)]) (st := []) (m' := m) (v := some (.inl r1)) rfl (k_X12_isDark d (by omega) a1 (m 67 0 a1.toNatClampNeg) 0 _ _ hv) ?_
  show mm_E (d + 1) 206 (12, [some (.inr (.inr (some (12, 0)))), some (.inl a1), some (.inl a2), some (.inl a3), some (.inl a4), some (.inl a5)], [.inl r1], m) (.inl (some (.inl r.1)), r.2, 0, 0)
  refine e_if (s1 := (19, [some (.inr (.inr (some (12, 0)))), some (.inl a1), some (.inl a2), some (.inl a3), some (.inl a4), some (.inl a5)], [], m)) (s2 := (15, [some (.inr (.inr (some (12, 0)))), some (.inl a1), some (.inl a2), some (.inl a3), some (.inl a4), some (.inl a5)], [], m)) rfl hres (fun hc hres => ?_) (fun hc hres => ?_)
  · refine e_steps 5 (s' := (26, [some (.inr (.inr (some (12, 0)))), some (.inl a1), some (.inl a2), some (.inl a3), some (.inl a4), some (.inl a5)], [.inl a1, .inr (.inr (some (67, 0))), .inl a1, .inr (.inr (some (12, 0)))], m)) rfl ?_
    refine e_gd (s1 := (27, [some (.inr (.inr (some (12, 0)))), some (.inl a1), some (.inl a2), some (.inl a3), some (.inl a4), some (.inl a5)], [.inl (m 67 0 a1.toNatClampNeg), .inl a1, .inr (.inr (some (12, 0)))], m)) rfl hres (fun hc hres => ?_)
    refine e_steps 4 (s' := (32, [some (.inr (.inr (some (12, 0)))), some (.inl a1), some (.inl a2), some (.inl a3), some (.inl a4), some (.inl a5)], [.inl a5, .inl 0, .inl a3, .inl a2, .inl (m 67 0 a1.toNatClampNeg), .inl a1, .inr (.inr (some (12, 0)))], m)) rfl ?_
    obtain ⟨r2, m3, hv, hres⟩ := mm_b2_some hres
    refine e_call0 (pc := 35) (L := [some (.inr (.inr (some (12, 0)))), some (.inl a1), some (.inl a2), some (.inl a3), some (.inl a4), some (.inl a5)]) (st := []) (m' := m3) (v := some (.inl r2)) rfl (k_X12_through d (by omega) a1 (m 67 0 a1.toNatClampNeg) a2 a3 0 a5 _ _ hv) ?_
    show mm_E (d + 1) 206 (35, [some (.inr (.inr (some (12, 0)))), some (.inl a1), some (.inl a2), some (.inl a3), some (.inl a4), some (.inl a5)], [.inl r2], m3) (.inl (some (.inl r.1)), r.2, 0, 0)
    refine e_steps 6 (s' := (43, [some (.inr (.inr (some (12, 0)))), some (.inl a1), some (.inl a2), some (.inl a3), some (.inl a4), some (.inl a5)], [.inl a5, .inl a2, .inl a1, .inr (.inr (some (12, 0))), .inl (r2 - a4)], m3)) rfl ?_
    obtain ⟨r4, m5, hv, hres⟩ := mm_b2_some hres
    refine e_call0 (pc := 46) (L := [some (.inr (.inr (some (12, 0)))), some (.inl a1), some (.inl a2), some (.inl a3), some (.inl a4), some (.inl a5)]) (st := [.inl (r2 - a4)]) (m' := m5) (v := some (.inl r4)) rfl (k_X12_noise d (by omega) a1 a2 a5 _ _ hv) ?_
    show mm_E (d + 1) 206 (46, [some (.inr (.inr (some (12, 0)))), some (.inl a1), some (.inl a2), some (.inl a3), some (.inl a4), some (.inl a5)], [.inl r4, .inl (r2 - a4)], m5) (.inl (some (.inl r.1)), r.2, 0, 0)
    refine e_steps 1 (s' := (47, [some (.inr (.inr (some (12, 0)))), some (.inl a1), some (.inl a2), some (.inl a3), some (.inl a4), some (.inl a5)], [.inl ((r2 - a4) - r4)], m5)) rfl ?_
    obtain rfl := Option.some.inj hres
    exact e_ret rfl rfl
  · refine e_steps 1 (s' := (18, [some (.inr (.inr (some (12, 0)))), some (.inl a1), some (.inl a2), some (.inl a3), some (.inl a4), some (.inl a5)], [.inl (-1000000)], m)) rfl ?_
    obtain rfl := Option.some.inj hres
    exact e_ret rfl rfl
/-- GlassThreadsModel.margin(IIIIII)I -/
def f_X12_margin (a1 : Int32) (a2 : Int32) (a3 : Int32) (a4 : Int32) (a5 : Int32) (a6 : Int32) (m : mm_M) : Option (Int32 × mm_M) :=
mm_let (mm_w m 12 0 3 0) fun m1 =>
mm_b1 (f_X12_isThread a1 m1) fun r2 =>
if r2 = 0 then (mm_b2 (f_X12_fail 1 m1) fun r3 m4 =>
some (r3, m4))
else (mm_b1 (f_X12_isColour a2 m1) fun r5 =>
if r5 = 0 then (mm_b2 (f_X12_fail 1 m1) fun r6 m7 =>
some (r6, m7))
else (mm_b1 (f_X12_isIn a5 0 36499 m1) fun r8 =>
if r8 ≠ 0 then (mm_b1 (f_X12_isLevel a3 m1) fun r9 =>
if r9 = 0 then (mm_b2 (f_X12_fail 2 m1) fun r10 m11 =>
some (r10, m11))
else (mm_b1 (f_X12_isLevel a4 m1) fun r12 =>
if r12 = 0 then (mm_b2 (f_X12_fail 2 m1) fun r13 m14 =>
some (r13, m14))
else (mm_b1 (f_X12_isIn a6 0 (m1 12 0 5) m1) fun r15 =>
if r15 ≠ 0 then (mm_b1 (f_X12_tellState a1 a5 a6 m1) fun m17 =>
mm_b1 (f_X12_ageOn a1 a5 m17) fun r18 =>
mm_b2 (f_X12_marginOf a1 a2 a3 a4 r18 m17) fun r19 m20 =>
some (r19, m20))
else (mm_b2 (f_X12_fail 2 m1) fun r21 m22 =>
some (r21, m22)))))
else (mm_b2 (f_X12_fail 1 m1) fun r23 m24 =>
some (r23, m24))))
set_option maxHeartbeats 4000000 in
set_option maxRecDepth 100000 in
theorem k_X12_margin (d : Nat) (hd : 5 ≤ d) (a1 : Int32) (a2 : Int32) (a3 : Int32) (a4 : Int32) (a5 : Int32) (a6 : Int32) (m : mm_M) (r : Int32 × mm_M) (hres : f_X12_margin a1 a2 a3 a4 a5 a6 m = some r) : mm_X d 207 [.inr (.inr (some (12, 0))), .inl a1, .inl a2, .inl a3, .inl a4, .inl a5, .inl a6] m (.inl (some (.inl r.1)), r.2, 0, 0) := by
  unfold f_X12_margin at hres
  obtain ⟨d, rfl⟩ : ∃ e, d = e + 1 := ⟨d - 1, by omega⟩
  show mm_E (d + 1) 207 (0, [some (.inr (.inr (some (12, 0)))), some (.inl a1), some (.inl a2), some (.inl a3), some (.inl a4), some (.inl a5), some (.inl a6)], [], m) (.inl (some (.inl r.1)), r.2, 0, 0)
  refine e_steps 3 (s' := (5, [some (.inr (.inr (some (12, 0)))), some (.inl a1), some (.inl a2), some (.inl a3), some (.inl a4), some (.inl a5), some (.inl a6)], [], (mm_w m 12 0 3 0))) rfl ?_
  refine e_let (fun (m1 : mm_M) => (5, [some (.inr (.inr (some (12, 0)))), some (.inl a1), some (.inl a2), some (.inl a3), some (.inl a4), some (.inl a5), some (.inl a6)], [], m1)) hres (fun m1 hres => ?_)
  refine e_steps 2 (s' := (7, [some (.inr (.inr (some (12, 0)))), some (.inl a1), some (.inl a2), some (.inl a3), some (.inl a4), some (.inl a5), some (.inl a6)], [.inl a1, .inr (.inr (some (12, 0)))], m1)) rfl ?_
  obtain ⟨r2, hv, hres⟩ := mm_b1_some hres
  refine e_call0 (pc := 10) (L := [some (.inr (.inr (some (12, 0)))), some (.inl a1), some (.inl a2), some (.inl a3), some (.inl a4), some (.inl a5), some (.inl a6)]) (st := []) (m' := m1) (v := some (.inl r2)) rfl (k_X12_isThread d (by omega) a1 _ _ hv) ?_
  show mm_E (d + 1) 207 (10, [some (.inr (.inr (some (12, 0)))), some (.inl a1), some (.inl a2), some (.inl a3), some (.inl a4), some (.inl a5), some (.inl a6)], [.inl r2], m1) (.inl (some (.inl r.1)), r.2, 0, 0)
  refine e_if (s1 := (32, [some (.inr (.inr (some (12, 0)))), some (.inl a1), some (.inl a2), some (.inl a3), some (.inl a4), some (.inl a5), some (.inl a6)], [], m1)) (s2 := (13, [some (.inr (.inr (some (12, 0)))), some (.inl a1), some (.inl a2), some (.inl a3), some (.inl a4), some (.inl a5), some (.inl a6)], [], m1)) rfl hres (fun hc hres => ?_) (fun hc hres => ?_)
  · refine e_mask (L' := [some (.inr (.inr (some (12, 0)))), none, none, none, none, none, none]) rfl ?_
    refine e_steps 2 (s' := (34, [some (.inr (.inr (some (12, 0)))), none, none, none, none, none, none], [.inl 1, .inr (.inr (some (12, 0)))], m1)) rfl ?_
    obtain ⟨r3, m4, hv, hres⟩ := mm_b2_some hres
    refine e_call0 (pc := 37) (L := [some (.inr (.inr (some (12, 0)))), none, none, none, none, none, none]) (st := []) (m' := m4) (v := some (.inl r3)) rfl (k_X12_fail d (by omega) 1 _ _ hv) ?_
    show mm_E (d + 1) 207 (37, [some (.inr (.inr (some (12, 0)))), none, none, none, none, none, none], [.inl r3], m4) (.inl (some (.inl r.1)), r.2, 0, 0)
    obtain rfl := Option.some.inj hres
    exact e_ret rfl rfl
  · refine e_steps 1 (s' := (14, [some (.inr (.inr (some (12, 0)))), some (.inl a1), some (.inl a2), some (.inl a3), some (.inl a4), some (.inl a5), some (.inl a6)], [.inl a2], m1)) rfl ?_
    obtain ⟨r5, hv, hres⟩ := mm_b1_some hres
    refine e_call0 (pc := 17) (L := [some (.inr (.inr (some (12, 0)))), some (.inl a1), some (.inl a2), some (.inl a3), some (.inl a4), some (.inl a5), some (.inl a6)]) (st := []) (m' := m1) (v := some (.inl r5)) rfl (k_X12_isColour d (by omega) a2 _ _ hv) ?_
    show mm_E (d + 1) 207 (17, [some (.inr (.inr (some (12, 0)))), some (.inl a1), some (.inl a2), some (.inl a3), some (.inl a4), some (.inl a5), some (.inl a6)], [.inl r5], m1) (.inl (some (.inl r.1)), r.2, 0, 0)
    refine e_if (s1 := (32, [some (.inr (.inr (some (12, 0)))), some (.inl a1), some (.inl a2), some (.inl a3), some (.inl a4), some (.inl a5), some (.inl a6)], [], m1)) (s2 := (20, [some (.inr (.inr (some (12, 0)))), some (.inl a1), some (.inl a2), some (.inl a3), some (.inl a4), some (.inl a5), some (.inl a6)], [], m1)) rfl hres (fun hc hres => ?_) (fun hc hres => ?_)
    · refine e_mask (L' := [some (.inr (.inr (some (12, 0)))), none, none, none, none, none, none]) rfl ?_
      refine e_steps 2 (s' := (34, [some (.inr (.inr (some (12, 0)))), none, none, none, none, none, none], [.inl 1, .inr (.inr (some (12, 0)))], m1)) rfl ?_
      obtain ⟨r6, m7, hv, hres⟩ := mm_b2_some hres
      refine e_call0 (pc := 37) (L := [some (.inr (.inr (some (12, 0)))), none, none, none, none, none, none]) (st := []) (m' := m7) (v := some (.inl r6)) rfl (k_X12_fail d (by omega) 1 _ _ hv) ?_
      show mm_E (d + 1) 207 (37, [some (.inr (.inr (some (12, 0)))), none, none, none, none, none, none], [.inl r6], m7) (.inl (some (.inl r.1)), r.2, 0, 0)
      obtain rfl := Option.some.inj hres
      exact e_ret rfl rfl
    · refine e_steps 3 (s' := (26, [some (.inr (.inr (some (12, 0)))), some (.inl a1), some (.inl a2), some (.inl a3), some (.inl a4), some (.inl a5), some (.inl a6)], [.inl 36499, .inl 0, .inl a5], m1)) rfl ?_
      obtain ⟨r8, hv, hres⟩ := mm_b1_some hres
      refine e_call0 (pc := 29) (L := [some (.inr (.inr (some (12, 0)))), some (.inl a1), some (.inl a2), some (.inl a3), some (.inl a4), some (.inl a5), some (.inl a6)]) (st := []) (m' := m1) (v := some (.inl r8)) rfl (k_X12_isIn d (by omega) a5 0 36499 _ _ hv) ?_
      show mm_E (d + 1) 207 (29, [some (.inr (.inr (some (12, 0)))), some (.inl a1), some (.inl a2), some (.inl a3), some (.inl a4), some (.inl a5), some (.inl a6)], [.inl r8], m1) (.inl (some (.inl r.1)), r.2, 0, 0)
      refine e_if (s1 := (38, [some (.inr (.inr (some (12, 0)))), some (.inl a1), some (.inl a2), some (.inl a3), some (.inl a4), some (.inl a5), some (.inl a6)], [], m1)) (s2 := (32, [some (.inr (.inr (some (12, 0)))), some (.inl a1), some (.inl a2), some (.inl a3), some (.inl a4), some (.inl a5), some (.inl a6)], [], m1)) rfl hres (fun hc hres => ?_) (fun hc hres => ?_)
      · refine e_steps 1 (s' := (39, [some (.inr (.inr (some (12, 0)))), some (.inl a1), some (.inl a2), some (.inl a3), some (.inl a4), some (.inl a5), some (.inl a6)], [.inl a3], m1)) rfl ?_
        obtain ⟨r9, hv, hres⟩ := mm_b1_some hres
        refine e_call0 (pc := 42) (L := [some (.inr (.inr (some (12, 0)))), some (.inl a1), some (.inl a2), some (.inl a3), some (.inl a4), some (.inl a5), some (.inl a6)]) (st := []) (m' := m1) (v := some (.inl r9)) rfl (k_X12_isLevel d (by omega) a3 _ _ hv) ?_
        show mm_E (d + 1) 207 (42, [some (.inr (.inr (some (12, 0)))), some (.inl a1), some (.inl a2), some (.inl a3), some (.inl a4), some (.inl a5), some (.inl a6)], [.inl r9], m1) (.inl (some (.inl r.1)), r.2, 0, 0)
        refine e_if (s1 := (66, [some (.inr (.inr (some (12, 0)))), some (.inl a1), some (.inl a2), some (.inl a3), some (.inl a4), some (.inl a5), some (.inl a6)], [], m1)) (s2 := (45, [some (.inr (.inr (some (12, 0)))), some (.inl a1), some (.inl a2), some (.inl a3), some (.inl a4), some (.inl a5), some (.inl a6)], [], m1)) rfl hres (fun hc hres => ?_) (fun hc hres => ?_)
        · refine e_mask (L' := [some (.inr (.inr (some (12, 0)))), none, none, none, none, none, none]) rfl ?_
          refine e_steps 2 (s' := (68, [some (.inr (.inr (some (12, 0)))), none, none, none, none, none, none], [.inl 2, .inr (.inr (some (12, 0)))], m1)) rfl ?_
          obtain ⟨r10, m11, hv, hres⟩ := mm_b2_some hres
          refine e_call0 (pc := 71) (L := [some (.inr (.inr (some (12, 0)))), none, none, none, none, none, none]) (st := []) (m' := m11) (v := some (.inl r10)) rfl (k_X12_fail d (by omega) 2 _ _ hv) ?_
          show mm_E (d + 1) 207 (71, [some (.inr (.inr (some (12, 0)))), none, none, none, none, none, none], [.inl r10], m11) (.inl (some (.inl r.1)), r.2, 0, 0)
          obtain rfl := Option.some.inj hres
          exact e_ret rfl rfl
        · refine e_steps 1 (s' := (47, [some (.inr (.inr (some (12, 0)))), some (.inl a1), some (.inl a2), some (.inl a3), some (.inl a4), some (.inl a5), some (.inl a6)], [.inl a4], m1)) rfl ?_
          obtain ⟨r12, hv, hres⟩ := mm_b1_some hres
          refine e_call0 (pc := 50) (L := [some (.inr (.inr (some (12, 0)))), some (.inl a1), some (.inl a2), some (.inl a3), some (.inl a4), some (.inl a5), some (.inl a6)]) (st := []) (m' := m1) (v := some (.inl r12)) rfl (k_X12_isLevel d (by omega) a4 _ _ hv) ?_
          show mm_E (d + 1) 207 (50, [some (.inr (.inr (some (12, 0)))), some (.inl a1), some (.inl a2), some (.inl a3), some (.inl a4), some (.inl a5), some (.inl a6)], [.inl r12], m1) (.inl (some (.inl r.1)), r.2, 0, 0)
          refine e_if (s1 := (66, [some (.inr (.inr (some (12, 0)))), some (.inl a1), some (.inl a2), some (.inl a3), some (.inl a4), some (.inl a5), some (.inl a6)], [], m1)) (s2 := (53, [some (.inr (.inr (some (12, 0)))), some (.inl a1), some (.inl a2), some (.inl a3), some (.inl a4), some (.inl a5), some (.inl a6)], [], m1)) rfl hres (fun hc hres => ?_) (fun hc hres => ?_)
          · refine e_mask (L' := [some (.inr (.inr (some (12, 0)))), none, none, none, none, none, none]) rfl ?_
            refine e_steps 2 (s' := (68, [some (.inr (.inr (some (12, 0)))), none, none, none, none, none, none], [.inl 2, .inr (.inr (some (12, 0)))], m1)) rfl ?_
            obtain ⟨r13, m14, hv, hres⟩ := mm_b2_some hres
            refine e_call0 (pc := 71) (L := [some (.inr (.inr (some (12, 0)))), none, none, none, none, none, none]) (st := []) (m' := m14) (v := some (.inl r13)) rfl (k_X12_fail d (by omega) 2 _ _ hv) ?_
            show mm_E (d + 1) 207 (71, [some (.inr (.inr (some (12, 0)))), none, none, none, none, none, none], [.inl r13], m14) (.inl (some (.inl r.1)), r.2, 0, 0)
            obtain rfl := Option.some.inj hres
            exact e_ret rfl rfl
          · refine e_steps 4 (s' := (60, [some (.inr (.inr (some (12, 0)))), some (.inl a1), some (.inl a2), some (.inl a3), some (.inl a4), some (.inl a5), some (.inl a6)], [.inl (m1 12 0 5), .inl 0, .inl a6], m1)) rfl ?_
            obtain ⟨r15, hv, hres⟩ := mm_b1_some hres
            refine e_call0 (pc := 63) (L := [some (.inr (.inr (some (12, 0)))), some (.inl a1), some (.inl a2), some (.inl a3), some (.inl a4), some (.inl a5), some (.inl a6)]) (st := []) (m' := m1) (v := some (.inl r15)) rfl (k_X12_isIn d (by omega) a6 0 (m1 12 0 5) _ _ hv) ?_
            show mm_E (d + 1) 207 (63, [some (.inr (.inr (some (12, 0)))), some (.inl a1), some (.inl a2), some (.inl a3), some (.inl a4), some (.inl a5), some (.inl a6)], [.inl r15], m1) (.inl (some (.inl r.1)), r.2, 0, 0)
            refine e_if (s1 := (72, [some (.inr (.inr (some (12, 0)))), some (.inl a1), some (.inl a2), some (.inl a3), some (.inl a4), some (.inl a5), some (.inl a6)], [], m1)) (s2 := (66, [some (.inr (.inr (some (12, 0)))), some (.inl a1), some (.inl a2), some (.inl a3), some (.inl a4), some (.inl a5), some (.inl a6)], [], m1)) rfl hres (fun hc hres => ?_) (fun hc hres => ?_)
            · refine e_steps 4 (s' := (78, [some (.inr (.inr (some (12, 0)))), some (.inl a1), some (.inl a2), some (.inl a3), some (.inl a4), some (.inl a5), some (.inl a6)], [.inl a6, .inl a5, .inl a1, .inr (.inr (some (12, 0)))], m1)) rfl ?_
              obtain ⟨m17, hv, hres⟩ := mm_b1_some hres
              refine e_call0 (pc := 81) (L := [some (.inr (.inr (some (12, 0)))), some (.inl a1), some (.inl a2), some (.inl a3), some (.inl a4), some (.inl a5), some (.inl a6)]) (st := []) (m' := m17) (v := none) rfl (k_X12_tellState d (by omega) a1 a5 a6 _ _ hv) ?_
              show mm_E (d + 1) 207 (81, [some (.inr (.inr (some (12, 0)))), some (.inl a1), some (.inl a2), some (.inl a3), some (.inl a4), some (.inl a5), some (.inl a6)], [], m17) (.inl (some (.inl r.1)), r.2, 0, 0)
              refine e_steps 8 (s' := (91, [some (.inr (.inr (some (12, 0)))), some (.inl a1), some (.inl a2), some (.inl a3), some (.inl a4), some (.inl a5), some (.inl a6)], [.inl a5, .inl a1, .inr (.inr (some (12, 0))), .inl a4, .inl a3, .inl a2, .inl a1, .inr (.inr (some (12, 0)))], m17)) rfl ?_
              obtain ⟨r18, hv, hres⟩ := mm_b1_some hres
              refine e_call0 (pc := 94) (L := [some (.inr (.inr (some (12, 0)))), some (.inl a1), some (.inl a2), some (.inl a3), some (.inl a4), some (.inl a5), some (.inl a6)]) (st := [.inl a4, .inl a3, .inl a2, .inl a1, .inr (.inr (some (12, 0)))]) (m' := m17) (v := some (.inl r18)) rfl (k_X12_ageOn d (by omega) a1 a5 _ _ hv) ?_
              show mm_E (d + 1) 207 (94, [some (.inr (.inr (some (12, 0)))), some (.inl a1), some (.inl a2), some (.inl a3), some (.inl a4), some (.inl a5), some (.inl a6)], [.inl r18, .inl a4, .inl a3, .inl a2, .inl a1, .inr (.inr (some (12, 0)))], m17) (.inl (some (.inl r.1)), r.2, 0, 0)
              obtain ⟨r19, m20, hv, hres⟩ := mm_b2_some hres
              refine e_call0 (pc := 97) (L := [some (.inr (.inr (some (12, 0)))), some (.inl a1), some (.inl a2), some (.inl a3), some (.inl a4), some (.inl a5), some (.inl a6)]) (st := []) (m' := m20) (v := some (.inl r19)) rfl (k_X12_marginOf d (by omega) a1 a2 a3 a4 r18 _ _ hv) ?_
              show mm_E (d + 1) 207 (97, [some (.inr (.inr (some (12, 0)))), some (.inl a1), some (.inl a2), some (.inl a3), some (.inl a4), some (.inl a5), some (.inl a6)], [.inl r19], m20) (.inl (some (.inl r.1)), r.2, 0, 0)
              obtain rfl := Option.some.inj hres
              exact e_ret rfl rfl
            · refine e_mask (L' := [some (.inr (.inr (some (12, 0)))), none, none, none, none, none, none]) rfl ?_
              refine e_steps 2 (s' := (68, [some (.inr (.inr (some (12, 0)))), none, none, none, none, none, none], [.inl 2, .inr (.inr (some (12, 0)))], m1)) rfl ?_
              obtain ⟨r21, m22, hv, hres⟩ := mm_b2_some hres
              refine e_call0 (pc := 71) (L := [some (.inr (.inr (some (12, 0)))), none, none, none, none, none, none]) (st := []) (m' := m22) (v := some (.inl r21)) rfl (k_X12_fail d (by omega) 2 _ _ hv) ?_
              show mm_E (d + 1) 207 (71, [some (.inr (.inr (some (12, 0)))), none, none, none, none, none, none], [.inl r21], m22) (.inl (some (.inl r.1)), r.2, 0, 0)
              obtain rfl := Option.some.inj hres
              exact e_ret rfl rfl
      · refine e_mask (L' := [some (.inr (.inr (some (12, 0)))), none, none, none, none, none, none]) rfl ?_
        refine e_steps 2 (s' := (34, [some (.inr (.inr (some (12, 0)))), none, none, none, none, none, none], [.inl 1, .inr (.inr (some (12, 0)))], m1)) rfl ?_
        obtain ⟨r23, m24, hv, hres⟩ := mm_b2_some hres
        refine e_call0 (pc := 37) (L := [some (.inr (.inr (some (12, 0)))), none, none, none, none, none, none]) (st := []) (m' := m24) (v := some (.inl r23)) rfl (k_X12_fail d (by omega) 1 _ _ hv) ?_
        show mm_E (d + 1) 207 (37, [some (.inr (.inr (some (12, 0)))), none, none, none, none, none, none], [.inl r23], m24) (.inl (some (.inl r.1)), r.2, 0, 0)
        obtain rfl := Option.some.inj hres
        exact e_ret rfl rfl
/-- GlassThreadsModel.tired(IIII)I -/
def f_X12_tired (a1 : Int32) (a2 : Int32) (a3 : Int32) (a4 : Int32) (m : mm_M) : Option (Int32 × mm_M) :=
mm_let (mm_w m 12 0 3 0) fun m1 =>
mm_b1 (f_X12_isThread a1 m1) fun r2 =>
if r2 = 0 then (mm_b2 (f_X12_fail 1 m1) fun r3 m4 =>
some (r3, m4))
else (mm_b1 (f_X12_isColour a2 m1) fun r5 =>
if r5 ≠ 0 then (mm_b1 (f_X12_isLevel a3 m1) fun r6 =>
if r6 = 0 then (mm_b2 (f_X12_fail 2 m1) fun r7 m8 =>
some (r7, m8))
else (mm_b1 (f_X12_isLevel a4 m1) fun r9 =>
if r9 ≠ 0 then (mm_b1 (f_X12_clear m1) fun m11 =>
if mm_in a1 8 then (
mm_let (m11 68 0 a1.toNatClampNeg) fun v12 =>
(mm_b1 (mm_loop (σ := Int32 × mm_M) (ρ := (Int32 × mm_M) ⊕ (mm_M)) (fun (s : Int32 × mm_M) => match s with
| (v14, m15) => (if 99 < v14 then (some (.inr (.inr m15)))
else (if mm_in a1 8 then (
mm_b2 (f_X12_marginOf a1 a2 a3 a4 (v14 - (m15 68 0 a1.toNatClampNeg)) m15) fun r16 m17 =>
if 0 ≤ r16 then (mm_let (v14 + 1) fun v18 =>
some (.inl (v18, m17)))
else (some (.inr (.inl (v14, m17))))) else none) : Option ((Int32 × mm_M) ⊕ ((Int32 × mm_M) ⊕ (mm_M))))) mm_fu (v12, m11)) fun t => match t with
| .inl (v19, m20) => some (v19, m20)
| .inr m21 => some ((-1), m21))) else none)
else (mm_b2 (f_X12_fail 2 m1) fun r22 m23 =>
some (r22, m23))))
else (mm_b2 (f_X12_fail 1 m1) fun r24 m25 =>
some (r24, m25)))
set_option maxHeartbeats 4000000 in
set_option maxRecDepth 100000 in
theorem k_X12_tired (d : Nat) (hd : 5 ≤ d) (a1 : Int32) (a2 : Int32) (a3 : Int32) (a4 : Int32) (m : mm_M) (r : Int32 × mm_M) (hres : f_X12_tired a1 a2 a3 a4 m = some r) : mm_X d 208 [.inr (.inr (some (12, 0))), .inl a1, .inl a2, .inl a3, .inl a4] m (.inl (some (.inl r.1)), r.2, 0, 0) := by
  unfold f_X12_tired at hres
  obtain ⟨d, rfl⟩ : ∃ e, d = e + 1 := ⟨d - 1, by omega⟩
  show mm_E (d + 1) 208 (0, [some (.inr (.inr (some (12, 0)))), some (.inl a1), some (.inl a2), some (.inl a3), some (.inl a4), none], [], m) (.inl (some (.inl r.1)), r.2, 0, 0)
  refine e_steps 3 (s' := (5, [some (.inr (.inr (some (12, 0)))), some (.inl a1), some (.inl a2), some (.inl a3), some (.inl a4), none], [], (mm_w m 12 0 3 0))) rfl ?_
  refine e_let (fun (m1 : mm_M) => (5, [some (.inr (.inr (some (12, 0)))), some (.inl a1), some (.inl a2), some (.inl a3), some (.inl a4), none], [], m1)) hres (fun m1 hres => ?_)
  refine e_steps 2 (s' := (7, [some (.inr (.inr (some (12, 0)))), some (.inl a1), some (.inl a2), some (.inl a3), some (.inl a4), none], [.inl a1, .inr (.inr (some (12, 0)))], m1)) rfl ?_
  obtain ⟨r2, hv, hres⟩ := mm_b1_some hres
  refine e_call0 (pc := 10) (L := [some (.inr (.inr (some (12, 0)))), some (.inl a1), some (.inl a2), some (.inl a3), some (.inl a4), none]) (st := []) (m' := m1) (v := some (.inl r2)) rfl (k_X12_isThread d (by omega) a1 _ _ hv) ?_
  show mm_E (d + 1) 208 (10, [some (.inr (.inr (some (12, 0)))), some (.inl a1), some (.inl a2), some (.inl a3), some (.inl a4), none], [.inl r2], m1) (.inl (some (.inl r.1)), r.2, 0, 0)
  refine e_if (s1 := (20, [some (.inr (.inr (some (12, 0)))), some (.inl a1), some (.inl a2), some (.inl a3), some (.inl a4), none], [], m1)) (s2 := (13, [some (.inr (.inr (some (12, 0)))), some (.inl a1), some (.inl a2), some (.inl a3), some (.inl a4), none], [], m1)) rfl hres (fun hc hres => ?_) (fun hc hres => ?_)
  · refine e_mask (L' := [some (.inr (.inr (some (12, 0)))), none, none, none, none, none]) rfl ?_
    refine e_steps 2 (s' := (22, [some (.inr (.inr (some (12, 0)))), none, none, none, none, none], [.inl 1, .inr (.inr (some (12, 0)))], m1)) rfl ?_
    obtain ⟨r3, m4, hv, hres⟩ := mm_b2_some hres
    refine e_call0 (pc := 25) (L := [some (.inr (.inr (some (12, 0)))), none, none, none, none, none]) (st := []) (m' := m4) (v := some (.inl r3)) rfl (k_X12_fail d (by omega) 1 _ _ hv) ?_
    show mm_E (d + 1) 208 (25, [some (.inr (.inr (some (12, 0)))), none, none, none, none, none], [.inl r3], m4) (.inl (some (.inl r.1)), r.2, 0, 0)
    obtain rfl := Option.some.inj hres
    exact e_ret rfl rfl
  · refine e_steps 1 (s' := (14, [some (.inr (.inr (some (12, 0)))), some (.inl a1), some (.inl a2), some (.inl a3), some (.inl a4), none], [.inl a2], m1)) rfl ?_
    obtain ⟨r5, hv, hres⟩ := mm_b1_some hres
    refine e_call0 (pc := 17) (L := [some (.inr (.inr (some (12, 0)))), some (.inl a1), some (.inl a2), some (.inl a3), some (.inl a4), none]) (st := []) (m' := m1) (v := some (.inl r5)) rfl (k_X12_isColour d (by omega) a2 _ _ hv) ?_
    show mm_E (d + 1) 208 (17, [some (.inr (.inr (some (12, 0)))), some (.inl a1), some (.inl a2), some (.inl a3), some (.inl a4), none], [.inl r5], m1) (.inl (some (.inl r.1)), r.2, 0, 0)
    refine e_if (s1 := (26, [some (.inr (.inr (some (12, 0)))), some (.inl a1), some (.inl a2), some (.inl a3), some (.inl a4), none], [], m1)) (s2 := (20, [some (.inr (.inr (some (12, 0)))), some (.inl a1), some (.inl a2), some (.inl a3), some (.inl a4), none], [], m1)) rfl hres (fun hc hres => ?_) (fun hc hres => ?_)
    · refine e_steps 1 (s' := (27, [some (.inr (.inr (some (12, 0)))), some (.inl a1), some (.inl a2), some (.inl a3), some (.inl a4), none], [.inl a3], m1)) rfl ?_
      obtain ⟨r6, hv, hres⟩ := mm_b1_some hres
      refine e_call0 (pc := 30) (L := [some (.inr (.inr (some (12, 0)))), some (.inl a1), some (.inl a2), some (.inl a3), some (.inl a4), none]) (st := []) (m' := m1) (v := some (.inl r6)) rfl (k_X12_isLevel d (by omega) a3 _ _ hv) ?_
      show mm_E (d + 1) 208 (30, [some (.inr (.inr (some (12, 0)))), some (.inl a1), some (.inl a2), some (.inl a3), some (.inl a4), none], [.inl r6], m1) (.inl (some (.inl r.1)), r.2, 0, 0)
      refine e_if (s1 := (41, [some (.inr (.inr (some (12, 0)))), some (.inl a1), some (.inl a2), some (.inl a3), some (.inl a4), none], [], m1)) (s2 := (33, [some (.inr (.inr (some (12, 0)))), some (.inl a1), some (.inl a2), some (.inl a3), some (.inl a4), none], [], m1)) rfl hres (fun hc hres => ?_) (fun hc hres => ?_)
      · refine e_mask (L' := [some (.inr (.inr (some (12, 0)))), none, none, none, none, none]) rfl ?_
        refine e_steps 2 (s' := (43, [some (.inr (.inr (some (12, 0)))), none, none, none, none, none], [.inl 2, .inr (.inr (some (12, 0)))], m1)) rfl ?_
        obtain ⟨r7, m8, hv, hres⟩ := mm_b2_some hres
        refine e_call0 (pc := 46) (L := [some (.inr (.inr (some (12, 0)))), none, none, none, none, none]) (st := []) (m' := m8) (v := some (.inl r7)) rfl (k_X12_fail d (by omega) 2 _ _ hv) ?_
        show mm_E (d + 1) 208 (46, [some (.inr (.inr (some (12, 0)))), none, none, none, none, none], [.inl r7], m8) (.inl (some (.inl r.1)), r.2, 0, 0)
        obtain rfl := Option.some.inj hres
        exact e_ret rfl rfl
      · refine e_steps 1 (s' := (35, [some (.inr (.inr (some (12, 0)))), some (.inl a1), some (.inl a2), some (.inl a3), some (.inl a4), none], [.inl a4], m1)) rfl ?_
        obtain ⟨r9, hv, hres⟩ := mm_b1_some hres
        refine e_call0 (pc := 38) (L := [some (.inr (.inr (some (12, 0)))), some (.inl a1), some (.inl a2), some (.inl a3), some (.inl a4), none]) (st := []) (m' := m1) (v := some (.inl r9)) rfl (k_X12_isLevel d (by omega) a4 _ _ hv) ?_
        show mm_E (d + 1) 208 (38, [some (.inr (.inr (some (12, 0)))), some (.inl a1), some (.inl a2), some (.inl a3), some (.inl a4), none], [.inl r9], m1) (.inl (some (.inl r.1)), r.2, 0, 0)
        refine e_if (s1 := (47, [some (.inr (.inr (some (12, 0)))), some (.inl a1), some (.inl a2), some (.inl a3), some (.inl a4), none], [], m1)) (s2 := (41, [some (.inr (.inr (some (12, 0)))), some (.inl a1), some (.inl a2), some (.inl a3), some (.inl a4), none], [], m1)) rfl hres (fun hc hres => ?_) (fun hc hres => ?_)
        · refine e_steps 1 (s' := (48, [some (.inr (.inr (some (12, 0)))), some (.inl a1), some (.inl a2), some (.inl a3), some (.inl a4), none], [.inr (.inr (some (12, 0)))], m1)) rfl ?_
          obtain ⟨m11, hv, hres⟩ := mm_b1_some hres
          refine e_call0 (pc := 51) (L := [some (.inr (.inr (some (12, 0)))), some (.inl a1), some (.inl a2), some (.inl a3), some (.inl a4), none]) (st := []) (m' := m11) (v := none) rfl (k_X12_clear d (by omega)  _ _ hv) ?_
          show mm_E (d + 1) 208 (51, [some (.inr (.inr (some (12, 0)))), some (.inl a1), some (.inl a2), some (.inl a3), some (.inl a4), none], [], m11) (.inl (some (.inl r.1)), r.2, 0, 0)
          refine e_steps 3 (s' := (56, [some (.inr (.inr (some (12, 0)))), some (.inl a1), some (.inl a2), some (.inl a3), some (.inl a4), none], [.inl a1, .inr (.inr (some (68, 0)))], m11)) rfl ?_
          refine e_gd (s1 := (57, [some (.inr (.inr (some (12, 0)))), some (.inl a1), some (.inl a2), some (.inl a3), some (.inl a4), none], [.inl (m11 68 0 a1.toNatClampNeg)], m11)) rfl hres (fun hc hres => ?_)
          refine e_steps 1 (s' := (59, [some (.inr (.inr (some (12, 0)))), some (.inl a1), some (.inl a2), some (.inl a3), some (.inl a4), some (.inl (m11 68 0 a1.toNatClampNeg))], [], m11)) rfl ?_
          refine e_let (fun (v12 : Int32) => (59, [some (.inr (.inr (some (12, 0)))), some (.inl a1), some (.inl a2), some (.inl a3), some (.inl a4), some (.inl v12)], [], m11)) hres (fun v12 hres => ?_)
          refine e_mask (L' := [some (.inr (.inr (some (12, 0)))), some (.inl a1), some (.inl a2), some (.inl a3), some (.inl a4), some (.inl v12)]) rfl ?_
          refine e_loopb (φ := fun s => (59, [some (.inr (.inr (some (12, 0)))), some (.inl a1), some (.inl a2), some (.inl a3), some (.inl a4), some (.inl s.1)], [], s.2)) (K := fun t => match t with | .inl t => mm_E (d + 1) 208 (87, [none, none, none, none, none, some (.inl t.1)], [], t.2) (.inl (some (.inl r.1)), r.2, 0, 0) | .inr t => mm_E (d + 1) 208 (96, [none, none, none, none, none, none], [], t) (.inl (some (.inl r.1)), r.2, 0, 0)) hres (fun t hres => ?_) (fun s ol13 hres hcl13 hxl13 => ?_)
          · rcases t with ⟨v19, m20⟩ | m21
            · show mm_E (d + 1) 208 (87, [none, none, none, none, none, some (.inl v19)], [], m20) (.inl (some (.inl r.1)), r.2, 0, 0)
              refine e_steps 1 (s' := (89, [none, none, none, none, none, some (.inl v19)], [.inl v19], m20)) rfl ?_
              obtain rfl := Option.some.inj hres
              exact e_ret rfl rfl
            · show mm_E (d + 1) 208 (96, [none, none, none, none, none, none], [], m21) (.inl (some (.inl r.1)), r.2, 0, 0)
              refine e_steps 1 (s' := (97, [none, none, none, none, none, none], [.inl (-1)], m21)) rfl ?_
              obtain rfl := Option.some.inj hres
              exact e_ret rfl rfl
          · obtain ⟨v14, m15⟩ := s
            show mm_E (d + 1) 208 (59, [some (.inr (.inr (some (12, 0)))), some (.inl a1), some (.inl a2), some (.inl a3), some (.inl a4), some (.inl v14)], [], m15) (.inl (some (.inl r.1)), r.2, 0, 0)
            refine e_steps 2 (s' := (63, [some (.inr (.inr (some (12, 0)))), some (.inl a1), some (.inl a2), some (.inl a3), some (.inl a4), some (.inl v14)], [.inl 99, .inl v14], m15)) rfl ?_
            refine e_if (s1 := (96, [some (.inr (.inr (some (12, 0)))), some (.inl a1), some (.inl a2), some (.inl a3), some (.inl a4), some (.inl v14)], [], m15)) (s2 := (66, [some (.inr (.inr (some (12, 0)))), some (.inl a1), some (.inl a2), some (.inl a3), some (.inl a4), some (.inl v14)], [], m15)) rfl hres (fun hc hres => ?_) (fun hc hres => ?_)
            · obtain rfl := Option.some.inj hres
              exact e_mask (L' := [none, none, none, none, none, none]) rfl (hxl13 _ rfl)
            · refine e_steps 9 (s' := (79, [some (.inr (.inr (some (12, 0)))), some (.inl a1), some (.inl a2), some (.inl a3), some (.inl a4), some (.inl v14)], [.inl a1, .inr (.inr (some (68, 0))), .inl v14, .inl a4, .inl a3, .inl a2, .inl a1, .inr (.inr (some (12, 0)))], m15)) rfl ?_
              refine e_gd (s1 := (80, [some (.inr (.inr (some (12, 0)))), some (.inl a1), some (.inl a2), some (.inl a3), some (.inl a4), some (.inl v14)], [.inl (m15 68 0 a1.toNatClampNeg), .inl v14, .inl a4, .inl a3, .inl a2, .inl a1, .inr (.inr (some (12, 0)))], m15)) rfl hres (fun hc hres => ?_)
              refine e_steps 1 (s' := (81, [some (.inr (.inr (some (12, 0)))), some (.inl a1), some (.inl a2), some (.inl a3), some (.inl a4), some (.inl v14)], [.inl (v14 - (m15 68 0 a1.toNatClampNeg)), .inl a4, .inl a3, .inl a2, .inl a1, .inr (.inr (some (12, 0)))], m15)) rfl ?_
              obtain ⟨r16, m17, hv, hres⟩ := mm_b2_some hres
              refine e_call0 (pc := 84) (L := [some (.inr (.inr (some (12, 0)))), some (.inl a1), some (.inl a2), some (.inl a3), some (.inl a4), some (.inl v14)]) (st := []) (m' := m17) (v := some (.inl r16)) rfl (k_X12_marginOf d (by omega) a1 a2 a3 a4 (v14 - (m15 68 0 a1.toNatClampNeg)) _ _ hv) ?_
              show mm_E (d + 1) 208 (84, [some (.inr (.inr (some (12, 0)))), some (.inl a1), some (.inl a2), some (.inl a3), some (.inl a4), some (.inl v14)], [.inl r16], m17) (.inl (some (.inl r.1)), r.2, 0, 0)
              refine e_if (s1 := (90, [some (.inr (.inr (some (12, 0)))), some (.inl a1), some (.inl a2), some (.inl a3), some (.inl a4), some (.inl v14)], [], m17)) (s2 := (87, [some (.inr (.inr (some (12, 0)))), some (.inl a1), some (.inl a2), some (.inl a3), some (.inl a4), some (.inl v14)], [], m17)) rfl hres (fun hc hres => ?_) (fun hc hres => ?_)
              · refine e_steps 1 (s' := (93, [some (.inr (.inr (some (12, 0)))), some (.inl a1), some (.inl a2), some (.inl a3), some (.inl a4), some (.inl (v14 + 1))], [], m17)) rfl ?_
                refine e_let (fun (v18 : Int32) => (93, [some (.inr (.inr (some (12, 0)))), some (.inl a1), some (.inl a2), some (.inl a3), some (.inl a4), some (.inl v18)], [], m17)) hres (fun v18 hres => ?_)
                refine e_steps 1 (s' := (59, [some (.inr (.inr (some (12, 0)))), some (.inl a1), some (.inl a2), some (.inl a3), some (.inl a4), some (.inl v18)], [], m17)) rfl ?_
                obtain rfl := Option.some.inj hres
                exact e_mask (L' := [some (.inr (.inr (some (12, 0)))), some (.inl a1), some (.inl a2), some (.inl a3), some (.inl a4), some (.inl v18)]) rfl (hcl13 _ rfl)
              · obtain rfl := Option.some.inj hres
                exact e_mask (L' := [none, none, none, none, none, some (.inl v14)]) rfl (hxl13 _ rfl)
        · refine e_mask (L' := [some (.inr (.inr (some (12, 0)))), none, none, none, none, none]) rfl ?_
          refine e_steps 2 (s' := (43, [some (.inr (.inr (some (12, 0)))), none, none, none, none, none], [.inl 2, .inr (.inr (some (12, 0)))], m1)) rfl ?_
          obtain ⟨r22, m23, hv, hres⟩ := mm_b2_some hres
          refine e_call0 (pc := 46) (L := [some (.inr (.inr (some (12, 0)))), none, none, none, none, none]) (st := []) (m' := m23) (v := some (.inl r22)) rfl (k_X12_fail d (by omega) 2 _ _ hv) ?_
          show mm_E (d + 1) 208 (46, [some (.inr (.inr (some (12, 0)))), none, none, none, none, none], [.inl r22], m23) (.inl (some (.inl r.1)), r.2, 0, 0)
          obtain rfl := Option.some.inj hres
          exact e_ret rfl rfl
    · refine e_mask (L' := [some (.inr (.inr (some (12, 0)))), none, none, none, none, none]) rfl ?_
      refine e_steps 2 (s' := (22, [some (.inr (.inr (some (12, 0)))), none, none, none, none, none], [.inl 1, .inr (.inr (some (12, 0)))], m1)) rfl ?_
      obtain ⟨r24, m25, hv, hres⟩ := mm_b2_some hres
      refine e_call0 (pc := 25) (L := [some (.inr (.inr (some (12, 0)))), none, none, none, none, none]) (st := []) (m' := m25) (v := some (.inl r24)) rfl (k_X12_fail d (by omega) 1 _ _ hv) ?_
      show mm_E (d + 1) 208 (25, [some (.inr (.inr (some (12, 0)))), none, none, none, none, none], [.inl r24], m25) (.inl (some (.inl r.1)), r.2, 0, 0)
      obtain rfl := Option.some.inj hres
      exact e_ret rfl rfl
/-- GlassThreadsModel.dead(I)I -/
def f_X12_dead (a1 : Int32) (m : mm_M) : Option (Int32 × mm_M) :=
mm_let (mm_w m 12 0 3 0) fun m1 =>
mm_b1 (f_X12_isIn a1 0 99 m1) fun r2 =>
if r2 ≠ 0 then (mm_let (m1 12 0 43) fun v3 =>
mm_let (mm_w m1 12 0 43 a1) fun m4 =>
some (v3, m4))
else (mm_b2 (f_X12_fail 1 m1) fun r5 m6 =>
some (r5, m6))
set_option maxHeartbeats 4000000 in
set_option maxRecDepth 100000 in
theorem k_X12_dead (d : Nat) (hd : 1 ≤ d) (a1 : Int32) (m : mm_M) (r : Int32 × mm_M) (hres : f_X12_dead a1 m = some r) : mm_X d 209 [.inr (.inr (some (12, 0))), .inl a1] m (.inl (some (.inl r.1)), r.2, 0, 0) := by
  unfold f_X12_dead at hres
  obtain ⟨d, rfl⟩ : ∃ e, d = e + 1 := ⟨d - 1, by omega⟩
  show mm_E (d + 1) 209 (0, [some (.inr (.inr (some (12, 0)))), some (.inl a1), none], [], m) (.inl (some (.inl r.1)), r.2, 0, 0)
  refine e_steps 3 (s' := (5, [some (.inr (.inr (some (12, 0)))), some (.inl a1), none], [], (mm_w m 12 0 3 0))) rfl ?_
  refine e_let (fun (m1 : mm_M) => (5, [some (.inr (.inr (some (12, 0)))), some (.inl a1), none], [], m1)) hres (fun m1 hres => ?_)
  refine e_steps 3 (s' := (9, [some (.inr (.inr (some (12, 0)))), some (.inl a1), none], [.inl 99, .inl 0, .inl a1], m1)) rfl ?_
  obtain ⟨r2, hv, hres⟩ := mm_b1_some hres
  refine e_call0 (pc := 12) (L := [some (.inr (.inr (some (12, 0)))), some (.inl a1), none]) (st := []) (m' := m1) (v := some (.inl r2)) rfl (k_X12_isIn d (by omega) a1 0 99 _ _ hv) ?_
  show mm_E (d + 1) 209 (12, [some (.inr (.inr (some (12, 0)))), some (.inl a1), none], [.inl r2], m1) (.inl (some (.inl r.1)), r.2, 0, 0)
  refine e_if (s1 := (21, [some (.inr (.inr (some (12, 0)))), some (.inl a1), none], [], m1)) (s2 := (15, [some (.inr (.inr (some (12, 0)))), some (.inl a1), none], [], m1)) rfl hres (fun hc hres => ?_) (fun hc hres => ?_)
  · refine e_steps 3 (s' := (26, [some (.inr (.inr (some (12, 0)))), some (.inl a1), some (.inl (m1 12 0 43))], [], m1)) rfl ?_
    refine e_let (fun (v3 : Int32) => (26, [some (.inr (.inr (some (12, 0)))), some (.inl a1), some (.inl v3)], [], m1)) hres (fun v3 hres => ?_)
    refine e_steps 3 (s' := (31, [some (.inr (.inr (some (12, 0)))), some (.inl a1), some (.inl v3)], [], (mm_w m1 12 0 43 a1))) rfl ?_
    refine e_let (fun (m4 : mm_M) => (31, [some (.inr (.inr (some (12, 0)))), some (.inl a1), some (.inl v3)], [], m4)) hres (fun m4 hres => ?_)
    refine e_steps 1 (s' := (32, [some (.inr (.inr (some (12, 0)))), some (.inl a1), some (.inl v3)], [.inl v3], m4)) rfl ?_
    obtain rfl := Option.some.inj hres
    exact e_ret rfl rfl
  · refine e_steps 2 (s' := (17, [some (.inr (.inr (some (12, 0)))), some (.inl a1), none], [.inl 1, .inr (.inr (some (12, 0)))], m1)) rfl ?_
    obtain ⟨r5, m6, hv, hres⟩ := mm_b2_some hres
    refine e_call0 (pc := 20) (L := [some (.inr (.inr (some (12, 0)))), some (.inl a1), none]) (st := []) (m' := m6) (v := some (.inl r5)) rfl (k_X12_fail d (by omega) 1 _ _ hv) ?_
    show mm_E (d + 1) 209 (20, [some (.inr (.inr (some (12, 0)))), some (.inl a1), none], [.inl r5], m6) (.inl (some (.inl r.1)), r.2, 0, 0)
    obtain rfl := Option.some.inj hres
    exact e_ret rfl rfl
/-- GlassThreadsModel.addStep(IIII)V -/
def f_X12_addStep (a1 : Int32) (a2 : Int32) (a3 : Int32) (a4 : Int32) (m : mm_M) : Option (mm_M) :=
if mm_in (m 12 0 44) 60 then (
mm_let (mm_w m 91 0 ((m 12 0 44).toNatClampNeg) a1) fun m1 =>
if mm_in (m1 12 0 44) 60 then (
mm_let (mm_w m1 92 0 ((m1 12 0 44).toNatClampNeg) a2) fun m2 =>
if mm_in (m2 12 0 44) 60 then (
mm_let (mm_w m2 93 0 ((m2 12 0 44).toNatClampNeg) a3) fun m3 =>
if mm_in (m3 12 0 44) 60 then (
mm_let (mm_w m3 94 0 ((m3 12 0 44).toNatClampNeg) a4) fun m4 =>
mm_let (mm_w m4 12 0 44 ((m4 12 0 44) + 1)) fun m5 =>
some m5) else none) else none) else none) else none
set_option maxHeartbeats 4000000 in
set_option maxRecDepth 100000 in
theorem k_X12_addStep (d : Nat) (hd : 0 ≤ d) (a1 : Int32) (a2 : Int32) (a3 : Int32) (a4 : Int32) (m : mm_M) (r : mm_M) (hres : f_X12_addStep a1 a2 a3 a4 m = some r) : mm_X d 210 [.inr (.inr (some (12, 0))), .inl a1, .inl a2, .inl a3, .inl a4] m (.inl none, r, 0, 0) := by
  unfold f_X12_addStep at hres
  show mm_E d 210 (0, [some (.inr (.inr (some (12, 0)))), some (.inl a1), some (.inl a2), some (.inl a3), some (.inl a4)], [], m) (.inl none, r, 0, 0)
  refine e_steps 5 (s' := (9, [some (.inr (.inr (some (12, 0)))), some (.inl a1), some (.inl a2), some (.inl a3), some (.inl a4)], [.inl a1, .inl (m 12 0 44), .inr (.inr (some (91, 0)))], m)) rfl ?_
  refine e_gd (s1 := (10, [some (.inr (.inr (some (12, 0)))), some (.inl a1), some (.inl a2), some (.inl a3), some (.inl a4)], [], (mm_w m 91 0 ((m 12 0 44).toNatClampNeg) a1))) rfl hres (fun hc hres => ?_)
  refine e_let (fun (m1 : mm_M) => (10, [some (.inr (.inr (some (12, 0)))), some (.inl a1), some (.inl a2), some (.inl a3), some (.inl a4)], [], m1)) hres (fun m1 hres => ?_)
  refine e_steps 5 (s' := (19, [some (.inr (.inr (some (12, 0)))), some (.inl a1), some (.inl a2), some (.inl a3), some (.inl a4)], [.inl a2, .inl (m1 12 0 44), .inr (.inr (some (92, 0)))], m1)) rfl ?_
  refine e_gd (s1 := (20, [some (.inr (.inr (some (12, 0)))), some (.inl a1), some (.inl a2), some (.inl a3), some (.inl a4)], [], (mm_w m1 92 0 ((m1 12 0 44).toNatClampNeg) a2))) rfl hres (fun hc hres => ?_)
  refine e_let (fun (m2 : mm_M) => (20, [some (.inr (.inr (some (12, 0)))), some (.inl a1), some (.inl a2), some (.inl a3), some (.inl a4)], [], m2)) hres (fun m2 hres => ?_)
  refine e_steps 5 (s' := (29, [some (.inr (.inr (some (12, 0)))), some (.inl a1), some (.inl a2), some (.inl a3), some (.inl a4)], [.inl a3, .inl (m2 12 0 44), .inr (.inr (some (93, 0)))], m2)) rfl ?_
  refine e_gd (s1 := (30, [some (.inr (.inr (some (12, 0)))), some (.inl a1), some (.inl a2), some (.inl a3), some (.inl a4)], [], (mm_w m2 93 0 ((m2 12 0 44).toNatClampNeg) a3))) rfl hres (fun hc hres => ?_)
  refine e_let (fun (m3 : mm_M) => (30, [some (.inr (.inr (some (12, 0)))), some (.inl a1), some (.inl a2), some (.inl a3), some (.inl a4)], [], m3)) hres (fun m3 hres => ?_)
  refine e_steps 5 (s' := (40, [some (.inr (.inr (some (12, 0)))), some (.inl a1), some (.inl a2), some (.inl a3), some (.inl a4)], [.inl a4, .inl (m3 12 0 44), .inr (.inr (some (94, 0)))], m3)) rfl ?_
  refine e_gd (s1 := (41, [some (.inr (.inr (some (12, 0)))), some (.inl a1), some (.inl a2), some (.inl a3), some (.inl a4)], [], (mm_w m3 94 0 ((m3 12 0 44).toNatClampNeg) a4))) rfl hres (fun hc hres => ?_)
  refine e_let (fun (m4 : mm_M) => (41, [some (.inr (.inr (some (12, 0)))), some (.inl a1), some (.inl a2), some (.inl a3), some (.inl a4)], [], m4)) hres (fun m4 hres => ?_)
  refine e_steps 6 (s' := (51, [some (.inr (.inr (some (12, 0)))), some (.inl a1), some (.inl a2), some (.inl a3), some (.inl a4)], [], (mm_w m4 12 0 44 ((m4 12 0 44) + 1)))) rfl ?_
  refine e_let (fun (m5 : mm_M) => (51, [some (.inr (.inr (some (12, 0)))), some (.inl a1), some (.inl a2), some (.inl a3), some (.inl a4)], [], m5)) hres (fun m5 hres => ?_)
  obtain rfl := Option.some.inj hres
  exact e_ret rfl rfl
/-- GlassThreadsModel.tellSteps(IIZI)V -/
def f_X12_tellSteps (a1 : Int32) (a2 : Int32) (a3 : Int32) (a4 : Int32) (m : mm_M) : Option (mm_M) :=
mm_let (mm_w m 12 0 44 0) fun m1 =>
mm_let (mm_w m1 12 0 58 0) fun m2 =>
(mm_b1 (mm_loop (σ := Int32 × mm_M) (ρ := (mm_M) ⊕ (Int32 × mm_M) ⊕ (mm_M)) (fun (s : Int32 × mm_M) => match s with
| (v4, m5) => (if mm_in a1 9 then (
if (m5 67 0 a1.toNatClampNeg) ≤ v4 then (some (.inr (.inr (.inr m5))))
else (mm_let (fun (w6 : Int32) => (mm_let ((24 * a1) + w6) fun v8 =>
if mm_in v8 216 then (
if (m5 69 0 v8.toNatClampNeg) ≠ 3 then (if mm_in v8 216 then (
if (m5 69 0 v8.toNatClampNeg) = 0 then (if mm_in w6 24 then (
mm_let (fun (w9 : Int32) => (mm_let (fun (w11 : Int32) => (if mm_in v8 216 then (
mm_let ((m5 70 0 v8.toNatClampNeg) / 2) fun v13 =>
if mm_in w6 24 then (
mm_let (fun (m14 : mm_M) => (if w9 = 0 then (if mm_in v8 216 then (
mm_let (mm_w m14 12 0 58 ((m14 12 0 58) + (m14 70 0 v8.toNatClampNeg))) fun m16 =>
mm_let (v4 + 1) fun v17 =>
some (.inl (v17, m16))) else none)
else (some (.inr (.inr (.inl (w11, m14))))) : Option ((Int32 × mm_M) ⊕ ((mm_M) ⊕ (Int32 × mm_M) ⊕ (mm_M))))) fun k15 =>
if (m5 87 0 w6.toNatClampNeg) ≤ 0 then (k15 m5)
else (mm_let ((if mm_in w6 24 then (
mm_b1 (f_X12_addStep ((m5 12 0 58) + v13) (m5 87 0 w6.toNatClampNeg) 0 0 m5) fun m20 =>
k15 m20) else none : Option ((Int32 × mm_M) ⊕ ((mm_M) ⊕ (Int32 × mm_M) ⊕ (mm_M))))) fun k18 =>
if w9 = 0 then (k18)
else (if w11 < v13 then (k15 m5)
else (k18)))) else none) else none : Option ((Int32 × mm_M) ⊕ ((mm_M) ⊕ (Int32 × mm_M) ⊕ (mm_M))))) fun k12 =>
if a3 = 0 then (if mm_in w6 24 then (
k12 (m5 88 0 w6.toNatClampNeg)) else none)
else (if mm_in v8 216 then (
if mm_in w6 24 then (
k12 ((m5 70 0 v8.toNatClampNeg) - (m5 88 0 w6.toNatClampNeg))) else none) else none) : Option ((Int32 × mm_M) ⊕ ((mm_M) ⊕ (Int32 × mm_M) ⊕ (mm_M))))) fun k10 =>
if (m5 88 0 w6.toNatClampNeg) = (-1) then (k10 0)
else (k10 1)) else none)
else (mm_b2 (f_X12_lossOf v8 a2 a4 m5) fun r21 m22 =>
if mm_in v8 216 then (
if mm_in v8 216 then (
if (m22 69 0 v8.toNatClampNeg) ≠ 2 then (mm_b1 (f_X12_addStep (m5 12 0 58) r21 (m22 69 0 v8.toNatClampNeg) 0 m22) fun m24 =>
mm_let (v4 + 1) fun v25 =>
some (.inl (v25, m24)))
else (if mm_in v8 216 then (
mm_b1 (f_X12_addStep (m5 12 0 58) r21 (m22 69 0 v8.toNatClampNeg) (m22 70 0 v8.toNatClampNeg) m22) fun m27 =>
mm_let (v4 + 1) fun v28 =>
some (.inl (v28, m27))) else none)) else none) else none)) else none)
else (some (.inr (.inl m5)))) else none : Option ((Int32 × mm_M) ⊕ ((mm_M) ⊕ (Int32 × mm_M) ⊕ (mm_M))))) fun k7 =>
if a3 = 0 then (k7 v4)
else (if mm_in a1 9 then (
k7 (((m5 67 0 a1.toNatClampNeg) - 1) - v4)) else none))) else none : Option ((Int32 × mm_M) ⊕ ((mm_M) ⊕ (Int32 × mm_M) ⊕ (mm_M))))) mm_fu (0, m2)) fun t => match t with
| .inl m29 => some m29
| .inr (.inl (v30, m31)) => mm_let (mm_w m31 12 0 58 ((m31 12 0 58) + v30)) fun m32 =>
mm_b1 (f_X12_addStep (m32 12 0 58) 0 3 0 m32) fun m34 =>
some m34
| .inr (.inr m35) => some m35)
set_option maxHeartbeats 4000000 in
set_option maxRecDepth 100000 in
theorem k_X12_tellSteps (d : Nat) (hd : 3 ≤ d) (a1 : Int32) (a2 : Int32) (a3 : Int32) (a4 : Int32) (m : mm_M) (r : mm_M) (hres : f_X12_tellSteps a1 a2 a3 a4 m = some r) : mm_X d 211 [.inr (.inr (some (12, 0))), .inl a1, .inl a2, .inl a3, .inl a4] m (.inl none, r, 0, 0) := by
  unfold f_X12_tellSteps at hres
  obtain ⟨d, rfl⟩ : ∃ e, d = e + 1 := ⟨d - 1, by omega⟩
  show mm_E (d + 1) 211 (0, [some (.inr (.inr (some (12, 0)))), some (.inl a1), some (.inl a2), some (.inl a3), some (.inl a4), none, none, none, none, none, none], [], m) (.inl none, r, 0, 0)
  refine e_steps 3 (s' := (5, [some (.inr (.inr (some (12, 0)))), some (.inl a1), some (.inl a2), some (.inl a3), some (.inl a4), none, none, none, none, none, none], [], (mm_w m 12 0 44 0))) rfl ?_
  refine e_let (fun (m1 : mm_M) => (5, [some (.inr (.inr (some (12, 0)))), some (.inl a1), some (.inl a2), some (.inl a3), some (.inl a4), none, none, none, none, none, none], [], m1)) hres (fun m1 hres => ?_)
  refine e_steps 3 (s' := (10, [some (.inr (.inr (some (12, 0)))), some (.inl a1), some (.inl a2), some (.inl a3), some (.inl a4), none, none, none, none, none, none], [], (mm_w m1 12 0 58 0))) rfl ?_
  refine e_let (fun (m2 : mm_M) => (10, [some (.inr (.inr (some (12, 0)))), some (.inl a1), some (.inl a2), some (.inl a3), some (.inl a4), none, none, none, none, none, none], [], m2)) hres (fun m2 hres => ?_)
  refine e_steps 2 (s' := (13, [some (.inr (.inr (some (12, 0)))), some (.inl a1), some (.inl a2), some (.inl a3), some (.inl a4), some (.inl 0), none, none, none, none, none], [], m2)) rfl ?_
  refine e_mask (L' := [some (.inr (.inr (some (12, 0)))), some (.inl a1), some (.inl a2), some (.inl a3), some (.inl a4), some (.inl 0), none, none, none, none, none]) rfl ?_
  refine e_loopb (φ := fun s => (13, [some (.inr (.inr (some (12, 0)))), some (.inl a1), some (.inl a2), some (.inl a3), some (.inl a4), some (.inl s.1), none, none, none, none, none], [], s.2)) (K := fun t => match t with | .inl t => mm_E (d + 1) 211 (66, [none, none, none, none, none, none, none, none, none, none, none], [], t) (.inl none, r, 0, 0) | .inr (.inl t) => mm_E (d + 1) 211 (233, [some (.inr (.inr (some (12, 0)))), none, none, none, none, none, none, none, none, some (.inl t.1), none], [], t.2) (.inl none, r, 0, 0) | .inr (.inr t) => mm_E (d + 1) 211 (278, [none, none, none, none, none, none, none, none, none, none, none], [], t) (.inl none, r, 0, 0)) hres (fun t hres => ?_) (fun s ol3 hres hcl3 hxl3 => ?_)
  · rcases t with m29 | ⟨v30, m31⟩ | m35
    · show mm_E (d + 1) 211 (66, [none, none, none, none, none, none, none, none, none, none, none], [], m29) (.inl none, r, 0, 0)
      obtain rfl := Option.some.inj hres
      exact e_ret rfl rfl
    · show mm_E (d + 1) 211 (233, [some (.inr (.inr (some (12, 0)))), none, none, none, none, none, none, none, none, some (.inl v30), none], [], m31) (.inl none, r, 0, 0)
      refine e_steps 6 (s' := (244, [some (.inr (.inr (some (12, 0)))), none, none, none, none, none, none, none, none, some (.inl v30), none], [], (mm_w m31 12 0 58 ((m31 12 0 58) + v30)))) rfl ?_
      refine e_let (fun (m32 : mm_M) => (244, [some (.inr (.inr (some (12, 0)))), none, none, none, none, none, none, none, none, some (.inl v30), none], [], m32)) hres (fun m32 hres => ?_)
      refine e_steps 6 (s' := (252, [some (.inr (.inr (some (12, 0)))), none, none, none, none, none, none, none, none, some (.inl v30), none], [.inl 0, .inl 3, .inl 0, .inl (m32 12 0 58), .inr (.inr (some (12, 0)))], m32)) rfl ?_
      obtain ⟨m34, hv, hres⟩ := mm_b1_some hres
      refine e_call0 (pc := 255) (L := [some (.inr (.inr (some (12, 0)))), none, none, none, none, none, none, none, none, some (.inl v30), none]) (st := []) (m' := m34) (v := none) rfl (k_X12_addStep d (by omega) (m32 12 0 58) 0 3 0 _ _ hv) ?_
      show mm_E (d + 1) 211 (255, [some (.inr (.inr (some (12, 0)))), none, none, none, none, none, none, none, none, some (.inl v30), none], [], m34) (.inl none, r, 0, 0)
      obtain rfl := Option.some.inj hres
      exact e_ret rfl rfl
    · show mm_E (d + 1) 211 (278, [none, none, none, none, none, none, none, none, none, none, none], [], m35) (.inl none, r, 0, 0)
      obtain rfl := Option.some.inj hres
      exact e_ret rfl rfl
  · obtain ⟨v4, m5⟩ := s
    show mm_E (d + 1) 211 (13, [some (.inr (.inr (some (12, 0)))), some (.inl a1), some (.inl a2), some (.inl a3), some (.inl a4), some (.inl v4), none, none, none, none, none], [], m5) (.inl none, r, 0, 0)
    refine e_steps 4 (s' := (20, [some (.inr (.inr (some (12, 0)))), some (.inl a1), some (.inl a2), some (.inl a3), some (.inl a4), some (.inl v4), none, none, none, none, none], [.inl a1, .inr (.inr (some (67, 0))), .inl v4], m5)) rfl ?_
    refine e_gd (s1 := (21, [some (.inr (.inr (some (12, 0)))), some (.inl a1), some (.inl a2), some (.inl a3), some (.inl a4), some (.inl v4), none, none, none, none, none], [.inl (m5 67 0 a1.toNatClampNeg), .inl v4], m5)) rfl hres (fun hc hres => ?_)
    refine e_if (s1 := (278, [some (.inr (.inr (some (12, 0)))), some (.inl a1), some (.inl a2), some (.inl a3), some (.inl a4), some (.inl v4), none, none, none, none, none], [], m5)) (s2 := (24, [some (.inr (.inr (some (12, 0)))), some (.inl a1), some (.inl a2), some (.inl a3), some (.inl a4), some (.inl v4), none, none, none, none, none], [], m5)) rfl hres (fun hc hres => ?_) (fun hc hres => ?_)
    · obtain rfl := Option.some.inj hres
      exact e_mask (L' := [none, none, none, none, none, none, none, none, none, none, none]) rfl (hxl3 _ rfl)
    · refine e_steps 1 (s' := (25, [some (.inr (.inr (some (12, 0)))), some (.inl a1), some (.inl a2), some (.inl a3), some (.inl a4), some (.inl v4), none, none, none, none, none], [.inl a3], m5)) rfl ?_
      refine e_join (fun k7 => ∀ (w6 : Int32), k7 w6 = some ol3 → mm_E (d + 1) 211 (44, [some (.inr (.inr (some (12, 0)))), some (.inl a1), some (.inl a2), some (.inl a3), some (.inl a4), some (.inl v4), none, none, none, none, none], [.inl w6], m5) (.inl none, r, 0, 0)) hres (fun w6 hres => ?_) (fun k7 hk7 hres => ?_)
      · refine e_steps 7 (s' := (55, [some (.inr (.inr (some (12, 0)))), some (.inl a1), some (.inl a2), some (.inl a3), some (.inl a4), some (.inl v4), some (.inl w6), some (.inl ((24 * a1) + w6)), none, none, none], [], m5)) rfl ?_
        refine e_let (fun (v8 : Int32) => (55, [some (.inr (.inr (some (12, 0)))), some (.inl a1), some (.inl a2), some (.inl a3), some (.inl a4), some (.inl v4), some (.inl w6), some (.inl v8), none, none, none], [], m5)) hres (fun v8 hres => ?_)
        refine e_steps 3 (s' := (61, [some (.inr (.inr (some (12, 0)))), some (.inl a1), some (.inl a2), some (.inl a3), some (.inl a4), some (.inl v4), some (.inl w6), some (.inl v8), none, none, none], [.inl v8, .inr (.inr (some (69, 0)))], m5)) rfl ?_
        refine e_gd (s1 := (62, [some (.inr (.inr (some (12, 0)))), some (.inl a1), some (.inl a2), some (.inl a3), some (.inl a4), some (.inl v4), some (.inl w6), some (.inl v8), none, none, none], [.inl (m5 69 0 v8.toNatClampNeg)], m5)) rfl hres (fun hc hres => ?_)
        refine e_steps 1 (s' := (63, [some (.inr (.inr (some (12, 0)))), some (.inl a1), some (.inl a2), some (.inl a3), some (.inl a4), some (.inl v4), some (.inl w6), some (.inl v8), none, none, none], [.inl 3, .inl (m5 69 0 v8.toNatClampNeg)], m5)) rfl ?_
        refine e_if (s1 := (67, [some (.inr (.inr (some (12, 0)))), some (.inl a1), some (.inl a2), some (.inl a3), some (.inl a4), some (.inl v4), some (.inl w6), some (.inl v8), none, none, none], [], m5)) (s2 := (66, [some (.inr (.inr (some (12, 0)))), some (.inl a1), some (.inl a2), some (.inl a3), some (.inl a4), some (.inl v4), some (.inl w6), some (.inl v8), none, none, none], [], m5)) rfl hres (fun hc hres => ?_) (fun hc hres => ?_)
        · refine e_steps 3 (s' := (73, [some (.inr (.inr (some (12, 0)))), some (.inl a1), some (.inl a2), some (.inl a3), some (.inl a4), some (.inl v4), some (.inl w6), some (.inl v8), none, none, none], [.inl v8, .inr (.inr (some (69, 0)))], m5)) rfl ?_
          refine e_gd (s1 := (74, [some (.inr (.inr (some (12, 0)))), some (.inl a1), some (.inl a2), some (.inl a3), some (.inl a4), some (.inl v4), some (.inl w6), some (.inl v8), none, none, none], [.inl (m5 69 0 v8.toNatClampNeg)], m5)) rfl hres (fun hc hres => ?_)
          refine e_if (s1 := (126, [some (.inr (.inr (some (12, 0)))), some (.inl a1), some (.inl a2), some (.inl a3), some (.inl a4), some (.inl v4), some (.inl w6), some (.inl v8), none, none, none], [], m5)) (s2 := (77, [some (.inr (.inr (some (12, 0)))), some (.inl a1), some (.inl a2), some (.inl a3), some (.inl a4), some (.inl v4), some (.inl w6), some (.inl v8), none, none, none], [], m5)) rfl hres (fun hc hres => ?_) (fun hc hres => ?_)
          · refine e_steps 3 (s' := (132, [some (.inr (.inr (some (12, 0)))), some (.inl a1), some (.inl a2), some (.inl a3), some (.inl a4), some (.inl v4), some (.inl w6), some (.inl v8), none, none, none], [.inl w6, .inr (.inr (some (88, 0)))], m5)) rfl ?_
            refine e_gd (s1 := (133, [some (.inr (.inr (some (12, 0)))), some (.inl a1), some (.inl a2), some (.inl a3), some (.inl a4), some (.inl v4), some (.inl w6), some (.inl v8), none, none, none], [.inl (m5 88 0 w6.toNatClampNeg)], m5)) rfl hres (fun hc hres => ?_)
            refine e_steps 1 (s' := (134, [some (.inr (.inr (some (12, 0)))), some (.inl a1), some (.inl a2), some (.inl a3), some (.inl a4), some (.inl v4), some (.inl w6), some (.inl v8), none, none, none], [.inl (-1), .inl (m5 88 0 w6.toNatClampNeg)], m5)) rfl ?_
            refine e_join (fun k10 => ∀ (w9 : Int32), k10 w9 = some ol3 → mm_E (d + 1) 211 (142, [some (.inr (.inr (some (12, 0)))), some (.inl a1), some (.inl a2), some (.inl a3), some (.inl a4), some (.inl v4), some (.inl w6), some (.inl v8), none, none, none], [.inl w9], m5) (.inl none, r, 0, 0)) hres (fun w9 hres => ?_) (fun k10 hk10 hres => ?_)
            · refine e_steps 2 (s' := (145, [some (.inr (.inr (some (12, 0)))), some (.inl a1), some (.inl a2), some (.inl a3), some (.inl a4), some (.inl v4), some (.inl w6), some (.inl v8), some (.inl w9), none, none], [.inl a3], m5)) rfl ?_
              refine e_join (fun k12 => ∀ (w11 : Int32), k12 w11 = some ol3 → mm_E (d + 1) 211 (173, [some (.inr (.inr (some (12, 0)))), some (.inl a1), some (.inl a2), some (.inl a3), some (.inl a4), some (.inl v4), some (.inl w6), some (.inl v8), some (.inl w9), none, none], [.inl w11], m5) (.inl none, r, 0, 0)) hres (fun w11 hres => ?_) (fun k12 hk12 hres => ?_)
              · refine e_steps 4 (s' := (181, [some (.inr (.inr (some (12, 0)))), some (.inl a1), some (.inl a2), some (.inl a3), some (.inl a4), some (.inl v4), some (.inl w6), some (.inl v8), some (.inl w9), some (.inl w11), none], [.inl v8, .inr (.inr (some (70, 0)))], m5)) rfl ?_
                refine e_gd (s1 := (182, [some (.inr (.inr (some (12, 0)))), some (.inl a1), some (.inl a2), some (.inl a3), some (.inl a4), some (.inl v4), some (.inl w6), some (.inl v8), some (.inl w9), some (.inl w11), none], [.inl (m5 70 0 v8.toNatClampNeg)], m5)) rfl hres (fun hc hres => ?_)
                refine e_steps 3 (s' := (186, [some (.inr (.inr (some (12, 0)))), some (.inl a1), some (.inl a2), some (.inl a3), some (.inl a4), some (.inl v4), some (.inl w6), some (.inl v8), some (.inl w9), some (.inl w11), some (.inl ((m5 70 0 v8.toNatClampNeg) / 2))], [], m5)) rfl ?_
                refine e_let (fun (v13 : Int32) => (186, [some (.inr (.inr (some (12, 0)))), some (.inl a1), some (.inl a2), some (.inl a3), some (.inl a4), some (.inl v4), some (.inl w6), some (.inl v8), some (.inl w9), some (.inl w11), some (.inl v13)], [], m5)) hres (fun v13 hres => ?_)
                refine e_steps 3 (s' := (192, [some (.inr (.inr (some (12, 0)))), some (.inl a1), some (.inl a2), some (.inl a3), some (.inl a4), some (.inl v4), some (.inl w6), some (.inl v8), some (.inl w9), some (.inl w11), some (.inl v13)], [.inl w6, .inr (.inr (some (87, 0)))], m5)) rfl ?_
                refine e_gd (s1 := (193, [some (.inr (.inr (some (12, 0)))), some (.inl a1), some (.inl a2), some (.inl a3), some (.inl a4), some (.inl v4), some (.inl w6), some (.inl v8), some (.inl w9), some (.inl w11), some (.inl v13)], [.inl (m5 87 0 w6.toNatClampNeg)], m5)) rfl hres (fun hc hres => ?_)
                refine e_join (fun k15 => ∀ (m14 : mm_M), k15 m14 = some ol3 → mm_E (d + 1) 211 (228, [some (.inr (.inr (some (12, 0)))), some (.inl a1), some (.inl a2), some (.inl a3), some (.inl a4), some (.inl v4), none, some (.inl v8), some (.inl w9), some (.inl w11), none], [], m14) (.inl none, r, 0, 0)) hres (fun m14 hres => ?_) (fun k15 hk15 hres => ?_)
                · refine e_steps 1 (s' := (230, [some (.inr (.inr (some (12, 0)))), some (.inl a1), some (.inl a2), some (.inl a3), some (.inl a4), some (.inl v4), none, some (.inl v8), some (.inl w9), some (.inl w11), none], [.inl w9], m14)) rfl ?_
                  refine e_if (s1 := (256, [some (.inr (.inr (some (12, 0)))), some (.inl a1), some (.inl a2), some (.inl a3), some (.inl a4), some (.inl v4), none, some (.inl v8), some (.inl w9), some (.inl w11), none], [], m14)) (s2 := (233, [some (.inr (.inr (some (12, 0)))), some (.inl a1), some (.inl a2), some (.inl a3), some (.inl a4), some (.inl v4), none, some (.inl v8), some (.inl w9), some (.inl w11), none], [], m14)) rfl hres (fun hc hres => ?_) (fun hc hres => ?_)
                  · refine e_steps 6 (s' := (267, [some (.inr (.inr (some (12, 0)))), some (.inl a1), some (.inl a2), some (.inl a3), some (.inl a4), some (.inl v4), none, some (.inl v8), some (.inl w9), some (.inl w11), none], [.inl v8, .inr (.inr (some (70, 0))), .inl (m14 12 0 58), .inr (.inr (some (12, 0)))], m14)) rfl ?_
                    refine e_gd (s1 := (268, [some (.inr (.inr (some (12, 0)))), some (.inl a1), some (.inl a2), some (.inl a3), some (.inl a4), some (.inl v4), none, some (.inl v8), some (.inl w9), some (.inl w11), none], [.inl (m14 70 0 v8.toNatClampNeg), .inl (m14 12 0 58), .inr (.inr (some (12, 0)))], m14)) rfl hres (fun hc hres => ?_)
                    refine e_steps 2 (s' := (272, [some (.inr (.inr (some (12, 0)))), some (.inl a1), some (.inl a2), some (.inl a3), some (.inl a4), some (.inl v4), none, some (.inl v8), some (.inl w9), some (.inl w11), none], [], (mm_w m14 12 0 58 ((m14 12 0 58) + (m14 70 0 v8.toNatClampNeg))))) rfl ?_
                    refine e_let (fun (m16 : mm_M) => (272, [some (.inr (.inr (some (12, 0)))), some (.inl a1), some (.inl a2), some (.inl a3), some (.inl a4), some (.inl v4), none, some (.inl v8), some (.inl w9), some (.inl w11), none], [], m16)) hres (fun m16 hres => ?_)
                    refine e_mask (L' := [some (.inr (.inr (some (12, 0)))), some (.inl a1), some (.inl a2), some (.inl a3), some (.inl a4), some (.inl v4), none, none, none, none, none]) rfl ?_
                    refine e_steps 1 (s' := (275, [some (.inr (.inr (some (12, 0)))), some (.inl a1), some (.inl a2), some (.inl a3), some (.inl a4), some (.inl (v4 + 1)), none, none, none, none, none], [], m16)) rfl ?_
                    refine e_let (fun (v17 : Int32) => (275, [some (.inr (.inr (some (12, 0)))), some (.inl a1), some (.inl a2), some (.inl a3), some (.inl a4), some (.inl v17), none, none, none, none, none], [], m16)) hres (fun v17 hres => ?_)
                    refine e_steps 1 (s' := (13, [some (.inr (.inr (some (12, 0)))), some (.inl a1), some (.inl a2), some (.inl a3), some (.inl a4), some (.inl v17), none, none, none, none, none], [], m16)) rfl ?_
                    obtain rfl := Option.some.inj hres
                    exact e_mask (L' := [some (.inr (.inr (some (12, 0)))), some (.inl a1), some (.inl a2), some (.inl a3), some (.inl a4), some (.inl v17), none, none, none, none, none]) rfl (hcl3 _ rfl)
                  · obtain rfl := Option.some.inj hres
                    exact e_mask (L' := [some (.inr (.inr (some (12, 0)))), none, none, none, none, none, none, none, none, some (.inl w11), none]) rfl (hxl3 _ rfl)
                · refine e_if (s1 := (228, [some (.inr (.inr (some (12, 0)))), some (.inl a1), some (.inl a2), some (.inl a3), some (.inl a4), some (.inl v4), some (.inl w6), some (.inl v8), some (.inl w9), some (.inl w11), some (.inl v13)], [], m5)) (s2 := (196, [some (.inr (.inr (some (12, 0)))), some (.inl a1), some (.inl a2), some (.inl a3), some (.inl a4), some (.inl v4), some (.inl w6), some (.inl v8), some (.inl w9), some (.inl w11), some (.inl v13)], [], m5)) rfl hres (fun hc hres => ?_) (fun hc hres => ?_)
                  · exact e_mask (L' := [some (.inr (.inr (some (12, 0)))), some (.inl a1), some (.inl a2), some (.inl a3), some (.inl a4), some (.inl v4), none, some (.inl v8), some (.inl w9), some (.inl w11), none]) rfl (hk15 _ hres)
                  · refine e_steps 1 (s' := (198, [some (.inr (.inr (some (12, 0)))), some (.inl a1), some (.inl a2), some (.inl a3), some (.inl a4), some (.inl v4), some (.inl w6), some (.inl v8), some (.inl w9), some (.inl w11), some (.inl v13)], [.inl w9], m5)) rfl ?_
                    refine e_join (fun k18 => k18 = some ol3 → mm_E (d + 1) 211 (208, [some (.inr (.inr (some (12, 0)))), some (.inl a1), some (.inl a2), some (.inl a3), some (.inl a4), some (.inl v4), some (.inl w6), some (.inl v8), some (.inl w9), some (.inl w11), some (.inl v13)], [], m5) (.inl none, r, 0, 0)) hres (fun  hres => ?_) (fun k18 hk18 hres => ?_)
                    · refine e_steps 8 (s' := (222, [some (.inr (.inr (some (12, 0)))), some (.inl a1), some (.inl a2), some (.inl a3), some (.inl a4), some (.inl v4), some (.inl w6), some (.inl v8), some (.inl w9), some (.inl w11), some (.inl v13)], [.inl w6, .inr (.inr (some (87, 0))), .inl ((m5 12 0 58) + v13), .inr (.inr (some (12, 0)))], m5)) rfl ?_
                      refine e_gd (s1 := (223, [some (.inr (.inr (some (12, 0)))), some (.inl a1), some (.inl a2), some (.inl a3), some (.inl a4), some (.inl v4), some (.inl w6), some (.inl v8), some (.inl w9), some (.inl w11), some (.inl v13)], [.inl (m5 87 0 w6.toNatClampNeg), .inl ((m5 12 0 58) + v13), .inr (.inr (some (12, 0)))], m5)) rfl hres (fun hc hres => ?_)
                      refine e_steps 2 (s' := (225, [some (.inr (.inr (some (12, 0)))), some (.inl a1), some (.inl a2), some (.inl a3), some (.inl a4), some (.inl v4), some (.inl w6), some (.inl v8), some (.inl w9), some (.inl w11), some (.inl v13)], [.inl 0, .inl 0, .inl (m5 87 0 w6.toNatClampNeg), .inl ((m5 12 0 58) + v13), .inr (.inr (some (12, 0)))], m5)) rfl ?_
                      obtain ⟨m20, hv, hres⟩ := mm_b1_some hres
                      refine e_call0 (pc := 228) (L := [some (.inr (.inr (some (12, 0)))), some (.inl a1), some (.inl a2), some (.inl a3), some (.inl a4), some (.inl v4), some (.inl w6), some (.inl v8), some (.inl w9), some (.inl w11), some (.inl v13)]) (st := []) (m' := m20) (v := none) rfl (k_X12_addStep d (by omega) ((m5 12 0 58) + v13) (m5 87 0 w6.toNatClampNeg) 0 0 _ _ hv) ?_
                      show mm_E (d + 1) 211 (228, [some (.inr (.inr (some (12, 0)))), some (.inl a1), some (.inl a2), some (.inl a3), some (.inl a4), some (.inl v4), some (.inl w6), some (.inl v8), some (.inl w9), some (.inl w11), some (.inl v13)], [], m20) (.inl none, r, 0, 0)
                      exact e_mask (L' := [some (.inr (.inr (some (12, 0)))), some (.inl a1), some (.inl a2), some (.inl a3), some (.inl a4), some (.inl v4), none, some (.inl v8), some (.inl w9), some (.inl w11), none]) rfl (hk15 _ hres)
                    · refine e_if (s1 := (208, [some (.inr (.inr (some (12, 0)))), some (.inl a1), some (.inl a2), some (.inl a3), some (.inl a4), some (.inl v4), some (.inl w6), some (.inl v8), some (.inl w9), some (.inl w11), some (.inl v13)], [], m5)) (s2 := (201, [some (.inr (.inr (some (12, 0)))), some (.inl a1), some (.inl a2), some (.inl a3), some (.inl a4), some (.inl v4), some (.inl w6), some (.inl v8), some (.inl w9), some (.inl w11), some (.inl v13)], [], m5)) rfl hres (fun hc hres => ?_) (fun hc hres => ?_)
                      · exact e_mask (L' := [some (.inr (.inr (some (12, 0)))), some (.inl a1), some (.inl a2), some (.inl a3), some (.inl a4), some (.inl v4), some (.inl w6), some (.inl v8), some (.inl w9), some (.inl w11), some (.inl v13)]) rfl (hk18  hres)
                      · refine e_steps 2 (s' := (205, [some (.inr (.inr (some (12, 0)))), some (.inl a1), some (.inl a2), some (.inl a3), some (.inl a4), some (.inl v4), some (.inl w6), some (.inl v8), some (.inl w9), some (.inl w11), some (.inl v13)], [.inl w11, .inl v13], m5)) rfl ?_
                        refine e_if (s1 := (228, [some (.inr (.inr (some (12, 0)))), some (.inl a1), some (.inl a2), some (.inl a3), some (.inl a4), some (.inl v4), some (.inl w6), some (.inl v8), some (.inl w9), some (.inl w11), some (.inl v13)], [], m5)) (s2 := (208, [some (.inr (.inr (some (12, 0)))), some (.inl a1), some (.inl a2), some (.inl a3), some (.inl a4), some (.inl v4), some (.inl w6), some (.inl v8), some (.inl w9), some (.inl w11), some (.inl v13)], [], m5)) rfl hres (fun hc hres => ?_) (fun hc hres => ?_)
                        · exact e_mask (L' := [some (.inr (.inr (some (12, 0)))), some (.inl a1), some (.inl a2), some (.inl a3), some (.inl a4), some (.inl v4), none, some (.inl v8), some (.inl w9), some (.inl w11), none]) rfl (hk15 _ hres)
                        · exact e_mask (L' := [some (.inr (.inr (some (12, 0)))), some (.inl a1), some (.inl a2), some (.inl a3), some (.inl a4), some (.inl v4), some (.inl w6), some (.inl v8), some (.inl w9), some (.inl w11), some (.inl v13)]) rfl (hk18  hres)
              · refine e_if (s1 := (166, [some (.inr (.inr (some (12, 0)))), some (.inl a1), some (.inl a2), some (.inl a3), some (.inl a4), some (.inl v4), some (.inl w6), some (.inl v8), some (.inl w9), none, none], [], m5)) (s2 := (148, [some (.inr (.inr (some (12, 0)))), some (.inl a1), some (.inl a2), some (.inl a3), some (.inl a4), some (.inl v4), some (.inl w6), some (.inl v8), some (.inl w9), none, none], [], m5)) rfl hres (fun hc hres => ?_) (fun hc hres => ?_)
                · refine e_steps 3 (s' := (172, [some (.inr (.inr (some (12, 0)))), some (.inl a1), some (.inl a2), some (.inl a3), some (.inl a4), some (.inl v4), some (.inl w6), some (.inl v8), some (.inl w9), none, none], [.inl w6, .inr (.inr (some (88, 0)))], m5)) rfl ?_
                  refine e_gd (s1 := (173, [some (.inr (.inr (some (12, 0)))), some (.inl a1), some (.inl a2), some (.inl a3), some (.inl a4), some (.inl v4), some (.inl w6), some (.inl v8), some (.inl w9), none, none], [.inl (m5 88 0 w6.toNatClampNeg)], m5)) rfl hres (fun hc hres => ?_)
                  exact e_mask (L' := [some (.inr (.inr (some (12, 0)))), some (.inl a1), some (.inl a2), some (.inl a3), some (.inl a4), some (.inl v4), some (.inl w6), some (.inl v8), some (.inl w9), none, none]) rfl (hk12 _ hres)
                · refine e_steps 3 (s' := (154, [some (.inr (.inr (some (12, 0)))), some (.inl a1), some (.inl a2), some (.inl a3), some (.inl a4), some (.inl v4), some (.inl w6), some (.inl v8), some (.inl w9), none, none], [.inl v8, .inr (.inr (some (70, 0)))], m5)) rfl ?_
                  refine e_gd (s1 := (155, [some (.inr (.inr (some (12, 0)))), some (.inl a1), some (.inl a2), some (.inl a3), some (.inl a4), some (.inl v4), some (.inl w6), some (.inl v8), some (.inl w9), none, none], [.inl (m5 70 0 v8.toNatClampNeg)], m5)) rfl hres (fun hc hres => ?_)
                  refine e_steps 3 (s' := (161, [some (.inr (.inr (some (12, 0)))), some (.inl a1), some (.inl a2), some (.inl a3), some (.inl a4), some (.inl v4), some (.inl w6), some (.inl v8), some (.inl w9), none, none], [.inl w6, .inr (.inr (some (88, 0))), .inl (m5 70 0 v8.toNatClampNeg)], m5)) rfl ?_
                  refine e_gd (s1 := (162, [some (.inr (.inr (some (12, 0)))), some (.inl a1), some (.inl a2), some (.inl a3), some (.inl a4), some (.inl v4), some (.inl w6), some (.inl v8), some (.inl w9), none, none], [.inl (m5 88 0 w6.toNatClampNeg), .inl (m5 70 0 v8.toNatClampNeg)], m5)) rfl hres (fun hc hres => ?_)
                  refine e_steps 2 (s' := (173, [some (.inr (.inr (some (12, 0)))), some (.inl a1), some (.inl a2), some (.inl a3), some (.inl a4), some (.inl v4), some (.inl w6), some (.inl v8), some (.inl w9), none, none], [.inl ((m5 70 0 v8.toNatClampNeg) - (m5 88 0 w6.toNatClampNeg))], m5)) rfl ?_
                  exact e_mask (L' := [some (.inr (.inr (some (12, 0)))), some (.inl a1), some (.inl a2), some (.inl a3), some (.inl a4), some (.inl v4), some (.inl w6), some (.inl v8), some (.inl w9), none, none]) rfl (hk12 _ hres)
            · refine e_if (s1 := (141, [some (.inr (.inr (some (12, 0)))), some (.inl a1), some (.inl a2), some (.inl a3), some (.inl a4), some (.inl v4), some (.inl w6), some (.inl v8), none, none, none], [], m5)) (s2 := (137, [some (.inr (.inr (some (12, 0)))), some (.inl a1), some (.inl a2), some (.inl a3), some (.inl a4), some (.inl v4), some (.inl w6), some (.inl v8), none, none, none], [], m5)) rfl hres (fun hc hres => ?_) (fun hc hres => ?_)
              · refine e_steps 1 (s' := (142, [some (.inr (.inr (some (12, 0)))), some (.inl a1), some (.inl a2), some (.inl a3), some (.inl a4), some (.inl v4), some (.inl w6), some (.inl v8), none, none, none], [.inl 0], m5)) rfl ?_
                exact e_mask (L' := [some (.inr (.inr (some (12, 0)))), some (.inl a1), some (.inl a2), some (.inl a3), some (.inl a4), some (.inl v4), some (.inl w6), some (.inl v8), none, none, none]) rfl (hk10 _ hres)
              · refine e_steps 2 (s' := (142, [some (.inr (.inr (some (12, 0)))), some (.inl a1), some (.inl a2), some (.inl a3), some (.inl a4), some (.inl v4), some (.inl w6), some (.inl v8), none, none, none], [.inl 1], m5)) rfl ?_
                exact e_mask (L' := [some (.inr (.inr (some (12, 0)))), some (.inl a1), some (.inl a2), some (.inl a3), some (.inl a4), some (.inl v4), some (.inl w6), some (.inl v8), none, none, none]) rfl (hk10 _ hres)
          · refine e_steps 7 (s' := (88, [some (.inr (.inr (some (12, 0)))), some (.inl a1), some (.inl a2), some (.inl a3), some (.inl a4), some (.inl v4), some (.inl w6), some (.inl v8), none, none, none], [.inl a4, .inl a2, .inl v8, .inr (.inr (some (12, 0))), .inl (m5 12 0 58), .inr (.inr (some (12, 0)))], m5)) rfl ?_
            obtain ⟨r21, m22, hv, hres⟩ := mm_b2_some hres
            refine e_call0 (pc := 91) (L := [some (.inr (.inr (some (12, 0)))), some (.inl a1), some (.inl a2), some (.inl a3), some (.inl a4), some (.inl v4), some (.inl w6), some (.inl v8), none, none, none]) (st := [.inl (m5 12 0 58), .inr (.inr (some (12, 0)))]) (m' := m22) (v := some (.inl r21)) rfl (k_X12_lossOf d (by omega) v8 a2 a4 _ _ hv) ?_
            show mm_E (d + 1) 211 (91, [some (.inr (.inr (some (12, 0)))), some (.inl a1), some (.inl a2), some (.inl a3), some (.inl a4), some (.inl v4), some (.inl w6), some (.inl v8), none, none, none], [.inl r21, .inl (m5 12 0 58), .inr (.inr (some (12, 0)))], m22) (.inl none, r, 0, 0)
            refine e_steps 3 (s' := (97, [some (.inr (.inr (some (12, 0)))), some (.inl a1), some (.inl a2), some (.inl a3), some (.inl a4), some (.inl v4), some (.inl w6), some (.inl v8), none, none, none], [.inl v8, .inr (.inr (some (69, 0))), .inl r21, .inl (m5 12 0 58), .inr (.inr (some (12, 0)))], m22)) rfl ?_
            refine e_gd (s1 := (98, [some (.inr (.inr (some (12, 0)))), some (.inl a1), some (.inl a2), some (.inl a3), some (.inl a4), some (.inl v4), some (.inl w6), some (.inl v8), none, none, none], [.inl (m22 69 0 v8.toNatClampNeg), .inl r21, .inl (m5 12 0 58), .inr (.inr (some (12, 0)))], m22)) rfl hres (fun hc hres => ?_)
            refine e_steps 3 (s' := (104, [some (.inr (.inr (some (12, 0)))), some (.inl a1), some (.inl a2), some (.inl a3), some (.inl a4), some (.inl v4), some (.inl w6), some (.inl v8), none, none, none], [.inl v8, .inr (.inr (some (69, 0))), .inl (m22 69 0 v8.toNatClampNeg), .inl r21, .inl (m5 12 0 58), .inr (.inr (some (12, 0)))], m22)) rfl ?_
            refine e_gd (s1 := (105, [some (.inr (.inr (some (12, 0)))), some (.inl a1), some (.inl a2), some (.inl a3), some (.inl a4), some (.inl v4), some (.inl w6), some (.inl v8), none, none, none], [.inl (m22 69 0 v8.toNatClampNeg), .inl (m22 69 0 v8.toNatClampNeg), .inl r21, .inl (m5 12 0 58), .inr (.inr (some (12, 0)))], m22)) rfl hres (fun hc hres => ?_)
            refine e_steps 1 (s' := (106, [some (.inr (.inr (some (12, 0)))), some (.inl a1), some (.inl a2), some (.inl a3), some (.inl a4), some (.inl v4), some (.inl w6), some (.inl v8), none, none, none], [.inl 2, .inl (m22 69 0 v8.toNatClampNeg), .inl (m22 69 0 v8.toNatClampNeg), .inl r21, .inl (m5 12 0 58), .inr (.inr (some (12, 0)))], m22)) rfl ?_
            refine e_if (s1 := (119, [some (.inr (.inr (some (12, 0)))), some (.inl a1), some (.inl a2), some (.inl a3), some (.inl a4), some (.inl v4), some (.inl w6), some (.inl v8), none, none, none], [.inl (m22 69 0 v8.toNatClampNeg), .inl r21, .inl (m5 12 0 58), .inr (.inr (some (12, 0)))], m22)) (s2 := (109, [some (.inr (.inr (some (12, 0)))), some (.inl a1), some (.inl a2), some (.inl a3), some (.inl a4), some (.inl v4), some (.inl w6), some (.inl v8), none, none, none], [.inl (m22 69 0 v8.toNatClampNeg), .inl r21, .inl (m5 12 0 58), .inr (.inr (some (12, 0)))], m22)) rfl hres (fun hc hres => ?_) (fun hc hres => ?_)
            · refine e_steps 1 (s' := (120, [some (.inr (.inr (some (12, 0)))), some (.inl a1), some (.inl a2), some (.inl a3), some (.inl a4), some (.inl v4), some (.inl w6), some (.inl v8), none, none, none], [.inl 0, .inl (m22 69 0 v8.toNatClampNeg), .inl r21, .inl (m5 12 0 58), .inr (.inr (some (12, 0)))], m22)) rfl ?_
              refine e_mask (L' := [some (.inr (.inr (some (12, 0)))), some (.inl a1), some (.inl a2), some (.inl a3), some (.inl a4), some (.inl v4), none, none, none, none, none]) rfl ?_
              obtain ⟨m24, hv, hres⟩ := mm_b1_some hres
              refine e_call0 (pc := 123) (L := [some (.inr (.inr (some (12, 0)))), some (.inl a1), some (.inl a2), some (.inl a3), some (.inl a4), some (.inl v4), none, none, none, none, none]) (st := []) (m' := m24) (v := none) rfl (k_X12_addStep d (by omega) (m5 12 0 58) r21 (m22 69 0 v8.toNatClampNeg) 0 _ _ hv) ?_
              show mm_E (d + 1) 211 (123, [some (.inr (.inr (some (12, 0)))), some (.inl a1), some (.inl a2), some (.inl a3), some (.inl a4), some (.inl v4), none, none, none, none, none], [], m24) (.inl none, r, 0, 0)
              refine e_steps 2 (s' := (275, [some (.inr (.inr (some (12, 0)))), some (.inl a1), some (.inl a2), some (.inl a3), some (.inl a4), some (.inl (v4 + 1)), none, none, none, none, none], [], m24)) rfl ?_
              refine e_let (fun (v25 : Int32) => (275, [some (.inr (.inr (some (12, 0)))), some (.inl a1), some (.inl a2), some (.inl a3), some (.inl a4), some (.inl v25), none, none, none, none, none], [], m24)) hres (fun v25 hres => ?_)
              refine e_steps 1 (s' := (13, [some (.inr (.inr (some (12, 0)))), some (.inl a1), some (.inl a2), some (.inl a3), some (.inl a4), some (.inl v25), none, none, none, none, none], [], m24)) rfl ?_
              obtain rfl := Option.some.inj hres
              exact e_mask (L' := [some (.inr (.inr (some (12, 0)))), some (.inl a1), some (.inl a2), some (.inl a3), some (.inl a4), some (.inl v25), none, none, none, none, none]) rfl (hcl3 _ rfl)
            · refine e_steps 3 (s' := (115, [some (.inr (.inr (some (12, 0)))), some (.inl a1), some (.inl a2), some (.inl a3), some (.inl a4), some (.inl v4), some (.inl w6), some (.inl v8), none, none, none], [.inl v8, .inr (.inr (some (70, 0))), .inl (m22 69 0 v8.toNatClampNeg), .inl r21, .inl (m5 12 0 58), .inr (.inr (some (12, 0)))], m22)) rfl ?_
              refine e_gd (s1 := (116, [some (.inr (.inr (some (12, 0)))), some (.inl a1), some (.inl a2), some (.inl a3), some (.inl a4), some (.inl v4), some (.inl w6), some (.inl v8), none, none, none], [.inl (m22 70 0 v8.toNatClampNeg), .inl (m22 69 0 v8.toNatClampNeg), .inl r21, .inl (m5 12 0 58), .inr (.inr (some (12, 0)))], m22)) rfl hres (fun hc hres => ?_)
              refine e_steps 1 (s' := (120, [some (.inr (.inr (some (12, 0)))), some (.inl a1), some (.inl a2), some (.inl a3), some (.inl a4), some (.inl v4), some (.inl w6), some (.inl v8), none, none, none], [.inl (m22 70 0 v8.toNatClampNeg), .inl (m22 69 0 v8.toNatClampNeg), .inl r21, .inl (m5 12 0 58), .inr (.inr (some (12, 0)))], m22)) rfl ?_
              refine e_mask (L' := [some (.inr (.inr (some (12, 0)))), some (.inl a1), some (.inl a2), some (.inl a3), some (.inl a4), some (.inl v4), none, none, none, none, none]) rfl ?_
              obtain ⟨m27, hv, hres⟩ := mm_b1_some hres
              refine e_call0 (pc := 123) (L := [some (.inr (.inr (some (12, 0)))), some (.inl a1), some (.inl a2), some (.inl a3), some (.inl a4), some (.inl v4), none, none, none, none, none]) (st := []) (m' := m27) (v := none) rfl (k_X12_addStep d (by omega) (m5 12 0 58) r21 (m22 69 0 v8.toNatClampNeg) (m22 70 0 v8.toNatClampNeg) _ _ hv) ?_
              show mm_E (d + 1) 211 (123, [some (.inr (.inr (some (12, 0)))), some (.inl a1), some (.inl a2), some (.inl a3), some (.inl a4), some (.inl v4), none, none, none, none, none], [], m27) (.inl none, r, 0, 0)
              refine e_steps 2 (s' := (275, [some (.inr (.inr (some (12, 0)))), some (.inl a1), some (.inl a2), some (.inl a3), some (.inl a4), some (.inl (v4 + 1)), none, none, none, none, none], [], m27)) rfl ?_
              refine e_let (fun (v28 : Int32) => (275, [some (.inr (.inr (some (12, 0)))), some (.inl a1), some (.inl a2), some (.inl a3), some (.inl a4), some (.inl v28), none, none, none, none, none], [], m27)) hres (fun v28 hres => ?_)
              refine e_steps 1 (s' := (13, [some (.inr (.inr (some (12, 0)))), some (.inl a1), some (.inl a2), some (.inl a3), some (.inl a4), some (.inl v28), none, none, none, none, none], [], m27)) rfl ?_
              obtain rfl := Option.some.inj hres
              exact e_mask (L' := [some (.inr (.inr (some (12, 0)))), some (.inl a1), some (.inl a2), some (.inl a3), some (.inl a4), some (.inl v28), none, none, none, none, none]) rfl (hcl3 _ rfl)
        · obtain rfl := Option.some.inj hres
          exact e_mask (L' := [none, none, none, none, none, none, none, none, none, none, none]) rfl (hxl3 _ rfl)
      · refine e_if (s1 := (42, [some (.inr (.inr (some (12, 0)))), some (.inl a1), some (.inl a2), some (.inl a3), some (.inl a4), some (.inl v4), none, none, none, none, none], [], m5)) (s2 := (28, [some (.inr (.inr (some (12, 0)))), some (.inl a1), some (.inl a2), some (.inl a3), some (.inl a4), some (.inl v4), none, none, none, none, none], [], m5)) rfl hres (fun hc hres => ?_) (fun hc hres => ?_)
        · refine e_steps 1 (s' := (44, [some (.inr (.inr (some (12, 0)))), some (.inl a1), some (.inl a2), some (.inl a3), some (.inl a4), some (.inl v4), none, none, none, none, none], [.inl v4], m5)) rfl ?_
          exact e_mask (L' := [some (.inr (.inr (some (12, 0)))), some (.inl a1), some (.inl a2), some (.inl a3), some (.inl a4), some (.inl v4), none, none, none, none, none]) rfl (hk7 _ hres)
        · refine e_steps 3 (s' := (33, [some (.inr (.inr (some (12, 0)))), some (.inl a1), some (.inl a2), some (.inl a3), some (.inl a4), some (.inl v4), none, none, none, none, none], [.inl a1, .inr (.inr (some (67, 0)))], m5)) rfl ?_
          refine e_gd (s1 := (34, [some (.inr (.inr (some (12, 0)))), some (.inl a1), some (.inl a2), some (.inl a3), some (.inl a4), some (.inl v4), none, none, none, none, none], [.inl (m5 67 0 a1.toNatClampNeg)], m5)) rfl hres (fun hc hres => ?_)
          refine e_steps 5 (s' := (44, [some (.inr (.inr (some (12, 0)))), some (.inl a1), some (.inl a2), some (.inl a3), some (.inl a4), some (.inl v4), none, none, none, none, none], [.inl (((m5 67 0 a1.toNatClampNeg) - 1) - v4)], m5)) rfl ?_
          exact e_mask (L' := [some (.inr (.inr (some (12, 0)))), some (.inl a1), some (.inl a2), some (.inl a3), some (.inl a4), some (.inl v4), none, none, none, none, none]) rfl (hk7 _ hres)
/-- GlassThreadsModel.addRow(III)V -/
def f_X12_addRow (a1 : Int32) (a2 : Int32) (a3 : Int32) (m : mm_M) : Option (mm_M) :=
mm_let (m 12 0 45) fun v1 =>
(mm_b1 (mm_loop (σ := Int32 × mm_M) (ρ := (Int32 × mm_M)) (fun (s : Int32 × mm_M) => match s with
| (v3, m4) => (if v3 ≤ 0 then (some (.inr (v3, m4)))
else (if mm_in (v3 - 1) 60 then (
if (m4 95 0 (v3 - 1).toNatClampNeg) ≤ a1 then (some (.inr (v3, m4)))
else (if mm_in (v3 - 1) 60 then (
if mm_in v3 60 then (
mm_let (mm_w m4 95 0 v3.toNatClampNeg (m4 95 0 (v3 - 1).toNatClampNeg)) fun m5 =>
if mm_in (v3 - 1) 60 then (
if mm_in v3 60 then (
mm_let (mm_w m5 96 0 v3.toNatClampNeg (m5 96 0 (v3 - 1).toNatClampNeg)) fun m6 =>
if mm_in (v3 - 1) 60 then (
if mm_in v3 60 then (
mm_let (mm_w m6 97 0 v3.toNatClampNeg (m6 97 0 (v3 - 1).toNatClampNeg)) fun m7 =>
mm_let (v3 + (-1)) fun v8 =>
some (.inl (v8, m7))) else none) else none) else none) else none) else none) else none)) else none) : Option ((Int32 × mm_M) ⊕ ((Int32 × mm_M))))) mm_fu (v1, m)) fun t => match t with
| (v9, m10) => if mm_in v9 60 then (
mm_let (mm_w m10 95 0 v9.toNatClampNeg a1) fun m11 =>
if mm_in v9 60 then (
mm_let (mm_w m11 96 0 v9.toNatClampNeg a2) fun m12 =>
if mm_in v9 60 then (
mm_let (mm_w m12 97 0 v9.toNatClampNeg a3) fun m13 =>
mm_let (mm_w m13 12 0 45 ((m13 12 0 45) + 1)) fun m14 =>
some m14) else none) else none) else none)
set_option maxHeartbeats 4000000 in
set_option maxRecDepth 100000 in
theorem k_X12_addRow (d : Nat) (hd : 0 ≤ d) (a1 : Int32) (a2 : Int32) (a3 : Int32) (m : mm_M) (r : mm_M) (hres : f_X12_addRow a1 a2 a3 m = some r) : mm_X d 212 [.inr (.inr (some (12, 0))), .inl a1, .inl a2, .inl a3] m (.inl none, r, 0, 0) := by
  unfold f_X12_addRow at hres
  show mm_E d 212 (0, [some (.inr (.inr (some (12, 0)))), some (.inl a1), some (.inl a2), some (.inl a3), none], [], m) (.inl none, r, 0, 0)
  refine e_steps 3 (s' := (6, [some (.inr (.inr (some (12, 0)))), some (.inl a1), some (.inl a2), some (.inl a3), some (.inl (m 12 0 45))], [], m)) rfl ?_
  refine e_let (fun (v1 : Int32) => (6, [some (.inr (.inr (some (12, 0)))), some (.inl a1), some (.inl a2), some (.inl a3), some (.inl v1)], [], m)) hres (fun v1 hres => ?_)
  refine e_mask (L' := [some (.inr (.inr (some (12, 0)))), some (.inl a1), some (.inl a2), some (.inl a3), some (.inl v1)]) rfl ?_
  refine e_loopb (φ := fun s => (6, [some (.inr (.inr (some (12, 0)))), some (.inl a1), some (.inl a2), some (.inl a3), some (.inl s.1)], [], s.2)) (K := fun t => mm_E d 212 (78, [some (.inr (.inr (some (12, 0)))), some (.inl a1), some (.inl a2), some (.inl a3), some (.inl t.1)], [], t.2) (.inl none, r, 0, 0)) hres (fun t hres => ?_) (fun s ol2 hres hcl2 hxl2 => ?_)
  · obtain ⟨v9, m10⟩ := t
    show mm_E d 212 (78, [some (.inr (.inr (some (12, 0)))), some (.inl a1), some (.inl a2), some (.inl a3), some (.inl v9)], [], m10) (.inl none, r, 0, 0)
    refine e_steps 4 (s' := (85, [some (.inr (.inr (some (12, 0)))), some (.inl a1), some (.inl a2), some (.inl a3), some (.inl v9)], [.inl a1, .inl v9, .inr (.inr (some (95, 0)))], m10)) rfl ?_
    refine e_gd (s1 := (86, [some (.inr (.inr (some (12, 0)))), some (.inl a1), some (.inl a2), some (.inl a3), some (.inl v9)], [], (mm_w m10 95 0 v9.toNatClampNeg a1))) rfl hres (fun hc hres => ?_)
    refine e_let (fun (m11 : mm_M) => (86, [some (.inr (.inr (some (12, 0)))), some (.inl a1), some (.inl a2), some (.inl a3), some (.inl v9)], [], m11)) hres (fun m11 hres => ?_)
    refine e_steps 4 (s' := (93, [some (.inr (.inr (some (12, 0)))), some (.inl a1), some (.inl a2), some (.inl a3), some (.inl v9)], [.inl a2, .inl v9, .inr (.inr (some (96, 0)))], m11)) rfl ?_
    refine e_gd (s1 := (94, [some (.inr (.inr (some (12, 0)))), some (.inl a1), some (.inl a2), some (.inl a3), some (.inl v9)], [], (mm_w m11 96 0 v9.toNatClampNeg a2))) rfl hres (fun hc hres => ?_)
    refine e_let (fun (m12 : mm_M) => (94, [some (.inr (.inr (some (12, 0)))), some (.inl a1), some (.inl a2), some (.inl a3), some (.inl v9)], [], m12)) hres (fun m12 hres => ?_)
    refine e_steps 4 (s' := (101, [some (.inr (.inr (some (12, 0)))), some (.inl a1), some (.inl a2), some (.inl a3), some (.inl v9)], [.inl a3, .inl v9, .inr (.inr (some (97, 0)))], m12)) rfl ?_
    refine e_gd (s1 := (102, [some (.inr (.inr (some (12, 0)))), some (.inl a1), some (.inl a2), some (.inl a3), some (.inl v9)], [], (mm_w m12 97 0 v9.toNatClampNeg a3))) rfl hres (fun hc hres => ?_)
    refine e_let (fun (m13 : mm_M) => (102, [some (.inr (.inr (some (12, 0)))), some (.inl a1), some (.inl a2), some (.inl a3), some (.inl v9)], [], m13)) hres (fun m13 hres => ?_)
    refine e_steps 6 (s' := (112, [some (.inr (.inr (some (12, 0)))), some (.inl a1), some (.inl a2), some (.inl a3), some (.inl v9)], [], (mm_w m13 12 0 45 ((m13 12 0 45) + 1)))) rfl ?_
    refine e_let (fun (m14 : mm_M) => (112, [some (.inr (.inr (some (12, 0)))), some (.inl a1), some (.inl a2), some (.inl a3), some (.inl v9)], [], m14)) hres (fun m14 hres => ?_)
    obtain rfl := Option.some.inj hres
    exact e_ret rfl rfl
  · obtain ⟨v3, m4⟩ := s
    show mm_E d 212 (6, [some (.inr (.inr (some (12, 0)))), some (.inl a1), some (.inl a2), some (.inl a3), some (.inl v3)], [], m4) (.inl none, r, 0, 0)
    refine e_steps 1 (s' := (8, [some (.inr (.inr (some (12, 0)))), some (.inl a1), some (.inl a2), some (.inl a3), some (.inl v3)], [.inl v3], m4)) rfl ?_
    refine e_if (s1 := (78, [some (.inr (.inr (some (12, 0)))), some (.inl a1), some (.inl a2), some (.inl a3), some (.inl v3)], [], m4)) (s2 := (11, [some (.inr (.inr (some (12, 0)))), some (.inl a1), some (.inl a2), some (.inl a3), some (.inl v3)], [], m4)) rfl hres (fun hc hres => ?_) (fun hc hres => ?_)
    · obtain rfl := Option.some.inj hres
      exact e_mask (L' := [some (.inr (.inr (some (12, 0)))), some (.inl a1), some (.inl a2), some (.inl a3), some (.inl v3)]) rfl (hxl2 _ rfl)
    · refine e_steps 5 (s' := (19, [some (.inr (.inr (some (12, 0)))), some (.inl a1), some (.inl a2), some (.inl a3), some (.inl v3)], [.inl (v3 - 1), .inr (.inr (some (95, 0)))], m4)) rfl ?_
      refine e_gd (s1 := (20, [some (.inr (.inr (some (12, 0)))), some (.inl a1), some (.inl a2), some (.inl a3), some (.inl v3)], [.inl (m4 95 0 (v3 - 1).toNatClampNeg)], m4)) rfl hres (fun hc hres => ?_)
      refine e_steps 1 (s' := (21, [some (.inr (.inr (some (12, 0)))), some (.inl a1), some (.inl a2), some (.inl a3), some (.inl v3)], [.inl a1, .inl (m4 95 0 (v3 - 1).toNatClampNeg)], m4)) rfl ?_
      refine e_if (s1 := (78, [some (.inr (.inr (some (12, 0)))), some (.inl a1), some (.inl a2), some (.inl a3), some (.inl v3)], [], m4)) (s2 := (24, [some (.inr (.inr (some (12, 0)))), some (.inl a1), some (.inl a2), some (.inl a3), some (.inl v3)], [], m4)) rfl hres (fun hc hres => ?_) (fun hc hres => ?_)
      · obtain rfl := Option.some.inj hres
        exact e_mask (L' := [some (.inr (.inr (some (12, 0)))), some (.inl a1), some (.inl a2), some (.inl a3), some (.inl v3)]) rfl (hxl2 _ rfl)
      · refine e_steps 8 (s' := (38, [some (.inr (.inr (some (12, 0)))), some (.inl a1), some (.inl a2), some (.inl a3), some (.inl v3)], [.inl (v3 - 1), .inr (.inr (some (95, 0))), .inl v3, .inr (.inr (some (95, 0)))], m4)) rfl ?_
        refine e_gd (s1 := (39, [some (.inr (.inr (some (12, 0)))), some (.inl a1), some (.inl a2), some (.inl a3), some (.inl v3)], [.inl (m4 95 0 (v3 - 1).toNatClampNeg), .inl v3, .inr (.inr (some (95, 0)))], m4)) rfl hres (fun hc hres => ?_)
        refine e_gd (s1 := (40, [some (.inr (.inr (some (12, 0)))), some (.inl a1), some (.inl a2), some (.inl a3), some (.inl v3)], [], (mm_w m4 95 0 v3.toNatClampNeg (m4 95 0 (v3 - 1).toNatClampNeg)))) rfl hres (fun hc hres => ?_)
        refine e_let (fun (m5 : mm_M) => (40, [some (.inr (.inr (some (12, 0)))), some (.inl a1), some (.inl a2), some (.inl a3), some (.inl v3)], [], m5)) hres (fun m5 hres => ?_)
        refine e_steps 8 (s' := (54, [some (.inr (.inr (some (12, 0)))), some (.inl a1), some (.inl a2), some (.inl a3), some (.inl v3)], [.inl (v3 - 1), .inr (.inr (some (96, 0))), .inl v3, .inr (.inr (some (96, 0)))], m5)) rfl ?_
        refine e_gd (s1 := (55, [some (.inr (.inr (some (12, 0)))), some (.inl a1), some (.inl a2), some (.inl a3), some (.inl v3)], [.inl (m5 96 0 (v3 - 1).toNatClampNeg), .inl v3, .inr (.inr (some (96, 0)))], m5)) rfl hres (fun hc hres => ?_)
        refine e_gd (s1 := (56, [some (.inr (.inr (some (12, 0)))), some (.inl a1), some (.inl a2), some (.inl a3), some (.inl v3)], [], (mm_w m5 96 0 v3.toNatClampNeg (m5 96 0 (v3 - 1).toNatClampNeg)))) rfl hres (fun hc hres => ?_)
        refine e_let (fun (m6 : mm_M) => (56, [some (.inr (.inr (some (12, 0)))), some (.inl a1), some (.inl a2), some (.inl a3), some (.inl v3)], [], m6)) hres (fun m6 hres => ?_)
        refine e_steps 8 (s' := (70, [some (.inr (.inr (some (12, 0)))), some (.inl a1), some (.inl a2), some (.inl a3), some (.inl v3)], [.inl (v3 - 1), .inr (.inr (some (97, 0))), .inl v3, .inr (.inr (some (97, 0)))], m6)) rfl ?_
        refine e_gd (s1 := (71, [some (.inr (.inr (some (12, 0)))), some (.inl a1), some (.inl a2), some (.inl a3), some (.inl v3)], [.inl (m6 97 0 (v3 - 1).toNatClampNeg), .inl v3, .inr (.inr (some (97, 0)))], m6)) rfl hres (fun hc hres => ?_)
        refine e_gd (s1 := (72, [some (.inr (.inr (some (12, 0)))), some (.inl a1), some (.inl a2), some (.inl a3), some (.inl v3)], [], (mm_w m6 97 0 v3.toNatClampNeg (m6 97 0 (v3 - 1).toNatClampNeg)))) rfl hres (fun hc hres => ?_)
        refine e_let (fun (m7 : mm_M) => (72, [some (.inr (.inr (some (12, 0)))), some (.inl a1), some (.inl a2), some (.inl a3), some (.inl v3)], [], m7)) hres (fun m7 hres => ?_)
        refine e_steps 1 (s' := (75, [some (.inr (.inr (some (12, 0)))), some (.inl a1), some (.inl a2), some (.inl a3), some (.inl (v3 + (-1)))], [], m7)) rfl ?_
        refine e_let (fun (v8 : Int32) => (75, [some (.inr (.inr (some (12, 0)))), some (.inl a1), some (.inl a2), some (.inl a3), some (.inl v8)], [], m7)) hres (fun v8 hres => ?_)
        refine e_steps 1 (s' := (6, [some (.inr (.inr (some (12, 0)))), some (.inl a1), some (.inl a2), some (.inl a3), some (.inl v8)], [], m7)) rfl ?_
        obtain rfl := Option.some.inj hres
        exact e_mask (L' := [some (.inr (.inr (some (12, 0)))), some (.inl a1), some (.inl a2), some (.inl a3), some (.inl v8)]) rfl (hcl2 _ rfl)
/-- GlassThreadsModel.tellRow(IIZI)V -/
def f_X12_tellRow (a1 : Int32) (a2 : Int32) (a3 : Int32) (a4 : Int32) (m : mm_M) : Option (mm_M) :=
mm_b1 (f_X12_tellSteps a1 a2 a3 a4 m) fun m2 =>
mm_let (mm_w m2 12 0 45 0) fun m3 =>
(mm_b1 (mm_loop (σ := Int32 × Int32 × Int32 × mm_M) (ρ := (Int32 × mm_M)) (fun (s : Int32 × Int32 × Int32 × mm_M) => match s with
| (v5, v6, v7, m8) => (if (m8 12 0 44) ≤ v7 then (some (.inr (v5, m8)))
else (mm_let (fun (w9 : Int32) => (if w9 ≠ 0 then (if mm_in v7 60 then (
if mm_in v7 60 then (
if mm_in v7 60 then (
mm_b1 (f_X12_addRow (m8 91 0 v7.toNatClampNeg) (m8 92 0 v7.toNatClampNeg) (m8 93 0 v7.toNatClampNeg) m8) fun m12 =>
if mm_in v5 60 then (
mm_let (mm_w m12 101 0 v5.toNatClampNeg v7) fun m13 =>
mm_let (v5 + 1) fun v14 =>
mm_let (v7 + 1) fun v15 =>
some (.inl (v14, v7, v15, m13))) else none) else none) else none) else none)
else (mm_let (v7 + 1) fun v16 =>
some (.inl (v5, v6, v16, m8))) : Option ((Int32 × Int32 × Int32 × mm_M) ⊕ ((Int32 × mm_M))))) fun k10 =>
if v6 = (-1) then (k10 1)
else (if mm_in v7 60 then (
if mm_in v6 60 then (
if (m8 91 0 v7.toNatClampNeg) ≤ ((m8 91 0 v6.toNatClampNeg) + (m8 12 0 43)) then (k10 0)
else (if mm_in v7 60 then (
if 40 ≤ (m8 92 0 v7.toNatClampNeg) then (k10 1)
else (if mm_in v7 60 then (
if (m8 93 0 v7.toNatClampNeg) ≠ 3 then (k10 0)
else (k10 1)) else none)) else none)) else none) else none)) : Option ((Int32 × Int32 × Int32 × mm_M) ⊕ ((Int32 × mm_M))))) mm_fu (0, (-1), 0, m3)) fun t => match t with
| (v17, m18) => mm_let (m18 12 0 45) fun v19 =>
(mm_b1 (mm_loop (σ := Int32 × mm_M) (ρ := (mm_M)) (fun (s : Int32 × mm_M) => match s with
| (v21, m22) => (if v19 ≤ v21 then (some (.inr m22))
else (if mm_in v21 60 then (
if mm_in v21 60 then (
mm_let (mm_w m22 102 0 v21.toNatClampNeg (m22 95 0 v21.toNatClampNeg)) fun m23 =>
mm_let (v21 + 1) fun v24 =>
some (.inl (v24, m23))) else none) else none) : Option ((Int32 × mm_M) ⊕ ((mm_M))))) mm_fu (0, m18)) fun m25 =>
(mm_b1 (mm_loop (σ := Int32 × mm_M) (ρ := (mm_M)) (fun (s : Int32 × mm_M) => match s with
| (v27, m28) => (if v17 ≤ v27 then (some (.inr m28))
else (if mm_in v27 60 then (
mm_let (m28 101 0 v27.toNatClampNeg) fun v29 =>
if mm_in v29 60 then (
mm_let (m28 91 0 v29.toNatClampNeg) fun v30 =>
if mm_in v29 60 then (
if (m28 93 0 v29.toNatClampNeg) ≠ 2 then (mm_let (v27 + 1) fun v31 =>
some (.inl (v31, m28)))
else (if mm_in v29 60 then (
if (m28 94 0 v29.toNatClampNeg) < 10 then (mm_let (v27 + 1) fun v32 =>
some (.inl (v32, m28)))
else (if v30 = 0 then (mm_let (v27 + 1) fun v33 =>
some (.inl (v33, m28)))
else (if (2 * v30) < (m28 12 0 58) then ((mm_b1 (mm_loop (σ := Int32 × Int32) (ρ := (Int32)) (fun (s : Int32 × Int32) => match s with
| (v35, v36) => (if v19 ≤ v36 then (some (.inr v35))
else (if v35 ≠ 0 then (mm_let (v36 + 1) fun v37 =>
some (.inl (1, v37)))
else (if mm_in v36 60 then (
if (m28 12 0 43) < (mm_abs ((m28 102 0 v36.toNatClampNeg) - (2 * v30))) then (mm_let (v36 + 1) fun v38 =>
some (.inl (0, v38)))
else (mm_let (v36 + 1) fun v39 =>
some (.inl (1, v39)))) else none)) : Option ((Int32 × Int32) ⊕ ((Int32))))) mm_fu (0, 0)) fun v40 =>
if v40 ≠ 0 then (mm_let (v27 + 1) fun v41 =>
some (.inl (v41, m28)))
else (mm_b1 (f_X12_addRow (2 * v30) 1 4 m28) fun m43 =>
mm_let (v27 + 1) fun v44 =>
some (.inl (v44, m43)))))
else (mm_let (v27 + 1) fun v45 =>
some (.inl (v45, m28)))))) else none)) else none) else none) else none) : Option ((Int32 × mm_M) ⊕ ((mm_M))))) mm_fu (0, m25)) fun m46 =>
some m46)))
set_option maxHeartbeats 4000000 in
set_option maxRecDepth 100000 in
theorem k_X12_tellRow (d : Nat) (hd : 4 ≤ d) (a1 : Int32) (a2 : Int32) (a3 : Int32) (a4 : Int32) (m : mm_M) (r : mm_M) (hres : f_X12_tellRow a1 a2 a3 a4 m = some r) : mm_X d 213 [.inr (.inr (some (12, 0))), .inl a1, .inl a2, .inl a3, .inl a4] m (.inl none, r, 0, 0) := by
  unfold f_X12_tellRow at hres
  obtain ⟨d, rfl⟩ : ∃ e, d = e + 1 := ⟨d - 1, by omega⟩
  show mm_E (d + 1) 213 (0, [some (.inr (.inr (some (12, 0)))), some (.inl a1), some (.inl a2), some (.inl a3), some (.inl a4), none, none, none, none, none, none, none, none], [], m) (.inl none, r, 0, 0)
  refine e_steps 5 (s' := (6, [some (.inr (.inr (some (12, 0)))), some (.inl a1), some (.inl a2), some (.inl a3), some (.inl a4), none, none, none, none, none, none, none, none], [.inl a4, .inl a3, .inl a2, .inl a1, .inr (.inr (some (12, 0)))], m)) rfl ?_
  obtain ⟨m2, hv, hres⟩ := mm_b1_some hres
  refine e_call0 (pc := 9) (L := [some (.inr (.inr (some (12, 0)))), some (.inl a1), some (.inl a2), some (.inl a3), some (.inl a4), none, none, none, none, none, none, none, none]) (st := []) (m' := m2) (v := none) rfl (k_X12_tellSteps d (by omega) a1 a2 a3 a4 _ _ hv) ?_
  show mm_E (d + 1) 213 (9, [some (.inr (.inr (some (12, 0)))), some (.inl a1), some (.inl a2), some (.inl a3), some (.inl a4), none, none, none, none, none, none, none, none], [], m2) (.inl none, r, 0, 0)
  refine e_steps 3 (s' := (14, [some (.inr (.inr (some (12, 0)))), some (.inl a1), some (.inl a2), some (.inl a3), some (.inl a4), none, none, none, none, none, none, none, none], [], (mm_w m2 12 0 45 0))) rfl ?_
  refine e_let (fun (m3 : mm_M) => (14, [some (.inr (.inr (some (12, 0)))), some (.inl a1), some (.inl a2), some (.inl a3), some (.inl a4), none, none, none, none, none, none, none, none], [], m3)) hres (fun m3 hres => ?_)
  refine e_steps 6 (s' := (23, [some (.inr (.inr (some (12, 0)))), some (.inl a1), some (.inl a2), some (.inl a3), some (.inl a4), some (.inl 0), some (.inl (-1)), some (.inl 0), none, none, none, none, none], [], m3)) rfl ?_
  refine e_mask (L' := [some (.inr (.inr (some (12, 0)))), none, none, none, none, some (.inl 0), some (.inl (-1)), some (.inl 0), none, none, none, none, none]) rfl ?_
  refine e_loopb (φ := fun s => (23, [some (.inr (.inr (some (12, 0)))), none, none, none, none, some (.inl s.1), some (.inl s.2.1), some (.inl s.2.2.1), none, none, none, none, none], [], s.2.2.2)) (K := fun t => mm_E (d + 1) 213 (145, [some (.inr (.inr (some (12, 0)))), none, none, none, none, some (.inl t.1), none, none, none, none, none, none, none], [], t.2) (.inl none, r, 0, 0)) hres (fun t hres => ?_) (fun s ol4 hres hcl4 hxl4 => ?_)
  · obtain ⟨v17, m18⟩ := t
    show mm_E (d + 1) 213 (145, [some (.inr (.inr (some (12, 0)))), none, none, none, none, some (.inl v17), none, none, none, none, none, none, none], [], m18) (.inl none, r, 0, 0)
    refine e_steps 3 (s' := (151, [some (.inr (.inr (some (12, 0)))), none, none, none, none, some (.inl v17), none, some (.inl (m18 12 0 45)), none, none, none, none, none], [], m18)) rfl ?_
    refine e_let (fun (v19 : Int32) => (151, [some (.inr (.inr (some (12, 0)))), none, none, none, none, some (.inl v17), none, some (.inl v19), none, none, none, none, none], [], m18)) hres (fun v19 hres => ?_)
    refine e_steps 2 (s' := (154, [some (.inr (.inr (some (12, 0)))), none, none, none, none, some (.inl v17), none, some (.inl v19), some (.inl 0), none, none, none, none], [], m18)) rfl ?_
    refine e_mask (L' := [some (.inr (.inr (some (12, 0)))), none, none, none, none, some (.inl v17), none, some (.inl v19), some (.inl 0), none, none, none, none]) rfl ?_
    refine e_loopb (φ := fun s => (154, [some (.inr (.inr (some (12, 0)))), none, none, none, none, some (.inl v17), none, some (.inl v19), some (.inl s.1), none, none, none, none], [], s.2)) (K := fun t => mm_E (d + 1) 213 (181, [some (.inr (.inr (some (12, 0)))), none, none, none, none, some (.inl v17), none, some (.inl v19), none, none, none, none, none], [], t) (.inl none, r, 0, 0)) hres (fun m25 hres => ?_) (fun s ol20 hres hcl20 hxl20 => ?_)
    · show mm_E (d + 1) 213 (181, [some (.inr (.inr (some (12, 0)))), none, none, none, none, some (.inl v17), none, some (.inl v19), none, none, none, none, none], [], m25) (.inl none, r, 0, 0)
      refine e_steps 2 (s' := (184, [some (.inr (.inr (some (12, 0)))), none, none, none, none, some (.inl v17), none, some (.inl v19), some (.inl 0), none, none, none, none], [], m25)) rfl ?_
      refine e_mask (L' := [some (.inr (.inr (some (12, 0)))), none, none, none, none, some (.inl v17), none, some (.inl v19), some (.inl 0), none, none, none, none]) rfl ?_
      refine e_loopb (φ := fun s => (184, [some (.inr (.inr (some (12, 0)))), none, none, none, none, some (.inl v17), none, some (.inl v19), some (.inl s.1), none, none, none, none], [], s.2)) (K := fun t => mm_E (d + 1) 213 (325, [none, none, none, none, none, none, none, none, none, none, none, none, none], [], t) (.inl none, r, 0, 0)) hres (fun m46 hres => ?_) (fun s ol26 hres hcl26 hxl26 => ?_)
      · show mm_E (d + 1) 213 (325, [none, none, none, none, none, none, none, none, none, none, none, none, none], [], m46) (.inl none, r, 0, 0)
        obtain rfl := Option.some.inj hres
        exact e_ret rfl rfl
      · obtain ⟨v27, m28⟩ := s
        show mm_E (d + 1) 213 (184, [some (.inr (.inr (some (12, 0)))), none, none, none, none, some (.inl v17), none, some (.inl v19), some (.inl v27), none, none, none, none], [], m28) (.inl none, r, 0, 0)
        refine e_steps 2 (s' := (188, [some (.inr (.inr (some (12, 0)))), none, none, none, none, some (.inl v17), none, some (.inl v19), some (.inl v27), none, none, none, none], [.inl v17, .inl v27], m28)) rfl ?_
        refine e_if (s1 := (325, [some (.inr (.inr (some (12, 0)))), none, none, none, none, some (.inl v17), none, some (.inl v19), some (.inl v27), none, none, none, none], [], m28)) (s2 := (191, [some (.inr (.inr (some (12, 0)))), none, none, none, none, some (.inl v17), none, some (.inl v19), some (.inl v27), none, none, none, none], [], m28)) rfl hres (fun hc hres => ?_) (fun hc hres => ?_)
        · obtain rfl := Option.some.inj hres
          exact e_mask (L' := [none, none, none, none, none, none, none, none, none, none, none, none, none]) rfl (hxl26 _ rfl)
        · refine e_steps 3 (s' := (197, [some (.inr (.inr (some (12, 0)))), none, none, none, none, some (.inl v17), none, some (.inl v19), some (.inl v27), none, none, none, none], [.inl v27, .inr (.inr (some (101, 0)))], m28)) rfl ?_
          refine e_gd (s1 := (198, [some (.inr (.inr (some (12, 0)))), none, none, none, none, some (.inl v17), none, some (.inl v19), some (.inl v27), none, none, none, none], [.inl (m28 101 0 v27.toNatClampNeg)], m28)) rfl hres (fun hc hres => ?_)
          refine e_steps 1 (s' := (200, [some (.inr (.inr (some (12, 0)))), none, none, none, none, some (.inl v17), none, some (.inl v19), some (.inl v27), some (.inl (m28 101 0 v27.toNatClampNeg)), none, none, none], [], m28)) rfl ?_
          refine e_let (fun (v29 : Int32) => (200, [some (.inr (.inr (some (12, 0)))), none, none, none, none, some (.inl v17), none, some (.inl v19), some (.inl v27), some (.inl v29), none, none, none], [], m28)) hres (fun v29 hres => ?_)
          refine e_steps 3 (s' := (206, [some (.inr (.inr (some (12, 0)))), none, none, none, none, some (.inl v17), none, some (.inl v19), some (.inl v27), some (.inl v29), none, none, none], [.inl v29, .inr (.inr (some (91, 0)))], m28)) rfl ?_
          refine e_gd (s1 := (207, [some (.inr (.inr (some (12, 0)))), none, none, none, none, some (.inl v17), none, some (.inl v19), some (.inl v27), some (.inl v29), none, none, none], [.inl (m28 91 0 v29.toNatClampNeg)], m28)) rfl hres (fun hc hres => ?_)
          refine e_steps 1 (s' := (209, [some (.inr (.inr (some (12, 0)))), none, none, none, none, some (.inl v17), none, some (.inl v19), some (.inl v27), some (.inl v29), some (.inl (m28 91 0 v29.toNatClampNeg)), none, none], [], m28)) rfl ?_
          refine e_let (fun (v30 : Int32) => (209, [some (.inr (.inr (some (12, 0)))), none, none, none, none, some (.inl v17), none, some (.inl v19), some (.inl v27), some (.inl v29), some (.inl v30), none, none], [], m28)) hres (fun v30 hres => ?_)
          refine e_steps 3 (s' := (215, [some (.inr (.inr (some (12, 0)))), none, none, none, none, some (.inl v17), none, some (.inl v19), some (.inl v27), some (.inl v29), some (.inl v30), none, none], [.inl v29, .inr (.inr (some (93, 0)))], m28)) rfl ?_
          refine e_gd (s1 := (216, [some (.inr (.inr (some (12, 0)))), none, none, none, none, some (.inl v17), none, some (.inl v19), some (.inl v27), some (.inl v29), some (.inl v30), none, none], [.inl (m28 93 0 v29.toNatClampNeg)], m28)) rfl hres (fun hc hres => ?_)
          refine e_steps 1 (s' := (217, [some (.inr (.inr (some (12, 0)))), none, none, none, none, some (.inl v17), none, some (.inl v19), some (.inl v27), some (.inl v29), some (.inl v30), none, none], [.inl 2, .inl (m28 93 0 v29.toNatClampNeg)], m28)) rfl ?_
          refine e_if (s1 := (319, [some (.inr (.inr (some (12, 0)))), none, none, none, none, some (.inl v17), none, some (.inl v19), some (.inl v27), some (.inl v29), some (.inl v30), none, none], [], m28)) (s2 := (220, [some (.inr (.inr (some (12, 0)))), none, none, none, none, some (.inl v17), none, some (.inl v19), some (.inl v27), some (.inl v29), some (.inl v30), none, none], [], m28)) rfl hres (fun hc hres => ?_) (fun hc hres => ?_)
          · refine e_mask (L' := [some (.inr (.inr (some (12, 0)))), none, none, none, none, some (.inl v17), none, some (.inl v19), some (.inl v27), none, none, none, none]) rfl ?_
            refine e_steps 1 (s' := (322, [some (.inr (.inr (some (12, 0)))), none, none, none, none, some (.inl v17), none, some (.inl v19), some (.inl (v27 + 1)), none, none, none, none], [], m28)) rfl ?_
            refine e_let (fun (v31 : Int32) => (322, [some (.inr (.inr (some (12, 0)))), none, none, none, none, some (.inl v17), none, some (.inl v19), some (.inl v31), none, none, none, none], [], m28)) hres (fun v31 hres => ?_)
            refine e_steps 1 (s' := (184, [some (.inr (.inr (some (12, 0)))), none, none, none, none, some (.inl v17), none, some (.inl v19), some (.inl v31), none, none, none, none], [], m28)) rfl ?_
            obtain rfl := Option.some.inj hres
            exact e_mask (L' := [some (.inr (.inr (some (12, 0)))), none, none, none, none, some (.inl v17), none, some (.inl v19), some (.inl v31), none, none, none, none]) rfl (hcl26 _ rfl)
          · refine e_steps 3 (s' := (226, [some (.inr (.inr (some (12, 0)))), none, none, none, none, some (.inl v17), none, some (.inl v19), some (.inl v27), some (.inl v29), some (.inl v30), none, none], [.inl v29, .inr (.inr (some (94, 0)))], m28)) rfl ?_
            refine e_gd (s1 := (227, [some (.inr (.inr (some (12, 0)))), none, none, none, none, some (.inl v17), none, some (.inl v19), some (.inl v27), some (.inl v29), some (.inl v30), none, none], [.inl (m28 94 0 v29.toNatClampNeg)], m28)) rfl hres (fun hc hres => ?_)
            refine e_steps 1 (s' := (229, [some (.inr (.inr (some (12, 0)))), none, none, none, none, some (.inl v17), none, some (.inl v19), some (.inl v27), some (.inl v29), some (.inl v30), none, none], [.inl 10, .inl (m28 94 0 v29.toNatClampNeg)], m28)) rfl ?_
            refine e_if (s1 := (319, [some (.inr (.inr (some (12, 0)))), none, none, none, none, some (.inl v17), none, some (.inl v19), some (.inl v27), some (.inl v29), some (.inl v30), none, none], [], m28)) (s2 := (232, [some (.inr (.inr (some (12, 0)))), none, none, none, none, some (.inl v17), none, some (.inl v19), some (.inl v27), some (.inl v29), some (.inl v30), none, none], [], m28)) rfl hres (fun hc hres => ?_) (fun hc hres => ?_)
            · refine e_mask (L' := [some (.inr (.inr (some (12, 0)))), none, none, none, none, some (.inl v17), none, some (.inl v19), some (.inl v27), none, none, none, none]) rfl ?_
              refine e_steps 1 (s' := (322, [some (.inr (.inr (some (12, 0)))), none, none, none, none, some (.inl v17), none, some (.inl v19), some (.inl (v27 + 1)), none, none, none, none], [], m28)) rfl ?_
              refine e_let (fun (v32 : Int32) => (322, [some (.inr (.inr (some (12, 0)))), none, none, none, none, some (.inl v17), none, some (.inl v19), some (.inl v32), none, none, none, none], [], m28)) hres (fun v32 hres => ?_)
              refine e_steps 1 (s' := (184, [some (.inr (.inr (some (12, 0)))), none, none, none, none, some (.inl v17), none, some (.inl v19), some (.inl v32), none, none, none, none], [], m28)) rfl ?_
              obtain rfl := Option.some.inj hres
              exact e_mask (L' := [some (.inr (.inr (some (12, 0)))), none, none, none, none, some (.inl v17), none, some (.inl v19), some (.inl v32), none, none, none, none]) rfl (hcl26 _ rfl)
            · refine e_steps 1 (s' := (234, [some (.inr (.inr (some (12, 0)))), none, none, none, none, some (.inl v17), none, some (.inl v19), some (.inl v27), some (.inl v29), some (.inl v30), none, none], [.inl v30], m28)) rfl ?_
              refine e_if (s1 := (319, [some (.inr (.inr (some (12, 0)))), none, none, none, none, some (.inl v17), none, some (.inl v19), some (.inl v27), some (.inl v29), some (.inl v30), none, none], [], m28)) (s2 := (237, [some (.inr (.inr (some (12, 0)))), none, none, none, none, some (.inl v17), none, some (.inl v19), some (.inl v27), some (.inl v29), some (.inl v30), none, none], [], m28)) rfl hres (fun hc hres => ?_) (fun hc hres => ?_)
              · refine e_mask (L' := [some (.inr (.inr (some (12, 0)))), none, none, none, none, some (.inl v17), none, some (.inl v19), some (.inl v27), none, none, none, none]) rfl ?_
                refine e_steps 1 (s' := (322, [some (.inr (.inr (some (12, 0)))), none, none, none, none, some (.inl v17), none, some (.inl v19), some (.inl (v27 + 1)), none, none, none, none], [], m28)) rfl ?_
                refine e_let (fun (v33 : Int32) => (322, [some (.inr (.inr (some (12, 0)))), none, none, none, none, some (.inl v17), none, some (.inl v19), some (.inl v33), none, none, none, none], [], m28)) hres (fun v33 hres => ?_)
                refine e_steps 1 (s' := (184, [some (.inr (.inr (some (12, 0)))), none, none, none, none, some (.inl v17), none, some (.inl v19), some (.inl v33), none, none, none, none], [], m28)) rfl ?_
                obtain rfl := Option.some.inj hres
                exact e_mask (L' := [some (.inr (.inr (some (12, 0)))), none, none, none, none, some (.inl v17), none, some (.inl v19), some (.inl v33), none, none, none, none]) rfl (hcl26 _ rfl)
              · refine e_steps 5 (s' := (245, [some (.inr (.inr (some (12, 0)))), none, none, none, none, some (.inl v17), none, some (.inl v19), some (.inl v27), some (.inl v29), some (.inl v30), none, none], [.inl (m28 12 0 58), .inl (2 * v30)], m28)) rfl ?_
                refine e_if (s1 := (251, [some (.inr (.inr (some (12, 0)))), none, none, none, none, some (.inl v17), none, some (.inl v19), some (.inl v27), some (.inl v29), some (.inl v30), none, none], [], m28)) (s2 := (248, [some (.inr (.inr (some (12, 0)))), none, none, none, none, some (.inl v17), none, some (.inl v19), some (.inl v27), some (.inl v29), some (.inl v30), none, none], [], m28)) rfl hres (fun hc hres => ?_) (fun hc hres => ?_)
                · refine e_steps 4 (s' := (257, [some (.inr (.inr (some (12, 0)))), none, none, none, none, some (.inl v17), none, some (.inl v19), some (.inl v27), some (.inl v29), some (.inl v30), some (.inl 0), some (.inl 0)], [], m28)) rfl ?_
                  refine e_mask (L' := [some (.inr (.inr (some (12, 0)))), none, none, none, none, some (.inl v17), none, some (.inl v19), some (.inl v27), none, some (.inl v30), some (.inl 0), some (.inl 0)]) rfl ?_
                  refine e_loopb (φ := fun s => (257, [some (.inr (.inr (some (12, 0)))), none, none, none, none, some (.inl v17), none, some (.inl v19), some (.inl v27), none, some (.inl v30), some (.inl s.1), some (.inl s.2)], [], m28)) (K := fun t => mm_E (d + 1) 213 (304, [some (.inr (.inr (some (12, 0)))), none, none, none, none, some (.inl v17), none, some (.inl v19), some (.inl v27), none, some (.inl v30), some (.inl t), none], [], m28) (.inl none, r, 0, 0)) hres (fun v40 hres => ?_) (fun s ol34 hres hcl34 hxl34 => ?_)
                  · show mm_E (d + 1) 213 (304, [some (.inr (.inr (some (12, 0)))), none, none, none, none, some (.inl v17), none, some (.inl v19), some (.inl v27), none, some (.inl v30), some (.inl v40), none], [], m28) (.inl none, r, 0, 0)
                    refine e_steps 1 (s' := (306, [some (.inr (.inr (some (12, 0)))), none, none, none, none, some (.inl v17), none, some (.inl v19), some (.inl v27), none, some (.inl v30), some (.inl v40), none], [.inl v40], m28)) rfl ?_
                    refine e_if (s1 := (319, [some (.inr (.inr (some (12, 0)))), none, none, none, none, some (.inl v17), none, some (.inl v19), some (.inl v27), none, some (.inl v30), some (.inl v40), none], [], m28)) (s2 := (309, [some (.inr (.inr (some (12, 0)))), none, none, none, none, some (.inl v17), none, some (.inl v19), some (.inl v27), none, some (.inl v30), some (.inl v40), none], [], m28)) rfl hres (fun hc hres => ?_) (fun hc hres => ?_)
                    · refine e_mask (L' := [some (.inr (.inr (some (12, 0)))), none, none, none, none, some (.inl v17), none, some (.inl v19), some (.inl v27), none, none, none, none]) rfl ?_
                      refine e_steps 1 (s' := (322, [some (.inr (.inr (some (12, 0)))), none, none, none, none, some (.inl v17), none, some (.inl v19), some (.inl (v27 + 1)), none, none, none, none], [], m28)) rfl ?_
                      refine e_let (fun (v41 : Int32) => (322, [some (.inr (.inr (some (12, 0)))), none, none, none, none, some (.inl v17), none, some (.inl v19), some (.inl v41), none, none, none, none], [], m28)) hres (fun v41 hres => ?_)
                      refine e_steps 1 (s' := (184, [some (.inr (.inr (some (12, 0)))), none, none, none, none, some (.inl v17), none, some (.inl v19), some (.inl v41), none, none, none, none], [], m28)) rfl ?_
                      obtain rfl := Option.some.inj hres
                      exact e_mask (L' := [some (.inr (.inr (some (12, 0)))), none, none, none, none, some (.inl v17), none, some (.inl v19), some (.inl v41), none, none, none, none]) rfl (hcl26 _ rfl)
                    · refine e_steps 6 (s' := (316, [some (.inr (.inr (some (12, 0)))), none, none, none, none, some (.inl v17), none, some (.inl v19), some (.inl v27), none, some (.inl v30), some (.inl v40), none], [.inl 4, .inl 1, .inl (2 * v30), .inr (.inr (some (12, 0)))], m28)) rfl ?_
                      obtain ⟨m43, hv, hres⟩ := mm_b1_some hres
                      refine e_call0 (pc := 319) (L := [some (.inr (.inr (some (12, 0)))), none, none, none, none, some (.inl v17), none, some (.inl v19), some (.inl v27), none, some (.inl v30), some (.inl v40), none]) (st := []) (m' := m43) (v := none) rfl (k_X12_addRow d (by omega) (2 * v30) 1 4 _ _ hv) ?_
                      show mm_E (d + 1) 213 (319, [some (.inr (.inr (some (12, 0)))), none, none, none, none, some (.inl v17), none, some (.inl v19), some (.inl v27), none, some (.inl v30), some (.inl v40), none], [], m43) (.inl none, r, 0, 0)
                      refine e_mask (L' := [some (.inr (.inr (some (12, 0)))), none, none, none, none, some (.inl v17), none, some (.inl v19), some (.inl v27), none, none, none, none]) rfl ?_
                      refine e_steps 1 (s' := (322, [some (.inr (.inr (some (12, 0)))), none, none, none, none, some (.inl v17), none, some (.inl v19), some (.inl (v27 + 1)), none, none, none, none], [], m43)) rfl ?_
                      refine e_let (fun (v44 : Int32) => (322, [some (.inr (.inr (some (12, 0)))), none, none, none, none, some (.inl v17), none, some (.inl v19), some (.inl v44), none, none, none, none], [], m43)) hres (fun v44 hres => ?_)
                      refine e_steps 1 (s' := (184, [some (.inr (.inr (some (12, 0)))), none, none, none, none, some (.inl v17), none, some (.inl v19), some (.inl v44), none, none, none, none], [], m43)) rfl ?_
                      obtain rfl := Option.some.inj hres
                      exact e_mask (L' := [some (.inr (.inr (some (12, 0)))), none, none, none, none, some (.inl v17), none, some (.inl v19), some (.inl v44), none, none, none, none]) rfl (hcl26 _ rfl)
                  · obtain ⟨v35, v36⟩ := s
                    show mm_E (d + 1) 213 (257, [some (.inr (.inr (some (12, 0)))), none, none, none, none, some (.inl v17), none, some (.inl v19), some (.inl v27), none, some (.inl v30), some (.inl v35), some (.inl v36)], [], m28) (.inl none, r, 0, 0)
                    refine e_steps 2 (s' := (261, [some (.inr (.inr (some (12, 0)))), none, none, none, none, some (.inl v17), none, some (.inl v19), some (.inl v27), none, some (.inl v30), some (.inl v35), some (.inl v36)], [.inl v19, .inl v36], m28)) rfl ?_
                    refine e_if (s1 := (304, [some (.inr (.inr (some (12, 0)))), none, none, none, none, some (.inl v17), none, some (.inl v19), some (.inl v27), none, some (.inl v30), some (.inl v35), some (.inl v36)], [], m28)) (s2 := (264, [some (.inr (.inr (some (12, 0)))), none, none, none, none, some (.inl v17), none, some (.inl v19), some (.inl v27), none, some (.inl v30), some (.inl v35), some (.inl v36)], [], m28)) rfl hres (fun hc hres => ?_) (fun hc hres => ?_)
                    · obtain rfl := Option.some.inj hres
                      exact e_mask (L' := [some (.inr (.inr (some (12, 0)))), none, none, none, none, some (.inl v17), none, some (.inl v19), some (.inl v27), none, some (.inl v30), some (.inl v35), none]) rfl (hxl34 _ rfl)
                    · refine e_steps 1 (s' := (266, [some (.inr (.inr (some (12, 0)))), none, none, none, none, some (.inl v17), none, some (.inl v19), some (.inl v27), none, some (.inl v30), some (.inl v35), some (.inl v36)], [.inl v35], m28)) rfl ?_
                      refine e_if (s1 := (291, [some (.inr (.inr (some (12, 0)))), none, none, none, none, some (.inl v17), none, some (.inl v19), some (.inl v27), none, some (.inl v30), some (.inl v35), some (.inl v36)], [], m28)) (s2 := (269, [some (.inr (.inr (some (12, 0)))), none, none, none, none, some (.inl v17), none, some (.inl v19), some (.inl v27), none, some (.inl v30), some (.inl v35), some (.inl v36)], [], m28)) rfl hres (fun hc hres => ?_) (fun hc hres => ?_)
                      · refine e_mask (L' := [some (.inr (.inr (some (12, 0)))), none, none, none, none, some (.inl v17), none, some (.inl v19), some (.inl v27), none, some (.inl v30), none, some (.inl v36)]) rfl ?_
                        refine e_steps 4 (s' := (301, [some (.inr (.inr (some (12, 0)))), none, none, none, none, some (.inl v17), none, some (.inl v19), some (.inl v27), none, some (.inl v30), some (.inl 1), some (.inl (v36 + 1))], [], m28)) rfl ?_
                        refine e_let (fun (v37 : Int32) => (301, [some (.inr (.inr (some (12, 0)))), none, none, none, none, some (.inl v17), none, some (.inl v19), some (.inl v27), none, some (.inl v30), some (.inl 1), some (.inl v37)], [], m28)) hres (fun v37 hres => ?_)
                        refine e_steps 1 (s' := (257, [some (.inr (.inr (some (12, 0)))), none, none, none, none, some (.inl v17), none, some (.inl v19), some (.inl v27), none, some (.inl v30), some (.inl 1), some (.inl v37)], [], m28)) rfl ?_
                        obtain rfl := Option.some.inj hres
                        exact e_mask (L' := [some (.inr (.inr (some (12, 0)))), none, none, none, none, some (.inl v17), none, some (.inl v19), some (.inl v27), none, some (.inl v30), some (.inl 1), some (.inl v37)]) rfl (hcl34 _ rfl)
                      · refine e_steps 3 (s' := (275, [some (.inr (.inr (some (12, 0)))), none, none, none, none, some (.inl v17), none, some (.inl v19), some (.inl v27), none, some (.inl v30), some (.inl v35), some (.inl v36)], [.inl v36, .inr (.inr (some (102, 0)))], m28)) rfl ?_
                        refine e_gd (s1 := (276, [some (.inr (.inr (some (12, 0)))), none, none, none, none, some (.inl v17), none, some (.inl v19), some (.inl v27), none, some (.inl v30), some (.inl v35), some (.inl v36)], [.inl (m28 102 0 v36.toNatClampNeg)], m28)) rfl hres (fun hc hres => ?_)
                        refine e_steps 7 (s' := (288, [some (.inr (.inr (some (12, 0)))), none, none, none, none, some (.inl v17), none, some (.inl v19), some (.inl v27), none, some (.inl v30), some (.inl v35), some (.inl v36)], [.inl (m28 12 0 43), .inl (mm_abs ((m28 102 0 v36.toNatClampNeg) - (2 * v30)))], m28)) rfl ?_
                        refine e_if (s1 := (295, [some (.inr (.inr (some (12, 0)))), none, none, none, none, some (.inl v17), none, some (.inl v19), some (.inl v27), none, some (.inl v30), some (.inl v35), some (.inl v36)], [], m28)) (s2 := (291, [some (.inr (.inr (some (12, 0)))), none, none, none, none, some (.inl v17), none, some (.inl v19), some (.inl v27), none, some (.inl v30), some (.inl v35), some (.inl v36)], [], m28)) rfl hres (fun hc hres => ?_) (fun hc hres => ?_)
                        · refine e_steps 1 (s' := (296, [some (.inr (.inr (some (12, 0)))), none, none, none, none, some (.inl v17), none, some (.inl v19), some (.inl v27), none, some (.inl v30), some (.inl v35), some (.inl v36)], [.inl 0], m28)) rfl ?_
                          refine e_mask (L' := [some (.inr (.inr (some (12, 0)))), none, none, none, none, some (.inl v17), none, some (.inl v19), some (.inl v27), none, some (.inl v30), none, some (.inl v36)]) rfl ?_
                          refine e_steps 2 (s' := (301, [some (.inr (.inr (some (12, 0)))), none, none, none, none, some (.inl v17), none, some (.inl v19), some (.inl v27), none, some (.inl v30), some (.inl 0), some (.inl (v36 + 1))], [], m28)) rfl ?_
                          refine e_let (fun (v38 : Int32) => (301, [some (.inr (.inr (some (12, 0)))), none, none, none, none, some (.inl v17), none, some (.inl v19), some (.inl v27), none, some (.inl v30), some (.inl 0), some (.inl v38)], [], m28)) hres (fun v38 hres => ?_)
                          refine e_steps 1 (s' := (257, [some (.inr (.inr (some (12, 0)))), none, none, none, none, some (.inl v17), none, some (.inl v19), some (.inl v27), none, some (.inl v30), some (.inl 0), some (.inl v38)], [], m28)) rfl ?_
                          obtain rfl := Option.some.inj hres
                          exact e_mask (L' := [some (.inr (.inr (some (12, 0)))), none, none, none, none, some (.inl v17), none, some (.inl v19), some (.inl v27), none, some (.inl v30), some (.inl 0), some (.inl v38)]) rfl (hcl34 _ rfl)
                        · refine e_mask (L' := [some (.inr (.inr (some (12, 0)))), none, none, none, none, some (.inl v17), none, some (.inl v19), some (.inl v27), none, some (.inl v30), none, some (.inl v36)]) rfl ?_
                          refine e_steps 4 (s' := (301, [some (.inr (.inr (some (12, 0)))), none, none, none, none, some (.inl v17), none, some (.inl v19), some (.inl v27), none, some (.inl v30), some (.inl 1), some (.inl (v36 + 1))], [], m28)) rfl ?_
                          refine e_let (fun (v39 : Int32) => (301, [some (.inr (.inr (some (12, 0)))), none, none, none, none, some (.inl v17), none, some (.inl v19), some (.inl v27), none, some (.inl v30), some (.inl 1), some (.inl v39)], [], m28)) hres (fun v39 hres => ?_)
                          refine e_steps 1 (s' := (257, [some (.inr (.inr (some (12, 0)))), none, none, none, none, some (.inl v17), none, some (.inl v19), some (.inl v27), none, some (.inl v30), some (.inl 1), some (.inl v39)], [], m28)) rfl ?_
                          obtain rfl := Option.some.inj hres
                          exact e_mask (L' := [some (.inr (.inr (some (12, 0)))), none, none, none, none, some (.inl v17), none, some (.inl v19), some (.inl v27), none, some (.inl v30), some (.inl 1), some (.inl v39)]) rfl (hcl34 _ rfl)
                · refine e_steps 1 (s' := (319, [some (.inr (.inr (some (12, 0)))), none, none, none, none, some (.inl v17), none, some (.inl v19), some (.inl v27), some (.inl v29), some (.inl v30), none, none], [], m28)) rfl ?_
                  refine e_mask (L' := [some (.inr (.inr (some (12, 0)))), none, none, none, none, some (.inl v17), none, some (.inl v19), some (.inl v27), none, none, none, none]) rfl ?_
                  refine e_steps 1 (s' := (322, [some (.inr (.inr (some (12, 0)))), none, none, none, none, some (.inl v17), none, some (.inl v19), some (.inl (v27 + 1)), none, none, none, none], [], m28)) rfl ?_
                  refine e_let (fun (v45 : Int32) => (322, [some (.inr (.inr (some (12, 0)))), none, none, none, none, some (.inl v17), none, some (.inl v19), some (.inl v45), none, none, none, none], [], m28)) hres (fun v45 hres => ?_)
                  refine e_steps 1 (s' := (184, [some (.inr (.inr (some (12, 0)))), none, none, none, none, some (.inl v17), none, some (.inl v19), some (.inl v45), none, none, none, none], [], m28)) rfl ?_
                  obtain rfl := Option.some.inj hres
                  exact e_mask (L' := [some (.inr (.inr (some (12, 0)))), none, none, none, none, some (.inl v17), none, some (.inl v19), some (.inl v45), none, none, none, none]) rfl (hcl26 _ rfl)
    · obtain ⟨v21, m22⟩ := s
      show mm_E (d + 1) 213 (154, [some (.inr (.inr (some (12, 0)))), none, none, none, none, some (.inl v17), none, some (.inl v19), some (.inl v21), none, none, none, none], [], m22) (.inl none, r, 0, 0)
      refine e_steps 2 (s' := (158, [some (.inr (.inr (some (12, 0)))), none, none, none, none, some (.inl v17), none, some (.inl v19), some (.inl v21), none, none, none, none], [.inl v19, .inl v21], m22)) rfl ?_
      refine e_if (s1 := (181, [some (.inr (.inr (some (12, 0)))), none, none, none, none, some (.inl v17), none, some (.inl v19), some (.inl v21), none, none, none, none], [], m22)) (s2 := (161, [some (.inr (.inr (some (12, 0)))), none, none, none, none, some (.inl v17), none, some (.inl v19), some (.inl v21), none, none, none, none], [], m22)) rfl hres (fun hc hres => ?_) (fun hc hres => ?_)
      · obtain rfl := Option.some.inj hres
        exact e_mask (L' := [some (.inr (.inr (some (12, 0)))), none, none, none, none, some (.inl v17), none, some (.inl v19), none, none, none, none, none]) rfl (hxl20 _ rfl)
      · refine e_steps 6 (s' := (173, [some (.inr (.inr (some (12, 0)))), none, none, none, none, some (.inl v17), none, some (.inl v19), some (.inl v21), none, none, none, none], [.inl v21, .inr (.inr (some (95, 0))), .inl v21, .inr (.inr (some (102, 0)))], m22)) rfl ?_
        refine e_gd (s1 := (174, [some (.inr (.inr (some (12, 0)))), none, none, none, none, some (.inl v17), none, some (.inl v19), some (.inl v21), none, none, none, none], [.inl (m22 95 0 v21.toNatClampNeg), .inl v21, .inr (.inr (some (102, 0)))], m22)) rfl hres (fun hc hres => ?_)
        refine e_gd (s1 := (175, [some (.inr (.inr (some (12, 0)))), none, none, none, none, some (.inl v17), none, some (.inl v19), some (.inl v21), none, none, none, none], [], (mm_w m22 102 0 v21.toNatClampNeg (m22 95 0 v21.toNatClampNeg)))) rfl hres (fun hc hres => ?_)
        refine e_let (fun (m23 : mm_M) => (175, [some (.inr (.inr (some (12, 0)))), none, none, none, none, some (.inl v17), none, some (.inl v19), some (.inl v21), none, none, none, none], [], m23)) hres (fun m23 hres => ?_)
        refine e_steps 1 (s' := (178, [some (.inr (.inr (some (12, 0)))), none, none, none, none, some (.inl v17), none, some (.inl v19), some (.inl (v21 + 1)), none, none, none, none], [], m23)) rfl ?_
        refine e_let (fun (v24 : Int32) => (178, [some (.inr (.inr (some (12, 0)))), none, none, none, none, some (.inl v17), none, some (.inl v19), some (.inl v24), none, none, none, none], [], m23)) hres (fun v24 hres => ?_)
        refine e_steps 1 (s' := (154, [some (.inr (.inr (some (12, 0)))), none, none, none, none, some (.inl v17), none, some (.inl v19), some (.inl v24), none, none, none, none], [], m23)) rfl ?_
        obtain rfl := Option.some.inj hres
        exact e_mask (L' := [some (.inr (.inr (some (12, 0)))), none, none, none, none, some (.inl v17), none, some (.inl v19), some (.inl v24), none, none, none, none]) rfl (hcl20 _ rfl)
  · obtain ⟨v5, v6, v7, m8⟩ := s
    show mm_E (d + 1) 213 (23, [some (.inr (.inr (some (12, 0)))), none, none, none, none, some (.inl v5), some (.inl v6), some (.inl v7), none, none, none, none, none], [], m8) (.inl none, r, 0, 0)
    refine e_steps 3 (s' := (29, [some (.inr (.inr (some (12, 0)))), none, none, none, none, some (.inl v5), some (.inl v6), some (.inl v7), none, none, none, none, none], [.inl (m8 12 0 44), .inl v7], m8)) rfl ?_
    refine e_if (s1 := (145, [some (.inr (.inr (some (12, 0)))), none, none, none, none, some (.inl v5), some (.inl v6), some (.inl v7), none, none, none, none, none], [], m8)) (s2 := (32, [some (.inr (.inr (some (12, 0)))), none, none, none, none, some (.inl v5), some (.inl v6), some (.inl v7), none, none, none, none, none], [], m8)) rfl hres (fun hc hres => ?_) (fun hc hres => ?_)
    · obtain rfl := Option.some.inj hres
      exact e_mask (L' := [some (.inr (.inr (some (12, 0)))), none, none, none, none, some (.inl v5), none, none, none, none, none, none, none]) rfl (hxl4 _ rfl)
    · refine e_steps 2 (s' := (35, [some (.inr (.inr (some (12, 0)))), none, none, none, none, some (.inl v5), some (.inl v6), some (.inl v7), none, none, none, none, none], [.inl (-1), .inl v6], m8)) rfl ?_
      refine e_join (fun k10 => ∀ (w9 : Int32), k10 w9 = some ol4 → mm_E (d + 1) 213 (88, [some (.inr (.inr (some (12, 0)))), none, none, none, none, some (.inl v5), some (.inl v6), some (.inl v7), none, none, none, none, none], [.inl w9], m8) (.inl none, r, 0, 0)) hres (fun w9 hres => ?_) (fun k10 hk10 hres => ?_)
      · refine e_steps 2 (s' := (92, [some (.inr (.inr (some (12, 0)))), none, none, none, none, some (.inl v5), some (.inl v6), some (.inl v7), some (.inl w9), none, none, none, none], [.inl w9], m8)) rfl ?_
        refine e_if (s1 := (98, [some (.inr (.inr (some (12, 0)))), none, none, none, none, some (.inl v5), some (.inl v6), some (.inl v7), some (.inl w9), none, none, none, none], [], m8)) (s2 := (95, [some (.inr (.inr (some (12, 0)))), none, none, none, none, some (.inl v5), some (.inl v6), some (.inl v7), some (.inl w9), none, none, none, none], [], m8)) rfl hres (fun hc hres => ?_) (fun hc hres => ?_)
        · refine e_steps 6 (s' := (109, [some (.inr (.inr (some (12, 0)))), none, none, none, none, some (.inl v5), some (.inl v7), some (.inl v7), some (.inl w9), none, none, none, none], [.inl v7, .inr (.inr (some (91, 0))), .inr (.inr (some (12, 0)))], m8)) rfl ?_
          refine e_gd (s1 := (110, [some (.inr (.inr (some (12, 0)))), none, none, none, none, some (.inl v5), some (.inl v7), some (.inl v7), some (.inl w9), none, none, none, none], [.inl (m8 91 0 v7.toNatClampNeg), .inr (.inr (some (12, 0)))], m8)) rfl hres (fun hc hres => ?_)
          refine e_steps 3 (s' := (116, [some (.inr (.inr (some (12, 0)))), none, none, none, none, some (.inl v5), some (.inl v7), some (.inl v7), some (.inl w9), none, none, none, none], [.inl v7, .inr (.inr (some (92, 0))), .inl (m8 91 0 v7.toNatClampNeg), .inr (.inr (some (12, 0)))], m8)) rfl ?_
          refine e_gd (s1 := (117, [some (.inr (.inr (some (12, 0)))), none, none, none, none, some (.inl v5), some (.inl v7), some (.inl v7), some (.inl w9), none, none, none, none], [.inl (m8 92 0 v7.toNatClampNeg), .inl (m8 91 0 v7.toNatClampNeg), .inr (.inr (some (12, 0)))], m8)) rfl hres (fun hc hres => ?_)
          refine e_steps 3 (s' := (123, [some (.inr (.inr (some (12, 0)))), none, none, none, none, some (.inl v5), some (.inl v7), some (.inl v7), some (.inl w9), none, none, none, none], [.inl v7, .inr (.inr (some (93, 0))), .inl (m8 92 0 v7.toNatClampNeg), .inl (m8 91 0 v7.toNatClampNeg), .inr (.inr (some (12, 0)))], m8)) rfl ?_
          refine e_gd (s1 := (124, [some (.inr (.inr (some (12, 0)))), none, none, none, none, some (.inl v5), some (.inl v7), some (.inl v7), some (.inl w9), none, none, none, none], [.inl (m8 93 0 v7.toNatClampNeg), .inl (m8 92 0 v7.toNatClampNeg), .inl (m8 91 0 v7.toNatClampNeg), .inr (.inr (some (12, 0)))], m8)) rfl hres (fun hc hres => ?_)
          obtain ⟨m12, hv, hres⟩ := mm_b1_some hres
          refine e_call0 (pc := 127) (L := [some (.inr (.inr (some (12, 0)))), none, none, none, none, some (.inl v5), some (.inl v7), some (.inl v7), some (.inl w9), none, none, none, none]) (st := []) (m' := m12) (v := none) rfl (k_X12_addRow d (by omega) (m8 91 0 v7.toNatClampNeg) (m8 92 0 v7.toNatClampNeg) (m8 93 0 v7.toNatClampNeg) _ _ hv) ?_
          show mm_E (d + 1) 213 (127, [some (.inr (.inr (some (12, 0)))), none, none, none, none, some (.inl v5), some (.inl v7), some (.inl v7), some (.inl w9), none, none, none, none], [], m12) (.inl none, r, 0, 0)
          refine e_steps 4 (s' := (135, [some (.inr (.inr (some (12, 0)))), none, none, none, none, some (.inl v5), some (.inl v7), some (.inl v7), some (.inl w9), none, none, none, none], [.inl v7, .inl v5, .inr (.inr (some (101, 0)))], m12)) rfl ?_
          refine e_gd (s1 := (136, [some (.inr (.inr (some (12, 0)))), none, none, none, none, some (.inl v5), some (.inl v7), some (.inl v7), some (.inl w9), none, none, none, none], [], (mm_w m12 101 0 v5.toNatClampNeg v7))) rfl hres (fun hc hres => ?_)
          refine e_let (fun (m13 : mm_M) => (136, [some (.inr (.inr (some (12, 0)))), none, none, none, none, some (.inl v5), some (.inl v7), some (.inl v7), some (.inl w9), none, none, none, none], [], m13)) hres (fun m13 hres => ?_)
          refine e_steps 1 (s' := (139, [some (.inr (.inr (some (12, 0)))), none, none, none, none, some (.inl (v5 + 1)), some (.inl v7), some (.inl v7), some (.inl w9), none, none, none, none], [], m13)) rfl ?_
          refine e_let (fun (v14 : Int32) => (139, [some (.inr (.inr (some (12, 0)))), none, none, none, none, some (.inl v14), some (.inl v7), some (.inl v7), some (.inl w9), none, none, none, none], [], m13)) hres (fun v14 hres => ?_)
          refine e_mask (L' := [some (.inr (.inr (some (12, 0)))), none, none, none, none, some (.inl v14), some (.inl v7), some (.inl v7), none, none, none, none, none]) rfl ?_
          refine e_steps 1 (s' := (142, [some (.inr (.inr (some (12, 0)))), none, none, none, none, some (.inl v14), some (.inl v7), some (.inl (v7 + 1)), none, none, none, none, none], [], m13)) rfl ?_
          refine e_let (fun (v15 : Int32) => (142, [some (.inr (.inr (some (12, 0)))), none, none, none, none, some (.inl v14), some (.inl v7), some (.inl v15), none, none, none, none, none], [], m13)) hres (fun v15 hres => ?_)
          refine e_steps 1 (s' := (23, [some (.inr (.inr (some (12, 0)))), none, none, none, none, some (.inl v14), some (.inl v7), some (.inl v15), none, none, none, none, none], [], m13)) rfl ?_
          obtain rfl := Option.some.inj hres
          exact e_mask (L' := [some (.inr (.inr (some (12, 0)))), none, none, none, none, some (.inl v14), some (.inl v7), some (.inl v15), none, none, none, none, none]) rfl (hcl4 _ rfl)
        · refine e_steps 1 (s' := (139, [some (.inr (.inr (some (12, 0)))), none, none, none, none, some (.inl v5), some (.inl v6), some (.inl v7), some (.inl w9), none, none, none, none], [], m8)) rfl ?_
          refine e_mask (L' := [some (.inr (.inr (some (12, 0)))), none, none, none, none, some (.inl v5), some (.inl v6), some (.inl v7), none, none, none, none, none]) rfl ?_
          refine e_steps 1 (s' := (142, [some (.inr (.inr (some (12, 0)))), none, none, none, none, some (.inl v5), some (.inl v6), some (.inl (v7 + 1)), none, none, none, none, none], [], m8)) rfl ?_
          refine e_let (fun (v16 : Int32) => (142, [some (.inr (.inr (some (12, 0)))), none, none, none, none, some (.inl v5), some (.inl v6), some (.inl v16), none, none, none, none, none], [], m8)) hres (fun v16 hres => ?_)
          refine e_steps 1 (s' := (23, [some (.inr (.inr (some (12, 0)))), none, none, none, none, some (.inl v5), some (.inl v6), some (.inl v16), none, none, none, none, none], [], m8)) rfl ?_
          obtain rfl := Option.some.inj hres
          exact e_mask (L' := [some (.inr (.inr (some (12, 0)))), none, none, none, none, some (.inl v5), some (.inl v6), some (.inl v16), none, none, none, none, none]) rfl (hcl4 _ rfl)
      · refine e_if (s1 := (83, [some (.inr (.inr (some (12, 0)))), none, none, none, none, some (.inl v5), some (.inl v6), some (.inl v7), none, none, none, none, none], [], m8)) (s2 := (38, [some (.inr (.inr (some (12, 0)))), none, none, none, none, some (.inl v5), some (.inl v6), some (.inl v7), none, none, none, none, none], [], m8)) rfl hres (fun hc hres => ?_) (fun hc hres => ?_)
        · refine e_steps 2 (s' := (88, [some (.inr (.inr (some (12, 0)))), none, none, none, none, some (.inl v5), some (.inl v6), some (.inl v7), none, none, none, none, none], [.inl 1], m8)) rfl ?_
          exact e_mask (L' := [some (.inr (.inr (some (12, 0)))), none, none, none, none, some (.inl v5), some (.inl v6), some (.inl v7), none, none, none, none, none]) rfl (hk10 _ hres)
        · refine e_steps 3 (s' := (44, [some (.inr (.inr (some (12, 0)))), none, none, none, none, some (.inl v5), some (.inl v6), some (.inl v7), none, none, none, none, none], [.inl v7, .inr (.inr (some (91, 0)))], m8)) rfl ?_
          refine e_gd (s1 := (45, [some (.inr (.inr (some (12, 0)))), none, none, none, none, some (.inl v5), some (.inl v6), some (.inl v7), none, none, none, none, none], [.inl (m8 91 0 v7.toNatClampNeg)], m8)) rfl hres (fun hc hres => ?_)
          refine e_steps 3 (s' := (51, [some (.inr (.inr (some (12, 0)))), none, none, none, none, some (.inl v5), some (.inl v6), some (.inl v7), none, none, none, none, none], [.inl v6, .inr (.inr (some (91, 0))), .inl (m8 91 0 v7.toNatClampNeg)], m8)) rfl ?_
          refine e_gd (s1 := (52, [some (.inr (.inr (some (12, 0)))), none, none, none, none, some (.inl v5), some (.inl v6), some (.inl v7), none, none, none, none, none], [.inl (m8 91 0 v6.toNatClampNeg), .inl (m8 91 0 v7.toNatClampNeg)], m8)) rfl hres (fun hc hres => ?_)
          refine e_steps 3 (s' := (57, [some (.inr (.inr (some (12, 0)))), none, none, none, none, some (.inl v5), some (.inl v6), some (.inl v7), none, none, none, none, none], [.inl ((m8 91 0 v6.toNatClampNeg) + (m8 12 0 43)), .inl (m8 91 0 v7.toNatClampNeg)], m8)) rfl ?_
          refine e_if (s1 := (87, [some (.inr (.inr (some (12, 0)))), none, none, none, none, some (.inl v5), some (.inl v6), some (.inl v7), none, none, none, none, none], [], m8)) (s2 := (60, [some (.inr (.inr (some (12, 0)))), none, none, none, none, some (.inl v5), some (.inl v6), some (.inl v7), none, none, none, none, none], [], m8)) rfl hres (fun hc hres => ?_) (fun hc hres => ?_)
          · refine e_steps 1 (s' := (88, [some (.inr (.inr (some (12, 0)))), none, none, none, none, some (.inl v5), some (.inl v6), some (.inl v7), none, none, none, none, none], [.inl 0], m8)) rfl ?_
            exact e_mask (L' := [some (.inr (.inr (some (12, 0)))), none, none, none, none, some (.inl v5), some (.inl v6), some (.inl v7), none, none, none, none, none]) rfl (hk10 _ hres)
          · refine e_steps 3 (s' := (66, [some (.inr (.inr (some (12, 0)))), none, none, none, none, some (.inl v5), some (.inl v6), some (.inl v7), none, none, none, none, none], [.inl v7, .inr (.inr (some (92, 0)))], m8)) rfl ?_
            refine e_gd (s1 := (67, [some (.inr (.inr (some (12, 0)))), none, none, none, none, some (.inl v5), some (.inl v6), some (.inl v7), none, none, none, none, none], [.inl (m8 92 0 v7.toNatClampNeg)], m8)) rfl hres (fun hc hres => ?_)
            refine e_steps 1 (s' := (69, [some (.inr (.inr (some (12, 0)))), none, none, none, none, some (.inl v5), some (.inl v6), some (.inl v7), none, none, none, none, none], [.inl 40, .inl (m8 92 0 v7.toNatClampNeg)], m8)) rfl ?_
            refine e_if (s1 := (83, [some (.inr (.inr (some (12, 0)))), none, none, none, none, some (.inl v5), some (.inl v6), some (.inl v7), none, none, none, none, none], [], m8)) (s2 := (72, [some (.inr (.inr (some (12, 0)))), none, none, none, none, some (.inl v5), some (.inl v6), some (.inl v7), none, none, none, none, none], [], m8)) rfl hres (fun hc hres => ?_) (fun hc hres => ?_)
            · refine e_steps 2 (s' := (88, [some (.inr (.inr (some (12, 0)))), none, none, none, none, some (.inl v5), some (.inl v6), some (.inl v7), none, none, none, none, none], [.inl 1], m8)) rfl ?_
              exact e_mask (L' := [some (.inr (.inr (some (12, 0)))), none, none, none, none, some (.inl v5), some (.inl v6), some (.inl v7), none, none, none, none, none]) rfl (hk10 _ hres)
            · refine e_steps 3 (s' := (78, [some (.inr (.inr (some (12, 0)))), none, none, none, none, some (.inl v5), some (.inl v6), some (.inl v7), none, none, none, none, none], [.inl v7, .inr (.inr (some (93, 0)))], m8)) rfl ?_
              refine e_gd (s1 := (79, [some (.inr (.inr (some (12, 0)))), none, none, none, none, some (.inl v5), some (.inl v6), some (.inl v7), none, none, none, none, none], [.inl (m8 93 0 v7.toNatClampNeg)], m8)) rfl hres (fun hc hres => ?_)
              refine e_steps 1 (s' := (80, [some (.inr (.inr (some (12, 0)))), none, none, none, none, some (.inl v5), some (.inl v6), some (.inl v7), none, none, none, none, none], [.inl 3, .inl (m8 93 0 v7.toNatClampNeg)], m8)) rfl ?_
              refine e_if (s1 := (87, [some (.inr (.inr (some (12, 0)))), none, none, none, none, some (.inl v5), some (.inl v6), some (.inl v7), none, none, none, none, none], [], m8)) (s2 := (83, [some (.inr (.inr (some (12, 0)))), none, none, none, none, some (.inl v5), some (.inl v6), some (.inl v7), none, none, none, none, none], [], m8)) rfl hres (fun hc hres => ?_) (fun hc hres => ?_)
              · refine e_steps 1 (s' := (88, [some (.inr (.inr (some (12, 0)))), none, none, none, none, some (.inl v5), some (.inl v6), some (.inl v7), none, none, none, none, none], [.inl 0], m8)) rfl ?_
                exact e_mask (L' := [some (.inr (.inr (some (12, 0)))), none, none, none, none, some (.inl v5), some (.inl v6), some (.inl v7), none, none, none, none, none]) rfl (hk10 _ hres)
              · refine e_steps 2 (s' := (88, [some (.inr (.inr (some (12, 0)))), none, none, none, none, some (.inl v5), some (.inl v6), some (.inl v7), none, none, none, none, none], [.inl 1], m8)) rfl ?_
                exact e_mask (L' := [some (.inr (.inr (some (12, 0)))), none, none, none, none, some (.inl v5), some (.inl v6), some (.inl v7), none, none, none, none, none]) rfl (hk10 _ hres)
