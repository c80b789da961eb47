/-- GlassThreadsModel.echo(IIZII)I -/
def f_X12_echo (a1 : Int32) (a2 : Int32) (a3 : Int32) (a4 : Int32) (a5 : Int32) (m : mm_M) : Option (Int32 × mm_M) :=
mm_let (mm_w m 12 0 3 0) fun m1 =>
mm_b1 (f_X12_isThread a1 m1) fun r2 =>
if r2 = 0 then (mm_b2 (f_X12_fail 1 m1) fun r3 m4 =>
some (r3, m4))
else (mm_b1 (f_X12_isColour a2 m1) fun r5 =>
if r5 = 0 then (mm_b2 (f_X12_fail 1 m1) fun r6 m7 =>
some (r6, m7))
else (mm_b1 (f_X12_isIn a4 0 36499 m1) fun r8 =>
if r8 ≠ 0 then (mm_b1 (f_X12_isIn a5 0 (m1 12 0 5) m1) fun r9 =>
if r9 ≠ 0 then (mm_b1 (f_X12_tellState a1 a4 a5 m1) fun m11 =>
mm_b1 (f_X12_ageOn a1 a4 m11) fun r12 =>
mm_b1 (f_X12_tellRow a1 a2 a3 r12 m11) fun m14 =>
mm_let (mm_w m14 12 0 46 1) fun m15 =>
mm_let (mm_w m15 12 0 57 (m15 12 0 45)) fun m16 =>
(mm_b1 (mm_loop (σ := Int32 × mm_M) (ρ := (mm_M)) (fun (s : Int32 × mm_M) => match s with
| (v18, m19) => (if (m19 12 0 45) ≤ v18 then (some (.inr m19))
else (if mm_in v18 60 then (
if mm_in v18 60 then (
mm_let (mm_w m19 98 0 v18.toNatClampNeg (m19 95 0 v18.toNatClampNeg)) fun m20 =>
if mm_in v18 60 then (
if mm_in v18 60 then (
mm_let (mm_w m20 99 0 v18.toNatClampNeg (m20 96 0 v18.toNatClampNeg)) fun m21 =>
if mm_in v18 60 then (
if mm_in v18 60 then (
mm_let (mm_w m21 100 0 v18.toNatClampNeg (m21 97 0 v18.toNatClampNeg)) fun m22 =>
mm_let (v18 + 1) fun v23 =>
some (.inl (v23, m22))) else none) else none) else none) else none) else none) else none) : Option ((Int32 × mm_M) ⊕ ((mm_M))))) mm_fu (0, m16)) fun m24 =>
some ((m24 12 0 45), m24)))
else (mm_b2 (f_X12_fail 2 m1) fun r25 m26 =>
some (r25, m26)))
else (mm_b2 (f_X12_fail 1 m1) fun r27 m28 =>
some (r27, m28))))
set_option maxHeartbeats 4000000 in
set_option maxRecDepth 100000 in
theorem k_X12_echo (d : Nat) (hd : 5 ≤ d) (a1 : Int32) (a2 : Int32) (a3 : Int32) (a4 : Int32) (a5 : Int32) (m : mm_M) (r : Int32 × mm_M) (hres : f_X12_echo a1 a2 a3 a4 a5 m = some r) : mm_X d 214 [.inr (.inr (some (12, 0))), .inl a1, .inl a2, .inl a3, .inl a4, .inl a5] m (.inl (some (.inl r.1)), r.2, 0, 0) := by
  unfold f_X12_echo at hres
  obtain ⟨d, rfl⟩ : ∃ e, d = e + 1 := ⟨d - 1, by omega⟩
  show mm_E (d + 1) 214 (0, [some (.inr (.inr (some (12, 0)))), some (.inl a1), some (.inl a2), some (.inl a3), some (.inl a4), some (.inl a5), none], [], m) (.inl (some (.inl r.1)), r.2, 0, 0)
  refine e_steps 3 (s' := (5, [some (.inr (.inr (some (12, 0)))), some (.inl a1), some (.inl a2), some (.inl a3), some (.inl a4), some (.inl a5), none], [], (mm_w m 12 0 3 0))) rfl ?_
  refine e_let (fun (m1 : mm_M) => (5, [some (.inr (.inr (some (12, 0)))), some (.inl a1), some (.inl a2), some (.inl a3), some (.inl a4), some (.inl a5), none], [], m1)) hres (fun m1 hres => ?_)
  refine e_steps 2 (s' := (7, [some (.inr (.inr (some (12, 0)))), some (.inl a1), some (.inl a2), some (.inl a3), some (.inl a4), some (.inl a5), none], [.inl a1, .inr (.inr (some (12, 0)))], m1)) rfl ?_
  obtain ⟨r2, hv, hres⟩ := mm_b1_some hres
  refine e_call0 (pc := 10) (L := [some (.inr (.inr (some (12, 0)))), some (.inl a1), some (.inl a2), some (.inl a3), some (.inl a4), some (.inl a5), none]) (st := []) (m' := m1) (v := some (.inl r2)) rfl (k_X12_isThread d (by omega) a1 _ _ hv) ?_
  show mm_E (d + 1) 214 (10, [some (.inr (.inr (some (12, 0)))), some (.inl a1), some (.inl a2), some (.inl a3), some (.inl a4), some (.inl a5), none], [.inl r2], m1) (.inl (some (.inl r.1)), r.2, 0, 0)
  refine e_if (s1 := (32, [some (.inr (.inr (some (12, 0)))), some (.inl a1), some (.inl a2), some (.inl a3), some (.inl a4), some (.inl a5), none], [], m1)) (s2 := (13, [some (.inr (.inr (some (12, 0)))), some (.inl a1), some (.inl a2), some (.inl a3), some (.inl a4), some (.inl a5), none], [], m1)) rfl hres (fun hc hres => ?_) (fun hc hres => ?_)
  · refine e_mask (L' := [some (.inr (.inr (some (12, 0)))), none, none, none, none, none, none]) rfl ?_
    refine e_steps 2 (s' := (34, [some (.inr (.inr (some (12, 0)))), none, none, none, none, none, none], [.inl 1, .inr (.inr (some (12, 0)))], m1)) rfl ?_
    obtain ⟨r3, m4, hv, hres⟩ := mm_b2_some hres
    refine e_call0 (pc := 37) (L := [some (.inr (.inr (some (12, 0)))), none, none, none, none, none, none]) (st := []) (m' := m4) (v := some (.inl r3)) rfl (k_X12_fail d (by omega) 1 _ _ hv) ?_
    show mm_E (d + 1) 214 (37, [some (.inr (.inr (some (12, 0)))), none, none, none, none, none, none], [.inl r3], m4) (.inl (some (.inl r.1)), r.2, 0, 0)
    obtain rfl := Option.some.inj hres
    exact e_ret rfl rfl
  · refine e_steps 1 (s' := (14, [some (.inr (.inr (some (12, 0)))), some (.inl a1), some (.inl a2), some (.inl a3), some (.inl a4), some (.inl a5), none], [.inl a2], m1)) rfl ?_
    obtain ⟨r5, hv, hres⟩ := mm_b1_some hres
    refine e_call0 (pc := 17) (L := [some (.inr (.inr (some (12, 0)))), some (.inl a1), some (.inl a2), some (.inl a3), some (.inl a4), some (.inl a5), none]) (st := []) (m' := m1) (v := some (.inl r5)) rfl (k_X12_isColour d (by omega) a2 _ _ hv) ?_
    show mm_E (d + 1) 214 (17, [some (.inr (.inr (some (12, 0)))), some (.inl a1), some (.inl a2), some (.inl a3), some (.inl a4), some (.inl a5), none], [.inl r5], m1) (.inl (some (.inl r.1)), r.2, 0, 0)
    refine e_if (s1 := (32, [some (.inr (.inr (some (12, 0)))), some (.inl a1), some (.inl a2), some (.inl a3), some (.inl a4), some (.inl a5), none], [], m1)) (s2 := (20, [some (.inr (.inr (some (12, 0)))), some (.inl a1), some (.inl a2), some (.inl a3), some (.inl a4), some (.inl a5), none], [], m1)) rfl hres (fun hc hres => ?_) (fun hc hres => ?_)
    · refine e_mask (L' := [some (.inr (.inr (some (12, 0)))), none, none, none, none, none, none]) rfl ?_
      refine e_steps 2 (s' := (34, [some (.inr (.inr (some (12, 0)))), none, none, none, none, none, none], [.inl 1, .inr (.inr (some (12, 0)))], m1)) rfl ?_
      obtain ⟨r6, m7, hv, hres⟩ := mm_b2_some hres
      refine e_call0 (pc := 37) (L := [some (.inr (.inr (some (12, 0)))), none, none, none, none, none, none]) (st := []) (m' := m7) (v := some (.inl r6)) rfl (k_X12_fail d (by omega) 1 _ _ hv) ?_
      show mm_E (d + 1) 214 (37, [some (.inr (.inr (some (12, 0)))), none, none, none, none, none, none], [.inl r6], m7) (.inl (some (.inl r.1)), r.2, 0, 0)
      obtain rfl := Option.some.inj hres
      exact e_ret rfl rfl
    · refine e_steps 3 (s' := (26, [some (.inr (.inr (some (12, 0)))), some (.inl a1), some (.inl a2), some (.inl a3), some (.inl a4), some (.inl a5), none], [.inl 36499, .inl 0, .inl a4], m1)) rfl ?_
      obtain ⟨r8, hv, hres⟩ := mm_b1_some hres
      refine e_call0 (pc := 29) (L := [some (.inr (.inr (some (12, 0)))), some (.inl a1), some (.inl a2), some (.inl a3), some (.inl a4), some (.inl a5), none]) (st := []) (m' := m1) (v := some (.inl r8)) rfl (k_X12_isIn d (by omega) a4 0 36499 _ _ hv) ?_
      show mm_E (d + 1) 214 (29, [some (.inr (.inr (some (12, 0)))), some (.inl a1), some (.inl a2), some (.inl a3), some (.inl a4), some (.inl a5), none], [.inl r8], m1) (.inl (some (.inl r.1)), r.2, 0, 0)
      refine e_if (s1 := (38, [some (.inr (.inr (some (12, 0)))), some (.inl a1), some (.inl a2), some (.inl a3), some (.inl a4), some (.inl a5), none], [], m1)) (s2 := (32, [some (.inr (.inr (some (12, 0)))), some (.inl a1), some (.inl a2), some (.inl a3), some (.inl a4), some (.inl a5), none], [], m1)) rfl hres (fun hc hres => ?_) (fun hc hres => ?_)
      · refine e_steps 4 (s' := (45, [some (.inr (.inr (some (12, 0)))), some (.inl a1), some (.inl a2), some (.inl a3), some (.inl a4), some (.inl a5), none], [.inl (m1 12 0 5), .inl 0, .inl a5], m1)) rfl ?_
        obtain ⟨r9, hv, hres⟩ := mm_b1_some hres
        refine e_call0 (pc := 48) (L := [some (.inr (.inr (some (12, 0)))), some (.inl a1), some (.inl a2), some (.inl a3), some (.inl a4), some (.inl a5), none]) (st := []) (m' := m1) (v := some (.inl r9)) rfl (k_X12_isIn d (by omega) a5 0 (m1 12 0 5) _ _ hv) ?_
        show mm_E (d + 1) 214 (48, [some (.inr (.inr (some (12, 0)))), some (.inl a1), some (.inl a2), some (.inl a3), some (.inl a4), some (.inl a5), none], [.inl r9], m1) (.inl (some (.inl r.1)), r.2, 0, 0)
        refine e_if (s1 := (57, [some (.inr (.inr (some (12, 0)))), some (.inl a1), some (.inl a2), some (.inl a3), some (.inl a4), some (.inl a5), none], [], m1)) (s2 := (51, [some (.inr (.inr (some (12, 0)))), some (.inl a1), some (.inl a2), some (.inl a3), some (.inl a4), some (.inl a5), none], [], m1)) rfl hres (fun hc hres => ?_) (fun hc hres => ?_)
        · refine e_steps 4 (s' := (63, [some (.inr (.inr (some (12, 0)))), some (.inl a1), some (.inl a2), some (.inl a3), some (.inl a4), some (.inl a5), none], [.inl a5, .inl a4, .inl a1, .inr (.inr (some (12, 0)))], m1)) rfl ?_
          obtain ⟨m11, hv, hres⟩ := mm_b1_some hres
          refine e_call0 (pc := 66) (L := [some (.inr (.inr (some (12, 0)))), some (.inl a1), some (.inl a2), some (.inl a3), some (.inl a4), some (.inl a5), none]) (st := []) (m' := m11) (v := none) rfl (k_X12_tellState d (by omega) a1 a4 a5 _ _ hv) ?_
          show mm_E (d + 1) 214 (66, [some (.inr (.inr (some (12, 0)))), some (.inl a1), some (.inl a2), some (.inl a3), some (.inl a4), some (.inl a5), none], [], m11) (.inl (some (.inl r.1)), r.2, 0, 0)
          refine e_steps 7 (s' := (74, [some (.inr (.inr (some (12, 0)))), some (.inl a1), some (.inl a2), some (.inl a3), some (.inl a4), some (.inl a5), none], [.inl a4, .inl a1, .inr (.inr (some (12, 0))), .inl a3, .inl a2, .inl a1, .inr (.inr (some (12, 0)))], m11)) rfl ?_
          obtain ⟨r12, hv, hres⟩ := mm_b1_some hres
          refine e_call0 (pc := 77) (L := [some (.inr (.inr (some (12, 0)))), some (.inl a1), some (.inl a2), some (.inl a3), some (.inl a4), some (.inl a5), none]) (st := [.inl a3, .inl a2, .inl a1, .inr (.inr (some (12, 0)))]) (m' := m11) (v := some (.inl r12)) rfl (k_X12_ageOn d (by omega) a1 a4 _ _ hv) ?_
          show mm_E (d + 1) 214 (77, [some (.inr (.inr (some (12, 0)))), some (.inl a1), some (.inl a2), some (.inl a3), some (.inl a4), some (.inl a5), none], [.inl r12, .inl a3, .inl a2, .inl a1, .inr (.inr (some (12, 0)))], m11) (.inl (some (.inl r.1)), r.2, 0, 0)
          obtain ⟨m14, hv, hres⟩ := mm_b1_some hres
          refine e_call0 (pc := 80) (L := [some (.inr (.inr (some (12, 0)))), some (.inl a1), some (.inl a2), some (.inl a3), some (.inl a4), some (.inl a5), none]) (st := []) (m' := m14) (v := none) rfl (k_X12_tellRow d (by omega) a1 a2 a3 r12 _ _ hv) ?_
          show mm_E (d + 1) 214 (80, [some (.inr (.inr (some (12, 0)))), some (.inl a1), some (.inl a2), some (.inl a3), some (.inl a4), some (.inl a5), none], [], m14) (.inl (some (.inl r.1)), r.2, 0, 0)
          refine e_steps 3 (s' := (85, [some (.inr (.inr (some (12, 0)))), some (.inl a1), some (.inl a2), some (.inl a3), some (.inl a4), some (.inl a5), none], [], (mm_w m14 12 0 46 1))) rfl ?_
          refine e_let (fun (m15 : mm_M) => (85, [some (.inr (.inr (some (12, 0)))), some (.inl a1), some (.inl a2), some (.inl a3), some (.inl a4), some (.inl a5), none], [], m15)) hres (fun m15 hres => ?_)
          refine e_steps 4 (s' := (93, [some (.inr (.inr (some (12, 0)))), some (.inl a1), some (.inl a2), some (.inl a3), some (.inl a4), some (.inl a5), none], [], (mm_w m15 12 0 57 (m15 12 0 45)))) rfl ?_
          refine e_let (fun (m16 : mm_M) => (93, [some (.inr (.inr (some (12, 0)))), some (.inl a1), some (.inl a2), some (.inl a3), some (.inl a4), some (.inl a5), none], [], m16)) hres (fun m16 hres => ?_)
          refine e_steps 2 (s' := (96, [some (.inr (.inr (some (12, 0)))), some (.inl a1), some (.inl a2), some (.inl a3), some (.inl a4), some (.inl a5), some (.inl 0)], [], m16)) rfl ?_
          refine e_mask (L' := [some (.inr (.inr (some (12, 0)))), none, none, none, none, none, some (.inl 0)]) rfl ?_
          refine e_loopb (φ := fun s => (96, [some (.inr (.inr (some (12, 0)))), none, none, none, none, none, some (.inl s.1)], [], s.2)) (K := fun t => mm_E (d + 1) 214 (153, [some (.inr (.inr (some (12, 0)))), none, none, none, none, none, none], [], t) (.inl (some (.inl r.1)), r.2, 0, 0)) hres (fun m24 hres => ?_) (fun s ol17 hres hcl17 hxl17 => ?_)
          · show mm_E (d + 1) 214 (153, [some (.inr (.inr (some (12, 0)))), none, none, none, none, none, none], [], m24) (.inl (some (.inl r.1)), r.2, 0, 0)
            refine e_steps 2 (s' := (157, [some (.inr (.inr (some (12, 0)))), none, none, none, none, none, none], [.inl (m24 12 0 45)], m24)) rfl ?_
            obtain rfl := Option.some.inj hres
            exact e_ret rfl rfl
          · obtain ⟨v18, m19⟩ := s
            show mm_E (d + 1) 214 (96, [some (.inr (.inr (some (12, 0)))), none, none, none, none, none, some (.inl v18)], [], m19) (.inl (some (.inl r.1)), r.2, 0, 0)
            refine e_steps 3 (s' := (102, [some (.inr (.inr (some (12, 0)))), none, none, none, none, none, some (.inl v18)], [.inl (m19 12 0 45), .inl v18], m19)) rfl ?_
            refine e_if (s1 := (153, [some (.inr (.inr (some (12, 0)))), none, none, none, none, none, some (.inl v18)], [], m19)) (s2 := (105, [some (.inr (.inr (some (12, 0)))), none, none, none, none, none, some (.inl v18)], [], m19)) rfl hres (fun hc hres => ?_) (fun hc hres => ?_)
            · obtain rfl := Option.some.inj hres
              exact e_mask (L' := [some (.inr (.inr (some (12, 0)))), none, none, none, none, none, none]) rfl (hxl17 _ rfl)
            · refine e_steps 6 (s' := (117, [some (.inr (.inr (some (12, 0)))), none, none, none, none, none, some (.inl v18)], [.inl v18, .inr (.inr (some (95, 0))), .inl v18, .inr (.inr (some (98, 0)))], m19)) rfl ?_
              refine e_gd (s1 := (118, [some (.inr (.inr (some (12, 0)))), none, none, none, none, none, some (.inl v18)], [.inl (m19 95 0 v18.toNatClampNeg), .inl v18, .inr (.inr (some (98, 0)))], m19)) rfl hres (fun hc hres => ?_)
              refine e_gd (s1 := (119, [some (.inr (.inr (some (12, 0)))), none, none, none, none, none, some (.inl v18)], [], (mm_w m19 98 0 v18.toNatClampNeg (m19 95 0 v18.toNatClampNeg)))) rfl hres (fun hc hres => ?_)
              refine e_let (fun (m20 : mm_M) => (119, [some (.inr (.inr (some (12, 0)))), none, none, none, none, none, some (.inl v18)], [], m20)) hres (fun m20 hres => ?_)
              refine e_steps 6 (s' := (131, [some (.inr (.inr (some (12, 0)))), none, none, none, none, none, some (.inl v18)], [.inl v18, .inr (.inr (some (96, 0))), .inl v18, .inr (.inr (some (99, 0)))], m20)) rfl ?_
              refine e_gd (s1 := (132, [some (.inr (.inr (some (12, 0)))), none, none, none, none, none, some (.inl v18)], [.inl (m20 96 0 v18.toNatClampNeg), .inl v18, .inr (.inr (some (99, 0)))], m20)) rfl hres (fun hc hres => ?_)
              refine e_gd (s1 := (133, [some (.inr (.inr (some (12, 0)))), none, none, none, none, none, some (.inl v18)], [], (mm_w m20 99 0 v18.toNatClampNeg (m20 96 0 v18.toNatClampNeg)))) rfl hres (fun hc hres => ?_)
              refine e_let (fun (m21 : mm_M) => (133, [some (.inr (.inr (some (12, 0)))), none, none, none, none, none, some (.inl v18)], [], m21)) hres (fun m21 hres => ?_)
              refine e_steps 6 (s' := (145, [some (.inr (.inr (some (12, 0)))), none, none, none, none, none, some (.inl v18)], [.inl v18, .inr (.inr (some (97, 0))), .inl v18, .inr (.inr (some (100, 0)))], m21)) rfl ?_
              refine e_gd (s1 := (146, [some (.inr (.inr (some (12, 0)))), none, none, none, none, none, some (.inl v18)], [.inl (m21 97 0 v18.toNatClampNeg), .inl v18, .inr (.inr (some (100, 0)))], m21)) rfl hres (fun hc hres => ?_)
              refine e_gd (s1 := (147, [some (.inr (.inr (some (12, 0)))), none, none, none, none, none, some (.inl v18)], [], (mm_w m21 100 0 v18.toNatClampNeg (m21 97 0 v18.toNatClampNeg)))) rfl hres (fun hc hres => ?_)
              refine e_let (fun (m22 : mm_M) => (147, [some (.inr (.inr (some (12, 0)))), none, none, none, none, none, some (.inl v18)], [], m22)) hres (fun m22 hres => ?_)
              refine e_steps 1 (s' := (150, [some (.inr (.inr (some (12, 0)))), none, none, none, none, none, some (.inl (v18 + 1))], [], m22)) rfl ?_
              refine e_let (fun (v23 : Int32) => (150, [some (.inr (.inr (some (12, 0)))), none, none, none, none, none, some (.inl v23)], [], m22)) hres (fun v23 hres => ?_)
              refine e_steps 1 (s' := (96, [some (.inr (.inr (some (12, 0)))), none, none, none, none, none, some (.inl v23)], [], m22)) rfl ?_
              obtain rfl := Option.some.inj hres
              exact e_mask (L' := [some (.inr (.inr (some (12, 0)))), none, none, none, none, none, some (.inl v23)]) rfl (hcl17 _ rfl)
        · refine e_steps 2 (s' := (53, [some (.inr (.inr (some (12, 0)))), some (.inl a1), some (.inl a2), some (.inl a3), some (.inl a4), some (.inl a5), none], [.inl 2, .inr (.inr (some (12, 0)))], m1)) rfl ?_
          obtain ⟨r25, m26, hv, hres⟩ := mm_b2_some hres
          refine e_call0 (pc := 56) (L := [some (.inr (.inr (some (12, 0)))), some (.inl a1), some (.inl a2), some (.inl a3), some (.inl a4), some (.inl a5), none]) (st := []) (m' := m26) (v := some (.inl r25)) rfl (k_X12_fail d (by omega) 2 _ _ hv) ?_
          show mm_E (d + 1) 214 (56, [some (.inr (.inr (some (12, 0)))), some (.inl a1), some (.inl a2), some (.inl a3), some (.inl a4), some (.inl a5), none], [.inl r25], m26) (.inl (some (.inl r.1)), r.2, 0, 0)
          obtain rfl := Option.some.inj hres
          exact e_ret rfl rfl
      · refine e_mask (L' := [some (.inr (.inr (some (12, 0)))), none, none, none, none, none, none]) rfl ?_
        refine e_steps 2 (s' := (34, [some (.inr (.inr (some (12, 0)))), none, none, none, none, none, none], [.inl 1, .inr (.inr (some (12, 0)))], m1)) rfl ?_
        obtain ⟨r27, m28, hv, hres⟩ := mm_b2_some hres
        refine e_call0 (pc := 37) (L := [some (.inr (.inr (some (12, 0)))), none, none, none, none, none, none]) (st := []) (m' := m28) (v := some (.inl r27)) rfl (k_X12_fail d (by omega) 1 _ _ hv) ?_
        show mm_E (d + 1) 214 (37, [some (.inr (.inr (some (12, 0)))), none, none, none, none, none, none], [.inl r27], m28) (.inl (some (.inl r.1)), r.2, 0, 0)
        obtain rfl := Option.some.inj hres
        exact e_ret rfl rfl
/-- GlassThreadsModel.echoed(II)I -/
def f_X12_echoed (a1 : Int32) (a2 : Int32) (m : mm_M) : Option (Int32 × mm_M) :=
mm_let (mm_w m 12 0 3 0) fun m1 =>
if (m1 12 0 46) = 0 then (mm_b2 (f_X12_fail 1 m1) fun r2 m3 =>
some (r2, m3))
else (mm_b1 (f_X12_isIn a1 0 ((m1 12 0 57) - 1) m1) fun r4 =>
if r4 = 0 then (mm_b2 (f_X12_fail 1 m1) fun r5 m6 =>
some (r5, m6))
else (mm_b1 (f_X12_isIn a2 0 2 m1) fun r7 =>
if r7 ≠ 0 then (if a2 ≠ 0 then (if a2 ≠ 1 then (if mm_in a1 60 then (
some ((m1 100 0 a1.toNatClampNeg), m1)) else none)
else (if mm_in a1 60 then (
some ((m1 99 0 a1.toNatClampNeg), m1)) else none))
else (if mm_in a1 60 then (
some ((m1 98 0 a1.toNatClampNeg), m1)) else none))
else (mm_b2 (f_X12_fail 1 m1) fun r8 m9 =>
some (r8, m9))))
set_option maxHeartbeats 4000000 in
set_option maxRecDepth 100000 in
theorem k_X12_echoed (d : Nat) (hd : 1 ≤ d) (a1 : Int32) (a2 : Int32) (m : mm_M) (r : Int32 × mm_M) (hres : f_X12_echoed a1 a2 m = some r) : mm_X d 215 [.inr (.inr (some (12, 0))), .inl a1, .inl a2] m (.inl (some (.inl r.1)), r.2, 0, 0) := by
  unfold f_X12_echoed at hres
  obtain ⟨d, rfl⟩ : ∃ e, d = e + 1 := ⟨d - 1, by omega⟩
  show mm_E (d + 1) 215 (0, [some (.inr (.inr (some (12, 0)))), some (.inl a1), some (.inl a2)], [], m) (.inl (some (.inl r.1)), r.2, 0, 0)
  refine e_steps 3 (s' := (5, [some (.inr (.inr (some (12, 0)))), some (.inl a1), some (.inl a2)], [], (mm_w m 12 0 3 0))) rfl ?_
  refine e_let (fun (m1 : mm_M) => (5, [some (.inr (.inr (some (12, 0)))), some (.inl a1), some (.inl a2)], [], m1)) hres (fun m1 hres => ?_)
  refine e_steps 2 (s' := (9, [some (.inr (.inr (some (12, 0)))), some (.inl a1), some (.inl a2)], [.inl (m1 12 0 46)], m1)) rfl ?_
  refine e_if (s1 := (35, [some (.inr (.inr (some (12, 0)))), some (.inl a1), some (.inl a2)], [], m1)) (s2 := (12, [some (.inr (.inr (some (12, 0)))), some (.inl a1), some (.inl a2)], [], m1)) rfl hres (fun hc hres => ?_) (fun hc hres => ?_)
  · refine e_mask (L' := [some (.inr (.inr (some (12, 0)))), none, none]) rfl ?_
    refine e_steps 2 (s' := (37, [some (.inr (.inr (some (12, 0)))), none, none], [.inl 1, .inr (.inr (some (12, 0)))], m1)) rfl ?_
    obtain ⟨r2, m3, hv, hres⟩ := mm_b2_some hres
    refine e_call0 (pc := 40) (L := [some (.inr (.inr (some (12, 0)))), none, none]) (st := []) (m' := m3) (v := some (.inl r2)) rfl (k_X12_fail d (by omega) 1 _ _ hv) ?_
    show mm_E (d + 1) 215 (40, [some (.inr (.inr (some (12, 0)))), none, none], [.inl r2], m3) (.inl (some (.inl r.1)), r.2, 0, 0)
    obtain rfl := Option.some.inj hres
    exact e_ret rfl rfl
  · refine e_steps 6 (s' := (20, [some (.inr (.inr (some (12, 0)))), some (.inl a1), some (.inl a2)], [.inl ((m1 12 0 57) - 1), .inl 0, .inl a1], m1)) rfl ?_
    obtain ⟨r4, hv, hres⟩ := mm_b1_some hres
    refine e_call0 (pc := 23) (L := [some (.inr (.inr (some (12, 0)))), some (.inl a1), some (.inl a2)]) (st := []) (m' := m1) (v := some (.inl r4)) rfl (k_X12_isIn d (by omega) a1 0 ((m1 12 0 57) - 1) _ _ hv) ?_
    show mm_E (d + 1) 215 (23, [some (.inr (.inr (some (12, 0)))), some (.inl a1), some (.inl a2)], [.inl r4], m1) (.inl (some (.inl r.1)), r.2, 0, 0)
    refine e_if (s1 := (35, [some (.inr (.inr (some (12, 0)))), some (.inl a1), some (.inl a2)], [], m1)) (s2 := (26, [some (.inr (.inr (some (12, 0)))), some (.inl a1), some (.inl a2)], [], m1)) rfl hres (fun hc hres => ?_) (fun hc hres => ?_)
    · refine e_mask (L' := [some (.inr (.inr (some (12, 0)))), none, none]) rfl ?_
      refine e_steps 2 (s' := (37, [some (.inr (.inr (some (12, 0)))), none, none], [.inl 1, .inr (.inr (some (12, 0)))], m1)) rfl ?_
      obtain ⟨r5, m6, hv, hres⟩ := mm_b2_some hres
      refine e_call0 (pc := 40) (L := [some (.inr (.inr (some (12, 0)))), none, none]) (st := []) (m' := m6) (v := some (.inl r5)) rfl (k_X12_fail d (by omega) 1 _ _ hv) ?_
      show mm_E (d + 1) 215 (40, [some (.inr (.inr (some (12, 0)))), none, none], [.inl r5], m6) (.inl (some (.inl r.1)), r.2, 0, 0)
      obtain rfl := Option.some.inj hres
      exact e_ret rfl rfl
    · refine e_steps 3 (s' := (29, [some (.inr (.inr (some (12, 0)))), some (.inl a1), some (.inl a2)], [.inl 2, .inl 0, .inl a2], m1)) rfl ?_
      obtain ⟨r7, hv, hres⟩ := mm_b1_some hres
      refine e_call0 (pc := 32) (L := [some (.inr (.inr (some (12, 0)))), some (.inl a1), some (.inl a2)]) (st := []) (m' := m1) (v := some (.inl r7)) rfl (k_X12_isIn d (by omega) a2 0 2 _ _ hv) ?_
      show mm_E (d + 1) 215 (32, [some (.inr (.inr (some (12, 0)))), some (.inl a1), some (.inl a2)], [.inl r7], m1) (.inl (some (.inl r.1)), r.2, 0, 0)
      refine e_if (s1 := (41, [some (.inr (.inr (some (12, 0)))), some (.inl a1), some (.inl a2)], [], m1)) (s2 := (35, [some (.inr (.inr (some (12, 0)))), some (.inl a1), some (.inl a2)], [], m1)) rfl hres (fun hc hres => ?_) (fun hc hres => ?_)
      · refine e_steps 1 (s' := (42, [some (.inr (.inr (some (12, 0)))), some (.inl a1), some (.inl a2)], [.inl a2], m1)) rfl ?_
        refine e_if (s1 := (54, [some (.inr (.inr (some (12, 0)))), some (.inl a1), some (.inl a2)], [], m1)) (s2 := (45, [some (.inr (.inr (some (12, 0)))), some (.inl a1), some (.inl a2)], [], m1)) rfl hres (fun hc hres => ?_) (fun hc hres => ?_)
        · refine e_steps 2 (s' := (56, [some (.inr (.inr (some (12, 0)))), some (.inl a1), some (.inl a2)], [.inl 1, .inl a2], m1)) rfl ?_
          refine e_if (s1 := (68, [some (.inr (.inr (some (12, 0)))), some (.inl a1), some (.inl a2)], [], m1)) (s2 := (59, [some (.inr (.inr (some (12, 0)))), some (.inl a1), some (.inl a2)], [], m1)) rfl hres (fun hc hres => ?_) (fun hc hres => ?_)
          · refine e_steps 3 (s' := (73, [some (.inr (.inr (some (12, 0)))), some (.inl a1), some (.inl a2)], [.inl a1, .inr (.inr (some (100, 0)))], m1)) rfl ?_
            refine e_gd (s1 := (74, [some (.inr (.inr (some (12, 0)))), some (.inl a1), some (.inl a2)], [.inl (m1 100 0 a1.toNatClampNeg)], m1)) rfl hres (fun hc hres => ?_)
            refine e_mask (L' := [none, none, none]) rfl ?_
            obtain rfl := Option.some.inj hres
            exact e_ret rfl rfl
          · refine e_steps 3 (s' := (64, [some (.inr (.inr (some (12, 0)))), some (.inl a1), some (.inl a2)], [.inl a1, .inr (.inr (some (99, 0)))], m1)) rfl ?_
            refine e_gd (s1 := (65, [some (.inr (.inr (some (12, 0)))), some (.inl a1), some (.inl a2)], [.inl (m1 99 0 a1.toNatClampNeg)], m1)) rfl hres (fun hc hres => ?_)
            refine e_steps 1 (s' := (74, [some (.inr (.inr (some (12, 0)))), some (.inl a1), some (.inl a2)], [.inl (m1 99 0 a1.toNatClampNeg)], m1)) rfl ?_
            refine e_mask (L' := [none, none, none]) rfl ?_
            obtain rfl := Option.some.inj hres
            exact e_ret rfl rfl
        · refine e_steps 3 (s' := (50, [some (.inr (.inr (some (12, 0)))), some (.inl a1), some (.inl a2)], [.inl a1, .inr (.inr (some (98, 0)))], m1)) rfl ?_
          refine e_gd (s1 := (51, [some (.inr (.inr (some (12, 0)))), some (.inl a1), some (.inl a2)], [.inl (m1 98 0 a1.toNatClampNeg)], m1)) rfl hres (fun hc hres => ?_)
          refine e_steps 1 (s' := (74, [some (.inr (.inr (some (12, 0)))), some (.inl a1), some (.inl a2)], [.inl (m1 98 0 a1.toNatClampNeg)], m1)) rfl ?_
          refine e_mask (L' := [none, none, none]) rfl ?_
          obtain rfl := Option.some.inj hres
          exact e_ret rfl rfl
      · refine e_mask (L' := [some (.inr (.inr (some (12, 0)))), none, none]) rfl ?_
        refine e_steps 2 (s' := (37, [some (.inr (.inr (some (12, 0)))), none, none], [.inl 1, .inr (.inr (some (12, 0)))], m1)) rfl ?_
        obtain ⟨r8, m9, hv, hres⟩ := mm_b2_some hres
        refine e_call0 (pc := 40) (L := [some (.inr (.inr (some (12, 0)))), none, none]) (st := []) (m' := m9) (v := some (.inl r8)) rfl (k_X12_fail d (by omega) 1 _ _ hv) ?_
        show mm_E (d + 1) 215 (40, [some (.inr (.inr (some (12, 0)))), none, none], [.inl r8], m9) (.inl (some (.inl r.1)), r.2, 0, 0)
        obtain rfl := Option.some.inj hres
        exact e_ret rfl rfl
/-- GlassThreadsModel.look(I)V -/
def f_X12_look (a1 : Int32) (m : mm_M) : Option (mm_M) :=
mm_let (mm_w m 12 0 3 0) fun m1 =>
mm_b1 (f_X12_isThread a1 m1) fun r2 =>
if r2 ≠ 0 then (mm_let (mm_w m1 12 0 61 a1) fun m3 =>
mm_let (mm_w m3 12 0 62 0) fun m4 =>
mm_let (mm_w m4 105 0 0 (-1)) fun m5 =>
mm_let (mm_w m5 105 0 1 (-1)) fun m6 =>
some m6)
else (mm_b2 (f_X12_fail 1 m1) fun r7 m8 =>
some m8)
set_option maxHeartbeats 4000000 in
set_option maxRecDepth 100000 in
theorem k_X12_look (d : Nat) (hd : 2 ≤ d) (a1 : Int32) (m : mm_M) (r : mm_M) (hres : f_X12_look a1 m = some r) : mm_X d 216 [.inr (.inr (some (12, 0))), .inl a1] m (.inl none, r, 0, 0) := by
  unfold f_X12_look at hres
  obtain ⟨d, rfl⟩ : ∃ e, d = e + 1 := ⟨d - 1, by omega⟩
  show mm_E (d + 1) 216 (0, [some (.inr (.inr (some (12, 0)))), some (.inl a1)], [], m) (.inl none, r, 0, 0)
  refine e_steps 3 (s' := (5, [some (.inr (.inr (some (12, 0)))), some (.inl a1)], [], (mm_w m 12 0 3 0))) rfl ?_
  refine e_let (fun (m1 : mm_M) => (5, [some (.inr (.inr (some (12, 0)))), some (.inl a1)], [], m1)) hres (fun m1 hres => ?_)
  refine e_steps 2 (s' := (7, [some (.inr (.inr (some (12, 0)))), some (.inl a1)], [.inl a1, .inr (.inr (some (12, 0)))], m1)) rfl ?_
  obtain ⟨r2, hv, hres⟩ := mm_b1_some hres
  refine e_call0 (pc := 10) (L := [some (.inr (.inr (some (12, 0)))), some (.inl a1)]) (st := []) (m' := m1) (v := some (.inl r2)) rfl (k_X12_isThread d (by omega) a1 _ _ hv) ?_
  show mm_E (d + 1) 216 (10, [some (.inr (.inr (some (12, 0)))), some (.inl a1)], [.inl r2], m1) (.inl none, r, 0, 0)
  refine e_if (s1 := (20, [some (.inr (.inr (some (12, 0)))), some (.inl a1)], [], m1)) (s2 := (13, [some (.inr (.inr (some (12, 0)))), some (.inl a1)], [], m1)) rfl hres (fun hc hres => ?_) (fun hc hres => ?_)
  · refine e_steps 3 (s' := (25, [some (.inr (.inr (some (12, 0)))), some (.inl a1)], [], (mm_w m1 12 0 61 a1))) rfl ?_
    refine e_let (fun (m3 : mm_M) => (25, [some (.inr (.inr (some (12, 0)))), some (.inl a1)], [], m3)) hres (fun m3 hres => ?_)
    refine e_steps 3 (s' := (30, [some (.inr (.inr (some (12, 0)))), some (.inl a1)], [], (mm_w m3 12 0 62 0))) rfl ?_
    refine e_let (fun (m4 : mm_M) => (30, [some (.inr (.inr (some (12, 0)))), some (.inl a1)], [], m4)) hres (fun m4 hres => ?_)
    refine e_steps 5 (s' := (37, [some (.inr (.inr (some (12, 0)))), some (.inl a1)], [], (mm_w m4 105 0 0 (-1)))) rfl ?_
    refine e_let (fun (m5 : mm_M) => (37, [some (.inr (.inr (some (12, 0)))), some (.inl a1)], [], m5)) hres (fun m5 hres => ?_)
    refine e_steps 5 (s' := (44, [some (.inr (.inr (some (12, 0)))), some (.inl a1)], [], (mm_w m5 105 0 1 (-1)))) rfl ?_
    refine e_let (fun (m6 : mm_M) => (44, [some (.inr (.inr (some (12, 0)))), some (.inl a1)], [], m6)) hres (fun m6 hres => ?_)
    obtain rfl := Option.some.inj hres
    exact e_ret rfl rfl
  · refine e_steps 2 (s' := (15, [some (.inr (.inr (some (12, 0)))), some (.inl a1)], [.inl 1, .inr (.inr (some (12, 0)))], m1)) rfl ?_
    obtain ⟨r7, m8, hv, hres⟩ := mm_b2_some hres
    refine e_call0 (pc := 18) (L := [some (.inr (.inr (some (12, 0)))), some (.inl a1)]) (st := []) (m' := m8) (v := some (.inl r7)) rfl (k_X12_fail d (by omega) 1 _ _ hv) ?_
    show mm_E (d + 1) 216 (18, [some (.inr (.inr (some (12, 0)))), some (.inl a1)], [.inl r7], m8) (.inl none, r, 0, 0)
    refine e_steps 1 (s' := (19, [some (.inr (.inr (some (12, 0)))), some (.inl a1)], [], m8)) rfl ?_
    obtain rfl := Option.some.inj hres
    exact e_ret rfl rfl
/-- GlassThreadsModel.suspect(II)I -/
def f_X12_suspect (a1 : Int32) (a2 : Int32) (m : mm_M) : Option (Int32 × mm_M) :=
mm_let (mm_w m 12 0 3 0) fun m1 =>
if (m1 12 0 61) = (-1) then (mm_b2 (f_X12_fail 1 m1) fun r2 m3 =>
some (r2, m3))
else (mm_b1 (f_X12_isPart (m1 12 0 61) a1 m1) fun r4 =>
if r4 ≠ 0 then (if mm_in ((24 * (m1 12 0 61)) + a1) 216 then (
if (m1 69 0 ((24 * (m1 12 0 61)) + a1).toNatClampNeg) ≠ 0 then ((mm_b1 (mm_loop (σ := Int32 × Int32) (ρ := (Int32)) (fun (s : Int32 × Int32) => match s with
| (v6, v7) => (if (m1 12 0 62) ≤ v7 then (some (.inr v6))
else (if v6 = 0 then (mm_let (v7 + 1) fun v8 =>
some (.inl (0, v8)))
else (if mm_in v7 8 then (
if (m1 103 0 v7.toNatClampNeg) = a1 then (mm_let (v7 + 1) fun v9 =>
some (.inl (0, v9)))
else (mm_let (v7 + 1) fun v10 =>
some (.inl (1, v10)))) else none)) : Option ((Int32 × Int32) ⊕ ((Int32))))) mm_fu (0, 0)) fun v11 =>
if v11 ≠ 0 then (if mm_in (m1 12 0 62) 8 then (
mm_let (mm_w m1 103 0 ((m1 12 0 62).toNatClampNeg) a1) fun m12 =>
if mm_in (m12 12 0 62) 8 then (
mm_let (mm_w m12 104 0 ((m12 12 0 62).toNatClampNeg) a2) fun m13 =>
mm_let (mm_w m13 12 0 62 ((m13 12 0 62) + 1)) fun m14 =>
some ((m14 12 0 62), m14)) else none) else none)
else (some ((-1), m1))))
else (mm_b1 (f_X12_isIn a2 1 20000 m1) fun r15 =>
if r15 = 0 then ((mm_b1 (mm_loop (σ := Int32 × Int32) (ρ := (Int32)) (fun (s : Int32 × Int32) => match s with
| (v17, v18) => (if (m1 12 0 62) ≤ v18 then (some (.inr v17))
else (if v17 = 0 then (mm_let (v18 + 1) fun v19 =>
some (.inl (0, v19)))
else (if mm_in v18 8 then (
if (m1 103 0 v18.toNatClampNeg) = a1 then (mm_let (v18 + 1) fun v20 =>
some (.inl (0, v20)))
else (mm_let (v18 + 1) fun v21 =>
some (.inl (1, v21)))) else none)) : Option ((Int32 × Int32) ⊕ ((Int32))))) mm_fu (0, 0)) fun v22 =>
if v22 ≠ 0 then (if mm_in (m1 12 0 62) 8 then (
mm_let (mm_w m1 103 0 ((m1 12 0 62).toNatClampNeg) a1) fun m23 =>
if mm_in (m23 12 0 62) 8 then (
mm_let (mm_w m23 104 0 ((m23 12 0 62).toNatClampNeg) a2) fun m24 =>
mm_let (mm_w m24 12 0 62 ((m24 12 0 62) + 1)) fun m25 =>
some ((m25 12 0 62), m25)) else none) else none)
else (some ((-1), m1))))
else (if 8 ≤ (m1 12 0 62) then ((mm_b1 (mm_loop (σ := Int32 × Int32) (ρ := (Int32)) (fun (s : Int32 × Int32) => match s with
| (v27, v28) => (if (m1 12 0 62) ≤ v28 then (some (.inr v27))
else (if v27 = 0 then (mm_let (v28 + 1) fun v29 =>
some (.inl (0, v29)))
else (if mm_in v28 8 then (
if (m1 103 0 v28.toNatClampNeg) = a1 then (mm_let (v28 + 1) fun v30 =>
some (.inl (0, v30)))
else (mm_let (v28 + 1) fun v31 =>
some (.inl (1, v31)))) else none)) : Option ((Int32 × Int32) ⊕ ((Int32))))) mm_fu (0, 0)) fun v32 =>
if v32 ≠ 0 then (if mm_in (m1 12 0 62) 8 then (
mm_let (mm_w m1 103 0 ((m1 12 0 62).toNatClampNeg) a1) fun m33 =>
if mm_in (m33 12 0 62) 8 then (
mm_let (mm_w m33 104 0 ((m33 12 0 62).toNatClampNeg) a2) fun m34 =>
mm_let (mm_w m34 12 0 62 ((m34 12 0 62) + 1)) fun m35 =>
some ((m35 12 0 62), m35)) else none) else none)
else (some ((-1), m1))))
else ((mm_b1 (mm_loop (σ := Int32 × Int32) (ρ := (Int32)) (fun (s : Int32 × Int32) => match s with
| (v37, v38) => (if (m1 12 0 62) ≤ v38 then (some (.inr v37))
else (if v37 = 0 then (mm_let (v38 + 1) fun v39 =>
some (.inl (0, v39)))
else (if mm_in v38 8 then (
if (m1 103 0 v38.toNatClampNeg) = a1 then (mm_let (v38 + 1) fun v40 =>
some (.inl (0, v40)))
else (mm_let (v38 + 1) fun v41 =>
some (.inl (1, v41)))) else none)) : Option ((Int32 × Int32) ⊕ ((Int32))))) mm_fu (1, 0)) fun v42 =>
if v42 ≠ 0 then (if mm_in (m1 12 0 62) 8 then (
mm_let (mm_w m1 103 0 ((m1 12 0 62).toNatClampNeg) a1) fun m43 =>
if mm_in (m43 12 0 62) 8 then (
mm_let (mm_w m43 104 0 ((m43 12 0 62).toNatClampNeg) a2) fun m44 =>
mm_let (mm_w m44 12 0 62 ((m44 12 0 62) + 1)) fun m45 =>
some ((m45 12 0 62), m45)) else none) else none)
else (some ((-1), m1))))))) else none)
else (mm_b2 (f_X12_fail 1 m1) fun r46 m47 =>
some (r46, m47)))
set_option maxHeartbeats 4000000 in
set_option maxRecDepth 100000 in
theorem k_X12_suspect (d : Nat) (hd : 3 ≤ d) (a1 : Int32) (a2 : Int32) (m : mm_M) (r : Int32 × mm_M) (hres : f_X12_suspect a1 a2 m = some r) : mm_X d 217 [.inr (.inr (some (12, 0))), .inl a1, .inl a2] m (.inl (some (.inl r.1)), r.2, 0, 0) := by
  unfold f_X12_suspect at hres
  obtain ⟨d, rfl⟩ : ∃ e, d = e + 1 := ⟨d - 1, by omega⟩
  show mm_E (d + 1) 217 (0, [some (.inr (.inr (some (12, 0)))), some (.inl a1), some (.inl a2), none, none], [], m) (.inl (some (.inl r.1)), r.2, 0, 0)
  refine e_steps 3 (s' := (5, [some (.inr (.inr (some (12, 0)))), some (.inl a1), some (.inl a2), none, none], [], (mm_w m 12 0 3 0))) rfl ?_
  refine e_let (fun (m1 : mm_M) => (5, [some (.inr (.inr (some (12, 0)))), some (.inl a1), some (.inl a2), none, none], [], m1)) hres (fun m1 hres => ?_)
  refine e_steps 3 (s' := (10, [some (.inr (.inr (some (12, 0)))), some (.inl a1), some (.inl a2), none, none], [.inl (-1), .inl (m1 12 0 61)], m1)) rfl ?_
  refine e_if (s1 := (25, [some (.inr (.inr (some (12, 0)))), some (.inl a1), some (.inl a2), none, none], [], m1)) (s2 := (13, [some (.inr (.inr (some (12, 0)))), some (.inl a1), some (.inl a2), none, none], [], m1)) rfl hres (fun hc hres => ?_) (fun hc hres => ?_)
  · refine e_mask (L' := [some (.inr (.inr (some (12, 0)))), none, none, none, none]) rfl ?_
    refine e_steps 2 (s' := (27, [some (.inr (.inr (some (12, 0)))), none, none, none, none], [.inl 1, .inr (.inr (some (12, 0)))], m1)) rfl ?_
    obtain ⟨r2, m3, hv, hres⟩ := mm_b2_some hres
    refine e_call0 (pc := 30) (L := [some (.inr (.inr (some (12, 0)))), none, none, none, none]) (st := []) (m' := m3) (v := some (.inl r2)) rfl (k_X12_fail d (by omega) 1 _ _ hv) ?_
    show mm_E (d + 1) 217 (30, [some (.inr (.inr (some (12, 0)))), none, none, none, none], [.inl r2], m3) (.inl (some (.inl r.1)), r.2, 0, 0)
    obtain rfl := Option.some.inj hres
    exact e_ret rfl rfl
  · refine e_steps 4 (s' := (19, [some (.inr (.inr (some (12, 0)))), some (.inl a1), some (.inl a2), none, none], [.inl a1, .inl (m1 12 0 61), .inr (.inr (some (12, 0)))], m1)) rfl ?_
    obtain ⟨r4, hv, hres⟩ := mm_b1_some hres
    refine e_call0 (pc := 22) (L := [some (.inr (.inr (some (12, 0)))), some (.inl a1), some (.inl a2), none, none]) (st := []) (m' := m1) (v := some (.inl r4)) rfl (k_X12_isPart d (by omega) (m1 12 0 61) a1 _ _ hv) ?_
    show mm_E (d + 1) 217 (22, [some (.inr (.inr (some (12, 0)))), some (.inl a1), some (.inl a2), none, none], [.inl r4], m1) (.inl (some (.inl r.1)), r.2, 0, 0)
    refine e_if (s1 := (31, [some (.inr (.inr (some (12, 0)))), some (.inl a1), some (.inl a2), none, none], [], m1)) (s2 := (25, [some (.inr (.inr (some (12, 0)))), some (.inl a1), some (.inl a2), none, none], [], m1)) rfl hres (fun hc hres => ?_) (fun hc hres => ?_)
    · refine e_steps 8 (s' := (44, [some (.inr (.inr (some (12, 0)))), some (.inl a1), some (.inl a2), none, none], [.inl ((24 * (m1 12 0 61)) + a1), .inr (.inr (some (69, 0)))], m1)) rfl ?_
      refine e_gd (s1 := (45, [some (.inr (.inr (some (12, 0)))), some (.inl a1), some (.inl a2), none, none], [.inl (m1 69 0 ((24 * (m1 12 0 61)) + a1).toNatClampNeg)], m1)) rfl hres (fun hc hres => ?_)
      refine e_if (s1 := (72, [some (.inr (.inr (some (12, 0)))), some (.inl a1), some (.inl a2), none, none], [], m1)) (s2 := (48, [some (.inr (.inr (some (12, 0)))), some (.inl a1), some (.inl a2), none, none], [], m1)) rfl hres (fun hc hres => ?_) (fun hc hres => ?_)
      · refine e_steps 4 (s' := (77, [some (.inr (.inr (some (12, 0)))), some (.inl a1), some (.inl a2), some (.inl 0), some (.inl 0)], [], m1)) rfl ?_
        refine e_mask (L' := [some (.inr (.inr (some (12, 0)))), some (.inl a1), some (.inl a2), some (.inl 0), some (.inl 0)]) rfl ?_
        refine e_loopb (φ := fun s => (77, [some (.inr (.inr (some (12, 0)))), some (.inl a1), some (.inl a2), some (.inl s.1), some (.inl s.2)], [], m1)) (K := fun t => mm_E (d + 1) 217 (113, [some (.inr (.inr (some (12, 0)))), some (.inl a1), some (.inl a2), some (.inl t), none], [], m1) (.inl (some (.inl r.1)), r.2, 0, 0)) hres (fun v11 hres => ?_) (fun s ol5 hres hcl5 hxl5 => ?_)
        · show mm_E (d + 1) 217 (113, [some (.inr (.inr (some (12, 0)))), some (.inl a1), some (.inl a2), some (.inl v11), none], [], m1) (.inl (some (.inl r.1)), r.2, 0, 0)
          refine e_steps 1 (s' := (114, [some (.inr (.inr (some (12, 0)))), some (.inl a1), some (.inl a2), some (.inl v11), none], [.inl v11], m1)) rfl ?_
          refine e_if (s1 := (119, [some (.inr (.inr (some (12, 0)))), some (.inl a1), some (.inl a2), some (.inl v11), none], [], m1)) (s2 := (117, [some (.inr (.inr (some (12, 0)))), some (.inl a1), some (.inl a2), some (.inl v11), none], [], m1)) rfl hres (fun hc hres => ?_) (fun hc hres => ?_)
          · refine e_steps 5 (s' := (128, [some (.inr (.inr (some (12, 0)))), some (.inl a1), some (.inl a2), some (.inl v11), none], [.inl a1, .inl (m1 12 0 62), .inr (.inr (some (103, 0)))], m1)) rfl ?_
            refine e_gd (s1 := (129, [some (.inr (.inr (some (12, 0)))), some (.inl a1), some (.inl a2), some (.inl v11), none], [], (mm_w m1 103 0 ((m1 12 0 62).toNatClampNeg) a1))) rfl hres (fun hc hres => ?_)
            refine e_let (fun (m12 : mm_M) => (129, [some (.inr (.inr (some (12, 0)))), some (.inl a1), some (.inl a2), some (.inl v11), none], [], m12)) hres (fun m12 hres => ?_)
            refine e_steps 5 (s' := (138, [some (.inr (.inr (some (12, 0)))), some (.inl a1), some (.inl a2), some (.inl v11), none], [.inl a2, .inl (m12 12 0 62), .inr (.inr (some (104, 0)))], m12)) rfl ?_
            refine e_gd (s1 := (139, [some (.inr (.inr (some (12, 0)))), some (.inl a1), some (.inl a2), some (.inl v11), none], [], (mm_w m12 104 0 ((m12 12 0 62).toNatClampNeg) a2))) rfl hres (fun hc hres => ?_)
            refine e_let (fun (m13 : mm_M) => (139, [some (.inr (.inr (some (12, 0)))), some (.inl a1), some (.inl a2), some (.inl v11), none], [], m13)) hres (fun m13 hres => ?_)
            refine e_steps 6 (s' := (149, [some (.inr (.inr (some (12, 0)))), some (.inl a1), some (.inl a2), some (.inl v11), none], [], (mm_w m13 12 0 62 ((m13 12 0 62) + 1)))) rfl ?_
            refine e_let (fun (m14 : mm_M) => (149, [some (.inr (.inr (some (12, 0)))), some (.inl a1), some (.inl a2), some (.inl v11), none], [], m14)) hres (fun m14 hres => ?_)
            refine e_steps 2 (s' := (153, [some (.inr (.inr (some (12, 0)))), some (.inl a1), some (.inl a2), some (.inl v11), none], [.inl (m14 12 0 62)], m14)) rfl ?_
            obtain rfl := Option.some.inj hres
            exact e_ret rfl rfl
          · refine e_steps 1 (s' := (118, [some (.inr (.inr (some (12, 0)))), some (.inl a1), some (.inl a2), some (.inl v11), none], [.inl (-1)], m1)) rfl ?_
            obtain rfl := Option.some.inj hres
            exact e_ret rfl rfl
        · obtain ⟨v6, v7⟩ := s
          show mm_E (d + 1) 217 (77, [some (.inr (.inr (some (12, 0)))), some (.inl a1), some (.inl a2), some (.inl v6), some (.inl v7)], [], m1) (.inl (some (.inl r.1)), r.2, 0, 0)
          refine e_steps 3 (s' := (83, [some (.inr (.inr (some (12, 0)))), some (.inl a1), some (.inl a2), some (.inl v6), some (.inl v7)], [.inl (m1 12 0 62), .inl v7], m1)) rfl ?_
          refine e_if (s1 := (113, [some (.inr (.inr (some (12, 0)))), some (.inl a1), some (.inl a2), some (.inl v6), some (.inl v7)], [], m1)) (s2 := (86, [some (.inr (.inr (some (12, 0)))), some (.inl a1), some (.inl a2), some (.inl v6), some (.inl v7)], [], m1)) rfl hres (fun hc hres => ?_) (fun hc hres => ?_)
          · obtain rfl := Option.some.inj hres
            exact e_mask (L' := [some (.inr (.inr (some (12, 0)))), some (.inl a1), some (.inl a2), some (.inl v6), none]) rfl (hxl5 _ rfl)
          · refine e_steps 1 (s' := (87, [some (.inr (.inr (some (12, 0)))), some (.inl a1), some (.inl a2), some (.inl v6), some (.inl v7)], [.inl v6], m1)) rfl ?_
            refine e_if (s1 := (105, [some (.inr (.inr (some (12, 0)))), some (.inl a1), some (.inl a2), some (.inl v6), some (.inl v7)], [], m1)) (s2 := (90, [some (.inr (.inr (some (12, 0)))), some (.inl a1), some (.inl a2), some (.inl v6), some (.inl v7)], [], m1)) rfl hres (fun hc hres => ?_) (fun hc hres => ?_)
            · refine e_mask (L' := [some (.inr (.inr (some (12, 0)))), some (.inl a1), some (.inl a2), none, some (.inl v7)]) rfl ?_
              refine e_steps 3 (s' := (110, [some (.inr (.inr (some (12, 0)))), some (.inl a1), some (.inl a2), some (.inl 0), some (.inl (v7 + 1))], [], m1)) rfl ?_
              refine e_let (fun (v8 : Int32) => (110, [some (.inr (.inr (some (12, 0)))), some (.inl a1), some (.inl a2), some (.inl 0), some (.inl v8)], [], m1)) hres (fun v8 hres => ?_)
              refine e_steps 1 (s' := (77, [some (.inr (.inr (some (12, 0)))), some (.inl a1), some (.inl a2), some (.inl 0), some (.inl v8)], [], m1)) rfl ?_
              obtain rfl := Option.some.inj hres
              exact e_mask (L' := [some (.inr (.inr (some (12, 0)))), some (.inl a1), some (.inl a2), some (.inl 0), some (.inl v8)]) rfl (hcl5 _ rfl)
            · refine e_steps 3 (s' := (96, [some (.inr (.inr (some (12, 0)))), some (.inl a1), some (.inl a2), some (.inl v6), some (.inl v7)], [.inl v7, .inr (.inr (some (103, 0)))], m1)) rfl ?_
              refine e_gd (s1 := (97, [some (.inr (.inr (some (12, 0)))), some (.inl a1), some (.inl a2), some (.inl v6), some (.inl v7)], [.inl (m1 103 0 v7.toNatClampNeg)], m1)) rfl hres (fun hc hres => ?_)
              refine e_steps 1 (s' := (98, [some (.inr (.inr (some (12, 0)))), some (.inl a1), some (.inl a2), some (.inl v6), some (.inl v7)], [.inl a1, .inl (m1 103 0 v7.toNatClampNeg)], m1)) rfl ?_
              refine e_if (s1 := (105, [some (.inr (.inr (some (12, 0)))), some (.inl a1), some (.inl a2), some (.inl v6), some (.inl v7)], [], m1)) (s2 := (101, [some (.inr (.inr (some (12, 0)))), some (.inl a1), some (.inl a2), some (.inl v6), some (.inl v7)], [], m1)) rfl hres (fun hc hres => ?_) (fun hc hres => ?_)
              · refine e_mask (L' := [some (.inr (.inr (some (12, 0)))), some (.inl a1), some (.inl a2), none, some (.inl v7)]) rfl ?_
                refine e_steps 3 (s' := (110, [some (.inr (.inr (some (12, 0)))), some (.inl a1), some (.inl a2), some (.inl 0), some (.inl (v7 + 1))], [], m1)) rfl ?_
                refine e_let (fun (v9 : Int32) => (110, [some (.inr (.inr (some (12, 0)))), some (.inl a1), some (.inl a2), some (.inl 0), some (.inl v9)], [], m1)) hres (fun v9 hres => ?_)
                refine e_steps 1 (s' := (77, [some (.inr (.inr (some (12, 0)))), some (.inl a1), some (.inl a2), some (.inl 0), some (.inl v9)], [], m1)) rfl ?_
                obtain rfl := Option.some.inj hres
                exact e_mask (L' := [some (.inr (.inr (some (12, 0)))), some (.inl a1), some (.inl a2), some (.inl 0), some (.inl v9)]) rfl (hcl5 _ rfl)
              · refine e_steps 2 (s' := (106, [some (.inr (.inr (some (12, 0)))), some (.inl a1), some (.inl a2), some (.inl v6), some (.inl v7)], [.inl 1], m1)) rfl ?_
                refine e_mask (L' := [some (.inr (.inr (some (12, 0)))), some (.inl a1), some (.inl a2), none, some (.inl v7)]) rfl ?_
                refine e_steps 2 (s' := (110, [some (.inr (.inr (some (12, 0)))), some (.inl a1), some (.inl a2), some (.inl 1), some (.inl (v7 + 1))], [], m1)) rfl ?_
                refine e_let (fun (v10 : Int32) => (110, [some (.inr (.inr (some (12, 0)))), some (.inl a1), some (.inl a2), some (.inl 1), some (.inl v10)], [], m1)) hres (fun v10 hres => ?_)
                refine e_steps 1 (s' := (77, [some (.inr (.inr (some (12, 0)))), some (.inl a1), some (.inl a2), some (.inl 1), some (.inl v10)], [], m1)) rfl ?_
                obtain rfl := Option.some.inj hres
                exact e_mask (L' := [some (.inr (.inr (some (12, 0)))), some (.inl a1), some (.inl a2), some (.inl 1), some (.inl v10)]) rfl (hcl5 _ rfl)
      · refine e_steps 3 (s' := (53, [some (.inr (.inr (some (12, 0)))), some (.inl a1), some (.inl a2), none, none], [.inl 20000, .inl 1, .inl a2], m1)) rfl ?_
        obtain ⟨r15, hv, hres⟩ := mm_b1_some hres
        refine e_call0 (pc := 56) (L := [some (.inr (.inr (some (12, 0)))), some (.inl a1), some (.inl a2), none, none]) (st := []) (m' := m1) (v := some (.inl r15)) rfl (k_X12_isIn d (by omega) a2 1 20000 _ _ hv) ?_
        show mm_E (d + 1) 217 (56, [some (.inr (.inr (some (12, 0)))), some (.inl a1), some (.inl a2), none, none], [.inl r15], m1) (.inl (some (.inl r.1)), r.2, 0, 0)
        refine e_if (s1 := (72, [some (.inr (.inr (some (12, 0)))), some (.inl a1), some (.inl a2), none, none], [], m1)) (s2 := (59, [some (.inr (.inr (some (12, 0)))), some (.inl a1), some (.inl a2), none, none], [], m1)) rfl hres (fun hc hres => ?_) (fun hc hres => ?_)
        · refine e_steps 4 (s' := (77, [some (.inr (.inr (some (12, 0)))), some (.inl a1), some (.inl a2), some (.inl 0), some (.inl 0)], [], m1)) rfl ?_
          refine e_mask (L' := [some (.inr (.inr (some (12, 0)))), some (.inl a1), some (.inl a2), some (.inl 0), some (.inl 0)]) rfl ?_
          refine e_loopb (φ := fun s => (77, [some (.inr (.inr (some (12, 0)))), some (.inl a1), some (.inl a2), some (.inl s.1), some (.inl s.2)], [], m1)) (K := fun t => mm_E (d + 1) 217 (113, [some (.inr (.inr (some (12, 0)))), some (.inl a1), some (.inl a2), some (.inl t), none], [], m1) (.inl (some (.inl r.1)), r.2, 0, 0)) hres (fun v22 hres => ?_) (fun s ol16 hres hcl16 hxl16 => ?_)
          · show mm_E (d + 1) 217 (113, [some (.inr (.inr (some (12, 0)))), some (.inl a1), some (.inl a2), some (.inl v22), none], [], m1) (.inl (some (.inl r.1)), r.2, 0, 0)
            refine e_steps 1 (s' := (114, [some (.inr (.inr (some (12, 0)))), some (.inl a1), some (.inl a2), some (.inl v22), none], [.inl v22], m1)) rfl ?_
            refine e_if (s1 := (119, [some (.inr (.inr (some (12, 0)))), some (.inl a1), some (.inl a2), some (.inl v22), none], [], m1)) (s2 := (117, [some (.inr (.inr (some (12, 0)))), some (.inl a1), some (.inl a2), some (.inl v22), none], [], m1)) rfl hres (fun hc hres => ?_) (fun hc hres => ?_)
            · refine e_steps 5 (s' := (128, [some (.inr (.inr (some (12, 0)))), some (.inl a1), some (.inl a2), some (.inl v22), none], [.inl a1, .inl (m1 12 0 62), .inr (.inr (some (103, 0)))], m1)) rfl ?_
              refine e_gd (s1 := (129, [some (.inr (.inr (some (12, 0)))), some (.inl a1), some (.inl a2), some (.inl v22), none], [], (mm_w m1 103 0 ((m1 12 0 62).toNatClampNeg) a1))) rfl hres (fun hc hres => ?_)
              refine e_let (fun (m23 : mm_M) => (129, [some (.inr (.inr (some (12, 0)))), some (.inl a1), some (.inl a2), some (.inl v22), none], [], m23)) hres (fun m23 hres => ?_)
              refine e_steps 5 (s' := (138, [some (.inr (.inr (some (12, 0)))), some (.inl a1), some (.inl a2), some (.inl v22), none], [.inl a2, .inl (m23 12 0 62), .inr (.inr (some (104, 0)))], m23)) rfl ?_
              refine e_gd (s1 := (139, [some (.inr (.inr (some (12, 0)))), some (.inl a1), some (.inl a2), some (.inl v22), none], [], (mm_w m23 104 0 ((m23 12 0 62).toNatClampNeg) a2))) rfl hres (fun hc hres => ?_)
              refine e_let (fun (m24 : mm_M) => (139, [some (.inr (.inr (some (12, 0)))), some (.inl a1), some (.inl a2), some (.inl v22), none], [], m24)) hres (fun m24 hres => ?_)
              refine e_steps 6 (s' := (149, [some (.inr (.inr (some (12, 0)))), some (.inl a1), some (.inl a2), some (.inl v22), none], [], (mm_w m24 12 0 62 ((m24 12 0 62) + 1)))) rfl ?_
              refine e_let (fun (m25 : mm_M) => (149, [some (.inr (.inr (some (12, 0)))), some (.inl a1), some (.inl a2), some (.inl v22), none], [], m25)) hres (fun m25 hres => ?_)
              refine e_steps 2 (s' := (153, [some (.inr (.inr (some (12, 0)))), some (.inl a1), some (.inl a2), some (.inl v22), none], [.inl (m25 12 0 62)], m25)) rfl ?_
              obtain rfl := Option.some.inj hres
              exact e_ret rfl rfl
            · refine e_steps 1 (s' := (118, [some (.inr (.inr (some (12, 0)))), some (.inl a1), some (.inl a2), some (.inl v22), none], [.inl (-1)], m1)) rfl ?_
              obtain rfl := Option.some.inj hres
              exact e_ret rfl rfl
          · obtain ⟨v17, v18⟩ := s
            show mm_E (d + 1) 217 (77, [some (.inr (.inr (some (12, 0)))), some (.inl a1), some (.inl a2), some (.inl v17), some (.inl v18)], [], m1) (.inl (some (.inl r.1)), r.2, 0, 0)
            refine e_steps 3 (s' := (83, [some (.inr (.inr (some (12, 0)))), some (.inl a1), some (.inl a2), some (.inl v17), some (.inl v18)], [.inl (m1 12 0 62), .inl v18], m1)) rfl ?_
            refine e_if (s1 := (113, [some (.inr (.inr (some (12, 0)))), some (.inl a1), some (.inl a2), some (.inl v17), some (.inl v18)], [], m1)) (s2 := (86, [some (.inr (.inr (some (12, 0)))), some (.inl a1), some (.inl a2), some (.inl v17), some (.inl v18)], [], m1)) rfl hres (fun hc hres => ?_) (fun hc hres => ?_)
            · obtain rfl := Option.some.inj hres
              exact e_mask (L' := [some (.inr (.inr (some (12, 0)))), some (.inl a1), some (.inl a2), some (.inl v17), none]) rfl (hxl16 _ rfl)
            · refine e_steps 1 (s' := (87, [some (.inr (.inr (some (12, 0)))), some (.inl a1), some (.inl a2), some (.inl v17), some (.inl v18)], [.inl v17], m1)) rfl ?_
              refine e_if (s1 := (105, [some (.inr (.inr (some (12, 0)))), some (.inl a1), some (.inl a2), some (.inl v17), some (.inl v18)], [], m1)) (s2 := (90, [some (.inr (.inr (some (12, 0)))), some (.inl a1), some (.inl a2), some (.inl v17), some (.inl v18)], [], m1)) rfl hres (fun hc hres => ?_) (fun hc hres => ?_)
              · refine e_mask (L' := [some (.inr (.inr (some (12, 0)))), some (.inl a1), some (.inl a2), none, some (.inl v18)]) rfl ?_
                refine e_steps 3 (s' := (110, [some (.inr (.inr (some (12, 0)))), some (.inl a1), some (.inl a2), some (.inl 0), some (.inl (v18 + 1))], [], m1)) rfl ?_
                refine e_let (fun (v19 : Int32) => (110, [some (.inr (.inr (some (12, 0)))), some (.inl a1), some (.inl a2), some (.inl 0), some (.inl v19)], [], m1)) hres (fun v19 hres => ?_)
                refine e_steps 1 (s' := (77, [some (.inr (.inr (some (12, 0)))), some (.inl a1), some (.inl a2), some (.inl 0), some (.inl v19)], [], m1)) rfl ?_
                obtain rfl := Option.some.inj hres
                exact e_mask (L' := [some (.inr (.inr (some (12, 0)))), some (.inl a1), some (.inl a2), some (.inl 0), some (.inl v19)]) rfl (hcl16 _ rfl)
              · refine e_steps 3 (s' := (96, [some (.inr (.inr (some (12, 0)))), some (.inl a1), some (.inl a2), some (.inl v17), some (.inl v18)], [.inl v18, .inr (.inr (some (103, 0)))], m1)) rfl ?_
                refine e_gd (s1 := (97, [some (.inr (.inr (some (12, 0)))), some (.inl a1), some (.inl a2), some (.inl v17), some (.inl v18)], [.inl (m1 103 0 v18.toNatClampNeg)], m1)) rfl hres (fun hc hres => ?_)
                refine e_steps 1 (s' := (98, [some (.inr (.inr (some (12, 0)))), some (.inl a1), some (.inl a2), some (.inl v17), some (.inl v18)], [.inl a1, .inl (m1 103 0 v18.toNatClampNeg)], m1)) rfl ?_
                refine e_if (s1 := (105, [some (.inr (.inr (some (12, 0)))), some (.inl a1), some (.inl a2), some (.inl v17), some (.inl v18)], [], m1)) (s2 := (101, [some (.inr (.inr (some (12, 0)))), some (.inl a1), some (.inl a2), some (.inl v17), some (.inl v18)], [], m1)) rfl hres (fun hc hres => ?_) (fun hc hres => ?_)
                · refine e_mask (L' := [some (.inr (.inr (some (12, 0)))), some (.inl a1), some (.inl a2), none, some (.inl v18)]) rfl ?_
                  refine e_steps 3 (s' := (110, [some (.inr (.inr (some (12, 0)))), some (.inl a1), some (.inl a2), some (.inl 0), some (.inl (v18 + 1))], [], m1)) rfl ?_
                  refine e_let (fun (v20 : Int32) => (110, [some (.inr (.inr (some (12, 0)))), some (.inl a1), some (.inl a2), some (.inl 0), some (.inl v20)], [], m1)) hres (fun v20 hres => ?_)
                  refine e_steps 1 (s' := (77, [some (.inr (.inr (some (12, 0)))), some (.inl a1), some (.inl a2), some (.inl 0), some (.inl v20)], [], m1)) rfl ?_
                  obtain rfl := Option.some.inj hres
                  exact e_mask (L' := [some (.inr (.inr (some (12, 0)))), some (.inl a1), some (.inl a2), some (.inl 0), some (.inl v20)]) rfl (hcl16 _ rfl)
                · refine e_steps 2 (s' := (106, [some (.inr (.inr (some (12, 0)))), some (.inl a1), some (.inl a2), some (.inl v17), some (.inl v18)], [.inl 1], m1)) rfl ?_
                  refine e_mask (L' := [some (.inr (.inr (some (12, 0)))), some (.inl a1), some (.inl a2), none, some (.inl v18)]) rfl ?_
                  refine e_steps 2 (s' := (110, [some (.inr (.inr (some (12, 0)))), some (.inl a1), some (.inl a2), some (.inl 1), some (.inl (v18 + 1))], [], m1)) rfl ?_
                  refine e_let (fun (v21 : Int32) => (110, [some (.inr (.inr (some (12, 0)))), some (.inl a1), some (.inl a2), some (.inl 1), some (.inl v21)], [], m1)) hres (fun v21 hres => ?_)
                  refine e_steps 1 (s' := (77, [some (.inr (.inr (some (12, 0)))), some (.inl a1), some (.inl a2), some (.inl 1), some (.inl v21)], [], m1)) rfl ?_
                  obtain rfl := Option.some.inj hres
                  exact e_mask (L' := [some (.inr (.inr (some (12, 0)))), some (.inl a1), some (.inl a2), some (.inl 1), some (.inl v21)]) rfl (hcl16 _ rfl)
        · refine e_steps 3 (s' := (65, [some (.inr (.inr (some (12, 0)))), some (.inl a1), some (.inl a2), none, none], [.inl 8, .inl (m1 12 0 62)], m1)) rfl ?_
          refine e_if (s1 := (72, [some (.inr (.inr (some (12, 0)))), some (.inl a1), some (.inl a2), none, none], [], m1)) (s2 := (68, [some (.inr (.inr (some (12, 0)))), some (.inl a1), some (.inl a2), none, none], [], m1)) rfl hres (fun hc hres => ?_) (fun hc hres => ?_)
          · refine e_steps 4 (s' := (77, [some (.inr (.inr (some (12, 0)))), some (.inl a1), some (.inl a2), some (.inl 0), some (.inl 0)], [], m1)) rfl ?_
            refine e_mask (L' := [some (.inr (.inr (some (12, 0)))), some (.inl a1), some (.inl a2), some (.inl 0), some (.inl 0)]) rfl ?_
            refine e_loopb (φ := fun s => (77, [some (.inr (.inr (some (12, 0)))), some (.inl a1), some (.inl a2), some (.inl s.1), some (.inl s.2)], [], m1)) (K := fun t => mm_E (d + 1) 217 (113, [some (.inr (.inr (some (12, 0)))), some (.inl a1), some (.inl a2), some (.inl t), none], [], m1) (.inl (some (.inl r.1)), r.2, 0, 0)) hres (fun v32 hres => ?_) (fun s ol26 hres hcl26 hxl26 => ?_)
            · show mm_E (d + 1) 217 (113, [some (.inr (.inr (some (12, 0)))), some (.inl a1), some (.inl a2), some (.inl v32), none], [], m1) (.inl (some (.inl r.1)), r.2, 0, 0)
              refine e_steps 1 (s' := (114, [some (.inr (.inr (some (12, 0)))), some (.inl a1), some (.inl a2), some (.inl v32), none], [.inl v32], m1)) rfl ?_
              refine e_if (s1 := (119, [some (.inr (.inr (some (12, 0)))), some (.inl a1), some (.inl a2), some (.inl v32), none], [], m1)) (s2 := (117, [some (.inr (.inr (some (12, 0)))), some (.inl a1), some (.inl a2), some (.inl v32), none], [], m1)) rfl hres (fun hc hres => ?_) (fun hc hres => ?_)
              · refine e_steps 5 (s' := (128, [some (.inr (.inr (some (12, 0)))), some (.inl a1), some (.inl a2), some (.inl v32), none], [.inl a1, .inl (m1 12 0 62), .inr (.inr (some (103, 0)))], m1)) rfl ?_
                refine e_gd (s1 := (129, [some (.inr (.inr (some (12, 0)))), some (.inl a1), some (.inl a2), some (.inl v32), none], [], (mm_w m1 103 0 ((m1 12 0 62).toNatClampNeg) a1))) rfl hres (fun hc hres => ?_)
                refine e_let (fun (m33 : mm_M) => (129, [some (.inr (.inr (some (12, 0)))), some (.inl a1), some (.inl a2), some (.inl v32), none], [], m33)) hres (fun m33 hres => ?_)
                refine e_steps 5 (s' := (138, [some (.inr (.inr (some (12, 0)))), some (.inl a1), some (.inl a2), some (.inl v32), none], [.inl a2, .inl (m33 12 0 62), .inr (.inr (some (104, 0)))], m33)) rfl ?_
                refine e_gd (s1 := (139, [some (.inr (.inr (some (12, 0)))), some (.inl a1), some (.inl a2), some (.inl v32), none], [], (mm_w m33 104 0 ((m33 12 0 62).toNatClampNeg) a2))) rfl hres (fun hc hres => ?_)
                refine e_let (fun (m34 : mm_M) => (139, [some (.inr (.inr (some (12, 0)))), some (.inl a1), some (.inl a2), some (.inl v32), none], [], m34)) hres (fun m34 hres => ?_)
                refine e_steps 6 (s' := (149, [some (.inr (.inr (some (12, 0)))), some (.inl a1), some (.inl a2), some (.inl v32), none], [], (mm_w m34 12 0 62 ((m34 12 0 62) + 1)))) rfl ?_
                refine e_let (fun (m35 : mm_M) => (149, [some (.inr (.inr (some (12, 0)))), some (.inl a1), some (.inl a2), some (.inl v32), none], [], m35)) hres (fun m35 hres => ?_)
                refine e_steps 2 (s' := (153, [some (.inr (.inr (some (12, 0)))), some (.inl a1), some (.inl a2), some (.inl v32), none], [.inl (m35 12 0 62)], m35)) rfl ?_
                obtain rfl := Option.some.inj hres
                exact e_ret rfl rfl
              · refine e_steps 1 (s' := (118, [some (.inr (.inr (some (12, 0)))), some (.inl a1), some (.inl a2), some (.inl v32), none], [.inl (-1)], m1)) rfl ?_
                obtain rfl := Option.some.inj hres
                exact e_ret rfl rfl
            · obtain ⟨v27, v28⟩ := s
              show mm_E (d + 1) 217 (77, [some (.inr (.inr (some (12, 0)))), some (.inl a1), some (.inl a2), some (.inl v27), some (.inl v28)], [], m1) (.inl (some (.inl r.1)), r.2, 0, 0)
              refine e_steps 3 (s' := (83, [some (.inr (.inr (some (12, 0)))), some (.inl a1), some (.inl a2), some (.inl v27), some (.inl v28)], [.inl (m1 12 0 62), .inl v28], m1)) rfl ?_
              refine e_if (s1 := (113, [some (.inr (.inr (some (12, 0)))), some (.inl a1), some (.inl a2), some (.inl v27), some (.inl v28)], [], m1)) (s2 := (86, [some (.inr (.inr (some (12, 0)))), some (.inl a1), some (.inl a2), some (.inl v27), some (.inl v28)], [], m1)) rfl hres (fun hc hres => ?_) (fun hc hres => ?_)
              · obtain rfl := Option.some.inj hres
                exact e_mask (L' := [some (.inr (.inr (some (12, 0)))), some (.inl a1), some (.inl a2), some (.inl v27), none]) rfl (hxl26 _ rfl)
              · refine e_steps 1 (s' := (87, [some (.inr (.inr (some (12, 0)))), some (.inl a1), some (.inl a2), some (.inl v27), some (.inl v28)], [.inl v27], m1)) rfl ?_
                refine e_if (s1 := (105, [some (.inr (.inr (some (12, 0)))), some (.inl a1), some (.inl a2), some (.inl v27), some (.inl v28)], [], m1)) (s2 := (90, [some (.inr (.inr (some (12, 0)))), some (.inl a1), some (.inl a2), some (.inl v27), some (.inl v28)], [], m1)) rfl hres (fun hc hres => ?_) (fun hc hres => ?_)
                · refine e_mask (L' := [some (.inr (.inr (some (12, 0)))), some (.inl a1), some (.inl a2), none, some (.inl v28)]) rfl ?_
                  refine e_steps 3 (s' := (110, [some (.inr (.inr (some (12, 0)))), some (.inl a1), some (.inl a2), some (.inl 0), some (.inl (v28 + 1))], [], m1)) rfl ?_
                  refine e_let (fun (v29 : Int32) => (110, [some (.inr (.inr (some (12, 0)))), some (.inl a1), some (.inl a2), some (.inl 0), some (.inl v29)], [], m1)) hres (fun v29 hres => ?_)
                  refine e_steps 1 (s' := (77, [some (.inr (.inr (some (12, 0)))), some (.inl a1), some (.inl a2), some (.inl 0), some (.inl v29)], [], m1)) rfl ?_
                  obtain rfl := Option.some.inj hres
                  exact e_mask (L' := [some (.inr (.inr (some (12, 0)))), some (.inl a1), some (.inl a2), some (.inl 0), some (.inl v29)]) rfl (hcl26 _ rfl)
                · refine e_steps 3 (s' := (96, [some (.inr (.inr (some (12, 0)))), some (.inl a1), some (.inl a2), some (.inl v27), some (.inl v28)], [.inl v28, .inr (.inr (some (103, 0)))], m1)) rfl ?_
                  refine e_gd (s1 := (97, [some (.inr (.inr (some (12, 0)))), some (.inl a1), some (.inl a2), some (.inl v27), some (.inl v28)], [.inl (m1 103 0 v28.toNatClampNeg)], m1)) rfl hres (fun hc hres => ?_)
                  refine e_steps 1 (s' := (98, [some (.inr (.inr (some (12, 0)))), some (.inl a1), some (.inl a2), some (.inl v27), some (.inl v28)], [.inl a1, .inl (m1 103 0 v28.toNatClampNeg)], m1)) rfl ?_
                  refine e_if (s1 := (105, [some (.inr (.inr (some (12, 0)))), some (.inl a1), some (.inl a2), some (.inl v27), some (.inl v28)], [], m1)) (s2 := (101, [some (.inr (.inr (some (12, 0)))), some (.inl a1), some (.inl a2), some (.inl v27), some (.inl v28)], [], m1)) rfl hres (fun hc hres => ?_) (fun hc hres => ?_)
                  · refine e_mask (L' := [some (.inr (.inr (some (12, 0)))), some (.inl a1), some (.inl a2), none, some (.inl v28)]) rfl ?_
                    refine e_steps 3 (s' := (110, [some (.inr (.inr (some (12, 0)))), some (.inl a1), some (.inl a2), some (.inl 0), some (.inl (v28 + 1))], [], m1)) rfl ?_
                    refine e_let (fun (v30 : Int32) => (110, [some (.inr (.inr (some (12, 0)))), some (.inl a1), some (.inl a2), some (.inl 0), some (.inl v30)], [], m1)) hres (fun v30 hres => ?_)
                    refine e_steps 1 (s' := (77, [some (.inr (.inr (some (12, 0)))), some (.inl a1), some (.inl a2), some (.inl 0), some (.inl v30)], [], m1)) rfl ?_
                    obtain rfl := Option.some.inj hres
                    exact e_mask (L' := [some (.inr (.inr (some (12, 0)))), some (.inl a1), some (.inl a2), some (.inl 0), some (.inl v30)]) rfl (hcl26 _ rfl)
                  · refine e_steps 2 (s' := (106, [some (.inr (.inr (some (12, 0)))), some (.inl a1), some (.inl a2), some (.inl v27), some (.inl v28)], [.inl 1], m1)) rfl ?_
                    refine e_mask (L' := [some (.inr (.inr (some (12, 0)))), some (.inl a1), some (.inl a2), none, some (.inl v28)]) rfl ?_
                    refine e_steps 2 (s' := (110, [some (.inr (.inr (some (12, 0)))), some (.inl a1), some (.inl a2), some (.inl 1), some (.inl (v28 + 1))], [], m1)) rfl ?_
                    refine e_let (fun (v31 : Int32) => (110, [some (.inr (.inr (some (12, 0)))), some (.inl a1), some (.inl a2), some (.inl 1), some (.inl v31)], [], m1)) hres (fun v31 hres => ?_)
                    refine e_steps 1 (s' := (77, [some (.inr (.inr (some (12, 0)))), some (.inl a1), some (.inl a2), some (.inl 1), some (.inl v31)], [], m1)) rfl ?_
                    obtain rfl := Option.some.inj hres
                    exact e_mask (L' := [some (.inr (.inr (some (12, 0)))), some (.inl a1), some (.inl a2), some (.inl 1), some (.inl v31)]) rfl (hcl26 _ rfl)
          · refine e_steps 5 (s' := (77, [some (.inr (.inr (some (12, 0)))), some (.inl a1), some (.inl a2), some (.inl 1), some (.inl 0)], [], m1)) rfl ?_
            refine e_mask (L' := [some (.inr (.inr (some (12, 0)))), some (.inl a1), some (.inl a2), some (.inl 1), some (.inl 0)]) rfl ?_
            refine e_loopb (φ := fun s => (77, [some (.inr (.inr (some (12, 0)))), some (.inl a1), some (.inl a2), some (.inl s.1), some (.inl s.2)], [], m1)) (K := fun t => mm_E (d + 1) 217 (113, [some (.inr (.inr (some (12, 0)))), some (.inl a1), some (.inl a2), some (.inl t), none], [], m1) (.inl (some (.inl r.1)), r.2, 0, 0)) hres (fun v42 hres => ?_) (fun s ol36 hres hcl36 hxl36 => ?_)
            · show mm_E (d + 1) 217 (113, [some (.inr (.inr (some (12, 0)))), some (.inl a1), some (.inl a2), some (.inl v42), none], [], m1) (.inl (some (.inl r.1)), r.2, 0, 0)
              refine e_steps 1 (s' := (114, [some (.inr (.inr (some (12, 0)))), some (.inl a1), some (.inl a2), some (.inl v42), none], [.inl v42], m1)) rfl ?_
              refine e_if (s1 := (119, [some (.inr (.inr (some (12, 0)))), some (.inl a1), some (.inl a2), some (.inl v42), none], [], m1)) (s2 := (117, [some (.inr (.inr (some (12, 0)))), some (.inl a1), some (.inl a2), some (.inl v42), none], [], m1)) rfl hres (fun hc hres => ?_) (fun hc hres => ?_)
              · refine e_steps 5 (s' := (128, [some (.inr (.inr (some (12, 0)))), some (.inl a1), some (.inl a2), some (.inl v42), none], [.inl a1, .inl (m1 12 0 62), .inr (.inr (some (103, 0)))], m1)) rfl ?_
                refine e_gd (s1 := (129, [some (.inr (.inr (some (12, 0)))), some (.inl a1), some (.inl a2), some (.inl v42), none], [], (mm_w m1 103 0 ((m1 12 0 62).toNatClampNeg) a1))) rfl hres (fun hc hres => ?_)
                refine e_let (fun (m43 : mm_M) => (129, [some (.inr (.inr (some (12, 0)))), some (.inl a1), some (.inl a2), some (.inl v42), none], [], m43)) hres (fun m43 hres => ?_)
                refine e_steps 5 (s' := (138, [some (.inr (.inr (some (12, 0)))), some (.inl a1), some (.inl a2), some (.inl v42), none], [.inl a2, .inl (m43 12 0 62), .inr (.inr (some (104, 0)))], m43)) rfl ?_
                refine e_gd (s1 := (139, [some (.inr (.inr (some (12, 0)))), some (.inl a1), some (.inl a2), some (.inl v42), none], [], (mm_w m43 104 0 ((m43 12 0 62).toNatClampNeg) a2))) rfl hres (fun hc hres => ?_)
                refine e_let (fun (m44 : mm_M) => (139, [some (.inr (.inr (some (12, 0)))), some (.inl a1), some (.inl a2), some (.inl v42), none], [], m44)) hres (fun m44 hres => ?_)
                refine e_steps 6 (s' := (149, [some (.inr (.inr (some (12, 0)))), some (.inl a1), some (.inl a2), some (.inl v42), none], [], (mm_w m44 12 0 62 ((m44 12 0 62) + 1)))) rfl ?_
                refine e_let (fun (m45 : mm_M) => (149, [some (.inr (.inr (some (12, 0)))), some (.inl a1), some (.inl a2), some (.inl v42), none], [], m45)) hres (fun m45 hres => ?_)
                refine e_steps 2 (s' := (153, [some (.inr (.inr (some (12, 0)))), some (.inl a1), some (.inl a2), some (.inl v42), none], [.inl (m45 12 0 62)], m45)) rfl ?_
                obtain rfl := Option.some.inj hres
                exact e_ret rfl rfl
              · refine e_steps 1 (s' := (118, [some (.inr (.inr (some (12, 0)))), some (.inl a1), some (.inl a2), some (.inl v42), none], [.inl (-1)], m1)) rfl ?_
                obtain rfl := Option.some.inj hres
                exact e_ret rfl rfl
            · obtain ⟨v37, v38⟩ := s
              show mm_E (d + 1) 217 (77, [some (.inr (.inr (some (12, 0)))), some (.inl a1), some (.inl a2), some (.inl v37), some (.inl v38)], [], m1) (.inl (some (.inl r.1)), r.2, 0, 0)
              refine e_steps 3 (s' := (83, [some (.inr (.inr (some (12, 0)))), some (.inl a1), some (.inl a2), some (.inl v37), some (.inl v38)], [.inl (m1 12 0 62), .inl v38], m1)) rfl ?_
              refine e_if (s1 := (113, [some (.inr (.inr (some (12, 0)))), some (.inl a1), some (.inl a2), some (.inl v37), some (.inl v38)], [], m1)) (s2 := (86, [some (.inr (.inr (some (12, 0)))), some (.inl a1), some (.inl a2), some (.inl v37), some (.inl v38)], [], m1)) rfl hres (fun hc hres => ?_) (fun hc hres => ?_)
              · obtain rfl := Option.some.inj hres
                exact e_mask (L' := [some (.inr (.inr (some (12, 0)))), some (.inl a1), some (.inl a2), some (.inl v37), none]) rfl (hxl36 _ rfl)
              · refine e_steps 1 (s' := (87, [some (.inr (.inr (some (12, 0)))), some (.inl a1), some (.inl a2), some (.inl v37), some (.inl v38)], [.inl v37], m1)) rfl ?_
                refine e_if (s1 := (105, [some (.inr (.inr (some (12, 0)))), some (.inl a1), some (.inl a2), some (.inl v37), some (.inl v38)], [], m1)) (s2 := (90, [some (.inr (.inr (some (12, 0)))), some (.inl a1), some (.inl a2), some (.inl v37), some (.inl v38)], [], m1)) rfl hres (fun hc hres => ?_) (fun hc hres => ?_)
                · refine e_mask (L' := [some (.inr (.inr (some (12, 0)))), some (.inl a1), some (.inl a2), none, some (.inl v38)]) rfl ?_
                  refine e_steps 3 (s' := (110, [some (.inr (.inr (some (12, 0)))), some (.inl a1), some (.inl a2), some (.inl 0), some (.inl (v38 + 1))], [], m1)) rfl ?_
                  refine e_let (fun (v39 : Int32) => (110, [some (.inr (.inr (some (12, 0)))), some (.inl a1), some (.inl a2), some (.inl 0), some (.inl v39)], [], m1)) hres (fun v39 hres => ?_)
                  refine e_steps 1 (s' := (77, [some (.inr (.inr (some (12, 0)))), some (.inl a1), some (.inl a2), some (.inl 0), some (.inl v39)], [], m1)) rfl ?_
                  obtain rfl := Option.some.inj hres
                  exact e_mask (L' := [some (.inr (.inr (some (12, 0)))), some (.inl a1), some (.inl a2), some (.inl 0), some (.inl v39)]) rfl (hcl36 _ rfl)
                · refine e_steps 3 (s' := (96, [some (.inr (.inr (some (12, 0)))), some (.inl a1), some (.inl a2), some (.inl v37), some (.inl v38)], [.inl v38, .inr (.inr (some (103, 0)))], m1)) rfl ?_
                  refine e_gd (s1 := (97, [some (.inr (.inr (some (12, 0)))), some (.inl a1), some (.inl a2), some (.inl v37), some (.inl v38)], [.inl (m1 103 0 v38.toNatClampNeg)], m1)) rfl hres (fun hc hres => ?_)
                  refine e_steps 1 (s' := (98, [some (.inr (.inr (some (12, 0)))), some (.inl a1), some (.inl a2), some (.inl v37), some (.inl v38)], [.inl a1, .inl (m1 103 0 v38.toNatClampNeg)], m1)) rfl ?_
                  refine e_if (s1 := (105, [some (.inr (.inr (some (12, 0)))), some (.inl a1), some (.inl a2), some (.inl v37), some (.inl v38)], [], m1)) (s2 := (101, [some (.inr (.inr (some (12, 0)))), some (.inl a1), some (.inl a2), some (.inl v37), some (.inl v38)], [], m1)) rfl hres (fun hc hres => ?_) (fun hc hres => ?_)
                  · refine e_mask (L' := [some (.inr (.inr (some (12, 0)))), some (.inl a1), some (.inl a2), none, some (.inl v38)]) rfl ?_
                    refine e_steps 3 (s' := (110, [some (.inr (.inr (some (12, 0)))), some (.inl a1), some (.inl a2), some (.inl 0), some (.inl (v38 + 1))], [], m1)) rfl ?_
                    refine e_let (fun (v40 : Int32) => (110, [some (.inr (.inr (some (12, 0)))), some (.inl a1), some (.inl a2), some (.inl 0), some (.inl v40)], [], m1)) hres (fun v40 hres => ?_)
                    refine e_steps 1 (s' := (77, [some (.inr (.inr (some (12, 0)))), some (.inl a1), some (.inl a2), some (.inl 0), some (.inl v40)], [], m1)) rfl ?_
                    obtain rfl := Option.some.inj hres
                    exact e_mask (L' := [some (.inr (.inr (some (12, 0)))), some (.inl a1), some (.inl a2), some (.inl 0), some (.inl v40)]) rfl (hcl36 _ rfl)
                  · refine e_steps 2 (s' := (106, [some (.inr (.inr (some (12, 0)))), some (.inl a1), some (.inl a2), some (.inl v37), some (.inl v38)], [.inl 1], m1)) rfl ?_
                    refine e_mask (L' := [some (.inr (.inr (some (12, 0)))), some (.inl a1), some (.inl a2), none, some (.inl v38)]) rfl ?_
                    refine e_steps 2 (s' := (110, [some (.inr (.inr (some (12, 0)))), some (.inl a1), some (.inl a2), some (.inl 1), some (.inl (v38 + 1))], [], m1)) rfl ?_
                    refine e_let (fun (v41 : Int32) => (110, [some (.inr (.inr (some (12, 0)))), some (.inl a1), some (.inl a2), some (.inl 1), some (.inl v41)], [], m1)) hres (fun v41 hres => ?_)
                    refine e_steps 1 (s' := (77, [some (.inr (.inr (some (12, 0)))), some (.inl a1), some (.inl a2), some (.inl 1), some (.inl v41)], [], m1)) rfl ?_
                    obtain rfl := Option.some.inj hres
                    exact e_mask (L' := [some (.inr (.inr (some (12, 0)))), some (.inl a1), some (.inl a2), some (.inl 1), some (.inl v41)]) rfl (hcl36 _ rfl)
    · refine e_mask (L' := [some (.inr (.inr (some (12, 0)))), none, none, none, none]) rfl ?_
      refine e_steps 2 (s' := (27, [some (.inr (.inr (some (12, 0)))), none, none, none, none], [.inl 1, .inr (.inr (some (12, 0)))], m1)) rfl ?_
      obtain ⟨r46, m47, hv, hres⟩ := mm_b2_some hres
      refine e_call0 (pc := 30) (L := [some (.inr (.inr (some (12, 0)))), none, none, none, none]) (st := []) (m' := m47) (v := some (.inl r46)) rfl (k_X12_fail d (by omega) 1 _ _ hv) ?_
      show mm_E (d + 1) 217 (30, [some (.inr (.inr (some (12, 0)))), none, none, none, none], [.inl r46], m47) (.inl (some (.inl r.1)), r.2, 0, 0)
      obtain rfl := Option.some.inj hres
      exact e_ret rfl rfl
/-- GlassThreadsModel.seen(Z)Z -/
def f_X12_seen (a1 : Int32) (m : mm_M) : Option (Int32 × mm_M) :=
mm_let (mm_w m 12 0 3 0) fun m1 =>
if (m1 12 0 61) ≠ (-1) then (if (m1 12 0 46) ≠ 0 then (mm_let (fun (w2 : Int32) => (if mm_in w2 2 then (
mm_let (mm_w m1 105 0 w2.toNatClampNeg (m1 12 0 57)) fun m4 =>
(mm_b1 (mm_loop (σ := Int32 × mm_M) (ρ := (mm_M)) (fun (s : Int32 × mm_M) => match s with
| (v6, m7) => (if (m7 12 0 57) ≤ v6 then (some (.inr m7))
else (if mm_in v6 60 then (
if mm_in ((60 * w2) + v6) 120 then (
mm_let (mm_w m7 106 0 (((60 * w2) + v6).toNatClampNeg) (m7 98 0 v6.toNatClampNeg)) fun m8 =>
if mm_in v6 60 then (
if mm_in ((60 * w2) + v6) 120 then (
mm_let (mm_w m8 107 0 (((60 * w2) + v6).toNatClampNeg) (m8 99 0 v6.toNatClampNeg)) fun m9 =>
mm_let (v6 + 1) fun v10 =>
some (.inl (v10, m9))) else none) else none) else none) else none) : Option ((Int32 × mm_M) ⊕ ((mm_M))))) mm_fu (0, m4)) fun m11 =>
some (1, m11))) else none : Option (Int32 × mm_M))) fun k3 =>
if a1 = 0 then (k3 0)
else (k3 1))
else (some (0, m1)))
else (mm_b2 (f_X12_refuse 1 m1) fun r12 m13 =>
if r12 = 0 ∨ r12 = 1 then some (r12, m13) else none)
set_option maxHeartbeats 4000000 in
set_option maxRecDepth 100000 in
theorem k_X12_seen (d : Nat) (hd : 1 ≤ d) (a1 : Int32) (m : mm_M) (r : Int32 × mm_M) (hres : f_X12_seen a1 m = some r) : mm_X d 218 [.inr (.inr (some (12, 0))), .inl a1] m (.inl (some (.inl r.1)), r.2, 0, 0) := by
  unfold f_X12_seen at hres
  obtain ⟨d, rfl⟩ : ∃ e, d = e + 1 := ⟨d - 1, by omega⟩
  show mm_E (d + 1) 218 (0, [some (.inr (.inr (some (12, 0)))), some (.inl a1), none, none], [], m) (.inl (some (.inl r.1)), r.2, 0, 0)
  refine e_steps 3 (s' := (5, [some (.inr (.inr (some (12, 0)))), some (.inl a1), none, none], [], (mm_w m 12 0 3 0))) rfl ?_
  refine e_let (fun (m1 : mm_M) => (5, [some (.inr (.inr (some (12, 0)))), some (.inl a1), none, none], [], m1)) hres (fun m1 hres => ?_)
  refine e_steps 3 (s' := (10, [some (.inr (.inr (some (12, 0)))), some (.inl a1), none, none], [.inl (-1), .inl (m1 12 0 61)], m1)) rfl ?_
  refine e_if (s1 := (19, [some (.inr (.inr (some (12, 0)))), some (.inl a1), none, none], [], m1)) (s2 := (13, [some (.inr (.inr (some (12, 0)))), some (.inl a1), none, none], [], m1)) rfl hres (fun hc hres => ?_) (fun hc hres => ?_)
  · refine e_steps 2 (s' := (23, [some (.inr (.inr (some (12, 0)))), some (.inl a1), none, none], [.inl (m1 12 0 46)], m1)) rfl ?_
    refine e_if (s1 := (28, [some (.inr (.inr (some (12, 0)))), some (.inl a1), none, none], [], m1)) (s2 := (26, [some (.inr (.inr (some (12, 0)))), some (.inl a1), none, none], [], m1)) rfl hres (fun hc hres => ?_) (fun hc hres => ?_)
    · refine e_steps 1 (s' := (29, [some (.inr (.inr (some (12, 0)))), some (.inl a1), none, none], [.inl a1], m1)) rfl ?_
      refine e_join (fun k3 => ∀ (w2 : Int32), k3 w2 = some r → mm_E (d + 1) 218 (37, [some (.inr (.inr (some (12, 0)))), none, none, none], [.inl w2], m1) (.inl (some (.inl r.1)), r.2, 0, 0)) hres (fun w2 hres => ?_) (fun k3 hk3 hres => ?_)
      · refine e_steps 6 (s' := (47, [some (.inr (.inr (some (12, 0)))), none, some (.inl w2), none], [.inl (m1 12 0 57), .inl w2, .inr (.inr (some (105, 0)))], m1)) rfl ?_
        refine e_gd (s1 := (48, [some (.inr (.inr (some (12, 0)))), none, some (.inl w2), none], [], (mm_w m1 105 0 w2.toNatClampNeg (m1 12 0 57)))) rfl hres (fun hc hres => ?_)
        refine e_let (fun (m4 : mm_M) => (48, [some (.inr (.inr (some (12, 0)))), none, some (.inl w2), none], [], m4)) hres (fun m4 hres => ?_)
        refine e_steps 2 (s' := (50, [some (.inr (.inr (some (12, 0)))), none, some (.inl w2), some (.inl 0)], [], m4)) rfl ?_
        refine e_mask (L' := [some (.inr (.inr (some (12, 0)))), none, some (.inl w2), some (.inl 0)]) rfl ?_
        refine e_loopb (φ := fun s => (50, [some (.inr (.inr (some (12, 0)))), none, some (.inl w2), some (.inl s.1)], [], s.2)) (K := fun t => mm_E (d + 1) 218 (98, [none, none, none, none], [], t) (.inl (some (.inl r.1)), r.2, 0, 0)) hres (fun m11 hres => ?_) (fun s ol5 hres hcl5 hxl5 => ?_)
        · show mm_E (d + 1) 218 (98, [none, none, none, none], [], m11) (.inl (some (.inl r.1)), r.2, 0, 0)
          refine e_steps 1 (s' := (99, [none, none, none, none], [.inl 1], m11)) rfl ?_
          obtain rfl := Option.some.inj hres
          exact e_ret rfl rfl
        · obtain ⟨v6, m7⟩ := s
          show mm_E (d + 1) 218 (50, [some (.inr (.inr (some (12, 0)))), none, some (.inl w2), some (.inl v6)], [], m7) (.inl (some (.inl r.1)), r.2, 0, 0)
          refine e_steps 3 (s' := (55, [some (.inr (.inr (some (12, 0)))), none, some (.inl w2), some (.inl v6)], [.inl (m7 12 0 57), .inl v6], m7)) rfl ?_
          refine e_if (s1 := (98, [some (.inr (.inr (some (12, 0)))), none, some (.inl w2), some (.inl v6)], [], m7)) (s2 := (58, [some (.inr (.inr (some (12, 0)))), none, some (.inl w2), some (.inl v6)], [], m7)) rfl hres (fun hc hres => ?_) (fun hc hres => ?_)
          · obtain rfl := Option.some.inj hres
            exact e_mask (L' := [none, none, none, none]) rfl (hxl5 _ rfl)
          · refine e_steps 10 (s' := (73, [some (.inr (.inr (some (12, 0)))), none, some (.inl w2), some (.inl v6)], [.inl v6, .inr (.inr (some (98, 0))), .inl ((60 * w2) + v6), .inr (.inr (some (106, 0)))], m7)) rfl ?_
            refine e_gd (s1 := (74, [some (.inr (.inr (some (12, 0)))), none, some (.inl w2), some (.inl v6)], [.inl (m7 98 0 v6.toNatClampNeg), .inl ((60 * w2) + v6), .inr (.inr (some (106, 0)))], m7)) rfl hres (fun hc hres => ?_)
            refine e_gd (s1 := (75, [some (.inr (.inr (some (12, 0)))), none, some (.inl w2), some (.inl v6)], [], (mm_w m7 106 0 (((60 * w2) + v6).toNatClampNeg) (m7 98 0 v6.toNatClampNeg)))) rfl hres (fun hc hres => ?_)
            refine e_let (fun (m8 : mm_M) => (75, [some (.inr (.inr (some (12, 0)))), none, some (.inl w2), some (.inl v6)], [], m8)) hres (fun m8 hres => ?_)
            refine e_steps 10 (s' := (90, [some (.inr (.inr (some (12, 0)))), none, some (.inl w2), some (.inl v6)], [.inl v6, .inr (.inr (some (99, 0))), .inl ((60 * w2) + v6), .inr (.inr (some (107, 0)))], m8)) rfl ?_
            refine e_gd (s1 := (91, [some (.inr (.inr (some (12, 0)))), none, some (.inl w2), some (.inl v6)], [.inl (m8 99 0 v6.toNatClampNeg), .inl ((60 * w2) + v6), .inr (.inr (some (107, 0)))], m8)) rfl hres (fun hc hres => ?_)
            refine e_gd (s1 := (92, [some (.inr (.inr (some (12, 0)))), none, some (.inl w2), some (.inl v6)], [], (mm_w m8 107 0 (((60 * w2) + v6).toNatClampNeg) (m8 99 0 v6.toNatClampNeg)))) rfl hres (fun hc hres => ?_)
            refine e_let (fun (m9 : mm_M) => (92, [some (.inr (.inr (some (12, 0)))), none, some (.inl w2), some (.inl v6)], [], m9)) hres (fun m9 hres => ?_)
            refine e_steps 1 (s' := (95, [some (.inr (.inr (some (12, 0)))), none, some (.inl w2), some (.inl (v6 + 1))], [], m9)) rfl ?_
            refine e_let (fun (v10 : Int32) => (95, [some (.inr (.inr (some (12, 0)))), none, some (.inl w2), some (.inl v10)], [], m9)) hres (fun v10 hres => ?_)
            refine e_steps 1 (s' := (50, [some (.inr (.inr (some (12, 0)))), none, some (.inl w2), some (.inl v10)], [], m9)) rfl ?_
            obtain rfl := Option.some.inj hres
            exact e_mask (L' := [some (.inr (.inr (some (12, 0)))), none, some (.inl w2), some (.inl v10)]) rfl (hcl5 _ rfl)
      · refine e_if (s1 := (36, [some (.inr (.inr (some (12, 0)))), some (.inl a1), none, none], [], m1)) (s2 := (32, [some (.inr (.inr (some (12, 0)))), some (.inl a1), none, none], [], m1)) rfl hres (fun hc hres => ?_) (fun hc hres => ?_)
        · refine e_steps 1 (s' := (37, [some (.inr (.inr (some (12, 0)))), some (.inl a1), none, none], [.inl 0], m1)) rfl ?_
          exact e_mask (L' := [some (.inr (.inr (some (12, 0)))), none, none, none]) rfl (hk3 _ hres)
        · refine e_steps 2 (s' := (37, [some (.inr (.inr (some (12, 0)))), some (.inl a1), none, none], [.inl 1], m1)) rfl ?_
          exact e_mask (L' := [some (.inr (.inr (some (12, 0)))), none, none, none]) rfl (hk3 _ hres)
    · refine e_steps 1 (s' := (27, [some (.inr (.inr (some (12, 0)))), some (.inl a1), none, none], [.inl 0], m1)) rfl ?_
      obtain rfl := Option.some.inj hres
      exact e_ret rfl rfl
  · refine e_steps 2 (s' := (15, [some (.inr (.inr (some (12, 0)))), some (.inl a1), none, none], [.inl 1, .inr (.inr (some (12, 0)))], m1)) rfl ?_
    obtain ⟨r12, m13, hv, hres⟩ := mm_b2_some hres
    refine e_call0 (pc := 18) (L := [some (.inr (.inr (some (12, 0)))), some (.inl a1), none, none]) (st := []) (m' := m13) (v := some (.inl r12)) rfl (k_X12_refuse d (by omega) 1 _ _ hv) ?_
    show mm_E (d + 1) 218 (18, [some (.inr (.inr (some (12, 0)))), some (.inl a1), none, none], [.inl r12], m13) (.inl (some (.inl r.1)), r.2, 0, 0)
    refine e_gr (o := .inl (some (.inl r12))) rfl hres (fun hc hres => ?_)
    obtain rfl := Option.some.inj hres
    rfl
/-- GlassThreadsModel.isTold(I)Z -/
def f_X12_isTold (a1 : Int32) (m : mm_M) : Option (Int32) :=
if mm_in a1 2 then (
if (m 105 0 a1.toNatClampNeg) ≠ (m 12 0 45) then ((mm_b1 (mm_loop (σ := Int32 × Int32) (ρ := (Int32)) (fun (s : Int32 × Int32) => match s with
| (v2, v3) => (if v2 = 0 then (some (.inr v2))
else (if (m 12 0 45) ≤ v3 then (some (.inr v2))
else (if mm_in ((60 * a1) + v3) 120 then (
if mm_in v3 60 then (
if (m 106 0 ((60 * a1) + v3).toNatClampNeg) ≠ (m 95 0 v3.toNatClampNeg) then (mm_let (v3 + 1) fun v4 =>
some (.inl (0, v4)))
else (if mm_in ((60 * a1) + v3) 120 then (
if mm_in v3 60 then (
if (m 107 0 ((60 * a1) + v3).toNatClampNeg) ≠ (m 96 0 v3.toNatClampNeg) then (mm_let (v3 + 1) fun v5 =>
some (.inl (0, v5)))
else (mm_let (v3 + 1) fun v6 =>
some (.inl (1, v6)))) else none) else none)) else none) else none)) : Option ((Int32 × Int32) ⊕ ((Int32))))) mm_fu (0, 0)) fun v7 =>
if v7 = 0 ∨ v7 = 1 then some v7 else none))
else ((mm_b1 (mm_loop (σ := Int32 × Int32) (ρ := (Int32)) (fun (s : Int32 × Int32) => match s with
| (v9, v10) => (if v9 = 0 then (some (.inr v9))
else (if (m 12 0 45) ≤ v10 then (some (.inr v9))
else (if mm_in ((60 * a1) + v10) 120 then (
if mm_in v10 60 then (
if (m 106 0 ((60 * a1) + v10).toNatClampNeg) ≠ (m 95 0 v10.toNatClampNeg) then (mm_let (v10 + 1) fun v11 =>
some (.inl (0, v11)))
else (if mm_in ((60 * a1) + v10) 120 then (
if mm_in v10 60 then (
if (m 107 0 ((60 * a1) + v10).toNatClampNeg) ≠ (m 96 0 v10.toNatClampNeg) then (mm_let (v10 + 1) fun v12 =>
some (.inl (0, v12)))
else (mm_let (v10 + 1) fun v13 =>
some (.inl (1, v13)))) else none) else none)) else none) else none)) : Option ((Int32 × Int32) ⊕ ((Int32))))) mm_fu (1, 0)) fun v14 =>
if v14 = 0 ∨ v14 = 1 then some v14 else none))) else none
set_option maxHeartbeats 4000000 in
set_option maxRecDepth 100000 in
theorem k_X12_isTold (d : Nat) (hd : 0 ≤ d) (a1 : Int32) (m : mm_M) (r : Int32) (hres : f_X12_isTold a1 m = some r) : mm_X d 219 [.inr (.inr (some (12, 0))), .inl a1] m (.inl (some (.inl r)), m, 0, 0) := by
  unfold f_X12_isTold at hres
  show mm_E d 219 (0, [some (.inr (.inr (some (12, 0)))), some (.inl a1), none, none], [], m) (.inl (some (.inl r)), m, 0, 0)
  refine e_steps 3 (s' := (5, [some (.inr (.inr (some (12, 0)))), some (.inl a1), none, none], [.inl a1, .inr (.inr (some (105, 0)))], m)) rfl ?_
  refine e_gd (s1 := (6, [some (.inr (.inr (some (12, 0)))), some (.inl a1), none, none], [.inl (m 105 0 a1.toNatClampNeg)], m)) rfl hres (fun hc hres => ?_)
  refine e_steps 2 (s' := (10, [some (.inr (.inr (some (12, 0)))), some (.inl a1), none, none], [.inl (m 12 0 45), .inl (m 105 0 a1.toNatClampNeg)], m)) rfl ?_
  refine e_if (s1 := (17, [some (.inr (.inr (some (12, 0)))), some (.inl a1), none, none], [], m)) (s2 := (13, [some (.inr (.inr (some (12, 0)))), some (.inl a1), none, none], [], m)) rfl hres (fun hc hres => ?_) (fun hc hres => ?_)
  · refine e_steps 4 (s' := (21, [some (.inr (.inr (some (12, 0)))), some (.inl a1), some (.inl 0), some (.inl 0)], [], m)) rfl ?_
    refine e_mask (L' := [some (.inr (.inr (some (12, 0)))), some (.inl a1), some (.inl 0), some (.inl 0)]) rfl ?_
    refine e_loopb (φ := fun s => (21, [some (.inr (.inr (some (12, 0)))), some (.inl a1), some (.inl s.1), some (.inl s.2)], [], m)) (K := fun t => mm_E d 219 (85, [none, none, some (.inl t), none], [], m) (.inl (some (.inl r)), m, 0, 0)) hres (fun v7 hres => ?_) (fun s ol1 hres hcl1 hxl1 => ?_)
    · show mm_E d 219 (85, [none, none, some (.inl v7), none], [], m) (.inl (some (.inl r)), m, 0, 0)
      refine e_steps 1 (s' := (86, [none, none, some (.inl v7), none], [.inl v7], m)) rfl ?_
      refine e_gr (o := .inl (some (.inl v7))) rfl hres (fun hc hres => ?_)
      obtain rfl := Option.some.inj hres
      rfl
    · obtain ⟨v2, v3⟩ := s
      show mm_E d 219 (21, [some (.inr (.inr (some (12, 0)))), some (.inl a1), some (.inl v2), some (.inl v3)], [], m) (.inl (some (.inl r)), m, 0, 0)
      refine e_steps 1 (s' := (22, [some (.inr (.inr (some (12, 0)))), some (.inl a1), some (.inl v2), some (.inl v3)], [.inl v2], m)) rfl ?_
      refine e_if (s1 := (85, [some (.inr (.inr (some (12, 0)))), some (.inl a1), some (.inl v2), some (.inl v3)], [], m)) (s2 := (25, [some (.inr (.inr (some (12, 0)))), some (.inl a1), some (.inl v2), some (.inl v3)], [], m)) rfl hres (fun hc hres => ?_) (fun hc hres => ?_)
      · obtain rfl := Option.some.inj hres
        exact e_mask (L' := [none, none, some (.inl v2), none]) rfl (hxl1 _ rfl)
      · refine e_steps 3 (s' := (30, [some (.inr (.inr (some (12, 0)))), some (.inl a1), some (.inl v2), some (.inl v3)], [.inl (m 12 0 45), .inl v3], m)) rfl ?_
        refine e_if (s1 := (85, [some (.inr (.inr (some (12, 0)))), some (.inl a1), some (.inl v2), some (.inl v3)], [], m)) (s2 := (33, [some (.inr (.inr (some (12, 0)))), some (.inl a1), some (.inl v2), some (.inl v3)], [], m)) rfl hres (fun hc hres => ?_) (fun hc hres => ?_)
        · obtain rfl := Option.some.inj hres
          exact e_mask (L' := [none, none, some (.inl v2), none]) rfl (hxl1 _ rfl)
        · refine e_steps 7 (s' := (43, [some (.inr (.inr (some (12, 0)))), some (.inl a1), some (.inl v2), some (.inl v3)], [.inl ((60 * a1) + v3), .inr (.inr (some (106, 0)))], m)) rfl ?_
          refine e_gd (s1 := (44, [some (.inr (.inr (some (12, 0)))), some (.inl a1), some (.inl v2), some (.inl v3)], [.inl (m 106 0 ((60 * a1) + v3).toNatClampNeg)], m)) rfl hres (fun hc hres => ?_)
          refine e_steps 3 (s' := (49, [some (.inr (.inr (some (12, 0)))), some (.inl a1), some (.inl v2), some (.inl v3)], [.inl v3, .inr (.inr (some (95, 0))), .inl (m 106 0 ((60 * a1) + v3).toNatClampNeg)], m)) rfl ?_
          refine e_gd (s1 := (50, [some (.inr (.inr (some (12, 0)))), some (.inl a1), some (.inl v2), some (.inl v3)], [.inl (m 95 0 v3.toNatClampNeg), .inl (m 106 0 ((60 * a1) + v3).toNatClampNeg)], m)) rfl hres (fun hc hres => ?_)
          refine e_if (s1 := (77, [some (.inr (.inr (some (12, 0)))), some (.inl a1), some (.inl v2), some (.inl v3)], [], m)) (s2 := (53, [some (.inr (.inr (some (12, 0)))), some (.inl a1), some (.inl v2), some (.inl v3)], [], m)) rfl hres (fun hc hres => ?_) (fun hc hres => ?_)
          · refine e_mask (L' := [some (.inr (.inr (some (12, 0)))), some (.inl a1), none, some (.inl v3)]) rfl ?_
            refine e_steps 3 (s' := (82, [some (.inr (.inr (some (12, 0)))), some (.inl a1), some (.inl 0), some (.inl (v3 + 1))], [], m)) rfl ?_
            refine e_let (fun (v4 : Int32) => (82, [some (.inr (.inr (some (12, 0)))), some (.inl a1), some (.inl 0), some (.inl v4)], [], m)) hres (fun v4 hres => ?_)
            refine e_steps 1 (s' := (21, [some (.inr (.inr (some (12, 0)))), some (.inl a1), some (.inl 0), some (.inl v4)], [], m)) rfl ?_
            obtain rfl := Option.some.inj hres
            exact e_mask (L' := [some (.inr (.inr (some (12, 0)))), some (.inl a1), some (.inl 0), some (.inl v4)]) rfl (hcl1 _ rfl)
          · refine e_steps 7 (s' := (63, [some (.inr (.inr (some (12, 0)))), some (.inl a1), some (.inl v2), some (.inl v3)], [.inl ((60 * a1) + v3), .inr (.inr (some (107, 0)))], m)) rfl ?_
            refine e_gd (s1 := (64, [some (.inr (.inr (some (12, 0)))), some (.inl a1), some (.inl v2), some (.inl v3)], [.inl (m 107 0 ((60 * a1) + v3).toNatClampNeg)], m)) rfl hres (fun hc hres => ?_)
            refine e_steps 3 (s' := (69, [some (.inr (.inr (some (12, 0)))), some (.inl a1), some (.inl v2), some (.inl v3)], [.inl v3, .inr (.inr (some (96, 0))), .inl (m 107 0 ((60 * a1) + v3).toNatClampNeg)], m)) rfl ?_
            refine e_gd (s1 := (70, [some (.inr (.inr (some (12, 0)))), some (.inl a1), some (.inl v2), some (.inl v3)], [.inl (m 96 0 v3.toNatClampNeg), .inl (m 107 0 ((60 * a1) + v3).toNatClampNeg)], m)) rfl hres (fun hc hres => ?_)
            refine e_if (s1 := (77, [some (.inr (.inr (some (12, 0)))), some (.inl a1), some (.inl v2), some (.inl v3)], [], m)) (s2 := (73, [some (.inr (.inr (some (12, 0)))), some (.inl a1), some (.inl v2), some (.inl v3)], [], m)) rfl hres (fun hc hres => ?_) (fun hc hres => ?_)
            · refine e_mask (L' := [some (.inr (.inr (some (12, 0)))), some (.inl a1), none, some (.inl v3)]) rfl ?_
              refine e_steps 3 (s' := (82, [some (.inr (.inr (some (12, 0)))), some (.inl a1), some (.inl 0), some (.inl (v3 + 1))], [], m)) rfl ?_
              refine e_let (fun (v5 : Int32) => (82, [some (.inr (.inr (some (12, 0)))), some (.inl a1), some (.inl 0), some (.inl v5)], [], m)) hres (fun v5 hres => ?_)
              refine e_steps 1 (s' := (21, [some (.inr (.inr (some (12, 0)))), some (.inl a1), some (.inl 0), some (.inl v5)], [], m)) rfl ?_
              obtain rfl := Option.some.inj hres
              exact e_mask (L' := [some (.inr (.inr (some (12, 0)))), some (.inl a1), some (.inl 0), some (.inl v5)]) rfl (hcl1 _ rfl)
            · refine e_steps 2 (s' := (78, [some (.inr (.inr (some (12, 0)))), some (.inl a1), some (.inl v2), some (.inl v3)], [.inl 1], m)) rfl ?_
              refine e_mask (L' := [some (.inr (.inr (some (12, 0)))), some (.inl a1), none, some (.inl v3)]) rfl ?_
              refine e_steps 2 (s' := (82, [some (.inr (.inr (some (12, 0)))), some (.inl a1), some (.inl 1), some (.inl (v3 + 1))], [], m)) rfl ?_
              refine e_let (fun (v6 : Int32) => (82, [some (.inr (.inr (some (12, 0)))), some (.inl a1), some (.inl 1), some (.inl v6)], [], m)) hres (fun v6 hres => ?_)
              refine e_steps 1 (s' := (21, [some (.inr (.inr (some (12, 0)))), some (.inl a1), some (.inl 1), some (.inl v6)], [], m)) rfl ?_
              obtain rfl := Option.some.inj hres
              exact e_mask (L' := [some (.inr (.inr (some (12, 0)))), some (.inl a1), some (.inl 1), some (.inl v6)]) rfl (hcl1 _ rfl)
  · refine e_steps 5 (s' := (21, [some (.inr (.inr (some (12, 0)))), some (.inl a1), some (.inl 1), some (.inl 0)], [], m)) rfl ?_
    refine e_mask (L' := [some (.inr (.inr (some (12, 0)))), some (.inl a1), some (.inl 1), some (.inl 0)]) rfl ?_
    refine e_loopb (φ := fun s => (21, [some (.inr (.inr (some (12, 0)))), some (.inl a1), some (.inl s.1), some (.inl s.2)], [], m)) (K := fun t => mm_E d 219 (85, [none, none, some (.inl t), none], [], m) (.inl (some (.inl r)), m, 0, 0)) hres (fun v14 hres => ?_) (fun s ol8 hres hcl8 hxl8 => ?_)
    · show mm_E d 219 (85, [none, none, some (.inl v14), none], [], m) (.inl (some (.inl r)), m, 0, 0)
      refine e_steps 1 (s' := (86, [none, none, some (.inl v14), none], [.inl v14], m)) rfl ?_
      refine e_gr (o := .inl (some (.inl v14))) rfl hres (fun hc hres => ?_)
      obtain rfl := Option.some.inj hres
      rfl
    · obtain ⟨v9, v10⟩ := s
      show mm_E d 219 (21, [some (.inr (.inr (some (12, 0)))), some (.inl a1), some (.inl v9), some (.inl v10)], [], m) (.inl (some (.inl r)), m, 0, 0)
      refine e_steps 1 (s' := (22, [some (.inr (.inr (some (12, 0)))), some (.inl a1), some (.inl v9), some (.inl v10)], [.inl v9], m)) rfl ?_
      refine e_if (s1 := (85, [some (.inr (.inr (some (12, 0)))), some (.inl a1), some (.inl v9), some (.inl v10)], [], m)) (s2 := (25, [some (.inr (.inr (some (12, 0)))), some (.inl a1), some (.inl v9), some (.inl v10)], [], m)) rfl hres (fun hc hres => ?_) (fun hc hres => ?_)
      · obtain rfl := Option.some.inj hres
        exact e_mask (L' := [none, none, some (.inl v9), none]) rfl (hxl8 _ rfl)
      · refine e_steps 3 (s' := (30, [some (.inr (.inr (some (12, 0)))), some (.inl a1), some (.inl v9), some (.inl v10)], [.inl (m 12 0 45), .inl v10], m)) rfl ?_
        refine e_if (s1 := (85, [some (.inr (.inr (some (12, 0)))), some (.inl a1), some (.inl v9), some (.inl v10)], [], m)) (s2 := (33, [some (.inr (.inr (some (12, 0)))), some (.inl a1), some (.inl v9), some (.inl v10)], [], m)) rfl hres (fun hc hres => ?_) (fun hc hres => ?_)
        · obtain rfl := Option.some.inj hres
          exact e_mask (L' := [none, none, some (.inl v9), none]) rfl (hxl8 _ rfl)
        · refine e_steps 7 (s' := (43, [some (.inr (.inr (some (12, 0)))), some (.inl a1), some (.inl v9), some (.inl v10)], [.inl ((60 * a1) + v10), .inr (.inr (some (106, 0)))], m)) rfl ?_
          refine e_gd (s1 := (44, [some (.inr (.inr (some (12, 0)))), some (.inl a1), some (.inl v9), some (.inl v10)], [.inl (m 106 0 ((60 * a1) + v10).toNatClampNeg)], m)) rfl hres (fun hc hres => ?_)
          refine e_steps 3 (s' := (49, [some (.inr (.inr (some (12, 0)))), some (.inl a1), some (.inl v9), some (.inl v10)], [.inl v10, .inr (.inr (some (95, 0))), .inl (m 106 0 ((60 * a1) + v10).toNatClampNeg)], m)) rfl ?_
          refine e_gd (s1 := (50, [some (.inr (.inr (some (12, 0)))), some (.inl a1), some (.inl v9), some (.inl v10)], [.inl (m 95 0 v10.toNatClampNeg), .inl (m 106 0 ((60 * a1) + v10).toNatClampNeg)], m)) rfl hres (fun hc hres => ?_)
          refine e_if (s1 := (77, [some (.inr (.inr (some (12, 0)))), some (.inl a1), some (.inl v9), some (.inl v10)], [], m)) (s2 := (53, [some (.inr (.inr (some (12, 0)))), some (.inl a1), some (.inl v9), some (.inl v10)], [], m)) rfl hres (fun hc hres => ?_) (fun hc hres => ?_)
          · refine e_mask (L' := [some (.inr (.inr (some (12, 0)))), some (.inl a1), none, some (.inl v10)]) rfl ?_
            refine e_steps 3 (s' := (82, [some (.inr (.inr (some (12, 0)))), some (.inl a1), some (.inl 0), some (.inl (v10 + 1))], [], m)) rfl ?_
            refine e_let (fun (v11 : Int32) => (82, [some (.inr (.inr (some (12, 0)))), some (.inl a1), some (.inl 0), some (.inl v11)], [], m)) hres (fun v11 hres => ?_)
            refine e_steps 1 (s' := (21, [some (.inr (.inr (some (12, 0)))), some (.inl a1), some (.inl 0), some (.inl v11)], [], m)) rfl ?_
            obtain rfl := Option.some.inj hres
            exact e_mask (L' := [some (.inr (.inr (some (12, 0)))), some (.inl a1), some (.inl 0), some (.inl v11)]) rfl (hcl8 _ rfl)
          · refine e_steps 7 (s' := (63, [some (.inr (.inr (some (12, 0)))), some (.inl a1), some (.inl v9), some (.inl v10)], [.inl ((60 * a1) + v10), .inr (.inr (some (107, 0)))], m)) rfl ?_
            refine e_gd (s1 := (64, [some (.inr (.inr (some (12, 0)))), some (.inl a1), some (.inl v9), some (.inl v10)], [.inl (m 107 0 ((60 * a1) + v10).toNatClampNeg)], m)) rfl hres (fun hc hres => ?_)
            refine e_steps 3 (s' := (69, [some (.inr (.inr (some (12, 0)))), some (.inl a1), some (.inl v9), some (.inl v10)], [.inl v10, .inr (.inr (some (96, 0))), .inl (m 107 0 ((60 * a1) + v10).toNatClampNeg)], m)) rfl ?_
            refine e_gd (s1 := (70, [some (.inr (.inr (some (12, 0)))), some (.inl a1), some (.inl v9), some (.inl v10)], [.inl (m 96 0 v10.toNatClampNeg), .inl (m 107 0 ((60 * a1) + v10).toNatClampNeg)], m)) rfl hres (fun hc hres => ?_)
            refine e_if (s1 := (77, [some (.inr (.inr (some (12, 0)))), some (.inl a1), some (.inl v9), some (.inl v10)], [], m)) (s2 := (73, [some (.inr (.inr (some (12, 0)))), some (.inl a1), some (.inl v9), some (.inl v10)], [], m)) rfl hres (fun hc hres => ?_) (fun hc hres => ?_)
            · refine e_mask (L' := [some (.inr (.inr (some (12, 0)))), some (.inl a1), none, some (.inl v10)]) rfl ?_
              refine e_steps 3 (s' := (82, [some (.inr (.inr (some (12, 0)))), some (.inl a1), some (.inl 0), some (.inl (v10 + 1))], [], m)) rfl ?_
              refine e_let (fun (v12 : Int32) => (82, [some (.inr (.inr (some (12, 0)))), some (.inl a1), some (.inl 0), some (.inl v12)], [], m)) hres (fun v12 hres => ?_)
              refine e_steps 1 (s' := (21, [some (.inr (.inr (some (12, 0)))), some (.inl a1), some (.inl 0), some (.inl v12)], [], m)) rfl ?_
              obtain rfl := Option.some.inj hres
              exact e_mask (L' := [some (.inr (.inr (some (12, 0)))), some (.inl a1), some (.inl 0), some (.inl v12)]) rfl (hcl8 _ rfl)
            · refine e_steps 2 (s' := (78, [some (.inr (.inr (some (12, 0)))), some (.inl a1), some (.inl v9), some (.inl v10)], [.inl 1], m)) rfl ?_
              refine e_mask (L' := [some (.inr (.inr (some (12, 0)))), some (.inl a1), none, some (.inl v10)]) rfl ?_
              refine e_steps 2 (s' := (82, [some (.inr (.inr (some (12, 0)))), some (.inl a1), some (.inl 1), some (.inl (v10 + 1))], [], m)) rfl ?_
              refine e_let (fun (v13 : Int32) => (82, [some (.inr (.inr (some (12, 0)))), some (.inl a1), some (.inl 1), some (.inl v13)], [], m)) hres (fun v13 hres => ?_)
              refine e_steps 1 (s' := (21, [some (.inr (.inr (some (12, 0)))), some (.inl a1), some (.inl 1), some (.inl v13)], [], m)) rfl ?_
              obtain rfl := Option.some.inj hres
              exact e_mask (L' := [some (.inr (.inr (some (12, 0)))), some (.inl a1), some (.inl 1), some (.inl v13)]) rfl (hcl8 _ rfl)
/-- GlassThreadsModel.readBack(I)I -/
def f_X12_readBack (a1 : Int32) (m : mm_M) : Option (Int32 × mm_M) :=
mm_let (mm_w m 12 0 3 0) fun m1 =>
mm_b1 (f_X12_isColour a1 m1) fun r2 =>
if r2 = 0 then (mm_b2 (f_X12_fail 1 m1) fun r3 m4 =>
some (r3, m4))
else (if (m1 12 0 61) ≠ (-1) then (mm_let (mm_w m1 12 0 63 (-1)) fun m5 =>
mm_let (mm_w m5 12 0 64 0) fun m6 =>
mm_let (mm_w m6 12 0 65 0) fun m7 =>
(mm_b1 (mm_loop (σ := Int32 × Int32 × mm_M) (ρ := (Int32 × mm_M)) (fun (s : Int32 × Int32 × mm_M) => match s with
| (v9, v10, m11) => (if (1 <<< ((m11 12 0 62) &&& 31)) ≤ v10 then (some (.inr (v9, m11)))
else (mm_b1 (f_X12_clear m11) fun m13 =>
(mm_b1 (mm_loop (σ := Int32 × mm_M) (ρ := (mm_M)) (fun (s : Int32 × mm_M) => match s with
| (v15, m16) => (if (m16 12 0 62) ≤ v15 then (some (.inr m16))
else (if mm_in v15 8 then (
if ((v10 >>> (v15 &&& 31)) &&& 1) ≠ 1 then (if mm_in (m16 103 0 v15.toNatClampNeg) 24 then (
mm_let (mm_w m16 87 0 ((m16 103 0 v15.toNatClampNeg).toNatClampNeg) 0) fun m17 =>
mm_let (v15 + 1) fun v18 =>
some (.inl (v18, m17))) else none)
else (if mm_in v15 8 then (
if mm_in (m16 103 0 v15.toNatClampNeg) 24 then (
mm_let (mm_w m16 87 0 ((m16 103 0 v15.toNatClampNeg).toNatClampNeg) (m16 104 0 v15.toNatClampNeg)) fun m19 =>
mm_let (v15 + 1) fun v20 =>
some (.inl (v20, m19))) else none) else none)) else none) : Option ((Int32 × mm_M) ⊕ ((mm_M))))) mm_fu (0, m13)) fun m21 =>
(mm_b1 (mm_loop (σ := Int32 × Int32 × mm_M) (ρ := (Int32 × mm_M)) (fun (s : Int32 × Int32 × mm_M) => match s with
| (v23, v24, m25) => (if 2 ≤ v24 then (some (.inr (v23, m25)))
else (if mm_in v24 2 then (
if (m25 105 0 v24.toNatClampNeg) ≠ (-1) then (mm_let (fun (w26 : Int32) => (mm_b1 (f_X12_tellRow (m25 12 0 61) a1 w26 0 m25) fun m29 =>
if v23 = 0 then (mm_let (v24 + 1) fun v30 =>
some (.inl (0, v30, m29)))
else (mm_b1 (f_X12_isTold v24 m29) fun r31 =>
if r31 = 0 then (mm_let (v24 + 1) fun v32 =>
some (.inl (0, v32, m29)))
else (mm_let (v24 + 1) fun v33 =>
some (.inl (1, v33, m29)))) : Option ((Int32 × Int32 × mm_M) ⊕ ((Int32 × mm_M))))) fun k27 =>
if v24 ≠ 1 then (k27 0)
else (k27 1))
else (mm_let (v24 + 1) fun v34 =>
some (.inl (v23, v34, m25)))) else none) : Option ((Int32 × Int32 × mm_M) ⊕ ((Int32 × mm_M))))) mm_fu (1, 0, m21)) fun t => match t with
| (v35, m36) => if v35 ≠ 0 then (mm_let (fun (w37 : Int32) => (mm_let (mm_w m36 12 0 63 w37) fun m39 =>
mm_let (fun (w40 : Int32) => (mm_let (mm_w m39 12 0 64 w40) fun m42 =>
mm_let (mm_w m42 12 0 65 ((m42 12 0 65) ||| v10)) fun m43 =>
mm_let (v9 + 1) fun v44 =>
mm_let (v10 + 1) fun v45 =>
some (.inl (v44, v45, m43)) : Option ((Int32 × Int32 × mm_M) ⊕ ((Int32 × mm_M))))) fun k41 =>
if v9 ≠ 0 then (k41 ((m39 12 0 64) &&& v10))
else (k41 v10) : Option ((Int32 × Int32 × mm_M) ⊕ ((Int32 × mm_M))))) fun k38 =>
if (m36 12 0 63) ≠ (-1) then (k38 (m36 12 0 63))
else (k38 v10))
else (mm_let (v10 + 1) fun v46 =>
some (.inl (v9, v46, m36)))))) : Option ((Int32 × Int32 × mm_M) ⊕ ((Int32 × mm_M))))) mm_fu (0, 0, m7)) fun t => match t with
| (v47, m48) => mm_let (mm_w m48 12 0 66 1) fun m49 =>
some (v47, m49)))
else (mm_b2 (f_X12_fail 1 m1) fun r50 m51 =>
some (r50, m51)))
set_option maxHeartbeats 4000000 in
set_option maxRecDepth 100000 in
theorem k_X12_readBack (d : Nat) (hd : 5 ≤ d) (a1 : Int32) (m : mm_M) (r : Int32 × mm_M) (hres : f_X12_readBack a1 m = some r) : mm_X d 220 [.inr (.inr (some (12, 0))), .inl a1] m (.inl (some (.inl r.1)), r.2, 0, 0) := by
  unfold f_X12_readBack at hres
  obtain ⟨d, rfl⟩ : ∃ e, d = e + 1 := ⟨d - 1, by omega⟩
  show mm_E (d + 1) 220 (0, [some (.inr (.inr (some (12, 0)))), some (.inl a1), none, none, none, none], [], m) (.inl (some (.inl r.1)), r.2, 0, 0)
  refine e_steps 3 (s' := (5, [some (.inr (.inr (some (12, 0)))), some (.inl a1), none, none, none, none], [], (mm_w m 12 0 3 0))) rfl ?_
  refine e_let (fun (m1 : mm_M) => (5, [some (.inr (.inr (some (12, 0)))), some (.inl a1), none, none, none, none], [], m1)) hres (fun m1 hres => ?_)
  refine e_steps 1 (s' := (6, [some (.inr (.inr (some (12, 0)))), some (.inl a1), none, none, none, none], [.inl a1], m1)) rfl ?_
  obtain ⟨r2, hv, hres⟩ := mm_b1_some hres
  refine e_call0 (pc := 9) (L := [some (.inr (.inr (some (12, 0)))), some (.inl a1), none, none, none, none]) (st := []) (m' := m1) (v := some (.inl r2)) rfl (k_X12_isColour d (by omega) a1 _ _ hv) ?_
  show mm_E (d + 1) 220 (9, [some (.inr (.inr (some (12, 0)))), some (.inl a1), none, none, none, none], [.inl r2], m1) (.inl (some (.inl r.1)), r.2, 0, 0)
  refine e_if (s1 := (20, [some (.inr (.inr (some (12, 0)))), some (.inl a1), none, none, none, none], [], m1)) (s2 := (12, [some (.inr (.inr (some (12, 0)))), some (.inl a1), none, none, none, none], [], m1)) rfl hres (fun hc hres => ?_) (fun hc hres => ?_)
  · refine e_mask (L' := [some (.inr (.inr (some (12, 0)))), none, none, none, none, none]) rfl ?_
    refine e_steps 2 (s' := (22, [some (.inr (.inr (some (12, 0)))), none, none, none, none, none], [.inl 1, .inr (.inr (some (12, 0)))], m1)) rfl ?_
    obtain ⟨r3, m4, hv, hres⟩ := mm_b2_some hres
    refine e_call0 (pc := 25) (L := [some (.inr (.inr (some (12, 0)))), none, none, none, none, none]) (st := []) (m' := m4) (v := some (.inl r3)) rfl (k_X12_fail d (by omega) 1 _ _ hv) ?_
    show mm_E (d + 1) 220 (25, [some (.inr (.inr (some (12, 0)))), none, none, none, none, none], [.inl r3], m4) (.inl (some (.inl r.1)), r.2, 0, 0)
    obtain rfl := Option.some.inj hres
    exact e_ret rfl rfl
  · refine e_steps 3 (s' := (17, [some (.inr (.inr (some (12, 0)))), some (.inl a1), none, none, none, none], [.inl (-1), .inl (m1 12 0 61)], m1)) rfl ?_
    refine e_if (s1 := (26, [some (.inr (.inr (some (12, 0)))), some (.inl a1), none, none, none, none], [], m1)) (s2 := (20, [some (.inr (.inr (some (12, 0)))), some (.inl a1), none, none, none, none], [], m1)) rfl hres (fun hc hres => ?_) (fun hc hres => ?_)
    · refine e_steps 3 (s' := (31, [some (.inr (.inr (some (12, 0)))), some (.inl a1), none, none, none, none], [], (mm_w m1 12 0 63 (-1)))) rfl ?_
      refine e_let (fun (m5 : mm_M) => (31, [some (.inr (.inr (some (12, 0)))), some (.inl a1), none, none, none, none], [], m5)) hres (fun m5 hres => ?_)
      refine e_steps 3 (s' := (36, [some (.inr (.inr (some (12, 0)))), some (.inl a1), none, none, none, none], [], (mm_w m5 12 0 64 0))) rfl ?_
      refine e_let (fun (m6 : mm_M) => (36, [some (.inr (.inr (some (12, 0)))), some (.inl a1), none, none, none, none], [], m6)) hres (fun m6 hres => ?_)
      refine e_steps 3 (s' := (41, [some (.inr (.inr (some (12, 0)))), some (.inl a1), none, none, none, none], [], (mm_w m6 12 0 65 0))) rfl ?_
      refine e_let (fun (m7 : mm_M) => (41, [some (.inr (.inr (some (12, 0)))), some (.inl a1), none, none, none, none], [], m7)) hres (fun m7 hres => ?_)
      refine e_steps 4 (s' := (45, [some (.inr (.inr (some (12, 0)))), some (.inl a1), some (.inl 0), some (.inl 0), none, none], [], m7)) rfl ?_
      refine e_mask (L' := [some (.inr (.inr (some (12, 0)))), some (.inl a1), some (.inl 0), some (.inl 0), none, none]) rfl ?_
      refine e_loopb (φ := fun s => (45, [some (.inr (.inr (some (12, 0)))), some (.inl a1), some (.inl s.1), some (.inl s.2.1), none, none], [], s.2.2)) (K := fun t => mm_E (d + 1) 220 (249, [some (.inr (.inr (some (12, 0)))), none, some (.inl t.1), none, none, none], [], t.2) (.inl (some (.inl r.1)), r.2, 0, 0)) hres (fun t hres => ?_) (fun s ol8 hres hcl8 hxl8 => ?_)
      · obtain ⟨v47, m48⟩ := t
        show mm_E (d + 1) 220 (249, [some (.inr (.inr (some (12, 0)))), none, some (.inl v47), none, none, none], [], m48) (.inl (some (.inl r.1)), r.2, 0, 0)
        refine e_steps 3 (s' := (254, [some (.inr (.inr (some (12, 0)))), none, some (.inl v47), none, none, none], [], (mm_w m48 12 0 66 1))) rfl ?_
        refine e_let (fun (m49 : mm_M) => (254, [some (.inr (.inr (some (12, 0)))), none, some (.inl v47), none, none, none], [], m49)) hres (fun m49 hres => ?_)
        refine e_steps 1 (s' := (255, [some (.inr (.inr (some (12, 0)))), none, some (.inl v47), none, none, none], [.inl v47], m49)) rfl ?_
        obtain rfl := Option.some.inj hres
        exact e_ret rfl rfl
      · obtain ⟨v9, v10, m11⟩ := s
        show mm_E (d + 1) 220 (45, [some (.inr (.inr (some (12, 0)))), some (.inl a1), some (.inl v9), some (.inl v10), none, none], [], m11) (.inl (some (.inl r.1)), r.2, 0, 0)
        refine e_steps 5 (s' := (52, [some (.inr (.inr (some (12, 0)))), some (.inl a1), some (.inl v9), some (.inl v10), none, none], [.inl (1 <<< ((m11 12 0 62) &&& 31)), .inl v10], m11)) rfl ?_
        refine e_if (s1 := (249, [some (.inr (.inr (some (12, 0)))), some (.inl a1), some (.inl v9), some (.inl v10), none, none], [], m11)) (s2 := (55, [some (.inr (.inr (some (12, 0)))), some (.inl a1), some (.inl v9), some (.inl v10), none, none], [], m11)) rfl hres (fun hc hres => ?_) (fun hc hres => ?_)
        · obtain rfl := Option.some.inj hres
          exact e_mask (L' := [some (.inr (.inr (some (12, 0)))), none, some (.inl v9), none, none, none]) rfl (hxl8 _ rfl)
        · refine e_steps 1 (s' := (56, [some (.inr (.inr (some (12, 0)))), some (.inl a1), some (.inl v9), some (.inl v10), none, none], [.inr (.inr (some (12, 0)))], m11)) rfl ?_
          obtain ⟨m13, hv, hres⟩ := mm_b1_some hres
          refine e_call0 (pc := 59) (L := [some (.inr (.inr (some (12, 0)))), some (.inl a1), some (.inl v9), some (.inl v10), none, none]) (st := []) (m' := m13) (v := none) rfl (k_X12_clear d (by omega)  _ _ hv) ?_
          show mm_E (d + 1) 220 (59, [some (.inr (.inr (some (12, 0)))), some (.inl a1), some (.inl v9), some (.inl v10), none, none], [], m13) (.inl (some (.inl r.1)), r.2, 0, 0)
          refine e_steps 2 (s' := (62, [some (.inr (.inr (some (12, 0)))), some (.inl a1), some (.inl v9), some (.inl v10), some (.inl 0), none], [], m13)) rfl ?_
          refine e_mask (L' := [some (.inr (.inr (some (12, 0)))), some (.inl a1), some (.inl v9), some (.inl v10), some (.inl 0), none]) rfl ?_
          refine e_loopb (φ := fun s => (62, [some (.inr (.inr (some (12, 0)))), some (.inl a1), some (.inl v9), some (.inl v10), some (.inl s.1), none], [], s.2)) (K := fun t => mm_E (d + 1) 220 (110, [some (.inr (.inr (some (12, 0)))), some (.inl a1), some (.inl v9), some (.inl v10), none, none], [], t) (.inl (some (.inl r.1)), r.2, 0, 0)) hres (fun m21 hres => ?_) (fun s ol14 hres hcl14 hxl14 => ?_)
          · show mm_E (d + 1) 220 (110, [some (.inr (.inr (some (12, 0)))), some (.inl a1), some (.inl v9), some (.inl v10), none, none], [], m21) (.inl (some (.inl r.1)), r.2, 0, 0)
            refine e_steps 4 (s' := (116, [some (.inr (.inr (some (12, 0)))), some (.inl a1), some (.inl v9), some (.inl v10), some (.inl 1), some (.inl 0)], [], m21)) rfl ?_
            refine e_mask (L' := [some (.inr (.inr (some (12, 0)))), some (.inl a1), some (.inl v9), some (.inl v10), some (.inl 1), some (.inl 0)]) rfl ?_
            refine e_loopb (φ := fun s => (116, [some (.inr (.inr (some (12, 0)))), some (.inl a1), some (.inl v9), some (.inl v10), some (.inl s.1), some (.inl s.2.1)], [], s.2.2)) (K := fun t => mm_E (d + 1) 220 (184, [some (.inr (.inr (some (12, 0)))), some (.inl a1), some (.inl v9), some (.inl v10), some (.inl t.1), none], [], t.2) (.inl (some (.inl r.1)), r.2, 0, 0)) hres (fun t hres => ?_) (fun s ol22 hres hcl22 hxl22 => ?_)
            · obtain ⟨v35, m36⟩ := t
              show mm_E (d + 1) 220 (184, [some (.inr (.inr (some (12, 0)))), some (.inl a1), some (.inl v9), some (.inl v10), some (.inl v35), none], [], m36) (.inl (some (.inl r.1)), r.2, 0, 0)
              refine e_steps 1 (s' := (186, [some (.inr (.inr (some (12, 0)))), some (.inl a1), some (.inl v9), some (.inl v10), some (.inl v35), none], [.inl v35], m36)) rfl ?_
              refine e_if (s1 := (192, [some (.inr (.inr (some (12, 0)))), some (.inl a1), some (.inl v9), some (.inl v10), some (.inl v35), none], [], m36)) (s2 := (189, [some (.inr (.inr (some (12, 0)))), some (.inl a1), some (.inl v9), some (.inl v10), some (.inl v35), none], [], m36)) rfl hres (fun hc hres => ?_) (fun hc hres => ?_)
              · refine e_steps 4 (s' := (198, [some (.inr (.inr (some (12, 0)))), some (.inl a1), some (.inl v9), some (.inl v10), some (.inl v35), none], [.inl (-1), .inl (m36 12 0 63), .inr (.inr (some (12, 0)))], m36)) rfl ?_
                refine e_join (fun k38 => ∀ (w37 : Int32), k38 w37 = some ol8 → mm_E (d + 1) 220 (209, [some (.inr (.inr (some (12, 0)))), some (.inl a1), some (.inl v9), some (.inl v10), none, none], [.inl w37, .inr (.inr (some (12, 0)))], m36) (.inl (some (.inl r.1)), r.2, 0, 0)) hres (fun w37 hres => ?_) (fun k38 hk38 hres => ?_)
                · refine e_steps 1 (s' := (212, [some (.inr (.inr (some (12, 0)))), some (.inl a1), some (.inl v9), some (.inl v10), none, none], [], (mm_w m36 12 0 63 w37))) rfl ?_
                  refine e_let (fun (m39 : mm_M) => (212, [some (.inr (.inr (some (12, 0)))), some (.inl a1), some (.inl v9), some (.inl v10), none, none], [], m39)) hres (fun m39 hres => ?_)
                  refine e_steps 2 (s' := (214, [some (.inr (.inr (some (12, 0)))), some (.inl a1), some (.inl v9), some (.inl v10), none, none], [.inl v9, .inr (.inr (some (12, 0)))], m39)) rfl ?_
                  refine e_join (fun k41 => ∀ (w40 : Int32), k41 w40 = some ol8 → mm_E (d + 1) 220 (227, [some (.inr (.inr (some (12, 0)))), some (.inl a1), some (.inl v9), some (.inl v10), none, none], [.inl w40, .inr (.inr (some (12, 0)))], m39) (.inl (some (.inl r.1)), r.2, 0, 0)) hres (fun w40 hres => ?_) (fun k41 hk41 hres => ?_)
                  · refine e_steps 1 (s' := (230, [some (.inr (.inr (some (12, 0)))), some (.inl a1), some (.inl v9), some (.inl v10), none, none], [], (mm_w m39 12 0 64 w40))) rfl ?_
                    refine e_let (fun (m42 : mm_M) => (230, [some (.inr (.inr (some (12, 0)))), some (.inl a1), some (.inl v9), some (.inl v10), none, none], [], m42)) hres (fun m42 hres => ?_)
                    refine e_steps 6 (s' := (240, [some (.inr (.inr (some (12, 0)))), some (.inl a1), some (.inl v9), some (.inl v10), none, none], [], (mm_w m42 12 0 65 ((m42 12 0 65) ||| v10)))) rfl ?_
                    refine e_let (fun (m43 : mm_M) => (240, [some (.inr (.inr (some (12, 0)))), some (.inl a1), some (.inl v9), some (.inl v10), none, none], [], m43)) hres (fun m43 hres => ?_)
                    refine e_steps 1 (s' := (243, [some (.inr (.inr (some (12, 0)))), some (.inl a1), some (.inl (v9 + 1)), some (.inl v10), none, none], [], m43)) rfl ?_
                    refine e_let (fun (v44 : Int32) => (243, [some (.inr (.inr (some (12, 0)))), some (.inl a1), some (.inl v44), some (.inl v10), none, none], [], m43)) hres (fun v44 hres => ?_)
                    refine e_steps 1 (s' := (246, [some (.inr (.inr (some (12, 0)))), some (.inl a1), some (.inl v44), some (.inl (v10 + 1)), none, none], [], m43)) rfl ?_
                    refine e_let (fun (v45 : Int32) => (246, [some (.inr (.inr (some (12, 0)))), some (.inl a1), some (.inl v44), some (.inl v45), none, none], [], m43)) hres (fun v45 hres => ?_)
                    refine e_steps 1 (s' := (45, [some (.inr (.inr (some (12, 0)))), some (.inl a1), some (.inl v44), some (.inl v45), none, none], [], m43)) rfl ?_
                    obtain rfl := Option.some.inj hres
                    exact e_mask (L' := [some (.inr (.inr (some (12, 0)))), some (.inl a1), some (.inl v44), some (.inl v45), none, none]) rfl (hcl8 _ rfl)
                  · refine e_if (s1 := (221, [some (.inr (.inr (some (12, 0)))), some (.inl a1), some (.inl v9), some (.inl v10), none, none], [.inr (.inr (some (12, 0)))], m39)) (s2 := (217, [some (.inr (.inr (some (12, 0)))), some (.inl a1), some (.inl v9), some (.inl v10), none, none], [.inr (.inr (some (12, 0)))], m39)) rfl hres (fun hc hres => ?_) (fun hc hres => ?_)
                    · refine e_steps 4 (s' := (227, [some (.inr (.inr (some (12, 0)))), some (.inl a1), some (.inl v9), some (.inl v10), none, none], [.inl ((m39 12 0 64) &&& v10), .inr (.inr (some (12, 0)))], m39)) rfl ?_
                      exact e_mask (L' := [some (.inr (.inr (some (12, 0)))), some (.inl a1), some (.inl v9), some (.inl v10), none, none]) rfl (hk41 _ hres)
                    · refine e_steps 2 (s' := (227, [some (.inr (.inr (some (12, 0)))), some (.inl a1), some (.inl v9), some (.inl v10), none, none], [.inl v10, .inr (.inr (some (12, 0)))], m39)) rfl ?_
                      exact e_mask (L' := [some (.inr (.inr (some (12, 0)))), some (.inl a1), some (.inl v9), some (.inl v10), none, none]) rfl (hk41 _ hres)
                · refine e_if (s1 := (205, [some (.inr (.inr (some (12, 0)))), some (.inl a1), some (.inl v9), some (.inl v10), some (.inl v35), none], [.inr (.inr (some (12, 0)))], m36)) (s2 := (201, [some (.inr (.inr (some (12, 0)))), some (.inl a1), some (.inl v9), some (.inl v10), some (.inl v35), none], [.inr (.inr (some (12, 0)))], m36)) rfl hres (fun hc hres => ?_) (fun hc hres => ?_)
                  · refine e_steps 2 (s' := (209, [some (.inr (.inr (some (12, 0)))), some (.inl a1), some (.inl v9), some (.inl v10), some (.inl v35), none], [.inl (m36 12 0 63), .inr (.inr (some (12, 0)))], m36)) rfl ?_
                    exact e_mask (L' := [some (.inr (.inr (some (12, 0)))), some (.inl a1), some (.inl v9), some (.inl v10), none, none]) rfl (hk38 _ hres)
                  · refine e_steps 2 (s' := (209, [some (.inr (.inr (some (12, 0)))), some (.inl a1), some (.inl v9), some (.inl v10), some (.inl v35), none], [.inl v10, .inr (.inr (some (12, 0)))], m36)) rfl ?_
                    exact e_mask (L' := [some (.inr (.inr (some (12, 0)))), some (.inl a1), some (.inl v9), some (.inl v10), none, none]) rfl (hk38 _ hres)
              · refine e_steps 1 (s' := (243, [some (.inr (.inr (some (12, 0)))), some (.inl a1), some (.inl v9), some (.inl v10), some (.inl v35), none], [], m36)) rfl ?_
                refine e_mask (L' := [some (.inr (.inr (some (12, 0)))), some (.inl a1), some (.inl v9), some (.inl v10), none, none]) rfl ?_
                refine e_steps 1 (s' := (246, [some (.inr (.inr (some (12, 0)))), some (.inl a1), some (.inl v9), some (.inl (v10 + 1)), none, none], [], m36)) rfl ?_
                refine e_let (fun (v46 : Int32) => (246, [some (.inr (.inr (some (12, 0)))), some (.inl a1), some (.inl v9), some (.inl v46), none, none], [], m36)) hres (fun v46 hres => ?_)
                refine e_steps 1 (s' := (45, [some (.inr (.inr (some (12, 0)))), some (.inl a1), some (.inl v9), some (.inl v46), none, none], [], m36)) rfl ?_
                obtain rfl := Option.some.inj hres
                exact e_mask (L' := [some (.inr (.inr (some (12, 0)))), some (.inl a1), some (.inl v9), some (.inl v46), none, none]) rfl (hcl8 _ rfl)
            · obtain ⟨v23, v24, m25⟩ := s
              show mm_E (d + 1) 220 (116, [some (.inr (.inr (some (12, 0)))), some (.inl a1), some (.inl v9), some (.inl v10), some (.inl v23), some (.inl v24)], [], m25) (.inl (some (.inl r.1)), r.2, 0, 0)
              refine e_steps 2 (s' := (119, [some (.inr (.inr (some (12, 0)))), some (.inl a1), some (.inl v9), some (.inl v10), some (.inl v23), some (.inl v24)], [.inl 2, .inl v24], m25)) rfl ?_
              refine e_if (s1 := (184, [some (.inr (.inr (some (12, 0)))), some (.inl a1), some (.inl v9), some (.inl v10), some (.inl v23), some (.inl v24)], [], m25)) (s2 := (122, [some (.inr (.inr (some (12, 0)))), some (.inl a1), some (.inl v9), some (.inl v10), some (.inl v23), some (.inl v24)], [], m25)) rfl hres (fun hc hres => ?_) (fun hc hres => ?_)
              · obtain rfl := Option.some.inj hres
                exact e_mask (L' := [some (.inr (.inr (some (12, 0)))), some (.inl a1), some (.inl v9), some (.inl v10), some (.inl v23), none]) rfl (hxl22 _ rfl)
              · refine e_steps 3 (s' := (128, [some (.inr (.inr (some (12, 0)))), some (.inl a1), some (.inl v9), some (.inl v10), some (.inl v23), some (.inl v24)], [.inl v24, .inr (.inr (some (105, 0)))], m25)) rfl ?_
                refine e_gd (s1 := (129, [some (.inr (.inr (some (12, 0)))), some (.inl a1), some (.inl v9), some (.inl v10), some (.inl v23), some (.inl v24)], [.inl (m25 105 0 v24.toNatClampNeg)], m25)) rfl hres (fun hc hres => ?_)
                refine e_steps 1 (s' := (130, [some (.inr (.inr (some (12, 0)))), some (.inl a1), some (.inl v9), some (.inl v10), some (.inl v23), some (.inl v24)], [.inl (-1), .inl (m25 105 0 v24.toNatClampNeg)], m25)) rfl ?_
                refine e_if (s1 := (136, [some (.inr (.inr (some (12, 0)))), some (.inl a1), some (.inl v9), some (.inl v10), some (.inl v23), some (.inl v24)], [], m25)) (s2 := (133, [some (.inr (.inr (some (12, 0)))), some (.inl a1), some (.inl v9), some (.inl v10), some (.inl v23), some (.inl v24)], [], m25)) rfl hres (fun hc hres => ?_) (fun hc hres => ?_)
                · refine e_steps 6 (s' := (145, [some (.inr (.inr (some (12, 0)))), some (.inl a1), some (.inl v9), some (.inl v10), some (.inl v23), some (.inl v24)], [.inl 1, .inl v24, .inl a1, .inl (m25 12 0 61), .inr (.inr (some (12, 0)))], m25)) rfl ?_
                  refine e_join (fun k27 => ∀ (w26 : Int32), k27 w26 = some ol22 → mm_E (d + 1) 220 (153, [some (.inr (.inr (some (12, 0)))), some (.inl a1), some (.inl v9), some (.inl v10), some (.inl v23), some (.inl v24)], [.inl w26, .inl a1, .inl (m25 12 0 61), .inr (.inr (some (12, 0)))], m25) (.inl (some (.inl r.1)), r.2, 0, 0)) hres (fun w26 hres => ?_) (fun k27 hk27 hres => ?_)
                  · refine e_steps 1 (s' := (154, [some (.inr (.inr (some (12, 0)))), some (.inl a1), some (.inl v9), some (.inl v10), some (.inl v23), some (.inl v24)], [.inl 0, .inl w26, .inl a1, .inl (m25 12 0 61), .inr (.inr (some (12, 0)))], m25)) rfl ?_
                    obtain ⟨m29, hv, hres⟩ := mm_b1_some hres
                    refine e_call0 (pc := 157) (L := [some (.inr (.inr (some (12, 0)))), some (.inl a1), some (.inl v9), some (.inl v10), some (.inl v23), some (.inl v24)]) (st := []) (m' := m29) (v := none) rfl (k_X12_tellRow d (by omega) (m25 12 0 61) a1 w26 0 _ _ hv) ?_
                    show mm_E (d + 1) 220 (157, [some (.inr (.inr (some (12, 0)))), some (.inl a1), some (.inl v9), some (.inl v10), some (.inl v23), some (.inl v24)], [], m29) (.inl (some (.inl r.1)), r.2, 0, 0)
                    refine e_steps 1 (s' := (159, [some (.inr (.inr (some (12, 0)))), some (.inl a1), some (.inl v9), some (.inl v10), some (.inl v23), some (.inl v24)], [.inl v23], m29)) rfl ?_
                    refine e_if (s1 := (175, [some (.inr (.inr (some (12, 0)))), some (.inl a1), some (.inl v9), some (.inl v10), some (.inl v23), some (.inl v24)], [], m29)) (s2 := (162, [some (.inr (.inr (some (12, 0)))), some (.inl a1), some (.inl v9), some (.inl v10), some (.inl v23), some (.inl v24)], [], m29)) rfl hres (fun hc hres => ?_) (fun hc hres => ?_)
                    · refine e_mask (L' := [some (.inr (.inr (some (12, 0)))), some (.inl a1), some (.inl v9), some (.inl v10), none, some (.inl v24)]) rfl ?_
                      refine e_steps 3 (s' := (181, [some (.inr (.inr (some (12, 0)))), some (.inl a1), some (.inl v9), some (.inl v10), some (.inl 0), some (.inl (v24 + 1))], [], m29)) rfl ?_
                      refine e_let (fun (v30 : Int32) => (181, [some (.inr (.inr (some (12, 0)))), some (.inl a1), some (.inl v9), some (.inl v10), some (.inl 0), some (.inl v30)], [], m29)) hres (fun v30 hres => ?_)
                      refine e_steps 1 (s' := (116, [some (.inr (.inr (some (12, 0)))), some (.inl a1), some (.inl v9), some (.inl v10), some (.inl 0), some (.inl v30)], [], m29)) rfl ?_
                      obtain rfl := Option.some.inj hres
                      exact e_mask (L' := [some (.inr (.inr (some (12, 0)))), some (.inl a1), some (.inl v9), some (.inl v10), some (.inl 0), some (.inl v30)]) rfl (hcl22 _ rfl)
                    · refine e_steps 2 (s' := (165, [some (.inr (.inr (some (12, 0)))), some (.inl a1), some (.inl v9), some (.inl v10), some (.inl v23), some (.inl v24)], [.inl v24, .inr (.inr (some (12, 0)))], m29)) rfl ?_
                      obtain ⟨r31, hv, hres⟩ := mm_b1_some hres
                      refine e_call0 (pc := 168) (L := [some (.inr (.inr (some (12, 0)))), some (.inl a1), some (.inl v9), some (.inl v10), some (.inl v23), some (.inl v24)]) (st := []) (m' := m29) (v := some (.inl r31)) rfl (k_X12_isTold d (by omega) v24 _ _ hv) ?_
                      show mm_E (d + 1) 220 (168, [some (.inr (.inr (some (12, 0)))), some (.inl a1), some (.inl v9), some (.inl v10), some (.inl v23), some (.inl v24)], [.inl r31], m29) (.inl (some (.inl r.1)), r.2, 0, 0)
                      refine e_if (s1 := (175, [some (.inr (.inr (some (12, 0)))), some (.inl a1), some (.inl v9), some (.inl v10), some (.inl v23), some (.inl v24)], [], m29)) (s2 := (171, [some (.inr (.inr (some (12, 0)))), some (.inl a1), some (.inl v9), some (.inl v10), some (.inl v23), some (.inl v24)], [], m29)) rfl hres (fun hc hres => ?_) (fun hc hres => ?_)
                      · refine e_mask (L' := [some (.inr (.inr (some (12, 0)))), some (.inl a1), some (.inl v9), some (.inl v10), none, some (.inl v24)]) rfl ?_
                        refine e_steps 3 (s' := (181, [some (.inr (.inr (some (12, 0)))), some (.inl a1), some (.inl v9), some (.inl v10), some (.inl 0), some (.inl (v24 + 1))], [], m29)) rfl ?_
                        refine e_let (fun (v32 : Int32) => (181, [some (.inr (.inr (some (12, 0)))), some (.inl a1), some (.inl v9), some (.inl v10), some (.inl 0), some (.inl v32)], [], m29)) hres (fun v32 hres => ?_)
                        refine e_steps 1 (s' := (116, [some (.inr (.inr (some (12, 0)))), some (.inl a1), some (.inl v9), some (.inl v10), some (.inl 0), some (.inl v32)], [], m29)) rfl ?_
                        obtain rfl := Option.some.inj hres
                        exact e_mask (L' := [some (.inr (.inr (some (12, 0)))), some (.inl a1), some (.inl v9), some (.inl v10), some (.inl 0), some (.inl v32)]) rfl (hcl22 _ rfl)
                      · refine e_steps 2 (s' := (176, [some (.inr (.inr (some (12, 0)))), some (.inl a1), some (.inl v9), some (.inl v10), some (.inl v23), some (.inl v24)], [.inl 1], m29)) rfl ?_
                        refine e_mask (L' := [some (.inr (.inr (some (12, 0)))), some (.inl a1), some (.inl v9), some (.inl v10), none, some (.inl v24)]) rfl ?_
                        refine e_steps 2 (s' := (181, [some (.inr (.inr (some (12, 0)))), some (.inl a1), some (.inl v9), some (.inl v10), some (.inl 1), some (.inl (v24 + 1))], [], m29)) rfl ?_
                        refine e_let (fun (v33 : Int32) => (181, [some (.inr (.inr (some (12, 0)))), some (.inl a1), some (.inl v9), some (.inl v10), some (.inl 1), some (.inl v33)], [], m29)) hres (fun v33 hres => ?_)
                        refine e_steps 1 (s' := (116, [some (.inr (.inr (some (12, 0)))), some (.inl a1), some (.inl v9), some (.inl v10), some (.inl 1), some (.inl v33)], [], m29)) rfl ?_
                        obtain rfl := Option.some.inj hres
                        exact e_mask (L' := [some (.inr (.inr (some (12, 0)))), some (.inl a1), some (.inl v9), some (.inl v10), some (.inl 1), some (.inl v33)]) rfl (hcl22 _ rfl)
                  · refine e_if (s1 := (152, [some (.inr (.inr (some (12, 0)))), some (.inl a1), some (.inl v9), some (.inl v10), some (.inl v23), some (.inl v24)], [.inl a1, .inl (m25 12 0 61), .inr (.inr (some (12, 0)))], m25)) (s2 := (148, [some (.inr (.inr (some (12, 0)))), some (.inl a1), some (.inl v9), some (.inl v10), some (.inl v23), some (.inl v24)], [.inl a1, .inl (m25 12 0 61), .inr (.inr (some (12, 0)))], m25)) rfl hres (fun hc hres => ?_) (fun hc hres => ?_)
                    · refine e_steps 1 (s' := (153, [some (.inr (.inr (some (12, 0)))), some (.inl a1), some (.inl v9), some (.inl v10), some (.inl v23), some (.inl v24)], [.inl 0, .inl a1, .inl (m25 12 0 61), .inr (.inr (some (12, 0)))], m25)) rfl ?_
                      exact e_mask (L' := [some (.inr (.inr (some (12, 0)))), some (.inl a1), some (.inl v9), some (.inl v10), some (.inl v23), some (.inl v24)]) rfl (hk27 _ hres)
                    · refine e_steps 2 (s' := (153, [some (.inr (.inr (some (12, 0)))), some (.inl a1), some (.inl v9), some (.inl v10), some (.inl v23), some (.inl v24)], [.inl 1, .inl a1, .inl (m25 12 0 61), .inr (.inr (some (12, 0)))], m25)) rfl ?_
                      exact e_mask (L' := [some (.inr (.inr (some (12, 0)))), some (.inl a1), some (.inl v9), some (.inl v10), some (.inl v23), some (.inl v24)]) rfl (hk27 _ hres)
                · refine e_steps 2 (s' := (181, [some (.inr (.inr (some (12, 0)))), some (.inl a1), some (.inl v9), some (.inl v10), some (.inl v23), some (.inl (v24 + 1))], [], m25)) rfl ?_
                  refine e_let (fun (v34 : Int32) => (181, [some (.inr (.inr (some (12, 0)))), some (.inl a1), some (.inl v9), some (.inl v10), some (.inl v23), some (.inl v34)], [], m25)) hres (fun v34 hres => ?_)
                  refine e_steps 1 (s' := (116, [some (.inr (.inr (some (12, 0)))), some (.inl a1), some (.inl v9), some (.inl v10), some (.inl v23), some (.inl v34)], [], m25)) rfl ?_
                  obtain rfl := Option.some.inj hres
                  exact e_mask (L' := [some (.inr (.inr (some (12, 0)))), some (.inl a1), some (.inl v9), some (.inl v10), some (.inl v23), some (.inl v34)]) rfl (hcl22 _ rfl)
          · obtain ⟨v15, m16⟩ := s
            show mm_E (d + 1) 220 (62, [some (.inr (.inr (some (12, 0)))), some (.inl a1), some (.inl v9), some (.inl v10), some (.inl v15), none], [], m16) (.inl (some (.inl r.1)), r.2, 0, 0)
            refine e_steps 3 (s' := (68, [some (.inr (.inr (some (12, 0)))), some (.inl a1), some (.inl v9), some (.inl v10), some (.inl v15), none], [.inl (m16 12 0 62), .inl v15], m16)) rfl ?_
            refine e_if (s1 := (110, [some (.inr (.inr (some (12, 0)))), some (.inl a1), some (.inl v9), some (.inl v10), some (.inl v15), none], [], m16)) (s2 := (71, [some (.inr (.inr (some (12, 0)))), some (.inl a1), some (.inl v9), some (.inl v10), some (.inl v15), none], [], m16)) rfl hres (fun hc hres => ?_) (fun hc hres => ?_)
            · obtain rfl := Option.some.inj hres
              exact e_mask (L' := [some (.inr (.inr (some (12, 0)))), some (.inl a1), some (.inl v9), some (.inl v10), none, none]) rfl (hxl14 _ rfl)
            · refine e_steps 5 (s' := (81, [some (.inr (.inr (some (12, 0)))), some (.inl a1), some (.inl v9), some (.inl v10), some (.inl v15), none], [.inl v15, .inr (.inr (some (103, 0))), .inr (.inr (some (87, 0)))], m16)) rfl ?_
              refine e_gd (s1 := (82, [some (.inr (.inr (some (12, 0)))), some (.inl a1), some (.inl v9), some (.inl v10), some (.inl v15), none], [.inl (m16 103 0 v15.toNatClampNeg), .inr (.inr (some (87, 0)))], m16)) rfl hres (fun hc hres => ?_)
              refine e_steps 6 (s' := (89, [some (.inr (.inr (some (12, 0)))), some (.inl a1), some (.inl v9), some (.inl v10), some (.inl v15), none], [.inl 1, .inl ((v10 >>> (v15 &&& 31)) &&& 1), .inl (m16 103 0 v15.toNatClampNeg), .inr (.inr (some (87, 0)))], m16)) rfl ?_
              refine e_if (s1 := (102, [some (.inr (.inr (some (12, 0)))), some (.inl a1), some (.inl v9), some (.inl v10), some (.inl v15), none], [.inl (m16 103 0 v15.toNatClampNeg), .inr (.inr (some (87, 0)))], m16)) (s2 := (92, [some (.inr (.inr (some (12, 0)))), some (.inl a1), some (.inl v9), some (.inl v10), some (.inl v15), none], [.inl (m16 103 0 v15.toNatClampNeg), .inr (.inr (some (87, 0)))], m16)) rfl hres (fun hc hres => ?_) (fun hc hres => ?_)
              · refine e_steps 1 (s' := (103, [some (.inr (.inr (some (12, 0)))), some (.inl a1), some (.inl v9), some (.inl v10), some (.inl v15), none], [.inl 0, .inl (m16 103 0 v15.toNatClampNeg), .inr (.inr (some (87, 0)))], m16)) rfl ?_
                refine e_gd (s1 := (104, [some (.inr (.inr (some (12, 0)))), some (.inl a1), some (.inl v9), some (.inl v10), some (.inl v15), none], [], (mm_w m16 87 0 ((m16 103 0 v15.toNatClampNeg).toNatClampNeg) 0))) rfl hres (fun hc hres => ?_)
                refine e_let (fun (m17 : mm_M) => (104, [some (.inr (.inr (some (12, 0)))), some (.inl a1), some (.inl v9), some (.inl v10), some (.inl v15), none], [], m17)) hres (fun m17 hres => ?_)
                refine e_steps 1 (s' := (107, [some (.inr (.inr (some (12, 0)))), some (.inl a1), some (.inl v9), some (.inl v10), some (.inl (v15 + 1)), none], [], m17)) rfl ?_
                refine e_let (fun (v18 : Int32) => (107, [some (.inr (.inr (some (12, 0)))), some (.inl a1), some (.inl v9), some (.inl v10), some (.inl v18), none], [], m17)) hres (fun v18 hres => ?_)
                refine e_steps 1 (s' := (62, [some (.inr (.inr (some (12, 0)))), some (.inl a1), some (.inl v9), some (.inl v10), some (.inl v18), none], [], m17)) rfl ?_
                obtain rfl := Option.some.inj hres
                exact e_mask (L' := [some (.inr (.inr (some (12, 0)))), some (.inl a1), some (.inl v9), some (.inl v10), some (.inl v18), none]) rfl (hcl14 _ rfl)
              · refine e_steps 3 (s' := (98, [some (.inr (.inr (some (12, 0)))), some (.inl a1), some (.inl v9), some (.inl v10), some (.inl v15), none], [.inl v15, .inr (.inr (some (104, 0))), .inl (m16 103 0 v15.toNatClampNeg), .inr (.inr (some (87, 0)))], m16)) rfl ?_
                refine e_gd (s1 := (99, [some (.inr (.inr (some (12, 0)))), some (.inl a1), some (.inl v9), some (.inl v10), some (.inl v15), none], [.inl (m16 104 0 v15.toNatClampNeg), .inl (m16 103 0 v15.toNatClampNeg), .inr (.inr (some (87, 0)))], m16)) rfl hres (fun hc hres => ?_)
                refine e_steps 1 (s' := (103, [some (.inr (.inr (some (12, 0)))), some (.inl a1), some (.inl v9), some (.inl v10), some (.inl v15), none], [.inl (m16 104 0 v15.toNatClampNeg), .inl (m16 103 0 v15.toNatClampNeg), .inr (.inr (some (87, 0)))], m16)) rfl ?_
                refine e_gd (s1 := (104, [some (.inr (.inr (some (12, 0)))), some (.inl a1), some (.inl v9), some (.inl v10), some (.inl v15), none], [], (mm_w m16 87 0 ((m16 103 0 v15.toNatClampNeg).toNatClampNeg) (m16 104 0 v15.toNatClampNeg)))) rfl hres (fun hc hres => ?_)
                refine e_let (fun (m19 : mm_M) => (104, [some (.inr (.inr (some (12, 0)))), some (.inl a1), some (.inl v9), some (.inl v10), some (.inl v15), none], [], m19)) hres (fun m19 hres => ?_)
                refine e_steps 1 (s' := (107, [some (.inr (.inr (some (12, 0)))), some (.inl a1), some (.inl v9), some (.inl v10), some (.inl (v15 + 1)), none], [], m19)) rfl ?_
                refine e_let (fun (v20 : Int32) => (107, [some (.inr (.inr (some (12, 0)))), some (.inl a1), some (.inl v9), some (.inl v10), some (.inl v20), none], [], m19)) hres (fun v20 hres => ?_)
                refine e_steps 1 (s' := (62, [some (.inr (.inr (some (12, 0)))), some (.inl a1), some (.inl v9), some (.inl v10), some (.inl v20), none], [], m19)) rfl ?_
                obtain rfl := Option.some.inj hres
                exact e_mask (L' := [some (.inr (.inr (some (12, 0)))), some (.inl a1), some (.inl v9), some (.inl v10), some (.inl v20), none]) rfl (hcl14 _ rfl)
    · refine e_mask (L' := [some (.inr (.inr (some (12, 0)))), none, none, none, none, none]) rfl ?_
      refine e_steps 2 (s' := (22, [some (.inr (.inr (some (12, 0)))), none, none, none, none, none], [.inl 1, .inr (.inr (some (12, 0)))], m1)) rfl ?_
      obtain ⟨r50, m51, hv, hres⟩ := mm_b2_some hres
      refine e_call0 (pc := 25) (L := [some (.inr (.inr (some (12, 0)))), none, none, none, none, none]) (st := []) (m' := m51) (v := some (.inl r50)) rfl (k_X12_fail d (by omega) 1 _ _ hv) ?_
      show mm_E (d + 1) 220 (25, [some (.inr (.inr (some (12, 0)))), none, none, none, none, none], [.inl r50], m51) (.inl (some (.inl r.1)), r.2, 0, 0)
      obtain rfl := Option.some.inj hres
      exact e_ret rfl rfl
/-- GlassThreadsModel.found(I)I -/
def f_X12_found (a1 : Int32) (m : mm_M) : Option (Int32 × mm_M) :=
mm_let (mm_w m 12 0 3 0) fun m1 =>
if (m1 12 0 66) = 0 then (mm_b2 (f_X12_fail 1 m1) fun r2 m3 =>
some (r2, m3))
else (mm_b1 (f_X12_isIn a1 0 2 m1) fun r4 =>
if r4 ≠ 0 then (if a1 ≠ 0 then (if a1 ≠ 1 then (some (((m1 12 0 65) &&& ((m1 12 0 64) ^^^ (-1))), m1))
else (some ((m1 12 0 64), m1)))
else (some ((m1 12 0 63), m1)))
else (mm_b2 (f_X12_fail 1 m1) fun r5 m6 =>
some (r5, m6)))
set_option maxHeartbeats 4000000 in
set_option maxRecDepth 100000 in
theorem k_X12_found (d : Nat) (hd : 1 ≤ d) (a1 : Int32) (m : mm_M) (r : Int32 × mm_M) (hres : f_X12_found a1 m = some r) : mm_X d 221 [.inr (.inr (some (12, 0))), .inl a1] m (.inl (some (.inl r.1)), r.2, 0, 0) := by
  unfold f_X12_found at hres
  obtain ⟨d, rfl⟩ : ∃ e, d = e + 1 := ⟨d - 1, by omega⟩
  show mm_E (d + 1) 221 (0, [some (.inr (.inr (some (12, 0)))), some (.inl a1)], [], m) (.inl (some (.inl r.1)), r.2, 0, 0)
  refine e_steps 3 (s' := (5, [some (.inr (.inr (some (12, 0)))), some (.inl a1)], [], (mm_w m 12 0 3 0))) rfl ?_
  refine e_let (fun (m1 : mm_M) => (5, [some (.inr (.inr (some (12, 0)))), some (.inl a1)], [], m1)) hres (fun m1 hres => ?_)
  refine e_steps 2 (s' := (9, [some (.inr (.inr (some (12, 0)))), some (.inl a1)], [.inl (m1 12 0 66)], m1)) rfl ?_
  refine e_if (s1 := (21, [some (.inr (.inr (some (12, 0)))), some (.inl a1)], [], m1)) (s2 := (12, [some (.inr (.inr (some (12, 0)))), some (.inl a1)], [], m1)) rfl hres (fun hc hres => ?_) (fun hc hres => ?_)
  · refine e_mask (L' := [some (.inr (.inr (some (12, 0)))), none]) rfl ?_
    refine e_steps 2 (s' := (23, [some (.inr (.inr (some (12, 0)))), none], [.inl 1, .inr (.inr (some (12, 0)))], m1)) rfl ?_
    obtain ⟨r2, m3, hv, hres⟩ := mm_b2_some hres
    refine e_call0 (pc := 26) (L := [some (.inr (.inr (some (12, 0)))), none]) (st := []) (m' := m3) (v := some (.inl r2)) rfl (k_X12_fail d (by omega) 1 _ _ hv) ?_
    show mm_E (d + 1) 221 (26, [some (.inr (.inr (some (12, 0)))), none], [.inl r2], m3) (.inl (some (.inl r.1)), r.2, 0, 0)
    obtain rfl := Option.some.inj hres
    exact e_ret rfl rfl
  · refine e_steps 3 (s' := (15, [some (.inr (.inr (some (12, 0)))), some (.inl a1)], [.inl 2, .inl 0, .inl a1], m1)) rfl ?_
    obtain ⟨r4, hv, hres⟩ := mm_b1_some hres
    refine e_call0 (pc := 18) (L := [some (.inr (.inr (some (12, 0)))), some (.inl a1)]) (st := []) (m' := m1) (v := some (.inl r4)) rfl (k_X12_isIn d (by omega) a1 0 2 _ _ hv) ?_
    show mm_E (d + 1) 221 (18, [some (.inr (.inr (some (12, 0)))), some (.inl a1)], [.inl r4], m1) (.inl (some (.inl r.1)), r.2, 0, 0)
    refine e_if (s1 := (27, [some (.inr (.inr (some (12, 0)))), some (.inl a1)], [], m1)) (s2 := (21, [some (.inr (.inr (some (12, 0)))), some (.inl a1)], [], m1)) rfl hres (fun hc hres => ?_) (fun hc hres => ?_)
    · refine e_steps 1 (s' := (28, [some (.inr (.inr (some (12, 0)))), some (.inl a1)], [.inl a1], m1)) rfl ?_
      refine e_if (s1 := (38, [some (.inr (.inr (some (12, 0)))), some (.inl a1)], [], m1)) (s2 := (31, [some (.inr (.inr (some (12, 0)))), some (.inl a1)], [], m1)) rfl hres (fun hc hres => ?_) (fun hc hres => ?_)
      · refine e_steps 2 (s' := (40, [some (.inr (.inr (some (12, 0)))), some (.inl a1)], [.inl 1, .inl a1], m1)) rfl ?_
        refine e_if (s1 := (50, [some (.inr (.inr (some (12, 0)))), some (.inl a1)], [], m1)) (s2 := (43, [some (.inr (.inr (some (12, 0)))), some (.inl a1)], [], m1)) rfl hres (fun hc hres => ?_) (fun hc hres => ?_)
        · refine e_steps 7 (s' := (61, [some (.inr (.inr (some (12, 0)))), some (.inl a1)], [.inl ((m1 12 0 65) &&& ((m1 12 0 64) ^^^ (-1)))], m1)) rfl ?_
          refine e_mask (L' := [none, none]) rfl ?_
          obtain rfl := Option.some.inj hres
          exact e_ret rfl rfl
        · refine e_steps 3 (s' := (61, [some (.inr (.inr (some (12, 0)))), some (.inl a1)], [.inl (m1 12 0 64)], m1)) rfl ?_
          refine e_mask (L' := [none, none]) rfl ?_
          obtain rfl := Option.some.inj hres
          exact e_ret rfl rfl
      · refine e_steps 3 (s' := (61, [some (.inr (.inr (some (12, 0)))), some (.inl a1)], [.inl (m1 12 0 63)], m1)) rfl ?_
        refine e_mask (L' := [none, none]) rfl ?_
        obtain rfl := Option.some.inj hres
        exact e_ret rfl rfl
    · refine e_mask (L' := [some (.inr (.inr (some (12, 0)))), none]) rfl ?_
      refine e_steps 2 (s' := (23, [some (.inr (.inr (some (12, 0)))), none], [.inl 1, .inr (.inr (some (12, 0)))], m1)) rfl ?_
      obtain ⟨r5, m6, hv, hres⟩ := mm_b2_some hres
      refine e_call0 (pc := 26) (L := [some (.inr (.inr (some (12, 0)))), none]) (st := []) (m' := m6) (v := some (.inl r5)) rfl (k_X12_fail d (by omega) 1 _ _ hv) ?_
      show mm_E (d + 1) 221 (26, [some (.inr (.inr (some (12, 0)))), none], [.inl r5], m6) (.inl (some (.inl r.1)), r.2, 0, 0)
      obtain rfl := Option.some.inj hres
      exact e_ret rfl rfl
/-- GlassThreadsModel.least(II)I -/
def f_X12_least (a0 : Int32) (a1 : Int32) (m : mm_M) : Option (Int32) :=
if (1000 + a1) = 0 then none else (
some ((a0 * 1000) / (1000 + a1)))
set_option maxHeartbeats 4000000 in
set_option maxRecDepth 100000 in
theorem k_X12_least (d : Nat) (hd : 0 ≤ d) (a0 : Int32) (a1 : Int32) (m : mm_M) (r : Int32) (hres : f_X12_least a0 a1 m = some r) : mm_X d 222 [.inl a0, .inl a1] m (.inl (some (.inl r)), m, 0, 0) := by
  unfold f_X12_least at hres
  show mm_E d 222 (0, [some (.inl a0), some (.inl a1)], [], m) (.inl (some (.inl r)), m, 0, 0)
  refine e_steps 6 (s' := (10, [some (.inl a0), some (.inl a1)], [.inl (1000 + a1), .inl (a0 * 1000)], m)) rfl ?_
  refine e_gn (s1 := (11, [some (.inl a0), some (.inl a1)], [.inl ((a0 * 1000) / (1000 + a1))], m)) rfl hres (fun hc hres => ?_)
  obtain rfl := Option.some.inj hres
  exact e_ret rfl rfl
/-- GlassThreadsModel.most(II)I -/
def f_X12_most (a0 : Int32) (a1 : Int32) (m : mm_M) : Option (Int32) :=
if (1000 + a1) = 0 then none else (
some ((((a0 * 1000) + 999) + a1) / (1000 + a1)))
set_option maxHeartbeats 4000000 in
set_option maxRecDepth 100000 in
theorem k_X12_most (d : Nat) (hd : 0 ≤ d) (a0 : Int32) (a1 : Int32) (m : mm_M) (r : Int32) (hres : f_X12_most a0 a1 m = some r) : mm_X d 223 [.inl a0, .inl a1] m (.inl (some (.inl r)), m, 0, 0) := by
  unfold f_X12_most at hres
  show mm_E d 223 (0, [some (.inl a0), some (.inl a1)], [], m) (.inl (some (.inl r)), m, 0, 0)
  refine e_steps 10 (s' := (16, [some (.inl a0), some (.inl a1)], [.inl (1000 + a1), .inl (((a0 * 1000) + 999) + a1)], m)) rfl ?_
  refine e_gn (s1 := (17, [some (.inl a0), some (.inl a1)], [.inl ((((a0 * 1000) + 999) + a1) / (1000 + a1))], m)) rfl hres (fun hc hres => ?_)
  obtain rfl := Option.some.inj hres
  exact e_ret rfl rfl
/-- GlassThreadsModel.isDug(III)Z -/
def f_X12_isDug (a0 : Int32) (a1 : Int32) (a2 : Int32) (m : mm_M) : Option (Int32) :=
mm_b1 (f_X12_isIn a0 0 99999 m) fun r1 =>
if r1 = 0 then (some 0)
else (if a1 < 0 then (some 0)
else (if a2 < a1 then (some 0)
else (if 500 < a2 then (some 0)
else (some 1))))
set_option maxHeartbeats 4000000 in
set_option maxRecDepth 100000 in
theorem k_X12_isDug (d : Nat) (hd : 1 ≤ d) (a0 : Int32) (a1 : Int32) (a2 : Int32) (m : mm_M) (r : Int32) (hres : f_X12_isDug a0 a1 a2 m = some r) : mm_X d 224 [.inl a0, .inl a1, .inl a2] m (.inl (some (.inl r)), m, 0, 0) := by
  unfold f_X12_isDug at hres
  obtain ⟨d, rfl⟩ : ∃ e, d = e + 1 := ⟨d - 1, by omega⟩
  show mm_E (d + 1) 224 (0, [some (.inl a0), some (.inl a1), some (.inl a2)], [], m) (.inl (some (.inl r)), m, 0, 0)
  refine e_steps 3 (s' := (5, [some (.inl a0), some (.inl a1), some (.inl a2)], [.inl 99999, .inl 0, .inl a0], m)) rfl ?_
  obtain ⟨r1, hv, hres⟩ := mm_b1_some hres
  refine e_call0 (pc := 8) (L := [some (.inl a0), some (.inl a1), some (.inl a2)]) (st := []) (m' := m) (v := some (.inl r1)) rfl (k_X12_isIn d (by omega) a0 0 99999 _ _ hv) ?_
  show mm_E (d + 1) 224 (8, [some (.inl a0), some (.inl a1), some (.inl a2)], [.inl r1], m) (.inl (some (.inl r)), m, 0, 0)
  refine e_if (s1 := (31, [some (.inl a0), some (.inl a1), some (.inl a2)], [], m)) (s2 := (11, [some (.inl a0), some (.inl a1), some (.inl a2)], [], m)) rfl hres (fun hc hres => ?_) (fun hc hres => ?_)
  · refine e_mask (L' := [none, none, none]) rfl ?_
    refine e_steps 1 (s' := (32, [none, none, none], [.inl 0], m)) rfl ?_
    obtain rfl := Option.some.inj hres
    exact e_ret rfl rfl
  · refine e_steps 1 (s' := (12, [some (.inl a0), some (.inl a1), some (.inl a2)], [.inl a1], m)) rfl ?_
    refine e_if (s1 := (31, [some (.inl a0), some (.inl a1), some (.inl a2)], [], m)) (s2 := (15, [some (.inl a0), some (.inl a1), some (.inl a2)], [], m)) rfl hres (fun hc hres => ?_) (fun hc hres => ?_)
    · refine e_mask (L' := [none, none, none]) rfl ?_
      refine e_steps 1 (s' := (32, [none, none, none], [.inl 0], m)) rfl ?_
      obtain rfl := Option.some.inj hres
      exact e_ret rfl rfl
    · refine e_steps 2 (s' := (17, [some (.inl a0), some (.inl a1), some (.inl a2)], [.inl a2, .inl a1], m)) rfl ?_
      refine e_if (s1 := (31, [some (.inl a0), some (.inl a1), some (.inl a2)], [], m)) (s2 := (20, [some (.inl a0), some (.inl a1), some (.inl a2)], [], m)) rfl hres (fun hc hres => ?_) (fun hc hres => ?_)
      · refine e_mask (L' := [none, none, none]) rfl ?_
        refine e_steps 1 (s' := (32, [none, none, none], [.inl 0], m)) rfl ?_
        obtain rfl := Option.some.inj hres
        exact e_ret rfl rfl
      · refine e_steps 2 (s' := (24, [some (.inl a0), some (.inl a1), some (.inl a2)], [.inl 500, .inl a2], m)) rfl ?_
        refine e_if (s1 := (31, [some (.inl a0), some (.inl a1), some (.inl a2)], [], m)) (s2 := (27, [some (.inl a0), some (.inl a1), some (.inl a2)], [], m)) rfl hres (fun hc hres => ?_) (fun hc hres => ?_)
        · refine e_mask (L' := [none, none, none]) rfl ?_
          refine e_steps 1 (s' := (32, [none, none, none], [.inl 0], m)) rfl ?_
          obtain rfl := Option.some.inj hres
          exact e_ret rfl rfl
        · refine e_steps 2 (s' := (32, [some (.inl a0), some (.inl a1), some (.inl a2)], [.inl 1], m)) rfl ?_
          refine e_mask (L' := [none, none, none]) rfl ?_
          obtain rfl := Option.some.inj hres
          exact e_ret rfl rfl
/-- GlassThreadsModel.dig(IIII)I -/
def f_X12_dig (a1 : Int32) (a2 : Int32) (a3 : Int32) (a4 : Int32) (m : mm_M) : Option (Int32 × mm_M) :=
mm_let (mm_w m 12 0 3 0) fun m1 =>
mm_b1 (f_X12_isDug a1 a2 a3 m1) fun r2 =>
if r2 ≠ 0 then (if a4 < 0 then (mm_b2 (f_X12_fail 2 m1) fun r3 m4 =>
some (r3, m4))
else (if a4 ≤ 1 then (if a4 ≠ 0 then (mm_b1 (f_X12_most a1 a2 m1) fun r5 =>
some (r5, m1))
else (mm_b1 (f_X12_least a1 a3 m1) fun r6 =>
some (r6, m1)))
else (mm_b2 (f_X12_fail 2 m1) fun r7 m8 =>
some (r7, m8))))
else (mm_b2 (f_X12_fail 1 m1) fun r9 m10 =>
some (r9, m10))
set_option maxHeartbeats 4000000 in
set_option maxRecDepth 100000 in
theorem k_X12_dig (d : Nat) (hd : 2 ≤ d) (a1 : Int32) (a2 : Int32) (a3 : Int32) (a4 : Int32) (m : mm_M) (r : Int32 × mm_M) (hres : f_X12_dig a1 a2 a3 a4 m = some r) : mm_X d 225 [.inr (.inr (some (12, 0))), .inl a1, .inl a2, .inl a3, .inl a4] m (.inl (some (.inl r.1)), r.2, 0, 0) := by
  unfold f_X12_dig at hres
  obtain ⟨d, rfl⟩ : ∃ e, d = e + 1 := ⟨d - 1, by omega⟩
  show mm_E (d + 1) 225 (0, [some (.inr (.inr (some (12, 0)))), some (.inl a1), some (.inl a2), some (.inl a3), some (.inl a4)], [], m) (.inl (some (.inl r.1)), r.2, 0, 0)
  refine e_steps 3 (s' := (5, [some (.inr (.inr (some (12, 0)))), some (.inl a1), some (.inl a2), some (.inl a3), some (.inl a4)], [], (mm_w m 12 0 3 0))) rfl ?_
  refine e_let (fun (m1 : mm_M) => (5, [some (.inr (.inr (some (12, 0)))), some (.inl a1), some (.inl a2), some (.inl a3), some (.inl a4)], [], m1)) hres (fun m1 hres => ?_)
  refine e_steps 3 (s' := (8, [some (.inr (.inr (some (12, 0)))), some (.inl a1), some (.inl a2), some (.inl a3), some (.inl a4)], [.inl a3, .inl a2, .inl a1], m1)) rfl ?_
  obtain ⟨r2, hv, hres⟩ := mm_b1_some hres
  refine e_call0 (pc := 11) (L := [some (.inr (.inr (some (12, 0)))), some (.inl a1), some (.inl a2), some (.inl a3), some (.inl a4)]) (st := []) (m' := m1) (v := some (.inl r2)) rfl (k_X12_isDug d (by omega) a1 a2 a3 _ _ hv) ?_
  show mm_E (d + 1) 225 (11, [some (.inr (.inr (some (12, 0)))), some (.inl a1), some (.inl a2), some (.inl a3), some (.inl a4)], [.inl r2], m1) (.inl (some (.inl r.1)), r.2, 0, 0)
  refine e_if (s1 := (20, [some (.inr (.inr (some (12, 0)))), some (.inl a1), some (.inl a2), some (.inl a3), some (.inl a4)], [], m1)) (s2 := (14, [some (.inr (.inr (some (12, 0)))), some (.inl a1), some (.inl a2), some (.inl a3), some (.inl a4)], [], m1)) rfl hres (fun hc hres => ?_) (fun hc hres => ?_)
  · refine e_steps 1 (s' := (22, [some (.inr (.inr (some (12, 0)))), some (.inl a1), some (.inl a2), some (.inl a3), some (.inl a4)], [.inl a4], m1)) rfl ?_
    refine e_if (s1 := (31, [some (.inr (.inr (some (12, 0)))), some (.inl a1), some (.inl a2), some (.inl a3), some (.inl a4)], [], m1)) (s2 := (25, [some (.inr (.inr (some (12, 0)))), some (.inl a1), some (.inl a2), some (.inl a3), some (.inl a4)], [], m1)) rfl hres (fun hc hres => ?_) (fun hc hres => ?_)
    · refine e_mask (L' := [some (.inr (.inr (some (12, 0)))), none, none, none, none]) rfl ?_
      refine e_steps 2 (s' := (33, [some (.inr (.inr (some (12, 0)))), none, none, none, none], [.inl 2, .inr (.inr (some (12, 0)))], m1)) rfl ?_
      obtain ⟨r3, m4, hv, hres⟩ := mm_b2_some hres
      refine e_call0 (pc := 36) (L := [some (.inr (.inr (some (12, 0)))), none, none, none, none]) (st := []) (m' := m4) (v := some (.inl r3)) rfl (k_X12_fail d (by omega) 2 _ _ hv) ?_
      show mm_E (d + 1) 225 (36, [some (.inr (.inr (some (12, 0)))), none, none, none, none], [.inl r3], m4) (.inl (some (.inl r.1)), r.2, 0, 0)
      obtain rfl := Option.some.inj hres
      exact e_ret rfl rfl
    · refine e_steps 2 (s' := (28, [some (.inr (.inr (some (12, 0)))), some (.inl a1), some (.inl a2), some (.inl a3), some (.inl a4)], [.inl 1, .inl a4], m1)) rfl ?_
      refine e_if (s1 := (37, [some (.inr (.inr (some (12, 0)))), some (.inl a1), some (.inl a2), some (.inl a3), some (.inl a4)], [], m1)) (s2 := (31, [some (.inr (.inr (some (12, 0)))), some (.inl a1), some (.inl a2), some (.inl a3), some (.inl a4)], [], m1)) rfl hres (fun hc hres => ?_) (fun hc hres => ?_)
      · refine e_steps 1 (s' := (39, [some (.inr (.inr (some (12, 0)))), some (.inl a1), some (.inl a2), some (.inl a3), some (.inl a4)], [.inl a4], m1)) rfl ?_
        refine e_if (s1 := (50, [some (.inr (.inr (some (12, 0)))), some (.inl a1), some (.inl a2), some (.inl a3), some (.inl a4)], [], m1)) (s2 := (42, [some (.inr (.inr (some (12, 0)))), some (.inl a1), some (.inl a2), some (.inl a3), some (.inl a4)], [], m1)) rfl hres (fun hc hres => ?_) (fun hc hres => ?_)
        · refine e_steps 2 (s' := (52, [some (.inr (.inr (some (12, 0)))), some (.inl a1), some (.inl a2), some (.inl a3), some (.inl a4)], [.inl a2, .inl a1], m1)) rfl ?_
          obtain ⟨r5, hv, hres⟩ := mm_b1_some hres
          refine e_call0 (pc := 55) (L := [some (.inr (.inr (some (12, 0)))), some (.inl a1), some (.inl a2), some (.inl a3), some (.inl a4)]) (st := []) (m' := m1) (v := some (.inl r5)) rfl (k_X12_most d (by omega) a1 a2 _ _ hv) ?_
          show mm_E (d + 1) 225 (55, [some (.inr (.inr (some (12, 0)))), some (.inl a1), some (.inl a2), some (.inl a3), some (.inl a4)], [.inl r5], m1) (.inl (some (.inl r.1)), r.2, 0, 0)
          refine e_mask (L' := [none, none, none, none, none]) rfl ?_
          obtain rfl := Option.some.inj hres
          exact e_ret rfl rfl
        · refine e_steps 2 (s' := (44, [some (.inr (.inr (some (12, 0)))), some (.inl a1), some (.inl a2), some (.inl a3), some (.inl a4)], [.inl a3, .inl a1], m1)) rfl ?_
          obtain ⟨r6, hv, hres⟩ := mm_b1_some hres
          refine e_call0 (pc := 47) (L := [some (.inr (.inr (some (12, 0)))), some (.inl a1), some (.inl a2), some (.inl a3), some (.inl a4)]) (st := []) (m' := m1) (v := some (.inl r6)) rfl (k_X12_least d (by omega) a1 a3 _ _ hv) ?_
          show mm_E (d + 1) 225 (47, [some (.inr (.inr (some (12, 0)))), some (.inl a1), some (.inl a2), some (.inl a3), some (.inl a4)], [.inl r6], m1) (.inl (some (.inl r.1)), r.2, 0, 0)
          refine e_steps 1 (s' := (55, [some (.inr (.inr (some (12, 0)))), some (.inl a1), some (.inl a2), some (.inl a3), some (.inl a4)], [.inl r6], m1)) rfl ?_
          refine e_mask (L' := [none, none, none, none, none]) rfl ?_
          obtain rfl := Option.some.inj hres
          exact e_ret rfl rfl
      · refine e_mask (L' := [some (.inr (.inr (some (12, 0)))), none, none, none, none]) rfl ?_
        refine e_steps 2 (s' := (33, [some (.inr (.inr (some (12, 0)))), none, none, none, none], [.inl 2, .inr (.inr (some (12, 0)))], m1)) rfl ?_
        obtain ⟨r7, m8, hv, hres⟩ := mm_b2_some hres
        refine e_call0 (pc := 36) (L := [some (.inr (.inr (some (12, 0)))), none, none, none, none]) (st := []) (m' := m8) (v := some (.inl r7)) rfl (k_X12_fail d (by omega) 2 _ _ hv) ?_
        show mm_E (d + 1) 225 (36, [some (.inr (.inr (some (12, 0)))), none, none, none, none], [.inl r7], m8) (.inl (some (.inl r.1)), r.2, 0, 0)
        obtain rfl := Option.some.inj hres
        exact e_ret rfl rfl
  · refine e_steps 2 (s' := (16, [some (.inr (.inr (some (12, 0)))), some (.inl a1), some (.inl a2), some (.inl a3), some (.inl a4)], [.inl 1, .inr (.inr (some (12, 0)))], m1)) rfl ?_
    obtain ⟨r9, m10, hv, hres⟩ := mm_b2_some hres
    refine e_call0 (pc := 19) (L := [some (.inr (.inr (some (12, 0)))), some (.inl a1), some (.inl a2), some (.inl a3), some (.inl a4)]) (st := []) (m' := m10) (v := some (.inl r9)) rfl (k_X12_fail d (by omega) 1 _ _ hv) ?_
    show mm_E (d + 1) 225 (19, [some (.inr (.inr (some (12, 0)))), some (.inl a1), some (.inl a2), some (.inl a3), some (.inl a4)], [.inl r9], m10) (.inl (some (.inl r.1)), r.2, 0, 0)
    obtain rfl := Option.some.inj hres
    exact e_ret rfl rfl
