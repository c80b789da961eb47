/-- GlassThreads$Scene.undergo(III)V -/
def f_X6_undergo (a1 : Int32) (a2 : Int32) (a3 : Int32) (m : mm_M) : Option (mm_M) :=
if a1 = 0 then (if mm_in a2 24 then (
if mm_in a2 24 then (
mm_let (mm_w m 33 0 a2.toNatClampNeg ((m 33 0 a2.toNatClampNeg) + a3)) fun m1 =>
some m1) else none) else none)
else if a1 = 1 then (if mm_in a2 24 then (
mm_let (mm_w m 34 0 a2.toNatClampNeg a3) fun m2 =>
some m2) else none)
else if a1 = 2 then (if mm_in a2 24 then (
mm_let (mm_w m 35 0 a2.toNatClampNeg 1) fun m3 =>
some m3) else none)
else (if mm_in a2 24 then (
mm_let (mm_w m 33 0 a2.toNatClampNeg 0) fun m4 =>
if mm_in a2 24 then (
mm_let (mm_w m4 34 0 a2.toNatClampNeg (-1)) fun m5 =>
if mm_in a2 24 then (
mm_let (mm_w m5 35 0 a2.toNatClampNeg 0) fun m6 =>
some m6) else none) else none) else none)
set_option maxHeartbeats 4000000 in
set_option maxRecDepth 100000 in
theorem k_X6_undergo (d : Nat) (hd : 0 ≤ d) (a1 : Int32) (a2 : Int32) (a3 : Int32) (m : mm_M) (r : mm_M) (hres : f_X6_undergo a1 a2 a3 m = some r) : mm_X d 94 [.inr (.inr (some (4, 0))), .inl a1, .inl a2, .inl a3] m (.inl none, r, 0, 0) := by
  unfold f_X6_undergo at hres
  show mm_E d 94 (0, [some (.inr (.inr (some (4, 0)))), some (.inl a1), some (.inl a2), some (.inl a3)], [], m) (.inl none, r, 0, 0)
  refine e_steps 1 (s' := (1, [some (.inr (.inr (some (4, 0)))), some (.inl a1), some (.inl a2), some (.inl a3)], [.inl a1], m)) rfl ?_
  refine e_sw (c := a1 = 0) (s1 := (28, [some (.inr (.inr (some (4, 0)))), some (.inl a1), some (.inl a2), some (.inl a3)], [], m)) rfl hres (fun hc hres => ?_) (fun hc hres hst => ?_)
  · refine e_steps 4 (s' := (34, [some (.inr (.inr (some (4, 0)))), some (.inl a1), some (.inl a2), some (.inl a3)], [.inl a2, .inr (.inr (some (33, 0))), .inl a2, .inr (.inr (some (33, 0)))], m)) rfl ?_
    refine e_gd (s1 := (35, [some (.inr (.inr (some (4, 0)))), some (.inl a1), some (.inl a2), some (.inl a3)], [.inl (m 33 0 a2.toNatClampNeg), .inl a2, .inr (.inr (some (33, 0)))], m)) rfl hres (fun hc hres => ?_)
    refine e_steps 2 (s' := (37, [some (.inr (.inr (some (4, 0)))), some (.inl a1), some (.inl a2), some (.inl a3)], [.inl ((m 33 0 a2.toNatClampNeg) + a3), .inl a2, .inr (.inr (some (33, 0)))], m)) rfl ?_
    refine e_gd (s1 := (38, [some (.inr (.inr (some (4, 0)))), some (.inl a1), some (.inl a2), some (.inl a3)], [], (mm_w m 33 0 a2.toNatClampNeg ((m 33 0 a2.toNatClampNeg) + a3)))) rfl hres (fun hc hres => ?_)
    refine e_let (fun (m1 : mm_M) => (38, [some (.inr (.inr (some (4, 0)))), some (.inl a1), some (.inl a2), some (.inl a3)], [], m1)) hres (fun m1 hres => ?_)
    refine e_steps 1 (s' := (82, [some (.inr (.inr (some (4, 0)))), some (.inl a1), some (.inl a2), some (.inl a3)], [], m1)) rfl ?_
    refine e_mask (L' := [none, none, none, none]) rfl ?_
    obtain rfl := Option.some.inj hres
    exact e_ret rfl rfl
  · refine e_sw (c := a1 = 1) (s1 := (41, [some (.inr (.inr (some (4, 0)))), some (.inl a1), some (.inl a2), some (.inl a3)], [], m)) hst hres (fun hc hres => ?_) (fun hc hres hst => ?_)
    · refine e_steps 4 (s' := (47, [some (.inr (.inr (some (4, 0)))), some (.inl a1), some (.inl a2), some (.inl a3)], [.inl a3, .inl a2, .inr (.inr (some (34, 0)))], m)) rfl ?_
      refine e_gd (s1 := (48, [some (.inr (.inr (some (4, 0)))), some (.inl a1), some (.inl a2), some (.inl a3)], [], (mm_w m 34 0 a2.toNatClampNeg a3))) rfl hres (fun hc hres => ?_)
      refine e_let (fun (m2 : mm_M) => (48, [some (.inr (.inr (some (4, 0)))), some (.inl a1), some (.inl a2), some (.inl a3)], [], m2)) hres (fun m2 hres => ?_)
      refine e_steps 1 (s' := (82, [some (.inr (.inr (some (4, 0)))), some (.inl a1), some (.inl a2), some (.inl a3)], [], m2)) rfl ?_
      refine e_mask (L' := [none, none, none, none]) rfl ?_
      obtain rfl := Option.some.inj hres
      exact e_ret rfl rfl
    · refine e_sw (c := a1 = 2) (s1 := (51, [some (.inr (.inr (some (4, 0)))), some (.inl a1), some (.inl a2), some (.inl a3)], [], m)) hst hres (fun hc hres => ?_) (fun hc hres hst => ?_)
      · refine e_steps 4 (s' := (57, [some (.inr (.inr (some (4, 0)))), some (.inl a1), some (.inl a2), some (.inl a3)], [.inl 1, .inl a2, .inr (.inr (some (35, 0)))], m)) rfl ?_
        refine e_gd (s1 := (58, [some (.inr (.inr (some (4, 0)))), some (.inl a1), some (.inl a2), some (.inl a3)], [], (mm_w m 35 0 a2.toNatClampNeg 1))) rfl hres (fun hc hres => ?_)
        refine e_let (fun (m3 : mm_M) => (58, [some (.inr (.inr (some (4, 0)))), some (.inl a1), some (.inl a2), some (.inl a3)], [], m3)) hres (fun m3 hres => ?_)
        refine e_steps 1 (s' := (82, [some (.inr (.inr (some (4, 0)))), some (.inl a1), some (.inl a2), some (.inl a3)], [], m3)) rfl ?_
        refine e_mask (L' := [none, none, none, none]) rfl ?_
        obtain rfl := Option.some.inj hres
        exact e_ret rfl rfl
      · refine e_step (s' := (61, [some (.inr (.inr (some (4, 0)))), some (.inl a1), some (.inl a2), some (.inl a3)], [], m)) hst ?_
        refine e_steps 4 (s' := (67, [some (.inr (.inr (some (4, 0)))), some (.inl a1), some (.inl a2), some (.inl a3)], [.inl 0, .inl a2, .inr (.inr (some (33, 0)))], m)) rfl ?_
        refine e_gd (s1 := (68, [some (.inr (.inr (some (4, 0)))), some (.inl a1), some (.inl a2), some (.inl a3)], [], (mm_w m 33 0 a2.toNatClampNeg 0))) rfl hres (fun hc hres => ?_)
        refine e_let (fun (m4 : mm_M) => (68, [some (.inr (.inr (some (4, 0)))), some (.inl a1), some (.inl a2), some (.inl a3)], [], m4)) hres (fun m4 hres => ?_)
        refine e_steps 4 (s' := (74, [some (.inr (.inr (some (4, 0)))), some (.inl a1), some (.inl a2), some (.inl a3)], [.inl (-1), .inl a2, .inr (.inr (some (34, 0)))], m4)) rfl ?_
        refine e_gd (s1 := (75, [some (.inr (.inr (some (4, 0)))), some (.inl a1), some (.inl a2), some (.inl a3)], [], (mm_w m4 34 0 a2.toNatClampNeg (-1)))) rfl hres (fun hc hres => ?_)
        refine e_let (fun (m5 : mm_M) => (75, [some (.inr (.inr (some (4, 0)))), some (.inl a1), some (.inl a2), some (.inl a3)], [], m5)) hres (fun m5 hres => ?_)
        refine e_steps 4 (s' := (81, [some (.inr (.inr (some (4, 0)))), some (.inl a1), some (.inl a2), some (.inl a3)], [.inl 0, .inl a2, .inr (.inr (some (35, 0)))], m5)) rfl ?_
        refine e_gd (s1 := (82, [some (.inr (.inr (some (4, 0)))), some (.inl a1), some (.inl a2), some (.inl a3)], [], (mm_w m5 35 0 a2.toNatClampNeg 0))) rfl hres (fun hc hres => ?_)
        refine e_let (fun (m6 : mm_M) => (82, [some (.inr (.inr (some (4, 0)))), some (.inl a1), some (.inl a2), some (.inl a3)], [], m6)) hres (fun m6 hres => ?_)
        refine e_mask (L' := [none, none, none, none]) rfl ?_
        obtain rfl := Option.some.inj hres
        exact e_ret rfl rfl
/-- GlassThreads$Scene.show(LGlassThreads$Strand;)V -/
def f_X6_show (i1 : Nat) (m : mm_M) : Option (mm_M) :=
mm_let (mm_w m 4 0 4 (Int32.ofNat i1)) fun m1 =>
(mm_b1 (mm_loop (σ := Int32 × mm_M) (ρ := (mm_M)) (fun (s : Int32 × mm_M) => match s with
| (v3, m4) => (if 24 ≤ v3 then (some (.inr m4))
else (mm_b1 (f_X6_undergo 3 v3 0 m4) fun m6 =>
mm_let (v3 + 1) fun v7 =>
some (.inl (v7, m6))) : Option ((Int32 × mm_M) ⊕ ((mm_M))))) mm_fu (0, m1)) fun m8 =>
some m8)
set_option maxHeartbeats 4000000 in
set_option maxRecDepth 100000 in
theorem k_X6_show (d : Nat) (hd : 1 ≤ d) (i1 : Nat) (m : mm_M) (r : mm_M) (hres : f_X6_show i1 m = some r) : mm_X d 93 [.inr (.inr (some (4, 0))), .inr (.inr (some (5, i1)))] m (.inl none, r, 0, 0) := by
  unfold f_X6_show at hres
  obtain ⟨d, rfl⟩ : ∃ e, d = e + 1 := ⟨d - 1, by omega⟩
  show mm_E (d + 1) 93 (0, [some (.inr (.inr (some (4, 0)))), some (.inr (.inr (some (5, i1)))), none], [], m) (.inl none, r, 0, 0)
  refine e_steps 3 (s' := (5, [some (.inr (.inr (some (4, 0)))), some (.inr (.inr (some (5, i1)))), none], [], (mm_w m 4 0 4 (Int32.ofNat i1)))) rfl ?_
  refine e_let (fun (m1 : mm_M) => (5, [some (.inr (.inr (some (4, 0)))), some (.inr (.inr (some (5, i1)))), none], [], m1)) hres (fun m1 hres => ?_)
  refine e_steps 2 (s' := (7, [some (.inr (.inr (some (4, 0)))), some (.inr (.inr (some (5, i1)))), some (.inl 0)], [], m1)) rfl ?_
  refine e_mask (L' := [some (.inr (.inr (some (4, 0)))), none, some (.inl 0)]) rfl ?_
  refine e_loopb (φ := fun s => (7, [some (.inr (.inr (some (4, 0)))), none, some (.inl s.1)], [], s.2)) (K := fun t => mm_E (d + 1) 93 (26, [none, none, none], [], t) (.inl none, r, 0, 0)) hres (fun m8 hres => ?_) (fun s ol2 hres hcl2 hxl2 => ?_)
  · show mm_E (d + 1) 93 (26, [none, none, none], [], m8) (.inl none, r, 0, 0)
    obtain rfl := Option.some.inj hres
    exact e_ret rfl rfl
  · obtain ⟨v3, m4⟩ := s
    show mm_E (d + 1) 93 (7, [some (.inr (.inr (some (4, 0)))), none, some (.inl v3)], [], m4) (.inl none, r, 0, 0)
    refine e_steps 2 (s' := (10, [some (.inr (.inr (some (4, 0)))), none, some (.inl v3)], [.inl 24, .inl v3], m4)) rfl ?_
    refine e_if (s1 := (26, [some (.inr (.inr (some (4, 0)))), none, some (.inl v3)], [], m4)) (s2 := (13, [some (.inr (.inr (some (4, 0)))), none, some (.inl v3)], [], m4)) rfl hres (fun hc hres => ?_) (fun hc hres => ?_)
    · obtain rfl := Option.some.inj hres
      exact e_mask (L' := [none, none, none]) rfl (hxl2 _ rfl)
    · refine e_steps 4 (s' := (17, [some (.inr (.inr (some (4, 0)))), none, some (.inl v3)], [.inl 0, .inl v3, .inl 3, .inr (.inr (some (4, 0)))], m4)) rfl ?_
      obtain ⟨m6, hv, hres⟩ := mm_b1_some hres
      refine e_call0 (pc := 20) (L := [some (.inr (.inr (some (4, 0)))), none, some (.inl v3)]) (st := []) (m' := m6) (v := none) rfl (k_X6_undergo d (by omega) 3 v3 0 _ _ hv) ?_
      show mm_E (d + 1) 93 (20, [some (.inr (.inr (some (4, 0)))), none, some (.inl v3)], [], m6) (.inl none, r, 0, 0)
      refine e_steps 1 (s' := (23, [some (.inr (.inr (some (4, 0)))), none, some (.inl (v3 + 1))], [], m6)) rfl ?_
      refine e_let (fun (v7 : Int32) => (23, [some (.inr (.inr (some (4, 0)))), none, some (.inl v7)], [], m6)) hres (fun v7 hres => ?_)
      refine e_steps 1 (s' := (7, [some (.inr (.inr (some (4, 0)))), none, some (.inl v7)], [], m6)) rfl ?_
      obtain rfl := Option.some.inj hres
      exact e_mask (L' := [some (.inr (.inr (some (4, 0)))), none, some (.inl v7)]) rfl (hcl2 _ rfl)
/-- GlassThreads$Scene.weigh(LGlassThreads$Law;II)V -/
def f_X6_weigh (i1 : Nat) (a2 : Int32) (a3 : Int32) (m : mm_M) : Option (mm_M) :=
(mm_b1 (mm_loop (σ := Int32 × mm_M) (ρ := (mm_M)) (fun (s : Int32 × mm_M) => match s with
| (v2, m3) => (if (m3 4 0 4) = -1 then (none) else (mm_let (m3 4 0 4).toNatClampNeg fun i4 =>
if (m3 5 i4 4) ≤ v2 then (some (.inr m3))
else (if (m3 4 0 4) = -1 then (none) else (mm_let (m3 4 0 4).toNatClampNeg fun i5 =>
mm_b2 (f_X3_lossOf i1 i5 v2 a2 a3 m3) fun r6 m7 =>
if mm_in v2 24 then (
mm_let (mm_w m7 36 0 v2.toNatClampNeg r6) fun m8 =>
mm_let (v2 + 1) fun v9 =>
some (.inl (v9, m8))) else none))) : Option ((Int32 × mm_M) ⊕ ((mm_M))))) mm_fu (0, m)) fun m10 =>
some m10)
set_option maxHeartbeats 4000000 in
set_option maxRecDepth 100000 in
theorem k_X6_weigh (d : Nat) (hd : 4 ≤ d) (i1 : Nat) (a2 : Int32) (a3 : Int32) (m : mm_M) (r : mm_M) (hres : f_X6_weigh i1 a2 a3 m = some r) : mm_X d 95 [.inr (.inr (some (4, 0))), .inr (.inr (some (2, i1))), .inl a2, .inl a3] m (.inl none, r, 0, 0) := by
  unfold f_X6_weigh at hres
  obtain ⟨d, rfl⟩ : ∃ e, d = e + 1 := ⟨d - 1, by omega⟩
  show mm_E (d + 1) 95 (0, [some (.inr (.inr (some (4, 0)))), some (.inr (.inr (some (2, i1)))), some (.inl a2), some (.inl a3), none], [], m) (.inl none, r, 0, 0)
  refine e_steps 2 (s' := (3, [some (.inr (.inr (some (4, 0)))), some (.inr (.inr (some (2, i1)))), some (.inl a2), some (.inl a3), some (.inl 0)], [], m)) rfl ?_
  refine e_mask (L' := [some (.inr (.inr (some (4, 0)))), some (.inr (.inr (some (2, i1)))), some (.inl a2), some (.inl a3), some (.inl 0)]) rfl ?_
  refine e_loopb (φ := fun s => (3, [some (.inr (.inr (some (4, 0)))), some (.inr (.inr (some (2, i1)))), some (.inl a2), some (.inl a3), some (.inl s.1)], [], s.2)) (K := fun t => mm_E (d + 1) 95 (40, [none, none, none, none, none], [], t) (.inl none, r, 0, 0)) hres (fun m10 hres => ?_) (fun s ol1 hres hcl1 hxl1 => ?_)
  · show mm_E (d + 1) 95 (40, [none, none, none, none, none], [], m10) (.inl none, r, 0, 0)
    obtain rfl := Option.some.inj hres
    exact e_ret rfl rfl
  · obtain ⟨v2, m3⟩ := s
    show mm_E (d + 1) 95 (3, [some (.inr (.inr (some (4, 0)))), some (.inr (.inr (some (2, i1)))), some (.inl a2), some (.inl a3), some (.inl v2)], [], m3) (.inl none, r, 0, 0)
    refine e_steps 2 (s' := (6, [some (.inr (.inr (some (4, 0)))), some (.inr (.inr (some (2, i1)))), some (.inl a2), some (.inl a3), some (.inl v2)], [.inr (.inr (some (4, 0))), .inl v2], m3)) rfl ?_
    refine e_if (s1 := (9, [some (.inr (.inr (some (4, 0)))), some (.inr (.inr (some (2, i1)))), some (.inl a2), some (.inl a3), some (.inl v2)], [.inr (.inr none), .inl v2], m3)) (s2 := (9, [some (.inr (.inr (some (4, 0)))), some (.inr (.inr (some (2, i1)))), some (.inl a2), some (.inl a3), some (.inl v2)], [.inr (.inr (some (5, (m3 4 0 4).toNatClampNeg))), .inl v2], m3)) rfl hres (fun hc hres => ?_) (fun hc hres => ?_)
    · cases hres
    · refine e_let (fun (i4 : Nat) => (9, [some (.inr (.inr (some (4, 0)))), some (.inr (.inr (some (2, i1)))), some (.inl a2), some (.inl a3), some (.inl v2)], [.inr (.inr (some (5, i4))), .inl v2], m3)) hres (fun i4 hres => ?_)
      refine e_steps 1 (s' := (12, [some (.inr (.inr (some (4, 0)))), some (.inr (.inr (some (2, i1)))), some (.inl a2), some (.inl a3), some (.inl v2)], [.inl (m3 5 i4 4), .inl v2], m3)) rfl ?_
      refine e_if (s1 := (40, [some (.inr (.inr (some (4, 0)))), some (.inr (.inr (some (2, i1)))), some (.inl a2), some (.inl a3), some (.inl v2)], [], m3)) (s2 := (15, [some (.inr (.inr (some (4, 0)))), some (.inr (.inr (some (2, i1)))), some (.inl a2), some (.inl a3), some (.inl v2)], [], m3)) rfl hres (fun hc hres => ?_) (fun hc hres => ?_)
      · obtain rfl := Option.some.inj hres
        exact e_mask (L' := [none, none, none, none, none]) rfl (hxl1 _ rfl)
      · refine e_steps 5 (s' := (23, [some (.inr (.inr (some (4, 0)))), some (.inr (.inr (some (2, i1)))), some (.inl a2), some (.inl a3), some (.inl v2)], [.inr (.inr (some (4, 0))), .inr (.inr (some (2, i1))), .inl v2, .inr (.inr (some (36, 0)))], m3)) rfl ?_
        refine e_if (s1 := (26, [some (.inr (.inr (some (4, 0)))), some (.inr (.inr (some (2, i1)))), some (.inl a2), some (.inl a3), some (.inl v2)], [.inr (.inr none), .inr (.inr (some (2, i1))), .inl v2, .inr (.inr (some (36, 0)))], m3)) (s2 := (26, [some (.inr (.inr (some (4, 0)))), some (.inr (.inr (some (2, i1)))), some (.inl a2), some (.inl a3), some (.inl v2)], [.inr (.inr (some (5, (m3 4 0 4).toNatClampNeg))), .inr (.inr (some (2, i1))), .inl v2, .inr (.inr (some (36, 0)))], m3)) rfl hres (fun hc hres => ?_) (fun hc hres => ?_)
        · refine e_steps 3 (s' := (30, [some (.inr (.inr (some (4, 0)))), some (.inr (.inr (some (2, i1)))), some (.inl a2), some (.inl a3), some (.inl v2)], [.inl a3, .inl a2, .inl v2, .inr (.inr none), .inr (.inr (some (2, i1))), .inl v2, .inr (.inr (some (36, 0)))], m3)) rfl ?_
          cases hres
        · refine e_let (fun (i5 : Nat) => (26, [some (.inr (.inr (some (4, 0)))), some (.inr (.inr (some (2, i1)))), some (.inl a2), some (.inl a3), some (.inl v2)], [.inr (.inr (some (5, i5))), .inr (.inr (some (2, i1))), .inl v2, .inr (.inr (some (36, 0)))], m3)) hres (fun i5 hres => ?_)
          refine e_steps 3 (s' := (30, [some (.inr (.inr (some (4, 0)))), some (.inr (.inr (some (2, i1)))), some (.inl a2), some (.inl a3), some (.inl v2)], [.inl a3, .inl a2, .inl v2, .inr (.inr (some (5, i5))), .inr (.inr (some (2, i1))), .inl v2, .inr (.inr (some (36, 0)))], m3)) rfl ?_
          obtain ⟨r6, m7, hv, hres⟩ := mm_b2_some hres
          refine e_call0 (pc := 33) (L := [some (.inr (.inr (some (4, 0)))), some (.inr (.inr (some (2, i1)))), some (.inl a2), some (.inl a3), some (.inl v2)]) (st := [.inl v2, .inr (.inr (some (36, 0)))]) (m' := m7) (v := some (.inl r6)) rfl (k_X3_lossOf d (by omega) i1 i5 v2 a2 a3 _ _ hv) ?_
          show mm_E (d + 1) 95 (33, [some (.inr (.inr (some (4, 0)))), some (.inr (.inr (some (2, i1)))), some (.inl a2), some (.inl a3), some (.inl v2)], [.inl r6, .inl v2, .inr (.inr (some (36, 0)))], m7) (.inl none, r, 0, 0)
          refine e_gd (s1 := (34, [some (.inr (.inr (some (4, 0)))), some (.inr (.inr (some (2, i1)))), some (.inl a2), some (.inl a3), some (.inl v2)], [], (mm_w m7 36 0 v2.toNatClampNeg r6))) rfl hres (fun hc hres => ?_)
          refine e_let (fun (m8 : mm_M) => (34, [some (.inr (.inr (some (4, 0)))), some (.inr (.inr (some (2, i1)))), some (.inl a2), some (.inl a3), some (.inl v2)], [], m8)) hres (fun m8 hres => ?_)
          refine e_steps 1 (s' := (37, [some (.inr (.inr (some (4, 0)))), some (.inr (.inr (some (2, i1)))), some (.inl a2), some (.inl a3), some (.inl (v2 + 1))], [], m8)) rfl ?_
          refine e_let (fun (v9 : Int32) => (37, [some (.inr (.inr (some (4, 0)))), some (.inr (.inr (some (2, i1)))), some (.inl a2), some (.inl a3), some (.inl v9)], [], m8)) hres (fun v9 hres => ?_)
          refine e_steps 1 (s' := (3, [some (.inr (.inr (some (4, 0)))), some (.inr (.inr (some (2, i1)))), some (.inl a2), some (.inl a3), some (.inl v9)], [], m8)) rfl ?_
          obtain rfl := Option.some.inj hres
          exact e_mask (L' := [some (.inr (.inr (some (4, 0)))), some (.inr (.inr (some (2, i1)))), some (.inl a2), some (.inl a3), some (.inl v9)]) rfl (hcl1 _ rfl)
/-- GlassThreads$Scene.passed(II)I -/
def f_X6_passed (a1 : Int32) (a2 : Int32) (m : mm_M) : Option (Int32) :=
if (m 4 0 4) = -1 then (none) else (mm_let (m 4 0 4).toNatClampNeg fun i1 =>
if mm_in a1 24 then (
if (m 37 i1 a1.toNatClampNeg) = 3 then (if mm_in a1 24 then (
if (m 35 0 a1.toNatClampNeg) = 0 then (if (m 4 0 4) = -1 then (none) else (mm_let (m 4 0 4).toNatClampNeg fun i2 =>
if mm_in a1 24 then (
mm_let (m 39 i2 a1.toNatClampNeg) fun v3 =>
if a2 ≤ v3 then (if (m 4 0 4) = -1 then (none) else (mm_let (m 4 0 4).toNatClampNeg fun i4 =>
if mm_in a1 24 then (
some (mm_min v3 (a2 + (m 38 i4 a1.toNatClampNeg)))) else none))
else (some a2)) else none))
else (some (a2 - 5000))) else none)
else (if mm_in a1 24 then (
if mm_in a1 24 then (
some ((a2 - (m 36 0 a1.toNatClampNeg)) - (m 33 0 a1.toNatClampNeg))) else none) else none)) else none)
set_option maxHeartbeats 4000000 in
set_option maxRecDepth 100000 in
theorem k_X6_passed (d : Nat) (hd : 0 ≤ d) (a1 : Int32) (a2 : Int32) (m : mm_M) (r : Int32) (hres : f_X6_passed a1 a2 m = some r) : mm_X d 97 [.inr (.inr (some (4, 0))), .inl a1, .inl a2] m (.inl (some (.inl r)), m, 0, 0) := by
  unfold f_X6_passed at hres
  show mm_E d 97 (0, [some (.inr (.inr (some (4, 0)))), some (.inl a1), some (.inl a2), none], [], m) (.inl (some (.inl r)), m, 0, 0)
  refine e_steps 1 (s' := (1, [some (.inr (.inr (some (4, 0)))), some (.inl a1), some (.inl a2), none], [.inr (.inr (some (4, 0)))], m)) rfl ?_
  refine e_if (s1 := (4, [some (.inr (.inr (some (4, 0)))), some (.inl a1), some (.inl a2), none], [.inr (.inr none)], m)) (s2 := (4, [some (.inr (.inr (some (4, 0)))), some (.inl a1), some (.inl a2), none], [.inr (.inr (some (5, (m 4 0 4).toNatClampNeg)))], m)) rfl hres (fun hc hres => ?_) (fun hc hres => ?_)
  · cases hres
  · refine e_let (fun (i1 : Nat) => (4, [some (.inr (.inr (some (4, 0)))), some (.inl a1), some (.inl a2), none], [.inr (.inr (some (5, i1)))], m)) hres (fun i1 hres => ?_)
    refine e_steps 2 (s' := (8, [some (.inr (.inr (some (4, 0)))), some (.inl a1), some (.inl a2), none], [.inl a1, .inr (.inr (some (37, i1)))], m)) rfl ?_
    refine e_gd (s1 := (9, [some (.inr (.inr (some (4, 0)))), some (.inl a1), some (.inl a2), none], [.inl (m 37 i1 a1.toNatClampNeg)], m)) rfl hres (fun hc hres => ?_)
    refine e_steps 1 (s' := (10, [some (.inr (.inr (some (4, 0)))), some (.inl a1), some (.inl a2), none], [.inl 3, .inl (m 37 i1 a1.toNatClampNeg)], m)) rfl ?_
    refine e_if (s1 := (29, [some (.inr (.inr (some (4, 0)))), some (.inl a1), some (.inl a2), none], [], m)) (s2 := (13, [some (.inr (.inr (some (4, 0)))), some (.inl a1), some (.inl a2), none], [], m)) rfl hres (fun hc hres => ?_) (fun hc hres => ?_)
    · refine e_steps 3 (s' := (34, [some (.inr (.inr (some (4, 0)))), some (.inl a1), some (.inl a2), none], [.inl a1, .inr (.inr (some (35, 0)))], m)) rfl ?_
      refine e_gd (s1 := (35, [some (.inr (.inr (some (4, 0)))), some (.inl a1), some (.inl a2), none], [.inl (m 35 0 a1.toNatClampNeg)], m)) rfl hres (fun hc hres => ?_)
      refine e_if (s1 := (44, [some (.inr (.inr (some (4, 0)))), some (.inl a1), some (.inl a2), none], [], m)) (s2 := (38, [some (.inr (.inr (some (4, 0)))), some (.inl a1), some (.inl a2), none], [], m)) rfl hres (fun hc hres => ?_) (fun hc hres => ?_)
      · refine e_steps 1 (s' := (45, [some (.inr (.inr (some (4, 0)))), some (.inl a1), some (.inl a2), none], [.inr (.inr (some (4, 0)))], m)) rfl ?_
        refine e_if (s1 := (48, [some (.inr (.inr (some (4, 0)))), some (.inl a1), some (.inl a2), none], [.inr (.inr none)], m)) (s2 := (48, [some (.inr (.inr (some (4, 0)))), some (.inl a1), some (.inl a2), none], [.inr (.inr (some (5, (m 4 0 4).toNatClampNeg)))], m)) rfl hres (fun hc hres => ?_) (fun hc hres => ?_)
        · cases hres
        · refine e_let (fun (i2 : Nat) => (48, [some (.inr (.inr (some (4, 0)))), some (.inl a1), some (.inl a2), none], [.inr (.inr (some (5, i2)))], m)) hres (fun i2 hres => ?_)
          refine e_steps 2 (s' := (52, [some (.inr (.inr (some (4, 0)))), some (.inl a1), some (.inl a2), none], [.inl a1, .inr (.inr (some (39, i2)))], m)) rfl ?_
          refine e_gd (s1 := (53, [some (.inr (.inr (some (4, 0)))), some (.inl a1), some (.inl a2), none], [.inl (m 39 i2 a1.toNatClampNeg)], m)) rfl hres (fun hc hres => ?_)
          refine e_steps 1 (s' := (54, [some (.inr (.inr (some (4, 0)))), some (.inl a1), some (.inl a2), some (.inl (m 39 i2 a1.toNatClampNeg))], [], m)) rfl ?_
          refine e_let (fun (v3 : Int32) => (54, [some (.inr (.inr (some (4, 0)))), some (.inl a1), some (.inl a2), some (.inl v3)], [], m)) hres (fun v3 hres => ?_)
          refine e_steps 2 (s' := (56, [some (.inr (.inr (some (4, 0)))), some (.inl a1), some (.inl a2), some (.inl v3)], [.inl v3, .inl a2], m)) rfl ?_
          refine e_if (s1 := (63, [some (.inr (.inr (some (4, 0)))), some (.inl a1), some (.inl a2), some (.inl v3)], [], m)) (s2 := (59, [some (.inr (.inr (some (4, 0)))), some (.inl a1), some (.inl a2), some (.inl v3)], [], m)) rfl hres (fun hc hres => ?_) (fun hc hres => ?_)
          · refine e_steps 3 (s' := (66, [some (.inr (.inr (some (4, 0)))), some (.inl a1), some (.inl a2), some (.inl v3)], [.inr (.inr (some (4, 0))), .inl a2, .inl v3], m)) rfl ?_
            refine e_if (s1 := (69, [some (.inr (.inr (some (4, 0)))), some (.inl a1), some (.inl a2), some (.inl v3)], [.inr (.inr none), .inl a2, .inl v3], m)) (s2 := (69, [some (.inr (.inr (some (4, 0)))), some (.inl a1), some (.inl a2), some (.inl v3)], [.inr (.inr (some (5, (m 4 0 4).toNatClampNeg))), .inl a2, .inl v3], m)) rfl hres (fun hc hres => ?_) (fun hc hres => ?_)
            · cases hres
            · refine e_let (fun (i4 : Nat) => (69, [some (.inr (.inr (some (4, 0)))), some (.inl a1), some (.inl a2), some (.inl v3)], [.inr (.inr (some (5, i4))), .inl a2, .inl v3], m)) hres (fun i4 hres => ?_)
              refine e_steps 2 (s' := (73, [some (.inr (.inr (some (4, 0)))), some (.inl a1), some (.inl a2), some (.inl v3)], [.inl a1, .inr (.inr (some (38, i4))), .inl a2, .inl v3], m)) rfl ?_
              refine e_gd (s1 := (74, [some (.inr (.inr (some (4, 0)))), some (.inl a1), some (.inl a2), some (.inl v3)], [.inl (m 38 i4 a1.toNatClampNeg), .inl a2, .inl v3], m)) rfl hres (fun hc hres => ?_)
              refine e_steps 2 (s' := (78, [some (.inr (.inr (some (4, 0)))), some (.inl a1), some (.inl a2), some (.inl v3)], [.inl (mm_min v3 (a2 + (m 38 i4 a1.toNatClampNeg)))], m)) rfl ?_
              refine e_mask (L' := [none, none, none, none]) rfl ?_
              obtain rfl := Option.some.inj hres
              exact e_ret rfl rfl
          · refine e_steps 2 (s' := (78, [some (.inr (.inr (some (4, 0)))), some (.inl a1), some (.inl a2), some (.inl v3)], [.inl a2], m)) rfl ?_
            refine e_mask (L' := [none, none, none, none]) rfl ?_
            obtain rfl := Option.some.inj hres
            exact e_ret rfl rfl
      · refine e_steps 3 (s' := (43, [some (.inr (.inr (some (4, 0)))), some (.inl a1), some (.inl a2), none], [.inl (a2 - 5000)], m)) rfl ?_
        obtain rfl := Option.some.inj hres
        exact e_ret rfl rfl
    · refine e_steps 4 (s' := (19, [some (.inr (.inr (some (4, 0)))), some (.inl a1), some (.inl a2), none], [.inl a1, .inr (.inr (some (36, 0))), .inl a2], m)) rfl ?_
      refine e_gd (s1 := (20, [some (.inr (.inr (some (4, 0)))), some (.inl a1), some (.inl a2), none], [.inl (m 36 0 a1.toNatClampNeg), .inl a2], m)) rfl hres (fun hc hres => ?_)
      refine e_steps 4 (s' := (26, [some (.inr (.inr (some (4, 0)))), some (.inl a1), some (.inl a2), none], [.inl a1, .inr (.inr (some (33, 0))), .inl (a2 - (m 36 0 a1.toNatClampNeg))], m)) rfl ?_
      refine e_gd (s1 := (27, [some (.inr (.inr (some (4, 0)))), some (.inl a1), some (.inl a2), none], [.inl (m 33 0 a1.toNatClampNeg), .inl (a2 - (m 36 0 a1.toNatClampNeg))], m)) rfl hres (fun hc hres => ?_)
      refine e_steps 1 (s' := (28, [some (.inr (.inr (some (4, 0)))), some (.inl a1), some (.inl a2), none], [.inl ((a2 - (m 36 0 a1.toNatClampNeg)) - (m 33 0 a1.toNatClampNeg))], m)) rfl ?_
      obtain rfl := Option.some.inj hres
      exact e_ret rfl rfl
/-- GlassThreads$Scene.levelBehind(IIZ)I -/
def f_X6_levelBehind (a1 : Int32) (a2 : Int32) (a3 : Int32) (m : mm_M) : Option (Int32) :=
(mm_b1 (mm_loop (σ := Int32 × Int32 × Int32) (ρ := (Unit) ⊕ (Int32)) (fun (s : Int32 × Int32 × Int32) => match s with
| (v2, v3, v4) => (if (m 4 0 4) = -1 then (none) else (mm_let (m 4 0 4).toNatClampNeg fun i5 =>
if (m 5 i5 4) ≤ v4 then (some (.inr (.inr v2)))
else (if v3 ≠ 0 then (some (.inr (.inr v2)))
else (mm_let (fun (w6 : Int32) => (if mm_in w6 24 then (
if (m 34 0 w6.toNatClampNeg) = (-1) then (mm_b1 (f_X6_passed w6 v2 m) fun r8 =>
if w6 ≠ a1 then (mm_let (v4 + 1) fun v9 =>
some (.inl (r8, 0, v9)))
else (mm_let (v4 + 1) fun v10 =>
some (.inl (r8, 1, v10))))
else (some (.inr (.inl ())))) else none : Option ((Int32 × Int32 × Int32) ⊕ ((Unit) ⊕ (Int32))))) fun k7 =>
if a3 = 0 then (k7 v4)
else (if (m 4 0 4) = -1 then (none) else (mm_let (m 4 0 4).toNatClampNeg fun i11 =>
k7 (((m 5 i11 4) - 1) - v4)))))) : Option ((Int32 × Int32 × Int32) ⊕ ((Unit) ⊕ (Int32))))) mm_fu (a2, 0, 0)) fun t => match t with
| .inl _ => some (-100000)
| .inr v12 => some v12)
set_option maxHeartbeats 4000000 in
set_option maxRecDepth 100000 in
theorem k_X6_levelBehind (d : Nat) (hd : 1 ≤ d) (a1 : Int32) (a2 : Int32) (a3 : Int32) (m : mm_M) (r : Int32) (hres : f_X6_levelBehind a1 a2 a3 m = some r) : mm_X d 96 [.inr (.inr (some (4, 0))), .inl a1, .inl a2, .inl a3] m (.inl (some (.inl r)), m, 0, 0) := by
  unfold f_X6_levelBehind at hres
  obtain ⟨d, rfl⟩ : ∃ e, d = e + 1 := ⟨d - 1, by omega⟩
  show mm_E (d + 1) 96 (0, [some (.inr (.inr (some (4, 0)))), some (.inl a1), some (.inl a2), some (.inl a3), none, none, none, none], [], m) (.inl (some (.inl r)), m, 0, 0)
  refine e_steps 6 (s' := (9, [some (.inr (.inr (some (4, 0)))), some (.inl a1), some (.inl a2), some (.inl a3), some (.inl a2), some (.inl 0), some (.inl 0), none], [], m)) rfl ?_
  refine e_mask (L' := [some (.inr (.inr (some (4, 0)))), some (.inl a1), none, some (.inl a3), some (.inl a2), some (.inl 0), some (.inl 0), none]) rfl ?_
  refine e_loopb (φ := fun s => (9, [some (.inr (.inr (some (4, 0)))), some (.inl a1), none, some (.inl a3), some (.inl s.1), some (.inl s.2.1), some (.inl s.2.2), none], [], m)) (K := fun t => match t with | .inl t => mm_E (d + 1) 96 (60, [none, none, none, none, none, none, none, none], [], m) (.inl (some (.inl r)), m, 0, 0) | .inr t => mm_E (d + 1) 96 (92, [none, none, none, none, some (.inl t), none, none, none], [], m) (.inl (some (.inl r)), m, 0, 0)) hres (fun t hres => ?_) (fun s ol1 hres hcl1 hxl1 => ?_)
  · rcases t with _ | v12
    · show mm_E (d + 1) 96 (60, [none, none, none, none, none, none, none, none], [], m) (.inl (some (.inl r)), m, 0, 0)
      refine e_steps 1 (s' := (62, [none, none, none, none, none, none, none, none], [.inl (-100000)], m)) rfl ?_
      obtain rfl := Option.some.inj hres
      exact e_ret rfl rfl
    · show mm_E (d + 1) 96 (92, [none, none, none, none, some (.inl v12), none, none, none], [], m) (.inl (some (.inl r)), m, 0, 0)
      refine e_steps 1 (s' := (94, [none, none, none, none, some (.inl v12), none, none, none], [.inl v12], m)) rfl ?_
      obtain rfl := Option.some.inj hres
      exact e_ret rfl rfl
  · obtain ⟨v2, v3, v4⟩ := s
    show mm_E (d + 1) 96 (9, [some (.inr (.inr (some (4, 0)))), some (.inl a1), none, some (.inl a3), some (.inl v2), some (.inl v3), some (.inl v4), none], [], m) (.inl (some (.inl r)), m, 0, 0)
    refine e_steps 2 (s' := (12, [some (.inr (.inr (some (4, 0)))), some (.inl a1), none, some (.inl a3), some (.inl v2), some (.inl v3), some (.inl v4), none], [.inr (.inr (some (4, 0))), .inl v4], m)) rfl ?_
    refine e_if (s1 := (15, [some (.inr (.inr (some (4, 0)))), some (.inl a1), none, some (.inl a3), some (.inl v2), some (.inl v3), some (.inl v4), none], [.inr (.inr none), .inl v4], m)) (s2 := (15, [some (.inr (.inr (some (4, 0)))), some (.inl a1), none, some (.inl a3), some (.inl v2), some (.inl v3), some (.inl v4), none], [.inr (.inr (some (5, (m 4 0 4).toNatClampNeg))), .inl v4], m)) rfl hres (fun hc hres => ?_) (fun hc hres => ?_)
    · cases hres
    · refine e_let (fun (i5 : Nat) => (15, [some (.inr (.inr (some (4, 0)))), some (.inl a1), none, some (.inl a3), some (.inl v2), some (.inl v3), some (.inl v4), none], [.inr (.inr (some (5, i5))), .inl v4], m)) hres (fun i5 hres => ?_)
      refine e_steps 1 (s' := (18, [some (.inr (.inr (some (4, 0)))), some (.inl a1), none, some (.inl a3), some (.inl v2), some (.inl v3), some (.inl v4), none], [.inl (m 5 i5 4), .inl v4], m)) rfl ?_
      refine e_if (s1 := (92, [some (.inr (.inr (some (4, 0)))), some (.inl a1), none, some (.inl a3), some (.inl v2), some (.inl v3), some (.inl v4), none], [], m)) (s2 := (21, [some (.inr (.inr (some (4, 0)))), some (.inl a1), none, some (.inl a3), some (.inl v2), some (.inl v3), some (.inl v4), none], [], m)) rfl hres (fun hc hres => ?_) (fun hc hres => ?_)
      · obtain rfl := Option.some.inj hres
        exact e_mask (L' := [none, none, none, none, some (.inl v2), none, none, none]) rfl (hxl1 _ rfl)
      · refine e_steps 1 (s' := (23, [some (.inr (.inr (some (4, 0)))), some (.inl a1), none, some (.inl a3), some (.inl v2), some (.inl v3), some (.inl v4), none], [.inl v3], m)) rfl ?_
        refine e_if (s1 := (92, [some (.inr (.inr (some (4, 0)))), some (.inl a1), none, some (.inl a3), some (.inl v2), some (.inl v3), some (.inl v4), none], [], m)) (s2 := (26, [some (.inr (.inr (some (4, 0)))), some (.inl a1), none, some (.inl a3), some (.inl v2), some (.inl v3), some (.inl v4), none], [], m)) rfl hres (fun hc hres => ?_) (fun hc hres => ?_)
        · obtain rfl := Option.some.inj hres
          exact e_mask (L' := [none, none, none, none, some (.inl v2), none, none, none]) rfl (hxl1 _ rfl)
        · refine e_steps 1 (s' := (27, [some (.inr (.inr (some (4, 0)))), some (.inl a1), none, some (.inl a3), some (.inl v2), some (.inl v3), some (.inl v4), none], [.inl a3], m)) rfl ?_
          refine e_join (fun k7 => ∀ (w6 : Int32), k7 w6 = some ol1 → mm_E (d + 1) 96 (47, [some (.inr (.inr (some (4, 0)))), some (.inl a1), none, some (.inl a3), some (.inl v2), none, some (.inl v4), none], [.inl w6], m) (.inl (some (.inl r)), m, 0, 0)) hres (fun w6 hres => ?_) (fun k7 hk7 hres => ?_)
          · refine e_steps 4 (s' := (55, [some (.inr (.inr (some (4, 0)))), some (.inl a1), none, some (.inl a3), some (.inl v2), none, some (.inl v4), some (.inl w6)], [.inl w6, .inr (.inr (some (34, 0)))], m)) rfl ?_
            refine e_gd (s1 := (56, [some (.inr (.inr (some (4, 0)))), some (.inl a1), none, some (.inl a3), some (.inl v2), none, some (.inl v4), some (.inl w6)], [.inl (m 34 0 w6.toNatClampNeg)], m)) rfl hres (fun hc hres => ?_)
            refine e_steps 1 (s' := (57, [some (.inr (.inr (some (4, 0)))), some (.inl a1), none, some (.inl a3), some (.inl v2), none, some (.inl v4), some (.inl w6)], [.inl (-1), .inl (m 34 0 w6.toNatClampNeg)], m)) rfl ?_
            refine e_if (s1 := (63, [some (.inr (.inr (some (4, 0)))), some (.inl a1), none, some (.inl a3), some (.inl v2), none, some (.inl v4), some (.inl w6)], [], m)) (s2 := (60, [some (.inr (.inr (some (4, 0)))), some (.inl a1), none, some (.inl a3), some (.inl v2), none, some (.inl v4), some (.inl w6)], [], m)) rfl hres (fun hc hres => ?_) (fun hc hres => ?_)
            · refine e_steps 3 (s' := (68, [some (.inr (.inr (some (4, 0)))), some (.inl a1), none, some (.inl a3), some (.inl v2), none, some (.inl v4), some (.inl w6)], [.inl v2, .inl w6, .inr (.inr (some (4, 0)))], m)) rfl ?_
              obtain ⟨r8, hv, hres⟩ := mm_b1_some hres
              refine e_call0 (pc := 71) (L := [some (.inr (.inr (some (4, 0)))), some (.inl a1), none, some (.inl a3), some (.inl v2), none, some (.inl v4), some (.inl w6)]) (st := []) (m' := m) (v := some (.inl r8)) rfl (k_X6_passed d (by omega) w6 v2 _ _ hv) ?_
              show mm_E (d + 1) 96 (71, [some (.inr (.inr (some (4, 0)))), some (.inl a1), none, some (.inl a3), some (.inl v2), none, some (.inl v4), some (.inl w6)], [.inl r8], m) (.inl (some (.inl r)), m, 0, 0)
              refine e_steps 3 (s' := (76, [some (.inr (.inr (some (4, 0)))), some (.inl a1), none, some (.inl a3), some (.inl r8), none, some (.inl v4), some (.inl w6)], [.inl a1, .inl w6], m)) rfl ?_
              refine e_if (s1 := (83, [some (.inr (.inr (some (4, 0)))), some (.inl a1), none, some (.inl a3), some (.inl r8), none, some (.inl v4), some (.inl w6)], [], m)) (s2 := (79, [some (.inr (.inr (some (4, 0)))), some (.inl a1), none, some (.inl a3), some (.inl r8), none, some (.inl v4), some (.inl w6)], [], m)) rfl hres (fun hc hres => ?_) (fun hc hres => ?_)
              · refine e_steps 1 (s' := (84, [some (.inr (.inr (some (4, 0)))), some (.inl a1), none, some (.inl a3), some (.inl r8), none, some (.inl v4), some (.inl w6)], [.inl 0], m)) rfl ?_
                refine e_mask (L' := [some (.inr (.inr (some (4, 0)))), some (.inl a1), none, some (.inl a3), some (.inl r8), none, some (.inl v4), none]) rfl ?_
                refine e_steps 2 (s' := (89, [some (.inr (.inr (some (4, 0)))), some (.inl a1), none, some (.inl a3), some (.inl r8), some (.inl 0), some (.inl (v4 + 1)), none], [], m)) rfl ?_
                refine e_let (fun (v9 : Int32) => (89, [some (.inr (.inr (some (4, 0)))), some (.inl a1), none, some (.inl a3), some (.inl r8), some (.inl 0), some (.inl v9), none], [], m)) hres (fun v9 hres => ?_)
                refine e_steps 1 (s' := (9, [some (.inr (.inr (some (4, 0)))), some (.inl a1), none, some (.inl a3), some (.inl r8), some (.inl 0), some (.inl v9), none], [], m)) rfl ?_
                obtain rfl := Option.some.inj hres
                exact e_mask (L' := [some (.inr (.inr (some (4, 0)))), some (.inl a1), none, some (.inl a3), some (.inl r8), some (.inl 0), some (.inl v9), none]) rfl (hcl1 _ rfl)
              · refine e_steps 2 (s' := (84, [some (.inr (.inr (some (4, 0)))), some (.inl a1), none, some (.inl a3), some (.inl r8), none, some (.inl v4), some (.inl w6)], [.inl 1], m)) rfl ?_
                refine e_mask (L' := [some (.inr (.inr (some (4, 0)))), some (.inl a1), none, some (.inl a3), some (.inl r8), none, some (.inl v4), none]) rfl ?_
                refine e_steps 2 (s' := (89, [some (.inr (.inr (some (4, 0)))), some (.inl a1), none, some (.inl a3), some (.inl r8), some (.inl 1), some (.inl (v4 + 1)), none], [], m)) rfl ?_
                refine e_let (fun (v10 : Int32) => (89, [some (.inr (.inr (some (4, 0)))), some (.inl a1), none, some (.inl a3), some (.inl r8), some (.inl 1), some (.inl v10), none], [], m)) hres (fun v10 hres => ?_)
                refine e_steps 1 (s' := (9, [some (.inr (.inr (some (4, 0)))), some (.inl a1), none, some (.inl a3), some (.inl r8), some (.inl 1), some (.inl v10), none], [], m)) rfl ?_
                obtain rfl := Option.some.inj hres
                exact e_mask (L' := [some (.inr (.inr (some (4, 0)))), some (.inl a1), none, some (.inl a3), some (.inl r8), some (.inl 1), some (.inl v10), none]) rfl (hcl1 _ rfl)
            · obtain rfl := Option.some.inj hres
              exact e_mask (L' := [none, none, none, none, none, none, none, none]) rfl (hxl1 _ rfl)
          · refine e_if (s1 := (45, [some (.inr (.inr (some (4, 0)))), some (.inl a1), none, some (.inl a3), some (.inl v2), some (.inl v3), some (.inl v4), none], [], m)) (s2 := (30, [some (.inr (.inr (some (4, 0)))), some (.inl a1), none, some (.inl a3), some (.inl v2), some (.inl v3), some (.inl v4), none], [], m)) rfl hres (fun hc hres => ?_) (fun hc hres => ?_)
            · refine e_steps 1 (s' := (47, [some (.inr (.inr (some (4, 0)))), some (.inl a1), none, some (.inl a3), some (.inl v2), some (.inl v3), some (.inl v4), none], [.inl v4], m)) rfl ?_
              exact e_mask (L' := [some (.inr (.inr (some (4, 0)))), some (.inl a1), none, some (.inl a3), some (.inl v2), none, some (.inl v4), none]) rfl (hk7 _ hres)
            · refine e_steps 1 (s' := (31, [some (.inr (.inr (some (4, 0)))), some (.inl a1), none, some (.inl a3), some (.inl v2), some (.inl v3), some (.inl v4), none], [.inr (.inr (some (4, 0)))], m)) rfl ?_
              refine e_if (s1 := (34, [some (.inr (.inr (some (4, 0)))), some (.inl a1), none, some (.inl a3), some (.inl v2), some (.inl v3), some (.inl v4), none], [.inr (.inr none)], m)) (s2 := (34, [some (.inr (.inr (some (4, 0)))), some (.inl a1), none, some (.inl a3), some (.inl v2), some (.inl v3), some (.inl v4), none], [.inr (.inr (some (5, (m 4 0 4).toNatClampNeg)))], m)) rfl hres (fun hc hres => ?_) (fun hc hres => ?_)
              · cases hres
              · refine e_let (fun (i11 : Nat) => (34, [some (.inr (.inr (some (4, 0)))), some (.inl a1), none, some (.inl a3), some (.inl v2), some (.inl v3), some (.inl v4), none], [.inr (.inr (some (5, i11)))], m)) hres (fun i11 hres => ?_)
                refine e_steps 6 (s' := (47, [some (.inr (.inr (some (4, 0)))), some (.inl a1), none, some (.inl a3), some (.inl v2), some (.inl v3), some (.inl v4), none], [.inl (((m 5 i11 4) - 1) - v4)], m)) rfl ?_
                exact e_mask (L' := [some (.inr (.inr (some (4, 0)))), some (.inl a1), none, some (.inl a3), some (.inl v2), none, some (.inl v4), none]) rfl (hk7 _ hres)
/-- GlassThreads$Scene.isWhole()Z -/
def f_X6_isWhole  (m : mm_M) : Option (Int32) :=
(mm_b1 (mm_loop (σ := Int32) (ρ := (Unit) ⊕ (Unit)) (fun (v2 : Int32) => (if (m 4 0 4) = -1 then (none) else (mm_let (m 4 0 4).toNatClampNeg fun i3 =>
if (m 5 i3 4) ≤ v2 then (some (.inr (.inr ())))
else (if mm_in v2 24 then (
if (m 34 0 v2.toNatClampNeg) = (-1) then (mm_let (v2 + 1) fun v4 =>
some (.inl v4))
else (some (.inr (.inl ())))) else none)) : Option ((Int32) ⊕ ((Unit) ⊕ (Unit))))) mm_fu 0) fun t => match t with
| .inl _ => some 0
| .inr _ => some 1)
set_option maxHeartbeats 4000000 in
set_option maxRecDepth 100000 in
theorem k_X6_isWhole (d : Nat) (hd : 0 ≤ d)  (m : mm_M) (r : Int32) (hres : f_X6_isWhole  m = some r) : mm_X d 98 [.inr (.inr (some (4, 0)))] m (.inl (some (.inl r)), m, 0, 0) := by
  unfold f_X6_isWhole at hres
  show mm_E d 98 (0, [some (.inr (.inr (some (4, 0)))), none], [], m) (.inl (some (.inl r)), m, 0, 0)
  refine e_steps 2 (s' := (2, [some (.inr (.inr (some (4, 0)))), some (.inl 0)], [], m)) rfl ?_
  refine e_mask (L' := [some (.inr (.inr (some (4, 0)))), some (.inl 0)]) rfl ?_
  refine e_loopb (φ := fun s => (2, [some (.inr (.inr (some (4, 0)))), some (.inl s)], [], m)) (K := fun t => match t with | .inl t => mm_E d 98 (23, [none, none], [], m) (.inl (some (.inl r)), m, 0, 0) | .inr t => mm_E d 98 (31, [none, none], [], m) (.inl (some (.inl r)), m, 0, 0)) hres (fun t hres => ?_) (fun v2 ol1 hres hcl1 hxl1 => ?_)
  · rcases t with _ | _
    · show mm_E d 98 (23, [none, none], [], m) (.inl (some (.inl r)), m, 0, 0)
      refine e_steps 1 (s' := (24, [none, none], [.inl 0], m)) rfl ?_
      obtain rfl := Option.some.inj hres
      exact e_ret rfl rfl
    · show mm_E d 98 (31, [none, none], [], m) (.inl (some (.inl r)), m, 0, 0)
      refine e_steps 1 (s' := (32, [none, none], [.inl 1], m)) rfl ?_
      obtain rfl := Option.some.inj hres
      exact e_ret rfl rfl
  · show mm_E d 98 (2, [some (.inr (.inr (some (4, 0)))), some (.inl v2)], [], m) (.inl (some (.inl r)), m, 0, 0)
    refine e_steps 2 (s' := (4, [some (.inr (.inr (some (4, 0)))), some (.inl v2)], [.inr (.inr (some (4, 0))), .inl v2], m)) rfl ?_
    refine e_if (s1 := (7, [some (.inr (.inr (some (4, 0)))), some (.inl v2)], [.inr (.inr none), .inl v2], m)) (s2 := (7, [some (.inr (.inr (some (4, 0)))), some (.inl v2)], [.inr (.inr (some (5, (m 4 0 4).toNatClampNeg))), .inl v2], m)) rfl hres (fun hc hres => ?_) (fun hc hres => ?_)
    · cases hres
    · refine e_let (fun (i3 : Nat) => (7, [some (.inr (.inr (some (4, 0)))), some (.inl v2)], [.inr (.inr (some (5, i3))), .inl v2], m)) hres (fun i3 hres => ?_)
      refine e_steps 1 (s' := (10, [some (.inr (.inr (some (4, 0)))), some (.inl v2)], [.inl (m 5 i3 4), .inl v2], m)) rfl ?_
      refine e_if (s1 := (31, [some (.inr (.inr (some (4, 0)))), some (.inl v2)], [], m)) (s2 := (13, [some (.inr (.inr (some (4, 0)))), some (.inl v2)], [], m)) rfl hres (fun hc hres => ?_) (fun hc hres => ?_)
      · obtain rfl := Option.some.inj hres
        exact e_mask (L' := [none, none]) rfl (hxl1 _ rfl)
      · refine e_steps 3 (s' := (18, [some (.inr (.inr (some (4, 0)))), some (.inl v2)], [.inl v2, .inr (.inr (some (34, 0)))], m)) rfl ?_
        refine e_gd (s1 := (19, [some (.inr (.inr (some (4, 0)))), some (.inl v2)], [.inl (m 34 0 v2.toNatClampNeg)], m)) rfl hres (fun hc hres => ?_)
        refine e_steps 1 (s' := (20, [some (.inr (.inr (some (4, 0)))), some (.inl v2)], [.inl (-1), .inl (m 34 0 v2.toNatClampNeg)], m)) rfl ?_
        refine e_if (s1 := (25, [some (.inr (.inr (some (4, 0)))), some (.inl v2)], [], m)) (s2 := (23, [some (.inr (.inr (some (4, 0)))), some (.inl v2)], [], m)) rfl hres (fun hc hres => ?_) (fun hc hres => ?_)
        · refine e_steps 1 (s' := (28, [some (.inr (.inr (some (4, 0)))), some (.inl (v2 + 1))], [], m)) rfl ?_
          refine e_let (fun (v4 : Int32) => (28, [some (.inr (.inr (some (4, 0)))), some (.inl v4)], [], m)) hres (fun v4 hres => ?_)
          refine e_steps 1 (s' := (2, [some (.inr (.inr (some (4, 0)))), some (.inl v4)], [], m)) rfl ?_
          obtain rfl := Option.some.inj hres
          exact e_mask (L' := [some (.inr (.inr (some (4, 0)))), some (.inl v4)]) rfl (hcl1 _ rfl)
        · obtain rfl := Option.some.inj hres
          exact e_mask (L' := [none, none]) rfl (hxl1 _ rfl)
/-- GlassThreads$Scene.noiseOfAll()I -/
def f_X6_noiseOfAll  (m : mm_M) : Option (Int32) :=
(mm_b1 (mm_loop (σ := Int32 × Int32) (ρ := (Int32)) (fun (s : Int32 × Int32) => match s with
| (v2, v3) => (if (m 4 0 4) = -1 then (none) else (mm_let (m 4 0 4).toNatClampNeg fun i4 =>
if (m 5 i4 4) ≤ v3 then (some (.inr v2))
else (if (m 4 0 4) = -1 then (none) else (mm_let (m 4 0 4).toNatClampNeg fun i5 =>
if mm_in v3 24 then (
if (m 37 i5 v3.toNatClampNeg) ≠ 3 then (mm_let (v3 + 1) fun v6 =>
some (.inl (v2, v6)))
else (if mm_in v3 24 then (
if (m 35 0 v3.toNatClampNeg) ≠ 0 then (mm_let (v3 + 1) fun v7 =>
some (.inl (v2, v7)))
else (if mm_in v3 24 then (
mm_let (v2 + (m 36 0 v3.toNatClampNeg)) fun v8 =>
mm_let (v3 + 1) fun v9 =>
some (.inl (v8, v9))) else none)) else none)) else none))) : Option ((Int32 × Int32) ⊕ ((Int32))))) mm_fu (0, 0)) fun v10 =>
some v10)
set_option maxHeartbeats 4000000 in
set_option maxRecDepth 100000 in
theorem k_X6_noiseOfAll (d : Nat) (hd : 0 ≤ d)  (m : mm_M) (r : Int32) (hres : f_X6_noiseOfAll  m = some r) : mm_X d 99 [.inr (.inr (some (4, 0)))] m (.inl (some (.inl r)), m, 0, 0) := by
  unfold f_X6_noiseOfAll at hres
  show mm_E d 99 (0, [some (.inr (.inr (some (4, 0)))), none, none], [], m) (.inl (some (.inl r)), m, 0, 0)
  refine e_steps 4 (s' := (4, [some (.inr (.inr (some (4, 0)))), some (.inl 0), some (.inl 0)], [], m)) rfl ?_
  refine e_mask (L' := [some (.inr (.inr (some (4, 0)))), some (.inl 0), some (.inl 0)]) rfl ?_
  refine e_loopb (φ := fun s => (4, [some (.inr (.inr (some (4, 0)))), some (.inl s.1), some (.inl s.2)], [], m)) (K := fun t => mm_E d 99 (52, [none, some (.inl t), none], [], m) (.inl (some (.inl r)), m, 0, 0)) hres (fun v10 hres => ?_) (fun s ol1 hres hcl1 hxl1 => ?_)
  · show mm_E d 99 (52, [none, some (.inl v10), none], [], m) (.inl (some (.inl r)), m, 0, 0)
    refine e_steps 1 (s' := (53, [none, some (.inl v10), none], [.inl v10], m)) rfl ?_
    obtain rfl := Option.some.inj hres
    exact e_ret rfl rfl
  · obtain ⟨v2, v3⟩ := s
    show mm_E d 99 (4, [some (.inr (.inr (some (4, 0)))), some (.inl v2), some (.inl v3)], [], m) (.inl (some (.inl r)), m, 0, 0)
    refine e_steps 2 (s' := (6, [some (.inr (.inr (some (4, 0)))), some (.inl v2), some (.inl v3)], [.inr (.inr (some (4, 0))), .inl v3], m)) rfl ?_
    refine e_if (s1 := (9, [some (.inr (.inr (some (4, 0)))), some (.inl v2), some (.inl v3)], [.inr (.inr none), .inl v3], m)) (s2 := (9, [some (.inr (.inr (some (4, 0)))), some (.inl v2), some (.inl v3)], [.inr (.inr (some (5, (m 4 0 4).toNatClampNeg))), .inl v3], m)) rfl hres (fun hc hres => ?_) (fun hc hres => ?_)
    · cases hres
    · refine e_let (fun (i4 : Nat) => (9, [some (.inr (.inr (some (4, 0)))), some (.inl v2), some (.inl v3)], [.inr (.inr (some (5, i4))), .inl v3], m)) hres (fun i4 hres => ?_)
      refine e_steps 1 (s' := (12, [some (.inr (.inr (some (4, 0)))), some (.inl v2), some (.inl v3)], [.inl (m 5 i4 4), .inl v3], m)) rfl ?_
      refine e_if (s1 := (52, [some (.inr (.inr (some (4, 0)))), some (.inl v2), some (.inl v3)], [], m)) (s2 := (15, [some (.inr (.inr (some (4, 0)))), some (.inl v2), some (.inl v3)], [], m)) rfl hres (fun hc hres => ?_) (fun hc hres => ?_)
      · obtain rfl := Option.some.inj hres
        exact e_mask (L' := [none, some (.inl v2), none]) rfl (hxl1 _ rfl)
      · refine e_steps 1 (s' := (16, [some (.inr (.inr (some (4, 0)))), some (.inl v2), some (.inl v3)], [.inr (.inr (some (4, 0)))], m)) rfl ?_
        refine e_if (s1 := (19, [some (.inr (.inr (some (4, 0)))), some (.inl v2), some (.inl v3)], [.inr (.inr none)], m)) (s2 := (19, [some (.inr (.inr (some (4, 0)))), some (.inl v2), some (.inl v3)], [.inr (.inr (some (5, (m 4 0 4).toNatClampNeg)))], m)) rfl hres (fun hc hres => ?_) (fun hc hres => ?_)
        · cases hres
        · refine e_let (fun (i5 : Nat) => (19, [some (.inr (.inr (some (4, 0)))), some (.inl v2), some (.inl v3)], [.inr (.inr (some (5, i5)))], m)) hres (fun i5 hres => ?_)
          refine e_steps 2 (s' := (23, [some (.inr (.inr (some (4, 0)))), some (.inl v2), some (.inl v3)], [.inl v3, .inr (.inr (some (37, i5)))], m)) rfl ?_
          refine e_gd (s1 := (24, [some (.inr (.inr (some (4, 0)))), some (.inl v2), some (.inl v3)], [.inl (m 37 i5 v3.toNatClampNeg)], m)) rfl hres (fun hc hres => ?_)
          refine e_steps 1 (s' := (25, [some (.inr (.inr (some (4, 0)))), some (.inl v2), some (.inl v3)], [.inl 3, .inl (m 37 i5 v3.toNatClampNeg)], m)) rfl ?_
          refine e_if (s1 := (46, [some (.inr (.inr (some (4, 0)))), some (.inl v2), some (.inl v3)], [], m)) (s2 := (28, [some (.inr (.inr (some (4, 0)))), some (.inl v2), some (.inl v3)], [], m)) rfl hres (fun hc hres => ?_) (fun hc hres => ?_)
          · refine e_steps 1 (s' := (49, [some (.inr (.inr (some (4, 0)))), some (.inl v2), some (.inl (v3 + 1))], [], m)) rfl ?_
            refine e_let (fun (v6 : Int32) => (49, [some (.inr (.inr (some (4, 0)))), some (.inl v2), some (.inl v6)], [], m)) hres (fun v6 hres => ?_)
            refine e_steps 1 (s' := (4, [some (.inr (.inr (some (4, 0)))), some (.inl v2), some (.inl v6)], [], m)) rfl ?_
            obtain rfl := Option.some.inj hres
            exact e_mask (L' := [some (.inr (.inr (some (4, 0)))), some (.inl v2), some (.inl v6)]) rfl (hcl1 _ rfl)
          · refine e_steps 3 (s' := (33, [some (.inr (.inr (some (4, 0)))), some (.inl v2), some (.inl v3)], [.inl v3, .inr (.inr (some (35, 0)))], m)) rfl ?_
            refine e_gd (s1 := (34, [some (.inr (.inr (some (4, 0)))), some (.inl v2), some (.inl v3)], [.inl (m 35 0 v3.toNatClampNeg)], m)) rfl hres (fun hc hres => ?_)
            refine e_if (s1 := (46, [some (.inr (.inr (some (4, 0)))), some (.inl v2), some (.inl v3)], [], m)) (s2 := (37, [some (.inr (.inr (some (4, 0)))), some (.inl v2), some (.inl v3)], [], m)) rfl hres (fun hc hres => ?_) (fun hc hres => ?_)
            · refine e_steps 1 (s' := (49, [some (.inr (.inr (some (4, 0)))), some (.inl v2), some (.inl (v3 + 1))], [], m)) rfl ?_
              refine e_let (fun (v7 : Int32) => (49, [some (.inr (.inr (some (4, 0)))), some (.inl v2), some (.inl v7)], [], m)) hres (fun v7 hres => ?_)
              refine e_steps 1 (s' := (4, [some (.inr (.inr (some (4, 0)))), some (.inl v2), some (.inl v7)], [], m)) rfl ?_
              obtain rfl := Option.some.inj hres
              exact e_mask (L' := [some (.inr (.inr (some (4, 0)))), some (.inl v2), some (.inl v7)]) rfl (hcl1 _ rfl)
            · refine e_steps 4 (s' := (43, [some (.inr (.inr (some (4, 0)))), some (.inl v2), some (.inl v3)], [.inl v3, .inr (.inr (some (36, 0))), .inl v2], m)) rfl ?_
              refine e_gd (s1 := (44, [some (.inr (.inr (some (4, 0)))), some (.inl v2), some (.inl v3)], [.inl (m 36 0 v3.toNatClampNeg), .inl v2], m)) rfl hres (fun hc hres => ?_)
              refine e_steps 2 (s' := (46, [some (.inr (.inr (some (4, 0)))), some (.inl (v2 + (m 36 0 v3.toNatClampNeg))), some (.inl v3)], [], m)) rfl ?_
              refine e_let (fun (v8 : Int32) => (46, [some (.inr (.inr (some (4, 0)))), some (.inl v8), some (.inl v3)], [], m)) hres (fun v8 hres => ?_)
              refine e_steps 1 (s' := (49, [some (.inr (.inr (some (4, 0)))), some (.inl v8), some (.inl (v3 + 1))], [], m)) rfl ?_
              refine e_let (fun (v9 : Int32) => (49, [some (.inr (.inr (some (4, 0)))), some (.inl v8), some (.inl v9)], [], m)) hres (fun v9 hres => ?_)
              refine e_steps 1 (s' := (4, [some (.inr (.inr (some (4, 0)))), some (.inl v8), some (.inl v9)], [], m)) rfl ?_
              obtain rfl := Option.some.inj hres
              exact e_mask (L' := [some (.inr (.inr (some (4, 0)))), some (.inl v8), some (.inl v9)]) rfl (hcl1 _ rfl)
/-- GlassThreads$Scene.marginOf(II)I -/
def f_X6_marginOf (a1 : Int32) (a2 : Int32) (m : mm_M) : Option (Int32) :=
mm_b1 (f_X6_isWhole m) fun r1 =>
if r1 ≠ 0 then (if (m 4 0 4) = -1 then (none) else (mm_let (m 4 0 4).toNatClampNeg fun i2 =>
mm_b1 (f_X6_levelBehind ((m 5 i2 4) - 1) a1 0 m) fun r3 =>
mm_b1 (f_X6_noiseOfAll m) fun r4 =>
some ((r3 - a2) - r4)))
else (some (-1000000))
set_option maxHeartbeats 4000000 in
set_option maxRecDepth 100000 in
theorem k_X6_marginOf (d : Nat) (hd : 2 ≤ d) (a1 : Int32) (a2 : Int32) (m : mm_M) (r : Int32) (hres : f_X6_marginOf a1 a2 m = some r) : mm_X d 100 [.inr (.inr (some (4, 0))), .inl a1, .inl a2] m (.inl (some (.inl r)), m, 0, 0) := by
  unfold f_X6_marginOf at hres
  obtain ⟨d, rfl⟩ : ∃ e, d = e + 1 := ⟨d - 1, by omega⟩
  show mm_E (d + 1) 100 (0, [some (.inr (.inr (some (4, 0)))), some (.inl a1), some (.inl a2)], [], m) (.inl (some (.inl r)), m, 0, 0)
  refine e_steps 1 (s' := (1, [some (.inr (.inr (some (4, 0)))), some (.inl a1), some (.inl a2)], [.inr (.inr (some (4, 0)))], m)) rfl ?_
  obtain ⟨r1, hv, hres⟩ := mm_b1_some hres
  refine e_call0 (pc := 4) (L := [some (.inr (.inr (some (4, 0)))), some (.inl a1), some (.inl a2)]) (st := []) (m' := m) (v := some (.inl r1)) rfl (k_X6_isWhole d (by omega)  _ _ hv) ?_
  show mm_E (d + 1) 100 (4, [some (.inr (.inr (some (4, 0)))), some (.inl a1), some (.inl a2)], [.inl r1], m) (.inl (some (.inl r)), m, 0, 0)
  refine e_if (s1 := (10, [some (.inr (.inr (some (4, 0)))), some (.inl a1), some (.inl a2)], [], m)) (s2 := (7, [some (.inr (.inr (some (4, 0)))), some (.inl a1), some (.inl a2)], [], m)) rfl hres (fun hc hres => ?_) (fun hc hres => ?_)
  · refine e_steps 2 (s' := (12, [some (.inr (.inr (some (4, 0)))), some (.inl a1), some (.inl a2)], [.inr (.inr (some (4, 0))), .inr (.inr (some (4, 0)))], m)) rfl ?_
    refine e_if (s1 := (15, [some (.inr (.inr (some (4, 0)))), some (.inl a1), some (.inl a2)], [.inr (.inr none), .inr (.inr (some (4, 0)))], m)) (s2 := (15, [some (.inr (.inr (some (4, 0)))), some (.inl a1), some (.inl a2)], [.inr (.inr (some (5, (m 4 0 4).toNatClampNeg))), .inr (.inr (some (4, 0)))], m)) rfl hres (fun hc hres => ?_) (fun hc hres => ?_)
    · cases hres
    · refine e_let (fun (i2 : Nat) => (15, [some (.inr (.inr (some (4, 0)))), some (.inl a1), some (.inl a2)], [.inr (.inr (some (5, i2))), .inr (.inr (some (4, 0)))], m)) hres (fun i2 hres => ?_)
      refine e_steps 5 (s' := (22, [some (.inr (.inr (some (4, 0)))), some (.inl a1), some (.inl a2)], [.inl 0, .inl a1, .inl ((m 5 i2 4) - 1), .inr (.inr (some (4, 0)))], m)) rfl ?_
      obtain ⟨r3, hv, hres⟩ := mm_b1_some hres
      refine e_call0 (pc := 25) (L := [some (.inr (.inr (some (4, 0)))), some (.inl a1), some (.inl a2)]) (st := []) (m' := m) (v := some (.inl r3)) rfl (k_X6_levelBehind d (by omega) ((m 5 i2 4) - 1) a1 0 _ _ hv) ?_
      show mm_E (d + 1) 100 (25, [some (.inr (.inr (some (4, 0)))), some (.inl a1), some (.inl a2)], [.inl r3], m) (.inl (some (.inl r)), m, 0, 0)
      refine e_steps 3 (s' := (28, [some (.inr (.inr (some (4, 0)))), some (.inl a1), some (.inl a2)], [.inr (.inr (some (4, 0))), .inl (r3 - a2)], m)) rfl ?_
      obtain ⟨r4, hv, hres⟩ := mm_b1_some hres
      refine e_call0 (pc := 31) (L := [some (.inr (.inr (some (4, 0)))), some (.inl a1), some (.inl a2)]) (st := [.inl (r3 - a2)]) (m' := m) (v := some (.inl r4)) rfl (k_X6_noiseOfAll d (by omega)  _ _ hv) ?_
      show mm_E (d + 1) 100 (31, [some (.inr (.inr (some (4, 0)))), some (.inl a1), some (.inl a2)], [.inl r4, .inl (r3 - a2)], m) (.inl (some (.inl r)), m, 0, 0)
      refine e_steps 1 (s' := (32, [some (.inr (.inr (some (4, 0)))), some (.inl a1), some (.inl a2)], [.inl ((r3 - a2) - r4)], m)) rfl ?_
      obtain rfl := Option.some.inj hres
      exact e_ret rfl rfl
  · refine e_steps 1 (s' := (9, [some (.inr (.inr (some (4, 0)))), some (.inl a1), some (.inl a2)], [.inl (-1000000)], m)) rfl ?_
    obtain rfl := Option.some.inj hres
    exact e_ret rfl rfl
/-- GlassThreads$Diary.tell(IIIIII)I -/
def f_X0_tell (a1 : Int32) (a2 : Int32) (a3 : Int32) (a4 : Int32) (a5 : Int32) (a6 : Int32) (m : mm_M) : Option (Int32 × mm_M) :=
if (m 3 0 8) < 120 then (if mm_in (m 3 0 8) 120 then (
mm_let (mm_w m 25 0 ((m 3 0 8).toNatClampNeg) a1) fun m1 =>
if mm_in (m1 3 0 8) 120 then (
mm_let (mm_w m1 26 0 ((m1 3 0 8).toNatClampNeg) a2) fun m2 =>
if mm_in (m2 3 0 8) 120 then (
mm_let (mm_w m2 27 0 ((m2 3 0 8).toNatClampNeg) a3) fun m3 =>
if mm_in (m3 3 0 8) 120 then (
mm_let (mm_w m3 28 0 ((m3 3 0 8).toNatClampNeg) a4) fun m4 =>
if mm_in (m4 3 0 8) 120 then (
mm_let (mm_w m4 29 0 ((m4 3 0 8).toNatClampNeg) a5) fun m5 =>
if mm_in (m5 3 0 8) 120 then (
mm_let (mm_w m5 30 0 ((m5 3 0 8).toNatClampNeg) a6) fun m6 =>
if mm_in (m6 3 0 8) 120 then (
mm_let (mm_w m6 31 0 ((m6 3 0 8).toNatClampNeg) (-1)) fun m7 =>
mm_let (m7 3 0 8) fun v8 =>
(mm_b1 (mm_loop (σ := Int32 × mm_M) (ρ := (Int32 × mm_M)) (fun (s : Int32 × mm_M) => match s with
| (v10, m11) => (if v10 ≤ 0 then (some (.inr (v10, m11)))
else (if mm_in (v10 - 1) 120 then (
if mm_in (m11 32 0 (v10 - 1).toNatClampNeg) 120 then (
if (m11 29 0 (m11 32 0 (v10 - 1).toNatClampNeg).toNatClampNeg) ≤ a5 then (some (.inr (v10, m11)))
else (if mm_in (v10 - 1) 120 then (
if mm_in v10 120 then (
mm_let (mm_w m11 32 0 v10.toNatClampNeg (m11 32 0 (v10 - 1).toNatClampNeg)) fun m12 =>
mm_let (v10 + (-1)) fun v13 =>
some (.inl (v13, m12))) else none) else none)) else none) else none) : Option ((Int32 × mm_M) ⊕ ((Int32 × mm_M))))) mm_fu (v8, m7)) fun t => match t with
| (v14, m15) => if mm_in v14 120 then (
mm_let (mm_w m15 32 0 v14.toNatClampNeg (m15 3 0 8)) fun m16 =>
mm_let (mm_w m16 3 0 8 ((m16 3 0 8) + 1)) fun m17 =>
some (((m17 3 0 8) - 1), m17)) else none)) else none) else none) else none) else none) else none) else none) else none)
else (some ((-1), m))
set_option maxHeartbeats 4000000 in
set_option maxRecDepth 100000 in
theorem k_X0_tell (d : Nat) (hd : 0 ≤ d) (a1 : Int32) (a2 : Int32) (a3 : Int32) (a4 : Int32) (a5 : Int32) (a6 : Int32) (m : mm_M) (r : Int32 × mm_M) (hres : f_X0_tell a1 a2 a3 a4 a5 a6 m = some r) : mm_X d 89 [.inr (.inr (some (3, 0))), .inl a1, .inl a2, .inl a3, .inl a4, .inl a5, .inl a6] m (.inl (some (.inl r.1)), r.2, 0, 0) := by
  unfold f_X0_tell at hres
  show mm_E d 89 (0, [some (.inr (.inr (some (3, 0)))), some (.inl a1), some (.inl a2), some (.inl a3), some (.inl a4), some (.inl a5), some (.inl a6), none], [], m) (.inl (some (.inl r.1)), r.2, 0, 0)
  refine e_steps 3 (s' := (6, [some (.inr (.inr (some (3, 0)))), some (.inl a1), some (.inl a2), some (.inl a3), some (.inl a4), some (.inl a5), some (.inl a6), none], [.inl 120, .inl (m 3 0 8)], m)) rfl ?_
  refine e_if (s1 := (11, [some (.inr (.inr (some (3, 0)))), some (.inl a1), some (.inl a2), some (.inl a3), some (.inl a4), some (.inl a5), some (.inl a6), none], [], m)) (s2 := (9, [some (.inr (.inr (some (3, 0)))), some (.inl a1), some (.inl a2), some (.inl a3), some (.inl a4), some (.inl a5), some (.inl a6), none], [], m)) rfl hres (fun hc hres => ?_) (fun hc hres => ?_)
  · refine e_steps 5 (s' := (20, [some (.inr (.inr (some (3, 0)))), some (.inl a1), some (.inl a2), some (.inl a3), some (.inl a4), some (.inl a5), some (.inl a6), none], [.inl a1, .inl (m 3 0 8), .inr (.inr (some (25, 0)))], m)) rfl ?_
    refine e_gd (s1 := (21, [some (.inr (.inr (some (3, 0)))), some (.inl a1), some (.inl a2), some (.inl a3), some (.inl a4), some (.inl a5), some (.inl a6), none], [], (mm_w m 25 0 ((m 3 0 8).toNatClampNeg) a1))) rfl hres (fun hc hres => ?_)
    refine e_let (fun (m1 : mm_M) => (21, [some (.inr (.inr (some (3, 0)))), some (.inl a1), some (.inl a2), some (.inl a3), some (.inl a4), some (.inl a5), some (.inl a6), none], [], m1)) hres (fun m1 hres => ?_)
    refine e_steps 5 (s' := (30, [some (.inr (.inr (some (3, 0)))), some (.inl a1), some (.inl a2), some (.inl a3), some (.inl a4), some (.inl a5), some (.inl a6), none], [.inl a2, .inl (m1 3 0 8), .inr (.inr (some (26, 0)))], m1)) rfl ?_
    refine e_gd (s1 := (31, [some (.inr (.inr (some (3, 0)))), some (.inl a1), some (.inl a2), some (.inl a3), some (.inl a4), some (.inl a5), some (.inl a6), none], [], (mm_w m1 26 0 ((m1 3 0 8).toNatClampNeg) a2))) rfl hres (fun hc hres => ?_)
    refine e_let (fun (m2 : mm_M) => (31, [some (.inr (.inr (some (3, 0)))), some (.inl a1), some (.inl a2), some (.inl a3), some (.inl a4), some (.inl a5), some (.inl a6), none], [], m2)) hres (fun m2 hres => ?_)
    refine e_steps 5 (s' := (40, [some (.inr (.inr (some (3, 0)))), some (.inl a1), some (.inl a2), some (.inl a3), some (.inl a4), some (.inl a5), some (.inl a6), none], [.inl a3, .inl (m2 3 0 8), .inr (.inr (some (27, 0)))], m2)) rfl ?_
    refine e_gd (s1 := (41, [some (.inr (.inr (some (3, 0)))), some (.inl a1), some (.inl a2), some (.inl a3), some (.inl a4), some (.inl a5), some (.inl a6), none], [], (mm_w m2 27 0 ((m2 3 0 8).toNatClampNeg) a3))) rfl hres (fun hc hres => ?_)
    refine e_let (fun (m3 : mm_M) => (41, [some (.inr (.inr (some (3, 0)))), some (.inl a1), some (.inl a2), some (.inl a3), some (.inl a4), some (.inl a5), some (.inl a6), none], [], m3)) hres (fun m3 hres => ?_)
    refine e_steps 5 (s' := (51, [some (.inr (.inr (some (3, 0)))), some (.inl a1), some (.inl a2), some (.inl a3), some (.inl a4), some (.inl a5), some (.inl a6), none], [.inl a4, .inl (m3 3 0 8), .inr (.inr (some (28, 0)))], m3)) rfl ?_
    refine e_gd (s1 := (52, [some (.inr (.inr (some (3, 0)))), some (.inl a1), some (.inl a2), some (.inl a3), some (.inl a4), some (.inl a5), some (.inl a6), none], [], (mm_w m3 28 0 ((m3 3 0 8).toNatClampNeg) a4))) rfl hres (fun hc hres => ?_)
    refine e_let (fun (m4 : mm_M) => (52, [some (.inr (.inr (some (3, 0)))), some (.inl a1), some (.inl a2), some (.inl a3), some (.inl a4), some (.inl a5), some (.inl a6), none], [], m4)) hres (fun m4 hres => ?_)
    refine e_steps 5 (s' := (62, [some (.inr (.inr (some (3, 0)))), some (.inl a1), some (.inl a2), some (.inl a3), some (.inl a4), some (.inl a5), some (.inl a6), none], [.inl a5, .inl (m4 3 0 8), .inr (.inr (some (29, 0)))], m4)) rfl ?_
    refine e_gd (s1 := (63, [some (.inr (.inr (some (3, 0)))), some (.inl a1), some (.inl a2), some (.inl a3), some (.inl a4), some (.inl a5), some (.inl a6), none], [], (mm_w m4 29 0 ((m4 3 0 8).toNatClampNeg) a5))) rfl hres (fun hc hres => ?_)
    refine e_let (fun (m5 : mm_M) => (63, [some (.inr (.inr (some (3, 0)))), some (.inl a1), some (.inl a2), some (.inl a3), some (.inl a4), some (.inl a5), some (.inl a6), none], [], m5)) hres (fun m5 hres => ?_)
    refine e_steps 5 (s' := (73, [some (.inr (.inr (some (3, 0)))), some (.inl a1), some (.inl a2), some (.inl a3), some (.inl a4), some (.inl a5), some (.inl a6), none], [.inl a6, .inl (m5 3 0 8), .inr (.inr (some (30, 0)))], m5)) rfl ?_
    refine e_gd (s1 := (74, [some (.inr (.inr (some (3, 0)))), some (.inl a1), some (.inl a2), some (.inl a3), some (.inl a4), some (.inl a5), some (.inl a6), none], [], (mm_w m5 30 0 ((m5 3 0 8).toNatClampNeg) a6))) rfl hres (fun hc hres => ?_)
    refine e_let (fun (m6 : mm_M) => (74, [some (.inr (.inr (some (3, 0)))), some (.inl a1), some (.inl a2), some (.inl a3), some (.inl a4), some (.inl a5), some (.inl a6), none], [], m6)) hres (fun m6 hres => ?_)
    refine e_steps 5 (s' := (83, [some (.inr (.inr (some (3, 0)))), some (.inl a1), some (.inl a2), some (.inl a3), some (.inl a4), some (.inl a5), some (.inl a6), none], [.inl (-1), .inl (m6 3 0 8), .inr (.inr (some (31, 0)))], m6)) rfl ?_
    refine e_gd (s1 := (84, [some (.inr (.inr (some (3, 0)))), some (.inl a1), some (.inl a2), some (.inl a3), some (.inl a4), some (.inl a5), some (.inl a6), none], [], (mm_w m6 31 0 ((m6 3 0 8).toNatClampNeg) (-1)))) rfl hres (fun hc hres => ?_)
    refine e_let (fun (m7 : mm_M) => (84, [some (.inr (.inr (some (3, 0)))), some (.inl a1), some (.inl a2), some (.inl a3), some (.inl a4), some (.inl a5), some (.inl a6), none], [], m7)) hres (fun m7 hres => ?_)
    refine e_steps 3 (s' := (90, [some (.inr (.inr (some (3, 0)))), some (.inl a1), some (.inl a2), some (.inl a3), some (.inl a4), some (.inl a5), some (.inl a6), some (.inl (m7 3 0 8))], [], m7)) rfl ?_
    refine e_let (fun (v8 : Int32) => (90, [some (.inr (.inr (some (3, 0)))), some (.inl a1), some (.inl a2), some (.inl a3), some (.inl a4), some (.inl a5), some (.inl a6), some (.inl v8)], [], m7)) hres (fun v8 hres => ?_)
    refine e_mask (L' := [some (.inr (.inr (some (3, 0)))), none, none, none, none, some (.inl a5), none, some (.inl v8)]) rfl ?_
    refine e_loopb (φ := fun s => (90, [some (.inr (.inr (some (3, 0)))), none, none, none, none, some (.inl a5), none, some (.inl s.1)], [], s.2)) (K := fun t => mm_E d 89 (136, [some (.inr (.inr (some (3, 0)))), none, none, none, none, none, none, some (.inl t.1)], [], t.2) (.inl (some (.inl r.1)), r.2, 0, 0)) hres (fun t hres => ?_) (fun s ol9 hres hcl9 hxl9 => ?_)
    · obtain ⟨v14, m15⟩ := t
      show mm_E d 89 (136, [some (.inr (.inr (some (3, 0)))), none, none, none, none, none, none, some (.inl v14)], [], m15) (.inl (some (.inl r.1)), r.2, 0, 0)
      refine e_steps 5 (s' := (146, [some (.inr (.inr (some (3, 0)))), none, none, none, none, none, none, some (.inl v14)], [.inl (m15 3 0 8), .inl v14, .inr (.inr (some (32, 0)))], m15)) rfl ?_
      refine e_gd (s1 := (147, [some (.inr (.inr (some (3, 0)))), none, none, none, none, none, none, some (.inl v14)], [], (mm_w m15 32 0 v14.toNatClampNeg (m15 3 0 8)))) rfl hres (fun hc hres => ?_)
      refine e_let (fun (m16 : mm_M) => (147, [some (.inr (.inr (some (3, 0)))), none, none, none, none, none, none, some (.inl v14)], [], m16)) hres (fun m16 hres => ?_)
      refine e_steps 6 (s' := (157, [some (.inr (.inr (some (3, 0)))), none, none, none, none, none, none, some (.inl v14)], [], (mm_w m16 3 0 8 ((m16 3 0 8) + 1)))) rfl ?_
      refine e_let (fun (m17 : mm_M) => (157, [some (.inr (.inr (some (3, 0)))), none, none, none, none, none, none, some (.inl v14)], [], m17)) hres (fun m17 hres => ?_)
      refine e_steps 4 (s' := (163, [some (.inr (.inr (some (3, 0)))), none, none, none, none, none, none, some (.inl v14)], [.inl ((m17 3 0 8) - 1)], m17)) rfl ?_
      obtain rfl := Option.some.inj hres
      exact e_ret rfl rfl
    · obtain ⟨v10, m11⟩ := s
      show mm_E d 89 (90, [some (.inr (.inr (some (3, 0)))), none, none, none, none, some (.inl a5), none, some (.inl v10)], [], m11) (.inl (some (.inl r.1)), r.2, 0, 0)
      refine e_steps 1 (s' := (92, [some (.inr (.inr (some (3, 0)))), none, none, none, none, some (.inl a5), none, some (.inl v10)], [.inl v10], m11)) rfl ?_
      refine e_if (s1 := (136, [some (.inr (.inr (some (3, 0)))), none, none, none, none, some (.inl a5), none, some (.inl v10)], [], m11)) (s2 := (95, [some (.inr (.inr (some (3, 0)))), none, none, none, none, some (.inl a5), none, some (.inl v10)], [], m11)) rfl hres (fun hc hres => ?_) (fun hc hres => ?_)
      · obtain rfl := Option.some.inj hres
        exact e_mask (L' := [some (.inr (.inr (some (3, 0)))), none, none, none, none, none, none, some (.inl v10)]) rfl (hxl9 _ rfl)
      · refine e_steps 7 (s' := (107, [some (.inr (.inr (some (3, 0)))), none, none, none, none, some (.inl a5), none, some (.inl v10)], [.inl (v10 - 1), .inr (.inr (some (32, 0))), .inr (.inr (some (29, 0)))], m11)) rfl ?_
        refine e_gd (s1 := (108, [some (.inr (.inr (some (3, 0)))), none, none, none, none, some (.inl a5), none, some (.inl v10)], [.inl (m11 32 0 (v10 - 1).toNatClampNeg), .inr (.inr (some (29, 0)))], m11)) rfl hres (fun hc hres => ?_)
        refine e_gd (s1 := (109, [some (.inr (.inr (some (3, 0)))), none, none, none, none, some (.inl a5), none, some (.inl v10)], [.inl (m11 29 0 (m11 32 0 (v10 - 1).toNatClampNeg).toNatClampNeg)], m11)) rfl hres (fun hc hres => ?_)
        refine e_steps 1 (s' := (111, [some (.inr (.inr (some (3, 0)))), none, none, none, none, some (.inl a5), none, some (.inl v10)], [.inl a5, .inl (m11 29 0 (m11 32 0 (v10 - 1).toNatClampNeg).toNatClampNeg)], m11)) rfl ?_
        refine e_if (s1 := (136, [some (.inr (.inr (some (3, 0)))), none, none, none, none, some (.inl a5), none, some (.inl v10)], [], m11)) (s2 := (114, [some (.inr (.inr (some (3, 0)))), none, none, none, none, some (.inl a5), none, some (.inl v10)], [], m11)) rfl hres (fun hc hres => ?_) (fun hc hres => ?_)
        · obtain rfl := Option.some.inj hres
          exact e_mask (L' := [some (.inr (.inr (some (3, 0)))), none, none, none, none, none, none, some (.inl v10)]) rfl (hxl9 _ rfl)
        · refine e_steps 8 (s' := (128, [some (.inr (.inr (some (3, 0)))), none, none, none, none, some (.inl a5), none, some (.inl v10)], [.inl (v10 - 1), .inr (.inr (some (32, 0))), .inl v10, .inr (.inr (some (32, 0)))], m11)) rfl ?_
          refine e_gd (s1 := (129, [some (.inr (.inr (some (3, 0)))), none, none, none, none, some (.inl a5), none, some (.inl v10)], [.inl (m11 32 0 (v10 - 1).toNatClampNeg), .inl v10, .inr (.inr (some (32, 0)))], m11)) rfl hres (fun hc hres => ?_)
          refine e_gd (s1 := (130, [some (.inr (.inr (some (3, 0)))), none, none, none, none, some (.inl a5), none, some (.inl v10)], [], (mm_w m11 32 0 v10.toNatClampNeg (m11 32 0 (v10 - 1).toNatClampNeg)))) rfl hres (fun hc hres => ?_)
          refine e_let (fun (m12 : mm_M) => (130, [some (.inr (.inr (some (3, 0)))), none, none, none, none, some (.inl a5), none, some (.inl v10)], [], m12)) hres (fun m12 hres => ?_)
          refine e_steps 1 (s' := (133, [some (.inr (.inr (some (3, 0)))), none, none, none, none, some (.inl a5), none, some (.inl (v10 + (-1)))], [], m12)) rfl ?_
          refine e_let (fun (v13 : Int32) => (133, [some (.inr (.inr (some (3, 0)))), none, none, none, none, some (.inl a5), none, some (.inl v13)], [], m12)) hres (fun v13 hres => ?_)
          refine e_steps 1 (s' := (90, [some (.inr (.inr (some (3, 0)))), none, none, none, none, some (.inl a5), none, some (.inl v13)], [], m12)) rfl ?_
          obtain rfl := Option.some.inj hres
          exact e_mask (L' := [some (.inr (.inr (some (3, 0)))), none, none, none, none, some (.inl a5), none, some (.inl v13)]) rfl (hcl9 _ rfl)
  · refine e_steps 1 (s' := (10, [some (.inr (.inr (some (3, 0)))), some (.inl a1), some (.inl a2), some (.inl a3), some (.inl a4), some (.inl a5), some (.inl a6), none], [.inl (-1)], m)) rfl ?_
    obtain rfl := Option.some.inj hres
    exact e_ret rfl rfl
/-- GlassThreads$Diary.takeBack(II)Z -/
def f_X0_takeBack (a1 : Int32) (a2 : Int32) (m : mm_M) : Option (Int32 × mm_M) :=
if mm_in a1 120 then (
if (m 31 0 a1.toNatClampNeg) = (-1) then (if mm_in a1 120 then (
mm_let (mm_w m 31 0 a1.toNatClampNeg a2) fun m1 =>
some (1, m1)) else none)
else (some (0, m))) else none
set_option maxHeartbeats 4000000 in
set_option maxRecDepth 100000 in
theorem k_X0_takeBack (d : Nat) (hd : 0 ≤ d) (a1 : Int32) (a2 : Int32) (m : mm_M) (r : Int32 × mm_M) (hres : f_X0_takeBack a1 a2 m = some r) : mm_X d 90 [.inr (.inr (some (3, 0))), .inl a1, .inl a2] m (.inl (some (.inl r.1)), r.2, 0, 0) := by
  unfold f_X0_takeBack at hres
  show mm_E d 90 (0, [some (.inr (.inr (some (3, 0)))), some (.inl a1), some (.inl a2)], [], m) (.inl (some (.inl r.1)), r.2, 0, 0)
  refine e_steps 3 (s' := (5, [some (.inr (.inr (some (3, 0)))), some (.inl a1), some (.inl a2)], [.inl a1, .inr (.inr (some (31, 0)))], m)) rfl ?_
  refine e_gd (s1 := (6, [some (.inr (.inr (some (3, 0)))), some (.inl a1), some (.inl a2)], [.inl (m 31 0 a1.toNatClampNeg)], m)) rfl hres (fun hc hres => ?_)
  refine e_steps 1 (s' := (7, [some (.inr (.inr (some (3, 0)))), some (.inl a1), some (.inl a2)], [.inl (-1), .inl (m 31 0 a1.toNatClampNeg)], m)) rfl ?_
  refine e_if (s1 := (12, [some (.inr (.inr (some (3, 0)))), some (.inl a1), some (.inl a2)], [], m)) (s2 := (10, [some (.inr (.inr (some (3, 0)))), some (.inl a1), some (.inl a2)], [], m)) rfl hres (fun hc hres => ?_) (fun hc hres => ?_)
  · refine e_steps 4 (s' := (18, [some (.inr (.inr (some (3, 0)))), some (.inl a1), some (.inl a2)], [.inl a2, .inl a1, .inr (.inr (some (31, 0)))], m)) rfl ?_
    refine e_gd (s1 := (19, [some (.inr (.inr (some (3, 0)))), some (.inl a1), some (.inl a2)], [], (mm_w m 31 0 a1.toNatClampNeg a2))) rfl hres (fun hc hres => ?_)
    refine e_let (fun (m1 : mm_M) => (19, [some (.inr (.inr (some (3, 0)))), some (.inl a1), some (.inl a2)], [], m1)) hres (fun m1 hres => ?_)
    refine e_steps 1 (s' := (20, [some (.inr (.inr (some (3, 0)))), some (.inl a1), some (.inl a2)], [.inl 1], m1)) rfl ?_
    obtain rfl := Option.some.inj hres
    exact e_ret rfl rfl
  · refine e_steps 1 (s' := (11, [some (.inr (.inr (some (3, 0)))), some (.inl a1), some (.inl a2)], [.inl 0], m)) rfl ?_
    obtain rfl := Option.some.inj hres
    exact e_ret rfl rfl
/-- GlassThreads$Diary.isKnown(II)Z -/
def f_X0_isKnown (a1 : Int32) (a2 : Int32) (m : mm_M) : Option (Int32) :=
if mm_in a1 120 then (
if a2 < (m 30 0 a1.toNatClampNeg) then (some 0)
else (if mm_in a1 120 then (
if (m 31 0 a1.toNatClampNeg) = (-1) then (some 1)
else (if mm_in a1 120 then (
if (m 31 0 a1.toNatClampNeg) ≤ a2 then (some 0)
else (some 1)) else none)) else none)) else none
set_option maxHeartbeats 4000000 in
set_option maxRecDepth 100000 in
theorem k_X0_isKnown (d : Nat) (hd : 0 ≤ d) (a1 : Int32) (a2 : Int32) (m : mm_M) (r : Int32) (hres : f_X0_isKnown a1 a2 m = some r) : mm_X d 92 [.inr (.inr (some (3, 0))), .inl a1, .inl a2] m (.inl (some (.inl r)), m, 0, 0) := by
  unfold f_X0_isKnown at hres
  show mm_E d 92 (0, [some (.inr (.inr (some (3, 0)))), some (.inl a1), some (.inl a2)], [], m) (.inl (some (.inl r)), m, 0, 0)
  refine e_steps 3 (s' := (5, [some (.inr (.inr (some (3, 0)))), some (.inl a1), some (.inl a2)], [.inl a1, .inr (.inr (some (30, 0)))], m)) rfl ?_
  refine e_gd (s1 := (6, [some (.inr (.inr (some (3, 0)))), some (.inl a1), some (.inl a2)], [.inl (m 30 0 a1.toNatClampNeg)], m)) rfl hres (fun hc hres => ?_)
  refine e_steps 1 (s' := (7, [some (.inr (.inr (some (3, 0)))), some (.inl a1), some (.inl a2)], [.inl a2, .inl (m 30 0 a1.toNatClampNeg)], m)) rfl ?_
  refine e_if (s1 := (34, [some (.inr (.inr (some (3, 0)))), some (.inl a1), some (.inl a2)], [], m)) (s2 := (10, [some (.inr (.inr (some (3, 0)))), some (.inl a1), some (.inl a2)], [], m)) rfl hres (fun hc hres => ?_) (fun hc hres => ?_)
  · refine e_mask (L' := [none, none, none]) rfl ?_
    refine e_steps 1 (s' := (35, [none, none, none], [.inl 0], m)) rfl ?_
    obtain rfl := Option.some.inj hres
    exact e_ret rfl rfl
  · refine e_steps 3 (s' := (15, [some (.inr (.inr (some (3, 0)))), some (.inl a1), some (.inl a2)], [.inl a1, .inr (.inr (some (31, 0)))], m)) rfl ?_
    refine e_gd (s1 := (16, [some (.inr (.inr (some (3, 0)))), some (.inl a1), some (.inl a2)], [.inl (m 31 0 a1.toNatClampNeg)], m)) rfl hres (fun hc hres => ?_)
    refine e_steps 1 (s' := (17, [some (.inr (.inr (some (3, 0)))), some (.inl a1), some (.inl a2)], [.inl (-1), .inl (m 31 0 a1.toNatClampNeg)], m)) rfl ?_
    refine e_if (s1 := (30, [some (.inr (.inr (some (3, 0)))), some (.inl a1), some (.inl a2)], [], m)) (s2 := (20, [some (.inr (.inr (some (3, 0)))), some (.inl a1), some (.inl a2)], [], m)) rfl hres (fun hc hres => ?_) (fun hc hres => ?_)
    · refine e_mask (L' := [none, none, none]) rfl ?_
      refine e_steps 2 (s' := (35, [none, none, none], [.inl 1], m)) rfl ?_
      obtain rfl := Option.some.inj hres
      exact e_ret rfl rfl
    · refine e_steps 3 (s' := (25, [some (.inr (.inr (some (3, 0)))), some (.inl a1), some (.inl a2)], [.inl a1, .inr (.inr (some (31, 0)))], m)) rfl ?_
      refine e_gd (s1 := (26, [some (.inr (.inr (some (3, 0)))), some (.inl a1), some (.inl a2)], [.inl (m 31 0 a1.toNatClampNeg)], m)) rfl hres (fun hc hres => ?_)
      refine e_steps 1 (s' := (27, [some (.inr (.inr (some (3, 0)))), some (.inl a1), some (.inl a2)], [.inl a2, .inl (m 31 0 a1.toNatClampNeg)], m)) rfl ?_
      refine e_if (s1 := (34, [some (.inr (.inr (some (3, 0)))), some (.inl a1), some (.inl a2)], [], m)) (s2 := (30, [some (.inr (.inr (some (3, 0)))), some (.inl a1), some (.inl a2)], [], m)) rfl hres (fun hc hres => ?_) (fun hc hres => ?_)
      · refine e_mask (L' := [none, none, none]) rfl ?_
        refine e_steps 1 (s' := (35, [none, none, none], [.inl 0], m)) rfl ?_
        obtain rfl := Option.some.inj hres
        exact e_ret rfl rfl
      · refine e_mask (L' := [none, none, none]) rfl ?_
        refine e_steps 2 (s' := (35, [none, none, none], [.inl 1], m)) rfl ?_
        obtain rfl := Option.some.inj hres
        exact e_ret rfl rfl
/-- GlassThreads$Diary.playInto(LGlassThreads$Scene;III)V -/
def f_X0_playInto (a2 : Int32) (a3 : Int32) (a4 : Int32) (m : mm_M) : Option (mm_M) :=
(mm_b1 (mm_loop (σ := Int32 × mm_M) (ρ := (mm_M)) (fun (s : Int32 × mm_M) => match s with
| (v2, m3) => (if (m3 3 0 8) ≤ v2 then (some (.inr m3))
else (if mm_in v2 120 then (
mm_let (m3 32 0 v2.toNatClampNeg) fun v4 =>
if mm_in v4 120 then (
if (m3 26 0 v4.toNatClampNeg) ≠ a2 then (mm_let (v2 + 1) fun v5 =>
some (.inl (v5, m3)))
else (if mm_in v4 120 then (
if a3 < (m3 29 0 v4.toNatClampNeg) then (mm_let (v2 + 1) fun v6 =>
some (.inl (v6, m3)))
else (mm_b1 (f_X0_isKnown v4 a4 m3) fun r7 =>
if r7 = 0 then (mm_let (v2 + 1) fun v8 =>
some (.inl (v8, m3)))
else (if mm_in v4 120 then (
if mm_in v4 120 then (
if mm_in v4 120 then (
mm_b1 (f_X6_undergo (m3 25 0 v4.toNatClampNeg) (m3 27 0 v4.toNatClampNeg) (m3 28 0 v4.toNatClampNeg) m3) fun m10 =>
mm_let (v2 + 1) fun v11 =>
some (.inl (v11, m10))) else none) else none) else none))) else none)) else none) else none) : Option ((Int32 × mm_M) ⊕ ((mm_M))))) mm_fu (0, m)) fun m12 =>
some m12)
set_option maxHeartbeats 4000000 in
set_option maxRecDepth 100000 in
theorem k_X0_playInto (d : Nat) (hd : 1 ≤ d) (a2 : Int32) (a3 : Int32) (a4 : Int32) (m : mm_M) (r : mm_M) (hres : f_X0_playInto a2 a3 a4 m = some r) : mm_X d 91 [.inr (.inr (some (3, 0))), .inr (.inr (some (4, 0))), .inl a2, .inl a3, .inl a4] m (.inl none, r, 0, 0) := by
  unfold f_X0_playInto at hres
  obtain ⟨d, rfl⟩ : ∃ e, d = e + 1 := ⟨d - 1, by omega⟩
  show mm_E (d + 1) 91 (0, [some (.inr (.inr (some (3, 0)))), some (.inr (.inr (some (4, 0)))), some (.inl a2), some (.inl a3), some (.inl a4), none, none], [], m) (.inl none, r, 0, 0)
  refine e_steps 2 (s' := (3, [some (.inr (.inr (some (3, 0)))), some (.inr (.inr (some (4, 0)))), some (.inl a2), some (.inl a3), some (.inl a4), some (.inl 0), none], [], m)) rfl ?_
  refine e_mask (L' := [some (.inr (.inr (some (3, 0)))), some (.inr (.inr (some (4, 0)))), some (.inl a2), some (.inl a3), some (.inl a4), some (.inl 0), none]) rfl ?_
  refine e_loopb (φ := fun s => (3, [some (.inr (.inr (some (3, 0)))), some (.inr (.inr (some (4, 0)))), some (.inl a2), some (.inl a3), some (.inl a4), some (.inl s.1), none], [], s.2)) (K := fun t => mm_E (d + 1) 91 (85, [none, none, none, none, none, none, none], [], t) (.inl none, r, 0, 0)) hres (fun m12 hres => ?_) (fun s ol1 hres hcl1 hxl1 => ?_)
  · show mm_E (d + 1) 91 (85, [none, none, none, none, none, none, none], [], m12) (.inl none, r, 0, 0)
    obtain rfl := Option.some.inj hres
    exact e_ret rfl rfl
  · obtain ⟨v2, m3⟩ := s
    show mm_E (d + 1) 91 (3, [some (.inr (.inr (some (3, 0)))), some (.inr (.inr (some (4, 0)))), some (.inl a2), some (.inl a3), some (.inl a4), some (.inl v2), none], [], m3) (.inl none, r, 0, 0)
    refine e_steps 3 (s' := (9, [some (.inr (.inr (some (3, 0)))), some (.inr (.inr (some (4, 0)))), some (.inl a2), some (.inl a3), some (.inl a4), some (.inl v2), none], [.inl (m3 3 0 8), .inl v2], m3)) rfl ?_
    refine e_if (s1 := (85, [some (.inr (.inr (some (3, 0)))), some (.inr (.inr (some (4, 0)))), some (.inl a2), some (.inl a3), some (.inl a4), some (.inl v2), none], [], m3)) (s2 := (12, [some (.inr (.inr (some (3, 0)))), some (.inr (.inr (some (4, 0)))), some (.inl a2), some (.inl a3), some (.inl a4), some (.inl v2), none], [], m3)) rfl hres (fun hc hres => ?_) (fun hc hres => ?_)
    · obtain rfl := Option.some.inj hres
      exact e_mask (L' := [none, none, none, none, none, none, none]) rfl (hxl1 _ rfl)
    · refine e_steps 3 (s' := (18, [some (.inr (.inr (some (3, 0)))), some (.inr (.inr (some (4, 0)))), some (.inl a2), some (.inl a3), some (.inl a4), some (.inl v2), none], [.inl v2, .inr (.inr (some (32, 0)))], m3)) rfl ?_
      refine e_gd (s1 := (19, [some (.inr (.inr (some (3, 0)))), some (.inr (.inr (some (4, 0)))), some (.inl a2), some (.inl a3), some (.inl a4), some (.inl v2), none], [.inl (m3 32 0 v2.toNatClampNeg)], m3)) rfl hres (fun hc hres => ?_)
      refine e_steps 1 (s' := (21, [some (.inr (.inr (some (3, 0)))), some (.inr (.inr (some (4, 0)))), some (.inl a2), some (.inl a3), some (.inl a4), some (.inl v2), some (.inl (m3 32 0 v2.toNatClampNeg))], [], m3)) rfl ?_
      refine e_let (fun (v4 : Int32) => (21, [some (.inr (.inr (some (3, 0)))), some (.inr (.inr (some (4, 0)))), some (.inl a2), some (.inl a3), some (.inl a4), some (.inl v2), some (.inl v4)], [], m3)) hres (fun v4 hres => ?_)
      refine e_steps 3 (s' := (27, [some (.inr (.inr (some (3, 0)))), some (.inr (.inr (some (4, 0)))), some (.inl a2), some (.inl a3), some (.inl a4), some (.inl v2), some (.inl v4)], [.inl v4, .inr (.inr (some (26, 0)))], m3)) rfl ?_
      refine e_gd (s1 := (28, [some (.inr (.inr (some (3, 0)))), some (.inr (.inr (some (4, 0)))), some (.inl a2), some (.inl a3), some (.inl a4), some (.inl v2), some (.inl v4)], [.inl (m3 26 0 v4.toNatClampNeg)], m3)) rfl hres (fun hc hres => ?_)
      refine e_steps 1 (s' := (29, [some (.inr (.inr (some (3, 0)))), some (.inr (.inr (some (4, 0)))), some (.inl a2), some (.inl a3), some (.inl a4), some (.inl v2), some (.inl v4)], [.inl a2, .inl (m3 26 0 v4.toNatClampNeg)], m3)) rfl ?_
      refine e_if (s1 := (79, [some (.inr (.inr (some (3, 0)))), some (.inr (.inr (some (4, 0)))), some (.inl a2), some (.inl a3), some (.inl a4), some (.inl v2), some (.inl v4)], [], m3)) (s2 := (32, [some (.inr (.inr (some (3, 0)))), some (.inr (.inr (some (4, 0)))), some (.inl a2), some (.inl a3), some (.inl a4), some (.inl v2), some (.inl v4)], [], m3)) rfl hres (fun hc hres => ?_) (fun hc hres => ?_)
      · refine e_mask (L' := [some (.inr (.inr (some (3, 0)))), some (.inr (.inr (some (4, 0)))), some (.inl a2), some (.inl a3), some (.inl a4), some (.inl v2), none]) rfl ?_
        refine e_steps 1 (s' := (82, [some (.inr (.inr (some (3, 0)))), some (.inr (.inr (some (4, 0)))), some (.inl a2), some (.inl a3), some (.inl a4), some (.inl (v2 + 1)), none], [], m3)) rfl ?_
        refine e_let (fun (v5 : Int32) => (82, [some (.inr (.inr (some (3, 0)))), some (.inr (.inr (some (4, 0)))), some (.inl a2), some (.inl a3), some (.inl a4), some (.inl v5), none], [], m3)) hres (fun v5 hres => ?_)
        refine e_steps 1 (s' := (3, [some (.inr (.inr (some (3, 0)))), some (.inr (.inr (some (4, 0)))), some (.inl a2), some (.inl a3), some (.inl a4), some (.inl v5), none], [], m3)) rfl ?_
        obtain rfl := Option.some.inj hres
        exact e_mask (L' := [some (.inr (.inr (some (3, 0)))), some (.inr (.inr (some (4, 0)))), some (.inl a2), some (.inl a3), some (.inl a4), some (.inl v5), none]) rfl (hcl1 _ rfl)
      · refine e_steps 3 (s' := (38, [some (.inr (.inr (some (3, 0)))), some (.inr (.inr (some (4, 0)))), some (.inl a2), some (.inl a3), some (.inl a4), some (.inl v2), some (.inl v4)], [.inl v4, .inr (.inr (some (29, 0)))], m3)) rfl ?_
        refine e_gd (s1 := (39, [some (.inr (.inr (some (3, 0)))), some (.inr (.inr (some (4, 0)))), some (.inl a2), some (.inl a3), some (.inl a4), some (.inl v2), some (.inl v4)], [.inl (m3 29 0 v4.toNatClampNeg)], m3)) rfl hres (fun hc hres => ?_)
        refine e_steps 1 (s' := (40, [some (.inr (.inr (some (3, 0)))), some (.inr (.inr (some (4, 0)))), some (.inl a2), some (.inl a3), some (.inl a4), some (.inl v2), some (.inl v4)], [.inl a3, .inl (m3 29 0 v4.toNatClampNeg)], m3)) rfl ?_
        refine e_if (s1 := (79, [some (.inr (.inr (some (3, 0)))), some (.inr (.inr (some (4, 0)))), some (.inl a2), some (.inl a3), some (.inl a4), some (.inl v2), some (.inl v4)], [], m3)) (s2 := (43, [some (.inr (.inr (some (3, 0)))), some (.inr (.inr (some (4, 0)))), some (.inl a2), some (.inl a3), some (.inl a4), some (.inl v2), some (.inl v4)], [], m3)) rfl hres (fun hc hres => ?_) (fun hc hres => ?_)
        · refine e_mask (L' := [some (.inr (.inr (some (3, 0)))), some (.inr (.inr (some (4, 0)))), some (.inl a2), some (.inl a3), some (.inl a4), some (.inl v2), none]) rfl ?_
          refine e_steps 1 (s' := (82, [some (.inr (.inr (some (3, 0)))), some (.inr (.inr (some (4, 0)))), some (.inl a2), some (.inl a3), some (.inl a4), some (.inl (v2 + 1)), none], [], m3)) rfl ?_
          refine e_let (fun (v6 : Int32) => (82, [some (.inr (.inr (some (3, 0)))), some (.inr (.inr (some (4, 0)))), some (.inl a2), some (.inl a3), some (.inl a4), some (.inl v6), none], [], m3)) hres (fun v6 hres => ?_)
          refine e_steps 1 (s' := (3, [some (.inr (.inr (some (3, 0)))), some (.inr (.inr (some (4, 0)))), some (.inl a2), some (.inl a3), some (.inl a4), some (.inl v6), none], [], m3)) rfl ?_
          obtain rfl := Option.some.inj hres
          exact e_mask (L' := [some (.inr (.inr (some (3, 0)))), some (.inr (.inr (some (4, 0)))), some (.inl a2), some (.inl a3), some (.inl a4), some (.inl v6), none]) rfl (hcl1 _ rfl)
        · refine e_steps 3 (s' := (48, [some (.inr (.inr (some (3, 0)))), some (.inr (.inr (some (4, 0)))), some (.inl a2), some (.inl a3), some (.inl a4), some (.inl v2), some (.inl v4)], [.inl a4, .inl v4, .inr (.inr (some (3, 0)))], m3)) rfl ?_
          obtain ⟨r7, hv, hres⟩ := mm_b1_some hres
          refine e_call0 (pc := 51) (L := [some (.inr (.inr (some (3, 0)))), some (.inr (.inr (some (4, 0)))), some (.inl a2), some (.inl a3), some (.inl a4), some (.inl v2), some (.inl v4)]) (st := []) (m' := m3) (v := some (.inl r7)) rfl (k_X0_isKnown d (by omega) v4 a4 _ _ hv) ?_
          show mm_E (d + 1) 91 (51, [some (.inr (.inr (some (3, 0)))), some (.inr (.inr (some (4, 0)))), some (.inl a2), some (.inl a3), some (.inl a4), some (.inl v2), some (.inl v4)], [.inl r7], m3) (.inl none, r, 0, 0)
          refine e_if (s1 := (79, [some (.inr (.inr (some (3, 0)))), some (.inr (.inr (some (4, 0)))), some (.inl a2), some (.inl a3), some (.inl a4), some (.inl v2), some (.inl v4)], [], m3)) (s2 := (54, [some (.inr (.inr (some (3, 0)))), some (.inr (.inr (some (4, 0)))), some (.inl a2), some (.inl a3), some (.inl a4), some (.inl v2), some (.inl v4)], [], m3)) rfl hres (fun hc hres => ?_) (fun hc hres => ?_)
          · refine e_mask (L' := [some (.inr (.inr (some (3, 0)))), some (.inr (.inr (some (4, 0)))), some (.inl a2), some (.inl a3), some (.inl a4), some (.inl v2), none]) rfl ?_
            refine e_steps 1 (s' := (82, [some (.inr (.inr (some (3, 0)))), some (.inr (.inr (some (4, 0)))), some (.inl a2), some (.inl a3), some (.inl a4), some (.inl (v2 + 1)), none], [], m3)) rfl ?_
            refine e_let (fun (v8 : Int32) => (82, [some (.inr (.inr (some (3, 0)))), some (.inr (.inr (some (4, 0)))), some (.inl a2), some (.inl a3), some (.inl a4), some (.inl v8), none], [], m3)) hres (fun v8 hres => ?_)
            refine e_steps 1 (s' := (3, [some (.inr (.inr (some (3, 0)))), some (.inr (.inr (some (4, 0)))), some (.inl a2), some (.inl a3), some (.inl a4), some (.inl v8), none], [], m3)) rfl ?_
            obtain rfl := Option.some.inj hres
            exact e_mask (L' := [some (.inr (.inr (some (3, 0)))), some (.inr (.inr (some (4, 0)))), some (.inl a2), some (.inl a3), some (.inl a4), some (.inl v8), none]) rfl (hcl1 _ rfl)
          · refine e_steps 4 (s' := (61, [some (.inr (.inr (some (3, 0)))), some (.inr (.inr (some (4, 0)))), some (.inl a2), some (.inl a3), some (.inl a4), some (.inl v2), some (.inl v4)], [.inl v4, .inr (.inr (some (25, 0))), .inr (.inr (some (4, 0)))], m3)) rfl ?_
            refine e_gd (s1 := (62, [some (.inr (.inr (some (3, 0)))), some (.inr (.inr (some (4, 0)))), some (.inl a2), some (.inl a3), some (.inl a4), some (.inl v2), some (.inl v4)], [.inl (m3 25 0 v4.toNatClampNeg), .inr (.inr (some (4, 0)))], m3)) rfl hres (fun hc hres => ?_)
            refine e_steps 3 (s' := (68, [some (.inr (.inr (some (3, 0)))), some (.inr (.inr (some (4, 0)))), some (.inl a2), some (.inl a3), some (.inl a4), some (.inl v2), some (.inl v4)], [.inl v4, .inr (.inr (some (27, 0))), .inl (m3 25 0 v4.toNatClampNeg), .inr (.inr (some (4, 0)))], m3)) rfl ?_
            refine e_gd (s1 := (69, [some (.inr (.inr (some (3, 0)))), some (.inr (.inr (some (4, 0)))), some (.inl a2), some (.inl a3), some (.inl a4), some (.inl v2), some (.inl v4)], [.inl (m3 27 0 v4.toNatClampNeg), .inl (m3 25 0 v4.toNatClampNeg), .inr (.inr (some (4, 0)))], m3)) rfl hres (fun hc hres => ?_)
            refine e_steps 3 (s' := (75, [some (.inr (.inr (some (3, 0)))), some (.inr (.inr (some (4, 0)))), some (.inl a2), some (.inl a3), some (.inl a4), some (.inl v2), some (.inl v4)], [.inl v4, .inr (.inr (some (28, 0))), .inl (m3 27 0 v4.toNatClampNeg), .inl (m3 25 0 v4.toNatClampNeg), .inr (.inr (some (4, 0)))], m3)) rfl ?_
            refine e_gd (s1 := (76, [some (.inr (.inr (some (3, 0)))), some (.inr (.inr (some (4, 0)))), some (.inl a2), some (.inl a3), some (.inl a4), some (.inl v2), some (.inl v4)], [.inl (m3 28 0 v4.toNatClampNeg), .inl (m3 27 0 v4.toNatClampNeg), .inl (m3 25 0 v4.toNatClampNeg), .inr (.inr (some (4, 0)))], m3)) rfl hres (fun hc hres => ?_)
            obtain ⟨m10, hv, hres⟩ := mm_b1_some hres
            refine e_call0 (pc := 79) (L := [some (.inr (.inr (some (3, 0)))), some (.inr (.inr (some (4, 0)))), some (.inl a2), some (.inl a3), some (.inl a4), some (.inl v2), some (.inl v4)]) (st := []) (m' := m10) (v := none) rfl (k_X6_undergo d (by omega) (m3 25 0 v4.toNatClampNeg) (m3 27 0 v4.toNatClampNeg) (m3 28 0 v4.toNatClampNeg) _ _ hv) ?_
            show mm_E (d + 1) 91 (79, [some (.inr (.inr (some (3, 0)))), some (.inr (.inr (some (4, 0)))), some (.inl a2), some (.inl a3), some (.inl a4), some (.inl v2), some (.inl v4)], [], m10) (.inl none, r, 0, 0)
            refine e_mask (L' := [some (.inr (.inr (some (3, 0)))), some (.inr (.inr (some (4, 0)))), some (.inl a2), some (.inl a3), some (.inl a4), some (.inl v2), none]) rfl ?_
            refine e_steps 1 (s' := (82, [some (.inr (.inr (some (3, 0)))), some (.inr (.inr (some (4, 0)))), some (.inl a2), some (.inl a3), some (.inl a4), some (.inl (v2 + 1)), none], [], m10)) rfl ?_
            refine e_let (fun (v11 : Int32) => (82, [some (.inr (.inr (some (3, 0)))), some (.inr (.inr (some (4, 0)))), some (.inl a2), some (.inl a3), some (.inl a4), some (.inl v11), none], [], m10)) hres (fun v11 hres => ?_)
            refine e_steps 1 (s' := (3, [some (.inr (.inr (some (3, 0)))), some (.inr (.inr (some (4, 0)))), some (.inl a2), some (.inl a3), some (.inl a4), some (.inl v11), none], [], m10)) rfl ?_
            obtain rfl := Option.some.inj hres
            exact e_mask (L' := [some (.inr (.inr (some (3, 0)))), some (.inr (.inr (some (4, 0)))), some (.inl a2), some (.inl a3), some (.inl a4), some (.inl v11), none]) rfl (hcl1 _ rfl)
