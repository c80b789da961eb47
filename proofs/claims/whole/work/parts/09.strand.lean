/-- GlassThreads$Strand.countOf(I)I -/
def f_X8_countOf (i0 : Nat) (a1 : Int32) (m : mm_M) : Option (Int32) :=
(mm_b1 (mm_loop (σ := Int32 × Int32) (ρ := (Int32)) (fun (s : Int32 × Int32) => match s with
| (v2, v3) => (if (m 5 i0 4) ≤ v3 then (some (.inr v2))
else (if mm_in v3 24 then (
if (m 37 i0 v3.toNatClampNeg) ≠ a1 then (mm_let (v3 + 1) fun v4 =>
some (.inl (v2, v4)))
else (mm_let (v2 + 1) fun v5 =>
mm_let (v3 + 1) fun v6 =>
some (.inl (v5, v6)))) else none) : Option ((Int32 × Int32) ⊕ ((Int32))))) mm_fu (0, 0)) fun v7 =>
some v7)
set_option maxHeartbeats 4000000 in
set_option maxRecDepth 100000 in
theorem k_X8_countOf (d : Nat) (hd : 0 ≤ d) (i0 : Nat) (a1 : Int32) (m : mm_M) (r : Int32) (hres : f_X8_countOf i0 a1 m = some r) : mm_X d 105 [.inr (.inr (some (5, i0))), .inl a1] m (.inl (some (.inl r)), m, 0, 0) := by
  unfold f_X8_countOf at hres
  show mm_E d 105 (0, [some (.inr (.inr (some (5, i0)))), some (.inl a1), none, none], [], m) (.inl (some (.inl r)), m, 0, 0)
  refine e_steps 4 (s' := (4, [some (.inr (.inr (some (5, i0)))), some (.inl a1), some (.inl 0), some (.inl 0)], [], m)) rfl ?_
  refine e_mask (L' := [some (.inr (.inr (some (5, i0)))), some (.inl a1), some (.inl 0), some (.inl 0)]) rfl ?_
  refine e_loopb (φ := fun s => (4, [some (.inr (.inr (some (5, i0)))), some (.inl a1), some (.inl s.1), some (.inl s.2)], [], m)) (K := fun t => mm_E d 105 (31, [none, none, some (.inl t), none], [], m) (.inl (some (.inl r)), m, 0, 0)) hres (fun v7 hres => ?_) (fun s ol1 hres hcl1 hxl1 => ?_)
  · show mm_E d 105 (31, [none, none, some (.inl v7), none], [], m) (.inl (some (.inl r)), m, 0, 0)
    refine e_steps 1 (s' := (32, [none, none, some (.inl v7), none], [.inl v7], m)) rfl ?_
    obtain rfl := Option.some.inj hres
    exact e_ret rfl rfl
  · obtain ⟨v2, v3⟩ := s
    show mm_E d 105 (4, [some (.inr (.inr (some (5, i0)))), some (.inl a1), some (.inl v2), some (.inl v3)], [], m) (.inl (some (.inl r)), m, 0, 0)
    refine e_steps 3 (s' := (9, [some (.inr (.inr (some (5, i0)))), some (.inl a1), some (.inl v2), some (.inl v3)], [.inl (m 5 i0 4), .inl v3], m)) rfl ?_
    refine e_if (s1 := (31, [some (.inr (.inr (some (5, i0)))), some (.inl a1), some (.inl v2), some (.inl v3)], [], m)) (s2 := (12, [some (.inr (.inr (some (5, i0)))), some (.inl a1), some (.inl v2), some (.inl v3)], [], m)) rfl hres (fun hc hres => ?_) (fun hc hres => ?_)
    · obtain rfl := Option.some.inj hres
      exact e_mask (L' := [none, none, some (.inl v2), none]) rfl (hxl1 _ rfl)
    · refine e_steps 3 (s' := (17, [some (.inr (.inr (some (5, i0)))), some (.inl a1), some (.inl v2), some (.inl v3)], [.inl v3, .inr (.inr (some (37, i0)))], m)) rfl ?_
      refine e_gd (s1 := (18, [some (.inr (.inr (some (5, i0)))), some (.inl a1), some (.inl v2), some (.inl v3)], [.inl (m 37 i0 v3.toNatClampNeg)], m)) rfl hres (fun hc hres => ?_)
      refine e_steps 1 (s' := (19, [some (.inr (.inr (some (5, i0)))), some (.inl a1), some (.inl v2), some (.inl v3)], [.inl a1, .inl (m 37 i0 v3.toNatClampNeg)], m)) rfl ?_
      refine e_if (s1 := (25, [some (.inr (.inr (some (5, i0)))), some (.inl a1), some (.inl v2), some (.inl v3)], [], m)) (s2 := (22, [some (.inr (.inr (some (5, i0)))), some (.inl a1), some (.inl v2), some (.inl v3)], [], m)) rfl hres (fun hc hres => ?_) (fun hc hres => ?_)
      · refine e_steps 1 (s' := (28, [some (.inr (.inr (some (5, i0)))), some (.inl a1), some (.inl v2), some (.inl (v3 + 1))], [], m)) rfl ?_
        refine e_let (fun (v4 : Int32) => (28, [some (.inr (.inr (some (5, i0)))), some (.inl a1), some (.inl v2), some (.inl v4)], [], m)) hres (fun v4 hres => ?_)
        refine e_steps 1 (s' := (4, [some (.inr (.inr (some (5, i0)))), some (.inl a1), some (.inl v2), some (.inl v4)], [], m)) rfl ?_
        obtain rfl := Option.some.inj hres
        exact e_mask (L' := [some (.inr (.inr (some (5, i0)))), some (.inl a1), some (.inl v2), some (.inl v4)]) rfl (hcl1 _ rfl)
      · refine e_steps 1 (s' := (25, [some (.inr (.inr (some (5, i0)))), some (.inl a1), some (.inl (v2 + 1)), some (.inl v3)], [], m)) rfl ?_
        refine e_let (fun (v5 : Int32) => (25, [some (.inr (.inr (some (5, i0)))), some (.inl a1), some (.inl v5), some (.inl v3)], [], m)) hres (fun v5 hres => ?_)
        refine e_steps 1 (s' := (28, [some (.inr (.inr (some (5, i0)))), some (.inl a1), some (.inl v5), some (.inl (v3 + 1))], [], m)) rfl ?_
        refine e_let (fun (v6 : Int32) => (28, [some (.inr (.inr (some (5, i0)))), some (.inl a1), some (.inl v5), some (.inl v6)], [], m)) hres (fun v6 hres => ?_)
        refine e_steps 1 (s' := (4, [some (.inr (.inr (some (5, i0)))), some (.inl a1), some (.inl v5), some (.inl v6)], [], m)) rfl ?_
        obtain rfl := Option.some.inj hres
        exact e_mask (L' := [some (.inr (.inr (some (5, i0)))), some (.inl a1), some (.inl v5), some (.inl v6)]) rfl (hcl1 _ rfl)
/-- GlassThreads$Strand.readInto([ILGlassThreads$Tape;II)Z -/
def f_X8_readInto_g38 (i0 : Nat) (i1 : Nat) (a3 : Int32) (a4 : Int32) (m : mm_M) : Option (Int32 × mm_M) :=
mm_b1 (f_X9_isNumberIn a3 a4 m) fun r1 =>
if r1 ≠ 0 then (if mm_in (m 5 i0 4) 24 then (
mm_let (mm_w m 38 i1 ((m 5 i0 4).toNatClampNeg) (m 1 0 8)) fun m2 =>
mm_b1 (f_X9_advance m2) fun m4 =>
some (1, m4)) else none)
else (mm_b2 (f_X9_refuseNumber m) fun r5 m6 =>
if r5 = 0 ∨ r5 = 1 then some (r5, m6) else none)
set_option maxHeartbeats 4000000 in
set_option maxRecDepth 100000 in
theorem k_X8_readInto_g38 (d : Nat) (hd : 2 ≤ d) (i0 : Nat) (i1 : Nat) (a3 : Int32) (a4 : Int32) (m : mm_M) (r : Int32 × mm_M) (hres : f_X8_readInto_g38 i0 i1 a3 a4 m = some r) : mm_X d 104 [.inr (.inr (some (5, i0))), .inr (.inr (some (38, i1))), .inr (.inr (some (1, 0))), .inl a3, .inl a4] m (.inl (some (.inl r.1)), r.2, 0, 0) := by
  unfold f_X8_readInto_g38 at hres
  obtain ⟨d, rfl⟩ : ∃ e, d = e + 1 := ⟨d - 1, by omega⟩
  show mm_E (d + 1) 104 (0, [some (.inr (.inr (some (5, i0)))), some (.inr (.inr (some (38, i1)))), some (.inr (.inr (some (1, 0)))), some (.inl a3), some (.inl a4)], [], m) (.inl (some (.inl r.1)), r.2, 0, 0)
  refine e_steps 3 (s' := (4, [some (.inr (.inr (some (5, i0)))), some (.inr (.inr (some (38, i1)))), some (.inr (.inr (some (1, 0)))), some (.inl a3), some (.inl a4)], [.inl a4, .inl a3, .inr (.inr (some (1, 0)))], m)) rfl ?_
  obtain ⟨r1, hv, hres⟩ := mm_b1_some hres
  refine e_call0 (pc := 7) (L := [some (.inr (.inr (some (5, i0)))), some (.inr (.inr (some (38, i1)))), some (.inr (.inr (some (1, 0)))), some (.inl a3), some (.inl a4)]) (st := []) (m' := m) (v := some (.inl r1)) rfl (k_X9_isNumberIn d (by omega) a3 a4 _ _ hv) ?_
  show mm_E (d + 1) 104 (7, [some (.inr (.inr (some (5, i0)))), some (.inr (.inr (some (38, i1)))), some (.inr (.inr (some (1, 0)))), some (.inl a3), some (.inl a4)], [.inl r1], m) (.inl (some (.inl r.1)), r.2, 0, 0)
  refine e_if (s1 := (15, [some (.inr (.inr (some (5, i0)))), some (.inr (.inr (some (38, i1)))), some (.inr (.inr (some (1, 0)))), some (.inl a3), some (.inl a4)], [], m)) (s2 := (10, [some (.inr (.inr (some (5, i0)))), some (.inr (.inr (some (38, i1)))), some (.inr (.inr (some (1, 0)))), some (.inl a3), some (.inl a4)], [], m)) rfl hres (fun hc hres => ?_) (fun hc hres => ?_)
  · refine e_steps 5 (s' := (24, [some (.inr (.inr (some (5, i0)))), some (.inr (.inr (some (38, i1)))), some (.inr (.inr (some (1, 0)))), some (.inl a3), some (.inl a4)], [.inl (m 1 0 8), .inl (m 5 i0 4), .inr (.inr (some (38, i1)))], m)) rfl ?_
    refine e_gd (s1 := (25, [some (.inr (.inr (some (5, i0)))), some (.inr (.inr (some (38, i1)))), some (.inr (.inr (some (1, 0)))), some (.inl a3), some (.inl a4)], [], (mm_w m 38 i1 ((m 5 i0 4).toNatClampNeg) (m 1 0 8)))) rfl hres (fun hc hres => ?_)
    refine e_let (fun (m2 : mm_M) => (25, [some (.inr (.inr (some (5, i0)))), some (.inr (.inr (some (38, i1)))), some (.inr (.inr (some (1, 0)))), some (.inl a3), some (.inl a4)], [], m2)) hres (fun m2 hres => ?_)
    refine e_steps 1 (s' := (26, [some (.inr (.inr (some (5, i0)))), some (.inr (.inr (some (38, i1)))), some (.inr (.inr (some (1, 0)))), some (.inl a3), some (.inl a4)], [.inr (.inr (some (1, 0)))], m2)) rfl ?_
    obtain ⟨m4, hv, hres⟩ := mm_b1_some hres
    refine e_call0 (pc := 29) (L := [some (.inr (.inr (some (5, i0)))), some (.inr (.inr (some (38, i1)))), some (.inr (.inr (some (1, 0)))), some (.inl a3), some (.inl a4)]) (st := []) (m' := m4) (v := none) rfl (k_X9_advance d (by omega)  _ _ hv) ?_
    show mm_E (d + 1) 104 (29, [some (.inr (.inr (some (5, i0)))), some (.inr (.inr (some (38, i1)))), some (.inr (.inr (some (1, 0)))), some (.inl a3), some (.inl a4)], [], m4) (.inl (some (.inl r.1)), r.2, 0, 0)
    refine e_steps 1 (s' := (30, [some (.inr (.inr (some (5, i0)))), some (.inr (.inr (some (38, i1)))), some (.inr (.inr (some (1, 0)))), some (.inl a3), some (.inl a4)], [.inl 1], m4)) rfl ?_
    obtain rfl := Option.some.inj hres
    exact e_ret rfl rfl
  · refine e_steps 1 (s' := (11, [some (.inr (.inr (some (5, i0)))), some (.inr (.inr (some (38, i1)))), some (.inr (.inr (some (1, 0)))), some (.inl a3), some (.inl a4)], [.inr (.inr (some (1, 0)))], m)) rfl ?_
    obtain ⟨r5, m6, hv, hres⟩ := mm_b2_some hres
    refine e_call0 (pc := 14) (L := [some (.inr (.inr (some (5, i0)))), some (.inr (.inr (some (38, i1)))), some (.inr (.inr (some (1, 0)))), some (.inl a3), some (.inl a4)]) (st := []) (m' := m6) (v := some (.inl r5)) rfl (k_X9_refuseNumber d (by omega)  _ _ hv) ?_
    show mm_E (d + 1) 104 (14, [some (.inr (.inr (some (5, i0)))), some (.inr (.inr (some (38, i1)))), some (.inr (.inr (some (1, 0)))), some (.inl a3), some (.inl a4)], [.inl r5], m6) (.inl (some (.inl r.1)), r.2, 0, 0)
    refine e_gr (o := .inl (some (.inl r5))) rfl hres (fun hc hres => ?_)
    obtain rfl := Option.some.inj hres
    rfl
/-- GlassThreads$Strand.readInto([ILGlassThreads$Tape;II)Z -/
def f_X8_readInto_g39 (i0 : Nat) (i1 : Nat) (a3 : Int32) (a4 : Int32) (m : mm_M) : Option (Int32 × mm_M) :=
mm_b1 (f_X9_isNumberIn a3 a4 m) fun r1 =>
if r1 ≠ 0 then (if mm_in (m 5 i0 4) 24 then (
mm_let (mm_w m 39 i1 ((m 5 i0 4).toNatClampNeg) (m 1 0 8)) fun m2 =>
mm_b1 (f_X9_advance m2) fun m4 =>
some (1, m4)) else none)
else (mm_b2 (f_X9_refuseNumber m) fun r5 m6 =>
if r5 = 0 ∨ r5 = 1 then some (r5, m6) else none)
set_option maxHeartbeats 4000000 in
set_option maxRecDepth 100000 in
theorem k_X8_readInto_g39 (d : Nat) (hd : 2 ≤ d) (i0 : Nat) (i1 : Nat) (a3 : Int32) (a4 : Int32) (m : mm_M) (r : Int32 × mm_M) (hres : f_X8_readInto_g39 i0 i1 a3 a4 m = some r) : mm_X d 104 [.inr (.inr (some (5, i0))), .inr (.inr (some (39, i1))), .inr (.inr (some (1, 0))), .inl a3, .inl a4] m (.inl (some (.inl r.1)), r.2, 0, 0) := by
  unfold f_X8_readInto_g39 at hres
  obtain ⟨d, rfl⟩ : ∃ e, d = e + 1 := ⟨d - 1, by omega⟩
  show mm_E (d + 1) 104 (0, [some (.inr (.inr (some (5, i0)))), some (.inr (.inr (some (39, i1)))), some (.inr (.inr (some (1, 0)))), some (.inl a3), some (.inl a4)], [], m) (.inl (some (.inl r.1)), r.2, 0, 0)
  refine e_steps 3 (s' := (4, [some (.inr (.inr (some (5, i0)))), some (.inr (.inr (some (39, i1)))), some (.inr (.inr (some (1, 0)))), some (.inl a3), some (.inl a4)], [.inl a4, .inl a3, .inr (.inr (some (1, 0)))], m)) rfl ?_
  obtain ⟨r1, hv, hres⟩ := mm_b1_some hres
  refine e_call0 (pc := 7) (L := [some (.inr (.inr (some (5, i0)))), some (.inr (.inr (some (39, i1)))), some (.inr (.inr (some (1, 0)))), some (.inl a3), some (.inl a4)]) (st := []) (m' := m) (v := some (.inl r1)) rfl (k_X9_isNumberIn d (by omega) a3 a4 _ _ hv) ?_
  show mm_E (d + 1) 104 (7, [some (.inr (.inr (some (5, i0)))), some (.inr (.inr (some (39, i1)))), some (.inr (.inr (some (1, 0)))), some (.inl a3), some (.inl a4)], [.inl r1], m) (.inl (some (.inl r.1)), r.2, 0, 0)
  refine e_if (s1 := (15, [some (.inr (.inr (some (5, i0)))), some (.inr (.inr (some (39, i1)))), some (.inr (.inr (some (1, 0)))), some (.inl a3), some (.inl a4)], [], m)) (s2 := (10, [some (.inr (.inr (some (5, i0)))), some (.inr (.inr (some (39, i1)))), some (.inr (.inr (some (1, 0)))), some (.inl a3), some (.inl a4)], [], m)) rfl hres (fun hc hres => ?_) (fun hc hres => ?_)
  · refine e_steps 5 (s' := (24, [some (.inr (.inr (some (5, i0)))), some (.inr (.inr (some (39, i1)))), some (.inr (.inr (some (1, 0)))), some (.inl a3), some (.inl a4)], [.inl (m 1 0 8), .inl (m 5 i0 4), .inr (.inr (some (39, i1)))], m)) rfl ?_
    refine e_gd (s1 := (25, [some (.inr (.inr (some (5, i0)))), some (.inr (.inr (some (39, i1)))), some (.inr (.inr (some (1, 0)))), some (.inl a3), some (.inl a4)], [], (mm_w m 39 i1 ((m 5 i0 4).toNatClampNeg) (m 1 0 8)))) rfl hres (fun hc hres => ?_)
    refine e_let (fun (m2 : mm_M) => (25, [some (.inr (.inr (some (5, i0)))), some (.inr (.inr (some (39, i1)))), some (.inr (.inr (some (1, 0)))), some (.inl a3), some (.inl a4)], [], m2)) hres (fun m2 hres => ?_)
    refine e_steps 1 (s' := (26, [some (.inr (.inr (some (5, i0)))), some (.inr (.inr (some (39, i1)))), some (.inr (.inr (some (1, 0)))), some (.inl a3), some (.inl a4)], [.inr (.inr (some (1, 0)))], m2)) rfl ?_
    obtain ⟨m4, hv, hres⟩ := mm_b1_some hres
    refine e_call0 (pc := 29) (L := [some (.inr (.inr (some (5, i0)))), some (.inr (.inr (some (39, i1)))), some (.inr (.inr (some (1, 0)))), some (.inl a3), some (.inl a4)]) (st := []) (m' := m4) (v := none) rfl (k_X9_advance d (by omega)  _ _ hv) ?_
    show mm_E (d + 1) 104 (29, [some (.inr (.inr (some (5, i0)))), some (.inr (.inr (some (39, i1)))), some (.inr (.inr (some (1, 0)))), some (.inl a3), some (.inl a4)], [], m4) (.inl (some (.inl r.1)), r.2, 0, 0)
    refine e_steps 1 (s' := (30, [some (.inr (.inr (some (5, i0)))), some (.inr (.inr (some (39, i1)))), some (.inr (.inr (some (1, 0)))), some (.inl a3), some (.inl a4)], [.inl 1], m4)) rfl ?_
    obtain rfl := Option.some.inj hres
    exact e_ret rfl rfl
  · refine e_steps 1 (s' := (11, [some (.inr (.inr (some (5, i0)))), some (.inr (.inr (some (39, i1)))), some (.inr (.inr (some (1, 0)))), some (.inl a3), some (.inl a4)], [.inr (.inr (some (1, 0)))], m)) rfl ?_
    obtain ⟨r5, m6, hv, hres⟩ := mm_b2_some hres
    refine e_call0 (pc := 14) (L := [some (.inr (.inr (some (5, i0)))), some (.inr (.inr (some (39, i1)))), some (.inr (.inr (some (1, 0)))), some (.inl a3), some (.inl a4)]) (st := []) (m' := m6) (v := some (.inl r5)) rfl (k_X9_refuseNumber d (by omega)  _ _ hv) ?_
    show mm_E (d + 1) 104 (14, [some (.inr (.inr (some (5, i0)))), some (.inr (.inr (some (39, i1)))), some (.inr (.inr (some (1, 0)))), some (.inl a3), some (.inl a4)], [.inl r5], m6) (.inl (some (.inl r.1)), r.2, 0, 0)
    refine e_gr (o := .inl (some (.inl r5))) rfl hres (fun hc hres => ?_)
    obtain rfl := Option.some.inj hres
    rfl
/-- GlassThreads$Strand.readNumbers(LGlassThreads$Tape;I)Z -/
def f_X8_readNumbers (i0 : Nat) (a2 : Int32) (m : mm_M) : Option (Int32 × mm_M) :=
if a2 = 0 then (mm_b2 (f_X8_readInto_g38 i0 i0 1 9999 m) fun r1 m2 =>
if r1 = 0 ∨ r1 = 1 then some (r1, m2) else none)
else if a2 = 1 then (some (1, m))
else if a2 = 2 then (mm_b2 (f_X8_readInto_g38 i0 i0 0 99 m) fun r3 m4 =>
if r3 = 0 ∨ r3 = 1 then some (r3, m4) else none)
else if a2 = 3 then (mm_b2 (f_X8_readInto_g38 i0 i0 0 40000 m) fun r5 m6 =>
if r5 = 0 then (some (0, m6))
else (mm_b2 (f_X8_readInto_g39 i0 i0 0 30000 m6) fun r7 m8 =>
if r7 = 0 then (some (0, m8))
else (some (1, m8))))
else (some (1, m))
set_option maxHeartbeats 4000000 in
set_option maxRecDepth 100000 in
theorem k_X8_readNumbers (d : Nat) (hd : 3 ≤ d) (i0 : Nat) (a2 : Int32) (m : mm_M) (r : Int32 × mm_M) (hres : f_X8_readNumbers i0 a2 m = some r) : mm_X d 103 [.inr (.inr (some (5, i0))), .inr (.inr (some (1, 0))), .inl a2] m (.inl (some (.inl r.1)), r.2, 0, 0) := by
  unfold f_X8_readNumbers at hres
  obtain ⟨d, rfl⟩ : ∃ e, d = e + 1 := ⟨d - 1, by omega⟩
  show mm_E (d + 1) 103 (0, [some (.inr (.inr (some (5, i0)))), some (.inr (.inr (some (1, 0)))), some (.inl a2)], [], m) (.inl (some (.inl r.1)), r.2, 0, 0)
  refine e_steps 1 (s' := (1, [some (.inr (.inr (some (5, i0)))), some (.inr (.inr (some (1, 0)))), some (.inl a2)], [.inl a2], m)) rfl ?_
  refine e_sw (c := a2 = 0) (s1 := (32, [some (.inr (.inr (some (5, i0)))), some (.inr (.inr (some (1, 0)))), some (.inl a2)], [], m)) rfl hres (fun hc hres => ?_) (fun hc hres hst => ?_)
  · refine e_steps 6 (s' := (42, [some (.inr (.inr (some (5, i0)))), some (.inr (.inr (some (1, 0)))), some (.inl a2)], [.inl 9999, .inl 1, .inr (.inr (some (1, 0))), .inr (.inr (some (38, i0))), .inr (.inr (some (5, i0)))], m)) rfl ?_
    obtain ⟨r1, m2, hv, hres⟩ := mm_b2_some hres
    refine e_call0 (pc := 45) (L := [some (.inr (.inr (some (5, i0)))), some (.inr (.inr (some (1, 0)))), some (.inl a2)]) (st := []) (m' := m2) (v := some (.inl r1)) rfl (k_X8_readInto_g38 d (by omega) i0 i0 1 9999 _ _ hv) ?_
    show mm_E (d + 1) 103 (45, [some (.inr (.inr (some (5, i0)))), some (.inr (.inr (some (1, 0)))), some (.inl a2)], [.inl r1], m2) (.inl (some (.inl r.1)), r.2, 0, 0)
    refine e_gr (o := .inl (some (.inl r1))) rfl hres (fun hc hres => ?_)
    obtain rfl := Option.some.inj hres
    rfl
  · refine e_sw (c := a2 = 1) (s1 := (96, [some (.inr (.inr (some (5, i0)))), some (.inr (.inr (some (1, 0)))), some (.inl a2)], [], m)) hst hres (fun hc hres => ?_) (fun hc hres hst => ?_)
    · refine e_steps 1 (s' := (97, [some (.inr (.inr (some (5, i0)))), some (.inr (.inr (some (1, 0)))), some (.inl a2)], [.inl 1], m)) rfl ?_
      obtain rfl := Option.some.inj hres
      exact e_ret rfl rfl
    · refine e_sw (c := a2 = 2) (s1 := (46, [some (.inr (.inr (some (5, i0)))), some (.inr (.inr (some (1, 0)))), some (.inl a2)], [], m)) hst hres (fun hc hres => ?_) (fun hc hres hst => ?_)
      · refine e_steps 6 (s' := (55, [some (.inr (.inr (some (5, i0)))), some (.inr (.inr (some (1, 0)))), some (.inl a2)], [.inl 99, .inl 0, .inr (.inr (some (1, 0))), .inr (.inr (some (38, i0))), .inr (.inr (some (5, i0)))], m)) rfl ?_
        obtain ⟨r3, m4, hv, hres⟩ := mm_b2_some hres
        refine e_call0 (pc := 58) (L := [some (.inr (.inr (some (5, i0)))), some (.inr (.inr (some (1, 0)))), some (.inl a2)]) (st := []) (m' := m4) (v := some (.inl r3)) rfl (k_X8_readInto_g38 d (by omega) i0 i0 0 99 _ _ hv) ?_
        show mm_E (d + 1) 103 (58, [some (.inr (.inr (some (5, i0)))), some (.inr (.inr (some (1, 0)))), some (.inl a2)], [.inl r3], m4) (.inl (some (.inl r.1)), r.2, 0, 0)
        refine e_gr (o := .inl (some (.inl r3))) rfl hres (fun hc hres => ?_)
        obtain rfl := Option.some.inj hres
        rfl
      · refine e_sw (c := a2 = 3) (s1 := (59, [some (.inr (.inr (some (5, i0)))), some (.inr (.inr (some (1, 0)))), some (.inl a2)], [], m)) hst hres (fun hc hres => ?_) (fun hc hres hst => ?_)
        · refine e_steps 6 (s' := (68, [some (.inr (.inr (some (5, i0)))), some (.inr (.inr (some (1, 0)))), some (.inl a2)], [.inl 40000, .inl 0, .inr (.inr (some (1, 0))), .inr (.inr (some (38, i0))), .inr (.inr (some (5, i0)))], m)) rfl ?_
          obtain ⟨r5, m6, hv, hres⟩ := mm_b2_some hres
          refine e_call0 (pc := 71) (L := [some (.inr (.inr (some (5, i0)))), some (.inr (.inr (some (1, 0)))), some (.inl a2)]) (st := []) (m' := m6) (v := some (.inl r5)) rfl (k_X8_readInto_g38 d (by omega) i0 i0 0 40000 _ _ hv) ?_
          show mm_E (d + 1) 103 (71, [some (.inr (.inr (some (5, i0)))), some (.inr (.inr (some (1, 0)))), some (.inl a2)], [.inl r5], m6) (.inl (some (.inl r.1)), r.2, 0, 0)
          refine e_if (s1 := (94, [some (.inr (.inr (some (5, i0)))), some (.inr (.inr (some (1, 0)))), some (.inl a2)], [], m6)) (s2 := (74, [some (.inr (.inr (some (5, i0)))), some (.inr (.inr (some (1, 0)))), some (.inl a2)], [], m6)) rfl hres (fun hc hres => ?_) (fun hc hres => ?_)
          · refine e_mask (L' := [none, none, none]) rfl ?_
            refine e_steps 1 (s' := (95, [none, none, none], [.inl 0], m6)) rfl ?_
            obtain rfl := Option.some.inj hres
            exact e_ret rfl rfl
          · refine e_steps 6 (s' := (84, [some (.inr (.inr (some (5, i0)))), some (.inr (.inr (some (1, 0)))), some (.inl a2)], [.inl 30000, .inl 0, .inr (.inr (some (1, 0))), .inr (.inr (some (39, i0))), .inr (.inr (some (5, i0)))], m6)) rfl ?_
            obtain ⟨r7, m8, hv, hres⟩ := mm_b2_some hres
            refine e_call0 (pc := 87) (L := [some (.inr (.inr (some (5, i0)))), some (.inr (.inr (some (1, 0)))), some (.inl a2)]) (st := []) (m' := m8) (v := some (.inl r7)) rfl (k_X8_readInto_g39 d (by omega) i0 i0 0 30000 _ _ hv) ?_
            show mm_E (d + 1) 103 (87, [some (.inr (.inr (some (5, i0)))), some (.inr (.inr (some (1, 0)))), some (.inl a2)], [.inl r7], m8) (.inl (some (.inl r.1)), r.2, 0, 0)
            refine e_if (s1 := (94, [some (.inr (.inr (some (5, i0)))), some (.inr (.inr (some (1, 0)))), some (.inl a2)], [], m8)) (s2 := (90, [some (.inr (.inr (some (5, i0)))), some (.inr (.inr (some (1, 0)))), some (.inl a2)], [], m8)) rfl hres (fun hc hres => ?_) (fun hc hres => ?_)
            · refine e_mask (L' := [none, none, none]) rfl ?_
              refine e_steps 1 (s' := (95, [none, none, none], [.inl 0], m8)) rfl ?_
              obtain rfl := Option.some.inj hres
              exact e_ret rfl rfl
            · refine e_steps 2 (s' := (95, [some (.inr (.inr (some (5, i0)))), some (.inr (.inr (some (1, 0)))), some (.inl a2)], [.inl 1], m8)) rfl ?_
              refine e_mask (L' := [none, none, none]) rfl ?_
              obtain rfl := Option.some.inj hres
              exact e_ret rfl rfl
        · refine e_step (s' := (96, [some (.inr (.inr (some (5, i0)))), some (.inr (.inr (some (1, 0)))), some (.inl a2)], [], m)) hst ?_
          refine e_steps 1 (s' := (97, [some (.inr (.inr (some (5, i0)))), some (.inr (.inr (some (1, 0)))), some (.inl a2)], [.inl 1], m)) rfl ?_
          obtain rfl := Option.some.inj hres
          exact e_ret rfl rfl
/-- GlassThreads$Strand.readPart(LGlassThreads$Tape;)Z -/
def f_X8_readPart (i0 : Nat) (m : mm_M) : Option (Int32 × mm_M) :=
mm_let ((m 1 0 7) - 256) fun v1 =>
if v1 < 0 then (mm_b2 (f_X9_refuse 1 m) fun r2 m3 =>
if r2 = 0 ∨ r2 = 1 then some (r2, m3) else none)
else (if v1 ≤ 3 then (mm_b1 (f_X8_countOf i0 v1 m) fun r4 =>
if 24 ≤ (m 5 i0 4) then (mm_b2 (f_X9_refuse 2 m) fun r5 m6 =>
if r5 = 0 ∨ r5 = 1 then some (r5, m6) else none)
else (mm_let ((mm_b1 (f_X9_advance m) fun m9 =>
if mm_in (m9 5 i0 4) 24 then (
mm_let (mm_w m9 37 i0 ((m9 5 i0 4).toNatClampNeg) v1) fun m10 =>
if mm_in (m10 5 i0 4) 24 then (
mm_let (mm_w m10 38 i0 ((m10 5 i0 4).toNatClampNeg) 0) fun m11 =>
if mm_in (m11 5 i0 4) 24 then (
mm_let (mm_w m11 39 i0 ((m11 5 i0 4).toNatClampNeg) 0) fun m12 =>
if mm_in (m12 5 i0 4) 24 then (
mm_let (mm_w m12 40 i0 ((m12 5 i0 4).toNatClampNeg) (r4 + 1)) fun m13 =>
mm_b2 (f_X8_readNumbers i0 v1 m13) fun r14 m15 =>
if r14 = 0 then (some (0, m15))
else (mm_b2 (f_X9_passSign 59 m15) fun r16 m17 =>
if r16 ≠ 0 then (mm_let (mm_w m17 5 i0 4 ((m17 5 i0 4) + 1)) fun m18 =>
some (1, m18))
else (some (0, m17)))) else none) else none) else none) else none : Option (Int32 × mm_M))) fun k7 =>
if v1 ≠ 3 then (k7)
else (if r4 < 6 then (k7)
else (mm_b2 (f_X9_refuse 2 m) fun r19 m20 =>
if r19 = 0 ∨ r19 = 1 then some (r19, m20) else none))))
else (mm_b2 (f_X9_refuse 1 m) fun r21 m22 =>
if r21 = 0 ∨ r21 = 1 then some (r21, m22) else none))
set_option maxHeartbeats 4000000 in
set_option maxRecDepth 100000 in
theorem k_X8_readPart (d : Nat) (hd : 4 ≤ d) (i0 : Nat) (m : mm_M) (r : Int32 × mm_M) (hres : f_X8_readPart i0 m = some r) : mm_X d 102 [.inr (.inr (some (5, i0))), .inr (.inr (some (1, 0)))] m (.inl (some (.inl r.1)), r.2, 0, 0) := by
  unfold f_X8_readPart at hres
  obtain ⟨d, rfl⟩ : ∃ e, d = e + 1 := ⟨d - 1, by omega⟩
  show mm_E (d + 1) 102 (0, [some (.inr (.inr (some (5, i0)))), some (.inr (.inr (some (1, 0)))), none, none], [], m) (.inl (some (.inl r.1)), r.2, 0, 0)
  refine e_steps 5 (s' := (9, [some (.inr (.inr (some (5, i0)))), some (.inr (.inr (some (1, 0)))), some (.inl ((m 1 0 7) - 256)), none], [], m)) rfl ?_
  refine e_let (fun (v1 : Int32) => (9, [some (.inr (.inr (some (5, i0)))), some (.inr (.inr (some (1, 0)))), some (.inl v1), none], [], m)) hres (fun v1 hres => ?_)
  refine e_steps 1 (s' := (10, [some (.inr (.inr (some (5, i0)))), some (.inr (.inr (some (1, 0)))), some (.inl v1), none], [.inl v1], m)) rfl ?_
  refine e_if (s1 := (18, [some (.inr (.inr (some (5, i0)))), some (.inr (.inr (some (1, 0)))), some (.inl v1), none], [], m)) (s2 := (13, [some (.inr (.inr (some (5, i0)))), some (.inr (.inr (some (1, 0)))), some (.inl v1), none], [], m)) rfl hres (fun hc hres => ?_) (fun hc hres => ?_)
  · refine e_mask (L' := [none, some (.inr (.inr (some (1, 0)))), none, none]) rfl ?_
    refine e_steps 2 (s' := (20, [none, some (.inr (.inr (some (1, 0)))), none, none], [.inl 1, .inr (.inr (some (1, 0)))], m)) rfl ?_
    obtain ⟨r2, m3, hv, hres⟩ := mm_b2_some hres
    refine e_call0 (pc := 23) (L := [none, some (.inr (.inr (some (1, 0)))), none, none]) (st := []) (m' := m3) (v := some (.inl r2)) rfl (k_X9_refuse d (by omega) 1 _ _ hv) ?_
    show mm_E (d + 1) 102 (23, [none, some (.inr (.inr (some (1, 0)))), none, none], [.inl r2], m3) (.inl (some (.inl r.1)), r.2, 0, 0)
    refine e_gr (o := .inl (some (.inl r2))) rfl hres (fun hc hres => ?_)
    obtain rfl := Option.some.inj hres
    rfl
  · refine e_steps 2 (s' := (15, [some (.inr (.inr (some (5, i0)))), some (.inr (.inr (some (1, 0)))), some (.inl v1), none], [.inl 3, .inl v1], m)) rfl ?_
    refine e_if (s1 := (24, [some (.inr (.inr (some (5, i0)))), some (.inr (.inr (some (1, 0)))), some (.inl v1), none], [], m)) (s2 := (18, [some (.inr (.inr (some (5, i0)))), some (.inr (.inr (some (1, 0)))), some (.inl v1), none], [], m)) rfl hres (fun hc hres => ?_) (fun hc hres => ?_)
    · refine e_steps 2 (s' := (26, [some (.inr (.inr (some (5, i0)))), some (.inr (.inr (some (1, 0)))), some (.inl v1), none], [.inl v1, .inr (.inr (some (5, i0)))], m)) rfl ?_
      obtain ⟨r4, hv, hres⟩ := mm_b1_some hres
      refine e_call0 (pc := 29) (L := [some (.inr (.inr (some (5, i0)))), some (.inr (.inr (some (1, 0)))), some (.inl v1), none]) (st := []) (m' := m) (v := some (.inl r4)) rfl (k_X8_countOf d (by omega) i0 v1 _ _ hv) ?_
      show mm_E (d + 1) 102 (29, [some (.inr (.inr (some (5, i0)))), some (.inr (.inr (some (1, 0)))), some (.inl v1), none], [.inl r4], m) (.inl (some (.inl r.1)), r.2, 0, 0)
      refine e_steps 4 (s' := (36, [some (.inr (.inr (some (5, i0)))), some (.inr (.inr (some (1, 0)))), some (.inl v1), some (.inl r4)], [.inl 24, .inl (m 5 i0 4)], m)) rfl ?_
      refine e_if (s1 := (50, [some (.inr (.inr (some (5, i0)))), some (.inr (.inr (some (1, 0)))), some (.inl v1), some (.inl r4)], [], m)) (s2 := (39, [some (.inr (.inr (some (5, i0)))), some (.inr (.inr (some (1, 0)))), some (.inl v1), some (.inl r4)], [], m)) rfl hres (fun hc hres => ?_) (fun hc hres => ?_)
      · refine e_mask (L' := [none, some (.inr (.inr (some (1, 0)))), none, none]) rfl ?_
        refine e_steps 2 (s' := (52, [none, some (.inr (.inr (some (1, 0)))), none, none], [.inl 2, .inr (.inr (some (1, 0)))], m)) rfl ?_
        obtain ⟨r5, m6, hv, hres⟩ := mm_b2_some hres
        refine e_call0 (pc := 55) (L := [none, some (.inr (.inr (some (1, 0)))), none, none]) (st := []) (m' := m6) (v := some (.inl r5)) rfl (k_X9_refuse d (by omega) 2 _ _ hv) ?_
        show mm_E (d + 1) 102 (55, [none, some (.inr (.inr (some (1, 0)))), none, none], [.inl r5], m6) (.inl (some (.inl r.1)), r.2, 0, 0)
        refine e_gr (o := .inl (some (.inl r5))) rfl hres (fun hc hres => ?_)
        obtain rfl := Option.some.inj hres
        rfl
      · refine e_steps 2 (s' := (41, [some (.inr (.inr (some (5, i0)))), some (.inr (.inr (some (1, 0)))), some (.inl v1), some (.inl r4)], [.inl 3, .inl v1], m)) rfl ?_
        refine e_join (fun k7 => k7 = some r → mm_E (d + 1) 102 (56, [some (.inr (.inr (some (5, i0)))), some (.inr (.inr (some (1, 0)))), some (.inl v1), some (.inl r4)], [], m) (.inl (some (.inl r.1)), r.2, 0, 0)) hres (fun  hres => ?_) (fun k7 hk7 hres => ?_)
        · refine e_steps 1 (s' := (57, [some (.inr (.inr (some (5, i0)))), some (.inr (.inr (some (1, 0)))), some (.inl v1), some (.inl r4)], [.inr (.inr (some (1, 0)))], m)) rfl ?_
          obtain ⟨m9, hv, hres⟩ := mm_b1_some hres
          refine e_call0 (pc := 60) (L := [some (.inr (.inr (some (5, i0)))), some (.inr (.inr (some (1, 0)))), some (.inl v1), some (.inl r4)]) (st := []) (m' := m9) (v := none) rfl (k_X9_advance d (by omega)  _ _ hv) ?_
          show mm_E (d + 1) 102 (60, [some (.inr (.inr (some (5, i0)))), some (.inr (.inr (some (1, 0)))), some (.inl v1), some (.inl r4)], [], m9) (.inl (some (.inl r.1)), r.2, 0, 0)
          refine e_steps 5 (s' := (69, [some (.inr (.inr (some (5, i0)))), some (.inr (.inr (some (1, 0)))), some (.inl v1), some (.inl r4)], [.inl v1, .inl (m9 5 i0 4), .inr (.inr (some (37, i0)))], m9)) rfl ?_
          refine e_gd (s1 := (70, [some (.inr (.inr (some (5, i0)))), some (.inr (.inr (some (1, 0)))), some (.inl v1), some (.inl r4)], [], (mm_w m9 37 i0 ((m9 5 i0 4).toNatClampNeg) v1))) rfl hres (fun hc hres => ?_)
          refine e_let (fun (m10 : mm_M) => (70, [some (.inr (.inr (some (5, i0)))), some (.inr (.inr (some (1, 0)))), some (.inl v1), some (.inl r4)], [], m10)) hres (fun m10 hres => ?_)
          refine e_steps 5 (s' := (79, [some (.inr (.inr (some (5, i0)))), some (.inr (.inr (some (1, 0)))), some (.inl v1), some (.inl r4)], [.inl 0, .inl (m10 5 i0 4), .inr (.inr (some (38, i0)))], m10)) rfl ?_
          refine e_gd (s1 := (80, [some (.inr (.inr (some (5, i0)))), some (.inr (.inr (some (1, 0)))), some (.inl v1), some (.inl r4)], [], (mm_w m10 38 i0 ((m10 5 i0 4).toNatClampNeg) 0))) rfl hres (fun hc hres => ?_)
          refine e_let (fun (m11 : mm_M) => (80, [some (.inr (.inr (some (5, i0)))), some (.inr (.inr (some (1, 0)))), some (.inl v1), some (.inl r4)], [], m11)) hres (fun m11 hres => ?_)
          refine e_steps 5 (s' := (89, [some (.inr (.inr (some (5, i0)))), some (.inr (.inr (some (1, 0)))), some (.inl v1), some (.inl r4)], [.inl 0, .inl (m11 5 i0 4), .inr (.inr (some (39, i0)))], m11)) rfl ?_
          refine e_gd (s1 := (90, [some (.inr (.inr (some (5, i0)))), some (.inr (.inr (some (1, 0)))), some (.inl v1), some (.inl r4)], [], (mm_w m11 39 i0 ((m11 5 i0 4).toNatClampNeg) 0))) rfl hres (fun hc hres => ?_)
          refine e_let (fun (m12 : mm_M) => (90, [some (.inr (.inr (some (5, i0)))), some (.inr (.inr (some (1, 0)))), some (.inl v1), some (.inl r4)], [], m12)) hres (fun m12 hres => ?_)
          refine e_steps 7 (s' := (101, [some (.inr (.inr (some (5, i0)))), some (.inr (.inr (some (1, 0)))), some (.inl v1), some (.inl r4)], [.inl (r4 + 1), .inl (m12 5 i0 4), .inr (.inr (some (40, i0)))], m12)) rfl ?_
          refine e_gd (s1 := (102, [some (.inr (.inr (some (5, i0)))), some (.inr (.inr (some (1, 0)))), some (.inl v1), some (.inl r4)], [], (mm_w m12 40 i0 ((m12 5 i0 4).toNatClampNeg) (r4 + 1)))) rfl hres (fun hc hres => ?_)
          refine e_let (fun (m13 : mm_M) => (102, [some (.inr (.inr (some (5, i0)))), some (.inr (.inr (some (1, 0)))), some (.inl v1), some (.inl r4)], [], m13)) hres (fun m13 hres => ?_)
          refine e_steps 3 (s' := (105, [some (.inr (.inr (some (5, i0)))), some (.inr (.inr (some (1, 0)))), some (.inl v1), some (.inl r4)], [.inl v1, .inr (.inr (some (1, 0))), .inr (.inr (some (5, i0)))], m13)) rfl ?_
          obtain ⟨r14, m15, hv, hres⟩ := mm_b2_some hres
          refine e_call0 (pc := 108) (L := [some (.inr (.inr (some (5, i0)))), some (.inr (.inr (some (1, 0)))), some (.inl v1), some (.inl r4)]) (st := []) (m' := m15) (v := some (.inl r14)) rfl (k_X8_readNumbers d (by omega) i0 v1 _ _ hv) ?_
          show mm_E (d + 1) 102 (108, [some (.inr (.inr (some (5, i0)))), some (.inr (.inr (some (1, 0)))), some (.inl v1), some (.inl r4)], [.inl r14], m15) (.inl (some (.inl r.1)), r.2, 0, 0)
          refine e_if (s1 := (120, [some (.inr (.inr (some (5, i0)))), some (.inr (.inr (some (1, 0)))), some (.inl v1), some (.inl r4)], [], m15)) (s2 := (111, [some (.inr (.inr (some (5, i0)))), some (.inr (.inr (some (1, 0)))), some (.inl v1), some (.inl r4)], [], m15)) rfl hres (fun hc hres => ?_) (fun hc hres => ?_)
          · refine e_mask (L' := [none, none, none, none]) rfl ?_
            refine e_steps 1 (s' := (121, [none, none, none, none], [.inl 0], m15)) rfl ?_
            obtain rfl := Option.some.inj hres
            exact e_ret rfl rfl
          · refine e_steps 2 (s' := (114, [some (.inr (.inr (some (5, i0)))), some (.inr (.inr (some (1, 0)))), some (.inl v1), some (.inl r4)], [.inl 59, .inr (.inr (some (1, 0)))], m15)) rfl ?_
            obtain ⟨r16, m17, hv, hres⟩ := mm_b2_some hres
            refine e_call0 (pc := 117) (L := [some (.inr (.inr (some (5, i0)))), some (.inr (.inr (some (1, 0)))), some (.inl v1), some (.inl r4)]) (st := []) (m' := m17) (v := some (.inl r16)) rfl (k_X9_passSign d (by omega) 59 _ _ hv) ?_
            show mm_E (d + 1) 102 (117, [some (.inr (.inr (some (5, i0)))), some (.inr (.inr (some (1, 0)))), some (.inl v1), some (.inl r4)], [.inl r16], m17) (.inl (some (.inl r.1)), r.2, 0, 0)
            refine e_if (s1 := (122, [some (.inr (.inr (some (5, i0)))), some (.inr (.inr (some (1, 0)))), some (.inl v1), some (.inl r4)], [], m17)) (s2 := (120, [some (.inr (.inr (some (5, i0)))), some (.inr (.inr (some (1, 0)))), some (.inl v1), some (.inl r4)], [], m17)) rfl hres (fun hc hres => ?_) (fun hc hres => ?_)
            · refine e_steps 6 (s' := (132, [some (.inr (.inr (some (5, i0)))), some (.inr (.inr (some (1, 0)))), some (.inl v1), some (.inl r4)], [], (mm_w m17 5 i0 4 ((m17 5 i0 4) + 1)))) rfl ?_
              refine e_let (fun (m18 : mm_M) => (132, [some (.inr (.inr (some (5, i0)))), some (.inr (.inr (some (1, 0)))), some (.inl v1), some (.inl r4)], [], m18)) hres (fun m18 hres => ?_)
              refine e_steps 1 (s' := (133, [some (.inr (.inr (some (5, i0)))), some (.inr (.inr (some (1, 0)))), some (.inl v1), some (.inl r4)], [.inl 1], m18)) rfl ?_
              obtain rfl := Option.some.inj hres
              exact e_ret rfl rfl
            · refine e_mask (L' := [none, none, none, none]) rfl ?_
              refine e_steps 1 (s' := (121, [none, none, none, none], [.inl 0], m17)) rfl ?_
              obtain rfl := Option.some.inj hres
              exact e_ret rfl rfl
        · refine e_if (s1 := (56, [some (.inr (.inr (some (5, i0)))), some (.inr (.inr (some (1, 0)))), some (.inl v1), some (.inl r4)], [], m)) (s2 := (44, [some (.inr (.inr (some (5, i0)))), some (.inr (.inr (some (1, 0)))), some (.inl v1), some (.inl r4)], [], m)) rfl hres (fun hc hres => ?_) (fun hc hres => ?_)
          · exact e_mask (L' := [some (.inr (.inr (some (5, i0)))), some (.inr (.inr (some (1, 0)))), some (.inl v1), some (.inl r4)]) rfl (hk7  hres)
          · refine e_steps 2 (s' := (47, [some (.inr (.inr (some (5, i0)))), some (.inr (.inr (some (1, 0)))), some (.inl v1), some (.inl r4)], [.inl 6, .inl r4], m)) rfl ?_
            refine e_if (s1 := (56, [some (.inr (.inr (some (5, i0)))), some (.inr (.inr (some (1, 0)))), some (.inl v1), some (.inl r4)], [], m)) (s2 := (50, [some (.inr (.inr (some (5, i0)))), some (.inr (.inr (some (1, 0)))), some (.inl v1), some (.inl r4)], [], m)) rfl hres (fun hc hres => ?_) (fun hc hres => ?_)
            · exact e_mask (L' := [some (.inr (.inr (some (5, i0)))), some (.inr (.inr (some (1, 0)))), some (.inl v1), some (.inl r4)]) rfl (hk7  hres)
            · refine e_mask (L' := [none, some (.inr (.inr (some (1, 0)))), none, none]) rfl ?_
              refine e_steps 2 (s' := (52, [none, some (.inr (.inr (some (1, 0)))), none, none], [.inl 2, .inr (.inr (some (1, 0)))], m)) rfl ?_
              obtain ⟨r19, m20, hv, hres⟩ := mm_b2_some hres
              refine e_call0 (pc := 55) (L := [none, some (.inr (.inr (some (1, 0)))), none, none]) (st := []) (m' := m20) (v := some (.inl r19)) rfl (k_X9_refuse d (by omega) 2 _ _ hv) ?_
              show mm_E (d + 1) 102 (55, [none, some (.inr (.inr (some (1, 0)))), none, none], [.inl r19], m20) (.inl (some (.inl r.1)), r.2, 0, 0)
              refine e_gr (o := .inl (some (.inl r19))) rfl hres (fun hc hres => ?_)
              obtain rfl := Option.some.inj hres
              rfl
    · refine e_mask (L' := [none, some (.inr (.inr (some (1, 0)))), none, none]) rfl ?_
      refine e_steps 2 (s' := (20, [none, some (.inr (.inr (some (1, 0)))), none, none], [.inl 1, .inr (.inr (some (1, 0)))], m)) rfl ?_
      obtain ⟨r21, m22, hv, hres⟩ := mm_b2_some hres
      refine e_call0 (pc := 23) (L := [none, some (.inr (.inr (some (1, 0)))), none, none]) (st := []) (m' := m22) (v := some (.inl r21)) rfl (k_X9_refuse d (by omega) 1 _ _ hv) ?_
      show mm_E (d + 1) 102 (23, [none, some (.inr (.inr (some (1, 0)))), none, none], [.inl r21], m22) (.inl (some (.inl r.1)), r.2, 0, 0)
      refine e_gr (o := .inl (some (.inl r21))) rfl hres (fun hc hres => ?_)
      obtain rfl := Option.some.inj hres
      rfl
/-- GlassThreads$Strand.readFrom(LGlassThreads$Tape;)Z -/
def f_X8_readFrom (i0 : Nat) (m : mm_M) : Option (Int32 × mm_M) :=
mm_let (mm_w m 5 i0 4 0) fun m1 =>
mm_b2 (f_X8_readPart i0 m1) fun r2 m3 =>
(mm_b1 (mm_loop (σ := Int32 × Int32 × mm_M) (ρ := (Int32 × mm_M)) (fun (s : Int32 × Int32 × mm_M) => match s with
| (v5, v6, m7) => (if 24 ≤ v6 then (some (.inr (v5, m7)))
else (if v5 = 0 then (some (.inr (v5, m7)))
else (if (m7 1 0 7) = 0 then (some (.inr (v5, m7)))
else (mm_b2 (f_X8_readPart i0 m7) fun r8 m9 =>
mm_let (v6 + 1) fun v10 =>
some (.inl (r8, v10, m9))))) : Option ((Int32 × Int32 × mm_M) ⊕ ((Int32 × mm_M))))) mm_fu (r2, 0, m3)) fun t => match t with
| (v11, m12) => if v11 = 0 ∨ v11 = 1 then some (v11, m12) else none)
set_option maxHeartbeats 4000000 in
set_option maxRecDepth 100000 in
theorem k_X8_readFrom (d : Nat) (hd : 5 ≤ d) (i0 : Nat) (m : mm_M) (r : Int32 × mm_M) (hres : f_X8_readFrom i0 m = some r) : mm_X d 101 [.inr (.inr (some (5, i0))), .inr (.inr (some (1, 0)))] m (.inl (some (.inl r.1)), r.2, 0, 0) := by
  unfold f_X8_readFrom at hres
  obtain ⟨d, rfl⟩ : ∃ e, d = e + 1 := ⟨d - 1, by omega⟩
  show mm_E (d + 1) 101 (0, [some (.inr (.inr (some (5, i0)))), some (.inr (.inr (some (1, 0)))), none, none], [], m) (.inl (some (.inl r.1)), r.2, 0, 0)
  refine e_steps 3 (s' := (5, [some (.inr (.inr (some (5, i0)))), some (.inr (.inr (some (1, 0)))), none, none], [], (mm_w m 5 i0 4 0))) rfl ?_
  refine e_let (fun (m1 : mm_M) => (5, [some (.inr (.inr (some (5, i0)))), some (.inr (.inr (some (1, 0)))), none, none], [], m1)) hres (fun m1 hres => ?_)
  refine e_steps 2 (s' := (7, [some (.inr (.inr (some (5, i0)))), some (.inr (.inr (some (1, 0)))), none, none], [.inr (.inr (some (1, 0))), .inr (.inr (some (5, i0)))], m1)) rfl ?_
  obtain ⟨r2, m3, hv, hres⟩ := mm_b2_some hres
  refine e_call0 (pc := 10) (L := [some (.inr (.inr (some (5, i0)))), some (.inr (.inr (some (1, 0)))), none, none]) (st := []) (m' := m3) (v := some (.inl r2)) rfl (k_X8_readPart d (by omega) i0 _ _ hv) ?_
  show mm_E (d + 1) 101 (10, [some (.inr (.inr (some (5, i0)))), some (.inr (.inr (some (1, 0)))), none, none], [.inl r2], m3) (.inl (some (.inl r.1)), r.2, 0, 0)
  refine e_steps 3 (s' := (13, [some (.inr (.inr (some (5, i0)))), some (.inr (.inr (some (1, 0)))), some (.inl r2), some (.inl 0)], [], m3)) rfl ?_
  refine e_mask (L' := [some (.inr (.inr (some (5, i0)))), some (.inr (.inr (some (1, 0)))), some (.inl r2), some (.inl 0)]) rfl ?_
  refine e_loopb (φ := fun s => (13, [some (.inr (.inr (some (5, i0)))), some (.inr (.inr (some (1, 0)))), some (.inl s.1), some (.inl s.2.1)], [], s.2.2)) (K := fun t => mm_E (d + 1) 101 (42, [none, none, some (.inl t.1), none], [], t.2) (.inl (some (.inl r.1)), r.2, 0, 0)) hres (fun t hres => ?_) (fun s ol4 hres hcl4 hxl4 => ?_)
  · obtain ⟨v11, m12⟩ := t
    show mm_E (d + 1) 101 (42, [none, none, some (.inl v11), none], [], m12) (.inl (some (.inl r.1)), r.2, 0, 0)
    refine e_steps 1 (s' := (43, [none, none, some (.inl v11), none], [.inl v11], m12)) rfl ?_
    refine e_gr (o := .inl (some (.inl v11))) rfl hres (fun hc hres => ?_)
    obtain rfl := Option.some.inj hres
    rfl
  · obtain ⟨v5, v6, m7⟩ := s
    show mm_E (d + 1) 101 (13, [some (.inr (.inr (some (5, i0)))), some (.inr (.inr (some (1, 0)))), some (.inl v5), some (.inl v6)], [], m7) (.inl (some (.inl r.1)), r.2, 0, 0)
    refine e_steps 2 (s' := (16, [some (.inr (.inr (some (5, i0)))), some (.inr (.inr (some (1, 0)))), some (.inl v5), some (.inl v6)], [.inl 24, .inl v6], m7)) rfl ?_
    refine e_if (s1 := (42, [some (.inr (.inr (some (5, i0)))), some (.inr (.inr (some (1, 0)))), some (.inl v5), some (.inl v6)], [], m7)) (s2 := (19, [some (.inr (.inr (some (5, i0)))), some (.inr (.inr (some (1, 0)))), some (.inl v5), some (.inl v6)], [], m7)) rfl hres (fun hc hres => ?_) (fun hc hres => ?_)
    · obtain rfl := Option.some.inj hres
      exact e_mask (L' := [none, none, some (.inl v5), none]) rfl (hxl4 _ rfl)
    · refine e_steps 1 (s' := (20, [some (.inr (.inr (some (5, i0)))), some (.inr (.inr (some (1, 0)))), some (.inl v5), some (.inl v6)], [.inl v5], m7)) rfl ?_
      refine e_if (s1 := (42, [some (.inr (.inr (some (5, i0)))), some (.inr (.inr (some (1, 0)))), some (.inl v5), some (.inl v6)], [], m7)) (s2 := (23, [some (.inr (.inr (some (5, i0)))), some (.inr (.inr (some (1, 0)))), some (.inl v5), some (.inl v6)], [], m7)) rfl hres (fun hc hres => ?_) (fun hc hres => ?_)
      · obtain rfl := Option.some.inj hres
        exact e_mask (L' := [none, none, some (.inl v5), none]) rfl (hxl4 _ rfl)
      · refine e_steps 2 (s' := (27, [some (.inr (.inr (some (5, i0)))), some (.inr (.inr (some (1, 0)))), some (.inl v5), some (.inl v6)], [.inl (m7 1 0 7)], m7)) rfl ?_
        refine e_if (s1 := (42, [some (.inr (.inr (some (5, i0)))), some (.inr (.inr (some (1, 0)))), some (.inl v5), some (.inl v6)], [], m7)) (s2 := (30, [some (.inr (.inr (some (5, i0)))), some (.inr (.inr (some (1, 0)))), some (.inl v5), some (.inl v6)], [], m7)) rfl hres (fun hc hres => ?_) (fun hc hres => ?_)
        · obtain rfl := Option.some.inj hres
          exact e_mask (L' := [none, none, some (.inl v5), none]) rfl (hxl4 _ rfl)
        · refine e_steps 2 (s' := (32, [some (.inr (.inr (some (5, i0)))), some (.inr (.inr (some (1, 0)))), some (.inl v5), some (.inl v6)], [.inr (.inr (some (1, 0))), .inr (.inr (some (5, i0)))], m7)) rfl ?_
          obtain ⟨r8, m9, hv, hres⟩ := mm_b2_some hres
          refine e_call0 (pc := 35) (L := [some (.inr (.inr (some (5, i0)))), some (.inr (.inr (some (1, 0)))), some (.inl v5), some (.inl v6)]) (st := []) (m' := m9) (v := some (.inl r8)) rfl (k_X8_readPart d (by omega) i0 _ _ hv) ?_
          show mm_E (d + 1) 101 (35, [some (.inr (.inr (some (5, i0)))), some (.inr (.inr (some (1, 0)))), some (.inl v5), some (.inl v6)], [.inl r8], m9) (.inl (some (.inl r.1)), r.2, 0, 0)
          refine e_steps 2 (s' := (39, [some (.inr (.inr (some (5, i0)))), some (.inr (.inr (some (1, 0)))), some (.inl r8), some (.inl (v6 + 1))], [], m9)) rfl ?_
          refine e_let (fun (v10 : Int32) => (39, [some (.inr (.inr (some (5, i0)))), some (.inr (.inr (some (1, 0)))), some (.inl r8), some (.inl v10)], [], m9)) hres (fun v10 hres => ?_)
          refine e_steps 1 (s' := (13, [some (.inr (.inr (some (5, i0)))), some (.inr (.inr (some (1, 0)))), some (.inl r8), some (.inl v10)], [], m9)) rfl ?_
          obtain rfl := Option.some.inj hres
          exact e_mask (L' := [some (.inr (.inr (some (5, i0)))), some (.inr (.inr (some (1, 0)))), some (.inl r8), some (.inl v10)]) rfl (hcl4 _ rfl)
/-- GlassThreads$Strand.canHappen(III)Z -/
def f_X8_canHappen (i0 : Nat) (a1 : Int32) (a2 : Int32) (a3 : Int32) (m : mm_M) : Option (Int32) :=
if mm_in a2 24 then (
mm_let (fun (w1 : Int32) => (if a1 = 0 then (if w1 = 0 then (some 0)
else (if a3 < 1 then (some 0)
else (if 20000 < a3 then (some 0)
else (some 1))))
else if a1 = 1 then (if w1 = 0 then (some 0)
else (if a3 < 0 then (some 0)
else (if mm_in a2 24 then (
if (m 38 i0 a2.toNatClampNeg) < a3 then (some 0)
else (some 1)) else none)))
else if a1 = 2 then (if mm_in a2 24 then (
if (m 37 i0 a2.toNatClampNeg) ≠ 3 then (some 0)
else (if a3 ≠ 0 then (some 0)
else (some 1))) else none)
else (if a3 ≠ 0 then (some 0)
else (some 1)) : Option (Int32))) fun k2 =>
if (m 37 i0 a2.toNatClampNeg) ≠ 0 then (k2 0)
else (k2 1)) else none
set_option maxHeartbeats 4000000 in
set_option maxRecDepth 100000 in
theorem k_X8_canHappen (d : Nat) (hd : 0 ≤ d) (i0 : Nat) (a1 : Int32) (a2 : Int32) (a3 : Int32) (m : mm_M) (r : Int32) (hres : f_X8_canHappen i0 a1 a2 a3 m = some r) : mm_X d 106 [.inr (.inr (some (5, i0))), .inl a1, .inl a2, .inl a3] m (.inl (some (.inl r)), m, 0, 0) := by
  unfold f_X8_canHappen at hres
  show mm_E d 106 (0, [some (.inr (.inr (some (5, i0)))), some (.inl a1), some (.inl a2), some (.inl a3), none], [], m) (.inl (some (.inl r)), m, 0, 0)
  refine e_steps 3 (s' := (5, [some (.inr (.inr (some (5, i0)))), some (.inl a1), some (.inl a2), some (.inl a3), none], [.inl a2, .inr (.inr (some (37, i0)))], m)) rfl ?_
  refine e_gd (s1 := (6, [some (.inr (.inr (some (5, i0)))), some (.inl a1), some (.inl a2), some (.inl a3), none], [.inl (m 37 i0 a2.toNatClampNeg)], m)) rfl hres (fun hc hres => ?_)
  refine e_join (fun k2 => ∀ (w1 : Int32), k2 w1 = some r → mm_E d 106 (14, [some (.inr (.inr (some (5, i0)))), some (.inl a1), some (.inl a2), some (.inl a3), none], [.inl w1], m) (.inl (some (.inl r)), m, 0, 0)) hres (fun w1 hres => ?_) (fun k2 hk2 hres => ?_)
  · refine e_steps 2 (s' := (17, [some (.inr (.inr (some (5, i0)))), some (.inl a1), some (.inl a2), some (.inl a3), some (.inl w1)], [.inl a1], m)) rfl ?_
    refine e_sw (c := a1 = 0) (s1 := (44, [some (.inr (.inr (some (5, i0)))), some (.inl a1), some (.inl a2), some (.inl a3), some (.inl w1)], [], m)) rfl hres (fun hc hres => ?_) (fun hc hres hst => ?_)
    · refine e_steps 1 (s' := (46, [some (.inr (.inr (some (5, i0)))), some (.inl a1), some (.inl a2), some (.inl a3), some (.inl w1)], [.inl w1], m)) rfl ?_
      refine e_if (s1 := (65, [some (.inr (.inr (some (5, i0)))), some (.inl a1), some (.inl a2), some (.inl a3), some (.inl w1)], [], m)) (s2 := (49, [some (.inr (.inr (some (5, i0)))), some (.inl a1), some (.inl a2), some (.inl a3), some (.inl w1)], [], m)) rfl hres (fun hc hres => ?_) (fun hc hres => ?_)
      · refine e_mask (L' := [none, none, none, none, none]) rfl ?_
        refine e_steps 1 (s' := (66, [none, none, none, none, none], [.inl 0], m)) rfl ?_
        obtain rfl := Option.some.inj hres
        exact e_ret rfl rfl
      · refine e_steps 2 (s' := (51, [some (.inr (.inr (some (5, i0)))), some (.inl a1), some (.inl a2), some (.inl a3), some (.inl w1)], [.inl 1, .inl a3], m)) rfl ?_
        refine e_if (s1 := (65, [some (.inr (.inr (some (5, i0)))), some (.inl a1), some (.inl a2), some (.inl a3), some (.inl w1)], [], m)) (s2 := (54, [some (.inr (.inr (some (5, i0)))), some (.inl a1), some (.inl a2), some (.inl a3), some (.inl w1)], [], m)) rfl hres (fun hc hres => ?_) (fun hc hres => ?_)
        · refine e_mask (L' := [none, none, none, none, none]) rfl ?_
          refine e_steps 1 (s' := (66, [none, none, none, none, none], [.inl 0], m)) rfl ?_
          obtain rfl := Option.some.inj hres
          exact e_ret rfl rfl
        · refine e_steps 2 (s' := (58, [some (.inr (.inr (some (5, i0)))), some (.inl a1), some (.inl a2), some (.inl a3), some (.inl w1)], [.inl 20000, .inl a3], m)) rfl ?_
          refine e_if (s1 := (65, [some (.inr (.inr (some (5, i0)))), some (.inl a1), some (.inl a2), some (.inl a3), some (.inl w1)], [], m)) (s2 := (61, [some (.inr (.inr (some (5, i0)))), some (.inl a1), some (.inl a2), some (.inl a3), some (.inl w1)], [], m)) rfl hres (fun hc hres => ?_) (fun hc hres => ?_)
          · refine e_mask (L' := [none, none, none, none, none]) rfl ?_
            refine e_steps 1 (s' := (66, [none, none, none, none, none], [.inl 0], m)) rfl ?_
            obtain rfl := Option.some.inj hres
            exact e_ret rfl rfl
          · refine e_steps 2 (s' := (66, [some (.inr (.inr (some (5, i0)))), some (.inl a1), some (.inl a2), some (.inl a3), some (.inl w1)], [.inl 1], m)) rfl ?_
            refine e_mask (L' := [none, none, none, none, none]) rfl ?_
            obtain rfl := Option.some.inj hres
            exact e_ret rfl rfl
    · refine e_sw (c := a1 = 1) (s1 := (67, [some (.inr (.inr (some (5, i0)))), some (.inl a1), some (.inl a2), some (.inl a3), some (.inl w1)], [], m)) hst hres (fun hc hres => ?_) (fun hc hres hst => ?_)
      · refine e_steps 1 (s' := (69, [some (.inr (.inr (some (5, i0)))), some (.inl a1), some (.inl a2), some (.inl a3), some (.inl w1)], [.inl w1], m)) rfl ?_
        refine e_if (s1 := (90, [some (.inr (.inr (some (5, i0)))), some (.inl a1), some (.inl a2), some (.inl a3), some (.inl w1)], [], m)) (s2 := (72, [some (.inr (.inr (some (5, i0)))), some (.inl a1), some (.inl a2), some (.inl a3), some (.inl w1)], [], m)) rfl hres (fun hc hres => ?_) (fun hc hres => ?_)
        · refine e_mask (L' := [none, none, none, none, none]) rfl ?_
          refine e_steps 1 (s' := (91, [none, none, none, none, none], [.inl 0], m)) rfl ?_
          obtain rfl := Option.some.inj hres
          exact e_ret rfl rfl
        · refine e_steps 1 (s' := (73, [some (.inr (.inr (some (5, i0)))), some (.inl a1), some (.inl a2), some (.inl a3), some (.inl w1)], [.inl a3], m)) rfl ?_
          refine e_if (s1 := (90, [some (.inr (.inr (some (5, i0)))), some (.inl a1), some (.inl a2), some (.inl a3), some (.inl w1)], [], m)) (s2 := (76, [some (.inr (.inr (some (5, i0)))), some (.inl a1), some (.inl a2), some (.inl a3), some (.inl w1)], [], m)) rfl hres (fun hc hres => ?_) (fun hc hres => ?_)
          · refine e_mask (L' := [none, none, none, none, none]) rfl ?_
            refine e_steps 1 (s' := (91, [none, none, none, none, none], [.inl 0], m)) rfl ?_
            obtain rfl := Option.some.inj hres
            exact e_ret rfl rfl
          · refine e_steps 4 (s' := (82, [some (.inr (.inr (some (5, i0)))), some (.inl a1), some (.inl a2), some (.inl a3), some (.inl w1)], [.inl a2, .inr (.inr (some (38, i0))), .inl a3], m)) rfl ?_
            refine e_gd (s1 := (83, [some (.inr (.inr (some (5, i0)))), some (.inl a1), some (.inl a2), some (.inl a3), some (.inl w1)], [.inl (m 38 i0 a2.toNatClampNeg), .inl a3], m)) rfl hres (fun hc hres => ?_)
            refine e_if (s1 := (90, [some (.inr (.inr (some (5, i0)))), some (.inl a1), some (.inl a2), some (.inl a3), some (.inl w1)], [], m)) (s2 := (86, [some (.inr (.inr (some (5, i0)))), some (.inl a1), some (.inl a2), some (.inl a3), some (.inl w1)], [], m)) rfl hres (fun hc hres => ?_) (fun hc hres => ?_)
            · refine e_mask (L' := [none, none, none, none, none]) rfl ?_
              refine e_steps 1 (s' := (91, [none, none, none, none, none], [.inl 0], m)) rfl ?_
              obtain rfl := Option.some.inj hres
              exact e_ret rfl rfl
            · refine e_steps 2 (s' := (91, [some (.inr (.inr (some (5, i0)))), some (.inl a1), some (.inl a2), some (.inl a3), some (.inl w1)], [.inl 1], m)) rfl ?_
              refine e_mask (L' := [none, none, none, none, none]) rfl ?_
              obtain rfl := Option.some.inj hres
              exact e_ret rfl rfl
      · refine e_sw (c := a1 = 2) (s1 := (92, [some (.inr (.inr (some (5, i0)))), some (.inl a1), some (.inl a2), some (.inl a3), some (.inl w1)], [], m)) hst hres (fun hc hres => ?_) (fun hc hres hst => ?_)
        · refine e_steps 3 (s' := (97, [some (.inr (.inr (some (5, i0)))), some (.inl a1), some (.inl a2), some (.inl a3), some (.inl w1)], [.inl a2, .inr (.inr (some (37, i0)))], m)) rfl ?_
          refine e_gd (s1 := (98, [some (.inr (.inr (some (5, i0)))), some (.inl a1), some (.inl a2), some (.inl a3), some (.inl w1)], [.inl (m 37 i0 a2.toNatClampNeg)], m)) rfl hres (fun hc hres => ?_)
          refine e_steps 1 (s' := (99, [some (.inr (.inr (some (5, i0)))), some (.inl a1), some (.inl a2), some (.inl a3), some (.inl w1)], [.inl 3, .inl (m 37 i0 a2.toNatClampNeg)], m)) rfl ?_
          refine e_if (s1 := (110, [some (.inr (.inr (some (5, i0)))), some (.inl a1), some (.inl a2), some (.inl a3), some (.inl w1)], [], m)) (s2 := (102, [some (.inr (.inr (some (5, i0)))), some (.inl a1), some (.inl a2), some (.inl a3), some (.inl w1)], [], m)) rfl hres (fun hc hres => ?_) (fun hc hres => ?_)
          · refine e_mask (L' := [none, none, none, none, none]) rfl ?_
            refine e_steps 1 (s' := (111, [none, none, none, none, none], [.inl 0], m)) rfl ?_
            obtain rfl := Option.some.inj hres
            exact e_ret rfl rfl
          · refine e_steps 1 (s' := (103, [some (.inr (.inr (some (5, i0)))), some (.inl a1), some (.inl a2), some (.inl a3), some (.inl w1)], [.inl a3], m)) rfl ?_
            refine e_if (s1 := (110, [some (.inr (.inr (some (5, i0)))), some (.inl a1), some (.inl a2), some (.inl a3), some (.inl w1)], [], m)) (s2 := (106, [some (.inr (.inr (some (5, i0)))), some (.inl a1), some (.inl a2), some (.inl a3), some (.inl w1)], [], m)) rfl hres (fun hc hres => ?_) (fun hc hres => ?_)
            · refine e_mask (L' := [none, none, none, none, none]) rfl ?_
              refine e_steps 1 (s' := (111, [none, none, none, none, none], [.inl 0], m)) rfl ?_
              obtain rfl := Option.some.inj hres
              exact e_ret rfl rfl
            · refine e_steps 2 (s' := (111, [some (.inr (.inr (some (5, i0)))), some (.inl a1), some (.inl a2), some (.inl a3), some (.inl w1)], [.inl 1], m)) rfl ?_
              refine e_mask (L' := [none, none, none, none, none]) rfl ?_
              obtain rfl := Option.some.inj hres
              exact e_ret rfl rfl
        · refine e_step (s' := (112, [some (.inr (.inr (some (5, i0)))), some (.inl a1), some (.inl a2), some (.inl a3), some (.inl w1)], [], m)) hst ?_
          refine e_steps 1 (s' := (113, [some (.inr (.inr (some (5, i0)))), some (.inl a1), some (.inl a2), some (.inl a3), some (.inl w1)], [.inl a3], m)) rfl ?_
          refine e_if (s1 := (120, [some (.inr (.inr (some (5, i0)))), some (.inl a1), some (.inl a2), some (.inl a3), some (.inl w1)], [], m)) (s2 := (116, [some (.inr (.inr (some (5, i0)))), some (.inl a1), some (.inl a2), some (.inl a3), some (.inl w1)], [], m)) rfl hres (fun hc hres => ?_) (fun hc hres => ?_)
          · refine e_steps 1 (s' := (121, [some (.inr (.inr (some (5, i0)))), some (.inl a1), some (.inl a2), some (.inl a3), some (.inl w1)], [.inl 0], m)) rfl ?_
            refine e_mask (L' := [none, none, none, none, none]) rfl ?_
            obtain rfl := Option.some.inj hres
            exact e_ret rfl rfl
          · refine e_steps 2 (s' := (121, [some (.inr (.inr (some (5, i0)))), some (.inl a1), some (.inl a2), some (.inl a3), some (.inl w1)], [.inl 1], m)) rfl ?_
            refine e_mask (L' := [none, none, none, none, none]) rfl ?_
            obtain rfl := Option.some.inj hres
            exact e_ret rfl rfl
  · refine e_if (s1 := (13, [some (.inr (.inr (some (5, i0)))), some (.inl a1), some (.inl a2), some (.inl a3), none], [], m)) (s2 := (9, [some (.inr (.inr (some (5, i0)))), some (.inl a1), some (.inl a2), some (.inl a3), none], [], m)) rfl hres (fun hc hres => ?_) (fun hc hres => ?_)
    · refine e_steps 1 (s' := (14, [some (.inr (.inr (some (5, i0)))), some (.inl a1), some (.inl a2), some (.inl a3), none], [.inl 0], m)) rfl ?_
      exact e_mask (L' := [some (.inr (.inr (some (5, i0)))), some (.inl a1), some (.inl a2), some (.inl a3), none]) rfl (hk2 _ hres)
    · refine e_steps 2 (s' := (14, [some (.inr (.inr (some (5, i0)))), some (.inl a1), some (.inl a2), some (.inl a3), none], [.inl 1], m)) rfl ?_
      exact e_mask (L' := [some (.inr (.inr (some (5, i0)))), some (.inl a1), some (.inl a2), some (.inl a3), none]) rfl (hk2 _ hres)
