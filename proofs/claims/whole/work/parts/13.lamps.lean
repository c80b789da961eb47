/-- GlassThreads$Lamps.setNeeds(IIII)V -/
def f_X2_setNeeds (a1 : Int32) (a2 : Int32) (a3 : Int32) (a4 : Int32) (m : mm_M) : Option (mm_M) :=
mm_let (mm_w m 47 0 0 a1) fun m1 =>
mm_let (mm_w m1 47 0 1 a2) fun m2 =>
mm_let (mm_w m2 47 0 2 a3) fun m3 =>
mm_let (mm_w m3 47 0 3 a4) fun m4 =>
some m4
set_option maxHeartbeats 4000000 in
set_option maxRecDepth 100000 in
theorem k_X2_setNeeds (d : Nat) (hd : 0 ≤ d) (a1 : Int32) (a2 : Int32) (a3 : Int32) (a4 : Int32) (m : mm_M) (r : mm_M) (hres : f_X2_setNeeds a1 a2 a3 a4 m = some r) : mm_X d 126 [.inr (.inr (some (8, 0))), .inl a1, .inl a2, .inl a3, .inl a4] m (.inl none, r, 0, 0) := by
  unfold f_X2_setNeeds at hres
  show mm_E d 126 (0, [some (.inr (.inr (some (8, 0)))), some (.inl a1), some (.inl a2), some (.inl a3), some (.inl a4)], [], m) (.inl none, r, 0, 0)
  refine e_steps 5 (s' := (7, [some (.inr (.inr (some (8, 0)))), some (.inl a1), some (.inl a2), some (.inl a3), some (.inl a4)], [], (mm_w m 47 0 0 a1))) rfl ?_
  refine e_let (fun (m1 : mm_M) => (7, [some (.inr (.inr (some (8, 0)))), some (.inl a1), some (.inl a2), some (.inl a3), some (.inl a4)], [], m1)) hres (fun m1 hres => ?_)
  refine e_steps 5 (s' := (14, [some (.inr (.inr (some (8, 0)))), some (.inl a1), some (.inl a2), some (.inl a3), some (.inl a4)], [], (mm_w m1 47 0 1 a2))) rfl ?_
  refine e_let (fun (m2 : mm_M) => (14, [some (.inr (.inr (some (8, 0)))), some (.inl a1), some (.inl a2), some (.inl a3), some (.inl a4)], [], m2)) hres (fun m2 hres => ?_)
  refine e_steps 5 (s' := (21, [some (.inr (.inr (some (8, 0)))), some (.inl a1), some (.inl a2), some (.inl a3), some (.inl a4)], [], (mm_w m2 47 0 2 a3))) rfl ?_
  refine e_let (fun (m3 : mm_M) => (21, [some (.inr (.inr (some (8, 0)))), some (.inl a1), some (.inl a2), some (.inl a3), some (.inl a4)], [], m3)) hres (fun m3 hres => ?_)
  refine e_steps 5 (s' := (29, [some (.inr (.inr (some (8, 0)))), some (.inl a1), some (.inl a2), some (.inl a3), some (.inl a4)], [], (mm_w m3 47 0 3 a4))) rfl ?_
  refine e_let (fun (m4 : mm_M) => (29, [some (.inr (.inr (some (8, 0)))), some (.inl a1), some (.inl a2), some (.inl a3), some (.inl a4)], [], m4)) hres (fun m4 hres => ?_)
  obtain rfl := Option.some.inj hres
  exact e_ret rfl rfl
/-- GlassThreads$Lamps.measure(LGlassThreads$Scene;II)V -/
def f_X2_measure (a2 : Int32) (a3 : Int32) (m : mm_M) : Option (mm_M) :=
(mm_b1 (mm_loop (σ := Int32 × mm_M) (ρ := (mm_M)) (fun (s : Int32 × mm_M) => match s with
| (v2, m3) => (if 8 ≤ v2 then (some (.inr m3))
else (if mm_in a2 4 then (
mm_let (0 + a2.toNatClampNeg) fun i4 =>
if mm_in a2 4 then (
mm_b1 (f_X6_marginOf (a3 + (v2 * 500)) (m3 47 0 a2.toNatClampNeg) m3) fun r5 =>
if mm_in v2 8 then (
mm_let (mm_w m3 49 i4 v2.toNatClampNeg r5) fun m6 =>
mm_let (v2 + 1) fun v7 =>
some (.inl (v7, m6))) else none) else none) else none) : Option ((Int32 × mm_M) ⊕ ((mm_M))))) mm_fu (0, m)) fun m8 =>
some m8)
set_option maxHeartbeats 4000000 in
set_option maxRecDepth 100000 in
theorem k_X2_measure (d : Nat) (hd : 3 ≤ d) (a2 : Int32) (a3 : Int32) (m : mm_M) (r : mm_M) (hres : f_X2_measure a2 a3 m = some r) : mm_X d 127 [.inr (.inr (some (8, 0))), .inr (.inr (some (4, 0))), .inl a2, .inl a3] m (.inl none, r, 0, 0) := by
  unfold f_X2_measure at hres
  obtain ⟨d, rfl⟩ : ∃ e, d = e + 1 := ⟨d - 1, by omega⟩
  show mm_E (d + 1) 127 (0, [some (.inr (.inr (some (8, 0)))), some (.inr (.inr (some (4, 0)))), some (.inl a2), some (.inl a3), none], [], m) (.inl none, r, 0, 0)
  refine e_steps 2 (s' := (3, [some (.inr (.inr (some (8, 0)))), some (.inr (.inr (some (4, 0)))), some (.inl a2), some (.inl a3), some (.inl 0)], [], m)) rfl ?_
  refine e_mask (L' := [some (.inr (.inr (some (8, 0)))), some (.inr (.inr (some (4, 0)))), some (.inl a2), some (.inl a3), some (.inl 0)]) rfl ?_
  refine e_loopb (φ := fun s => (3, [some (.inr (.inr (some (8, 0)))), some (.inr (.inr (some (4, 0)))), some (.inl a2), some (.inl a3), some (.inl s.1)], [], s.2)) (K := fun t => mm_E (d + 1) 127 (43, [none, none, none, none, none], [], t) (.inl none, r, 0, 0)) hres (fun m8 hres => ?_) (fun s ol1 hres hcl1 hxl1 => ?_)
  · show mm_E (d + 1) 127 (43, [none, none, none, none, none], [], m8) (.inl none, r, 0, 0)
    obtain rfl := Option.some.inj hres
    exact e_ret rfl rfl
  · obtain ⟨v2, m3⟩ := s
    show mm_E (d + 1) 127 (3, [some (.inr (.inr (some (8, 0)))), some (.inr (.inr (some (4, 0)))), some (.inl a2), some (.inl a3), some (.inl v2)], [], m3) (.inl none, r, 0, 0)
    refine e_steps 2 (s' := (7, [some (.inr (.inr (some (8, 0)))), some (.inr (.inr (some (4, 0)))), some (.inl a2), some (.inl a3), some (.inl v2)], [.inl 8, .inl v2], m3)) rfl ?_
    refine e_if (s1 := (43, [some (.inr (.inr (some (8, 0)))), some (.inr (.inr (some (4, 0)))), some (.inl a2), some (.inl a3), some (.inl v2)], [], m3)) (s2 := (10, [some (.inr (.inr (some (8, 0)))), some (.inr (.inr (some (4, 0)))), some (.inl a2), some (.inl a3), some (.inl v2)], [], m3)) rfl hres (fun hc hres => ?_) (fun hc hres => ?_)
    · obtain rfl := Option.some.inj hres
      exact e_mask (L' := [none, none, none, none, none]) rfl (hxl1 _ rfl)
    · refine e_steps 3 (s' := (15, [some (.inr (.inr (some (8, 0)))), some (.inr (.inr (some (4, 0)))), some (.inl a2), some (.inl a3), some (.inl v2)], [.inl a2, .inr (.inr (some (48, 0)))], m3)) rfl ?_
      refine e_gd (s1 := (16, [some (.inr (.inr (some (8, 0)))), some (.inr (.inr (some (4, 0)))), some (.inl a2), some (.inl a3), some (.inl v2)], [.inr (.inr (some (49, (0 + a2.toNatClampNeg))))], m3)) rfl hres (fun hc hres => ?_)
      refine e_let (fun (i4 : Nat) => (16, [some (.inr (.inr (some (8, 0)))), some (.inr (.inr (some (4, 0)))), some (.inl a2), some (.inl a3), some (.inl v2)], [.inr (.inr (some (49, i4)))], m3)) hres (fun i4 hres => ?_)
      refine e_steps 10 (s' := (32, [some (.inr (.inr (some (8, 0)))), some (.inr (.inr (some (4, 0)))), some (.inl a2), some (.inl a3), some (.inl v2)], [.inl a2, .inr (.inr (some (47, 0))), .inl (a3 + (v2 * 500)), .inr (.inr (some (4, 0))), .inl v2, .inr (.inr (some (49, i4)))], m3)) rfl ?_
      refine e_gd (s1 := (33, [some (.inr (.inr (some (8, 0)))), some (.inr (.inr (some (4, 0)))), some (.inl a2), some (.inl a3), some (.inl v2)], [.inl (m3 47 0 a2.toNatClampNeg), .inl (a3 + (v2 * 500)), .inr (.inr (some (4, 0))), .inl v2, .inr (.inr (some (49, i4)))], m3)) rfl hres (fun hc hres => ?_)
      obtain ⟨r5, hv, hres⟩ := mm_b1_some hres
      refine e_call0 (pc := 36) (L := [some (.inr (.inr (some (8, 0)))), some (.inr (.inr (some (4, 0)))), some (.inl a2), some (.inl a3), some (.inl v2)]) (st := [.inl v2, .inr (.inr (some (49, i4)))]) (m' := m3) (v := some (.inl r5)) rfl (k_X6_marginOf d (by omega) (a3 + (v2 * 500)) (m3 47 0 a2.toNatClampNeg) _ _ hv) ?_
      show mm_E (d + 1) 127 (36, [some (.inr (.inr (some (8, 0)))), some (.inr (.inr (some (4, 0)))), some (.inl a2), some (.inl a3), some (.inl v2)], [.inl r5, .inl v2, .inr (.inr (some (49, i4)))], m3) (.inl none, r, 0, 0)
      refine e_gd (s1 := (37, [some (.inr (.inr (some (8, 0)))), some (.inr (.inr (some (4, 0)))), some (.inl a2), some (.inl a3), some (.inl v2)], [], (mm_w m3 49 i4 v2.toNatClampNeg r5))) rfl hres (fun hc hres => ?_)
      refine e_let (fun (m6 : mm_M) => (37, [some (.inr (.inr (some (8, 0)))), some (.inr (.inr (some (4, 0)))), some (.inl a2), some (.inl a3), some (.inl v2)], [], m6)) hres (fun m6 hres => ?_)
      refine e_steps 1 (s' := (40, [some (.inr (.inr (some (8, 0)))), some (.inr (.inr (some (4, 0)))), some (.inl a2), some (.inl a3), some (.inl (v2 + 1))], [], m6)) rfl ?_
      refine e_let (fun (v7 : Int32) => (40, [some (.inr (.inr (some (8, 0)))), some (.inr (.inr (some (4, 0)))), some (.inl a2), some (.inl a3), some (.inl v7)], [], m6)) hres (fun v7 hres => ?_)
      refine e_steps 1 (s' := (3, [some (.inr (.inr (some (8, 0)))), some (.inr (.inr (some (4, 0)))), some (.inl a2), some (.inl a3), some (.inl v7)], [], m6)) rfl ?_
      obtain rfl := Option.some.inj hres
      exact e_mask (L' := [some (.inr (.inr (some (8, 0)))), some (.inr (.inr (some (4, 0)))), some (.inl a2), some (.inl a3), some (.inl v7)]) rfl (hcl1 _ rfl)
/-- GlassThreads$Lamps.setTrial(II)I -/
def f_X2_setTrial (a1 : Int32) (a2 : Int32) (m : mm_M) : Option (Int32 × mm_M) :=
mm_let (a1 - 1) fun v1 =>
(mm_b1 (mm_loop (σ := Int32 × Int32 × Int32 × mm_M) (ρ := (Int32 × mm_M)) (fun (s : Int32 × Int32 × Int32 × mm_M) => match s with
| (v3, v4, v5, m6) => (if v5 < 0 then (some (.inr (v4, m6)))
else (if mm_in v5 4 then (
mm_let (mm_w m6 50 0 v5.toNatClampNeg (v3 % 8)) fun m7 =>
if mm_in v5 4 then (
mm_let (v4 + (m7 50 0 v5.toNatClampNeg)) fun v8 =>
mm_let (v3 / 8) fun v9 =>
mm_let (v5 + (-1)) fun v10 =>
some (.inl (v9, v8, v10, m7))) else none) else none) : Option ((Int32 × Int32 × Int32 × mm_M) ⊕ ((Int32 × mm_M))))) mm_fu (a2, 0, v1, m)) fun t => match t with
| (v11, m12) => some (v11, m12))
set_option maxHeartbeats 4000000 in
set_option maxRecDepth 100000 in
theorem k_X2_setTrial (d : Nat) (hd : 0 ≤ d) (a1 : Int32) (a2 : Int32) (m : mm_M) (r : Int32 × mm_M) (hres : f_X2_setTrial a1 a2 m = some r) : mm_X d 129 [.inr (.inr (some (8, 0))), .inl a1, .inl a2] m (.inl (some (.inl r.1)), r.2, 0, 0) := by
  unfold f_X2_setTrial at hres
  show mm_E d 129 (0, [some (.inr (.inr (some (8, 0)))), some (.inl a1), some (.inl a2), none, none, none], [], m) (.inl (some (.inl r.1)), r.2, 0, 0)
  refine e_steps 8 (s' := (10, [some (.inr (.inr (some (8, 0)))), some (.inl a1), some (.inl a2), some (.inl a2), some (.inl 0), some (.inl (a1 - 1))], [], m)) rfl ?_
  refine e_let (fun (v1 : Int32) => (10, [some (.inr (.inr (some (8, 0)))), some (.inl a1), some (.inl a2), some (.inl a2), some (.inl 0), some (.inl v1)], [], m)) hres (fun v1 hres => ?_)
  refine e_mask (L' := [some (.inr (.inr (some (8, 0)))), none, none, some (.inl a2), some (.inl 0), some (.inl v1)]) rfl ?_
  refine e_loopb (φ := fun s => (10, [some (.inr (.inr (some (8, 0)))), none, none, some (.inl s.1), some (.inl s.2.1), some (.inl s.2.2.1)], [], s.2.2.2)) (K := fun t => mm_E d 129 (49, [none, none, none, none, some (.inl t.1), none], [], t.2) (.inl (some (.inl r.1)), r.2, 0, 0)) hres (fun t hres => ?_) (fun s ol2 hres hcl2 hxl2 => ?_)
  · obtain ⟨v11, m12⟩ := t
    show mm_E d 129 (49, [none, none, none, none, some (.inl v11), none], [], m12) (.inl (some (.inl r.1)), r.2, 0, 0)
    refine e_steps 1 (s' := (51, [none, none, none, none, some (.inl v11), none], [.inl v11], m12)) rfl ?_
    obtain rfl := Option.some.inj hres
    exact e_ret rfl rfl
  · obtain ⟨v3, v4, v5, m6⟩ := s
    show mm_E d 129 (10, [some (.inr (.inr (some (8, 0)))), none, none, some (.inl v3), some (.inl v4), some (.inl v5)], [], m6) (.inl (some (.inl r.1)), r.2, 0, 0)
    refine e_steps 1 (s' := (12, [some (.inr (.inr (some (8, 0)))), none, none, some (.inl v3), some (.inl v4), some (.inl v5)], [.inl v5], m6)) rfl ?_
    refine e_if (s1 := (49, [some (.inr (.inr (some (8, 0)))), none, none, some (.inl v3), some (.inl v4), some (.inl v5)], [], m6)) (s2 := (15, [some (.inr (.inr (some (8, 0)))), none, none, some (.inl v3), some (.inl v4), some (.inl v5)], [], m6)) rfl hres (fun hc hres => ?_) (fun hc hres => ?_)
    · obtain rfl := Option.some.inj hres
      exact e_mask (L' := [none, none, none, none, some (.inl v4), none]) rfl (hxl2 _ rfl)
    · refine e_steps 6 (s' := (25, [some (.inr (.inr (some (8, 0)))), none, none, some (.inl v3), some (.inl v4), some (.inl v5)], [.inl (v3 % 8), .inl v5, .inr (.inr (some (50, 0)))], m6)) rfl ?_
      refine e_gd (s1 := (26, [some (.inr (.inr (some (8, 0)))), none, none, some (.inl v3), some (.inl v4), some (.inl v5)], [], (mm_w m6 50 0 v5.toNatClampNeg (v3 % 8)))) rfl hres (fun hc hres => ?_)
      refine e_let (fun (m7 : mm_M) => (26, [some (.inr (.inr (some (8, 0)))), none, none, some (.inl v3), some (.inl v4), some (.inl v5)], [], m7)) hres (fun m7 hres => ?_)
      refine e_steps 4 (s' := (34, [some (.inr (.inr (some (8, 0)))), none, none, some (.inl v3), some (.inl v4), some (.inl v5)], [.inl v5, .inr (.inr (some (50, 0))), .inl v4], m7)) rfl ?_
      refine e_gd (s1 := (35, [some (.inr (.inr (some (8, 0)))), none, none, some (.inl v3), some (.inl v4), some (.inl v5)], [.inl (m7 50 0 v5.toNatClampNeg), .inl v4], m7)) rfl hres (fun hc hres => ?_)
      refine e_steps 2 (s' := (38, [some (.inr (.inr (some (8, 0)))), none, none, some (.inl v3), some (.inl (v4 + (m7 50 0 v5.toNatClampNeg))), some (.inl v5)], [], m7)) rfl ?_
      refine e_let (fun (v8 : Int32) => (38, [some (.inr (.inr (some (8, 0)))), none, none, some (.inl v3), some (.inl v8), some (.inl v5)], [], m7)) hres (fun v8 hres => ?_)
      refine e_steps 4 (s' := (43, [some (.inr (.inr (some (8, 0)))), none, none, some (.inl (v3 / 8)), some (.inl v8), some (.inl v5)], [], m7)) rfl ?_
      refine e_let (fun (v9 : Int32) => (43, [some (.inr (.inr (some (8, 0)))), none, none, some (.inl v9), some (.inl v8), some (.inl v5)], [], m7)) hres (fun v9 hres => ?_)
      refine e_steps 1 (s' := (46, [some (.inr (.inr (some (8, 0)))), none, none, some (.inl v9), some (.inl v8), some (.inl (v5 + (-1)))], [], m7)) rfl ?_
      refine e_let (fun (v10 : Int32) => (46, [some (.inr (.inr (some (8, 0)))), none, none, some (.inl v9), some (.inl v8), some (.inl v10)], [], m7)) hres (fun v10 hres => ?_)
      refine e_steps 1 (s' := (10, [some (.inr (.inr (some (8, 0)))), none, none, some (.inl v9), some (.inl v8), some (.inl v10)], [], m7)) rfl ?_
      obtain rfl := Option.some.inj hres
      exact e_mask (L' := [some (.inr (.inr (some (8, 0)))), none, none, some (.inl v9), some (.inl v8), some (.inl v10)]) rfl (hcl2 _ rfl)
/-- GlassThreads$Lamps.disturbed(II)I -/
def f_X2_disturbed (a1 : Int32) (a2 : Int32) (m : mm_M) : Option (Int32) :=
(mm_b1 (mm_loop (σ := Int32 × Int32) (ρ := (Int32)) (fun (s : Int32 × Int32) => match s with
| (v2, v3) => (if a1 ≤ v3 then (some (.inr v2))
else (if v3 = a2 then (mm_let (v3 + 1) fun v4 =>
some (.inl (v2, v4)))
else (if mm_in v3 4 then (
if (mm_abs (v3 - a2)) = 0 then none else (
mm_let (v2 + (((m 50 0 v3.toNatClampNeg) * 100) / (mm_abs (v3 - a2)))) fun v5 =>
mm_let (v3 + 1) fun v6 =>
some (.inl (v5, v6)))) else none)) : Option ((Int32 × Int32) ⊕ ((Int32))))) mm_fu (0, 0)) fun v7 =>
some v7)
set_option maxHeartbeats 4000000 in
set_option maxRecDepth 100000 in
theorem k_X2_disturbed (d : Nat) (hd : 0 ≤ d) (a1 : Int32) (a2 : Int32) (m : mm_M) (r : Int32) (hres : f_X2_disturbed a1 a2 m = some r) : mm_X d 131 [.inr (.inr (some (8, 0))), .inl a1, .inl a2] m (.inl (some (.inl r)), m, 0, 0) := by
  unfold f_X2_disturbed at hres
  show mm_E d 131 (0, [some (.inr (.inr (some (8, 0)))), some (.inl a1), some (.inl a2), none, none], [], m) (.inl (some (.inl r)), m, 0, 0)
  refine e_steps 4 (s' := (5, [some (.inr (.inr (some (8, 0)))), some (.inl a1), some (.inl a2), some (.inl 0), some (.inl 0)], [], m)) rfl ?_
  refine e_mask (L' := [some (.inr (.inr (some (8, 0)))), some (.inl a1), some (.inl a2), some (.inl 0), some (.inl 0)]) rfl ?_
  refine e_loopb (φ := fun s => (5, [some (.inr (.inr (some (8, 0)))), some (.inl a1), some (.inl a2), some (.inl s.1), some (.inl s.2)], [], m)) (K := fun t => mm_E d 131 (44, [none, none, none, some (.inl t), none], [], m) (.inl (some (.inl r)), m, 0, 0)) hres (fun v7 hres => ?_) (fun s ol1 hres hcl1 hxl1 => ?_)
  · show mm_E d 131 (44, [none, none, none, some (.inl v7), none], [], m) (.inl (some (.inl r)), m, 0, 0)
    refine e_steps 1 (s' := (45, [none, none, none, some (.inl v7), none], [.inl v7], m)) rfl ?_
    obtain rfl := Option.some.inj hres
    exact e_ret rfl rfl
  · obtain ⟨v2, v3⟩ := s
    show mm_E d 131 (5, [some (.inr (.inr (some (8, 0)))), some (.inl a1), some (.inl a2), some (.inl v2), some (.inl v3)], [], m) (.inl (some (.inl r)), m, 0, 0)
    refine e_steps 2 (s' := (8, [some (.inr (.inr (some (8, 0)))), some (.inl a1), some (.inl a2), some (.inl v2), some (.inl v3)], [.inl a1, .inl v3], m)) rfl ?_
    refine e_if (s1 := (44, [some (.inr (.inr (some (8, 0)))), some (.inl a1), some (.inl a2), some (.inl v2), some (.inl v3)], [], m)) (s2 := (11, [some (.inr (.inr (some (8, 0)))), some (.inl a1), some (.inl a2), some (.inl v2), some (.inl v3)], [], m)) rfl hres (fun hc hres => ?_) (fun hc hres => ?_)
    · obtain rfl := Option.some.inj hres
      exact e_mask (L' := [none, none, none, some (.inl v2), none]) rfl (hxl1 _ rfl)
    · refine e_steps 2 (s' := (14, [some (.inr (.inr (some (8, 0)))), some (.inl a1), some (.inl a2), some (.inl v2), some (.inl v3)], [.inl a2, .inl v3], m)) rfl ?_
      refine e_if (s1 := (38, [some (.inr (.inr (some (8, 0)))), some (.inl a1), some (.inl a2), some (.inl v2), some (.inl v3)], [], m)) (s2 := (17, [some (.inr (.inr (some (8, 0)))), some (.inl a1), some (.inl a2), some (.inl v2), some (.inl v3)], [], m)) rfl hres (fun hc hres => ?_) (fun hc hres => ?_)
      · refine e_steps 1 (s' := (41, [some (.inr (.inr (some (8, 0)))), some (.inl a1), some (.inl a2), some (.inl v2), some (.inl (v3 + 1))], [], m)) rfl ?_
        refine e_let (fun (v4 : Int32) => (41, [some (.inr (.inr (some (8, 0)))), some (.inl a1), some (.inl a2), some (.inl v2), some (.inl v4)], [], m)) hres (fun v4 hres => ?_)
        refine e_steps 1 (s' := (5, [some (.inr (.inr (some (8, 0)))), some (.inl a1), some (.inl a2), some (.inl v2), some (.inl v4)], [], m)) rfl ?_
        obtain rfl := Option.some.inj hres
        exact e_mask (L' := [some (.inr (.inr (some (8, 0)))), some (.inl a1), some (.inl a2), some (.inl v2), some (.inl v4)]) rfl (hcl1 _ rfl)
      · refine e_steps 4 (s' := (24, [some (.inr (.inr (some (8, 0)))), some (.inl a1), some (.inl a2), some (.inl v2), some (.inl v3)], [.inl v3, .inr (.inr (some (50, 0))), .inl v2], m)) rfl ?_
        refine e_gd (s1 := (25, [some (.inr (.inr (some (8, 0)))), some (.inl a1), some (.inl a2), some (.inl v2), some (.inl v3)], [.inl (m 50 0 v3.toNatClampNeg), .inl v2], m)) rfl hres (fun hc hres => ?_)
        refine e_steps 6 (s' := (35, [some (.inr (.inr (some (8, 0)))), some (.inl a1), some (.inl a2), some (.inl v2), some (.inl v3)], [.inl (mm_abs (v3 - a2)), .inl ((m 50 0 v3.toNatClampNeg) * 100), .inl v2], m)) rfl ?_
        refine e_gn (s1 := (36, [some (.inr (.inr (some (8, 0)))), some (.inl a1), some (.inl a2), some (.inl v2), some (.inl v3)], [.inl (((m 50 0 v3.toNatClampNeg) * 100) / (mm_abs (v3 - a2))), .inl v2], m)) rfl hres (fun hc hres => ?_)
        refine e_steps 2 (s' := (38, [some (.inr (.inr (some (8, 0)))), some (.inl a1), some (.inl a2), some (.inl (v2 + (((m 50 0 v3.toNatClampNeg) * 100) / (mm_abs (v3 - a2))))), some (.inl v3)], [], m)) rfl ?_
        refine e_let (fun (v5 : Int32) => (38, [some (.inr (.inr (some (8, 0)))), some (.inl a1), some (.inl a2), some (.inl v5), some (.inl v3)], [], m)) hres (fun v5 hres => ?_)
        refine e_steps 1 (s' := (41, [some (.inr (.inr (some (8, 0)))), some (.inl a1), some (.inl a2), some (.inl v5), some (.inl (v3 + 1))], [], m)) rfl ?_
        refine e_let (fun (v6 : Int32) => (41, [some (.inr (.inr (some (8, 0)))), some (.inl a1), some (.inl a2), some (.inl v5), some (.inl v6)], [], m)) hres (fun v6 hres => ?_)
        refine e_steps 1 (s' := (5, [some (.inr (.inr (some (8, 0)))), some (.inl a1), some (.inl a2), some (.inl v5), some (.inl v6)], [], m)) rfl ?_
        obtain rfl := Option.some.inj hres
        exact e_mask (L' := [some (.inr (.inr (some (8, 0)))), some (.inl a1), some (.inl a2), some (.inl v5), some (.inl v6)]) rfl (hcl1 _ rfl)
/-- GlassThreads$Lamps.leastMargin(I)I -/
def f_X2_leastMargin (a1 : Int32) (m : mm_M) : Option (Int32) :=
(mm_b1 (mm_loop (σ := Int32 × Int32) (ρ := (Int32)) (fun (s : Int32 × Int32) => match s with
| (v2, v3) => (if a1 ≤ v3 then (some (.inr v2))
else (if mm_in v3 4 then (
mm_let (0 + v3.toNatClampNeg) fun i4 =>
if mm_in v3 4 then (
if mm_in (m 50 0 v3.toNatClampNeg) 8 then (
mm_b1 (f_X2_disturbed a1 v3 m) fun r5 =>
mm_let ((m 49 i4 (m 50 0 v3.toNatClampNeg).toNatClampNeg) - r5) fun v6 =>
if v3 ≠ 0 then (mm_let (mm_min v2 v6) fun v7 =>
mm_let (v3 + 1) fun v8 =>
some (.inl (v7, v8)))
else (mm_let (v3 + 1) fun v9 =>
some (.inl (v6, v9)))) else none) else none) else none) : Option ((Int32 × Int32) ⊕ ((Int32))))) mm_fu (0, 0)) fun v10 =>
some v10)
set_option maxHeartbeats 4000000 in
set_option maxRecDepth 100000 in
theorem k_X2_leastMargin (d : Nat) (hd : 1 ≤ d) (a1 : Int32) (m : mm_M) (r : Int32) (hres : f_X2_leastMargin a1 m = some r) : mm_X d 130 [.inr (.inr (some (8, 0))), .inl a1] m (.inl (some (.inl r)), m, 0, 0) := by
  unfold f_X2_leastMargin at hres
  obtain ⟨d, rfl⟩ : ∃ e, d = e + 1 := ⟨d - 1, by omega⟩
  show mm_E (d + 1) 130 (0, [some (.inr (.inr (some (8, 0)))), some (.inl a1), none, none, none], [], m) (.inl (some (.inl r)), m, 0, 0)
  refine e_steps 4 (s' := (4, [some (.inr (.inr (some (8, 0)))), some (.inl a1), some (.inl 0), some (.inl 0), none], [], m)) rfl ?_
  refine e_mask (L' := [some (.inr (.inr (some (8, 0)))), some (.inl a1), some (.inl 0), some (.inl 0), none]) rfl ?_
  refine e_loopb (φ := fun s => (4, [some (.inr (.inr (some (8, 0)))), some (.inl a1), some (.inl s.1), some (.inl s.2), none], [], m)) (K := fun t => mm_E (d + 1) 130 (53, [none, none, some (.inl t), none, none], [], m) (.inl (some (.inl r)), m, 0, 0)) hres (fun v10 hres => ?_) (fun s ol1 hres hcl1 hxl1 => ?_)
  · show mm_E (d + 1) 130 (53, [none, none, some (.inl v10), none, none], [], m) (.inl (some (.inl r)), m, 0, 0)
    refine e_steps 1 (s' := (54, [none, none, some (.inl v10), none, none], [.inl v10], m)) rfl ?_
    obtain rfl := Option.some.inj hres
    exact e_ret rfl rfl
  · obtain ⟨v2, v3⟩ := s
    show mm_E (d + 1) 130 (4, [some (.inr (.inr (some (8, 0)))), some (.inl a1), some (.inl v2), some (.inl v3), none], [], m) (.inl (some (.inl r)), m, 0, 0)
    refine e_steps 2 (s' := (6, [some (.inr (.inr (some (8, 0)))), some (.inl a1), some (.inl v2), some (.inl v3), none], [.inl a1, .inl v3], m)) rfl ?_
    refine e_if (s1 := (53, [some (.inr (.inr (some (8, 0)))), some (.inl a1), some (.inl v2), some (.inl v3), none], [], m)) (s2 := (9, [some (.inr (.inr (some (8, 0)))), some (.inl a1), some (.inl v2), some (.inl v3), none], [], m)) rfl hres (fun hc hres => ?_) (fun hc hres => ?_)
    · obtain rfl := Option.some.inj hres
      exact e_mask (L' := [none, none, some (.inl v2), none, none]) rfl (hxl1 _ rfl)
    · refine e_steps 3 (s' := (14, [some (.inr (.inr (some (8, 0)))), some (.inl a1), some (.inl v2), some (.inl v3), none], [.inl v3, .inr (.inr (some (48, 0)))], m)) rfl ?_
      refine e_gd (s1 := (15, [some (.inr (.inr (some (8, 0)))), some (.inl a1), some (.inl v2), some (.inl v3), none], [.inr (.inr (some (49, (0 + v3.toNatClampNeg))))], m)) rfl hres (fun hc hres => ?_)
      refine e_let (fun (i4 : Nat) => (15, [some (.inr (.inr (some (8, 0)))), some (.inl a1), some (.inl v2), some (.inl v3), none], [.inr (.inr (some (49, i4)))], m)) hres (fun i4 hres => ?_)
      refine e_steps 3 (s' := (20, [some (.inr (.inr (some (8, 0)))), some (.inl a1), some (.inl v2), some (.inl v3), none], [.inl v3, .inr (.inr (some (50, 0))), .inr (.inr (some (49, i4)))], m)) rfl ?_
      refine e_gd (s1 := (21, [some (.inr (.inr (some (8, 0)))), some (.inl a1), some (.inl v2), some (.inl v3), none], [.inl (m 50 0 v3.toNatClampNeg), .inr (.inr (some (49, i4)))], m)) rfl hres (fun hc hres => ?_)
      refine e_gd (s1 := (22, [some (.inr (.inr (some (8, 0)))), some (.inl a1), some (.inl v2), some (.inl v3), none], [.inl (m 49 i4 (m 50 0 v3.toNatClampNeg).toNatClampNeg)], m)) rfl hres (fun hc hres => ?_)
      refine e_steps 3 (s' := (25, [some (.inr (.inr (some (8, 0)))), some (.inl a1), some (.inl v2), some (.inl v3), none], [.inl v3, .inl a1, .inr (.inr (some (8, 0))), .inl (m 49 i4 (m 50 0 v3.toNatClampNeg).toNatClampNeg)], m)) rfl ?_
      obtain ⟨r5, hv, hres⟩ := mm_b1_some hres
      refine e_call0 (pc := 28) (L := [some (.inr (.inr (some (8, 0)))), some (.inl a1), some (.inl v2), some (.inl v3), none]) (st := [.inl (m 49 i4 (m 50 0 v3.toNatClampNeg).toNatClampNeg)]) (m' := m) (v := some (.inl r5)) rfl (k_X2_disturbed d (by omega) a1 v3 _ _ hv) ?_
      show mm_E (d + 1) 130 (28, [some (.inr (.inr (some (8, 0)))), some (.inl a1), some (.inl v2), some (.inl v3), none], [.inl r5, .inl (m 49 i4 (m 50 0 v3.toNatClampNeg).toNatClampNeg)], m) (.inl (some (.inl r)), m, 0, 0)
      refine e_steps 2 (s' := (31, [some (.inr (.inr (some (8, 0)))), some (.inl a1), some (.inl v2), some (.inl v3), some (.inl ((m 49 i4 (m 50 0 v3.toNatClampNeg).toNatClampNeg) - r5))], [], m)) rfl ?_
      refine e_let (fun (v6 : Int32) => (31, [some (.inr (.inr (some (8, 0)))), some (.inl a1), some (.inl v2), some (.inl v3), some (.inl v6)], [], m)) hres (fun v6 hres => ?_)
      refine e_steps 1 (s' := (32, [some (.inr (.inr (some (8, 0)))), some (.inl a1), some (.inl v2), some (.inl v3), some (.inl v6)], [.inl v3], m)) rfl ?_
      refine e_if (s1 := (40, [some (.inr (.inr (some (8, 0)))), some (.inl a1), some (.inl v2), some (.inl v3), some (.inl v6)], [], m)) (s2 := (35, [some (.inr (.inr (some (8, 0)))), some (.inl a1), some (.inl v2), some (.inl v3), some (.inl v6)], [], m)) rfl hres (fun hc hres => ?_) (fun hc hres => ?_)
      · refine e_steps 3 (s' := (46, [some (.inr (.inr (some (8, 0)))), some (.inl a1), some (.inl v2), some (.inl v3), some (.inl v6)], [.inl (mm_min v2 v6)], m)) rfl ?_
        refine e_mask (L' := [some (.inr (.inr (some (8, 0)))), some (.inl a1), none, some (.inl v3), none]) rfl ?_
        refine e_steps 1 (s' := (47, [some (.inr (.inr (some (8, 0)))), some (.inl a1), some (.inl (mm_min v2 v6)), some (.inl v3), none], [], m)) rfl ?_
        refine e_let (fun (v7 : Int32) => (47, [some (.inr (.inr (some (8, 0)))), some (.inl a1), some (.inl v7), some (.inl v3), none], [], m)) hres (fun v7 hres => ?_)
        refine e_steps 1 (s' := (50, [some (.inr (.inr (some (8, 0)))), some (.inl a1), some (.inl v7), some (.inl (v3 + 1)), none], [], m)) rfl ?_
        refine e_let (fun (v8 : Int32) => (50, [some (.inr (.inr (some (8, 0)))), some (.inl a1), some (.inl v7), some (.inl v8), none], [], m)) hres (fun v8 hres => ?_)
        refine e_steps 1 (s' := (4, [some (.inr (.inr (some (8, 0)))), some (.inl a1), some (.inl v7), some (.inl v8), none], [], m)) rfl ?_
        obtain rfl := Option.some.inj hres
        exact e_mask (L' := [some (.inr (.inr (some (8, 0)))), some (.inl a1), some (.inl v7), some (.inl v8), none]) rfl (hcl1 _ rfl)
      · refine e_steps 2 (s' := (46, [some (.inr (.inr (some (8, 0)))), some (.inl a1), some (.inl v2), some (.inl v3), some (.inl v6)], [.inl v6], m)) rfl ?_
        refine e_mask (L' := [some (.inr (.inr (some (8, 0)))), some (.inl a1), none, some (.inl v3), none]) rfl ?_
        refine e_steps 2 (s' := (50, [some (.inr (.inr (some (8, 0)))), some (.inl a1), some (.inl v6), some (.inl (v3 + 1)), none], [], m)) rfl ?_
        refine e_let (fun (v9 : Int32) => (50, [some (.inr (.inr (some (8, 0)))), some (.inl a1), some (.inl v6), some (.inl v9), none], [], m)) hres (fun v9 hres => ?_)
        refine e_steps 1 (s' := (4, [some (.inr (.inr (some (8, 0)))), some (.inl a1), some (.inl v6), some (.inl v9), none], [], m)) rfl ?_
        obtain rfl := Option.some.inj hres
        exact e_mask (L' := [some (.inr (.inr (some (8, 0)))), some (.inl a1), some (.inl v6), some (.inl v9), none]) rfl (hcl1 _ rfl)
/-- GlassThreads$Lamps.choose(I)I -/
def f_X2_choose (a1 : Int32) (m : mm_M) : Option (Int32 × mm_M) :=
(mm_b1 (mm_loop (σ := Int32 × Int32) (ρ := (Int32)) (fun (s : Int32 × Int32) => match s with
| (v2, v3) => (if a1 ≤ v3 then (some (.inr v2))
else (mm_let (v2 * 8) fun v4 =>
mm_let (v3 + 1) fun v5 =>
some (.inl (v4, v5))) : Option ((Int32 × Int32) ⊕ ((Int32))))) mm_fu (1, 0)) fun v6 =>
(mm_b1 (mm_loop (σ := Int32 × Int32 × Int32 × mm_M) (ρ := (Int32 × mm_M)) (fun (s : Int32 × Int32 × Int32 × mm_M) => match s with
| (v8, v9, v10, m11) => (if v6 ≤ v10 then (some (.inr (v8, m11)))
else (mm_b2 (f_X2_setTrial a1 v10 m11) fun r12 m13 =>
mm_b1 (f_X2_leastMargin a1 m13) fun r14 =>
mm_let ((if (0 ≤ (0 : Int32) ∧ 0 ≤ (0 : Int32) ∧ 0 ≤ a1) ∧ 0 + a1.toNatClampNeg ≤ 4 ∧ 0 + a1.toNatClampNeg ≤ 4 then (
mm_let (mm_wa m13 51 0 (va_cpy (m13 50 0) (m13 51 0) 0 0 a1.toNatClampNeg)) fun m16 =>
mm_let (v10 + 1) fun v17 =>
some (.inl (r14, r12, v17, m16))) else none : Option ((Int32 × Int32 × Int32 × mm_M) ⊕ ((Int32 × mm_M))))) fun k15 =>
if v9 = (-1) then (k15)
else (if v8 < r14 then (k15)
else (if r14 ≠ v8 then (mm_let (v10 + 1) fun v18 =>
some (.inl (v8, v9, v18, m13)))
else (if v9 ≤ r12 then (mm_let (v10 + 1) fun v19 =>
some (.inl (v8, v9, v19, m13)))
else (k15))))) : Option ((Int32 × Int32 × Int32 × mm_M) ⊕ ((Int32 × mm_M))))) mm_fu (0, (-1), 0, m)) fun t => match t with
| (v20, m21) => mm_let (mm_w m21 8 0 4 a1) fun m22 =>
some (v20, m22)))
set_option maxHeartbeats 4000000 in
set_option maxRecDepth 100000 in
theorem k_X2_choose (d : Nat) (hd : 2 ≤ d) (a1 : Int32) (m : mm_M) (r : Int32 × mm_M) (hres : f_X2_choose a1 m = some r) : mm_X d 128 [.inr (.inr (some (8, 0))), .inl a1] m (.inl (some (.inl r.1)), r.2, 0, 0) := by
  unfold f_X2_choose at hres
  obtain ⟨d, rfl⟩ : ∃ e, d = e + 1 := ⟨d - 1, by omega⟩
  show mm_E (d + 1) 128 (0, [some (.inr (.inr (some (8, 0)))), some (.inl a1), none, none, none, none, none, none], [], m) (.inl (some (.inl r.1)), r.2, 0, 0)
  refine e_steps 4 (s' := (4, [some (.inr (.inr (some (8, 0)))), some (.inl a1), some (.inl 1), some (.inl 0), none, none, none, none], [], m)) rfl ?_
  refine e_mask (L' := [some (.inr (.inr (some (8, 0)))), some (.inl a1), some (.inl 1), some (.inl 0), none, none, none, none]) rfl ?_
  refine e_loopb (φ := fun s => (4, [some (.inr (.inr (some (8, 0)))), some (.inl a1), some (.inl s.1), some (.inl s.2), none, none, none, none], [], m)) (K := fun t => mm_E (d + 1) 128 (20, [some (.inr (.inr (some (8, 0)))), some (.inl a1), some (.inl t), none, none, none, none, none], [], m) (.inl (some (.inl r.1)), r.2, 0, 0)) hres (fun v6 hres => ?_) (fun s ol1 hres hcl1 hxl1 => ?_)
  · show mm_E (d + 1) 128 (20, [some (.inr (.inr (some (8, 0)))), some (.inl a1), some (.inl v6), none, none, none, none, none], [], m) (.inl (some (.inl r.1)), r.2, 0, 0)
    refine e_steps 6 (s' := (28, [some (.inr (.inr (some (8, 0)))), some (.inl a1), some (.inl v6), some (.inl 0), some (.inl (-1)), some (.inl 0), none, none], [], m)) rfl ?_
    refine e_mask (L' := [some (.inr (.inr (some (8, 0)))), some (.inl a1), some (.inl v6), some (.inl 0), some (.inl (-1)), some (.inl 0), none, none]) rfl ?_
    refine e_loopb (φ := fun s => (28, [some (.inr (.inr (some (8, 0)))), some (.inl a1), some (.inl v6), some (.inl s.1), some (.inl s.2.1), some (.inl s.2.2.1), none, none], [], s.2.2.2)) (K := fun t => mm_E (d + 1) 128 (102, [some (.inr (.inr (some (8, 0)))), some (.inl a1), none, some (.inl t.1), none, none, none, none], [], t.2) (.inl (some (.inl r.1)), r.2, 0, 0)) hres (fun t hres => ?_) (fun s ol7 hres hcl7 hxl7 => ?_)
    · obtain ⟨v20, m21⟩ := t
      show mm_E (d + 1) 128 (102, [some (.inr (.inr (some (8, 0)))), some (.inl a1), none, some (.inl v20), none, none, none, none], [], m21) (.inl (some (.inl r.1)), r.2, 0, 0)
      refine e_steps 3 (s' := (107, [some (.inr (.inr (some (8, 0)))), some (.inl a1), none, some (.inl v20), none, none, none, none], [], (mm_w m21 8 0 4 a1))) rfl ?_
      refine e_let (fun (m22 : mm_M) => (107, [some (.inr (.inr (some (8, 0)))), some (.inl a1), none, some (.inl v20), none, none, none, none], [], m22)) hres (fun m22 hres => ?_)
      refine e_steps 1 (s' := (108, [some (.inr (.inr (some (8, 0)))), some (.inl a1), none, some (.inl v20), none, none, none, none], [.inl v20], m22)) rfl ?_
      obtain rfl := Option.some.inj hres
      exact e_ret rfl rfl
    · obtain ⟨v8, v9, v10, m11⟩ := s
      show mm_E (d + 1) 128 (28, [some (.inr (.inr (some (8, 0)))), some (.inl a1), some (.inl v6), some (.inl v8), some (.inl v9), some (.inl v10), none, none], [], m11) (.inl (some (.inl r.1)), r.2, 0, 0)
      refine e_steps 2 (s' := (31, [some (.inr (.inr (some (8, 0)))), some (.inl a1), some (.inl v6), some (.inl v8), some (.inl v9), some (.inl v10), none, none], [.inl v6, .inl v10], m11)) rfl ?_
      refine e_if (s1 := (102, [some (.inr (.inr (some (8, 0)))), some (.inl a1), some (.inl v6), some (.inl v8), some (.inl v9), some (.inl v10), none, none], [], m11)) (s2 := (34, [some (.inr (.inr (some (8, 0)))), some (.inl a1), some (.inl v6), some (.inl v8), some (.inl v9), some (.inl v10), none, none], [], m11)) rfl hres (fun hc hres => ?_) (fun hc hres => ?_)
      · obtain rfl := Option.some.inj hres
        exact e_mask (L' := [some (.inr (.inr (some (8, 0)))), some (.inl a1), none, some (.inl v8), none, none, none, none]) rfl (hxl7 _ rfl)
      · refine e_steps 3 (s' := (38, [some (.inr (.inr (some (8, 0)))), some (.inl a1), some (.inl v6), some (.inl v8), some (.inl v9), some (.inl v10), none, none], [.inl v10, .inl a1, .inr (.inr (some (8, 0)))], m11)) rfl ?_
        obtain ⟨r12, m13, hv, hres⟩ := mm_b2_some hres
        refine e_call0 (pc := 41) (L := [some (.inr (.inr (some (8, 0)))), some (.inl a1), some (.inl v6), some (.inl v8), some (.inl v9), some (.inl v10), none, none]) (st := []) (m' := m13) (v := some (.inl r12)) rfl (k_X2_setTrial d (by omega) a1 v10 _ _ hv) ?_
        show mm_E (d + 1) 128 (41, [some (.inr (.inr (some (8, 0)))), some (.inl a1), some (.inl v6), some (.inl v8), some (.inl v9), some (.inl v10), none, none], [.inl r12], m13) (.inl (some (.inl r.1)), r.2, 0, 0)
        refine e_steps 3 (s' := (45, [some (.inr (.inr (some (8, 0)))), some (.inl a1), some (.inl v6), some (.inl v8), some (.inl v9), some (.inl v10), some (.inl r12), none], [.inl a1, .inr (.inr (some (8, 0)))], m13)) rfl ?_
        obtain ⟨r14, hv, hres⟩ := mm_b1_some hres
        refine e_call0 (pc := 48) (L := [some (.inr (.inr (some (8, 0)))), some (.inl a1), some (.inl v6), some (.inl v8), some (.inl v9), some (.inl v10), some (.inl r12), none]) (st := []) (m' := m13) (v := some (.inl r14)) rfl (k_X2_leastMargin d (by omega) a1 _ _ hv) ?_
        show mm_E (d + 1) 128 (48, [some (.inr (.inr (some (8, 0)))), some (.inl a1), some (.inl v6), some (.inl v8), some (.inl v9), some (.inl v10), some (.inl r12), none], [.inl r14], m13) (.inl (some (.inl r.1)), r.2, 0, 0)
        refine e_steps 3 (s' := (53, [some (.inr (.inr (some (8, 0)))), some (.inl a1), some (.inl v6), some (.inl v8), some (.inl v9), some (.inl v10), some (.inl r12), some (.inl r14)], [.inl (-1), .inl v9], m13)) rfl ?_
        refine e_join (fun k15 => k15 = some ol7 → mm_E (d + 1) 128 (75, [some (.inr (.inr (some (8, 0)))), some (.inl a1), some (.inl v6), none, none, some (.inl v10), some (.inl r12), some (.inl r14)], [], m13) (.inl (some (.inl r.1)), r.2, 0, 0)) hres (fun  hres => ?_) (fun k15 hk15 hres => ?_)
        · refine e_steps 11 (s' := (93, [some (.inr (.inr (some (8, 0)))), some (.inl a1), some (.inl v6), some (.inl r14), some (.inl r12), some (.inl v10), some (.inl r12), some (.inl r14)], [.inl a1, .inl 0, .inr (.inr (some (51, 0))), .inl 0, .inr (.inr (some (50, 0)))], m13)) rfl ?_
          refine e_gd (s1 := (96, [some (.inr (.inr (some (8, 0)))), some (.inl a1), some (.inl v6), some (.inl r14), some (.inl r12), some (.inl v10), some (.inl r12), some (.inl r14)], [], (mm_wa m13 51 0 (va_cpy (m13 50 0) (m13 51 0) 0 0 a1.toNatClampNeg)))) rfl hres (fun hc hres => ?_)
          refine e_let (fun (m16 : mm_M) => (96, [some (.inr (.inr (some (8, 0)))), some (.inl a1), some (.inl v6), some (.inl r14), some (.inl r12), some (.inl v10), some (.inl r12), some (.inl r14)], [], m16)) hres (fun m16 hres => ?_)
          refine e_mask (L' := [some (.inr (.inr (some (8, 0)))), some (.inl a1), some (.inl v6), some (.inl r14), some (.inl r12), some (.inl v10), none, none]) rfl ?_
          refine e_steps 1 (s' := (99, [some (.inr (.inr (some (8, 0)))), some (.inl a1), some (.inl v6), some (.inl r14), some (.inl r12), some (.inl (v10 + 1)), none, none], [], m16)) rfl ?_
          refine e_let (fun (v17 : Int32) => (99, [some (.inr (.inr (some (8, 0)))), some (.inl a1), some (.inl v6), some (.inl r14), some (.inl r12), some (.inl v17), none, none], [], m16)) hres (fun v17 hres => ?_)
          refine e_steps 1 (s' := (28, [some (.inr (.inr (some (8, 0)))), some (.inl a1), some (.inl v6), some (.inl r14), some (.inl r12), some (.inl v17), none, none], [], m16)) rfl ?_
          obtain rfl := Option.some.inj hres
          exact e_mask (L' := [some (.inr (.inr (some (8, 0)))), some (.inl a1), some (.inl v6), some (.inl r14), some (.inl r12), some (.inl v17), none, none]) rfl (hcl7 _ rfl)
        · refine e_if (s1 := (75, [some (.inr (.inr (some (8, 0)))), some (.inl a1), some (.inl v6), some (.inl v8), some (.inl v9), some (.inl v10), some (.inl r12), some (.inl r14)], [], m13)) (s2 := (56, [some (.inr (.inr (some (8, 0)))), some (.inl a1), some (.inl v6), some (.inl v8), some (.inl v9), some (.inl v10), some (.inl r12), some (.inl r14)], [], m13)) rfl hres (fun hc hres => ?_) (fun hc hres => ?_)
          · exact e_mask (L' := [some (.inr (.inr (some (8, 0)))), some (.inl a1), some (.inl v6), none, none, some (.inl v10), some (.inl r12), some (.inl r14)]) rfl (hk15  hres)
          · refine e_steps 2 (s' := (59, [some (.inr (.inr (some (8, 0)))), some (.inl a1), some (.inl v6), some (.inl v8), some (.inl v9), some (.inl v10), some (.inl r12), some (.inl r14)], [.inl v8, .inl r14], m13)) rfl ?_
            refine e_if (s1 := (75, [some (.inr (.inr (some (8, 0)))), some (.inl a1), some (.inl v6), some (.inl v8), some (.inl v9), some (.inl v10), some (.inl r12), some (.inl r14)], [], m13)) (s2 := (62, [some (.inr (.inr (some (8, 0)))), some (.inl a1), some (.inl v6), some (.inl v8), some (.inl v9), some (.inl v10), some (.inl r12), some (.inl r14)], [], m13)) rfl hres (fun hc hres => ?_) (fun hc hres => ?_)
            · exact e_mask (L' := [some (.inr (.inr (some (8, 0)))), some (.inl a1), some (.inl v6), none, none, some (.inl v10), some (.inl r12), some (.inl r14)]) rfl (hk15  hres)
            · refine e_steps 2 (s' := (65, [some (.inr (.inr (some (8, 0)))), some (.inl a1), some (.inl v6), some (.inl v8), some (.inl v9), some (.inl v10), some (.inl r12), some (.inl r14)], [.inl v8, .inl r14], m13)) rfl ?_
              refine e_if (s1 := (96, [some (.inr (.inr (some (8, 0)))), some (.inl a1), some (.inl v6), some (.inl v8), some (.inl v9), some (.inl v10), some (.inl r12), some (.inl r14)], [], m13)) (s2 := (68, [some (.inr (.inr (some (8, 0)))), some (.inl a1), some (.inl v6), some (.inl v8), some (.inl v9), some (.inl v10), some (.inl r12), some (.inl r14)], [], m13)) rfl hres (fun hc hres => ?_) (fun hc hres => ?_)
              · refine e_mask (L' := [some (.inr (.inr (some (8, 0)))), some (.inl a1), some (.inl v6), some (.inl v8), some (.inl v9), some (.inl v10), none, none]) rfl ?_
                refine e_steps 1 (s' := (99, [some (.inr (.inr (some (8, 0)))), some (.inl a1), some (.inl v6), some (.inl v8), some (.inl v9), some (.inl (v10 + 1)), none, none], [], m13)) rfl ?_
                refine e_let (fun (v18 : Int32) => (99, [some (.inr (.inr (some (8, 0)))), some (.inl a1), some (.inl v6), some (.inl v8), some (.inl v9), some (.inl v18), none, none], [], m13)) hres (fun v18 hres => ?_)
                refine e_steps 1 (s' := (28, [some (.inr (.inr (some (8, 0)))), some (.inl a1), some (.inl v6), some (.inl v8), some (.inl v9), some (.inl v18), none, none], [], m13)) rfl ?_
                obtain rfl := Option.some.inj hres
                exact e_mask (L' := [some (.inr (.inr (some (8, 0)))), some (.inl a1), some (.inl v6), some (.inl v8), some (.inl v9), some (.inl v18), none, none]) rfl (hcl7 _ rfl)
              · refine e_steps 2 (s' := (72, [some (.inr (.inr (some (8, 0)))), some (.inl a1), some (.inl v6), some (.inl v8), some (.inl v9), some (.inl v10), some (.inl r12), some (.inl r14)], [.inl v9, .inl r12], m13)) rfl ?_
                refine e_if (s1 := (96, [some (.inr (.inr (some (8, 0)))), some (.inl a1), some (.inl v6), some (.inl v8), some (.inl v9), some (.inl v10), some (.inl r12), some (.inl r14)], [], m13)) (s2 := (75, [some (.inr (.inr (some (8, 0)))), some (.inl a1), some (.inl v6), some (.inl v8), some (.inl v9), some (.inl v10), some (.inl r12), some (.inl r14)], [], m13)) rfl hres (fun hc hres => ?_) (fun hc hres => ?_)
                · refine e_mask (L' := [some (.inr (.inr (some (8, 0)))), some (.inl a1), some (.inl v6), some (.inl v8), some (.inl v9), some (.inl v10), none, none]) rfl ?_
                  refine e_steps 1 (s' := (99, [some (.inr (.inr (some (8, 0)))), some (.inl a1), some (.inl v6), some (.inl v8), some (.inl v9), some (.inl (v10 + 1)), none, none], [], m13)) rfl ?_
                  refine e_let (fun (v19 : Int32) => (99, [some (.inr (.inr (some (8, 0)))), some (.inl a1), some (.inl v6), some (.inl v8), some (.inl v9), some (.inl v19), none, none], [], m13)) hres (fun v19 hres => ?_)
                  refine e_steps 1 (s' := (28, [some (.inr (.inr (some (8, 0)))), some (.inl a1), some (.inl v6), some (.inl v8), some (.inl v9), some (.inl v19), none, none], [], m13)) rfl ?_
                  obtain rfl := Option.some.inj hres
                  exact e_mask (L' := [some (.inr (.inr (some (8, 0)))), some (.inl a1), some (.inl v6), some (.inl v8), some (.inl v9), some (.inl v19), none, none]) rfl (hcl7 _ rfl)
                · exact e_mask (L' := [some (.inr (.inr (some (8, 0)))), some (.inl a1), some (.inl v6), none, none, some (.inl v10), some (.inl r12), some (.inl r14)]) rfl (hk15  hres)
  · obtain ⟨v2, v3⟩ := s
    show mm_E (d + 1) 128 (4, [some (.inr (.inr (some (8, 0)))), some (.inl a1), some (.inl v2), some (.inl v3), none, none, none, none], [], m) (.inl (some (.inl r.1)), r.2, 0, 0)
    refine e_steps 2 (s' := (6, [some (.inr (.inr (some (8, 0)))), some (.inl a1), some (.inl v2), some (.inl v3), none, none, none, none], [.inl a1, .inl v3], m)) rfl ?_
    refine e_if (s1 := (20, [some (.inr (.inr (some (8, 0)))), some (.inl a1), some (.inl v2), some (.inl v3), none, none, none, none], [], m)) (s2 := (9, [some (.inr (.inr (some (8, 0)))), some (.inl a1), some (.inl v2), some (.inl v3), none, none, none, none], [], m)) rfl hres (fun hc hres => ?_) (fun hc hres => ?_)
    · obtain rfl := Option.some.inj hres
      exact e_mask (L' := [some (.inr (.inr (some (8, 0)))), some (.inl a1), some (.inl v2), none, none, none, none, none]) rfl (hxl1 _ rfl)
    · refine e_steps 4 (s' := (14, [some (.inr (.inr (some (8, 0)))), some (.inl a1), some (.inl (v2 * 8)), some (.inl v3), none, none, none, none], [], m)) rfl ?_
      refine e_let (fun (v4 : Int32) => (14, [some (.inr (.inr (some (8, 0)))), some (.inl a1), some (.inl v4), some (.inl v3), none, none, none, none], [], m)) hres (fun v4 hres => ?_)
      refine e_steps 1 (s' := (17, [some (.inr (.inr (some (8, 0)))), some (.inl a1), some (.inl v4), some (.inl (v3 + 1)), none, none, none, none], [], m)) rfl ?_
      refine e_let (fun (v5 : Int32) => (17, [some (.inr (.inr (some (8, 0)))), some (.inl a1), some (.inl v4), some (.inl v5), none, none, none, none], [], m)) hres (fun v5 hres => ?_)
      refine e_steps 1 (s' := (4, [some (.inr (.inr (some (8, 0)))), some (.inl a1), some (.inl v4), some (.inl v5), none, none, none, none], [], m)) rfl ?_
      obtain rfl := Option.some.inj hres
      exact e_mask (L' := [some (.inr (.inr (some (8, 0)))), some (.inl a1), some (.inl v4), some (.inl v5), none, none, none, none]) rfl (hcl1 _ rfl)
