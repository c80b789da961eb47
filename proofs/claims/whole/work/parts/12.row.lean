/-- GlassThreads$Sheet.canHold(I)Z -/
def f_X7_canHold (i0 : Nat) (a1 : Int32) (m : mm_M) : Option (Int32) :=
if (m 11 i0 1) = 0 then (if a1 ≠ a1.toInt8.toInt32 then (some 0)
else (some 1))
else if (m 11 i0 1) = 1 then (if a1 ≠ a1.toInt16.toInt32 then (some 0)
else (some 1))
else (some 1)
set_option maxHeartbeats 4000000 in
set_option maxRecDepth 100000 in
theorem k_X7_canHold (d : Nat) (hd : 0 ≤ d) (i0 : Nat) (a1 : Int32) (m : mm_M) (r : Int32) (hres : f_X7_canHold i0 a1 m = some r) : mm_X d 154 [.inr (.inr (some (11, i0))), .inl a1] m (.inl (some (.inl r)), m, 0, 0) := by
  unfold f_X7_canHold at hres
  show mm_E d 154 (0, [some (.inr (.inr (some (11, i0)))), some (.inl a1)], [], m) (.inl (some (.inl r)), m, 0, 0)
  refine e_steps 2 (s' := (4, [some (.inr (.inr (some (11, i0)))), some (.inl a1)], [.inl (m 11 i0 1)], m)) rfl ?_
  refine e_sw (c := (m 11 i0 1) = 0) (s1 := (32, [some (.inr (.inr (some (11, i0)))), some (.inl a1)], [], m)) rfl hres (fun hc hres => ?_) (fun hc hres hst => ?_)
  · refine e_steps 3 (s' := (35, [some (.inr (.inr (some (11, i0)))), some (.inl a1)], [.inl a1.toInt8.toInt32, .inl a1], m)) rfl ?_
    refine e_if (s1 := (42, [some (.inr (.inr (some (11, i0)))), some (.inl a1)], [], m)) (s2 := (38, [some (.inr (.inr (some (11, i0)))), some (.inl a1)], [], m)) rfl hres (fun hc hres => ?_) (fun hc hres => ?_)
    · refine e_steps 1 (s' := (43, [some (.inr (.inr (some (11, i0)))), some (.inl a1)], [.inl 0], m)) rfl ?_
      refine e_mask (L' := [none, none]) rfl ?_
      obtain rfl := Option.some.inj hres
      exact e_ret rfl rfl
    · refine e_steps 2 (s' := (43, [some (.inr (.inr (some (11, i0)))), some (.inl a1)], [.inl 1], m)) rfl ?_
      refine e_mask (L' := [none, none]) rfl ?_
      obtain rfl := Option.some.inj hres
      exact e_ret rfl rfl
  · refine e_sw (c := (m 11 i0 1) = 1) (s1 := (44, [some (.inr (.inr (some (11, i0)))), some (.inl a1)], [], m)) hst hres (fun hc hres => ?_) (fun hc hres hst => ?_)
    · refine e_steps 3 (s' := (47, [some (.inr (.inr (some (11, i0)))), some (.inl a1)], [.inl a1.toInt16.toInt32, .inl a1], m)) rfl ?_
      refine e_if (s1 := (54, [some (.inr (.inr (some (11, i0)))), some (.inl a1)], [], m)) (s2 := (50, [some (.inr (.inr (some (11, i0)))), some (.inl a1)], [], m)) rfl hres (fun hc hres => ?_) (fun hc hres => ?_)
      · refine e_steps 1 (s' := (55, [some (.inr (.inr (some (11, i0)))), some (.inl a1)], [.inl 0], m)) rfl ?_
        refine e_mask (L' := [none, none]) rfl ?_
        obtain rfl := Option.some.inj hres
        exact e_ret rfl rfl
      · refine e_steps 2 (s' := (55, [some (.inr (.inr (some (11, i0)))), some (.inl a1)], [.inl 1], m)) rfl ?_
        refine e_mask (L' := [none, none]) rfl ?_
        obtain rfl := Option.some.inj hres
        exact e_ret rfl rfl
    · refine e_step (s' := (56, [some (.inr (.inr (some (11, i0)))), some (.inl a1)], [], m)) hst ?_
      refine e_steps 1 (s' := (57, [some (.inr (.inr (some (11, i0)))), some (.inl a1)], [.inl 1], m)) rfl ?_
      obtain rfl := Option.some.inj hres
      exact e_ret rfl rfl
/-- GlassThreads$Sheet.hasPart(II)Z -/
def f_X7_hasPart (i0 : Nat) (a1 : Int32) (a2 : Int32) (m : mm_M) : Option (Int32) :=
if a1 < 0 then (some 0)
else (if a2 < 0 then (some 0)
else (if (m 11 i0 2) < a1 then (some 0)
else (if ((m 11 i0 2) - a1) < a2 then (some 0)
else (some 1))))
set_option maxHeartbeats 4000000 in
set_option maxRecDepth 100000 in
theorem k_X7_hasPart (d : Nat) (hd : 0 ≤ d) (i0 : Nat) (a1 : Int32) (a2 : Int32) (m : mm_M) (r : Int32) (hres : f_X7_hasPart i0 a1 a2 m = some r) : mm_X d 155 [.inr (.inr (some (11, i0))), .inl a1, .inl a2] m (.inl (some (.inl r)), m, 0, 0) := by
  unfold f_X7_hasPart at hres
  show mm_E d 155 (0, [some (.inr (.inr (some (11, i0)))), some (.inl a1), some (.inl a2)], [], m) (.inl (some (.inl r)), m, 0, 0)
  refine e_steps 1 (s' := (1, [some (.inr (.inr (some (11, i0)))), some (.inl a1), some (.inl a2)], [.inl a1], m)) rfl ?_
  refine e_if (s1 := (30, [some (.inr (.inr (some (11, i0)))), some (.inl a1), some (.inl a2)], [], m)) (s2 := (4, [some (.inr (.inr (some (11, i0)))), some (.inl a1), some (.inl a2)], [], m)) rfl hres (fun hc hres => ?_) (fun hc hres => ?_)
  · refine e_mask (L' := [none, none, none]) rfl ?_
    refine e_steps 1 (s' := (31, [none, none, none], [.inl 0], m)) rfl ?_
    obtain rfl := Option.some.inj hres
    exact e_ret rfl rfl
  · refine e_steps 1 (s' := (5, [some (.inr (.inr (some (11, i0)))), some (.inl a1), some (.inl a2)], [.inl a2], m)) rfl ?_
    refine e_if (s1 := (30, [some (.inr (.inr (some (11, i0)))), some (.inl a1), some (.inl a2)], [], m)) (s2 := (8, [some (.inr (.inr (some (11, i0)))), some (.inl a1), some (.inl a2)], [], m)) rfl hres (fun hc hres => ?_) (fun hc hres => ?_)
    · refine e_mask (L' := [none, none, none]) rfl ?_
      refine e_steps 1 (s' := (31, [none, none, none], [.inl 0], m)) rfl ?_
      obtain rfl := Option.some.inj hres
      exact e_ret rfl rfl
    · refine e_steps 3 (s' := (13, [some (.inr (.inr (some (11, i0)))), some (.inl a1), some (.inl a2)], [.inl (m 11 i0 2), .inl a1], m)) rfl ?_
      refine e_if (s1 := (30, [some (.inr (.inr (some (11, i0)))), some (.inl a1), some (.inl a2)], [], m)) (s2 := (16, [some (.inr (.inr (some (11, i0)))), some (.inl a1), some (.inl a2)], [], m)) rfl hres (fun hc hres => ?_) (fun hc hres => ?_)
      · refine e_mask (L' := [none, none, none]) rfl ?_
        refine e_steps 1 (s' := (31, [none, none, none], [.inl 0], m)) rfl ?_
        obtain rfl := Option.some.inj hres
        exact e_ret rfl rfl
      · refine e_steps 5 (s' := (23, [some (.inr (.inr (some (11, i0)))), some (.inl a1), some (.inl a2)], [.inl ((m 11 i0 2) - a1), .inl a2], m)) rfl ?_
        refine e_if (s1 := (30, [some (.inr (.inr (some (11, i0)))), some (.inl a1), some (.inl a2)], [], m)) (s2 := (26, [some (.inr (.inr (some (11, i0)))), some (.inl a1), some (.inl a2)], [], m)) rfl hres (fun hc hres => ?_) (fun hc hres => ?_)
        · refine e_mask (L' := [none, none, none]) rfl ?_
          refine e_steps 1 (s' := (31, [none, none, none], [.inl 0], m)) rfl ?_
          obtain rfl := Option.some.inj hres
          exact e_ret rfl rfl
        · refine e_steps 2 (s' := (31, [some (.inr (.inr (some (11, i0)))), some (.inl a1), some (.inl a2)], [.inl 1], m)) rfl ?_
          refine e_mask (L' := [none, none, none]) rfl ?_
          obtain rfl := Option.some.inj hres
          exact e_ret rfl rfl
/-- GlassThreads$Sheet.tellsRow(II)Z -/
def f_X7_tellsRow (i0 : Nat) (a1 : Int32) (a2 : Int32) (m : mm_M) : Option (Int32) :=
(mm_b1 (mm_loop (σ := Int32 × Int32) (ρ := (Unit) ⊕ (Unit)) (fun (s : Int32 × Int32) => match s with
| (v2, v3) => (if a2 ≤ v3 then (some (.inr (.inr ())))
else (mm_let (a1 + (v3 * 3)) fun v4 =>
if mm_in v4 24 then (
mm_let (m 63 i0 v4.toNatClampNeg) fun v5 =>
if mm_in (v4 + 2) 24 then (
mm_let (m 63 i0 (v4 + 2).toNatClampNeg) fun v6 =>
if v5 < v2 then (some (.inr (.inl ())))
else (if mm_in (v4 + 1) 24 then (
if (m 63 i0 (v4 + 1).toNatClampNeg) < 0 then (some (.inr (.inl ())))
else (if v6 < 0 then (some (.inr (.inl ())))
else (if v6 ≤ 4 then (mm_let (v3 + 1) fun v7 =>
some (.inl (v5, v7)))
else (some (.inr (.inl ())))))) else none)) else none) else none) : Option ((Int32 × Int32) ⊕ ((Unit) ⊕ (Unit))))) mm_fu (0, 0)) fun t => match t with
| .inl _ => some 0
| .inr _ => some 1)
set_option maxHeartbeats 4000000 in
set_option maxRecDepth 100000 in
theorem k_X7_tellsRow (d : Nat) (hd : 0 ≤ d) (i0 : Nat) (a1 : Int32) (a2 : Int32) (m : mm_M) (r : Int32) (hres : f_X7_tellsRow i0 a1 a2 m = some r) : mm_X d 156 [.inr (.inr (some (11, i0))), .inl a1, .inl a2] m (.inl (some (.inl r)), m, 0, 0) := by
  unfold f_X7_tellsRow at hres
  show mm_E d 156 (0, [some (.inr (.inr (some (11, i0)))), some (.inl a1), some (.inl a2), none, none, none, none, none], [], m) (.inl (some (.inl r)), m, 0, 0)
  refine e_steps 4 (s' := (5, [some (.inr (.inr (some (11, i0)))), some (.inl a1), some (.inl a2), some (.inl 0), some (.inl 0), none, none, none], [], m)) rfl ?_
  refine e_mask (L' := [some (.inr (.inr (some (11, i0)))), some (.inl a1), some (.inl a2), some (.inl 0), some (.inl 0), none, none, none]) rfl ?_
  refine e_loopb (φ := fun s => (5, [some (.inr (.inr (some (11, i0)))), some (.inl a1), some (.inl a2), some (.inl s.1), some (.inl s.2), none, none, none], [], m)) (K := fun t => match t with | .inl t => mm_E d 156 (68, [none, none, none, none, none, none, none, none], [], m) (.inl (some (.inl r)), m, 0, 0) | .inr t => mm_E d 156 (79, [none, none, none, none, none, none, none, none], [], m) (.inl (some (.inl r)), m, 0, 0)) hres (fun t hres => ?_) (fun s ol1 hres hcl1 hxl1 => ?_)
  · rcases t with _ | _
    · show mm_E d 156 (68, [none, none, none, none, none, none, none, none], [], m) (.inl (some (.inl r)), m, 0, 0)
      refine e_steps 1 (s' := (69, [none, none, none, none, none, none, none, none], [.inl 0], m)) rfl ?_
      obtain rfl := Option.some.inj hres
      exact e_ret rfl rfl
    · show mm_E d 156 (79, [none, none, none, none, none, none, none, none], [], m) (.inl (some (.inl r)), m, 0, 0)
      refine e_steps 1 (s' := (80, [none, none, none, none, none, none, none, none], [.inl 1], m)) rfl ?_
      obtain rfl := Option.some.inj hres
      exact e_ret rfl rfl
  · obtain ⟨v2, v3⟩ := s
    show mm_E d 156 (5, [some (.inr (.inr (some (11, i0)))), some (.inl a1), some (.inl a2), some (.inl v2), some (.inl v3), none, none, none], [], m) (.inl (some (.inl r)), m, 0, 0)
    refine e_steps 2 (s' := (8, [some (.inr (.inr (some (11, i0)))), some (.inl a1), some (.inl a2), some (.inl v2), some (.inl v3), none, none, none], [.inl a2, .inl v3], m)) rfl ?_
    refine e_if (s1 := (79, [some (.inr (.inr (some (11, i0)))), some (.inl a1), some (.inl a2), some (.inl v2), some (.inl v3), none, none, none], [], m)) (s2 := (11, [some (.inr (.inr (some (11, i0)))), some (.inl a1), some (.inl a2), some (.inl v2), some (.inl v3), none, none, none], [], m)) rfl hres (fun hc hres => ?_) (fun hc hres => ?_)
    · obtain rfl := Option.some.inj hres
      exact e_mask (L' := [none, none, none, none, none, none, none, none]) rfl (hxl1 _ rfl)
    · refine e_steps 6 (s' := (19, [some (.inr (.inr (some (11, i0)))), some (.inl a1), some (.inl a2), some (.inl v2), some (.inl v3), some (.inl (a1 + (v3 * 3))), none, none], [], m)) rfl ?_
      refine e_let (fun (v4 : Int32) => (19, [some (.inr (.inr (some (11, i0)))), some (.inl a1), some (.inl a2), some (.inl v2), some (.inl v3), some (.inl v4), none, none], [], m)) hres (fun v4 hres => ?_)
      refine e_steps 3 (s' := (25, [some (.inr (.inr (some (11, i0)))), some (.inl a1), some (.inl a2), some (.inl v2), some (.inl v3), some (.inl v4), none, none], [.inl v4, .inr (.inr (some (63, i0)))], m)) rfl ?_
      refine e_gd (s1 := (26, [some (.inr (.inr (some (11, i0)))), some (.inl a1), some (.inl a2), some (.inl v2), some (.inl v3), some (.inl v4), none, none], [.inl (m 63 i0 v4.toNatClampNeg)], m)) rfl hres (fun hc hres => ?_)
      refine e_steps 1 (s' := (28, [some (.inr (.inr (some (11, i0)))), some (.inl a1), some (.inl a2), some (.inl v2), some (.inl v3), some (.inl v4), some (.inl (m 63 i0 v4.toNatClampNeg)), none], [], m)) rfl ?_
      refine e_let (fun (v5 : Int32) => (28, [some (.inr (.inr (some (11, i0)))), some (.inl a1), some (.inl a2), some (.inl v2), some (.inl v3), some (.inl v4), some (.inl v5), none], [], m)) hres (fun v5 hres => ?_)
      refine e_steps 5 (s' := (36, [some (.inr (.inr (some (11, i0)))), some (.inl a1), some (.inl a2), some (.inl v2), some (.inl v3), some (.inl v4), some (.inl v5), none], [.inl (v4 + 2), .inr (.inr (some (63, i0)))], m)) rfl ?_
      refine e_gd (s1 := (37, [some (.inr (.inr (some (11, i0)))), some (.inl a1), some (.inl a2), some (.inl v2), some (.inl v3), some (.inl v4), some (.inl v5), none], [.inl (m 63 i0 (v4 + 2).toNatClampNeg)], m)) rfl hres (fun hc hres => ?_)
      refine e_steps 1 (s' := (39, [some (.inr (.inr (some (11, i0)))), some (.inl a1), some (.inl a2), some (.inl v2), some (.inl v3), some (.inl v4), some (.inl v5), some (.inl (m 63 i0 (v4 + 2).toNatClampNeg))], [], m)) rfl ?_
      refine e_let (fun (v6 : Int32) => (39, [some (.inr (.inr (some (11, i0)))), some (.inl a1), some (.inl a2), some (.inl v2), some (.inl v3), some (.inl v4), some (.inl v5), some (.inl v6)], [], m)) hres (fun v6 hres => ?_)
      refine e_steps 2 (s' := (42, [some (.inr (.inr (some (11, i0)))), some (.inl a1), some (.inl a2), some (.inl v2), some (.inl v3), some (.inl v4), some (.inl v5), some (.inl v6)], [.inl v2, .inl v5], m)) rfl ?_
      refine e_if (s1 := (68, [some (.inr (.inr (some (11, i0)))), some (.inl a1), some (.inl a2), some (.inl v2), some (.inl v3), some (.inl v4), some (.inl v5), some (.inl v6)], [], m)) (s2 := (45, [some (.inr (.inr (some (11, i0)))), some (.inl a1), some (.inl a2), some (.inl v2), some (.inl v3), some (.inl v4), some (.inl v5), some (.inl v6)], [], m)) rfl hres (fun hc hres => ?_) (fun hc hres => ?_)
      · obtain rfl := Option.some.inj hres
        exact e_mask (L' := [none, none, none, none, none, none, none, none]) rfl (hxl1 _ rfl)
      · refine e_steps 5 (s' := (53, [some (.inr (.inr (some (11, i0)))), some (.inl a1), some (.inl a2), some (.inl v2), some (.inl v3), some (.inl v4), some (.inl v5), some (.inl v6)], [.inl (v4 + 1), .inr (.inr (some (63, i0)))], m)) rfl ?_
        refine e_gd (s1 := (54, [some (.inr (.inr (some (11, i0)))), some (.inl a1), some (.inl a2), some (.inl v2), some (.inl v3), some (.inl v4), some (.inl v5), some (.inl v6)], [.inl (m 63 i0 (v4 + 1).toNatClampNeg)], m)) rfl hres (fun hc hres => ?_)
        refine e_if (s1 := (68, [some (.inr (.inr (some (11, i0)))), some (.inl a1), some (.inl a2), some (.inl v2), some (.inl v3), some (.inl v4), some (.inl v5), some (.inl v6)], [], m)) (s2 := (57, [some (.inr (.inr (some (11, i0)))), some (.inl a1), some (.inl a2), some (.inl v2), some (.inl v3), some (.inl v4), some (.inl v5), some (.inl v6)], [], m)) rfl hres (fun hc hres => ?_) (fun hc hres => ?_)
        · obtain rfl := Option.some.inj hres
          exact e_mask (L' := [none, none, none, none, none, none, none, none]) rfl (hxl1 _ rfl)
        · refine e_steps 1 (s' := (59, [some (.inr (.inr (some (11, i0)))), some (.inl a1), some (.inl a2), some (.inl v2), some (.inl v3), some (.inl v4), some (.inl v5), some (.inl v6)], [.inl v6], m)) rfl ?_
          refine e_if (s1 := (68, [some (.inr (.inr (some (11, i0)))), some (.inl a1), some (.inl a2), some (.inl v2), some (.inl v3), some (.inl v4), some (.inl v5), some (.inl v6)], [], m)) (s2 := (62, [some (.inr (.inr (some (11, i0)))), some (.inl a1), some (.inl a2), some (.inl v2), some (.inl v3), some (.inl v4), some (.inl v5), some (.inl v6)], [], m)) rfl hres (fun hc hres => ?_) (fun hc hres => ?_)
          · obtain rfl := Option.some.inj hres
            exact e_mask (L' := [none, none, none, none, none, none, none, none]) rfl (hxl1 _ rfl)
          · refine e_steps 2 (s' := (65, [some (.inr (.inr (some (11, i0)))), some (.inl a1), some (.inl a2), some (.inl v2), some (.inl v3), some (.inl v4), some (.inl v5), some (.inl v6)], [.inl 4, .inl v6], m)) rfl ?_
            refine e_if (s1 := (70, [some (.inr (.inr (some (11, i0)))), some (.inl a1), some (.inl a2), some (.inl v2), some (.inl v3), some (.inl v4), some (.inl v5), some (.inl v6)], [], m)) (s2 := (68, [some (.inr (.inr (some (11, i0)))), some (.inl a1), some (.inl a2), some (.inl v2), some (.inl v3), some (.inl v4), some (.inl v5), some (.inl v6)], [], m)) rfl hres (fun hc hres => ?_) (fun hc hres => ?_)
            · refine e_steps 3 (s' := (76, [some (.inr (.inr (some (11, i0)))), some (.inl a1), some (.inl a2), some (.inl v5), some (.inl (v3 + 1)), some (.inl v4), some (.inl v5), some (.inl v6)], [], m)) rfl ?_
              refine e_let (fun (v7 : Int32) => (76, [some (.inr (.inr (some (11, i0)))), some (.inl a1), some (.inl a2), some (.inl v5), some (.inl v7), some (.inl v4), some (.inl v5), some (.inl v6)], [], m)) hres (fun v7 hres => ?_)
              refine e_steps 1 (s' := (5, [some (.inr (.inr (some (11, i0)))), some (.inl a1), some (.inl a2), some (.inl v5), some (.inl v7), some (.inl v4), some (.inl v5), some (.inl v6)], [], m)) rfl ?_
              obtain rfl := Option.some.inj hres
              exact e_mask (L' := [some (.inr (.inr (some (11, i0)))), some (.inl a1), some (.inl a2), some (.inl v5), some (.inl v7), none, none, none]) rfl (hcl1 _ rfl)
            · obtain rfl := Option.some.inj hres
              exact e_mask (L' := [none, none, none, none, none, none, none, none]) rfl (hxl1 _ rfl)
/-- GlassThreads$Row.insert(IIII)V -/
def f_X5_insert (i0 : Nat) (a1 : Int32) (a2 : Int32) (a3 : Int32) (a4 : Int32) (m : mm_M) : Option (mm_M) :=
if (m 6 i0 3) < 49 then (mm_let (m 6 i0 3) fun v1 =>
(mm_b1 (mm_loop (σ := Int32 × mm_M) (ρ := (mm_M)) (fun (s : Int32 × mm_M) => match s with
| (v3, m4) => (if v3 ≤ a1 then (some (.inr m4))
else (if mm_in (v3 - 1) 49 then (
if mm_in v3 49 then (
mm_let (mm_w m4 41 i0 v3.toNatClampNeg (m4 41 i0 (v3 - 1).toNatClampNeg)) fun m5 =>
if mm_in (v3 - 1) 49 then (
if mm_in v3 49 then (
mm_let (mm_w m5 42 i0 v3.toNatClampNeg (m5 42 i0 (v3 - 1).toNatClampNeg)) fun m6 =>
if mm_in (v3 - 1) 49 then (
if mm_in v3 49 then (
mm_let (mm_w m6 43 i0 v3.toNatClampNeg (m6 43 i0 (v3 - 1).toNatClampNeg)) fun m7 =>
mm_let (v3 + (-1)) fun v8 =>
some (.inl (v8, m7))) else none) else none) else none) else none) else none) else none) : Option ((Int32 × mm_M) ⊕ ((mm_M))))) mm_fu (v1, m)) fun m9 =>
if mm_in a1 49 then (
mm_let (mm_w m9 41 i0 a1.toNatClampNeg a2) fun m10 =>
if mm_in a1 49 then (
mm_let (mm_w m10 42 i0 a1.toNatClampNeg a3) fun m11 =>
if mm_in a1 49 then (
mm_let (mm_w m11 43 i0 a1.toNatClampNeg a4) fun m12 =>
mm_let (mm_w m12 6 i0 3 ((m12 6 i0 3) + 1)) fun m13 =>
some m13) else none) else none) else none))
else (some m)
set_option maxHeartbeats 4000000 in
set_option maxRecDepth 100000 in
theorem k_X5_insert (d : Nat) (hd : 0 ≤ d) (i0 : Nat) (a1 : Int32) (a2 : Int32) (a3 : Int32) (a4 : Int32) (m : mm_M) (r : mm_M) (hres : f_X5_insert i0 a1 a2 a3 a4 m = some r) : mm_X d 114 [.inr (.inr (some (6, i0))), .inl a1, .inl a2, .inl a3, .inl a4] m (.inl none, r, 0, 0) := by
  unfold f_X5_insert at hres
  show mm_E d 114 (0, [some (.inr (.inr (some (6, i0)))), some (.inl a1), some (.inl a2), some (.inl a3), some (.inl a4), none], [], m) (.inl none, r, 0, 0)
  refine e_steps 3 (s' := (6, [some (.inr (.inr (some (6, i0)))), some (.inl a1), some (.inl a2), some (.inl a3), some (.inl a4), none], [.inl 49, .inl (m 6 i0 3)], m)) rfl ?_
  refine e_if (s1 := (10, [some (.inr (.inr (some (6, i0)))), some (.inl a1), some (.inl a2), some (.inl a3), some (.inl a4), none], [], m)) (s2 := (9, [some (.inr (.inr (some (6, i0)))), some (.inl a1), some (.inl a2), some (.inl a3), some (.inl a4), none], [], m)) rfl hres (fun hc hres => ?_) (fun hc hres => ?_)
  · refine e_steps 3 (s' := (16, [some (.inr (.inr (some (6, i0)))), some (.inl a1), some (.inl a2), some (.inl a3), some (.inl a4), some (.inl (m 6 i0 3))], [], m)) rfl ?_
    refine e_let (fun (v1 : Int32) => (16, [some (.inr (.inr (some (6, i0)))), some (.inl a1), some (.inl a2), some (.inl a3), some (.inl a4), some (.inl v1)], [], m)) hres (fun v1 hres => ?_)
    refine e_mask (L' := [some (.inr (.inr (some (6, i0)))), some (.inl a1), some (.inl a2), some (.inl a3), some (.inl a4), some (.inl v1)]) rfl ?_
    refine e_loopb (φ := fun s => (16, [some (.inr (.inr (some (6, i0)))), some (.inl a1), some (.inl a2), some (.inl a3), some (.inl a4), some (.inl s.1)], [], s.2)) (K := fun t => mm_E d 114 (76, [some (.inr (.inr (some (6, i0)))), some (.inl a1), some (.inl a2), some (.inl a3), some (.inl a4), none], [], t) (.inl none, r, 0, 0)) hres (fun m9 hres => ?_) (fun s ol2 hres hcl2 hxl2 => ?_)
    · show mm_E d 114 (76, [some (.inr (.inr (some (6, i0)))), some (.inl a1), some (.inl a2), some (.inl a3), some (.inl a4), none], [], m9) (.inl none, r, 0, 0)
      refine e_steps 4 (s' := (82, [some (.inr (.inr (some (6, i0)))), some (.inl a1), some (.inl a2), some (.inl a3), some (.inl a4), none], [.inl a2, .inl a1, .inr (.inr (some (41, i0)))], m9)) rfl ?_
      refine e_gd (s1 := (83, [some (.inr (.inr (some (6, i0)))), some (.inl a1), some (.inl a2), some (.inl a3), some (.inl a4), none], [], (mm_w m9 41 i0 a1.toNatClampNeg a2))) rfl hres (fun hc hres => ?_)
      refine e_let (fun (m10 : mm_M) => (83, [some (.inr (.inr (some (6, i0)))), some (.inl a1), some (.inl a2), some (.inl a3), some (.inl a4), none], [], m10)) hres (fun m10 hres => ?_)
      refine e_steps 4 (s' := (89, [some (.inr (.inr (some (6, i0)))), some (.inl a1), some (.inl a2), some (.inl a3), some (.inl a4), none], [.inl a3, .inl a1, .inr (.inr (some (42, i0)))], m10)) rfl ?_
      refine e_gd (s1 := (90, [some (.inr (.inr (some (6, i0)))), some (.inl a1), some (.inl a2), some (.inl a3), some (.inl a4), none], [], (mm_w m10 42 i0 a1.toNatClampNeg a3))) rfl hres (fun hc hres => ?_)
      refine e_let (fun (m11 : mm_M) => (90, [some (.inr (.inr (some (6, i0)))), some (.inl a1), some (.inl a2), some (.inl a3), some (.inl a4), none], [], m11)) hres (fun m11 hres => ?_)
      refine e_steps 4 (s' := (97, [some (.inr (.inr (some (6, i0)))), some (.inl a1), some (.inl a2), some (.inl a3), some (.inl a4), none], [.inl a4, .inl a1, .inr (.inr (some (43, i0)))], m11)) rfl ?_
      refine e_gd (s1 := (98, [some (.inr (.inr (some (6, i0)))), some (.inl a1), some (.inl a2), some (.inl a3), some (.inl a4), none], [], (mm_w m11 43 i0 a1.toNatClampNeg a4))) rfl hres (fun hc hres => ?_)
      refine e_let (fun (m12 : mm_M) => (98, [some (.inr (.inr (some (6, i0)))), some (.inl a1), some (.inl a2), some (.inl a3), some (.inl a4), none], [], m12)) hres (fun m12 hres => ?_)
      refine e_steps 6 (s' := (108, [some (.inr (.inr (some (6, i0)))), some (.inl a1), some (.inl a2), some (.inl a3), some (.inl a4), none], [], (mm_w m12 6 i0 3 ((m12 6 i0 3) + 1)))) rfl ?_
      refine e_let (fun (m13 : mm_M) => (108, [some (.inr (.inr (some (6, i0)))), some (.inl a1), some (.inl a2), some (.inl a3), some (.inl a4), none], [], m13)) hres (fun m13 hres => ?_)
      obtain rfl := Option.some.inj hres
      exact e_ret rfl rfl
    · obtain ⟨v3, m4⟩ := s
      show mm_E d 114 (16, [some (.inr (.inr (some (6, i0)))), some (.inl a1), some (.inl a2), some (.inl a3), some (.inl a4), some (.inl v3)], [], m4) (.inl none, r, 0, 0)
      refine e_steps 2 (s' := (19, [some (.inr (.inr (some (6, i0)))), some (.inl a1), some (.inl a2), some (.inl a3), some (.inl a4), some (.inl v3)], [.inl a1, .inl v3], m4)) rfl ?_
      refine e_if (s1 := (76, [some (.inr (.inr (some (6, i0)))), some (.inl a1), some (.inl a2), some (.inl a3), some (.inl a4), some (.inl v3)], [], m4)) (s2 := (22, [some (.inr (.inr (some (6, i0)))), some (.inl a1), some (.inl a2), some (.inl a3), some (.inl a4), some (.inl v3)], [], m4)) rfl hres (fun hc hres => ?_) (fun hc hres => ?_)
      · obtain rfl := Option.some.inj hres
        exact e_mask (L' := [some (.inr (.inr (some (6, i0)))), some (.inl a1), some (.inl a2), some (.inl a3), some (.inl a4), none]) rfl (hxl2 _ rfl)
      · refine e_steps 8 (s' := (36, [some (.inr (.inr (some (6, i0)))), some (.inl a1), some (.inl a2), some (.inl a3), some (.inl a4), some (.inl v3)], [.inl (v3 - 1), .inr (.inr (some (41, i0))), .inl v3, .inr (.inr (some (41, i0)))], m4)) rfl ?_
        refine e_gd (s1 := (37, [some (.inr (.inr (some (6, i0)))), some (.inl a1), some (.inl a2), some (.inl a3), some (.inl a4), some (.inl v3)], [.inl (m4 41 i0 (v3 - 1).toNatClampNeg), .inl v3, .inr (.inr (some (41, i0)))], m4)) rfl hres (fun hc hres => ?_)
        refine e_gd (s1 := (38, [some (.inr (.inr (some (6, i0)))), some (.inl a1), some (.inl a2), some (.inl a3), some (.inl a4), some (.inl v3)], [], (mm_w m4 41 i0 v3.toNatClampNeg (m4 41 i0 (v3 - 1).toNatClampNeg)))) rfl hres (fun hc hres => ?_)
        refine e_let (fun (m5 : mm_M) => (38, [some (.inr (.inr (some (6, i0)))), some (.inl a1), some (.inl a2), some (.inl a3), some (.inl a4), some (.inl v3)], [], m5)) hres (fun m5 hres => ?_)
        refine e_steps 8 (s' := (52, [some (.inr (.inr (some (6, i0)))), some (.inl a1), some (.inl a2), some (.inl a3), some (.inl a4), some (.inl v3)], [.inl (v3 - 1), .inr (.inr (some (42, i0))), .inl v3, .inr (.inr (some (42, i0)))], m5)) rfl ?_
        refine e_gd (s1 := (53, [some (.inr (.inr (some (6, i0)))), some (.inl a1), some (.inl a2), some (.inl a3), some (.inl a4), some (.inl v3)], [.inl (m5 42 i0 (v3 - 1).toNatClampNeg), .inl v3, .inr (.inr (some (42, i0)))], m5)) rfl hres (fun hc hres => ?_)
        refine e_gd (s1 := (54, [some (.inr (.inr (some (6, i0)))), some (.inl a1), some (.inl a2), some (.inl a3), some (.inl a4), some (.inl v3)], [], (mm_w m5 42 i0 v3.toNatClampNeg (m5 42 i0 (v3 - 1).toNatClampNeg)))) rfl hres (fun hc hres => ?_)
        refine e_let (fun (m6 : mm_M) => (54, [some (.inr (.inr (some (6, i0)))), some (.inl a1), some (.inl a2), some (.inl a3), some (.inl a4), some (.inl v3)], [], m6)) hres (fun m6 hres => ?_)
        refine e_steps 8 (s' := (68, [some (.inr (.inr (some (6, i0)))), some (.inl a1), some (.inl a2), some (.inl a3), some (.inl a4), some (.inl v3)], [.inl (v3 - 1), .inr (.inr (some (43, i0))), .inl v3, .inr (.inr (some (43, i0)))], m6)) rfl ?_
        refine e_gd (s1 := (69, [some (.inr (.inr (some (6, i0)))), some (.inl a1), some (.inl a2), some (.inl a3), some (.inl a4), some (.inl v3)], [.inl (m6 43 i0 (v3 - 1).toNatClampNeg), .inl v3, .inr (.inr (some (43, i0)))], m6)) rfl hres (fun hc hres => ?_)
        refine e_gd (s1 := (70, [some (.inr (.inr (some (6, i0)))), some (.inl a1), some (.inl a2), some (.inl a3), some (.inl a4), some (.inl v3)], [], (mm_w m6 43 i0 v3.toNatClampNeg (m6 43 i0 (v3 - 1).toNatClampNeg)))) rfl hres (fun hc hres => ?_)
        refine e_let (fun (m7 : mm_M) => (70, [some (.inr (.inr (some (6, i0)))), some (.inl a1), some (.inl a2), some (.inl a3), some (.inl a4), some (.inl v3)], [], m7)) hres (fun m7 hres => ?_)
        refine e_steps 1 (s' := (73, [some (.inr (.inr (some (6, i0)))), some (.inl a1), some (.inl a2), some (.inl a3), some (.inl a4), some (.inl (v3 + (-1)))], [], m7)) rfl ?_
        refine e_let (fun (v8 : Int32) => (73, [some (.inr (.inr (some (6, i0)))), some (.inl a1), some (.inl a2), some (.inl a3), some (.inl a4), some (.inl v8)], [], m7)) hres (fun v8 hres => ?_)
        refine e_steps 1 (s' := (16, [some (.inr (.inr (some (6, i0)))), some (.inl a1), some (.inl a2), some (.inl a3), some (.inl a4), some (.inl v8)], [], m7)) rfl ?_
        obtain rfl := Option.some.inj hres
        exact e_mask (L' := [some (.inr (.inr (some (6, i0)))), some (.inl a1), some (.inl a2), some (.inl a3), some (.inl a4), some (.inl v8)]) rfl (hcl2 _ rfl)
  · obtain rfl := Option.some.inj hres
    exact e_ret rfl rfl
/-- GlassThreads$Row.step(IIII)Z -/
def f_X5_step (i0 : Nat) (a1 : Int32) (a2 : Int32) (a3 : Int32) (a4 : Int32) (m : mm_M) : Option (Int32 × mm_M) :=
mm_let (fun (w1 : Int32) => (if w1 = 0 then (if w1 = 0 ∨ w1 = 1 then some (w1, m) else none)
else (mm_b1 (f_X5_insert i0 (m 6 i0 3) a1 a2 a3 m) fun m4 =>
if w1 = 0 ∨ w1 = 1 then some (w1, m4) else none) : Option (Int32 × mm_M))) fun k2 =>
if (m 6 i0 3) = 0 then (k2 1)
else (if mm_in ((m 6 i0 3) - 1) 49 then (
if (a1 - (m 41 i0 ((m 6 i0 3) - 1).toNatClampNeg)) ≤ a4 then (k2 0)
else (if 40 ≤ a2 then (k2 1)
else (if a3 ≠ 3 then (k2 0)
else (k2 1)))) else none)
set_option maxHeartbeats 4000000 in
set_option maxRecDepth 100000 in
theorem k_X5_step (d : Nat) (hd : 1 ≤ d) (i0 : Nat) (a1 : Int32) (a2 : Int32) (a3 : Int32) (a4 : Int32) (m : mm_M) (r : Int32 × mm_M) (hres : f_X5_step i0 a1 a2 a3 a4 m = some r) : mm_X d 109 [.inr (.inr (some (6, i0))), .inl a1, .inl a2, .inl a3, .inl a4] m (.inl (some (.inl r.1)), r.2, 0, 0) := by
  unfold f_X5_step at hres
  obtain ⟨d, rfl⟩ : ∃ e, d = e + 1 := ⟨d - 1, by omega⟩
  show mm_E (d + 1) 109 (0, [some (.inr (.inr (some (6, i0)))), some (.inl a1), some (.inl a2), some (.inl a3), some (.inl a4), none], [], m) (.inl (some (.inl r.1)), r.2, 0, 0)
  refine e_steps 2 (s' := (4, [some (.inr (.inr (some (6, i0)))), some (.inl a1), some (.inl a2), some (.inl a3), some (.inl a4), none], [.inl (m 6 i0 3)], m)) rfl ?_
  refine e_join (fun k2 => ∀ (w1 : Int32), k2 w1 = some r → mm_E (d + 1) 109 (41, [some (.inr (.inr (some (6, i0)))), some (.inl a1), some (.inl a2), some (.inl a3), none, none], [.inl w1], m) (.inl (some (.inl r.1)), r.2, 0, 0)) hres (fun w1 hres => ?_) (fun k2 hk2 hres => ?_)
  · refine e_steps 2 (s' := (45, [some (.inr (.inr (some (6, i0)))), some (.inl a1), some (.inl a2), some (.inl a3), none, some (.inl w1)], [.inl w1], m)) rfl ?_
    refine e_if (s1 := (59, [some (.inr (.inr (some (6, i0)))), some (.inl a1), some (.inl a2), some (.inl a3), none, some (.inl w1)], [], m)) (s2 := (48, [some (.inr (.inr (some (6, i0)))), some (.inl a1), some (.inl a2), some (.inl a3), none, some (.inl w1)], [], m)) rfl hres (fun hc hres => ?_) (fun hc hres => ?_)
    · refine e_mask (L' := [none, none, none, none, none, some (.inl w1)]) rfl ?_
      refine e_steps 1 (s' := (61, [none, none, none, none, none, some (.inl w1)], [.inl w1], m)) rfl ?_
      refine e_gr (o := .inl (some (.inl w1))) rfl hres (fun hc hres => ?_)
      obtain rfl := Option.some.inj hres
      rfl
    · refine e_steps 6 (s' := (56, [some (.inr (.inr (some (6, i0)))), some (.inl a1), some (.inl a2), some (.inl a3), none, some (.inl w1)], [.inl a3, .inl a2, .inl a1, .inl (m 6 i0 3), .inr (.inr (some (6, i0)))], m)) rfl ?_
      obtain ⟨m4, hv, hres⟩ := mm_b1_some hres
      refine e_call0 (pc := 59) (L := [some (.inr (.inr (some (6, i0)))), some (.inl a1), some (.inl a2), some (.inl a3), none, some (.inl w1)]) (st := []) (m' := m4) (v := none) rfl (k_X5_insert d (by omega) i0 (m 6 i0 3) a1 a2 a3 _ _ hv) ?_
      show mm_E (d + 1) 109 (59, [some (.inr (.inr (some (6, i0)))), some (.inl a1), some (.inl a2), some (.inl a3), none, some (.inl w1)], [], m4) (.inl (some (.inl r.1)), r.2, 0, 0)
      refine e_mask (L' := [none, none, none, none, none, some (.inl w1)]) rfl ?_
      refine e_steps 1 (s' := (61, [none, none, none, none, none, some (.inl w1)], [.inl w1], m4)) rfl ?_
      refine e_gr (o := .inl (some (.inl w1))) rfl hres (fun hc hres => ?_)
      obtain rfl := Option.some.inj hres
      rfl
  · refine e_if (s1 := (36, [some (.inr (.inr (some (6, i0)))), some (.inl a1), some (.inl a2), some (.inl a3), some (.inl a4), none], [], m)) (s2 := (7, [some (.inr (.inr (some (6, i0)))), some (.inl a1), some (.inl a2), some (.inl a3), some (.inl a4), none], [], m)) rfl hres (fun hc hres => ?_) (fun hc hres => ?_)
    · refine e_mask (L' := [some (.inr (.inr (some (6, i0)))), some (.inl a1), some (.inl a2), some (.inl a3), none, none]) rfl ?_
      refine e_steps 2 (s' := (41, [some (.inr (.inr (some (6, i0)))), some (.inl a1), some (.inl a2), some (.inl a3), none, none], [.inl 1], m)) rfl ?_
      exact e_mask (L' := [some (.inr (.inr (some (6, i0)))), some (.inl a1), some (.inl a2), some (.inl a3), none, none]) rfl (hk2 _ hres)
    · refine e_steps 7 (s' := (18, [some (.inr (.inr (some (6, i0)))), some (.inl a1), some (.inl a2), some (.inl a3), some (.inl a4), none], [.inl ((m 6 i0 3) - 1), .inr (.inr (some (41, i0))), .inl a1], m)) rfl ?_
      refine e_gd (s1 := (19, [some (.inr (.inr (some (6, i0)))), some (.inl a1), some (.inl a2), some (.inl a3), some (.inl a4), none], [.inl (m 41 i0 ((m 6 i0 3) - 1).toNatClampNeg), .inl a1], m)) rfl hres (fun hc hres => ?_)
      refine e_steps 2 (s' := (22, [some (.inr (.inr (some (6, i0)))), some (.inl a1), some (.inl a2), some (.inl a3), some (.inl a4), none], [.inl a4, .inl (a1 - (m 41 i0 ((m 6 i0 3) - 1).toNatClampNeg))], m)) rfl ?_
      refine e_if (s1 := (40, [some (.inr (.inr (some (6, i0)))), some (.inl a1), some (.inl a2), some (.inl a3), some (.inl a4), none], [], m)) (s2 := (25, [some (.inr (.inr (some (6, i0)))), some (.inl a1), some (.inl a2), some (.inl a3), some (.inl a4), none], [], m)) rfl hres (fun hc hres => ?_) (fun hc hres => ?_)
      · refine e_mask (L' := [some (.inr (.inr (some (6, i0)))), some (.inl a1), some (.inl a2), some (.inl a3), none, none]) rfl ?_
        refine e_steps 1 (s' := (41, [some (.inr (.inr (some (6, i0)))), some (.inl a1), some (.inl a2), some (.inl a3), none, none], [.inl 0], m)) rfl ?_
        exact e_mask (L' := [some (.inr (.inr (some (6, i0)))), some (.inl a1), some (.inl a2), some (.inl a3), none, none]) rfl (hk2 _ hres)
      · refine e_steps 2 (s' := (28, [some (.inr (.inr (some (6, i0)))), some (.inl a1), some (.inl a2), some (.inl a3), some (.inl a4), none], [.inl 40, .inl a2], m)) rfl ?_
        refine e_if (s1 := (36, [some (.inr (.inr (some (6, i0)))), some (.inl a1), some (.inl a2), some (.inl a3), some (.inl a4), none], [], m)) (s2 := (31, [some (.inr (.inr (some (6, i0)))), some (.inl a1), some (.inl a2), some (.inl a3), some (.inl a4), none], [], m)) rfl hres (fun hc hres => ?_) (fun hc hres => ?_)
        · refine e_mask (L' := [some (.inr (.inr (some (6, i0)))), some (.inl a1), some (.inl a2), some (.inl a3), none, none]) rfl ?_
          refine e_steps 2 (s' := (41, [some (.inr (.inr (some (6, i0)))), some (.inl a1), some (.inl a2), some (.inl a3), none, none], [.inl 1], m)) rfl ?_
          exact e_mask (L' := [some (.inr (.inr (some (6, i0)))), some (.inl a1), some (.inl a2), some (.inl a3), none, none]) rfl (hk2 _ hres)
        · refine e_steps 2 (s' := (33, [some (.inr (.inr (some (6, i0)))), some (.inl a1), some (.inl a2), some (.inl a3), some (.inl a4), none], [.inl 3, .inl a3], m)) rfl ?_
          refine e_if (s1 := (40, [some (.inr (.inr (some (6, i0)))), some (.inl a1), some (.inl a2), some (.inl a3), some (.inl a4), none], [], m)) (s2 := (36, [some (.inr (.inr (some (6, i0)))), some (.inl a1), some (.inl a2), some (.inl a3), some (.inl a4), none], [], m)) rfl hres (fun hc hres => ?_) (fun hc hres => ?_)
          · refine e_mask (L' := [some (.inr (.inr (some (6, i0)))), some (.inl a1), some (.inl a2), some (.inl a3), none, none]) rfl ?_
            refine e_steps 1 (s' := (41, [some (.inr (.inr (some (6, i0)))), some (.inl a1), some (.inl a2), some (.inl a3), none, none], [.inl 0], m)) rfl ?_
            exact e_mask (L' := [some (.inr (.inr (some (6, i0)))), some (.inl a1), some (.inl a2), some (.inl a3), none, none]) rfl (hk2 _ hres)
          · refine e_mask (L' := [some (.inr (.inr (some (6, i0)))), some (.inl a1), some (.inl a2), some (.inl a3), none, none]) rfl ?_
            refine e_steps 2 (s' := (41, [some (.inr (.inr (some (6, i0)))), some (.inl a1), some (.inl a2), some (.inl a3), none, none], [.inl 1], m)) rfl ?_
            exact e_mask (L' := [some (.inr (.inr (some (6, i0)))), some (.inl a1), some (.inl a2), some (.inl a3), none, none]) rfl (hk2 _ hres)
/-- GlassThreads$Row.addMirror(I)V -/
def f_X5_addMirror (i0 : Nat) (a1 : Int32) (m : mm_M) : Option (mm_M) :=
if a1 ≤ 0 then (some m)
else (if 24 ≤ (m 6 i0 5) then (some m)
else (if mm_in (m 6 i0 5) 24 then (
mm_let (mm_w m 44 i0 ((m 6 i0 5).toNatClampNeg) a1) fun m1 =>
mm_let (mm_w m1 6 i0 5 ((m1 6 i0 5) + 1)) fun m2 =>
some m2) else none))
set_option maxHeartbeats 4000000 in
set_option maxRecDepth 100000 in
theorem k_X5_addMirror (d : Nat) (hd : 0 ≤ d) (i0 : Nat) (a1 : Int32) (m : mm_M) (r : mm_M) (hres : f_X5_addMirror i0 a1 m = some r) : mm_X d 110 [.inr (.inr (some (6, i0))), .inl a1] m (.inl none, r, 0, 0) := by
  unfold f_X5_addMirror at hres
  show mm_E d 110 (0, [some (.inr (.inr (some (6, i0)))), some (.inl a1)], [], m) (.inl none, r, 0, 0)
  refine e_steps 1 (s' := (1, [some (.inr (.inr (some (6, i0)))), some (.inl a1)], [.inl a1], m)) rfl ?_
  refine e_if (s1 := (36, [some (.inr (.inr (some (6, i0)))), some (.inl a1)], [], m)) (s2 := (4, [some (.inr (.inr (some (6, i0)))), some (.inl a1)], [], m)) rfl hres (fun hc hres => ?_) (fun hc hres => ?_)
  · refine e_mask (L' := [none, none]) rfl ?_
    obtain rfl := Option.some.inj hres
    exact e_ret rfl rfl
  · refine e_steps 5 (s' := (13, [some (.inr (.inr (some (6, i0)))), some (.inl a1)], [.inl 24, .inl (m 6 i0 5)], m)) rfl ?_
    refine e_if (s1 := (36, [some (.inr (.inr (some (6, i0)))), some (.inl a1)], [], m)) (s2 := (16, [some (.inr (.inr (some (6, i0)))), some (.inl a1)], [], m)) rfl hres (fun hc hres => ?_) (fun hc hres => ?_)
    · refine e_mask (L' := [none, none]) rfl ?_
      obtain rfl := Option.some.inj hres
      exact e_ret rfl rfl
    · refine e_steps 5 (s' := (25, [some (.inr (.inr (some (6, i0)))), some (.inl a1)], [.inl a1, .inl (m 6 i0 5), .inr (.inr (some (44, i0)))], m)) rfl ?_
      refine e_gd (s1 := (26, [some (.inr (.inr (some (6, i0)))), some (.inl a1)], [], (mm_w m 44 i0 ((m 6 i0 5).toNatClampNeg) a1))) rfl hres (fun hc hres => ?_)
      refine e_let (fun (m1 : mm_M) => (26, [some (.inr (.inr (some (6, i0)))), some (.inl a1)], [], m1)) hres (fun m1 hres => ?_)
      refine e_steps 6 (s' := (36, [some (.inr (.inr (some (6, i0)))), some (.inl a1)], [], (mm_w m1 6 i0 5 ((m1 6 i0 5) + 1)))) rfl ?_
      refine e_let (fun (m2 : mm_M) => (36, [some (.inr (.inr (some (6, i0)))), some (.inl a1)], [], m2)) hres (fun m2 hres => ?_)
      refine e_mask (L' := [none, none]) rfl ?_
      obtain rfl := Option.some.inj hres
      exact e_ret rfl rfl
/-- GlassThreads$Row.passRun(LGlassThreads$Scene;IIZI)I -/
def f_X5_passRun (i0 : Nat) (a2 : Int32) (a3 : Int32) (a4 : Int32) (a5 : Int32) (m : mm_M) : Option (Int32 × mm_M) :=
if (m 4 0 4) = -1 then (none) else (mm_let (m 4 0 4).toNatClampNeg fun i1 =>
if mm_in a2 24 then (
mm_let (m 38 i1 a2.toNatClampNeg) fun v2 =>
if mm_in a2 24 then (
mm_let (m 34 0 a2.toNatClampNeg) fun v3 =>
mm_let (fun (v4 : Int32) => (mm_let (v2 / 2) fun v6 =>
if mm_in a2 24 then (
mm_let (fun (m7 : mm_M) => (if v3 = (-1) then (some (v4, m7))
else (mm_b2 (f_X5_step i0 (a3 + v4) 0 3 a5 m7) fun r9 m10 =>
some (v4, m10)) : Option (Int32 × mm_M))) fun k8 =>
if (m 33 0 a2.toNatClampNeg) ≤ 0 then (k8 m)
else (if v4 < v6 then (k8 m)
else (if mm_in a2 24 then (
mm_b2 (f_X5_step i0 (a3 + v6) (m 33 0 a2.toNatClampNeg) 0 a5 m) fun r11 m12 =>
k8 m12) else none))) else none : Option (Int32 × mm_M))) fun k5 =>
if v3 = (-1) then (k5 v2)
else (if a4 = 0 then (k5 v3)
else (mm_let (v2 - v3) fun v13 =>
k5 v13))) else none) else none)
set_option maxHeartbeats 4000000 in
set_option maxRecDepth 100000 in
theorem k_X5_passRun (d : Nat) (hd : 2 ≤ d) (i0 : Nat) (a2 : Int32) (a3 : Int32) (a4 : Int32) (a5 : Int32) (m : mm_M) (r : Int32 × mm_M) (hres : f_X5_passRun i0 a2 a3 a4 a5 m = some r) : mm_X d 108 [.inr (.inr (some (6, i0))), .inr (.inr (some (4, 0))), .inl a2, .inl a3, .inl a4, .inl a5] m (.inl (some (.inl r.1)), r.2, 0, 0) := by
  unfold f_X5_passRun at hres
  obtain ⟨d, rfl⟩ : ∃ e, d = e + 1 := ⟨d - 1, by omega⟩
  show mm_E (d + 1) 108 (0, [some (.inr (.inr (some (6, i0)))), some (.inr (.inr (some (4, 0)))), some (.inl a2), some (.inl a3), some (.inl a4), some (.inl a5), none, none, none, none], [], m) (.inl (some (.inl r.1)), r.2, 0, 0)
  refine e_steps 1 (s' := (1, [some (.inr (.inr (some (6, i0)))), some (.inr (.inr (some (4, 0)))), some (.inl a2), some (.inl a3), some (.inl a4), some (.inl a5), none, none, none, none], [.inr (.inr (some (4, 0)))], m)) rfl ?_
  refine e_if (s1 := (4, [some (.inr (.inr (some (6, i0)))), some (.inr (.inr (some (4, 0)))), some (.inl a2), some (.inl a3), some (.inl a4), some (.inl a5), none, none, none, none], [.inr (.inr none)], m)) (s2 := (4, [some (.inr (.inr (some (6, i0)))), some (.inr (.inr (some (4, 0)))), some (.inl a2), some (.inl a3), some (.inl a4), some (.inl a5), none, none, none, none], [.inr (.inr (some (5, (m 4 0 4).toNatClampNeg)))], m)) rfl hres (fun hc hres => ?_) (fun hc hres => ?_)
  · cases hres
  · refine e_let (fun (i1 : Nat) => (4, [some (.inr (.inr (some (6, i0)))), some (.inr (.inr (some (4, 0)))), some (.inl a2), some (.inl a3), some (.inl a4), some (.inl a5), none, none, none, none], [.inr (.inr (some (5, i1)))], m)) hres (fun i1 hres => ?_)
    refine e_steps 2 (s' := (8, [some (.inr (.inr (some (6, i0)))), some (.inr (.inr (some (4, 0)))), some (.inl a2), some (.inl a3), some (.inl a4), some (.inl a5), none, none, none, none], [.inl a2, .inr (.inr (some (38, i1)))], m)) rfl ?_
    refine e_gd (s1 := (9, [some (.inr (.inr (some (6, i0)))), some (.inr (.inr (some (4, 0)))), some (.inl a2), some (.inl a3), some (.inl a4), some (.inl a5), none, none, none, none], [.inl (m 38 i1 a2.toNatClampNeg)], m)) rfl hres (fun hc hres => ?_)
    refine e_steps 1 (s' := (11, [some (.inr (.inr (some (6, i0)))), some (.inr (.inr (some (4, 0)))), some (.inl a2), some (.inl a3), some (.inl a4), some (.inl a5), some (.inl (m 38 i1 a2.toNatClampNeg)), none, none, none], [], m)) rfl ?_
    refine e_let (fun (v2 : Int32) => (11, [some (.inr (.inr (some (6, i0)))), some (.inr (.inr (some (4, 0)))), some (.inl a2), some (.inl a3), some (.inl a4), some (.inl a5), some (.inl v2), none, none, none], [], m)) hres (fun v2 hres => ?_)
    refine e_steps 3 (s' := (16, [some (.inr (.inr (some (6, i0)))), some (.inr (.inr (some (4, 0)))), some (.inl a2), some (.inl a3), some (.inl a4), some (.inl a5), some (.inl v2), none, none, none], [.inl a2, .inr (.inr (some (34, 0)))], m)) rfl ?_
    refine e_gd (s1 := (17, [some (.inr (.inr (some (6, i0)))), some (.inr (.inr (some (4, 0)))), some (.inl a2), some (.inl a3), some (.inl a4), some (.inl a5), some (.inl v2), none, none, none], [.inl (m 34 0 a2.toNatClampNeg)], m)) rfl hres (fun hc hres => ?_)
    refine e_steps 1 (s' := (19, [some (.inr (.inr (some (6, i0)))), some (.inr (.inr (some (4, 0)))), some (.inl a2), some (.inl a3), some (.inl a4), some (.inl a5), some (.inl v2), some (.inl (m 34 0 a2.toNatClampNeg)), none, none], [], m)) rfl ?_
    refine e_let (fun (v3 : Int32) => (19, [some (.inr (.inr (some (6, i0)))), some (.inr (.inr (some (4, 0)))), some (.inl a2), some (.inl a3), some (.inl a4), some (.inl a5), some (.inl v2), some (.inl v3), none, none], [], m)) hres (fun v3 hres => ?_)
    refine e_steps 4 (s' := (26, [some (.inr (.inr (some (6, i0)))), some (.inr (.inr (some (4, 0)))), some (.inl a2), some (.inl a3), some (.inl a4), some (.inl a5), some (.inl v2), some (.inl v3), some (.inl v2), none], [.inl (-1), .inl v3], m)) rfl ?_
    refine e_join (fun k5 => ∀ (v4 : Int32), k5 v4 = some r → mm_E (d + 1) 108 (46, [some (.inr (.inr (some (6, i0)))), some (.inr (.inr (some (4, 0)))), some (.inl a2), some (.inl a3), none, some (.inl a5), some (.inl v2), some (.inl v3), some (.inl v4), none], [], m) (.inl (some (.inl r.1)), r.2, 0, 0)) hres (fun v4 hres => ?_) (fun k5 hk5 hres => ?_)
    · refine e_steps 4 (s' := (52, [some (.inr (.inr (some (6, i0)))), some (.inr (.inr (some (4, 0)))), some (.inl a2), some (.inl a3), none, some (.inl a5), some (.inl v2), some (.inl v3), some (.inl v4), some (.inl (v2 / 2))], [], m)) rfl ?_
      refine e_let (fun (v6 : Int32) => (52, [some (.inr (.inr (some (6, i0)))), some (.inr (.inr (some (4, 0)))), some (.inl a2), some (.inl a3), none, some (.inl a5), some (.inl v2), some (.inl v3), some (.inl v4), some (.inl v6)], [], m)) hres (fun v6 hres => ?_)
      refine e_steps 3 (s' := (57, [some (.inr (.inr (some (6, i0)))), some (.inr (.inr (some (4, 0)))), some (.inl a2), some (.inl a3), none, some (.inl a5), some (.inl v2), some (.inl v3), some (.inl v4), some (.inl v6)], [.inl a2, .inr (.inr (some (33, 0)))], m)) rfl ?_
      refine e_gd (s1 := (58, [some (.inr (.inr (some (6, i0)))), some (.inr (.inr (some (4, 0)))), some (.inl a2), some (.inl a3), none, some (.inl a5), some (.inl v2), some (.inl v3), some (.inl v4), some (.inl v6)], [.inl (m 33 0 a2.toNatClampNeg)], m)) rfl hres (fun hc hres => ?_)
      refine e_join (fun k8 => ∀ (m7 : mm_M), k8 m7 = some r → mm_E (d + 1) 108 (86, [some (.inr (.inr (some (6, i0)))), none, none, some (.inl a3), none, some (.inl a5), none, some (.inl v3), some (.inl v4), none], [], m7) (.inl (some (.inl r.1)), r.2, 0, 0)) hres (fun m7 hres => ?_) (fun k8 hk8 hres => ?_)
      · refine e_steps 2 (s' := (89, [some (.inr (.inr (some (6, i0)))), none, none, some (.inl a3), none, some (.inl a5), none, some (.inl v3), some (.inl v4), none], [.inl (-1), .inl v3], m7)) rfl ?_
        refine e_if (s1 := (105, [some (.inr (.inr (some (6, i0)))), none, none, some (.inl a3), none, some (.inl a5), none, some (.inl v3), some (.inl v4), none], [], m7)) (s2 := (92, [some (.inr (.inr (some (6, i0)))), none, none, some (.inl a3), none, some (.inl a5), none, some (.inl v3), some (.inl v4), none], [], m7)) rfl hres (fun hc hres => ?_) (fun hc hres => ?_)
        · refine e_mask (L' := [none, none, none, none, none, none, none, none, some (.inl v4), none]) rfl ?_
          refine e_steps 1 (s' := (107, [none, none, none, none, none, none, none, none, some (.inl v4), none], [.inl v4], m7)) rfl ?_
          obtain rfl := Option.some.inj hres
          exact e_ret rfl rfl
        · refine e_steps 7 (s' := (101, [some (.inr (.inr (some (6, i0)))), none, none, some (.inl a3), none, some (.inl a5), none, some (.inl v3), some (.inl v4), none], [.inl a5, .inl 3, .inl 0, .inl (a3 + v4), .inr (.inr (some (6, i0)))], m7)) rfl ?_
          obtain ⟨r9, m10, hv, hres⟩ := mm_b2_some hres
          refine e_call0 (pc := 104) (L := [some (.inr (.inr (some (6, i0)))), none, none, some (.inl a3), none, some (.inl a5), none, some (.inl v3), some (.inl v4), none]) (st := []) (m' := m10) (v := some (.inl r9)) rfl (k_X5_step d (by omega) i0 (a3 + v4) 0 3 a5 _ _ hv) ?_
          show mm_E (d + 1) 108 (104, [some (.inr (.inr (some (6, i0)))), none, none, some (.inl a3), none, some (.inl a5), none, some (.inl v3), some (.inl v4), none], [.inl r9], m10) (.inl (some (.inl r.1)), r.2, 0, 0)
          refine e_steps 1 (s' := (105, [some (.inr (.inr (some (6, i0)))), none, none, some (.inl a3), none, some (.inl a5), none, some (.inl v3), some (.inl v4), none], [], m10)) rfl ?_
          refine e_mask (L' := [none, none, none, none, none, none, none, none, some (.inl v4), none]) rfl ?_
          refine e_steps 1 (s' := (107, [none, none, none, none, none, none, none, none, some (.inl v4), none], [.inl v4], m10)) rfl ?_
          obtain rfl := Option.some.inj hres
          exact e_ret rfl rfl
      · refine e_if (s1 := (86, [some (.inr (.inr (some (6, i0)))), some (.inr (.inr (some (4, 0)))), some (.inl a2), some (.inl a3), none, some (.inl a5), some (.inl v2), some (.inl v3), some (.inl v4), some (.inl v6)], [], m)) (s2 := (61, [some (.inr (.inr (some (6, i0)))), some (.inr (.inr (some (4, 0)))), some (.inl a2), some (.inl a3), none, some (.inl a5), some (.inl v2), some (.inl v3), some (.inl v4), some (.inl v6)], [], m)) rfl hres (fun hc hres => ?_) (fun hc hres => ?_)
        · exact e_mask (L' := [some (.inr (.inr (some (6, i0)))), none, none, some (.inl a3), none, some (.inl a5), none, some (.inl v3), some (.inl v4), none]) rfl (hk8 _ hres)
        · refine e_steps 2 (s' := (65, [some (.inr (.inr (some (6, i0)))), some (.inr (.inr (some (4, 0)))), some (.inl a2), some (.inl a3), none, some (.inl a5), some (.inl v2), some (.inl v3), some (.inl v4), some (.inl v6)], [.inl v4, .inl v6], m)) rfl ?_
          refine e_if (s1 := (86, [some (.inr (.inr (some (6, i0)))), some (.inr (.inr (some (4, 0)))), some (.inl a2), some (.inl a3), none, some (.inl a5), some (.inl v2), some (.inl v3), some (.inl v4), some (.inl v6)], [], m)) (s2 := (68, [some (.inr (.inr (some (6, i0)))), some (.inr (.inr (some (4, 0)))), some (.inl a2), some (.inl a3), none, some (.inl a5), some (.inl v2), some (.inl v3), some (.inl v4), some (.inl v6)], [], m)) rfl hres (fun hc hres => ?_) (fun hc hres => ?_)
          · exact e_mask (L' := [some (.inr (.inr (some (6, i0)))), none, none, some (.inl a3), none, some (.inl a5), none, some (.inl v3), some (.inl v4), none]) rfl (hk8 _ hres)
          · refine e_steps 7 (s' := (78, [some (.inr (.inr (some (6, i0)))), some (.inr (.inr (some (4, 0)))), some (.inl a2), some (.inl a3), none, some (.inl a5), some (.inl v2), some (.inl v3), some (.inl v4), some (.inl v6)], [.inl a2, .inr (.inr (some (33, 0))), .inl (a3 + v6), .inr (.inr (some (6, i0)))], m)) rfl ?_
            refine e_gd (s1 := (79, [some (.inr (.inr (some (6, i0)))), some (.inr (.inr (some (4, 0)))), some (.inl a2), some (.inl a3), none, some (.inl a5), some (.inl v2), some (.inl v3), some (.inl v4), some (.inl v6)], [.inl (m 33 0 a2.toNatClampNeg), .inl (a3 + v6), .inr (.inr (some (6, i0)))], m)) rfl hres (fun hc hres => ?_)
            refine e_steps 2 (s' := (82, [some (.inr (.inr (some (6, i0)))), some (.inr (.inr (some (4, 0)))), some (.inl a2), some (.inl a3), none, some (.inl a5), some (.inl v2), some (.inl v3), some (.inl v4), some (.inl v6)], [.inl a5, .inl 0, .inl (m 33 0 a2.toNatClampNeg), .inl (a3 + v6), .inr (.inr (some (6, i0)))], m)) rfl ?_
            obtain ⟨r11, m12, hv, hres⟩ := mm_b2_some hres
            refine e_call0 (pc := 85) (L := [some (.inr (.inr (some (6, i0)))), some (.inr (.inr (some (4, 0)))), some (.inl a2), some (.inl a3), none, some (.inl a5), some (.inl v2), some (.inl v3), some (.inl v4), some (.inl v6)]) (st := []) (m' := m12) (v := some (.inl r11)) rfl (k_X5_step d (by omega) i0 (a3 + v6) (m 33 0 a2.toNatClampNeg) 0 a5 _ _ hv) ?_
            show mm_E (d + 1) 108 (85, [some (.inr (.inr (some (6, i0)))), some (.inr (.inr (some (4, 0)))), some (.inl a2), some (.inl a3), none, some (.inl a5), some (.inl v2), some (.inl v3), some (.inl v4), some (.inl v6)], [.inl r11], m12) (.inl (some (.inl r.1)), r.2, 0, 0)
            refine e_steps 1 (s' := (86, [some (.inr (.inr (some (6, i0)))), some (.inr (.inr (some (4, 0)))), some (.inl a2), some (.inl a3), none, some (.inl a5), some (.inl v2), some (.inl v3), some (.inl v4), some (.inl v6)], [], m12)) rfl ?_
            exact e_mask (L' := [some (.inr (.inr (some (6, i0)))), none, none, some (.inl a3), none, some (.inl a5), none, some (.inl v3), some (.inl v4), none]) rfl (hk8 _ hres)
    · refine e_if (s1 := (46, [some (.inr (.inr (some (6, i0)))), some (.inr (.inr (some (4, 0)))), some (.inl a2), some (.inl a3), some (.inl a4), some (.inl a5), some (.inl v2), some (.inl v3), some (.inl v2), none], [], m)) (s2 := (29, [some (.inr (.inr (some (6, i0)))), some (.inr (.inr (some (4, 0)))), some (.inl a2), some (.inl a3), some (.inl a4), some (.inl a5), some (.inl v2), some (.inl v3), some (.inl v2), none], [], m)) rfl hres (fun hc hres => ?_) (fun hc hres => ?_)
      · exact e_mask (L' := [some (.inr (.inr (some (6, i0)))), some (.inr (.inr (some (4, 0)))), some (.inl a2), some (.inl a3), none, some (.inl a5), some (.inl v2), some (.inl v3), some (.inl v2), none]) rfl (hk5 _ hres)
      · refine e_steps 1 (s' := (31, [some (.inr (.inr (some (6, i0)))), some (.inr (.inr (some (4, 0)))), some (.inl a2), some (.inl a3), some (.inl a4), some (.inl a5), some (.inl v2), some (.inl v3), some (.inl v2), none], [.inl a4], m)) rfl ?_
        refine e_if (s1 := (42, [some (.inr (.inr (some (6, i0)))), some (.inr (.inr (some (4, 0)))), some (.inl a2), some (.inl a3), some (.inl a4), some (.inl a5), some (.inl v2), some (.inl v3), some (.inl v2), none], [], m)) (s2 := (34, [some (.inr (.inr (some (6, i0)))), some (.inr (.inr (some (4, 0)))), some (.inl a2), some (.inl a3), some (.inl a4), some (.inl a5), some (.inl v2), some (.inl v3), some (.inl v2), none], [], m)) rfl hres (fun hc hres => ?_) (fun hc hres => ?_)
        · refine e_steps 1 (s' := (44, [some (.inr (.inr (some (6, i0)))), some (.inr (.inr (some (4, 0)))), some (.inl a2), some (.inl a3), some (.inl a4), some (.inl a5), some (.inl v2), some (.inl v3), some (.inl v2), none], [.inl v3], m)) rfl ?_
          refine e_mask (L' := [some (.inr (.inr (some (6, i0)))), some (.inr (.inr (some (4, 0)))), some (.inl a2), some (.inl a3), none, some (.inl a5), some (.inl v2), some (.inl v3), none, none]) rfl ?_
          refine e_steps 1 (s' := (46, [some (.inr (.inr (some (6, i0)))), some (.inr (.inr (some (4, 0)))), some (.inl a2), some (.inl a3), none, some (.inl a5), some (.inl v2), some (.inl v3), some (.inl v3), none], [], m)) rfl ?_
          exact e_mask (L' := [some (.inr (.inr (some (6, i0)))), some (.inr (.inr (some (4, 0)))), some (.inl a2), some (.inl a3), none, some (.inl a5), some (.inl v2), some (.inl v3), some (.inl v3), none]) rfl (hk5 _ hres)
        · refine e_steps 4 (s' := (44, [some (.inr (.inr (some (6, i0)))), some (.inr (.inr (some (4, 0)))), some (.inl a2), some (.inl a3), some (.inl a4), some (.inl a5), some (.inl v2), some (.inl v3), some (.inl v2), none], [.inl (v2 - v3)], m)) rfl ?_
          refine e_mask (L' := [some (.inr (.inr (some (6, i0)))), some (.inr (.inr (some (4, 0)))), some (.inl a2), some (.inl a3), none, some (.inl a5), some (.inl v2), some (.inl v3), none, none]) rfl ?_
          refine e_steps 1 (s' := (46, [some (.inr (.inr (some (6, i0)))), some (.inr (.inr (some (4, 0)))), some (.inl a2), some (.inl a3), none, some (.inl a5), some (.inl v2), some (.inl v3), some (.inl (v2 - v3)), none], [], m)) rfl ?_
          refine e_let (fun (v13 : Int32) => (46, [some (.inr (.inr (some (6, i0)))), some (.inr (.inr (some (4, 0)))), some (.inl a2), some (.inl a3), none, some (.inl a5), some (.inl v2), some (.inl v3), some (.inl v13), none], [], m)) hres (fun v13 hres => ?_)
          exact e_mask (L' := [some (.inr (.inr (some (6, i0)))), some (.inr (.inr (some (4, 0)))), some (.inl a2), some (.inl a3), none, some (.inl a5), some (.inl v2), some (.inl v3), some (.inl v13), none]) rfl (hk5 _ hres)
/-- GlassThreads$Row.isNearSeen(II)Z -/
def f_X5_isNearSeen (i0 : Nat) (a1 : Int32) (a2 : Int32) (m : mm_M) : Option (Int32) :=
(mm_b1 (mm_loop (σ := Int32) (ρ := (Unit) ⊕ (Unit)) (fun (v2 : Int32) => (if (m 6 i0 3) ≤ v2 then (some (.inr (.inr ())))
else (if mm_in v2 49 then (
if (m 43 i0 v2.toNatClampNeg) = 4 then (mm_let (v2 + 1) fun v3 =>
some (.inl v3))
else (if mm_in v2 49 then (
if a2 < (mm_abs ((m 41 i0 v2.toNatClampNeg) - a1)) then (mm_let (v2 + 1) fun v4 =>
some (.inl v4))
else (some (.inr (.inl ())))) else none)) else none) : Option ((Int32) ⊕ ((Unit) ⊕ (Unit))))) mm_fu 0) fun t => match t with
| .inl _ => some 1
| .inr _ => some 0)
set_option maxHeartbeats 4000000 in
set_option maxRecDepth 100000 in
theorem k_X5_isNearSeen (d : Nat) (hd : 0 ≤ d) (i0 : Nat) (a1 : Int32) (a2 : Int32) (m : mm_M) (r : Int32) (hres : f_X5_isNearSeen i0 a1 a2 m = some r) : mm_X d 112 [.inr (.inr (some (6, i0))), .inl a1, .inl a2] m (.inl (some (.inl r)), m, 0, 0) := by
  unfold f_X5_isNearSeen at hres
  show mm_E d 112 (0, [some (.inr (.inr (some (6, i0)))), some (.inl a1), some (.inl a2), none], [], m) (.inl (some (.inl r)), m, 0, 0)
  refine e_steps 2 (s' := (2, [some (.inr (.inr (some (6, i0)))), some (.inl a1), some (.inl a2), some (.inl 0)], [], m)) rfl ?_
  refine e_mask (L' := [some (.inr (.inr (some (6, i0)))), some (.inl a1), some (.inl a2), some (.inl 0)]) rfl ?_
  refine e_loopb (φ := fun s => (2, [some (.inr (.inr (some (6, i0)))), some (.inl a1), some (.inl a2), some (.inl s)], [], m)) (K := fun t => match t with | .inl t => mm_E d 112 (35, [none, none, none, none], [], m) (.inl (some (.inl r)), m, 0, 0) | .inr t => mm_E d 112 (43, [none, none, none, none], [], m) (.inl (some (.inl r)), m, 0, 0)) hres (fun t hres => ?_) (fun v2 ol1 hres hcl1 hxl1 => ?_)
  · rcases t with _ | _
    · show mm_E d 112 (35, [none, none, none, none], [], m) (.inl (some (.inl r)), m, 0, 0)
      refine e_steps 1 (s' := (36, [none, none, none, none], [.inl 1], m)) rfl ?_
      obtain rfl := Option.some.inj hres
      exact e_ret rfl rfl
    · show mm_E d 112 (43, [none, none, none, none], [], m) (.inl (some (.inl r)), m, 0, 0)
      refine e_steps 1 (s' := (44, [none, none, none, none], [.inl 0], m)) rfl ?_
      obtain rfl := Option.some.inj hres
      exact e_ret rfl rfl
  · show mm_E d 112 (2, [some (.inr (.inr (some (6, i0)))), some (.inl a1), some (.inl a2), some (.inl v2)], [], m) (.inl (some (.inl r)), m, 0, 0)
    refine e_steps 3 (s' := (7, [some (.inr (.inr (some (6, i0)))), some (.inl a1), some (.inl a2), some (.inl v2)], [.inl (m 6 i0 3), .inl v2], m)) rfl ?_
    refine e_if (s1 := (43, [some (.inr (.inr (some (6, i0)))), some (.inl a1), some (.inl a2), some (.inl v2)], [], m)) (s2 := (10, [some (.inr (.inr (some (6, i0)))), some (.inl a1), some (.inl a2), some (.inl v2)], [], m)) rfl hres (fun hc hres => ?_) (fun hc hres => ?_)
    · obtain rfl := Option.some.inj hres
      exact e_mask (L' := [none, none, none, none]) rfl (hxl1 _ rfl)
    · refine e_steps 3 (s' := (15, [some (.inr (.inr (some (6, i0)))), some (.inl a1), some (.inl a2), some (.inl v2)], [.inl v2, .inr (.inr (some (43, i0)))], m)) rfl ?_
      refine e_gd (s1 := (16, [some (.inr (.inr (some (6, i0)))), some (.inl a1), some (.inl a2), some (.inl v2)], [.inl (m 43 i0 v2.toNatClampNeg)], m)) rfl hres (fun hc hres => ?_)
      refine e_steps 1 (s' := (17, [some (.inr (.inr (some (6, i0)))), some (.inl a1), some (.inl a2), some (.inl v2)], [.inl 4, .inl (m 43 i0 v2.toNatClampNeg)], m)) rfl ?_
      refine e_if (s1 := (37, [some (.inr (.inr (some (6, i0)))), some (.inl a1), some (.inl a2), some (.inl v2)], [], m)) (s2 := (20, [some (.inr (.inr (some (6, i0)))), some (.inl a1), some (.inl a2), some (.inl v2)], [], m)) rfl hres (fun hc hres => ?_) (fun hc hres => ?_)
      · refine e_steps 1 (s' := (40, [some (.inr (.inr (some (6, i0)))), some (.inl a1), some (.inl a2), some (.inl (v2 + 1))], [], m)) rfl ?_
        refine e_let (fun (v3 : Int32) => (40, [some (.inr (.inr (some (6, i0)))), some (.inl a1), some (.inl a2), some (.inl v3)], [], m)) hres (fun v3 hres => ?_)
        refine e_steps 1 (s' := (2, [some (.inr (.inr (some (6, i0)))), some (.inl a1), some (.inl a2), some (.inl v3)], [], m)) rfl ?_
        obtain rfl := Option.some.inj hres
        exact e_mask (L' := [some (.inr (.inr (some (6, i0)))), some (.inl a1), some (.inl a2), some (.inl v3)]) rfl (hcl1 _ rfl)
      · refine e_steps 3 (s' := (25, [some (.inr (.inr (some (6, i0)))), some (.inl a1), some (.inl a2), some (.inl v2)], [.inl v2, .inr (.inr (some (41, i0)))], m)) rfl ?_
        refine e_gd (s1 := (26, [some (.inr (.inr (some (6, i0)))), some (.inl a1), some (.inl a2), some (.inl v2)], [.inl (m 41 i0 v2.toNatClampNeg)], m)) rfl hres (fun hc hres => ?_)
        refine e_steps 4 (s' := (32, [some (.inr (.inr (some (6, i0)))), some (.inl a1), some (.inl a2), some (.inl v2)], [.inl a2, .inl (mm_abs ((m 41 i0 v2.toNatClampNeg) - a1))], m)) rfl ?_
        refine e_if (s1 := (37, [some (.inr (.inr (some (6, i0)))), some (.inl a1), some (.inl a2), some (.inl v2)], [], m)) (s2 := (35, [some (.inr (.inr (some (6, i0)))), some (.inl a1), some (.inl a2), some (.inl v2)], [], m)) rfl hres (fun hc hres => ?_) (fun hc hres => ?_)
        · refine e_steps 1 (s' := (40, [some (.inr (.inr (some (6, i0)))), some (.inl a1), some (.inl a2), some (.inl (v2 + 1))], [], m)) rfl ?_
          refine e_let (fun (v4 : Int32) => (40, [some (.inr (.inr (some (6, i0)))), some (.inl a1), some (.inl a2), some (.inl v4)], [], m)) hres (fun v4 hres => ?_)
          refine e_steps 1 (s' := (2, [some (.inr (.inr (some (6, i0)))), some (.inl a1), some (.inl a2), some (.inl v4)], [], m)) rfl ?_
          obtain rfl := Option.some.inj hres
          exact e_mask (L' := [some (.inr (.inr (some (6, i0)))), some (.inl a1), some (.inl a2), some (.inl v4)]) rfl (hcl1 _ rfl)
        · obtain rfl := Option.some.inj hres
          exact e_mask (L' := [none, none, none, none]) rfl (hxl1 _ rfl)
/-- GlassThreads$Row.placeBehind(I)I -/
def f_X5_placeBehind (i0 : Nat) (a1 : Int32) (m : mm_M) : Option (Int32) :=
(mm_b1 (mm_loop (σ := Int32) (ρ := (Int32)) (fun (v2 : Int32) => (if (m 6 i0 3) ≤ v2 then (some (.inr v2))
else (if mm_in v2 49 then (
if a1 < (m 41 i0 v2.toNatClampNeg) then (some (.inr v2))
else (mm_let (v2 + 1) fun v3 =>
some (.inl v3))) else none) : Option ((Int32) ⊕ ((Int32))))) mm_fu 0) fun v4 =>
some v4)
set_option maxHeartbeats 4000000 in
set_option maxRecDepth 100000 in
theorem k_X5_placeBehind (d : Nat) (hd : 0 ≤ d) (i0 : Nat) (a1 : Int32) (m : mm_M) (r : Int32) (hres : f_X5_placeBehind i0 a1 m = some r) : mm_X d 113 [.inr (.inr (some (6, i0))), .inl a1] m (.inl (some (.inl r)), m, 0, 0) := by
  unfold f_X5_placeBehind at hres
  show mm_E d 113 (0, [some (.inr (.inr (some (6, i0)))), some (.inl a1), none], [], m) (.inl (some (.inl r)), m, 0, 0)
  refine e_steps 2 (s' := (2, [some (.inr (.inr (some (6, i0)))), some (.inl a1), some (.inl 0)], [], m)) rfl ?_
  refine e_mask (L' := [some (.inr (.inr (some (6, i0)))), some (.inl a1), some (.inl 0)]) rfl ?_
  refine e_loopb (φ := fun s => (2, [some (.inr (.inr (some (6, i0)))), some (.inl a1), some (.inl s)], [], m)) (K := fun t => mm_E d 113 (26, [none, none, some (.inl t)], [], m) (.inl (some (.inl r)), m, 0, 0)) hres (fun v4 hres => ?_) (fun v2 ol1 hres hcl1 hxl1 => ?_)
  · show mm_E d 113 (26, [none, none, some (.inl v4)], [], m) (.inl (some (.inl r)), m, 0, 0)
    refine e_steps 1 (s' := (27, [none, none, some (.inl v4)], [.inl v4], m)) rfl ?_
    obtain rfl := Option.some.inj hres
    exact e_ret rfl rfl
  · show mm_E d 113 (2, [some (.inr (.inr (some (6, i0)))), some (.inl a1), some (.inl v2)], [], m) (.inl (some (.inl r)), m, 0, 0)
    refine e_steps 3 (s' := (7, [some (.inr (.inr (some (6, i0)))), some (.inl a1), some (.inl v2)], [.inl (m 6 i0 3), .inl v2], m)) rfl ?_
    refine e_if (s1 := (26, [some (.inr (.inr (some (6, i0)))), some (.inl a1), some (.inl v2)], [], m)) (s2 := (10, [some (.inr (.inr (some (6, i0)))), some (.inl a1), some (.inl v2)], [], m)) rfl hres (fun hc hres => ?_) (fun hc hres => ?_)
    · obtain rfl := Option.some.inj hres
      exact e_mask (L' := [none, none, some (.inl v2)]) rfl (hxl1 _ rfl)
    · refine e_steps 3 (s' := (15, [some (.inr (.inr (some (6, i0)))), some (.inl a1), some (.inl v2)], [.inl v2, .inr (.inr (some (41, i0)))], m)) rfl ?_
      refine e_gd (s1 := (16, [some (.inr (.inr (some (6, i0)))), some (.inl a1), some (.inl v2)], [.inl (m 41 i0 v2.toNatClampNeg)], m)) rfl hres (fun hc hres => ?_)
      refine e_steps 1 (s' := (17, [some (.inr (.inr (some (6, i0)))), some (.inl a1), some (.inl v2)], [.inl a1, .inl (m 41 i0 v2.toNatClampNeg)], m)) rfl ?_
      refine e_if (s1 := (26, [some (.inr (.inr (some (6, i0)))), some (.inl a1), some (.inl v2)], [], m)) (s2 := (20, [some (.inr (.inr (some (6, i0)))), some (.inl a1), some (.inl v2)], [], m)) rfl hres (fun hc hres => ?_) (fun hc hres => ?_)
      · obtain rfl := Option.some.inj hres
        exact e_mask (L' := [none, none, some (.inl v2)]) rfl (hxl1 _ rfl)
      · refine e_steps 1 (s' := (23, [some (.inr (.inr (some (6, i0)))), some (.inl a1), some (.inl (v2 + 1))], [], m)) rfl ?_
        refine e_let (fun (v3 : Int32) => (23, [some (.inr (.inr (some (6, i0)))), some (.inl a1), some (.inl v3)], [], m)) hres (fun v3 hres => ?_)
        refine e_steps 1 (s' := (2, [some (.inr (.inr (some (6, i0)))), some (.inl a1), some (.inl v3)], [], m)) rfl ?_
        obtain rfl := Option.some.inj hres
        exact e_mask (L' := [some (.inr (.inr (some (6, i0)))), some (.inl a1), some (.inl v3)]) rfl (hcl1 _ rfl)
/-- GlassThreads$Row.addGhosts(II)V -/
def f_X5_addGhosts (i0 : Nat) (a1 : Int32) (a2 : Int32) (m : mm_M) : Option (mm_M) :=
(mm_b1 (mm_loop (σ := Int32 × mm_M) (ρ := (mm_M)) (fun (s : Int32 × mm_M) => match s with
| (v2, m3) => (if (m3 6 i0 5) ≤ v2 then (some (.inr m3))
else (if mm_in v2 24 then (
mm_let (2 * (m3 44 i0 v2.toNatClampNeg)) fun v4 =>
if a1 ≤ v4 then (mm_let (v2 + 1) fun v5 =>
some (.inl (v5, m3)))
else (mm_b1 (f_X5_isNearSeen i0 v4 a2 m3) fun r6 =>
if r6 ≠ 0 then (mm_let (v2 + 1) fun v7 =>
some (.inl (v7, m3)))
else (mm_b1 (f_X5_placeBehind i0 v4 m3) fun r8 =>
mm_b1 (f_X5_insert i0 r8 v4 1 4 m3) fun m10 =>
mm_let (v2 + 1) fun v11 =>
some (.inl (v11, m10))))) else none) : Option ((Int32 × mm_M) ⊕ ((mm_M))))) mm_fu (0, m)) fun m12 =>
some m12)
set_option maxHeartbeats 4000000 in
set_option maxRecDepth 100000 in
theorem k_X5_addGhosts (d : Nat) (hd : 1 ≤ d) (i0 : Nat) (a1 : Int32) (a2 : Int32) (m : mm_M) (r : mm_M) (hres : f_X5_addGhosts i0 a1 a2 m = some r) : mm_X d 111 [.inr (.inr (some (6, i0))), .inl a1, .inl a2] m (.inl none, r, 0, 0) := by
  unfold f_X5_addGhosts at hres
  obtain ⟨d, rfl⟩ : ∃ e, d = e + 1 := ⟨d - 1, by omega⟩
  show mm_E (d + 1) 111 (0, [some (.inr (.inr (some (6, i0)))), some (.inl a1), some (.inl a2), none, none], [], m) (.inl none, r, 0, 0)
  refine e_steps 2 (s' := (2, [some (.inr (.inr (some (6, i0)))), some (.inl a1), some (.inl a2), some (.inl 0), none], [], m)) rfl ?_
  refine e_mask (L' := [some (.inr (.inr (some (6, i0)))), some (.inl a1), some (.inl a2), some (.inl 0), none]) rfl ?_
  refine e_loopb (φ := fun s => (2, [some (.inr (.inr (some (6, i0)))), some (.inl a1), some (.inl a2), some (.inl s.1), none], [], s.2)) (K := fun t => mm_E (d + 1) 111 (56, [none, none, none, none, none], [], t) (.inl none, r, 0, 0)) hres (fun m12 hres => ?_) (fun s ol1 hres hcl1 hxl1 => ?_)
  · show mm_E (d + 1) 111 (56, [none, none, none, none, none], [], m12) (.inl none, r, 0, 0)
    obtain rfl := Option.some.inj hres
    exact e_ret rfl rfl
  · obtain ⟨v2, m3⟩ := s
    show mm_E (d + 1) 111 (2, [some (.inr (.inr (some (6, i0)))), some (.inl a1), some (.inl a2), some (.inl v2), none], [], m3) (.inl none, r, 0, 0)
    refine e_steps 3 (s' := (7, [some (.inr (.inr (some (6, i0)))), some (.inl a1), some (.inl a2), some (.inl v2), none], [.inl (m3 6 i0 5), .inl v2], m3)) rfl ?_
    refine e_if (s1 := (56, [some (.inr (.inr (some (6, i0)))), some (.inl a1), some (.inl a2), some (.inl v2), none], [], m3)) (s2 := (10, [some (.inr (.inr (some (6, i0)))), some (.inl a1), some (.inl a2), some (.inl v2), none], [], m3)) rfl hres (fun hc hres => ?_) (fun hc hres => ?_)
    · obtain rfl := Option.some.inj hres
      exact e_mask (L' := [none, none, none, none, none]) rfl (hxl1 _ rfl)
    · refine e_steps 4 (s' := (16, [some (.inr (.inr (some (6, i0)))), some (.inl a1), some (.inl a2), some (.inl v2), none], [.inl v2, .inr (.inr (some (44, i0))), .inl 2], m3)) rfl ?_
      refine e_gd (s1 := (17, [some (.inr (.inr (some (6, i0)))), some (.inl a1), some (.inl a2), some (.inl v2), none], [.inl (m3 44 i0 v2.toNatClampNeg), .inl 2], m3)) rfl hres (fun hc hres => ?_)
      refine e_steps 2 (s' := (20, [some (.inr (.inr (some (6, i0)))), some (.inl a1), some (.inl a2), some (.inl v2), some (.inl (2 * (m3 44 i0 v2.toNatClampNeg)))], [], m3)) rfl ?_
      refine e_let (fun (v4 : Int32) => (20, [some (.inr (.inr (some (6, i0)))), some (.inl a1), some (.inl a2), some (.inl v2), some (.inl v4)], [], m3)) hres (fun v4 hres => ?_)
      refine e_steps 2 (s' := (23, [some (.inr (.inr (some (6, i0)))), some (.inl a1), some (.inl a2), some (.inl v2), some (.inl v4)], [.inl a1, .inl v4], m3)) rfl ?_
      refine e_if (s1 := (50, [some (.inr (.inr (some (6, i0)))), some (.inl a1), some (.inl a2), some (.inl v2), some (.inl v4)], [], m3)) (s2 := (26, [some (.inr (.inr (some (6, i0)))), some (.inl a1), some (.inl a2), some (.inl v2), some (.inl v4)], [], m3)) rfl hres (fun hc hres => ?_) (fun hc hres => ?_)
      · refine e_mask (L' := [some (.inr (.inr (some (6, i0)))), some (.inl a1), some (.inl a2), some (.inl v2), none]) rfl ?_
        refine e_steps 1 (s' := (53, [some (.inr (.inr (some (6, i0)))), some (.inl a1), some (.inl a2), some (.inl (v2 + 1)), none], [], m3)) rfl ?_
        refine e_let (fun (v5 : Int32) => (53, [some (.inr (.inr (some (6, i0)))), some (.inl a1), some (.inl a2), some (.inl v5), none], [], m3)) hres (fun v5 hres => ?_)
        refine e_steps 1 (s' := (2, [some (.inr (.inr (some (6, i0)))), some (.inl a1), some (.inl a2), some (.inl v5), none], [], m3)) rfl ?_
        obtain rfl := Option.some.inj hres
        exact e_mask (L' := [some (.inr (.inr (some (6, i0)))), some (.inl a1), some (.inl a2), some (.inl v5), none]) rfl (hcl1 _ rfl)
      · refine e_steps 3 (s' := (30, [some (.inr (.inr (some (6, i0)))), some (.inl a1), some (.inl a2), some (.inl v2), some (.inl v4)], [.inl a2, .inl v4, .inr (.inr (some (6, i0)))], m3)) rfl ?_
        obtain ⟨r6, hv, hres⟩ := mm_b1_some hres
        refine e_call0 (pc := 33) (L := [some (.inr (.inr (some (6, i0)))), some (.inl a1), some (.inl a2), some (.inl v2), some (.inl v4)]) (st := []) (m' := m3) (v := some (.inl r6)) rfl (k_X5_isNearSeen d (by omega) i0 v4 a2 _ _ hv) ?_
        show mm_E (d + 1) 111 (33, [some (.inr (.inr (some (6, i0)))), some (.inl a1), some (.inl a2), some (.inl v2), some (.inl v4)], [.inl r6], m3) (.inl none, r, 0, 0)
        refine e_if (s1 := (50, [some (.inr (.inr (some (6, i0)))), some (.inl a1), some (.inl a2), some (.inl v2), some (.inl v4)], [], m3)) (s2 := (36, [some (.inr (.inr (some (6, i0)))), some (.inl a1), some (.inl a2), some (.inl v2), some (.inl v4)], [], m3)) rfl hres (fun hc hres => ?_) (fun hc hres => ?_)
        · refine e_mask (L' := [some (.inr (.inr (some (6, i0)))), some (.inl a1), some (.inl a2), some (.inl v2), none]) rfl ?_
          refine e_steps 1 (s' := (53, [some (.inr (.inr (some (6, i0)))), some (.inl a1), some (.inl a2), some (.inl (v2 + 1)), none], [], m3)) rfl ?_
          refine e_let (fun (v7 : Int32) => (53, [some (.inr (.inr (some (6, i0)))), some (.inl a1), some (.inl a2), some (.inl v7), none], [], m3)) hres (fun v7 hres => ?_)
          refine e_steps 1 (s' := (2, [some (.inr (.inr (some (6, i0)))), some (.inl a1), some (.inl a2), some (.inl v7), none], [], m3)) rfl ?_
          obtain rfl := Option.some.inj hres
          exact e_mask (L' := [some (.inr (.inr (some (6, i0)))), some (.inl a1), some (.inl a2), some (.inl v7), none]) rfl (hcl1 _ rfl)
        · refine e_steps 3 (s' := (40, [some (.inr (.inr (some (6, i0)))), some (.inl a1), some (.inl a2), some (.inl v2), some (.inl v4)], [.inl v4, .inr (.inr (some (6, i0))), .inr (.inr (some (6, i0)))], m3)) rfl ?_
          obtain ⟨r8, hv, hres⟩ := mm_b1_some hres
          refine e_call0 (pc := 43) (L := [some (.inr (.inr (some (6, i0)))), some (.inl a1), some (.inl a2), some (.inl v2), some (.inl v4)]) (st := [.inr (.inr (some (6, i0)))]) (m' := m3) (v := some (.inl r8)) rfl (k_X5_placeBehind d (by omega) i0 v4 _ _ hv) ?_
          show mm_E (d + 1) 111 (43, [some (.inr (.inr (some (6, i0)))), some (.inl a1), some (.inl a2), some (.inl v2), some (.inl v4)], [.inl r8, .inr (.inr (some (6, i0)))], m3) (.inl none, r, 0, 0)
          refine e_steps 3 (s' := (47, [some (.inr (.inr (some (6, i0)))), some (.inl a1), some (.inl a2), some (.inl v2), some (.inl v4)], [.inl 4, .inl 1, .inl v4, .inl r8, .inr (.inr (some (6, i0)))], m3)) rfl ?_
          obtain ⟨m10, hv, hres⟩ := mm_b1_some hres
          refine e_call0 (pc := 50) (L := [some (.inr (.inr (some (6, i0)))), some (.inl a1), some (.inl a2), some (.inl v2), some (.inl v4)]) (st := []) (m' := m10) (v := none) rfl (k_X5_insert d (by omega) i0 r8 v4 1 4 _ _ hv) ?_
          show mm_E (d + 1) 111 (50, [some (.inr (.inr (some (6, i0)))), some (.inl a1), some (.inl a2), some (.inl v2), some (.inl v4)], [], m10) (.inl none, r, 0, 0)
          refine e_mask (L' := [some (.inr (.inr (some (6, i0)))), some (.inl a1), some (.inl a2), some (.inl v2), none]) rfl ?_
          refine e_steps 1 (s' := (53, [some (.inr (.inr (some (6, i0)))), some (.inl a1), some (.inl a2), some (.inl (v2 + 1)), none], [], m10)) rfl ?_
          refine e_let (fun (v11 : Int32) => (53, [some (.inr (.inr (some (6, i0)))), some (.inl a1), some (.inl a2), some (.inl v11), none], [], m10)) hres (fun v11 hres => ?_)
          refine e_steps 1 (s' := (2, [some (.inr (.inr (some (6, i0)))), some (.inl a1), some (.inl a2), some (.inl v11), none], [], m10)) rfl ?_
          obtain rfl := Option.some.inj hres
          exact e_mask (L' := [some (.inr (.inr (some (6, i0)))), some (.inl a1), some (.inl a2), some (.inl v11), none]) rfl (hcl1 _ rfl)
/-- GlassThreads$Row.observe(LGlassThreads$Scene;ZI)V -/
def f_X5_observe (i0 : Nat) (a2 : Int32) (a3 : Int32) (m : mm_M) : Option (mm_M) :=
mm_let (mm_w m 6 i0 3 0) fun m1 =>
mm_let (mm_w m1 6 i0 5 0) fun m2 =>
if (m2 4 0 4) = -1 then (none) else (mm_let (m2 4 0 4).toNatClampNeg fun i3 =>
(mm_b1 (mm_loop (σ := Int32 × Int32 × Int32 × mm_M) (ρ := (Int32 × mm_M)) (fun (s : Int32 × Int32 × Int32 × mm_M) => match s with
| (v5, v6, v7, m8) => (if (m8 5 i3 4) ≤ v7 then (some (.inr (v5, m8)))
else (if v6 ≠ 0 then (some (.inr (v5, m8)))
else (mm_let (fun (w9 : Int32) => (if mm_in w9 24 then (
mm_let (m8 37 i3 w9.toNatClampNeg) fun v11 =>
mm_let (fun (v12 : Int32) (m13 : mm_M) => (if v11 = 3 then (mm_let (v7 + 1) fun v15 =>
some (.inl (v12, 1, v15, m13)))
else (if mm_in w9 24 then (
if (m13 34 0 w9.toNatClampNeg) = (-1) then (mm_let (v7 + 1) fun v16 =>
some (.inl (v12, 0, v16, m13)))
else (mm_let (v7 + 1) fun v17 =>
some (.inl (v12, 1, v17, m13)))) else none) : Option ((Int32 × Int32 × Int32 × mm_M) ⊕ ((Int32 × mm_M))))) fun k14 =>
if v11 ≠ 0 then (if v11 = 3 then (k14 v5 m8)
else (if mm_in w9 24 then (
mm_b2 (f_X5_step i0 v5 (m8 36 0 w9.toNatClampNeg) v11 a3 m8) fun r18 m19 =>
if r18 = 0 then (k14 v5 m19)
else (if v11 ≠ 2 then (k14 v5 m19)
else (if mm_in w9 24 then (
if (m19 38 i3 w9.toNatClampNeg) < 10 then (k14 v5 m19)
else (mm_b1 (f_X5_addMirror i0 v5 m19) fun m21 =>
k14 v5 m21)) else none))) else none))
else (mm_b2 (f_X5_passRun i0 w9 v5 a2 a3 m8) fun r22 m23 =>
mm_let (v5 + r22) fun v24 =>
k14 v24 m23)) else none : Option ((Int32 × Int32 × Int32 × mm_M) ⊕ ((Int32 × mm_M))))) fun k10 =>
if a2 = 0 then (k10 v7)
else (k10 (((m8 5 i3 4) - 1) - v7)))) : Option ((Int32 × Int32 × Int32 × mm_M) ⊕ ((Int32 × mm_M))))) mm_fu (0, 0, 0, m2)) fun t => match t with
| (v25, m26) => mm_b1 (f_X5_addGhosts i0 v25 a3 m26) fun m28 =>
some m28))
set_option maxHeartbeats 4000000 in
set_option maxRecDepth 100000 in
theorem k_X5_observe (d : Nat) (hd : 3 ≤ d) (i0 : Nat) (a2 : Int32) (a3 : Int32) (m : mm_M) (r : mm_M) (hres : f_X5_observe i0 a2 a3 m = some r) : mm_X d 107 [.inr (.inr (some (6, i0))), .inr (.inr (some (4, 0))), .inl a2, .inl a3] m (.inl none, r, 0, 0) := by
  unfold f_X5_observe at hres
  obtain ⟨d, rfl⟩ : ∃ e, d = e + 1 := ⟨d - 1, by omega⟩
  show mm_E (d + 1) 107 (0, [some (.inr (.inr (some (6, i0)))), some (.inr (.inr (some (4, 0)))), some (.inl a2), some (.inl a3), none, none, none, none, none, none, none], [], m) (.inl none, r, 0, 0)
  refine e_steps 3 (s' := (5, [some (.inr (.inr (some (6, i0)))), some (.inr (.inr (some (4, 0)))), some (.inl a2), some (.inl a3), none, none, none, none, none, none, none], [], (mm_w m 6 i0 3 0))) rfl ?_
  refine e_let (fun (m1 : mm_M) => (5, [some (.inr (.inr (some (6, i0)))), some (.inr (.inr (some (4, 0)))), some (.inl a2), some (.inl a3), none, none, none, none, none, none, none], [], m1)) hres (fun m1 hres => ?_)
  refine e_steps 3 (s' := (10, [some (.inr (.inr (some (6, i0)))), some (.inr (.inr (some (4, 0)))), some (.inl a2), some (.inl a3), none, none, none, none, none, none, none], [], (mm_w m1 6 i0 5 0))) rfl ?_
  refine e_let (fun (m2 : mm_M) => (10, [some (.inr (.inr (some (6, i0)))), some (.inr (.inr (some (4, 0)))), some (.inl a2), some (.inl a3), none, none, none, none, none, none, none], [], m2)) hres (fun m2 hres => ?_)
  refine e_steps 1 (s' := (11, [some (.inr (.inr (some (6, i0)))), some (.inr (.inr (some (4, 0)))), some (.inl a2), some (.inl a3), none, none, none, none, none, none, none], [.inr (.inr (some (4, 0)))], m2)) rfl ?_
  refine e_if (s1 := (14, [some (.inr (.inr (some (6, i0)))), some (.inr (.inr (some (4, 0)))), some (.inl a2), some (.inl a3), none, none, none, none, none, none, none], [.inr (.inr none)], m2)) (s2 := (14, [some (.inr (.inr (some (6, i0)))), some (.inr (.inr (some (4, 0)))), some (.inl a2), some (.inl a3), none, none, none, none, none, none, none], [.inr (.inr (some (5, (m2 4 0 4).toNatClampNeg)))], m2)) rfl hres (fun hc hres => ?_) (fun hc hres => ?_)
  · cases hres
  · refine e_let (fun (i3 : Nat) => (14, [some (.inr (.inr (some (6, i0)))), some (.inr (.inr (some (4, 0)))), some (.inl a2), some (.inl a3), none, none, none, none, none, none, none], [.inr (.inr (some (5, i3)))], m2)) hres (fun i3 hres => ?_)
    refine e_steps 7 (s' := (25, [some (.inr (.inr (some (6, i0)))), some (.inr (.inr (some (4, 0)))), some (.inl a2), some (.inl a3), some (.inr (.inr (some (5, i3)))), some (.inl 0), some (.inl 0), some (.inl 0), none, none, none], [], m2)) rfl ?_
    refine e_mask (L' := [some (.inr (.inr (some (6, i0)))), some (.inr (.inr (some (4, 0)))), some (.inl a2), some (.inl a3), some (.inr (.inr (some (5, i3)))), some (.inl 0), some (.inl 0), some (.inl 0), none, none, none]) rfl ?_
    refine e_loopb (φ := fun s => (25, [some (.inr (.inr (some (6, i0)))), some (.inr (.inr (some (4, 0)))), some (.inl a2), some (.inl a3), some (.inr (.inr (some (5, i3)))), some (.inl s.1), some (.inl s.2.1), some (.inl s.2.2.1), none, none, none], [], s.2.2.2)) (K := fun t => mm_E (d + 1) 107 (179, [some (.inr (.inr (some (6, i0)))), none, none, some (.inl a3), none, some (.inl t.1), none, none, none, none, none], [], t.2) (.inl none, r, 0, 0)) hres (fun t hres => ?_) (fun s ol4 hres hcl4 hxl4 => ?_)
    · obtain ⟨v25, m26⟩ := t
      show mm_E (d + 1) 107 (179, [some (.inr (.inr (some (6, i0)))), none, none, some (.inl a3), none, some (.inl v25), none, none, none, none, none], [], m26) (.inl none, r, 0, 0)
      refine e_steps 3 (s' := (183, [some (.inr (.inr (some (6, i0)))), none, none, some (.inl a3), none, some (.inl v25), none, none, none, none, none], [.inl a3, .inl v25, .inr (.inr (some (6, i0)))], m26)) rfl ?_
      obtain ⟨m28, hv, hres⟩ := mm_b1_some hres
      refine e_call0 (pc := 186) (L := [some (.inr (.inr (some (6, i0)))), none, none, some (.inl a3), none, some (.inl v25), none, none, none, none, none]) (st := []) (m' := m28) (v := none) rfl (k_X5_addGhosts d (by omega) i0 v25 a3 _ _ hv) ?_
      show mm_E (d + 1) 107 (186, [some (.inr (.inr (some (6, i0)))), none, none, some (.inl a3), none, some (.inl v25), none, none, none, none, none], [], m28) (.inl none, r, 0, 0)
      obtain rfl := Option.some.inj hres
      exact e_ret rfl rfl
    · obtain ⟨v5, v6, v7, m8⟩ := s
      show mm_E (d + 1) 107 (25, [some (.inr (.inr (some (6, i0)))), some (.inr (.inr (some (4, 0)))), some (.inl a2), some (.inl a3), some (.inr (.inr (some (5, i3)))), some (.inl v5), some (.inl v6), some (.inl v7), none, none, none], [], m8) (.inl none, r, 0, 0)
      refine e_steps 3 (s' := (32, [some (.inr (.inr (some (6, i0)))), some (.inr (.inr (some (4, 0)))), some (.inl a2), some (.inl a3), some (.inr (.inr (some (5, i3)))), some (.inl v5), some (.inl v6), some (.inl v7), none, none, none], [.inl (m8 5 i3 4), .inl v7], m8)) rfl ?_
      refine e_if (s1 := (179, [some (.inr (.inr (some (6, i0)))), some (.inr (.inr (some (4, 0)))), some (.inl a2), some (.inl a3), some (.inr (.inr (some (5, i3)))), some (.inl v5), some (.inl v6), some (.inl v7), none, none, none], [], m8)) (s2 := (35, [some (.inr (.inr (some (6, i0)))), some (.inr (.inr (some (4, 0)))), some (.inl a2), some (.inl a3), some (.inr (.inr (some (5, i3)))), some (.inl v5), some (.inl v6), some (.inl v7), none, none, none], [], m8)) rfl hres (fun hc hres => ?_) (fun hc hres => ?_)
      · obtain rfl := Option.some.inj hres
        exact e_mask (L' := [some (.inr (.inr (some (6, i0)))), none, none, some (.inl a3), none, some (.inl v5), none, none, none, none, none]) rfl (hxl4 _ rfl)
      · refine e_steps 1 (s' := (37, [some (.inr (.inr (some (6, i0)))), some (.inr (.inr (some (4, 0)))), some (.inl a2), some (.inl a3), some (.inr (.inr (some (5, i3)))), some (.inl v5), some (.inl v6), some (.inl v7), none, none, none], [.inl v6], m8)) rfl ?_
        refine e_if (s1 := (179, [some (.inr (.inr (some (6, i0)))), some (.inr (.inr (some (4, 0)))), some (.inl a2), some (.inl a3), some (.inr (.inr (some (5, i3)))), some (.inl v5), some (.inl v6), some (.inl v7), none, none, none], [], m8)) (s2 := (40, [some (.inr (.inr (some (6, i0)))), some (.inr (.inr (some (4, 0)))), some (.inl a2), some (.inl a3), some (.inr (.inr (some (5, i3)))), some (.inl v5), some (.inl v6), some (.inl v7), none, none, none], [], m8)) rfl hres (fun hc hres => ?_) (fun hc hres => ?_)
        · obtain rfl := Option.some.inj hres
          exact e_mask (L' := [some (.inr (.inr (some (6, i0)))), none, none, some (.inl a3), none, some (.inl v5), none, none, none, none, none]) rfl (hxl4 _ rfl)
        · refine e_steps 1 (s' := (41, [some (.inr (.inr (some (6, i0)))), some (.inr (.inr (some (4, 0)))), some (.inl a2), some (.inl a3), some (.inr (.inr (some (5, i3)))), some (.inl v5), some (.inl v6), some (.inl v7), none, none, none], [.inl a2], m8)) rfl ?_
          refine e_join (fun k10 => ∀ (w9 : Int32), k10 w9 = some ol4 → mm_E (d + 1) 107 (59, [some (.inr (.inr (some (6, i0)))), some (.inr (.inr (some (4, 0)))), some (.inl a2), some (.inl a3), some (.inr (.inr (some (5, i3)))), some (.inl v5), none, some (.inl v7), none, none, none], [.inl w9], m8) (.inl none, r, 0, 0)) hres (fun w9 hres => ?_) (fun k10 hk10 hres => ?_)
          · refine e_steps 4 (s' := (68, [some (.inr (.inr (some (6, i0)))), some (.inr (.inr (some (4, 0)))), some (.inl a2), some (.inl a3), some (.inr (.inr (some (5, i3)))), some (.inl v5), none, some (.inl v7), some (.inl w9), none, none], [.inl w9, .inr (.inr (some (37, i3)))], m8)) rfl ?_
            refine e_gd (s1 := (69, [some (.inr (.inr (some (6, i0)))), some (.inr (.inr (some (4, 0)))), some (.inl a2), some (.inl a3), some (.inr (.inr (some (5, i3)))), some (.inl v5), none, some (.inl v7), some (.inl w9), none, none], [.inl (m8 37 i3 w9.toNatClampNeg)], m8)) rfl hres (fun hc hres => ?_)
            refine e_steps 1 (s' := (71, [some (.inr (.inr (some (6, i0)))), some (.inr (.inr (some (4, 0)))), some (.inl a2), some (.inl a3), some (.inr (.inr (some (5, i3)))), some (.inl v5), none, some (.inl v7), some (.inl w9), some (.inl (m8 37 i3 w9.toNatClampNeg)), none], [], m8)) rfl ?_
            refine e_let (fun (v11 : Int32) => (71, [some (.inr (.inr (some (6, i0)))), some (.inr (.inr (some (4, 0)))), some (.inl a2), some (.inl a3), some (.inr (.inr (some (5, i3)))), some (.inl v5), none, some (.inl v7), some (.inl w9), some (.inl v11), none], [], m8)) hres (fun v11 hres => ?_)
            refine e_steps 1 (s' := (73, [some (.inr (.inr (some (6, i0)))), some (.inr (.inr (some (4, 0)))), some (.inl a2), some (.inl a3), some (.inr (.inr (some (5, i3)))), some (.inl v5), none, some (.inl v7), some (.inl w9), some (.inl v11), none], [.inl v11], m8)) rfl ?_
            refine e_join (fun k14 => ∀ (v12 : Int32) (m13 : mm_M), k14 v12 m13 = some ol4 → mm_E (d + 1) 107 (149, [some (.inr (.inr (some (6, i0)))), some (.inr (.inr (some (4, 0)))), some (.inl a2), some (.inl a3), some (.inr (.inr (some (5, i3)))), some (.inl v12), none, some (.inl v7), some (.inl w9), some (.inl v11), none], [], m13) (.inl none, r, 0, 0)) hres (fun v12 m13 hres => ?_) (fun k14 hk14 hres => ?_)
            · refine e_steps 2 (s' := (152, [some (.inr (.inr (some (6, i0)))), some (.inr (.inr (some (4, 0)))), some (.inl a2), some (.inl a3), some (.inr (.inr (some (5, i3)))), some (.inl v12), none, some (.inl v7), some (.inl w9), some (.inl v11), none], [.inl 3, .inl v11], m13)) rfl ?_
              refine e_if (s1 := (166, [some (.inr (.inr (some (6, i0)))), some (.inr (.inr (some (4, 0)))), some (.inl a2), some (.inl a3), some (.inr (.inr (some (5, i3)))), some (.inl v12), none, some (.inl v7), some (.inl w9), some (.inl v11), none], [], m13)) (s2 := (155, [some (.inr (.inr (some (6, i0)))), some (.inr (.inr (some (4, 0)))), some (.inl a2), some (.inl a3), some (.inr (.inr (some (5, i3)))), some (.inl v12), none, some (.inl v7), some (.inl w9), some (.inl v11), none], [], m13)) rfl hres (fun hc hres => ?_) (fun hc hres => ?_)
              · refine e_mask (L' := [some (.inr (.inr (some (6, i0)))), some (.inr (.inr (some (4, 0)))), some (.inl a2), some (.inl a3), some (.inr (.inr (some (5, i3)))), some (.inl v12), none, some (.inl v7), none, none, none]) rfl ?_
                refine e_steps 4 (s' := (176, [some (.inr (.inr (some (6, i0)))), some (.inr (.inr (some (4, 0)))), some (.inl a2), some (.inl a3), some (.inr (.inr (some (5, i3)))), some (.inl v12), some (.inl 1), some (.inl (v7 + 1)), none, none, none], [], m13)) rfl ?_
                refine e_let (fun (v15 : Int32) => (176, [some (.inr (.inr (some (6, i0)))), some (.inr (.inr (some (4, 0)))), some (.inl a2), some (.inl a3), some (.inr (.inr (some (5, i3)))), some (.inl v12), some (.inl 1), some (.inl v15), none, none, none], [], m13)) hres (fun v15 hres => ?_)
                refine e_steps 1 (s' := (25, [some (.inr (.inr (some (6, i0)))), some (.inr (.inr (some (4, 0)))), some (.inl a2), some (.inl a3), some (.inr (.inr (some (5, i3)))), some (.inl v12), some (.inl 1), some (.inl v15), none, none, none], [], m13)) rfl ?_
                obtain rfl := Option.some.inj hres
                exact e_mask (L' := [some (.inr (.inr (some (6, i0)))), some (.inr (.inr (some (4, 0)))), some (.inl a2), some (.inl a3), some (.inr (.inr (some (5, i3)))), some (.inl v12), some (.inl 1), some (.inl v15), none, none, none]) rfl (hcl4 _ rfl)
              · refine e_steps 3 (s' := (161, [some (.inr (.inr (some (6, i0)))), some (.inr (.inr (some (4, 0)))), some (.inl a2), some (.inl a3), some (.inr (.inr (some (5, i3)))), some (.inl v12), none, some (.inl v7), some (.inl w9), some (.inl v11), none], [.inl w9, .inr (.inr (some (34, 0)))], m13)) rfl ?_
                refine e_gd (s1 := (162, [some (.inr (.inr (some (6, i0)))), some (.inr (.inr (some (4, 0)))), some (.inl a2), some (.inl a3), some (.inr (.inr (some (5, i3)))), some (.inl v12), none, some (.inl v7), some (.inl w9), some (.inl v11), none], [.inl (m13 34 0 w9.toNatClampNeg)], m13)) rfl hres (fun hc hres => ?_)
                refine e_steps 1 (s' := (163, [some (.inr (.inr (some (6, i0)))), some (.inr (.inr (some (4, 0)))), some (.inl a2), some (.inl a3), some (.inr (.inr (some (5, i3)))), some (.inl v12), none, some (.inl v7), some (.inl w9), some (.inl v11), none], [.inl (-1), .inl (m13 34 0 w9.toNatClampNeg)], m13)) rfl ?_
                refine e_if (s1 := (170, [some (.inr (.inr (some (6, i0)))), some (.inr (.inr (some (4, 0)))), some (.inl a2), some (.inl a3), some (.inr (.inr (some (5, i3)))), some (.inl v12), none, some (.inl v7), some (.inl w9), some (.inl v11), none], [], m13)) (s2 := (166, [some (.inr (.inr (some (6, i0)))), some (.inr (.inr (some (4, 0)))), some (.inl a2), some (.inl a3), some (.inr (.inr (some (5, i3)))), some (.inl v12), none, some (.inl v7), some (.inl w9), some (.inl v11), none], [], m13)) rfl hres (fun hc hres => ?_) (fun hc hres => ?_)
                · refine e_steps 1 (s' := (171, [some (.inr (.inr (some (6, i0)))), some (.inr (.inr (some (4, 0)))), some (.inl a2), some (.inl a3), some (.inr (.inr (some (5, i3)))), some (.inl v12), none, some (.inl v7), some (.inl w9), some (.inl v11), none], [.inl 0], m13)) rfl ?_
                  refine e_mask (L' := [some (.inr (.inr (some (6, i0)))), some (.inr (.inr (some (4, 0)))), some (.inl a2), some (.inl a3), some (.inr (.inr (some (5, i3)))), some (.inl v12), none, some (.inl v7), none, none, none]) rfl ?_
                  refine e_steps 2 (s' := (176, [some (.inr (.inr (some (6, i0)))), some (.inr (.inr (some (4, 0)))), some (.inl a2), some (.inl a3), some (.inr (.inr (some (5, i3)))), some (.inl v12), some (.inl 0), some (.inl (v7 + 1)), none, none, none], [], m13)) rfl ?_
                  refine e_let (fun (v16 : Int32) => (176, [some (.inr (.inr (some (6, i0)))), some (.inr (.inr (some (4, 0)))), some (.inl a2), some (.inl a3), some (.inr (.inr (some (5, i3)))), some (.inl v12), some (.inl 0), some (.inl v16), none, none, none], [], m13)) hres (fun v16 hres => ?_)
                  refine e_steps 1 (s' := (25, [some (.inr (.inr (some (6, i0)))), some (.inr (.inr (some (4, 0)))), some (.inl a2), some (.inl a3), some (.inr (.inr (some (5, i3)))), some (.inl v12), some (.inl 0), some (.inl v16), none, none, none], [], m13)) rfl ?_
                  obtain rfl := Option.some.inj hres
                  exact e_mask (L' := [some (.inr (.inr (some (6, i0)))), some (.inr (.inr (some (4, 0)))), some (.inl a2), some (.inl a3), some (.inr (.inr (some (5, i3)))), some (.inl v12), some (.inl 0), some (.inl v16), none, none, none]) rfl (hcl4 _ rfl)
                · refine e_mask (L' := [some (.inr (.inr (some (6, i0)))), some (.inr (.inr (some (4, 0)))), some (.inl a2), some (.inl a3), some (.inr (.inr (some (5, i3)))), some (.inl v12), none, some (.inl v7), none, none, none]) rfl ?_
                  refine e_steps 4 (s' := (176, [some (.inr (.inr (some (6, i0)))), some (.inr (.inr (some (4, 0)))), some (.inl a2), some (.inl a3), some (.inr (.inr (some (5, i3)))), some (.inl v12), some (.inl 1), some (.inl (v7 + 1)), none, none, none], [], m13)) rfl ?_
                  refine e_let (fun (v17 : Int32) => (176, [some (.inr (.inr (some (6, i0)))), some (.inr (.inr (some (4, 0)))), some (.inl a2), some (.inl a3), some (.inr (.inr (some (5, i3)))), some (.inl v12), some (.inl 1), some (.inl v17), none, none, none], [], m13)) hres (fun v17 hres => ?_)
                  refine e_steps 1 (s' := (25, [some (.inr (.inr (some (6, i0)))), some (.inr (.inr (some (4, 0)))), some (.inl a2), some (.inl a3), some (.inr (.inr (some (5, i3)))), some (.inl v12), some (.inl 1), some (.inl v17), none, none, none], [], m13)) rfl ?_
                  obtain rfl := Option.some.inj hres
                  exact e_mask (L' := [some (.inr (.inr (some (6, i0)))), some (.inr (.inr (some (4, 0)))), some (.inl a2), some (.inl a3), some (.inr (.inr (some (5, i3)))), some (.inl v12), some (.inl 1), some (.inl v17), none, none, none]) rfl (hcl4 _ rfl)
            · refine e_if (s1 := (95, [some (.inr (.inr (some (6, i0)))), some (.inr (.inr (some (4, 0)))), some (.inl a2), some (.inl a3), some (.inr (.inr (some (5, i3)))), some (.inl v5), none, some (.inl v7), some (.inl w9), some (.inl v11), none], [], m8)) (s2 := (76, [some (.inr (.inr (some (6, i0)))), some (.inr (.inr (some (4, 0)))), some (.inl a2), some (.inl a3), some (.inr (.inr (some (5, i3)))), some (.inl v5), none, some (.inl v7), some (.inl w9), some (.inl v11), none], [], m8)) rfl hres (fun hc hres => ?_) (fun hc hres => ?_)
              · refine e_steps 2 (s' := (98, [some (.inr (.inr (some (6, i0)))), some (.inr (.inr (some (4, 0)))), some (.inl a2), some (.inl a3), some (.inr (.inr (some (5, i3)))), some (.inl v5), none, some (.inl v7), some (.inl w9), some (.inl v11), none], [.inl 3, .inl v11], m8)) rfl ?_
                refine e_if (s1 := (149, [some (.inr (.inr (some (6, i0)))), some (.inr (.inr (some (4, 0)))), some (.inl a2), some (.inl a3), some (.inr (.inr (some (5, i3)))), some (.inl v5), none, some (.inl v7), some (.inl w9), some (.inl v11), none], [], m8)) (s2 := (101, [some (.inr (.inr (some (6, i0)))), some (.inr (.inr (some (4, 0)))), some (.inl a2), some (.inl a3), some (.inr (.inr (some (5, i3)))), some (.inl v5), none, some (.inl v7), some (.inl w9), some (.inl v11), none], [], m8)) rfl hres (fun hc hres => ?_) (fun hc hres => ?_)
                · exact e_mask (L' := [some (.inr (.inr (some (6, i0)))), some (.inr (.inr (some (4, 0)))), some (.inl a2), some (.inl a3), some (.inr (.inr (some (5, i3)))), some (.inl v5), none, some (.inl v7), some (.inl w9), some (.inl v11), none]) rfl (hk14 _ _ hres)
                · refine e_steps 5 (s' := (110, [some (.inr (.inr (some (6, i0)))), some (.inr (.inr (some (4, 0)))), some (.inl a2), some (.inl a3), some (.inr (.inr (some (5, i3)))), some (.inl v5), none, some (.inl v7), some (.inl w9), some (.inl v11), none], [.inl w9, .inr (.inr (some (36, 0))), .inl v5, .inr (.inr (some (6, i0)))], m8)) rfl ?_
                  refine e_gd (s1 := (111, [some (.inr (.inr (some (6, i0)))), some (.inr (.inr (some (4, 0)))), some (.inl a2), some (.inl a3), some (.inr (.inr (some (5, i3)))), some (.inl v5), none, some (.inl v7), some (.inl w9), some (.inl v11), none], [.inl (m8 36 0 w9.toNatClampNeg), .inl v5, .inr (.inr (some (6, i0)))], m8)) rfl hres (fun hc hres => ?_)
                  refine e_steps 2 (s' := (114, [some (.inr (.inr (some (6, i0)))), some (.inr (.inr (some (4, 0)))), some (.inl a2), some (.inl a3), some (.inr (.inr (some (5, i3)))), some (.inl v5), none, some (.inl v7), some (.inl w9), some (.inl v11), none], [.inl a3, .inl v11, .inl (m8 36 0 w9.toNatClampNeg), .inl v5, .inr (.inr (some (6, i0)))], m8)) rfl ?_
                  obtain ⟨r18, m19, hv, hres⟩ := mm_b2_some hres
                  refine e_call0 (pc := 117) (L := [some (.inr (.inr (some (6, i0)))), some (.inr (.inr (some (4, 0)))), some (.inl a2), some (.inl a3), some (.inr (.inr (some (5, i3)))), some (.inl v5), none, some (.inl v7), some (.inl w9), some (.inl v11), none]) (st := []) (m' := m19) (v := some (.inl r18)) rfl (k_X5_step d (by omega) i0 v5 (m8 36 0 w9.toNatClampNeg) v11 a3 _ _ hv) ?_
                  show mm_E (d + 1) 107 (117, [some (.inr (.inr (some (6, i0)))), some (.inr (.inr (some (4, 0)))), some (.inl a2), some (.inl a3), some (.inr (.inr (some (5, i3)))), some (.inl v5), none, some (.inl v7), some (.inl w9), some (.inl v11), none], [.inl r18], m19) (.inl none, r, 0, 0)
                  refine e_steps 2 (s' := (121, [some (.inr (.inr (some (6, i0)))), some (.inr (.inr (some (4, 0)))), some (.inl a2), some (.inl a3), some (.inr (.inr (some (5, i3)))), some (.inl v5), none, some (.inl v7), some (.inl w9), some (.inl v11), some (.inl r18)], [.inl r18], m19)) rfl ?_
                  refine e_if (s1 := (149, [some (.inr (.inr (some (6, i0)))), some (.inr (.inr (some (4, 0)))), some (.inl a2), some (.inl a3), some (.inr (.inr (some (5, i3)))), some (.inl v5), none, some (.inl v7), some (.inl w9), some (.inl v11), some (.inl r18)], [], m19)) (s2 := (124, [some (.inr (.inr (some (6, i0)))), some (.inr (.inr (some (4, 0)))), some (.inl a2), some (.inl a3), some (.inr (.inr (some (5, i3)))), some (.inl v5), none, some (.inl v7), some (.inl w9), some (.inl v11), some (.inl r18)], [], m19)) rfl hres (fun hc hres => ?_) (fun hc hres => ?_)
                  · exact e_mask (L' := [some (.inr (.inr (some (6, i0)))), some (.inr (.inr (some (4, 0)))), some (.inl a2), some (.inl a3), some (.inr (.inr (some (5, i3)))), some (.inl v5), none, some (.inl v7), some (.inl w9), some (.inl v11), none]) rfl (hk14 _ _ hres)
                  · refine e_steps 2 (s' := (127, [some (.inr (.inr (some (6, i0)))), some (.inr (.inr (some (4, 0)))), some (.inl a2), some (.inl a3), some (.inr (.inr (some (5, i3)))), some (.inl v5), none, some (.inl v7), some (.inl w9), some (.inl v11), some (.inl r18)], [.inl 2, .inl v11], m19)) rfl ?_
                    refine e_if (s1 := (149, [some (.inr (.inr (some (6, i0)))), some (.inr (.inr (some (4, 0)))), some (.inl a2), some (.inl a3), some (.inr (.inr (some (5, i3)))), some (.inl v5), none, some (.inl v7), some (.inl w9), some (.inl v11), some (.inl r18)], [], m19)) (s2 := (130, [some (.inr (.inr (some (6, i0)))), some (.inr (.inr (some (4, 0)))), some (.inl a2), some (.inl a3), some (.inr (.inr (some (5, i3)))), some (.inl v5), none, some (.inl v7), some (.inl w9), some (.inl v11), some (.inl r18)], [], m19)) rfl hres (fun hc hres => ?_) (fun hc hres => ?_)
                    · exact e_mask (L' := [some (.inr (.inr (some (6, i0)))), some (.inr (.inr (some (4, 0)))), some (.inl a2), some (.inl a3), some (.inr (.inr (some (5, i3)))), some (.inl v5), none, some (.inl v7), some (.inl w9), some (.inl v11), none]) rfl (hk14 _ _ hres)
                    · refine e_steps 3 (s' := (137, [some (.inr (.inr (some (6, i0)))), some (.inr (.inr (some (4, 0)))), some (.inl a2), some (.inl a3), some (.inr (.inr (some (5, i3)))), some (.inl v5), none, some (.inl v7), some (.inl w9), some (.inl v11), some (.inl r18)], [.inl w9, .inr (.inr (some (38, i3)))], m19)) rfl ?_
                      refine e_gd (s1 := (138, [some (.inr (.inr (some (6, i0)))), some (.inr (.inr (some (4, 0)))), some (.inl a2), some (.inl a3), some (.inr (.inr (some (5, i3)))), some (.inl v5), none, some (.inl v7), some (.inl w9), some (.inl v11), some (.inl r18)], [.inl (m19 38 i3 w9.toNatClampNeg)], m19)) rfl hres (fun hc hres => ?_)
                      refine e_steps 1 (s' := (140, [some (.inr (.inr (some (6, i0)))), some (.inr (.inr (some (4, 0)))), some (.inl a2), some (.inl a3), some (.inr (.inr (some (5, i3)))), some (.inl v5), none, some (.inl v7), some (.inl w9), some (.inl v11), some (.inl r18)], [.inl 10, .inl (m19 38 i3 w9.toNatClampNeg)], m19)) rfl ?_
                      refine e_if (s1 := (149, [some (.inr (.inr (some (6, i0)))), some (.inr (.inr (some (4, 0)))), some (.inl a2), some (.inl a3), some (.inr (.inr (some (5, i3)))), some (.inl v5), none, some (.inl v7), some (.inl w9), some (.inl v11), some (.inl r18)], [], m19)) (s2 := (143, [some (.inr (.inr (some (6, i0)))), some (.inr (.inr (some (4, 0)))), some (.inl a2), some (.inl a3), some (.inr (.inr (some (5, i3)))), some (.inl v5), none, some (.inl v7), some (.inl w9), some (.inl v11), some (.inl r18)], [], m19)) rfl hres (fun hc hres => ?_) (fun hc hres => ?_)
                      · exact e_mask (L' := [some (.inr (.inr (some (6, i0)))), some (.inr (.inr (some (4, 0)))), some (.inl a2), some (.inl a3), some (.inr (.inr (some (5, i3)))), some (.inl v5), none, some (.inl v7), some (.inl w9), some (.inl v11), none]) rfl (hk14 _ _ hres)
                      · refine e_steps 2 (s' := (146, [some (.inr (.inr (some (6, i0)))), some (.inr (.inr (some (4, 0)))), some (.inl a2), some (.inl a3), some (.inr (.inr (some (5, i3)))), some (.inl v5), none, some (.inl v7), some (.inl w9), some (.inl v11), some (.inl r18)], [.inl v5, .inr (.inr (some (6, i0)))], m19)) rfl ?_
                        obtain ⟨m21, hv, hres⟩ := mm_b1_some hres
                        refine e_call0 (pc := 149) (L := [some (.inr (.inr (some (6, i0)))), some (.inr (.inr (some (4, 0)))), some (.inl a2), some (.inl a3), some (.inr (.inr (some (5, i3)))), some (.inl v5), none, some (.inl v7), some (.inl w9), some (.inl v11), some (.inl r18)]) (st := []) (m' := m21) (v := none) rfl (k_X5_addMirror d (by omega) i0 v5 _ _ hv) ?_
                        show mm_E (d + 1) 107 (149, [some (.inr (.inr (some (6, i0)))), some (.inr (.inr (some (4, 0)))), some (.inl a2), some (.inl a3), some (.inr (.inr (some (5, i3)))), some (.inl v5), none, some (.inl v7), some (.inl w9), some (.inl v11), some (.inl r18)], [], m21) (.inl none, r, 0, 0)
                        exact e_mask (L' := [some (.inr (.inr (some (6, i0)))), some (.inr (.inr (some (4, 0)))), some (.inl a2), some (.inl a3), some (.inr (.inr (some (5, i3)))), some (.inl v5), none, some (.inl v7), some (.inl w9), some (.inl v11), none]) rfl (hk14 _ _ hres)
              · refine e_steps 7 (s' := (86, [some (.inr (.inr (some (6, i0)))), some (.inr (.inr (some (4, 0)))), some (.inl a2), some (.inl a3), some (.inr (.inr (some (5, i3)))), some (.inl v5), none, some (.inl v7), some (.inl w9), some (.inl v11), none], [.inl a3, .inl a2, .inl v5, .inl w9, .inr (.inr (some (4, 0))), .inr (.inr (some (6, i0))), .inl v5], m8)) rfl ?_
                obtain ⟨r22, m23, hv, hres⟩ := mm_b2_some hres
                refine e_call0 (pc := 89) (L := [some (.inr (.inr (some (6, i0)))), some (.inr (.inr (some (4, 0)))), some (.inl a2), some (.inl a3), some (.inr (.inr (some (5, i3)))), some (.inl v5), none, some (.inl v7), some (.inl w9), some (.inl v11), none]) (st := [.inl v5]) (m' := m23) (v := some (.inl r22)) rfl (k_X5_passRun d (by omega) i0 w9 v5 a2 a3 _ _ hv) ?_
                show mm_E (d + 1) 107 (89, [some (.inr (.inr (some (6, i0)))), some (.inr (.inr (some (4, 0)))), some (.inl a2), some (.inl a3), some (.inr (.inr (some (5, i3)))), some (.inl v5), none, some (.inl v7), some (.inl w9), some (.inl v11), none], [.inl r22, .inl v5], m23) (.inl none, r, 0, 0)
                refine e_steps 2 (s' := (92, [some (.inr (.inr (some (6, i0)))), some (.inr (.inr (some (4, 0)))), some (.inl a2), some (.inl a3), some (.inr (.inr (some (5, i3)))), some (.inl (v5 + r22)), none, some (.inl v7), some (.inl w9), some (.inl v11), none], [], m23)) rfl ?_
                refine e_let (fun (v24 : Int32) => (92, [some (.inr (.inr (some (6, i0)))), some (.inr (.inr (some (4, 0)))), some (.inl a2), some (.inl a3), some (.inr (.inr (some (5, i3)))), some (.inl v24), none, some (.inl v7), some (.inl w9), some (.inl v11), none], [], m23)) hres (fun v24 hres => ?_)
                refine e_steps 1 (s' := (149, [some (.inr (.inr (some (6, i0)))), some (.inr (.inr (some (4, 0)))), some (.inl a2), some (.inl a3), some (.inr (.inr (some (5, i3)))), some (.inl v24), none, some (.inl v7), some (.inl w9), some (.inl v11), none], [], m23)) rfl ?_
                exact e_mask (L' := [some (.inr (.inr (some (6, i0)))), some (.inr (.inr (some (4, 0)))), some (.inl a2), some (.inl a3), some (.inr (.inr (some (5, i3)))), some (.inl v24), none, some (.inl v7), some (.inl w9), some (.inl v11), none]) rfl (hk14 _ _ hres)
          · refine e_if (s1 := (57, [some (.inr (.inr (some (6, i0)))), some (.inr (.inr (some (4, 0)))), some (.inl a2), some (.inl a3), some (.inr (.inr (some (5, i3)))), some (.inl v5), some (.inl v6), some (.inl v7), none, none, none], [], m8)) (s2 := (44, [some (.inr (.inr (some (6, i0)))), some (.inr (.inr (some (4, 0)))), some (.inl a2), some (.inl a3), some (.inr (.inr (some (5, i3)))), some (.inl v5), some (.inl v6), some (.inl v7), none, none, none], [], m8)) rfl hres (fun hc hres => ?_) (fun hc hres => ?_)
            · refine e_steps 1 (s' := (59, [some (.inr (.inr (some (6, i0)))), some (.inr (.inr (some (4, 0)))), some (.inl a2), some (.inl a3), some (.inr (.inr (some (5, i3)))), some (.inl v5), some (.inl v6), some (.inl v7), none, none, none], [.inl v7], m8)) rfl ?_
              exact e_mask (L' := [some (.inr (.inr (some (6, i0)))), some (.inr (.inr (some (4, 0)))), some (.inl a2), some (.inl a3), some (.inr (.inr (some (5, i3)))), some (.inl v5), none, some (.inl v7), none, none, none]) rfl (hk10 _ hres)
            · refine e_steps 7 (s' := (59, [some (.inr (.inr (some (6, i0)))), some (.inr (.inr (some (4, 0)))), some (.inl a2), some (.inl a3), some (.inr (.inr (some (5, i3)))), some (.inl v5), some (.inl v6), some (.inl v7), none, none, none], [.inl (((m8 5 i3 4) - 1) - v7)], m8)) rfl ?_
              exact e_mask (L' := [some (.inr (.inr (some (6, i0)))), some (.inr (.inr (some (4, 0)))), some (.inl a2), some (.inl a3), some (.inr (.inr (some (5, i3)))), some (.inl v5), none, some (.inl v7), none, none, none]) rfl (hk10 _ hres)
/-- GlassThreads$Row.takeOver(LGlassThreads$Row;)V -/
def f_X5_takeOver (i0 : Nat) (i1 : Nat) (m : mm_M) : Option (mm_M) :=
mm_let (mm_w m 6 i0 3 0) fun m1 =>
(mm_b1 (mm_loop (σ := Int32 × mm_M) (ρ := (mm_M)) (fun (s : Int32 × mm_M) => match s with
| (v3, m4) => (if (m4 6 i1 3) ≤ v3 then (some (.inr m4))
else (if mm_in v3 49 then (
if mm_in v3 49 then (
if mm_in v3 49 then (
mm_b1 (f_X5_insert i0 v3 (m4 41 i1 v3.toNatClampNeg) (m4 42 i1 v3.toNatClampNeg) (m4 43 i1 v3.toNatClampNeg) m4) fun m6 =>
mm_let (v3 + 1) fun v7 =>
some (.inl (v7, m6))) else none) else none) else none) : Option ((Int32 × mm_M) ⊕ ((mm_M))))) mm_fu (0, m1)) fun m8 =>
some m8)
set_option maxHeartbeats 4000000 in
set_option maxRecDepth 100000 in
theorem k_X5_takeOver (d : Nat) (hd : 1 ≤ d) (i0 : Nat) (i1 : Nat) (m : mm_M) (r : mm_M) (hres : f_X5_takeOver i0 i1 m = some r) : mm_X d 115 [.inr (.inr (some (6, i0))), .inr (.inr (some (6, i1)))] m (.inl none, r, 0, 0) := by
  unfold f_X5_takeOver at hres
  obtain ⟨d, rfl⟩ : ∃ e, d = e + 1 := ⟨d - 1, by omega⟩
  show mm_E (d + 1) 115 (0, [some (.inr (.inr (some (6, i0)))), some (.inr (.inr (some (6, i1)))), none], [], m) (.inl none, r, 0, 0)
  refine e_steps 3 (s' := (5, [some (.inr (.inr (some (6, i0)))), some (.inr (.inr (some (6, i1)))), none], [], (mm_w m 6 i0 3 0))) rfl ?_
  refine e_let (fun (m1 : mm_M) => (5, [some (.inr (.inr (some (6, i0)))), some (.inr (.inr (some (6, i1)))), none], [], m1)) hres (fun m1 hres => ?_)
  refine e_steps 2 (s' := (7, [some (.inr (.inr (some (6, i0)))), some (.inr (.inr (some (6, i1)))), some (.inl 0)], [], m1)) rfl ?_
  refine e_mask (L' := [some (.inr (.inr (some (6, i0)))), some (.inr (.inr (some (6, i1)))), some (.inl 0)]) rfl ?_
  refine e_loopb (φ := fun s => (7, [some (.inr (.inr (some (6, i0)))), some (.inr (.inr (some (6, i1)))), some (.inl s.1)], [], s.2)) (K := fun t => mm_E (d + 1) 115 (44, [none, none, none], [], t) (.inl none, r, 0, 0)) hres (fun m8 hres => ?_) (fun s ol2 hres hcl2 hxl2 => ?_)
  · show mm_E (d + 1) 115 (44, [none, none, none], [], m8) (.inl none, r, 0, 0)
    obtain rfl := Option.some.inj hres
    exact e_ret rfl rfl
  · obtain ⟨v3, m4⟩ := s
    show mm_E (d + 1) 115 (7, [some (.inr (.inr (some (6, i0)))), some (.inr (.inr (some (6, i1)))), some (.inl v3)], [], m4) (.inl none, r, 0, 0)
    refine e_steps 3 (s' := (12, [some (.inr (.inr (some (6, i0)))), some (.inr (.inr (some (6, i1)))), some (.inl v3)], [.inl (m4 6 i1 3), .inl v3], m4)) rfl ?_
    refine e_if (s1 := (44, [some (.inr (.inr (some (6, i0)))), some (.inr (.inr (some (6, i1)))), some (.inl v3)], [], m4)) (s2 := (15, [some (.inr (.inr (some (6, i0)))), some (.inr (.inr (some (6, i1)))), some (.inl v3)], [], m4)) rfl hres (fun hc hres => ?_) (fun hc hres => ?_)
    · obtain rfl := Option.some.inj hres
      exact e_mask (L' := [none, none, none]) rfl (hxl2 _ rfl)
    · refine e_steps 5 (s' := (22, [some (.inr (.inr (some (6, i0)))), some (.inr (.inr (some (6, i1)))), some (.inl v3)], [.inl v3, .inr (.inr (some (41, i1))), .inl v3, .inr (.inr (some (6, i0)))], m4)) rfl ?_
      refine e_gd (s1 := (23, [some (.inr (.inr (some (6, i0)))), some (.inr (.inr (some (6, i1)))), some (.inl v3)], [.inl (m4 41 i1 v3.toNatClampNeg), .inl v3, .inr (.inr (some (6, i0)))], m4)) rfl hres (fun hc hres => ?_)
      refine e_steps 3 (s' := (28, [some (.inr (.inr (some (6, i0)))), some (.inr (.inr (some (6, i1)))), some (.inl v3)], [.inl v3, .inr (.inr (some (42, i1))), .inl (m4 41 i1 v3.toNatClampNeg), .inl v3, .inr (.inr (some (6, i0)))], m4)) rfl ?_
      refine e_gd (s1 := (29, [some (.inr (.inr (some (6, i0)))), some (.inr (.inr (some (6, i1)))), some (.inl v3)], [.inl (m4 42 i1 v3.toNatClampNeg), .inl (m4 41 i1 v3.toNatClampNeg), .inl v3, .inr (.inr (some (6, i0)))], m4)) rfl hres (fun hc hres => ?_)
      refine e_steps 3 (s' := (34, [some (.inr (.inr (some (6, i0)))), some (.inr (.inr (some (6, i1)))), some (.inl v3)], [.inl v3, .inr (.inr (some (43, i1))), .inl (m4 42 i1 v3.toNatClampNeg), .inl (m4 41 i1 v3.toNatClampNeg), .inl v3, .inr (.inr (some (6, i0)))], m4)) rfl ?_
      refine e_gd (s1 := (35, [some (.inr (.inr (some (6, i0)))), some (.inr (.inr (some (6, i1)))), some (.inl v3)], [.inl (m4 43 i1 v3.toNatClampNeg), .inl (m4 42 i1 v3.toNatClampNeg), .inl (m4 41 i1 v3.toNatClampNeg), .inl v3, .inr (.inr (some (6, i0)))], m4)) rfl hres (fun hc hres => ?_)
      obtain ⟨m6, hv, hres⟩ := mm_b1_some hres
      refine e_call0 (pc := 38) (L := [some (.inr (.inr (some (6, i0)))), some (.inr (.inr (some (6, i1)))), some (.inl v3)]) (st := []) (m' := m6) (v := none) rfl (k_X5_insert d (by omega) i0 v3 (m4 41 i1 v3.toNatClampNeg) (m4 42 i1 v3.toNatClampNeg) (m4 43 i1 v3.toNatClampNeg) _ _ hv) ?_
      show mm_E (d + 1) 115 (38, [some (.inr (.inr (some (6, i0)))), some (.inr (.inr (some (6, i1)))), some (.inl v3)], [], m6) (.inl none, r, 0, 0)
      refine e_steps 1 (s' := (41, [some (.inr (.inr (some (6, i0)))), some (.inr (.inr (some (6, i1)))), some (.inl (v3 + 1))], [], m6)) rfl ?_
      refine e_let (fun (v7 : Int32) => (41, [some (.inr (.inr (some (6, i0)))), some (.inr (.inr (some (6, i1)))), some (.inl v7)], [], m6)) hres (fun v7 hres => ?_)
      refine e_steps 1 (s' := (7, [some (.inr (.inr (some (6, i0)))), some (.inr (.inr (some (6, i1)))), some (.inl v7)], [], m6)) rfl ?_
      obtain rfl := Option.some.inj hres
      exact e_mask (L' := [some (.inr (.inr (some (6, i0)))), some (.inr (.inr (some (6, i1)))), some (.inl v7)]) rfl (hcl2 _ rfl)
/-- GlassThreads$Row.readFrom(LGlassThreads$Sheet;II)V -/
def f_X5_readFrom (i0 : Nat) (i1 : Nat) (a2 : Int32) (a3 : Int32) (m : mm_M) : Option (mm_M) :=
mm_let (mm_w m 6 i0 3 0) fun m1 =>
(mm_b1 (mm_loop (σ := Int32 × mm_M) (ρ := (mm_M)) (fun (s : Int32 × mm_M) => match s with
| (v3, m4) => (if a3 ≤ v3 then (some (.inr m4))
else (mm_let (a2 + (v3 * 3)) fun v5 =>
if mm_in v5 24 then (
if mm_in (v5 + 1) 24 then (
if mm_in (v5 + 2) 24 then (
mm_b1 (f_X5_insert i0 v3 (m4 63 i1 v5.toNatClampNeg) (m4 63 i1 (v5 + 1).toNatClampNeg) (m4 63 i1 (v5 + 2).toNatClampNeg) m4) fun m7 =>
mm_let (v3 + 1) fun v8 =>
some (.inl (v8, m7))) else none) else none) else none) : Option ((Int32 × mm_M) ⊕ ((mm_M))))) mm_fu (0, m1)) fun m9 =>
some m9)
set_option maxHeartbeats 4000000 in
set_option maxRecDepth 100000 in
theorem k_X5_readFrom (d : Nat) (hd : 1 ≤ d) (i0 : Nat) (i1 : Nat) (a2 : Int32) (a3 : Int32) (m : mm_M) (r : mm_M) (hres : f_X5_readFrom i0 i1 a2 a3 m = some r) : mm_X d 116 [.inr (.inr (some (6, i0))), .inr (.inr (some (11, i1))), .inl a2, .inl a3] m (.inl none, r, 0, 0) := by
  unfold f_X5_readFrom at hres
  obtain ⟨d, rfl⟩ : ∃ e, d = e + 1 := ⟨d - 1, by omega⟩
  show mm_E (d + 1) 116 (0, [some (.inr (.inr (some (6, i0)))), some (.inr (.inr (some (11, i1)))), some (.inl a2), some (.inl a3), none, none], [], m) (.inl none, r, 0, 0)
  refine e_steps 3 (s' := (5, [some (.inr (.inr (some (6, i0)))), some (.inr (.inr (some (11, i1)))), some (.inl a2), some (.inl a3), none, none], [], (mm_w m 6 i0 3 0))) rfl ?_
  refine e_let (fun (m1 : mm_M) => (5, [some (.inr (.inr (some (6, i0)))), some (.inr (.inr (some (11, i1)))), some (.inl a2), some (.inl a3), none, none], [], m1)) hres (fun m1 hres => ?_)
  refine e_steps 2 (s' := (8, [some (.inr (.inr (some (6, i0)))), some (.inr (.inr (some (11, i1)))), some (.inl a2), some (.inl a3), some (.inl 0), none], [], m1)) rfl ?_
  refine e_mask (L' := [some (.inr (.inr (some (6, i0)))), some (.inr (.inr (some (11, i1)))), some (.inl a2), some (.inl a3), some (.inl 0), none]) rfl ?_
  refine e_loopb (φ := fun s => (8, [some (.inr (.inr (some (6, i0)))), some (.inr (.inr (some (11, i1)))), some (.inl a2), some (.inl a3), some (.inl s.1), none], [], s.2)) (K := fun t => mm_E (d + 1) 116 (59, [none, none, none, none, none, none], [], t) (.inl none, r, 0, 0)) hres (fun m9 hres => ?_) (fun s ol2 hres hcl2 hxl2 => ?_)
  · show mm_E (d + 1) 116 (59, [none, none, none, none, none, none], [], m9) (.inl none, r, 0, 0)
    obtain rfl := Option.some.inj hres
    exact e_ret rfl rfl
  · obtain ⟨v3, m4⟩ := s
    show mm_E (d + 1) 116 (8, [some (.inr (.inr (some (6, i0)))), some (.inr (.inr (some (11, i1)))), some (.inl a2), some (.inl a3), some (.inl v3), none], [], m4) (.inl none, r, 0, 0)
    refine e_steps 2 (s' := (11, [some (.inr (.inr (some (6, i0)))), some (.inr (.inr (some (11, i1)))), some (.inl a2), some (.inl a3), some (.inl v3), none], [.inl a3, .inl v3], m4)) rfl ?_
    refine e_if (s1 := (59, [some (.inr (.inr (some (6, i0)))), some (.inr (.inr (some (11, i1)))), some (.inl a2), some (.inl a3), some (.inl v3), none], [], m4)) (s2 := (14, [some (.inr (.inr (some (6, i0)))), some (.inr (.inr (some (11, i1)))), some (.inl a2), some (.inl a3), some (.inl v3), none], [], m4)) rfl hres (fun hc hres => ?_) (fun hc hres => ?_)
    · obtain rfl := Option.some.inj hres
      exact e_mask (L' := [none, none, none, none, none, none]) rfl (hxl2 _ rfl)
    · refine e_steps 6 (s' := (22, [some (.inr (.inr (some (6, i0)))), some (.inr (.inr (some (11, i1)))), some (.inl a2), some (.inl a3), some (.inl v3), some (.inl (a2 + (v3 * 3)))], [], m4)) rfl ?_
      refine e_let (fun (v5 : Int32) => (22, [some (.inr (.inr (some (6, i0)))), some (.inr (.inr (some (11, i1)))), some (.inl a2), some (.inl a3), some (.inl v3), some (.inl v5)], [], m4)) hres (fun v5 hres => ?_)
      refine e_steps 5 (s' := (31, [some (.inr (.inr (some (6, i0)))), some (.inr (.inr (some (11, i1)))), some (.inl a2), some (.inl a3), some (.inl v3), some (.inl v5)], [.inl v5, .inr (.inr (some (63, i1))), .inl v3, .inr (.inr (some (6, i0)))], m4)) rfl ?_
      refine e_gd (s1 := (32, [some (.inr (.inr (some (6, i0)))), some (.inr (.inr (some (11, i1)))), some (.inl a2), some (.inl a3), some (.inl v3), some (.inl v5)], [.inl (m4 63 i1 v5.toNatClampNeg), .inl v3, .inr (.inr (some (6, i0)))], m4)) rfl hres (fun hc hres => ?_)
      refine e_steps 5 (s' := (40, [some (.inr (.inr (some (6, i0)))), some (.inr (.inr (some (11, i1)))), some (.inl a2), some (.inl a3), some (.inl v3), some (.inl v5)], [.inl (v5 + 1), .inr (.inr (some (63, i1))), .inl (m4 63 i1 v5.toNatClampNeg), .inl v3, .inr (.inr (some (6, i0)))], m4)) rfl ?_
      refine e_gd (s1 := (41, [some (.inr (.inr (some (6, i0)))), some (.inr (.inr (some (11, i1)))), some (.inl a2), some (.inl a3), some (.inl v3), some (.inl v5)], [.inl (m4 63 i1 (v5 + 1).toNatClampNeg), .inl (m4 63 i1 v5.toNatClampNeg), .inl v3, .inr (.inr (some (6, i0)))], m4)) rfl hres (fun hc hres => ?_)
      refine e_steps 5 (s' := (49, [some (.inr (.inr (some (6, i0)))), some (.inr (.inr (some (11, i1)))), some (.inl a2), some (.inl a3), some (.inl v3), some (.inl v5)], [.inl (v5 + 2), .inr (.inr (some (63, i1))), .inl (m4 63 i1 (v5 + 1).toNatClampNeg), .inl (m4 63 i1 v5.toNatClampNeg), .inl v3, .inr (.inr (some (6, i0)))], m4)) rfl ?_
      refine e_gd (s1 := (50, [some (.inr (.inr (some (6, i0)))), some (.inr (.inr (some (11, i1)))), some (.inl a2), some (.inl a3), some (.inl v3), some (.inl v5)], [.inl (m4 63 i1 (v5 + 2).toNatClampNeg), .inl (m4 63 i1 (v5 + 1).toNatClampNeg), .inl (m4 63 i1 v5.toNatClampNeg), .inl v3, .inr (.inr (some (6, i0)))], m4)) rfl hres (fun hc hres => ?_)
      obtain ⟨m7, hv, hres⟩ := mm_b1_some hres
      refine e_call0 (pc := 53) (L := [some (.inr (.inr (some (6, i0)))), some (.inr (.inr (some (11, i1)))), some (.inl a2), some (.inl a3), some (.inl v3), some (.inl v5)]) (st := []) (m' := m7) (v := none) rfl (k_X5_insert d (by omega) i0 v3 (m4 63 i1 v5.toNatClampNeg) (m4 63 i1 (v5 + 1).toNatClampNeg) (m4 63 i1 (v5 + 2).toNatClampNeg) _ _ hv) ?_
      show mm_E (d + 1) 116 (53, [some (.inr (.inr (some (6, i0)))), some (.inr (.inr (some (11, i1)))), some (.inl a2), some (.inl a3), some (.inl v3), some (.inl v5)], [], m7) (.inl none, r, 0, 0)
      refine e_steps 1 (s' := (56, [some (.inr (.inr (some (6, i0)))), some (.inr (.inr (some (11, i1)))), some (.inl a2), some (.inl a3), some (.inl (v3 + 1)), some (.inl v5)], [], m7)) rfl ?_
      refine e_let (fun (v8 : Int32) => (56, [some (.inr (.inr (some (6, i0)))), some (.inr (.inr (some (11, i1)))), some (.inl a2), some (.inl a3), some (.inl v8), some (.inl v5)], [], m7)) hres (fun v8 hres => ?_)
      refine e_steps 1 (s' := (8, [some (.inr (.inr (some (6, i0)))), some (.inr (.inr (some (11, i1)))), some (.inl a2), some (.inl a3), some (.inl v8), some (.inl v5)], [], m7)) rfl ?_
      obtain rfl := Option.some.inj hres
      exact e_mask (L' := [some (.inr (.inr (some (6, i0)))), some (.inr (.inr (some (11, i1)))), some (.inl a2), some (.inl a3), some (.inl v8), none]) rfl (hcl2 _ rfl)
/-- GlassThreads$Row.looksLike(LGlassThreads$Row;)Z -/
def f_X5_looksLike (i0 : Nat) (i1 : Nat) (m : mm_M) : Option (Int32) :=
if (m 6 i0 3) = (m 6 i1 3) then ((mm_b1 (mm_loop (σ := Int32) (ρ := (Unit) ⊕ (Unit)) (fun (v2 : Int32) => (if (m 6 i0 3) ≤ v2 then (some (.inr (.inr ())))
else (if mm_in v2 49 then (
if mm_in v2 49 then (
if (m 41 i0 v2.toNatClampNeg) ≠ (m 41 i1 v2.toNatClampNeg) then (some (.inr (.inl ())))
else (if mm_in v2 49 then (
if mm_in v2 49 then (
if (m 42 i0 v2.toNatClampNeg) = (m 42 i1 v2.toNatClampNeg) then (mm_let (v2 + 1) fun v3 =>
some (.inl v3))
else (some (.inr (.inl ())))) else none) else none)) else none) else none) : Option ((Int32) ⊕ ((Unit) ⊕ (Unit))))) mm_fu 0) fun t => match t with
| .inl _ => some 0
| .inr _ => some 1))
else (some 0)
set_option maxHeartbeats 4000000 in
set_option maxRecDepth 100000 in
theorem k_X5_looksLike (d : Nat) (hd : 0 ≤ d) (i0 : Nat) (i1 : Nat) (m : mm_M) (r : Int32) (hres : f_X5_looksLike i0 i1 m = some r) : mm_X d 117 [.inr (.inr (some (6, i0))), .inr (.inr (some (6, i1)))] m (.inl (some (.inl r)), m, 0, 0) := by
  unfold f_X5_looksLike at hres
  show mm_E d 117 (0, [some (.inr (.inr (some (6, i0)))), some (.inr (.inr (some (6, i1)))), none], [], m) (.inl (some (.inl r)), m, 0, 0)
  refine e_steps 4 (s' := (8, [some (.inr (.inr (some (6, i0)))), some (.inr (.inr (some (6, i1)))), none], [.inl (m 6 i1 3), .inl (m 6 i0 3)], m)) rfl ?_
  refine e_if (s1 := (13, [some (.inr (.inr (some (6, i0)))), some (.inr (.inr (some (6, i1)))), none], [], m)) (s2 := (11, [some (.inr (.inr (some (6, i0)))), some (.inr (.inr (some (6, i1)))), none], [], m)) rfl hres (fun hc hres => ?_) (fun hc hres => ?_)
  · refine e_steps 2 (s' := (15, [some (.inr (.inr (some (6, i0)))), some (.inr (.inr (some (6, i1)))), some (.inl 0)], [], m)) rfl ?_
    refine e_mask (L' := [some (.inr (.inr (some (6, i0)))), some (.inr (.inr (some (6, i1)))), some (.inl 0)]) rfl ?_
    refine e_loopb (φ := fun s => (15, [some (.inr (.inr (some (6, i0)))), some (.inr (.inr (some (6, i1)))), some (.inl s)], [], m)) (K := fun t => match t with | .inl t => mm_E d 117 (53, [none, none, none], [], m) (.inl (some (.inl r)), m, 0, 0) | .inr t => mm_E d 117 (61, [none, none, none], [], m) (.inl (some (.inl r)), m, 0, 0)) hres (fun t hres => ?_) (fun v2 ol1 hres hcl1 hxl1 => ?_)
    · rcases t with _ | _
      · show mm_E d 117 (53, [none, none, none], [], m) (.inl (some (.inl r)), m, 0, 0)
        refine e_steps 1 (s' := (54, [none, none, none], [.inl 0], m)) rfl ?_
        obtain rfl := Option.some.inj hres
        exact e_ret rfl rfl
      · show mm_E d 117 (61, [none, none, none], [], m) (.inl (some (.inl r)), m, 0, 0)
        refine e_steps 1 (s' := (62, [none, none, none], [.inl 1], m)) rfl ?_
        obtain rfl := Option.some.inj hres
        exact e_ret rfl rfl
    · show mm_E d 117 (15, [some (.inr (.inr (some (6, i0)))), some (.inr (.inr (some (6, i1)))), some (.inl v2)], [], m) (.inl (some (.inl r)), m, 0, 0)
      refine e_steps 3 (s' := (20, [some (.inr (.inr (some (6, i0)))), some (.inr (.inr (some (6, i1)))), some (.inl v2)], [.inl (m 6 i0 3), .inl v2], m)) rfl ?_
      refine e_if (s1 := (61, [some (.inr (.inr (some (6, i0)))), some (.inr (.inr (some (6, i1)))), some (.inl v2)], [], m)) (s2 := (23, [some (.inr (.inr (some (6, i0)))), some (.inr (.inr (some (6, i1)))), some (.inl v2)], [], m)) rfl hres (fun hc hres => ?_) (fun hc hres => ?_)
      · obtain rfl := Option.some.inj hres
        exact e_mask (L' := [none, none, none]) rfl (hxl1 _ rfl)
      · refine e_steps 3 (s' := (28, [some (.inr (.inr (some (6, i0)))), some (.inr (.inr (some (6, i1)))), some (.inl v2)], [.inl v2, .inr (.inr (some (41, i0)))], m)) rfl ?_
        refine e_gd (s1 := (29, [some (.inr (.inr (some (6, i0)))), some (.inr (.inr (some (6, i1)))), some (.inl v2)], [.inl (m 41 i0 v2.toNatClampNeg)], m)) rfl hres (fun hc hres => ?_)
        refine e_steps 3 (s' := (34, [some (.inr (.inr (some (6, i0)))), some (.inr (.inr (some (6, i1)))), some (.inl v2)], [.inl v2, .inr (.inr (some (41, i1))), .inl (m 41 i0 v2.toNatClampNeg)], m)) rfl ?_
        refine e_gd (s1 := (35, [some (.inr (.inr (some (6, i0)))), some (.inr (.inr (some (6, i1)))), some (.inl v2)], [.inl (m 41 i1 v2.toNatClampNeg), .inl (m 41 i0 v2.toNatClampNeg)], m)) rfl hres (fun hc hres => ?_)
        refine e_if (s1 := (53, [some (.inr (.inr (some (6, i0)))), some (.inr (.inr (some (6, i1)))), some (.inl v2)], [], m)) (s2 := (38, [some (.inr (.inr (some (6, i0)))), some (.inr (.inr (some (6, i1)))), some (.inl v2)], [], m)) rfl hres (fun hc hres => ?_) (fun hc hres => ?_)
        · obtain rfl := Option.some.inj hres
          exact e_mask (L' := [none, none, none]) rfl (hxl1 _ rfl)
        · refine e_steps 3 (s' := (43, [some (.inr (.inr (some (6, i0)))), some (.inr (.inr (some (6, i1)))), some (.inl v2)], [.inl v2, .inr (.inr (some (42, i0)))], m)) rfl ?_
          refine e_gd (s1 := (44, [some (.inr (.inr (some (6, i0)))), some (.inr (.inr (some (6, i1)))), some (.inl v2)], [.inl (m 42 i0 v2.toNatClampNeg)], m)) rfl hres (fun hc hres => ?_)
          refine e_steps 3 (s' := (49, [some (.inr (.inr (some (6, i0)))), some (.inr (.inr (some (6, i1)))), some (.inl v2)], [.inl v2, .inr (.inr (some (42, i1))), .inl (m 42 i0 v2.toNatClampNeg)], m)) rfl ?_
          refine e_gd (s1 := (50, [some (.inr (.inr (some (6, i0)))), some (.inr (.inr (some (6, i1)))), some (.inl v2)], [.inl (m 42 i1 v2.toNatClampNeg), .inl (m 42 i0 v2.toNatClampNeg)], m)) rfl hres (fun hc hres => ?_)
          refine e_if (s1 := (55, [some (.inr (.inr (some (6, i0)))), some (.inr (.inr (some (6, i1)))), some (.inl v2)], [], m)) (s2 := (53, [some (.inr (.inr (some (6, i0)))), some (.inr (.inr (some (6, i1)))), some (.inl v2)], [], m)) rfl hres (fun hc hres => ?_) (fun hc hres => ?_)
          · refine e_steps 1 (s' := (58, [some (.inr (.inr (some (6, i0)))), some (.inr (.inr (some (6, i1)))), some (.inl (v2 + 1))], [], m)) rfl ?_
            refine e_let (fun (v3 : Int32) => (58, [some (.inr (.inr (some (6, i0)))), some (.inr (.inr (some (6, i1)))), some (.inl v3)], [], m)) hres (fun v3 hres => ?_)
            refine e_steps 1 (s' := (15, [some (.inr (.inr (some (6, i0)))), some (.inr (.inr (some (6, i1)))), some (.inl v3)], [], m)) rfl ?_
            obtain rfl := Option.some.inj hres
            exact e_mask (L' := [some (.inr (.inr (some (6, i0)))), some (.inr (.inr (some (6, i1)))), some (.inl v3)]) rfl (hcl1 _ rfl)
          · obtain rfl := Option.some.inj hres
            exact e_mask (L' := [none, none, none]) rfl (hxl1 _ rfl)
  · refine e_steps 1 (s' := (12, [some (.inr (.inr (some (6, i0)))), some (.inr (.inr (some (6, i1)))), none], [.inl 0], m)) rfl ?_
    obtain rfl := Option.some.inj hres
    exact e_ret rfl rfl
/-- GlassThreads$Inquiry.beginWith(LGlassThreads$Strand;)V -/
def f_X1_beginWith (i1 : Nat) (m : mm_M) : Option (mm_M) :=
mm_let (mm_w m 7 0 0 (Int32.ofNat i1)) fun m1 =>
mm_let (mm_w m1 7 0 3 0) fun m2 =>
mm_let (mm_w m2 6 1 3 (-1)) fun m3 =>
mm_let (mm_w m3 6 2 3 (-1)) fun m4 =>
some m4
set_option maxHeartbeats 4000000 in
set_option maxRecDepth 100000 in
theorem k_X1_beginWith (d : Nat) (hd : 0 ≤ d) (i1 : Nat) (m : mm_M) (r : mm_M) (hres : f_X1_beginWith i1 m = some r) : mm_X d 118 [.inr (.inr (some (7, 0))), .inr (.inr (some (5, i1)))] m (.inl none, r, 0, 0) := by
  unfold f_X1_beginWith at hres
  show mm_E d 118 (0, [some (.inr (.inr (some (7, 0)))), some (.inr (.inr (some (5, i1))))], [], m) (.inl none, r, 0, 0)
  refine e_steps 3 (s' := (5, [some (.inr (.inr (some (7, 0)))), some (.inr (.inr (some (5, i1))))], [], (mm_w m 7 0 0 (Int32.ofNat i1)))) rfl ?_
  refine e_let (fun (m1 : mm_M) => (5, [some (.inr (.inr (some (7, 0)))), some (.inr (.inr (some (5, i1))))], [], m1)) hres (fun m1 hres => ?_)
  refine e_steps 3 (s' := (10, [some (.inr (.inr (some (7, 0)))), some (.inr (.inr (some (5, i1))))], [], (mm_w m1 7 0 3 0))) rfl ?_
  refine e_let (fun (m2 : mm_M) => (10, [some (.inr (.inr (some (7, 0)))), some (.inr (.inr (some (5, i1))))], [], m2)) hres (fun m2 hres => ?_)
  refine e_steps 4 (s' := (18, [some (.inr (.inr (some (7, 0)))), some (.inr (.inr (some (5, i1))))], [], (mm_w m2 6 1 3 (-1)))) rfl ?_
  refine e_let (fun (m3 : mm_M) => (18, [some (.inr (.inr (some (7, 0)))), some (.inr (.inr (some (5, i1))))], [], m3)) hres (fun m3 hres => ?_)
  refine e_steps 4 (s' := (26, [some (.inr (.inr (some (7, 0)))), some (.inr (.inr (some (5, i1))))], [], (mm_w m3 6 2 3 (-1)))) rfl ?_
  refine e_let (fun (m4 : mm_M) => (26, [some (.inr (.inr (some (7, 0)))), some (.inr (.inr (some (5, i1))))], [], m4)) hres (fun m4 hres => ?_)
  obtain rfl := Option.some.inj hres
  exact e_ret rfl rfl
/-- GlassThreads$Inquiry.isSuspect(I)Z -/
def f_X1_isSuspect (a1 : Int32) (m : mm_M) : Option (Int32) :=
(mm_b1 (mm_loop (σ := Int32) (ρ := (Unit) ⊕ (Unit)) (fun (v2 : Int32) => (if (m 7 0 3) ≤ v2 then (some (.inr (.inr ())))
else (if mm_in v2 8 then (
if (m 45 0 v2.toNatClampNeg) ≠ a1 then (mm_let (v2 + 1) fun v3 =>
some (.inl v3))
else (some (.inr (.inl ())))) else none) : Option ((Int32) ⊕ ((Unit) ⊕ (Unit))))) mm_fu 0) fun t => match t with
| .inl _ => some 1
| .inr _ => some 0)
set_option maxHeartbeats 4000000 in
set_option maxRecDepth 100000 in
theorem k_X1_isSuspect (d : Nat) (hd : 0 ≤ d) (a1 : Int32) (m : mm_M) (r : Int32) (hres : f_X1_isSuspect a1 m = some r) : mm_X d 120 [.inr (.inr (some (7, 0))), .inl a1] m (.inl (some (.inl r)), m, 0, 0) := by
  unfold f_X1_isSuspect at hres
  show mm_E d 120 (0, [some (.inr (.inr (some (7, 0)))), some (.inl a1), none], [], m) (.inl (some (.inl r)), m, 0, 0)
  refine e_steps 2 (s' := (2, [some (.inr (.inr (some (7, 0)))), some (.inl a1), some (.inl 0)], [], m)) rfl ?_
  refine e_mask (L' := [some (.inr (.inr (some (7, 0)))), some (.inl a1), some (.inl 0)]) rfl ?_
  refine e_loopb (φ := fun s => (2, [some (.inr (.inr (some (7, 0)))), some (.inl a1), some (.inl s)], [], m)) (K := fun t => match t with | .inl t => mm_E d 120 (20, [none, none, none], [], m) (.inl (some (.inl r)), m, 0, 0) | .inr t => mm_E d 120 (28, [none, none, none], [], m) (.inl (some (.inl r)), m, 0, 0)) hres (fun t hres => ?_) (fun v2 ol1 hres hcl1 hxl1 => ?_)
  · rcases t with _ | _
    · show mm_E d 120 (20, [none, none, none], [], m) (.inl (some (.inl r)), m, 0, 0)
      refine e_steps 1 (s' := (21, [none, none, none], [.inl 1], m)) rfl ?_
      obtain rfl := Option.some.inj hres
      exact e_ret rfl rfl
    · show mm_E d 120 (28, [none, none, none], [], m) (.inl (some (.inl r)), m, 0, 0)
      refine e_steps 1 (s' := (29, [none, none, none], [.inl 0], m)) rfl ?_
      obtain rfl := Option.some.inj hres
      exact e_ret rfl rfl
  · show mm_E d 120 (2, [some (.inr (.inr (some (7, 0)))), some (.inl a1), some (.inl v2)], [], m) (.inl (some (.inl r)), m, 0, 0)
    refine e_steps 3 (s' := (7, [some (.inr (.inr (some (7, 0)))), some (.inl a1), some (.inl v2)], [.inl (m 7 0 3), .inl v2], m)) rfl ?_
    refine e_if (s1 := (28, [some (.inr (.inr (some (7, 0)))), some (.inl a1), some (.inl v2)], [], m)) (s2 := (10, [some (.inr (.inr (some (7, 0)))), some (.inl a1), some (.inl v2)], [], m)) rfl hres (fun hc hres => ?_) (fun hc hres => ?_)
    · obtain rfl := Option.some.inj hres
      exact e_mask (L' := [none, none, none]) rfl (hxl1 _ rfl)
    · refine e_steps 3 (s' := (15, [some (.inr (.inr (some (7, 0)))), some (.inl a1), some (.inl v2)], [.inl v2, .inr (.inr (some (45, 0)))], m)) rfl ?_
      refine e_gd (s1 := (16, [some (.inr (.inr (some (7, 0)))), some (.inl a1), some (.inl v2)], [.inl (m 45 0 v2.toNatClampNeg)], m)) rfl hres (fun hc hres => ?_)
      refine e_steps 1 (s' := (17, [some (.inr (.inr (some (7, 0)))), some (.inl a1), some (.inl v2)], [.inl a1, .inl (m 45 0 v2.toNatClampNeg)], m)) rfl ?_
      refine e_if (s1 := (22, [some (.inr (.inr (some (7, 0)))), some (.inl a1), some (.inl v2)], [], m)) (s2 := (20, [some (.inr (.inr (some (7, 0)))), some (.inl a1), some (.inl v2)], [], m)) rfl hres (fun hc hres => ?_) (fun hc hres => ?_)
      · refine e_steps 1 (s' := (25, [some (.inr (.inr (some (7, 0)))), some (.inl a1), some (.inl (v2 + 1))], [], m)) rfl ?_
        refine e_let (fun (v3 : Int32) => (25, [some (.inr (.inr (some (7, 0)))), some (.inl a1), some (.inl v3)], [], m)) hres (fun v3 hres => ?_)
        refine e_steps 1 (s' := (2, [some (.inr (.inr (some (7, 0)))), some (.inl a1), some (.inl v3)], [], m)) rfl ?_
        obtain rfl := Option.some.inj hres
        exact e_mask (L' := [some (.inr (.inr (some (7, 0)))), some (.inl a1), some (.inl v3)]) rfl (hcl1 _ rfl)
      · obtain rfl := Option.some.inj hres
        exact e_mask (L' := [none, none, none]) rfl (hxl1 _ rfl)
/-- GlassThreads$Inquiry.accuse(II)I -/
def f_X1_accuse (a1 : Int32) (a2 : Int32) (m : mm_M) : Option (Int32 × mm_M) :=
if 8 ≤ (m 7 0 3) then (some ((-1), m))
else (mm_b1 (f_X1_isSuspect a1 m) fun r1 =>
if r1 = 0 then (if mm_in (m 7 0 3) 8 then (
mm_let (mm_w m 45 0 ((m 7 0 3).toNatClampNeg) a1) fun m2 =>
if mm_in (m2 7 0 3) 8 then (
mm_let (mm_w m2 46 0 ((m2 7 0 3).toNatClampNeg) a2) fun m3 =>
mm_let (mm_w m3 7 0 3 ((m3 7 0 3) + 1)) fun m4 =>
some ((m4 7 0 3), m4)) else none) else none)
else (some ((-1), m)))
set_option maxHeartbeats 4000000 in
set_option maxRecDepth 100000 in
theorem k_X1_accuse (d : Nat) (hd : 1 ≤ d) (a1 : Int32) (a2 : Int32) (m : mm_M) (r : Int32 × mm_M) (hres : f_X1_accuse a1 a2 m = some r) : mm_X d 119 [.inr (.inr (some (7, 0))), .inl a1, .inl a2] m (.inl (some (.inl r.1)), r.2, 0, 0) := by
  unfold f_X1_accuse at hres
  obtain ⟨d, rfl⟩ : ∃ e, d = e + 1 := ⟨d - 1, by omega⟩
  show mm_E (d + 1) 119 (0, [some (.inr (.inr (some (7, 0)))), some (.inl a1), some (.inl a2)], [], m) (.inl (some (.inl r.1)), r.2, 0, 0)
  refine e_steps 3 (s' := (6, [some (.inr (.inr (some (7, 0)))), some (.inl a1), some (.inl a2)], [.inl 8, .inl (m 7 0 3)], m)) rfl ?_
  refine e_if (s1 := (17, [some (.inr (.inr (some (7, 0)))), some (.inl a1), some (.inl a2)], [], m)) (s2 := (9, [some (.inr (.inr (some (7, 0)))), some (.inl a1), some (.inl a2)], [], m)) rfl hres (fun hc hres => ?_) (fun hc hres => ?_)
  · refine e_mask (L' := [none, none, none]) rfl ?_
    refine e_steps 1 (s' := (18, [none, none, none], [.inl (-1)], m)) rfl ?_
    obtain rfl := Option.some.inj hres
    exact e_ret rfl rfl
  · refine e_steps 2 (s' := (11, [some (.inr (.inr (some (7, 0)))), some (.inl a1), some (.inl a2)], [.inl a1, .inr (.inr (some (7, 0)))], m)) rfl ?_
    obtain ⟨r1, hv, hres⟩ := mm_b1_some hres
    refine e_call0 (pc := 14) (L := [some (.inr (.inr (some (7, 0)))), some (.inl a1), some (.inl a2)]) (st := []) (m' := m) (v := some (.inl r1)) rfl (k_X1_isSuspect d (by omega) a1 _ _ hv) ?_
    show mm_E (d + 1) 119 (14, [some (.inr (.inr (some (7, 0)))), some (.inl a1), some (.inl a2)], [.inl r1], m) (.inl (some (.inl r.1)), r.2, 0, 0)
    refine e_if (s1 := (19, [some (.inr (.inr (some (7, 0)))), some (.inl a1), some (.inl a2)], [], m)) (s2 := (17, [some (.inr (.inr (some (7, 0)))), some (.inl a1), some (.inl a2)], [], m)) rfl hres (fun hc hres => ?_) (fun hc hres => ?_)
    · refine e_steps 5 (s' := (28, [some (.inr (.inr (some (7, 0)))), some (.inl a1), some (.inl a2)], [.inl a1, .inl (m 7 0 3), .inr (.inr (some (45, 0)))], m)) rfl ?_
      refine e_gd (s1 := (29, [some (.inr (.inr (some (7, 0)))), some (.inl a1), some (.inl a2)], [], (mm_w m 45 0 ((m 7 0 3).toNatClampNeg) a1))) rfl hres (fun hc hres => ?_)
      refine e_let (fun (m2 : mm_M) => (29, [some (.inr (.inr (some (7, 0)))), some (.inl a1), some (.inl a2)], [], m2)) hres (fun m2 hres => ?_)
      refine e_steps 5 (s' := (38, [some (.inr (.inr (some (7, 0)))), some (.inl a1), some (.inl a2)], [.inl a2, .inl (m2 7 0 3), .inr (.inr (some (46, 0)))], m2)) rfl ?_
      refine e_gd (s1 := (39, [some (.inr (.inr (some (7, 0)))), some (.inl a1), some (.inl a2)], [], (mm_w m2 46 0 ((m2 7 0 3).toNatClampNeg) a2))) rfl hres (fun hc hres => ?_)
      refine e_let (fun (m3 : mm_M) => (39, [some (.inr (.inr (some (7, 0)))), some (.inl a1), some (.inl a2)], [], m3)) hres (fun m3 hres => ?_)
      refine e_steps 6 (s' := (49, [some (.inr (.inr (some (7, 0)))), some (.inl a1), some (.inl a2)], [], (mm_w m3 7 0 3 ((m3 7 0 3) + 1)))) rfl ?_
      refine e_let (fun (m4 : mm_M) => (49, [some (.inr (.inr (some (7, 0)))), some (.inl a1), some (.inl a2)], [], m4)) hres (fun m4 hres => ?_)
      refine e_steps 2 (s' := (53, [some (.inr (.inr (some (7, 0)))), some (.inl a1), some (.inl a2)], [.inl (m4 7 0 3)], m4)) rfl ?_
      obtain rfl := Option.some.inj hres
      exact e_ret rfl rfl
    · refine e_mask (L' := [none, none, none]) rfl ?_
      refine e_steps 1 (s' := (18, [none, none, none], [.inl (-1)], m)) rfl ?_
      obtain rfl := Option.some.inj hres
      exact e_ret rfl rfl
/-- GlassThreads$Inquiry.toldRow(Z)LGlassThreads$Row; -/
def f_X1_toldRow (a1 : Int32) (m : mm_M) : Option (Nat) :=
if a1 = 0 then (some 1)
else (some 2)
set_option maxHeartbeats 4000000 in
set_option maxRecDepth 100000 in
theorem k_X1_toldRow (d : Nat) (hd : 0 ≤ d) (a1 : Int32) (m : mm_M) (r : Nat) (hres : f_X1_toldRow a1 m = some r) : mm_X d 121 [.inr (.inr (some (7, 0))), .inl a1] m (.inl (some (.inr (.inr (some (6, r))))), m, 0, 0) := by
  unfold f_X1_toldRow at hres
  show mm_E d 121 (0, [some (.inr (.inr (some (7, 0)))), some (.inl a1)], [], m) (.inl (some (.inr (.inr (some (6, r))))), m, 0, 0)
  refine e_steps 1 (s' := (1, [some (.inr (.inr (some (7, 0)))), some (.inl a1)], [.inl a1], m)) rfl ?_
  refine e_if (s1 := (11, [some (.inr (.inr (some (7, 0)))), some (.inl a1)], [], m)) (s2 := (4, [some (.inr (.inr (some (7, 0)))), some (.inl a1)], [], m)) rfl hres (fun hc hres => ?_) (fun hc hres => ?_)
  · refine e_steps 2 (s' := (15, [some (.inr (.inr (some (7, 0)))), some (.inl a1)], [.inr (.inr (some (6, 1)))], m)) rfl ?_
    refine e_mask (L' := [none, none]) rfl ?_
    obtain rfl := Option.some.inj hres
    exact e_ret rfl rfl
  · refine e_steps 3 (s' := (15, [some (.inr (.inr (some (7, 0)))), some (.inl a1)], [.inr (.inr (some (6, 2)))], m)) rfl ?_
    refine e_mask (L' := [none, none]) rfl ?_
    obtain rfl := Option.some.inj hres
    exact e_ret rfl rfl
/-- GlassThreads$Inquiry.bend(LGlassThreads$Scene;I)V -/
def f_X1_bend (a2 : Int32) (m : mm_M) : Option (mm_M) :=
(mm_b1 (mm_loop (σ := Int32 × mm_M) (ρ := (mm_M)) (fun (s : Int32 × mm_M) => match s with
| (v2, m3) => (if (m3 7 0 3) ≤ v2 then (some (.inr m3))
else (if mm_in v2 8 then (
if ((a2 >>> (v2 &&& 31)) &&& 1) ≠ 1 then (if mm_in (m3 45 0 v2.toNatClampNeg) 24 then (
mm_let (mm_w m3 33 0 ((m3 45 0 v2.toNatClampNeg).toNatClampNeg) 0) fun m4 =>
mm_let (v2 + 1) fun v5 =>
some (.inl (v5, m4))) else none)
else (if mm_in v2 8 then (
if mm_in (m3 45 0 v2.toNatClampNeg) 24 then (
mm_let (mm_w m3 33 0 ((m3 45 0 v2.toNatClampNeg).toNatClampNeg) (m3 46 0 v2.toNatClampNeg)) fun m6 =>
mm_let (v2 + 1) fun v7 =>
some (.inl (v7, m6))) else none) else none)) else none) : Option ((Int32 × mm_M) ⊕ ((mm_M))))) mm_fu (0, m)) fun m8 =>
some m8)
set_option maxHeartbeats 4000000 in
set_option maxRecDepth 100000 in
theorem k_X1_bend (d : Nat) (hd : 0 ≤ d) (a2 : Int32) (m : mm_M) (r : mm_M) (hres : f_X1_bend a2 m = some r) : mm_X d 123 [.inr (.inr (some (7, 0))), .inr (.inr (some (4, 0))), .inl a2] m (.inl none, r, 0, 0) := by
  unfold f_X1_bend at hres
  show mm_E d 123 (0, [some (.inr (.inr (some (7, 0)))), some (.inr (.inr (some (4, 0)))), some (.inl a2), none], [], m) (.inl none, r, 0, 0)
  refine e_steps 2 (s' := (2, [some (.inr (.inr (some (7, 0)))), some (.inr (.inr (some (4, 0)))), some (.inl a2), some (.inl 0)], [], m)) rfl ?_
  refine e_mask (L' := [some (.inr (.inr (some (7, 0)))), some (.inr (.inr (some (4, 0)))), some (.inl a2), some (.inl 0)]) rfl ?_
  refine e_loopb (φ := fun s => (2, [some (.inr (.inr (some (7, 0)))), some (.inr (.inr (some (4, 0)))), some (.inl a2), some (.inl s.1)], [], s.2)) (K := fun t => mm_E d 123 (46, [none, none, none, none], [], t) (.inl none, r, 0, 0)) hres (fun m8 hres => ?_) (fun s ol1 hres hcl1 hxl1 => ?_)
  · show mm_E d 123 (46, [none, none, none, none], [], m8) (.inl none, r, 0, 0)
    obtain rfl := Option.some.inj hres
    exact e_ret rfl rfl
  · obtain ⟨v2, m3⟩ := s
    show mm_E d 123 (2, [some (.inr (.inr (some (7, 0)))), some (.inr (.inr (some (4, 0)))), some (.inl a2), some (.inl v2)], [], m3) (.inl none, r, 0, 0)
    refine e_steps 3 (s' := (7, [some (.inr (.inr (some (7, 0)))), some (.inr (.inr (some (4, 0)))), some (.inl a2), some (.inl v2)], [.inl (m3 7 0 3), .inl v2], m3)) rfl ?_
    refine e_if (s1 := (46, [some (.inr (.inr (some (7, 0)))), some (.inr (.inr (some (4, 0)))), some (.inl a2), some (.inl v2)], [], m3)) (s2 := (10, [some (.inr (.inr (some (7, 0)))), some (.inr (.inr (some (4, 0)))), some (.inl a2), some (.inl v2)], [], m3)) rfl hres (fun hc hres => ?_) (fun hc hres => ?_)
    · obtain rfl := Option.some.inj hres
      exact e_mask (L' := [none, none, none, none]) rfl (hxl1 _ rfl)
    · refine e_steps 5 (s' := (19, [some (.inr (.inr (some (7, 0)))), some (.inr (.inr (some (4, 0)))), some (.inl a2), some (.inl v2)], [.inl v2, .inr (.inr (some (45, 0))), .inr (.inr (some (33, 0)))], m3)) rfl ?_
      refine e_gd (s1 := (20, [some (.inr (.inr (some (7, 0)))), some (.inr (.inr (some (4, 0)))), some (.inl a2), some (.inl v2)], [.inl (m3 45 0 v2.toNatClampNeg), .inr (.inr (some (33, 0)))], m3)) rfl hres (fun hc hres => ?_)
      refine e_steps 6 (s' := (26, [some (.inr (.inr (some (7, 0)))), some (.inr (.inr (some (4, 0)))), some (.inl a2), some (.inl v2)], [.inl 1, .inl ((a2 >>> (v2 &&& 31)) &&& 1), .inl (m3 45 0 v2.toNatClampNeg), .inr (.inr (some (33, 0)))], m3)) rfl ?_
      refine e_if (s1 := (38, [some (.inr (.inr (some (7, 0)))), some (.inr (.inr (some (4, 0)))), some (.inl a2), some (.inl v2)], [.inl (m3 45 0 v2.toNatClampNeg), .inr (.inr (some (33, 0)))], m3)) (s2 := (29, [some (.inr (.inr (some (7, 0)))), some (.inr (.inr (some (4, 0)))), some (.inl a2), some (.inl v2)], [.inl (m3 45 0 v2.toNatClampNeg), .inr (.inr (some (33, 0)))], m3)) rfl hres (fun hc hres => ?_) (fun hc hres => ?_)
      · refine e_steps 1 (s' := (39, [some (.inr (.inr (some (7, 0)))), some (.inr (.inr (some (4, 0)))), some (.inl a2), some (.inl v2)], [.inl 0, .inl (m3 45 0 v2.toNatClampNeg), .inr (.inr (some (33, 0)))], m3)) rfl ?_
        refine e_gd (s1 := (40, [some (.inr (.inr (some (7, 0)))), some (.inr (.inr (some (4, 0)))), some (.inl a2), some (.inl v2)], [], (mm_w m3 33 0 ((m3 45 0 v2.toNatClampNeg).toNatClampNeg) 0))) rfl hres (fun hc hres => ?_)
        refine e_let (fun (m4 : mm_M) => (40, [some (.inr (.inr (some (7, 0)))), some (.inr (.inr (some (4, 0)))), some (.inl a2), some (.inl v2)], [], m4)) hres (fun m4 hres => ?_)
        refine e_steps 1 (s' := (43, [some (.inr (.inr (some (7, 0)))), some (.inr (.inr (some (4, 0)))), some (.inl a2), some (.inl (v2 + 1))], [], m4)) rfl ?_
        refine e_let (fun (v5 : Int32) => (43, [some (.inr (.inr (some (7, 0)))), some (.inr (.inr (some (4, 0)))), some (.inl a2), some (.inl v5)], [], m4)) hres (fun v5 hres => ?_)
        refine e_steps 1 (s' := (2, [some (.inr (.inr (some (7, 0)))), some (.inr (.inr (some (4, 0)))), some (.inl a2), some (.inl v5)], [], m4)) rfl ?_
        obtain rfl := Option.some.inj hres
        exact e_mask (L' := [some (.inr (.inr (some (7, 0)))), some (.inr (.inr (some (4, 0)))), some (.inl a2), some (.inl v5)]) rfl (hcl1 _ rfl)
      · refine e_steps 3 (s' := (34, [some (.inr (.inr (some (7, 0)))), some (.inr (.inr (some (4, 0)))), some (.inl a2), some (.inl v2)], [.inl v2, .inr (.inr (some (46, 0))), .inl (m3 45 0 v2.toNatClampNeg), .inr (.inr (some (33, 0)))], m3)) rfl ?_
        refine e_gd (s1 := (35, [some (.inr (.inr (some (7, 0)))), some (.inr (.inr (some (4, 0)))), some (.inl a2), some (.inl v2)], [.inl (m3 46 0 v2.toNatClampNeg), .inl (m3 45 0 v2.toNatClampNeg), .inr (.inr (some (33, 0)))], m3)) rfl hres (fun hc hres => ?_)
        refine e_steps 1 (s' := (39, [some (.inr (.inr (some (7, 0)))), some (.inr (.inr (some (4, 0)))), some (.inl a2), some (.inl v2)], [.inl (m3 46 0 v2.toNatClampNeg), .inl (m3 45 0 v2.toNatClampNeg), .inr (.inr (some (33, 0)))], m3)) rfl ?_
        refine e_gd (s1 := (40, [some (.inr (.inr (some (7, 0)))), some (.inr (.inr (some (4, 0)))), some (.inl a2), some (.inl v2)], [], (mm_w m3 33 0 ((m3 45 0 v2.toNatClampNeg).toNatClampNeg) (m3 46 0 v2.toNatClampNeg)))) rfl hres (fun hc hres => ?_)
        refine e_let (fun (m6 : mm_M) => (40, [some (.inr (.inr (some (7, 0)))), some (.inr (.inr (some (4, 0)))), some (.inl a2), some (.inl v2)], [], m6)) hres (fun m6 hres => ?_)
        refine e_steps 1 (s' := (43, [some (.inr (.inr (some (7, 0)))), some (.inr (.inr (some (4, 0)))), some (.inl a2), some (.inl (v2 + 1))], [], m6)) rfl ?_
        refine e_let (fun (v7 : Int32) => (43, [some (.inr (.inr (some (7, 0)))), some (.inr (.inr (some (4, 0)))), some (.inl a2), some (.inl v7)], [], m6)) hres (fun v7 hres => ?_)
        refine e_steps 1 (s' := (2, [some (.inr (.inr (some (7, 0)))), some (.inr (.inr (some (4, 0)))), some (.inl a2), some (.inl v7)], [], m6)) rfl ?_
        obtain rfl := Option.some.inj hres
        exact e_mask (L' := [some (.inr (.inr (some (7, 0)))), some (.inr (.inr (some (4, 0)))), some (.inl a2), some (.inl v7)]) rfl (hcl1 _ rfl)
/-- GlassThreads$Inquiry.agrees(LGlassThreads$Scene;ZI)Z -/
def f_X1_agrees (a2 : Int32) (a3 : Int32) (m : mm_M) : Option (Int32 × mm_M) :=
mm_b1 (f_X1_toldRow a2 m) fun r1 =>
if (m 6 r1 3) ≠ (-1) then (mm_b1 (f_X5_observe 3 a2 a3 m) fun m3 =>
mm_b1 (f_X5_looksLike 3 r1 m3) fun r4 =>
if r4 = 0 ∨ r4 = 1 then some (r4, m3) else none)
else (some (1, m))
set_option maxHeartbeats 4000000 in
set_option maxRecDepth 100000 in
theorem k_X1_agrees (d : Nat) (hd : 4 ≤ d) (a2 : Int32) (a3 : Int32) (m : mm_M) (r : Int32 × mm_M) (hres : f_X1_agrees a2 a3 m = some r) : mm_X d 124 [.inr (.inr (some (7, 0))), .inr (.inr (some (4, 0))), .inl a2, .inl a3] m (.inl (some (.inl r.1)), r.2, 0, 0) := by
  unfold f_X1_agrees at hres
  obtain ⟨d, rfl⟩ : ∃ e, d = e + 1 := ⟨d - 1, by omega⟩
  show mm_E (d + 1) 124 (0, [some (.inr (.inr (some (7, 0)))), some (.inr (.inr (some (4, 0)))), some (.inl a2), some (.inl a3), none], [], m) (.inl (some (.inl r.1)), r.2, 0, 0)
  refine e_steps 2 (s' := (2, [some (.inr (.inr (some (7, 0)))), some (.inr (.inr (some (4, 0)))), some (.inl a2), some (.inl a3), none], [.inl a2, .inr (.inr (some (7, 0)))], m)) rfl ?_
  obtain ⟨r1, hv, hres⟩ := mm_b1_some hres
  refine e_call0 (pc := 5) (L := [some (.inr (.inr (some (7, 0)))), some (.inr (.inr (some (4, 0)))), some (.inl a2), some (.inl a3), none]) (st := []) (m' := m) (v := some (.inr (.inr (some (6, r1))))) rfl (k_X1_toldRow d (by omega) a2 _ _ hv) ?_
  show mm_E (d + 1) 124 (5, [some (.inr (.inr (some (7, 0)))), some (.inr (.inr (some (4, 0)))), some (.inl a2), some (.inl a3), none], [.inr (.inr (some (6, r1)))], m) (.inl (some (.inl r.1)), r.2, 0, 0)
  refine e_steps 4 (s' := (13, [some (.inr (.inr (some (7, 0)))), some (.inr (.inr (some (4, 0)))), some (.inl a2), some (.inl a3), some (.inr (.inr (some (6, r1))))], [.inl (-1), .inl (m 6 r1 3)], m)) rfl ?_
  refine e_if (s1 := (18, [some (.inr (.inr (some (7, 0)))), some (.inr (.inr (some (4, 0)))), some (.inl a2), some (.inl a3), some (.inr (.inr (some (6, r1))))], [], m)) (s2 := (16, [some (.inr (.inr (some (7, 0)))), some (.inr (.inr (some (4, 0)))), some (.inl a2), some (.inl a3), some (.inr (.inr (some (6, r1))))], [], m)) rfl hres (fun hc hres => ?_) (fun hc hres => ?_)
  · refine e_steps 5 (s' := (25, [some (.inr (.inr (some (7, 0)))), some (.inr (.inr (some (4, 0)))), some (.inl a2), some (.inl a3), some (.inr (.inr (some (6, r1))))], [.inl a3, .inl a2, .inr (.inr (some (4, 0))), .inr (.inr (some (6, 3)))], m)) rfl ?_
    obtain ⟨m3, hv, hres⟩ := mm_b1_some hres
    refine e_call0 (pc := 28) (L := [some (.inr (.inr (some (7, 0)))), some (.inr (.inr (some (4, 0)))), some (.inl a2), some (.inl a3), some (.inr (.inr (some (6, r1))))]) (st := []) (m' := m3) (v := none) rfl (k_X5_observe d (by omega) 3 a2 a3 _ _ hv) ?_
    show mm_E (d + 1) 124 (28, [some (.inr (.inr (some (7, 0)))), some (.inr (.inr (some (4, 0)))), some (.inl a2), some (.inl a3), some (.inr (.inr (some (6, r1))))], [], m3) (.inl (some (.inl r.1)), r.2, 0, 0)
    refine e_steps 3 (s' := (34, [some (.inr (.inr (some (7, 0)))), some (.inr (.inr (some (4, 0)))), some (.inl a2), some (.inl a3), some (.inr (.inr (some (6, r1))))], [.inr (.inr (some (6, r1))), .inr (.inr (some (6, 3)))], m3)) rfl ?_
    obtain ⟨r4, hv, hres⟩ := mm_b1_some hres
    refine e_call0 (pc := 37) (L := [some (.inr (.inr (some (7, 0)))), some (.inr (.inr (some (4, 0)))), some (.inl a2), some (.inl a3), some (.inr (.inr (some (6, r1))))]) (st := []) (m' := m3) (v := some (.inl r4)) rfl (k_X5_looksLike d (by omega) 3 r1 _ _ hv) ?_
    show mm_E (d + 1) 124 (37, [some (.inr (.inr (some (7, 0)))), some (.inr (.inr (some (4, 0)))), some (.inl a2), some (.inl a3), some (.inr (.inr (some (6, r1))))], [.inl r4], m3) (.inl (some (.inl r.1)), r.2, 0, 0)
    refine e_gr (o := .inl (some (.inl r4))) rfl hres (fun hc hres => ?_)
    obtain rfl := Option.some.inj hres
    rfl
  · refine e_steps 1 (s' := (17, [some (.inr (.inr (some (7, 0)))), some (.inr (.inr (some (4, 0)))), some (.inl a2), some (.inl a3), some (.inr (.inr (some (6, r1))))], [.inl 1], m)) rfl ?_
    obtain rfl := Option.some.inj hres
    exact e_ret rfl rfl
/-- GlassThreads$Inquiry.keep(I)V -/
def f_X1_keep (a1 : Int32) (m : mm_M) : Option (mm_M) :=
mm_let (fun (m1 : mm_M) => (mm_let (mm_w m1 7 0 9 ((m1 7 0 9) &&& a1)) fun m3 =>
mm_let (mm_w m3 7 0 10 ((m3 7 0 10) ||| a1)) fun m4 =>
mm_let (mm_w m4 7 0 7 ((m4 7 0 7) + 1)) fun m5 =>
some m5 : Option (mm_M))) fun k2 =>
if (m 7 0 7) ≠ 0 then (k2 m)
else (mm_let (mm_w m 7 0 8 a1) fun m6 =>
mm_let (mm_w m6 7 0 9 a1) fun m7 =>
k2 m7)
set_option maxHeartbeats 4000000 in
set_option maxRecDepth 100000 in
theorem k_X1_keep (d : Nat) (hd : 0 ≤ d) (a1 : Int32) (m : mm_M) (r : mm_M) (hres : f_X1_keep a1 m = some r) : mm_X d 125 [.inr (.inr (some (7, 0))), .inl a1] m (.inl none, r, 0, 0) := by
  unfold f_X1_keep at hres
  show mm_E d 125 (0, [some (.inr (.inr (some (7, 0)))), some (.inl a1)], [], m) (.inl none, r, 0, 0)
  refine e_steps 2 (s' := (4, [some (.inr (.inr (some (7, 0)))), some (.inl a1)], [.inl (m 7 0 7)], m)) rfl ?_
  refine e_join (fun k2 => ∀ (m1 : mm_M), k2 m1 = some r → mm_E d 125 (17, [some (.inr (.inr (some (7, 0)))), some (.inl a1)], [], m1) (.inl none, r, 0, 0)) hres (fun m1 hres => ?_) (fun k2 hk2 hres => ?_)
  · refine e_steps 6 (s' := (27, [some (.inr (.inr (some (7, 0)))), some (.inl a1)], [], (mm_w m1 7 0 9 ((m1 7 0 9) &&& a1)))) rfl ?_
    refine e_let (fun (m3 : mm_M) => (27, [some (.inr (.inr (some (7, 0)))), some (.inl a1)], [], m3)) hres (fun m3 hres => ?_)
    refine e_steps 6 (s' := (37, [some (.inr (.inr (some (7, 0)))), some (.inl a1)], [], (mm_w m3 7 0 10 ((m3 7 0 10) ||| a1)))) rfl ?_
    refine e_let (fun (m4 : mm_M) => (37, [some (.inr (.inr (some (7, 0)))), some (.inl a1)], [], m4)) hres (fun m4 hres => ?_)
    refine e_steps 6 (s' := (47, [some (.inr (.inr (some (7, 0)))), some (.inl a1)], [], (mm_w m4 7 0 7 ((m4 7 0 7) + 1)))) rfl ?_
    refine e_let (fun (m5 : mm_M) => (47, [some (.inr (.inr (some (7, 0)))), some (.inl a1)], [], m5)) hres (fun m5 hres => ?_)
    obtain rfl := Option.some.inj hres
    exact e_ret rfl rfl
  · refine e_if (s1 := (17, [some (.inr (.inr (some (7, 0)))), some (.inl a1)], [], m)) (s2 := (7, [some (.inr (.inr (some (7, 0)))), some (.inl a1)], [], m)) rfl hres (fun hc hres => ?_) (fun hc hres => ?_)
    · exact e_mask (L' := [some (.inr (.inr (some (7, 0)))), some (.inl a1)]) rfl (hk2 _ hres)
    · refine e_steps 3 (s' := (12, [some (.inr (.inr (some (7, 0)))), some (.inl a1)], [], (mm_w m 7 0 8 a1))) rfl ?_
      refine e_let (fun (m6 : mm_M) => (12, [some (.inr (.inr (some (7, 0)))), some (.inl a1)], [], m6)) hres (fun m6 hres => ?_)
      refine e_steps 3 (s' := (17, [some (.inr (.inr (some (7, 0)))), some (.inl a1)], [], (mm_w m6 7 0 9 a1))) rfl ?_
      refine e_let (fun (m7 : mm_M) => (17, [some (.inr (.inr (some (7, 0)))), some (.inl a1)], [], m7)) hres (fun m7 hres => ?_)
      exact e_mask (L' := [some (.inr (.inr (some (7, 0)))), some (.inl a1)]) rfl (hk2 _ hres)
/-- GlassThreads$Inquiry.search(LGlassThreads$Scene;I)I -/
def f_X1_search (a2 : Int32) (m : mm_M) : Option (Int32 × mm_M) :=
mm_let (mm_w m 7 0 7 0) fun m1 =>
mm_let (mm_w m1 7 0 8 (-1)) fun m2 =>
mm_let (mm_w m2 7 0 9 0) fun m3 =>
mm_let (mm_w m3 7 0 10 0) fun m4 =>
(mm_b1 (mm_loop (σ := Int32 × mm_M) (ρ := (mm_M)) (fun (s : Int32 × mm_M) => match s with
| (v6, m7) => (if (1 <<< ((m7 7 0 3) &&& 31)) ≤ v6 then (some (.inr m7))
else (mm_b1 (f_X1_bend v6 m7) fun m9 =>
mm_b2 (f_X1_agrees 0 a2 m9) fun r10 m11 =>
if r10 = 0 then (mm_let (v6 + 1) fun v12 =>
some (.inl (v12, m11)))
else (mm_b2 (f_X1_agrees 1 a2 m11) fun r13 m14 =>
if r13 = 0 then (mm_let (v6 + 1) fun v15 =>
some (.inl (v15, m14)))
else (mm_b1 (f_X1_keep v6 m14) fun m17 =>
mm_let (v6 + 1) fun v18 =>
some (.inl (v18, m17))))) : Option ((Int32 × mm_M) ⊕ ((mm_M))))) mm_fu (0, m4)) fun m19 =>
some ((m19 7 0 7), m19))
set_option maxHeartbeats 4000000 in
set_option maxRecDepth 100000 in
theorem k_X1_search (d : Nat) (hd : 5 ≤ d) (a2 : Int32) (m : mm_M) (r : Int32 × mm_M) (hres : f_X1_search a2 m = some r) : mm_X d 122 [.inr (.inr (some (7, 0))), .inr (.inr (some (4, 0))), .inl a2] m (.inl (some (.inl r.1)), r.2, 0, 0) := by
  unfold f_X1_search at hres
  obtain ⟨d, rfl⟩ : ∃ e, d = e + 1 := ⟨d - 1, by omega⟩
  show mm_E (d + 1) 122 (0, [some (.inr (.inr (some (7, 0)))), some (.inr (.inr (some (4, 0)))), some (.inl a2), none], [], m) (.inl (some (.inl r.1)), r.2, 0, 0)
  refine e_steps 3 (s' := (5, [some (.inr (.inr (some (7, 0)))), some (.inr (.inr (some (4, 0)))), some (.inl a2), none], [], (mm_w m 7 0 7 0))) rfl ?_
  refine e_let (fun (m1 : mm_M) => (5, [some (.inr (.inr (some (7, 0)))), some (.inr (.inr (some (4, 0)))), some (.inl a2), none], [], m1)) hres (fun m1 hres => ?_)
  refine e_steps 3 (s' := (10, [some (.inr (.inr (some (7, 0)))), some (.inr (.inr (some (4, 0)))), some (.inl a2), none], [], (mm_w m1 7 0 8 (-1)))) rfl ?_
  refine e_let (fun (m2 : mm_M) => (10, [some (.inr (.inr (some (7, 0)))), some (.inr (.inr (some (4, 0)))), some (.inl a2), none], [], m2)) hres (fun m2 hres => ?_)
  refine e_steps 3 (s' := (15, [some (.inr (.inr (some (7, 0)))), some (.inr (.inr (some (4, 0)))), some (.inl a2), none], [], (mm_w m2 7 0 9 0))) rfl ?_
  refine e_let (fun (m3 : mm_M) => (15, [some (.inr (.inr (some (7, 0)))), some (.inr (.inr (some (4, 0)))), some (.inl a2), none], [], m3)) hres (fun m3 hres => ?_)
  refine e_steps 3 (s' := (20, [some (.inr (.inr (some (7, 0)))), some (.inr (.inr (some (4, 0)))), some (.inl a2), none], [], (mm_w m3 7 0 10 0))) rfl ?_
  refine e_let (fun (m4 : mm_M) => (20, [some (.inr (.inr (some (7, 0)))), some (.inr (.inr (some (4, 0)))), some (.inl a2), none], [], m4)) hres (fun m4 hres => ?_)
  refine e_steps 2 (s' := (22, [some (.inr (.inr (some (7, 0)))), some (.inr (.inr (some (4, 0)))), some (.inl a2), some (.inl 0)], [], m4)) rfl ?_
  refine e_mask (L' := [some (.inr (.inr (some (7, 0)))), some (.inr (.inr (some (4, 0)))), some (.inl a2), some (.inl 0)]) rfl ?_
  refine e_loopb (φ := fun s => (22, [some (.inr (.inr (some (7, 0)))), some (.inr (.inr (some (4, 0)))), some (.inl a2), some (.inl s.1)], [], s.2)) (K := fun t => mm_E (d + 1) 122 (69, [some (.inr (.inr (some (7, 0)))), none, none, none], [], t) (.inl (some (.inl r.1)), r.2, 0, 0)) hres (fun m19 hres => ?_) (fun s ol5 hres hcl5 hxl5 => ?_)
  · show mm_E (d + 1) 122 (69, [some (.inr (.inr (some (7, 0)))), none, none, none], [], m19) (.inl (some (.inl r.1)), r.2, 0, 0)
    refine e_steps 2 (s' := (73, [some (.inr (.inr (some (7, 0)))), none, none, none], [.inl (m19 7 0 7)], m19)) rfl ?_
    obtain rfl := Option.some.inj hres
    exact e_ret rfl rfl
  · obtain ⟨v6, m7⟩ := s
    show mm_E (d + 1) 122 (22, [some (.inr (.inr (some (7, 0)))), some (.inr (.inr (some (4, 0)))), some (.inl a2), some (.inl v6)], [], m7) (.inl (some (.inl r.1)), r.2, 0, 0)
    refine e_steps 5 (s' := (29, [some (.inr (.inr (some (7, 0)))), some (.inr (.inr (some (4, 0)))), some (.inl a2), some (.inl v6)], [.inl (1 <<< ((m7 7 0 3) &&& 31)), .inl v6], m7)) rfl ?_
    refine e_if (s1 := (69, [some (.inr (.inr (some (7, 0)))), some (.inr (.inr (some (4, 0)))), some (.inl a2), some (.inl v6)], [], m7)) (s2 := (32, [some (.inr (.inr (some (7, 0)))), some (.inr (.inr (some (4, 0)))), some (.inl a2), some (.inl v6)], [], m7)) rfl hres (fun hc hres => ?_) (fun hc hres => ?_)
    · obtain rfl := Option.some.inj hres
      exact e_mask (L' := [some (.inr (.inr (some (7, 0)))), none, none, none]) rfl (hxl5 _ rfl)
    · refine e_steps 3 (s' := (35, [some (.inr (.inr (some (7, 0)))), some (.inr (.inr (some (4, 0)))), some (.inl a2), some (.inl v6)], [.inl v6, .inr (.inr (some (4, 0))), .inr (.inr (some (7, 0)))], m7)) rfl ?_
      obtain ⟨m9, hv, hres⟩ := mm_b1_some hres
      refine e_call0 (pc := 38) (L := [some (.inr (.inr (some (7, 0)))), some (.inr (.inr (some (4, 0)))), some (.inl a2), some (.inl v6)]) (st := []) (m' := m9) (v := none) rfl (k_X1_bend d (by omega) v6 _ _ hv) ?_
      show mm_E (d + 1) 122 (38, [some (.inr (.inr (some (7, 0)))), some (.inr (.inr (some (4, 0)))), some (.inl a2), some (.inl v6)], [], m9) (.inl (some (.inl r.1)), r.2, 0, 0)
      refine e_steps 4 (s' := (42, [some (.inr (.inr (some (7, 0)))), some (.inr (.inr (some (4, 0)))), some (.inl a2), some (.inl v6)], [.inl a2, .inl 0, .inr (.inr (some (4, 0))), .inr (.inr (some (7, 0)))], m9)) rfl ?_
      obtain ⟨r10, m11, hv, hres⟩ := mm_b2_some hres
      refine e_call0 (pc := 45) (L := [some (.inr (.inr (some (7, 0)))), some (.inr (.inr (some (4, 0)))), some (.inl a2), some (.inl v6)]) (st := []) (m' := m11) (v := some (.inl r10)) rfl (k_X1_agrees d (by omega) 0 a2 _ _ hv) ?_
      show mm_E (d + 1) 122 (45, [some (.inr (.inr (some (7, 0)))), some (.inr (.inr (some (4, 0)))), some (.inl a2), some (.inl v6)], [.inl r10], m11) (.inl (some (.inl r.1)), r.2, 0, 0)
      refine e_if (s1 := (63, [some (.inr (.inr (some (7, 0)))), some (.inr (.inr (some (4, 0)))), some (.inl a2), some (.inl v6)], [], m11)) (s2 := (48, [some (.inr (.inr (some (7, 0)))), some (.inr (.inr (some (4, 0)))), some (.inl a2), some (.inl v6)], [], m11)) rfl hres (fun hc hres => ?_) (fun hc hres => ?_)
      · refine e_steps 1 (s' := (66, [some (.inr (.inr (some (7, 0)))), some (.inr (.inr (some (4, 0)))), some (.inl a2), some (.inl (v6 + 1))], [], m11)) rfl ?_
        refine e_let (fun (v12 : Int32) => (66, [some (.inr (.inr (some (7, 0)))), some (.inr (.inr (some (4, 0)))), some (.inl a2), some (.inl v12)], [], m11)) hres (fun v12 hres => ?_)
        refine e_steps 1 (s' := (22, [some (.inr (.inr (some (7, 0)))), some (.inr (.inr (some (4, 0)))), some (.inl a2), some (.inl v12)], [], m11)) rfl ?_
        obtain rfl := Option.some.inj hres
        exact e_mask (L' := [some (.inr (.inr (some (7, 0)))), some (.inr (.inr (some (4, 0)))), some (.inl a2), some (.inl v12)]) rfl (hcl5 _ rfl)
      · refine e_steps 4 (s' := (52, [some (.inr (.inr (some (7, 0)))), some (.inr (.inr (some (4, 0)))), some (.inl a2), some (.inl v6)], [.inl a2, .inl 1, .inr (.inr (some (4, 0))), .inr (.inr (some (7, 0)))], m11)) rfl ?_
        obtain ⟨r13, m14, hv, hres⟩ := mm_b2_some hres
        refine e_call0 (pc := 55) (L := [some (.inr (.inr (some (7, 0)))), some (.inr (.inr (some (4, 0)))), some (.inl a2), some (.inl v6)]) (st := []) (m' := m14) (v := some (.inl r13)) rfl (k_X1_agrees d (by omega) 1 a2 _ _ hv) ?_
        show mm_E (d + 1) 122 (55, [some (.inr (.inr (some (7, 0)))), some (.inr (.inr (some (4, 0)))), some (.inl a2), some (.inl v6)], [.inl r13], m14) (.inl (some (.inl r.1)), r.2, 0, 0)
        refine e_if (s1 := (63, [some (.inr (.inr (some (7, 0)))), some (.inr (.inr (some (4, 0)))), some (.inl a2), some (.inl v6)], [], m14)) (s2 := (58, [some (.inr (.inr (some (7, 0)))), some (.inr (.inr (some (4, 0)))), some (.inl a2), some (.inl v6)], [], m14)) rfl hres (fun hc hres => ?_) (fun hc hres => ?_)
        · refine e_steps 1 (s' := (66, [some (.inr (.inr (some (7, 0)))), some (.inr (.inr (some (4, 0)))), some (.inl a2), some (.inl (v6 + 1))], [], m14)) rfl ?_
          refine e_let (fun (v15 : Int32) => (66, [some (.inr (.inr (some (7, 0)))), some (.inr (.inr (some (4, 0)))), some (.inl a2), some (.inl v15)], [], m14)) hres (fun v15 hres => ?_)
          refine e_steps 1 (s' := (22, [some (.inr (.inr (some (7, 0)))), some (.inr (.inr (some (4, 0)))), some (.inl a2), some (.inl v15)], [], m14)) rfl ?_
          obtain rfl := Option.some.inj hres
          exact e_mask (L' := [some (.inr (.inr (some (7, 0)))), some (.inr (.inr (some (4, 0)))), some (.inl a2), some (.inl v15)]) rfl (hcl5 _ rfl)
        · refine e_steps 2 (s' := (60, [some (.inr (.inr (some (7, 0)))), some (.inr (.inr (some (4, 0)))), some (.inl a2), some (.inl v6)], [.inl v6, .inr (.inr (some (7, 0)))], m14)) rfl ?_
          obtain ⟨m17, hv, hres⟩ := mm_b1_some hres
          refine e_call0 (pc := 63) (L := [some (.inr (.inr (some (7, 0)))), some (.inr (.inr (some (4, 0)))), some (.inl a2), some (.inl v6)]) (st := []) (m' := m17) (v := none) rfl (k_X1_keep d (by omega) v6 _ _ hv) ?_
          show mm_E (d + 1) 122 (63, [some (.inr (.inr (some (7, 0)))), some (.inr (.inr (some (4, 0)))), some (.inl a2), some (.inl v6)], [], m17) (.inl (some (.inl r.1)), r.2, 0, 0)
          refine e_steps 1 (s' := (66, [some (.inr (.inr (some (7, 0)))), some (.inr (.inr (some (4, 0)))), some (.inl a2), some (.inl (v6 + 1))], [], m17)) rfl ?_
          refine e_let (fun (v18 : Int32) => (66, [some (.inr (.inr (some (7, 0)))), some (.inr (.inr (some (4, 0)))), some (.inl a2), some (.inl v18)], [], m17)) hres (fun v18 hres => ?_)
          refine e_steps 1 (s' := (22, [some (.inr (.inr (some (7, 0)))), some (.inr (.inr (some (4, 0)))), some (.inl a2), some (.inl v18)], [], m17)) rfl ?_
          obtain rfl := Option.some.inj hres
          exact e_mask (L' := [some (.inr (.inr (some (7, 0)))), some (.inr (.inr (some (4, 0)))), some (.inl a2), some (.inl v18)]) rfl (hcl5 _ rfl)
